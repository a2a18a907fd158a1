/-! The class: the questions -/
def z_bit (x : Int32) : Int32 := if x = 0 then 0 else 1
theorem k_asN {n : Nat} {x : Int32} {C : St} : F_X11_asNumber n x C = some (z_bit x, C) := by
  unfold F_X11_asNumber F_X11_asNumber_9 z_bit
  by_cases c : x = 0
  · rw [if_pos c, if_pos c]
  · rw [if_neg c, if_neg c]
def z_place (p : Nat) (l : List Nat) : Int32 := if p ∈ l then nI (l.idxOf p) else -1
def z_process (x1 x2 : Int32) (a : AS) : Int32 := if x1 < 0 ∨ (10 : Int32) ≤ x1 then -1 else if x2 = 0 then z_place x1.toNatClampNeg (al a 0) else if x2 = 1 then av a 10 x1.toNatClampNeg 0 else -1
theorem lt10 {x : Int32} (h1 : ¬ x < 0) (h2 : ¬ (10 : Int32) ≤ x) : ∃ r, r < 10 ∧ x = nI r := by
  obtain ⟨r, hr, e⟩ := nI_of h1
  refine ⟨r, ?_, e⟩
  subst e
  exact (nI_ltI (b := 10) hr (by decide)).mp (Int32.not_le.mp h2)
theorem k_process {n : Nat} {x1 x2 : Int32} {C : St} {a : AS} (h : RC n C a) : F_X11_process n x1 x2 C = some (z_process x1 x2 a, C) := by
  refine rn_eq ?_
  unfold F_X11_process F_X11_process_10 z_process
  refine rn_if (fun e => ?_) (fun e => rn_if (fun e2 => ?_) (fun e2 => ?_))
  · rw [if_pos (Or.inl e)]
    exact rn_ret ⟨rfl, rfl⟩
  · obtain ⟨p, hp, rfl⟩ := lt10 e (Int32.not_le.mpr e2)
    rw [if_neg (show ¬ (nI p < 0 ∨ (10 : Int32) ≤ nI p) from fun o => o.elim e (Int32.not_le.mpr e2)), show (nI p).toNatClampNeg = p from nI_clamp (by omega)]
    refine rn_if (fun e3 => ?_) (fun e3 => rn_if (fun e4 => ?_) (fun e4 => ?_))
    · rw [if_pos e3]
      have hr := h.2.2.2.1
      refine rn_bd (k_placeOf hr hp) ?_
      rintro r D ⟨rfl, hc⟩
      refine rn_ret ⟨?_, rfl⟩
      unfold z_place
      rcases hc with ⟨hm, rfl⟩ | ⟨i, hi, rfl⟩
      · rw [if_neg hm]
      · rw [if_pos (List.mem_of_getElem? hi)]
        obtain ⟨hi1, hi2⟩ := List.getElem?_eq_some_iff.mp hi
        rw [← hi2, hr.2.1.idxOf_getElem i hi1]
    · rw [if_neg e3, if_pos e4]
      exact rn_bdE (k_cause h hp) (rn_ret ⟨rfl, rfl⟩)
    · rw [if_neg e3, if_neg e4]
      exact rn_ret ⟨rfl, rfl⟩
  · rw [if_pos (Or.inr (Int32.not_lt.mp e2))]
    exact rn_ret ⟨rfl, rfl⟩
def z_tell (k : Nat) (x : Int32) (a : AS) : Int32 :=
  if x = 0 then av a 14 k 0 else if x = 1 then (if av a 14 k 0 = 3 then av a 16 k 0 else 0) else if x = 2 then av a 17 k 0 else if x = 3 then av a 18 k 0 else if x = 4 then av a 19 k 0 else if x = 5 then av a 20 k 0
  else if x = 6 then av a 27 k 0 else if x = 7 then av a 27 k 1 else if x = 8 then av a 27 k 2 else if x = 9 then av a 32 k 0 else if x = 10 then av a 36 k 0 else if x = 11 then av a 34 k 0 else if x = 12 then z_bit (av a 24 k 0) else -1
theorem k_tell {n k : Nat} {x : Int32} {C : St} {a : AS} (h : RC n C a) (hk : k < 6) : F_X5_tell n (nI k) x C = some (z_tell k x a, C) := by
  refine rn_eq ?_
  unfold F_X5_tell F_X5_tell_89 F_X8_size z_tell
  have g6 := inb_nI hk (show 6 < 2 ^ 31 by decide)
  rw [show (nI k).toNatClampNeg = k from nI_clamp (by omega), rc_14 h hk, rc_16 h hk, rc_17 h hk, rc_18 h hk, rc_19 h hk, rc_20 h hk, rc_32 h hk, rc_36 h hk, rc_34 h hk, rc_24 h hk]
  refine rn_if (fun e => ?_) (fun e0 => ?_)
  · rw [if_pos e]; exact rn_gd g6 (rn_ret ⟨rfl, rfl⟩)
  rw [if_neg e0]
  refine rn_if (fun e => ?_) (fun e0 => ?_)
  · rw [if_pos e]
    refine rn_gd g6 (rn_if (fun e5 => ?_) (fun e5 => ?_))
    · rw [if_pos e5]; exact rn_ret ⟨rfl, rfl⟩
    · rw [if_neg e5]; exact rn_ret ⟨rfl, rfl⟩
  rw [if_neg e0]
  refine rn_if (fun e => ?_) (fun e0 => ?_)
  · rw [if_pos e]; exact rn_gd g6 (rn_ret ⟨rfl, rfl⟩)
  rw [if_neg e0]
  refine rn_if (fun e => ?_) (fun e0 => ?_)
  · rw [if_pos e]; exact rn_gd g6 (rn_ret ⟨rfl, rfl⟩)
  rw [if_neg e0]
  refine rn_if (fun e => ?_) (fun e0 => ?_)
  · rw [if_pos e]; exact rn_gd g6 (rn_ret ⟨rfl, rfl⟩)
  rw [if_neg e0]
  refine rn_if (fun e => ?_) (fun e0 => ?_)
  · rw [if_pos e]; exact rn_gd g6 (rn_ret ⟨rfl, rfl⟩)
  rw [if_neg e0]
  refine rn_if (fun e => ?_) (fun e0 => ?_)
  · rw [if_pos e]; exact rn_gd g6 (rn_bdE (k_held (r := 0) h hk (by decide) rfl) (rn_ret ⟨rfl, rfl⟩))
  rw [if_neg e0]
  refine rn_if (fun e => ?_) (fun e0 => ?_)
  · rw [if_pos e]; exact rn_gd g6 (rn_bdE (k_held (r := 1) h hk (by decide) rfl) (rn_ret ⟨rfl, rfl⟩))
  rw [if_neg e0]
  refine rn_if (fun e => ?_) (fun e0 => ?_)
  · rw [if_pos e]; exact rn_gd g6 (rn_bdE (k_held (r := 2) h hk (by decide) rfl) (rn_ret ⟨rfl, rfl⟩))
  rw [if_neg e0]
  refine rn_if (fun e => ?_) (fun e0 => ?_)
  · rw [if_pos e]; exact rn_gd g6 (rn_ret ⟨rfl, rfl⟩)
  rw [if_neg e0]
  refine rn_if (fun e => ?_) (fun e0 => ?_)
  · rw [if_pos e]; exact rn_gd g6 (rn_ret ⟨rfl, rfl⟩)
  rw [if_neg e0]
  refine rn_if (fun e => ?_) (fun e0 => ?_)
  · rw [if_pos e]; exact rn_gd g6 (rn_bdE rfl (rn_ret ⟨rfl, rfl⟩))
  rw [if_neg e0]
  refine rn_if (fun e => ?_) (fun e0 => ?_)
  · rw [if_pos e]; exact rn_gd g6 (rn_bdE k_asN (rn_ret ⟨rfl, rfl⟩))
  rw [if_neg e0]
  exact rn_ret ⟨rfl, rfl⟩
def z_jobq (x1 x2 : Int32) (a : AS) : Int32 := if x1 < 0 ∨ (6 : Int32) ≤ x1 then -1 else z_tell x1.toNatClampNeg x2 a
theorem k_jobq {n : Nat} {x1 x2 : Int32} {C : St} {a : AS} (h : RC n C a) : F_X11_job n x1 x2 C = some (z_jobq x1 x2 a, C) := by
  refine rn_eq ?_
  unfold F_X11_job F_X11_job_22 z_jobq
  refine rn_bdE k_jobAt ?_
  by_cases c : x1 < 0 ∨ (6 : Int32) ≤ x1
  · rw [if_pos c, if_pos c]
    exact rn_pos (by decide) (rn_ret ⟨rfl, rfl⟩)
  · rw [if_neg c, if_neg c]
    rw [not_or] at c
    obtain ⟨k, hk, rfl⟩ := lt6 c.1 c.2
    rw [show (nI k).toNatClampNeg = k from nI_clamp (by omega)]
    exact rn_neg (nI_pos (by omega)) (rn_gd (inb_nI hk (by decide)) (rn_bdE (k_tell h hk) (rn_ret ⟨rfl, rfl⟩)))
/-- how many of the first m lines on paper bear s -/
def pcn (a : AS) (s : Int32) : Nat → Nat
  | 0 => 0
  | m + 1 => pcn a s m + if av a 77 m 0 = s then 1 else 0
theorem pcn_mono {a : AS} {s : Int32} {i j : Nat} (h : i ≤ j) : pcn a s i ≤ pcn a s j := by
  induction j with
  | zero => rw [Nat.le_zero.mp h]; exact Nat.le_refl _
  | succ j ih =>
    by_cases e : i = j + 1
    · subst e; exact Nat.le_refl _
    · have := ih (by omega)
      simp only [pcn]
      omega
theorem pcn_le {a : AS} {s : Int32} : ∀ m, pcn a s m ≤ m := by
  intro m
  induction m with
  | zero => exact Nat.le_refl _
  | succ m ih => simp only [pcn]; split <;> omega
/-- the paper of job k, among all -/
def PQ (pc : Nat) (a : AS) : Prop := av a 72 0 0 = nI pc ∧ pc ≤ 512 ∧ ∀ k, k < 6 → (av a 14 k 0 = 0 → av a 36 k 0 = 0) ∧ av a 36 k 0 = nI (nv a 36 k 0) ∧ nv a 36 k 0 ≤ 512 ∧ ∀ i, i < nv a 36 k 0 → ∃ q, q < pc ∧ av a 77 q 0 = av a 23 k 0 ∧ av a 76 q 0 = av a 35 k i ∧ pcn a (av a 23 k 0) q = i
def z_paper (x1 x2 : Int32) (a : AS) : Int32 := if x1 < 0 ∨ (6 : Int32) ≤ x1 then 0 else if x2 < 0 ∨ ¬ x2 < av a 36 x1.toNatClampNeg 0 then 0 else av a 35 x1.toNatClampNeg x2.toNatClampNeg
theorem k_paper {n pc : Nat} {x1 x2 : Int32} {C : St} {a : AS} (h : RC n C a) (hP : PQ pc a) : F_X11_paper n x1 x2 C = some (z_paper x1 x2 a, C) := by
  refine rn_eq ?_
  unfold F_X11_paper F_X11_paper_26 z_paper
  refine rn_bdE k_jobAt ?_
  by_cases c : x1 < 0 ∨ (6 : Int32) ≤ x1
  · rw [if_pos c, if_pos c]
    exact rn_pos (by decide) (rn_ret ⟨rfl, rfl⟩)
  · rw [if_neg c, if_neg c]
    rw [not_or] at c
    obtain ⟨k, hk, rfl⟩ := lt6 c.1 c.2
    have ekk : (nI k).toNatClampNeg = k := nI_clamp (by omega)
    obtain ⟨p1, p2, p3⟩ := hP
    obtain ⟨q1, q2, q3, q4⟩ := p3 k hk
    rw [ekk]
    refine rn_neg (nI_pos (by omega)) (rn_bd (P := fun r D => r = (if x2 < 0 ∨ ¬ x2 < av a 36 k 0 then 0 else av a 35 k x2.toNatClampNeg) ∧ D = C) ?_ (fun r D hh => ?_))
    · unfold F_X3_lineOnPaper F_X3_lineOnPaper_19
      rw [ekk, rc_14 h hk, rc_36 h hk]
      refine rn_gd (inb_nI hk (by decide)) (rn_if (fun e => rn_ret ⟨?_, rfl⟩) (fun e => rn_if (fun e1 => rn_ret ⟨?_, rfl⟩) (fun e1 => rn_if (fun e2 => ?_) (fun e2 => rn_ret ⟨?_, rfl⟩))))
      · rw [q1 e, if_pos]
        by_cases c0 : x2 < 0
        · exact Or.inl c0
        · exact Or.inr c0
      · rw [if_pos (Or.inl e1)]
      · rw [if_neg (fun o => o.elim e1 (fun y => y e2))]
        obtain ⟨i, hi, rfl⟩ := nI_of e1
        rw [show (nI i).toNatClampNeg = i from nI_clamp hi]
        rw [q2] at e2
        have hi2 : i < nv a 36 k 0 := by
          have hlt : nv a 36 k 0 < 2 ^ 31 := by omega
          generalize nv a 36 k 0 = u at *
          exact (nI_ltI hi hlt).mp e2
        obtain ⟨q, hq, r1, r2, r3⟩ := q4 i hi2
        have key : ∀ fu j, pc < fu + j → j ≤ q → Rn (F_X3_lineOnPaper_26 n fu (nI k) (nI i) (nI (pcn a (av a 23 k 0) j)) (nI j) C) (fun r D => r = av a 35 k i ∧ D = C) := by
          intro fu
          induction fu with
          | zero => intro j h1 h2; omega
          | succ fu ih =>
            intro j h1 h2
            unfold F_X3_lineOnPaper_26 F_X3_lineOnPaper_73
            rw [ekk, rc_72 h, p1, show (nI j).toNatClampNeg = j from nI_clamp (by omega), rc_77 h (by omega), rc_76 h (by omega), rc_23 h hk, nI_1, nI_1]
            refine rn_neg (nI_ge (by omega) (by omega)) (rn_neg (nI_ge (b := 512) (by omega) (by decide)) (rn_gd (inb_nI (by omega) (by decide)) (rn_gd (inb_nI hk (by decide)) (rn_if (fun e5 => rn_if (fun e6 => ?_) (fun e6 => ?_)) (fun e5 => ?_)))))
            · have hle := pcn_le (a := a) (s := av a 23 k 0) j
              have : pcn a (av a 23 k 0) j = i := (nI_eq (by omega) hi).mp e6
              have hjq : j = q := by
                refine Classical.byContradiction fun hne => ?_
                have hm := pcn_mono (a := a) (s := av a 23 k 0) (show j + 1 ≤ q by omega)
                simp only [pcn] at hm
                rw [if_pos e5] at hm
                omega
              subst hjq
              exact rn_ret ⟨r2, rfl⟩
            · have hjq : j ≠ q := by
                rintro rfl
                exact e6 (by rw [r3])
              have := ih (j + 1) (by omega) (by omega)
              simp only [pcn] at this
              rw [if_pos e5] at this
              exact this
            · have hjq : j ≠ q := by
                rintro rfl
                exact e5 r1
              have := ih (j + 1) (by omega) (by omega)
              simp only [pcn] at this
              rw [if_neg e5] at this
              exact this
        exact key 1000 0 (by omega) (by omega)
      · rw [if_pos (Or.inr e2)]
    · obtain ⟨rfl, rfl⟩ := hh
      exact rn_ret ⟨rfl, rfl⟩
/-- the words of job k's address x, in core or on the drum -/
def z_holder (n k : Nat) (s : Int32) (a : AS) : Int32 := if av a 45 0 0 = 1 ∧ av a 49 0 0 = nI k ∧ (av a 23 k 0 = av a 51 0 0 ∧ ¬ av a 14 k 0 = 3) ∧ av a 50 0 0 = s then av a 46 0 0 else oI (z_find n k s a)
theorem k_holder {n k : Nat} {s : Int32} {C : St} {a : AS} (h : RC n C a) (hn : n ≤ 12) (hk : k < 6) (h49 : av a 45 0 0 = 1 → okr (av a 49 0 0) 6 = true) : F_X10_holderOf n (nI k) s C = some (z_holder n k s a, C) := by
  refine rn_eq ?_
  unfold F_X10_holderOf F_X10_holderOf_39 F_X10_holderOf_40 F_X10_holderOf_61
  rw [rc_45 h, rc_49 h, rc_51 h]
  have fd : ¬ (av a 45 0 0 = 1 ∧ av a 49 0 0 = nI k ∧ (av a 23 k 0 = av a 51 0 0 ∧ ¬ av a 14 k 0 = 3) ∧ av a 50 0 0 = s) → Rn (if (0 : Int32) = 0 then (bd2 (F_X2_find n (nI k) s C) (fun r2 D3 => some (r2, D3))) else (some (C 16 0 7 0, C))) (fun r D => r = z_holder n k s a ∧ D = C) := fun hno => by
    unfold z_holder
    rw [if_neg hno]
    exact rn_pos rfl (rn_bdE (k_find h hn hk) (rn_ret ⟨rfl, rfl⟩))
  refine rn_if (fun e => rn_gd (h49 e) (rn_gd (okr_nI hk (by decide)) (rn_if (fun e2 => rn_gd (inb_nI hk (by decide)) (rn_bdE (k_isAsOf h hk) ?_)) (fun e2 => fd (fun y => e2 y.2.1))))) (fun e => fd (fun y => e y.1))
  by_cases c : av a 23 k 0 = av a 51 0 0 ∧ ¬ av a 14 k 0 = 3
  · rw [if_pos c, rc_50 h]
    refine rn_neg (by decide) (rn_if (fun e3 => ?_) (fun e3 => fd (fun y => e3 y.2.2.2)))
    refine rn_neg (by decide) (rn_ret ⟨?_, rfl⟩)
    unfold z_holder
    rw [if_pos ⟨e, e2, c, e3⟩, rc_46 h]
  · rw [if_neg c]
    exact rn_pos rfl (fd (fun y => c y.2.2.1))
def z_word (n : Nat) (x1 x2 : Int32) (a : AS) : Int32 :=
  if x1 < 0 ∨ (6 : Int32) ≤ x1 then 0
  else if av a 14 x1.toNatClampNeg 0 = 0 ∨ av a 14 x1.toNatClampNeg 0 = 3 ∨ ¬ (¬ x2 < 0 ∧ ¬ av a 22 x1.toNatClampNeg 0 * 16 ≤ x2) then 0
  else if z_holder n x1.toNatClampNeg (x2 / 16) a < 0 then av a 37 x1.toNatClampNeg x2.toNatClampNeg else av a 38 (z_holder n x1.toNatClampNeg (x2 / 16) a).toNatClampNeg (x2.toNatClampNeg % 16)
/-- what word wants -/
def WQ (n : Nat) (a : AS) : Prop := (av a 45 0 0 = 1 → okr (av a 49 0 0) 6 = true ∧ ∃ f, f < n ∧ av a 46 0 0 = nI f) ∧ ∀ k, k < 6 → ∃ g, av a 22 k 0 = nI g ∧ g ≤ 8
theorem holder_lt {n k : Nat} {s : Int32} {a : AS} (h : av a 45 0 0 = 1 → ∃ f, f < n ∧ av a 46 0 0 = nI f) (hh : ¬ z_holder n k s a < 0) : ∃ f, f < n ∧ z_holder n k s a = nI f := by
  unfold z_holder at hh ⊢
  by_cases c : av a 45 0 0 = 1 ∧ av a 49 0 0 = nI k ∧ (av a 23 k 0 = av a 51 0 0 ∧ ¬ av a 14 k 0 = 3) ∧ av a 50 0 0 = s
  · rw [if_pos c]
    exact h c.1
  · rw [if_neg c] at hh ⊢
    cases hz : z_find n k s a with
    | none =>
      rw [hz] at hh
      exact absurd (by decide) hh
    | some f => exact ⟨f, find_lt hz, rfl⟩
theorem k_word {n : Nat} {x1 x2 : Int32} {C : St} {a : AS} (h : RC n C a) (hn : n ≤ 12) (hW : WQ n a) : F_X11_word n x1 x2 C = some (z_word n x1 x2 a, C) := by
  refine rn_eq ?_
  unfold F_X11_word F_X11_word_36 F_X11_word_71 z_word
  refine rn_bdE k_jobAt ?_
  by_cases c : x1 < 0 ∨ (6 : Int32) ≤ x1
  · rw [if_pos c, if_pos c]
    exact rn_pos (by decide) (rn_ret ⟨rfl, rfl⟩)
  · rw [if_neg c, if_neg c]
    rw [not_or] at c
    obtain ⟨k, hk, rfl⟩ := lt6 c.1 c.2
    have ekk : (nI k).toNatClampNeg = k := nI_clamp (by omega)
    rw [ekk, rc_14 h hk]
    refine rn_neg (nI_pos (by omega)) (rn_gd (inb_nI hk (by decide)) (rn_if (fun e => ?_) (fun e => rn_if (fun e2 => ?_) (fun e2 => rn_bdE (k_has h hk) ?_))))
    · rw [if_pos (Or.inl e)]; exact rn_ret ⟨rfl, rfl⟩
    · rw [if_pos (Or.inr (Or.inl e2))]; exact rn_ret ⟨rfl, rfl⟩
    · by_cases c3 : ¬ x2 < 0 ∧ ¬ av a 22 k 0 * 16 ≤ x2
      · rw [if_pos c3, if_neg (show ¬ (av a 14 k 0 = 0 ∨ av a 14 k 0 = 3 ∨ ¬ (¬ x2 < 0 ∧ ¬ av a 22 k 0 * 16 ≤ x2)) from fun o => o.elim e (fun o => o.elim e2 (fun y => y c3)))]
        obtain ⟨g, hg, hg8⟩ := hW.2 k hk
        obtain ⟨m, rfl, hm⟩ := has_lt hg hg8 c3
        rw [show (nI m).toNatClampNeg = m from nI_clamp (by omega)]
        refine rn_neg (by decide) (rn_bdE (k_holder h hn hk (fun y => (hW.1 y).1)) (rn_if (fun e4 => ?_) (fun e4 => ?_)))
        · rw [if_pos e4]
          exact rn_bdE (k_onDrum h hk (by omega)) (rn_ret ⟨rfl, rfl⟩)
        · rw [if_neg e4]
          obtain ⟨f, hf, ef⟩ := holder_lt (fun y => (hW.1 y).2) e4
          rw [ef, show (nI f).toNatClampNeg = f from nI_clamp (by omega)]
          exact rn_gd (inb_nI hf (by omega)) (rn_bdE (k_read h hf (by omega) (by omega)) (rn_ret ⟨rfl, rfl⟩))
      · rw [if_neg c3, if_pos (show av a 14 k 0 = 0 ∨ av a 14 k 0 = 3 ∨ ¬ (¬ x2 < 0 ∧ ¬ av a 22 k 0 * 16 ≤ x2) from Or.inr (Or.inr c3))]
        exact rn_pos rfl (rn_ret ⟨rfl, rfl⟩)
def z_frame (n : Nat) (x1 x2 : Int32) (a : AS) : Int32 :=
  if x1 < 0 ∨ ¬ x1 < nI n then -1
  else if x2 = 0 then av a 39 x1.toNatClampNeg 0
  else if av a 39 x1.toNatClampNeg 0 < 0 then -1
  else if x2 = 1 then av a 40 x1.toNatClampNeg 0 else if x2 = 2 then z_bit (av a 42 x1.toNatClampNeg 0) else if x2 = 3 then z_bit (av a 43 x1.toNatClampNeg 0) else if x2 = 4 then av a 41 x1.toNatClampNeg 0 else -1
theorem k_ftell {n f : Nat} {x : Int32} {C : St} {a : AS} (h : RC n C a) (hn : n ≤ 12) (hf : f < n) : F_X4_tell n (nI f) x C = some (if x = 1 then av a 40 f 0 else if x = 2 then z_bit (av a 42 f 0) else if x = 3 then z_bit (av a 43 f 0) else if x = 4 then av a 41 f 0 else -1, C) := by
  refine rn_eq ?_
  unfold F_X4_tell
  have gf := inb_nI hf (show n < 2 ^ 31 by omega)
  rw [show (nI f).toNatClampNeg = f from nI_clamp (by omega), rc_40 h hf, rc_42 h hf, rc_43 h hf, rc_41 h hf]
  refine rn_if (fun e => ?_) (fun e0 => ?_)
  · rw [if_pos e]; exact rn_gd gf (rn_ret ⟨rfl, rfl⟩)
  rw [if_neg e0]
  refine rn_if (fun e => ?_) (fun e0 => ?_)
  · rw [if_pos e]; exact rn_gd gf (rn_bdE k_asN (rn_ret ⟨rfl, rfl⟩))
  rw [if_neg e0]
  refine rn_if (fun e => ?_) (fun e0 => ?_)
  · rw [if_pos e]; exact rn_gd gf (rn_bdE k_asN (rn_ret ⟨rfl, rfl⟩))
  rw [if_neg e0]
  refine rn_if (fun e => ?_) (fun e0 => ?_)
  · rw [if_pos e]; exact rn_gd gf (rn_ret ⟨rfl, rfl⟩)
  rw [if_neg e0]
  exact rn_ret ⟨rfl, rfl⟩
theorem k_frame {n : Nat} {x1 x2 : Int32} {C : St} {a : AS} (h : RC n C a) (hn : n ≤ 12) : F_X11_frame n x1 x2 C = some (z_frame n x1 x2 a, C) := by
  refine rn_eq ?_
  unfold F_X11_frame z_frame
  refine rn_bd (P := fun r D => r = z_frame n x1 x2 a ∧ D = C) ?_ (fun r D hh => ?_)
  · unfold F_X2_tell F_X2_tell_13 F_X2_tell_39 F_X2_tell_68 z_frame
    refine rn_if (fun e => ?_) (fun e => rn_if (fun e2 => ?_) (fun e2 => ?_))
    · rw [if_pos (Or.inl e)]; exact rn_ret ⟨rfl, rfl⟩
    · rw [if_neg (show ¬ (x1 < 0 ∨ ¬ x1 < nI n) from fun o => o.elim e (fun y => y e2))]
      obtain ⟨f, hf0, rfl⟩ := nI_of e
      have hf : f < n := (nI_ltI hf0 (by omega)).mp e2
      rw [show (nI f).toNatClampNeg = f from nI_clamp hf0]
      refine rn_gd (inb_nI hf (by omega)) ?_
      rcases rcf h hf with ⟨c1, c2, c3⟩ | ⟨c1, c2, c3⟩ | ⟨j, hj, c1, c2, c3⟩
      · rw [c2, c1]
        refine rn_neg (by decide) (rn_if (fun e5 => ?_) (fun e5 => ?_))
        · rw [if_pos e5]; exact rn_ret ⟨rfl, rfl⟩
        · rw [if_neg e5, if_pos (by decide)]; exact rn_ret ⟨rfl, rfl⟩
      · rw [c2, c1, c3]
        refine rn_pos rfl (rn_pos (by decide) (rn_ret ⟨?_, rfl⟩))
        by_cases e5 : x2 = 0
        · rw [if_pos e5]
        · rw [if_neg e5, if_pos (by decide)]
      · rw [c2, c1, c3]
        refine rn_pos rfl (rn_neg (nI_pos (by omega)) (rn_if (fun e5 => ?_) (fun e5 => ?_)))
        · rw [if_pos e5, show (nI j).toNatClampNeg = j from nI_clamp (by omega), k_num h hj]
          exact rn_gd (inb_nI hj (by decide)) (rn_ret ⟨rfl, rfl⟩)
        · rw [if_neg e5, if_neg (nI_pos (by omega))]
          exact rn_bdE (k_ftell h hn hf) (rn_ret ⟨rfl, rfl⟩)
    · rw [if_pos (Or.inr e2)]; exact rn_ret ⟨rfl, rfl⟩
  · obtain ⟨rfl, rfl⟩ := hh
    exact rn_ret ⟨rfl, rfl⟩
def z_about (x : Int32) (a : AS) : Int32 :=
  if x = 0 then av a 5 0 0 else if x = 1 then av a 45 0 0 else if x = 2 then z_bit (av a 52 0 0) else if x = 3 then z_bit (av a 53 0 0) else if x = 4 then av a 28 0 0 else if x = 5 then av a 28 1 0 else if x = 6 then av a 28 2 0
  else if x = 7 then av a 69 0 0 else if x = 8 then z_adm a 6 else if x = 9 then av a 44 0 0 else if x = 10 then av a 68 0 0 else -1
theorem k_about {n : Nat} {x : Int32} {C : St} {a : AS} (h : RC n C a) : F_X11_about n x C = some (z_about x a, C) := by
  refine rn_eq ?_
  unfold F_X11_about z_about
  rw [rc_5 h, rc_45 h, rc_52 h, rc_53 h, rc_69 h, rc_44 h, rc_68 h]
  refine rn_if (fun e => ?_) (fun e0 => ?_)
  · rw [if_pos e]; exact rn_ret ⟨rfl, rfl⟩
  rw [if_neg e0]
  refine rn_if (fun e => ?_) (fun e0 => ?_)
  · rw [if_pos e]; exact rn_ret ⟨rfl, rfl⟩
  rw [if_neg e0]
  refine rn_if (fun e => ?_) (fun e0 => ?_)
  · rw [if_pos e]; exact rn_bdE k_asN (rn_ret ⟨rfl, rfl⟩)
  rw [if_neg e0]
  refine rn_if (fun e => ?_) (fun e0 => ?_)
  · rw [if_pos e]; exact rn_bdE k_asN (rn_ret ⟨rfl, rfl⟩)
  rw [if_neg e0]
  refine rn_if (fun e => ?_) (fun e0 => ?_)
  · rw [if_pos e]; exact rn_bdE (k_freeOf (r := 0) h (by decide) rfl) (rn_ret ⟨rfl, rfl⟩)
  rw [if_neg e0]
  refine rn_if (fun e => ?_) (fun e0 => ?_)
  · rw [if_pos e]; exact rn_bdE (k_freeOf (r := 1) h (by decide) rfl) (rn_ret ⟨rfl, rfl⟩)
  rw [if_neg e0]
  refine rn_if (fun e => ?_) (fun e0 => ?_)
  · rw [if_pos e]; exact rn_bdE (k_freeOf (r := 2) h (by decide) rfl) (rn_ret ⟨rfl, rfl⟩)
  rw [if_neg e0]
  refine rn_if (fun e => ?_) (fun e0 => ?_)
  · rw [if_pos e]; exact rn_ret ⟨rfl, rfl⟩
  rw [if_neg e0]
  refine rn_if (fun e => ?_) (fun e0 => ?_)
  · rw [if_pos e]; exact rn_bdE (k_adm h) (rn_ret ⟨rfl, rfl⟩)
  rw [if_neg e0]
  refine rn_if (fun e => ?_) (fun e0 => ?_)
  · rw [if_pos e]; exact rn_ret ⟨rfl, rfl⟩
  rw [if_neg e0]
  refine rn_if (fun e => ?_) (fun e0 => ?_)
  · rw [if_pos e]; exact rn_ret ⟨rfl, rfl⟩
  rw [if_neg e0]
  exact rn_ret ⟨rfl, rfl⟩
def z_octet (x : Int32) (a : AS) : Int32 := if x < 0 ∨ av a 69 0 0 ≤ x ∨ (600 : Int32) ≤ x then -1 else av a 66 x.toNatClampNeg 0
theorem k_octet {n : Nat} {x : Int32} {C : St} {a : AS} (h : RC n C a) : F_X11_octet n x C = some (z_octet x a, C) := by
  refine rn_eq ?_
  unfold F_X11_octet F_X1_byteSaid F_X1_byteSaid_28 F_X1_byteSaid_29 z_octet
  rw [rc_69 h]
  refine rn_bd (P := fun r D => r = (if x < 0 ∨ av a 69 0 0 ≤ x ∨ (600 : Int32) ≤ x then -1 else av a 66 x.toNatClampNeg 0) ∧ D = C) (rn_if (fun e => ?_) (fun e => rn_if (fun e2 => ?_) (fun e2 => rn_if (fun e3 => ?_) (fun e3 => ?_)))) (fun r D hh => ?_)
  · rw [if_pos (Or.inl e)]; exact rn_ret ⟨rfl, rfl⟩
  · rw [if_pos (Or.inr (Or.inl e2))]; exact rn_ret ⟨rfl, rfl⟩
  · rw [if_pos (Or.inr (Or.inr e3))]; exact rn_ret ⟨rfl, rfl⟩
  · rw [if_neg (fun o => o.elim e (fun o => o.elim e2 e3))]
    obtain ⟨i, hi0, rfl⟩ := nI_of e
    have hi : i < 600 := Classical.byContradiction fun hh => e3 (nI_le (a := 600) (by omega) hi0)
    rw [show (nI i).toNatClampNeg = i from nI_clamp hi0, rc_66 h hi]
    exact rn_gd (inb_nI hi (by decide)) (rn_ret ⟨rfl, rfl⟩)
  · obtain ⟨rfl, rfl⟩ := hh
    exact rn_ret ⟨rfl, rfl⟩
