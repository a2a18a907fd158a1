/-! The class: the console -/
/-- the first line that waits: L bytes, at place h of the ring -/
def TX (h L : Nat) (a : AS) : Prop := h < 8 ∧ L ≤ 20 ∧ av a 73 0 0 = nI h ∧ av a 75 h 0 = nI L ∧ av a 65 0 0 = nI L ∧ ∀ i, i < L → av a 74 h i = av a 64 0 i
def z_sign (a : AS) (i : Nat) : Int32 := if i < nv a 65 0 0 then av a 64 0 i else -1
def z_dig (a : AS) (i : Nat) : Int32 := if z_sign a i < 48 then -1 else if 57 < z_sign a i then -1 else z_sign a i - 48
theorem tx65 {h L : Nat} {a : AS} (hT : TX h L a) : nv a 65 0 0 = L := by
  obtain ⟨t1, t2, t3, t4, t5, t6⟩ := hT
  unfold nv
  rw [t5, nI_clamp (by omega)]
theorem k_sign {n h L i : Nat} {C : St} {a : AS} (hR : RC n C a) (hT : TX h L a) (hi : i < 100) : F_X1_signAt n (nI i) C = some (z_sign a i, C) := by
  have e65 := tx65 hT
  obtain ⟨t1, t2, t3, t4, t5, t6⟩ := hT
  refine rn_eq ?_
  unfold F_X1_signAt F_X1_signAt_37 F_X1_signAt_38 z_sign
  rw [rc_73 hR, t3, show (nI h).toNatClampNeg = h from nI_clamp (by omega), rc_75 hR t1, t4, e65]
  refine rn_neg (nI_pos (by omega)) (rn_gd (inb_nI t1 (by decide)) ?_)
  by_cases c : i < L
  · rw [if_pos c, show (nI i).toNatClampNeg = i from nI_clamp (by omega), rc_74 hR t1 (by omega), t6 i c]
    exact rn_neg (nI_ge c (by omega)) (rn_neg (nI_ge (b := 20) (by omega) (by decide)) (rn_gd (inb_nI (by omega) (by decide)) (rn_ret ⟨rfl, rfl⟩)))
  · rw [if_neg c]
    exact rn_pos (nI_le (by omega) (by omega)) (rn_ret ⟨rfl, rfl⟩)
theorem k_dig {n h L i : Nat} {C : St} {a : AS} (hR : RC n C a) (hT : TX h L a) (hi : i < 100) : F_X1_digitAt n (nI i) C = some (z_dig a i, C) := by
  refine rn_eq ?_
  unfold F_X1_digitAt F_X1_digitAt_25 F_X1_digitAt_26 z_dig
  refine rn_bdE (k_sign hR hT hi) (rn_if (fun e => ?_) (fun e => rn_if (fun e2 => ?_) (fun e2 => ?_)))
  · rw [if_pos e]; exact rn_ret ⟨rfl, rfl⟩
  · rw [if_neg e, if_pos e2]; exact rn_ret ⟨rfl, rfl⟩
  · rw [if_neg e, if_neg e2]; exact rn_ret ⟨rfl, rfl⟩
def z_admits (n k : Nat) (a : AS) : Int32 × AS := if av a 14 k 0 = 1 ∧ 2 * (z_adm a 6 + 1) ≤ nI n then (1, z_wake k (sv 14 k 0 2 a)) else (0, a)
theorem k_admits {n k : Nat} {C : St} {a : AS} (h : RC n C a) (hk : k < 6) : Rn (F_X1_admits n (nI k) C) (fun r D => r = (z_admits n k a).1 ∧ RC n D (z_admits n k a).2) := by
  unfold F_X1_admits F_X1_admits_30 z_admits
  rw [show (nI k).toNatClampNeg = k from nI_clamp (by omega), rc_14 h hk]
  refine rn_gd (inb_nI hk (by decide)) (rn_if (fun e => rn_bdE (k_adm h) (rn_if (fun e2 => rn_st ?_) (fun e2 => ?_))) (fun e => ?_))
  · rw [if_pos ⟨e, e2⟩]
    have h2 := wc_14 (x := 2) h hk
    rw [k_num h2 hk]
    refine rn_bd (k_wake h2 (by omega)) ?_
    rintro _ D ⟨-, hD⟩
    exact rn_ret ⟨rfl, hD⟩
  · rw [if_neg (fun y => e2 y.2)]
    exact rn_ret ⟨rfl, h⟩
  · rw [if_neg (fun y => e y.1)]
    exact rn_ret ⟨rfl, h⟩
def z_cancels (k : Nat) (a : AS) : Int32 × AS := if av a 14 k 0 = 2 then (1, if av a 10 k 0 = 5 ∨ av a 10 k 0 = 6 then z_wake k (sl 2 ((al a 2).erase k) (sv 24 k 0 1 a)) else sv 24 k 0 1 a) else (0, a)
theorem k_cancels {n k : Nat} {C : St} {a : AS} (h : RC n C a) (hk : k < 6) (hN : (al a 2).Nodup) : Rn (F_X1_cancels n (nI k) C) (fun r D => r = (z_cancels k a).1 ∧ RC n D (z_cancels k a).2) := by
  unfold F_X1_cancels F_X1_cancels_38 F_X1_cancels_57 z_cancels
  rw [show (nI k).toNatClampNeg = k from nI_clamp (by omega), rc_14 h hk]
  refine rn_gd (inb_nI hk (by decide)) (rn_if (fun e => rn_st ?_) (fun e => ?_))
  · rw [if_pos e]
    have h2 := wc_24 (x := 1) h hk
    rw [k_num h2 hk]
    have lv : Rn (bd2 (F_X0_leaveRow n (nI k) (up C 6 k 18 0 1)) (fun r1 D2 => gd (inb (nI k) 6) (bd2 (F_X7_wake n (D2 6 k 0 0) D2) (fun r5 D6 => some ((1 : Int32), D6))))) (fun r D => r = 1 ∧ RC n D (z_wake k (sl 2 ((al a 2).erase k) (sv 24 k 0 1 a)))) := by
      refine rn_bd (k_leaveRow h2 hk hN) ?_
      rintro _ D ⟨-, hD⟩
      rw [k_num hD hk]
      refine rn_gd (inb_nI hk (by decide)) (rn_bd (k_wake hD (by omega)) ?_)
      rintro _ E ⟨-, hE⟩
      exact rn_ret ⟨rfl, hE⟩
    refine rn_bdE (k_cause h2 (by omega)) ?_
    rw [av_o (by decide)]
    refine rn_if (fun e2 => ?_) (fun e2 => rn_if (fun e3 => ?_) (fun e3 => ?_))
    · rw [if_pos (Or.inl e2)]; exact lv
    · rw [if_pos (Or.inr e3)]; exact lv
    · rw [if_neg (fun o => o.elim e2 e3)]
      exact rn_ret ⟨rfl, h2⟩
  · rw [if_neg e]
    exact rn_ret ⟨rfl, h⟩
def z_dsum (a : AS) : Nat → Nat → Int32 → Option Int32
  | 0, _, v => some v
  | m + 1, i, v => if z_dig a i = -1 then none else z_dsum a m (i + 1) (v * 10 + z_dig a i)
def z_start (a : AS) : Nat := if z_sign a 3 = 45 then 4 else 3
def z_rep (n k : Nat) (v : Int32) (a : AS) : AS := z_wake k (z_comp n k (av a 18 k 0 + 1) (sv 19 k 0 v a))
def z_replies (n k : Nat) (a : AS) : Int32 × AS :=
  if z_sign a 2 = 32 ∧ z_start a < nv a 65 0 0 ∧ nv a 65 0 0 ≤ z_start a + 9 ∧ av a 10 k 0 = 5 then (match z_dsum a (nv a 65 0 0 - z_start a) (z_start a) 0 with
    | none => (0, a)
    | some v => (1, z_rep n k (if z_start a = 4 then -v else v) a))
  else (0, a)
theorem k_rep77 {n h L k s : Nat} {C : St} {a : AS} (hR : RC n C a) (hn : n ≤ 12) (hT : TX h L a) (hk : k < 6) (hs : s = 3 ∨ s = 4) : ∀ m fu i v, i + m = L → m < fu → Rn (F_X1_replies_77 n fu (nI k) (nI s) 1 v (nI i) C) (fun r D => match z_dsum a m i v with
    | none => r = 0 ∧ RC n D a
    | some v => r = 1 ∧ RC n D (z_rep n k (if s = 4 then -v else v) a)) := by
  have t := hT
  obtain ⟨t1, t2, t3, t4, t5, t6⟩ := t
  have ekk : (nI k).toNatClampNeg = k := nI_clamp (by omega)
  have g6 := inb_nI hk (show 6 < 2 ^ 31 by decide)
  intro m
  induction m with
  | zero =>
    intro fu i v hi hf
    obtain ⟨fu, rfl⟩ : ∃ g, fu = g + 1 := ⟨fu - 1, by omega⟩
    unfold F_X1_replies_77 F_X1_replies_133 F_X1_replies_152 F_X1_replies_180 z_dsum
    rw [rc_73 hR, t3, show (nI h).toNatClampNeg = h from nI_clamp (by omega), rc_75 hR t1, t4, ekk]
    refine rn_neg (by decide) (rn_gd (inb_nI t1 (by decide)) (rn_pos (nI_le (by omega) (by omega)) (rn_neg (by decide) ?_)))
    have fin : ∀ x : Int32, Rn (gd (inb (nI k) 6) (st (up C 6 k 13 0 x) (fun D2 => gd (inb (nI k) 6) (bd2 (F_X2_complete n (nI k) ((D2 6 k 12 0) + (1 : Int32)) D2) (fun r5 D6 => bd2 (F_X7_wake n (D6 6 k 0 0) D6) (fun r8 D9 => gd (isb 1) (some ((1 : Int32), D9)))))))) (fun r D => r = 1 ∧ RC n D (z_rep n k x a)) := by
      intro x
      refine rn_gd g6 (rn_st ?_)
      have h2 := wc_19 (x := x) hR hk
      rw [rc_18 h2 hk, av_o (by decide)]
      refine rn_gd g6 (rn_bd (k_comp h2 hn hk) ?_)
      rintro _ D ⟨-, hD⟩
      rw [k_num hD hk]
      refine rn_bd (k_wake hD (by omega)) ?_
      rintro _ E ⟨-, hE⟩
      exact rn_gd rfl (rn_ret ⟨rfl, hE⟩)
    rcases hs with rfl | rfl
    · refine rn_neg (by decide) ?_
      simp only
      rw [if_neg (by decide)]
      exact fin v
    · refine rn_pos (by decide) ?_
      simp only
      rw [if_pos trivial]
      exact fin (-v)
  | succ m ih =>
    intro fu i v hi hf
    obtain ⟨fu, rfl⟩ : ∃ g, fu = g + 1 := ⟨fu - 1, by omega⟩
    unfold F_X1_replies_77 F_X1_replies_111
    rw [rc_73 hR, t3, show (nI h).toNatClampNeg = h from nI_clamp (by omega), rc_75 hR t1, t4]
    refine rn_neg (by decide) (rn_gd (inb_nI t1 (by decide)) (rn_neg (nI_ge (by omega) (by omega)) (rn_bdE (k_dig hR hT (by omega)) ?_)))
    rw [z_dsum]
    refine rn_if (fun e => ?_) (fun e => ?_)
    · rw [if_pos e]
      refine rn_bdE (k_dig hR hT (by omega)) ?_
      obtain ⟨fu, rfl⟩ : ∃ g, fu = g + 1 := ⟨fu - 1, by omega⟩
      unfold F_X1_replies_77 F_X1_replies_133 F_X1_replies_180
      exact rn_pos rfl (rn_pos rfl (rn_gd rfl (rn_ret ⟨rfl, hR⟩)))
    · rw [if_neg e]
      refine rn_bdE (k_dig hR hT (by omega)) ?_
      rw [nI_1]
      exact ih fu (i + 1) _ (by omega) (by omega)
theorem k_rep69 {n h L k s : Nat} {C : St} {a : AS} (hR : RC n C a) : Rn (F_X1_replies_69 n (nI k) (nI s) 0 C) (fun r D => r = 0 ∧ RC n D a) := by
  unfold F_X1_replies_69
  have : F_X1_replies_77 n 1000 (nI k) (nI s) 0 0 (nI s) C = F_X1_replies_133 n (nI k) (nI s) 0 0 C := by
    rw [F_X1_replies_77]
    rw [if_pos rfl]
  rw [this]
  unfold F_X1_replies_133 F_X1_replies_180
  exact rn_pos rfl (rn_gd rfl (rn_ret ⟨rfl, hR⟩))
theorem k_replies {n h L k : Nat} {C : St} {a : AS} (hR : RC n C a) (hn : n ≤ 12) (hT : TX h L a) (hk : k < 6) : Rn (F_X1_replies n (nI k) C) (fun r D => r = (z_replies n k a).1 ∧ RC n D (z_replies n k a).2) := by
  have t := hT
  obtain ⟨t1, t2, t3, t4, t5, t6⟩ := t
  have e65 := tx65 hT
  unfold F_X1_replies
  have ekk : (nI k).toNatClampNeg = k := nI_clamp (by omega)
  have key : ∀ s, s = z_start a → Rn (F_X1_replies_15 n (nI k) (nI s) C) (fun r D => r = (z_replies n k a).1 ∧ RC n D (z_replies n k a).2) := by
    intro s hs
    have hs34 : s = 3 ∨ s = 4 := by
      rw [hs]
      unfold z_start
      split
      · exact Or.inr rfl
      · exact Or.inl rfl
    unfold F_X1_replies_15 F_X1_replies_68 z_replies
    rw [← hs, e65, rc_73 hR, t3, show (nI h).toNatClampNeg = h from nI_clamp (by omega), rc_75 hR t1, t4, ekk]
    refine rn_gd (inb_nI t1 (by decide)) (rn_bdE (k_sign (i := 2) hR hT (by decide)) (rn_if (fun e => ?_) (fun e => ?_)))
    · by_cases c1 : s < L
      · rw [nI_sub (by omega)]
        by_cases c2 : L ≤ s + 9
        · refine rn_neg (show ¬ nI (L - s) < nI 1 from nI_nlt (by omega) (by omega)) (rn_neg (show ¬ nI 9 < nI (L - s) from nI_nlt (by omega) (by omega)) (rn_gd (inb_nI hk (by decide)) ?_))
          rw [k_num hR hk]
          refine rn_bdE (k_cause hR (by omega)) (rn_if (fun e5 => ?_) (fun e5 => ?_))
          · rw [if_pos ⟨e, c1, c2, e5⟩]
            unfold F_X1_replies_69
            refine rn_mono (k_rep77 hR hn hT hk hs34 (L - s) 1000 s 0 (by omega) (by omega)) ?_
            intro r D hh
            revert hh
            cases z_dsum a (L - s) s 0 with
            | none => exact fun hh => hh
            | some v => exact fun hh => hh
          · rw [if_neg (fun y => e5 y.2.2.2)]
            exact k_rep69 (h := h) (L := L) hR
        · rw [if_neg (show ¬ (z_sign a 2 = 32 ∧ s < L ∧ L ≤ s + 9 ∧ av a 10 k 0 = 5) from fun y => c2 y.2.2.1)]
          refine rn_neg (show ¬ nI (L - s) < nI 1 from nI_nlt (by omega) (by omega)) (rn_pos (show nI 9 < nI (L - s) from nI_lt (by omega) (by omega)) (k_rep69 (h := h) (L := L) hR))
      · rw [if_neg (show ¬ (z_sign a 2 = 32 ∧ s < L ∧ L ≤ s + 9 ∧ av a 10 k 0 = 5) from fun y => c1 y.2.1)]
        have : nI L - nI s < 1 := by
          have key : ∀ L, L ≤ 4 → ∀ s, s = 3 ∨ s = 4 → L ≤ s → nI L - nI s < 1 := by
            intro L hL s hs hLs
            rcases hs with rfl | rfl
            · have : L = 0 ∨ L = 1 ∨ L = 2 ∨ L = 3 := by omega
              rcases this with rfl | rfl | rfl | rfl <;> decide
            · have : L = 0 ∨ L = 1 ∨ L = 2 ∨ L = 3 ∨ L = 4 := by omega
              rcases this with rfl | rfl | rfl | rfl | rfl <;> decide
          exact key L (by omega) s hs34 (by omega)
        exact rn_pos this (k_rep69 (h := h) (L := L) hR)
    · rw [if_neg (fun y => e y.1)]
      exact k_rep69 (h := h) (L := L) hR
  refine rn_bdE (k_sign (i := 3) hR hT (by decide)) (rn_if (fun e => ?_) (fun e => ?_))
  · exact key 4 (by unfold z_start; rw [if_pos e])
  · exact key 3 (by unfold z_start; rw [if_neg e])
def z_obeys (n : Nat) (a : AS) : Int32 × AS :=
  if z_dig a 1 < 0 ∨ (6 : Int32) ≤ z_dig a 1 then (0, a)
  else if z_sign a 0 = 65 then (if nv a 65 0 0 = 2 then z_admits n (z_dig a 1).toNatClampNeg a else (0, a))
  else if z_sign a 0 = 67 then (if nv a 65 0 0 = 2 then z_cancels (z_dig a 1).toNatClampNeg a else (0, a))
  else if z_sign a 0 = 82 then z_replies n (z_dig a 1).toNatClampNeg a
  else (0, a)
theorem bool_admits {n k : Nat} {a : AS} : (z_admits n k a).1 = 0 ∨ (z_admits n k a).1 = 1 := by
  unfold z_admits
  split
  · exact Or.inr rfl
  · exact Or.inl rfl
theorem bool_cancels {k : Nat} {a : AS} : (z_cancels k a).1 = 0 ∨ (z_cancels k a).1 = 1 := by
  unfold z_cancels
  split
  · exact Or.inr rfl
  · exact Or.inl rfl
theorem bool_replies {n k : Nat} {a : AS} : (z_replies n k a).1 = 0 ∨ (z_replies n k a).1 = 1 := by
  unfold z_replies
  split
  · split
    · exact Or.inl rfl
    · exact Or.inr rfl
  · exact Or.inl rfl
theorem isb_of {x : Int32} (h : x = 0 ∨ x = 1) : isb x = true := by
  rcases h with rfl | rfl <;> rfl
theorem lt6 {x : Int32} (h1 : ¬ x < 0) (h2 : ¬ (6 : Int32) ≤ x) : ∃ r, r < 6 ∧ x = nI r := by
  obtain ⟨r, hr, e⟩ := nI_of h1
  refine ⟨r, ?_, e⟩
  subst e
  exact (nI_ltI (b := 6) hr (by decide)).mp (Int32.not_le.mp h2)
theorem k_jobAt {n : Nat} {x : Int32} {C : St} : F_X11_jobAt n x C = some (if x < 0 ∨ (6 : Int32) ≤ x then -1 else x, C) := by
  refine rn_eq ?_
  unfold F_X11_jobAt F_X11_jobAt_16 F_X11_jobAt_17
  refine rn_if (fun e => ?_) (fun e => rn_if (fun e2 => ?_) (fun e2 => ?_))
  · rw [if_pos (Or.inl e)]; exact rn_ret ⟨rfl, rfl⟩
  · rw [if_pos (Or.inr e2)]; exact rn_ret ⟨rfl, rfl⟩
  · rw [if_neg (fun o => o.elim e e2)]
    obtain ⟨r, hr, rfl⟩ := lt6 e e2
    exact rn_gd (inb_nI hr (by decide)) (rn_ret ⟨rfl, rfl⟩)
theorem k_obeys {n h L : Nat} {C : St} {a : AS} (hR : RC n C a) (hn : n ≤ 12) (hT : TX h L a) (hN : (al a 2).Nodup) : Rn (F_X1_obeys n C) (fun r D => r = (z_obeys n a).1 ∧ RC n D (z_obeys n a).2) := by
  have t := hT
  obtain ⟨t1, t2, t3, t4, t5, t6⟩ := t
  have e65 := tx65 hT
  unfold F_X1_obeys z_obeys
  refine rn_bdE (k_dig (i := 1) hR hT (by decide)) (rn_bdE k_jobAt ?_)
  by_cases c : z_dig a 1 < 0 ∨ (6 : Int32) ≤ z_dig a 1
  · rw [if_pos c, if_pos c]
    exact rn_pos (by decide) (rn_ret ⟨rfl, hR⟩)
  · rw [if_neg c, if_neg c]
    rw [not_or] at c
    obtain ⟨k, hk, ek⟩ := lt6 c.1 c.2
    rw [ek, show (nI k).toNatClampNeg = k from nI_clamp (by omega), rc_73 hR, t3, show (nI h).toNatClampNeg = h from nI_clamp (by omega), rc_75 hR t1, t4, e65]
    refine rn_neg (nI_pos (by omega)) (rn_gd (inb_nI t1 (by decide)) ?_)
    have key : ∀ x : Int32, (x = if L = 2 then 1 else 0) → Rn (F_X1_obeys_37 n (nI k) x C) (fun r D => r = (if z_sign a 0 = 65 then (if L = 2 then z_admits n k a else (0, a)) else if z_sign a 0 = 67 then (if L = 2 then z_cancels k a else (0, a)) else if z_sign a 0 = 82 then z_replies n k a else (0, a)).1 ∧ RC n D (if z_sign a 0 = 65 then (if L = 2 then z_admits n k a else (0, a)) else if z_sign a 0 = 67 then (if L = 2 then z_cancels k a else (0, a)) else if z_sign a 0 = 82 then z_replies n k a else (0, a)).2) := by
      intro x hx
      unfold F_X1_obeys_37 F_X1_obeys_92 F_X1_obeys_93 F_X1_obeys_110 F_X1_obeys_111
      refine rn_bdE (k_sign (i := 0) hR hT (by decide)) (rn_if (fun e => ?_) (fun e => rn_if (fun e2 => ?_) (fun e2 => rn_if (fun e3 => ?_) (fun e3 => ?_))))
      · rw [if_pos e]
        by_cases c2 : L = 2
        · rw [if_pos c2] at hx ⊢
          subst hx
          refine rn_neg (by decide) (rn_bd (k_admits hR hk) ?_)
          rintro _ D ⟨rfl, hD⟩
          rcases bool_admits (n := n) (k := k) (a := a) with e5 | e5
          · exact rn_pos e5 (rn_gd rfl (rn_ret ⟨e5.symm, hD⟩))
          · exact rn_neg (by rw [e5]; decide) (rn_gd rfl (rn_ret ⟨e5.symm, hD⟩))
        · rw [if_neg c2] at hx ⊢
          subst hx
          exact rn_pos rfl (rn_gd rfl (rn_ret ⟨rfl, hR⟩))
      · rw [if_neg e, if_pos e2]
        by_cases c2 : L = 2
        · rw [if_pos c2] at hx ⊢
          subst hx
          refine rn_neg (by decide) (rn_bd (k_cancels hR hk hN) ?_)
          rintro _ D ⟨rfl, hD⟩
          rcases bool_cancels (k := k) (a := a) with e5 | e5
          · exact rn_pos e5 (rn_gd rfl (rn_ret ⟨e5.symm, hD⟩))
          · exact rn_neg (by rw [e5]; decide) (rn_gd rfl (rn_ret ⟨e5.symm, hD⟩))
        · rw [if_neg c2] at hx ⊢
          subst hx
          exact rn_pos rfl (rn_gd rfl (rn_ret ⟨rfl, hR⟩))
      · rw [if_neg e, if_neg e2, if_pos e3]
        refine rn_bd (k_replies hR hn hT hk) ?_
        rintro _ D ⟨rfl, hD⟩
        exact rn_gd (isb_of bool_replies) (rn_ret ⟨rfl, hD⟩)
      · rw [if_neg e, if_neg e2, if_neg e3]
        exact rn_ret ⟨rfl, hR⟩
    refine rn_if (fun e => key 1 ?_) (fun e => key 0 ?_)
    · rw [if_pos ((nI_eq (b := 2) (by omega) (by decide)).mp e)]
    · rw [if_neg (fun y => e (by rw [y]; rfl))]
theorem vo_obeys {n : Nat} {a : AS} {g b c : Nat} (h1 : g ≠ 10) (h2 : g ≠ 14) (h3 : g ≠ 24) (h4 : g ≠ 19) (h5 : g ≠ 17) (h6 : g ≠ 18) (h7 : g ≠ 43) : av (z_obeys n a).2 g b c = av a g b c := by
  have e1 : ∀ k, av (z_admits n k a).2 g b c = av a g b c := fun k => by
    unfold z_admits
    split
    · simp only; rw [vo_wake h1, av_o h2]
    · rfl
  have e2 : ∀ k, av (z_cancels k a).2 g b c = av a g b c := fun k => by
    unfold z_cancels
    split
    · simp only
      split
      · rw [vo_wake h1, av_sl, av_o h3]
      · rw [av_o h3]
    · rfl
  have e3 : ∀ k, av (z_replies n k a).2 g b c = av a g b c := fun k => by
    unfold z_replies
    split
    · split
      · rfl
      · simp only; unfold z_rep; rw [vo_wake h1, vo_comp h7 h6 h5, av_o h4]
    · rfl
  unfold z_obeys
  split
  · rfl
  · split
    · split
      · exact e1 _
      · rfl
    · split
      · split
        · exact e2 _
        · rfl
      · split
        · exact e3 _
        · rfl
/-- the first line goes: in the ring and in the shifted rows -/
def z_pop (a : AS) : AS := sv 68 0 0 (av a 68 0 0 - 1) (sv 73 0 0 (nI ((nv a 73 0 0 + 1) % 8)) (fun g b c => if g = 65 ∧ c = 0 ∧ b + 1 < nv a 68 0 0 then a.1 65 (b + 1) 0 else if g = 64 ∧ b + 1 < nv a 68 0 0 ∧ c < 20 then a.1 64 (b + 1) c else a.1 g b c, a.2))
def z_said (n : Nat) (a : AS) : AS := if (z_obeys n a).1 = 0 then z_say 10 (z_say 63 (z_obeys n a).2) else (z_obeys n a).2
def z_cons (n : Nat) (a : AS) : AS := z_p 6 (z_pop (z_said n a))
theorem k_st26 {n h : Nat} {C : St} {a : AS} (hR : RC n C a) (hh : av a 73 0 0 = nI h) (h8 : h < 8) : Rn (F_X1_step_26 n C) (fun r D => r = 0 ∧ RC n D (z_p 6 (z_pop a))) := by
  unfold F_X1_step_26 F_X1_step_51
  rw [rc_73 hR, hh, nI_1]
  refine rn_bdE (k_fm8 (by omega)) (rn_st ?_)
  have h0 : RC n C (fun g b c => if g = 65 ∧ c = 0 ∧ b + 1 < nv a 68 0 0 then a.1 65 (b + 1) 0 else if g = 64 ∧ b + 1 < nv a 68 0 0 ∧ c < 20 then a.1 64 (b + 1) c else a.1 g b c, a.2) := by
    refine wCa hR (fun g b c _ x2 x3 => ?_) (fun q => rfl)
    show (if g = 65 ∧ c = 0 ∧ b + 1 < nv a 68 0 0 then a.1 65 (b + 1) 0 else if g = 64 ∧ b + 1 < nv a 68 0 0 ∧ c < 20 then a.1 64 (b + 1) c else a.1 g b c) = a.1 g b c
    rw [if_neg (fun y => x3 y.1), if_neg (fun y => x2 y.1)]
  have e68 : av (fun g b c => if g = 65 ∧ c = 0 ∧ b + 1 < nv a 68 0 0 then a.1 65 (b + 1) 0 else if g = 64 ∧ b + 1 < nv a 68 0 0 ∧ c < 20 then a.1 64 (b + 1) c else a.1 g b c, a.2) 68 0 0 = av a 68 0 0 := rfl
  have h1 := wc_73 (x := nI ((h + 1) % 8)) h0
  rw [rc_68 h1, av_o (by decide), e68]
  have e73 : nv a 73 0 0 = h := by unfold nv; rw [hh, nI_clamp (by omega)]
  refine rn_st (rn_bd (k_p (s := 6) (wc_68 h1) (by decide)) ?_)
  rintro _ D ⟨-, hD⟩
  refine rn_ret ⟨rfl, ?_⟩
  unfold z_pop
  rw [e73]
  exact hD
theorem k_cons {n h L m : Nat} {C : St} {a : AS} (hR : RC n C a) (hn : n ≤ 12) (hT : TX h L a) (hN : (al a 2).Nodup) (h68 : ¬ av a 68 0 0 ≤ 0) (hm : av a 69 0 0 = nI m) (hm2 : m < 2 ^ 29) : Rn (F_X1_step n C) (fun r D => r = 0 ∧ RC n D (z_cons n a)) := by
  unfold F_X1_step z_cons z_said
  rw [rc_68 hR]
  refine rn_neg h68 (rn_bd (k_obeys hR hn hT hN) ?_)
  rintro _ D ⟨rfl, hD⟩
  have h69 : av (z_obeys n a).2 69 0 0 = nI m := by rw [vo_obeys (by decide) (by decide) (by decide) (by decide) (by decide) (by decide) (by decide)]; exact hm
  have h73 : av (z_obeys n a).2 73 0 0 = nI h := by rw [vo_obeys (by decide) (by decide) (by decide) (by decide) (by decide) (by decide) (by decide)]; exact hT.2.2.1
  refine rn_if (fun e => ?_) (fun e => ?_)
  · rw [if_pos e]
    refine rn_bd (k_sayz (y := 63) hD h69 (by omega) rfl (by decide)) ?_
    rintro _ E ⟨-, hE⟩
    refine rn_bd (k_sayz (y := 10) hE (say69 h69) (by omega) rfl (by decide)) ?_
    rintro _ G ⟨-, hG⟩
    refine k_st26 hG ?_ hT.1
    rw [vo_say (by decide) (by decide), vo_say (by decide) (by decide)]
    exact h73
  · rw [if_neg e]
    exact k_st26 hD h73 hT.1
