/-! The reference: an order of jobs is looked for over all sets -/
def bl (s : Nat) : List Nat := (List.range 6).filter (fun j => s.testBit j)
theorem mem_bl {s j : Nat} : j ∈ bl s ↔ j < 6 ∧ s.testBit j = true := by
  unfold bl
  rw [List.mem_filter, List.mem_range]
theorem smn_ext {a : AS} {l t : List Nat} {r : Nat} : ∀ m, (∀ j, j < m → (j ∈ l ↔ j ∈ t)) → smn a l r m = smn a t r m := by
  intro m
  induction m with
  | zero => intro _; rfl
  | succ m ih =>
    intro h
    simp only [smn]
    rw [ih (fun j hj => h j (by omega))]
    have := h m (by omega)
    by_cases c : m ∈ l
    · rw [if_pos c, if_pos (this.mp c)]
    · rw [if_neg c, if_neg (fun y => c (this.mpr y))]
theorem fits_ext {a : AS} {l t : List Nat} {k : Nat} (h : ∀ j, j < 6 → (j ∈ l ↔ j ∈ t)) : fits a l k ↔ fits a t k := by
  unfold fits
  constructor
  · intro hf r hr
    rw [← smn_ext 6 h]; exact hf r hr
  · intro hf r hr
    rw [smn_ext 6 h]; exact hf r hr
def RS (a : AS) (s : Nat) : Prop := ∃ l, okS a l ∧ ∀ j, j < 6 → (s.testBit j = true ↔ j ∈ l)
def ext (a : AS) (u k t : Nat) : Prop := av a 14 k 0 = 2 ∧ u.testBit k = false ∧ fits a (bl u) k ∧ t = u ||| 2 ^ k
theorem bits1a : ∀ s, s < 64 → ∀ k, k < 6 → s.testBit k = true → ((s ^^^ 2 ^ k) < s ∧ (s ^^^ 2 ^ k).testBit k = false ∧ s = ((s ^^^ 2 ^ k) ||| 2 ^ k)) := by decide +kernel
theorem bits1b : ∀ s, s < 64 → ∀ k, k < 6 → ∀ j, j < 6 → (s ^^^ 2 ^ k).testBit j = if j = k then !(s.testBit j) else s.testBit j := by decide +kernel
theorem bits2a : ∀ s, s < 64 → ∀ k, k < 6 → s.testBit k = false → (s < (s ||| 2 ^ k) ∧ (s ||| 2 ^ k) < 64) := by decide +kernel
theorem bits2b : ∀ s, s < 64 → ∀ k, k < 6 → ∀ j, j < 6 → (s ||| 2 ^ k).testBit j = if j = k then true else s.testBit j := by decide +kernel
theorem bits1 (s : Nat) (hs : s < 64) (k : Nat) (hk : k < 6) (h : s.testBit k = true) : (s ^^^ 2 ^ k) < s ∧ (s ^^^ 2 ^ k).testBit k = false ∧ s = (s ^^^ 2 ^ k) ||| 2 ^ k ∧ ∀ j, j < 6 → ((s ^^^ 2 ^ k).testBit j = true ↔ j ≠ k ∧ s.testBit j = true) := by
  obtain ⟨h1, h2, h3⟩ := bits1a s hs k hk h
  refine ⟨h1, h2, h3, fun j hj => ?_⟩
  rw [bits1b s hs k hk j hj]
  by_cases e : j = k
  · subst e
    simp [h]
  · simp [e]
theorem bits2 (s : Nat) (hs : s < 64) (k : Nat) (hk : k < 6) (h : s.testBit k = false) : s < (s ||| 2 ^ k) ∧ (s ||| 2 ^ k) < 64 ∧ ∀ j, j < 6 → ((s ||| 2 ^ k).testBit j = true ↔ j = k ∨ s.testBit j = true) := by
  obtain ⟨h1, h2⟩ := bits2a s hs k hk h
  refine ⟨h1, h2, fun j hj => ?_⟩
  rw [bits2b s hs k hk j hj]
  by_cases e : j = k
  · simp [e]
  · simp [e]
theorem bits0 : ∀ s, s < 64 → (∀ j, j < 6 → s.testBit j = false) → s = 0 := by decide +kernel
theorem RS_step {a : AS} {s : Nat} (hs : s < 64) : RS a s ↔ s = 0 ∨ ∃ u k, u < s ∧ k < 6 ∧ RS a u ∧ ext a u k s := by
  constructor
  · rintro ⟨l, hl, hb⟩
    cases l with
    | nil =>
      refine Or.inl (bits0 s hs (fun j hj => ?_))
      have := hb j hj
      cases h : s.testBit j with
      | false => rfl
      | true => exact absurd (this.mp h) List.not_mem_nil
    | cons k l =>
      obtain ⟨o1, o2, o3, o4, o5⟩ := hl
      have hk := (hb k o2).mpr List.mem_cons_self
      obtain ⟨b1, b2, b3, b4⟩ := bits1 s hs k o2 hk
      have hu : ∀ j, j < 6 → ((s ^^^ 2 ^ k).testBit j = true ↔ j ∈ l) := by
        intro j hj
        rw [b4 j hj, hb j hj]
        constructor
        · rintro ⟨x1, x2⟩
          exact (List.mem_cons.mp x2).resolve_left x1
        · intro x
          exact ⟨fun e => o4 (e ▸ x), List.mem_cons_of_mem _ x⟩
      refine Or.inr ⟨s ^^^ 2 ^ k, k, b1, o2, ⟨l, o1, hu⟩, o3, b2, ?_, b3⟩
      refine (fits_ext (fun j hj => ?_)).mp o5
      rw [mem_bl, hu j hj]
      exact ⟨fun x => ⟨hj, x⟩, fun x => x.2⟩
  · rintro (rfl | ⟨u, k, hu, hk, ⟨l, hl, hb⟩, e1, e2, e3, rfl⟩)
    · exact ⟨[], trivial, fun j hj => by simp⟩
    · have hu64 : u < 64 := by omega
      obtain ⟨b1, b2, b3⟩ := bits2 u hu64 k hk e2
      have hkl : k ∉ l := fun x => by
        have := (hb k hk).mpr x
        rw [e2] at this
        cases this
      refine ⟨k :: l, ⟨hl, hk, e1, hkl, ?_⟩, fun j hj => ?_⟩
      · refine (fits_ext (fun j hj => ?_)).mp e3
        rw [mem_bl, hb j hj]
        exact ⟨fun x => x.2, fun x => ⟨hj, x⟩⟩
      · rw [b3 j hj, hb j hj, List.mem_cons]
def am (a : AS) : Nat → Nat
  | 0 => 0
  | j + 1 => am a j + if av a 14 j 0 = 2 then 2 ^ j else 0
theorem am_lt (a : AS) : ∀ j, am a j < 2 ^ j := by
  intro j
  induction j with
  | zero => simp [am]
  | succ j ih =>
    simp only [am]
    have : 2 ^ (j + 1) = 2 ^ j + 2 ^ j := by rw [Nat.pow_succ]; omega
    rw [this]
    split <;> omega
theorem am_bit (a : AS) : ∀ m j, j < m → ((am a m).testBit j = true ↔ av a 14 j 0 = 2) := by
  intro m
  induction m with
  | zero => intro j hj; omega
  | succ m ih =>
    intro j hj
    have hlt := am_lt a m
    simp only [am]
    by_cases c : av a 14 m 0 = 2
    · rw [if_pos c, Nat.add_comm]
      by_cases e : j = m
      · subst e
        rw [Nat.testBit_two_pow_add_eq, Nat.testBit_lt_two_pow hlt]
        simp [c]
      · rw [Nat.testBit_two_pow_add_gt (by omega)]
        exact ih j (by omega)
    · rw [if_neg c, Nat.add_zero]
      by_cases e : j = m
      · subst e
        rw [Nat.testBit_lt_two_pow hlt]
        simp [c]
      · exact ih j (by omega)
theorem RS_all (a : AS) : RS a (am a 6) ↔ z_safe a := by
  constructor
  · rintro ⟨l, hl, hb⟩
    exact ⟨l, hl, fun k hk h14 => (hb k hk).mp ((am_bit a 6 k hk).mpr h14)⟩
  · rintro ⟨l, hl, hb⟩
    refine ⟨l, hl, fun j hj => ?_⟩
    rw [am_bit a 6 j hj]
    refine ⟨hb j hj, fun hm => ?_⟩
    clear hb
    induction l with
    | nil => cases hm
    | cons k l ih =>
      obtain ⟨o1, o2, o3, o4, o5⟩ := hl
      rcases List.mem_cons.mp hm with rfl | hm
      · exact o3
      · exact ih o1 hm
theorem RR_170 {n : Nat} {hd : Option Nat} {R D : St} {a : AS} (h : RR n hd R a) (e : ∀ q b k c, q ≠ 170 → D q b k c = R q b k c) : RR n hd D a := by
  obtain ⟨g1, g2, g3, g4, g5, g6, g7, g8, g9, g10, g11, g12⟩ := h
  refine ⟨?_, RRh_eq g2 (e _ _ _ _ (by decide)) (e _ _ _ _ (by decide)) (fun c => e _ _ _ _ (by decide)) (fun c => e _ _ _ _ (by decide)) rfl rfl, RRs_eq g3 (fun c => e _ _ _ _ (by decide)) (fun _ => rfl), (e _ _ _ _ (by decide)).trans g4, RRt_eq g5 (fun c => e _ _ _ _ (by decide)) rfl rfl rfl, RRe_eq g6 (fun c => e _ _ _ _ (by decide)) (fun c => e _ _ _ _ (by decide)) (fun _ => rfl) (fun _ => rfl), RRg_eq g7 (e _ _ _ _ (by decide)) (fun c => e _ _ _ _ (by decide)) (fun c => e _ _ _ _ (by decide)) rfl (fun _ => rfl), RRa_eq g8 (e _ _ _ _ (by decide)) (fun c => e _ _ _ _ (by decide)) (fun c => e _ _ _ _ (by decide)) rfl (fun _ => rfl), RRc_eq g9 (e _ _ _ _ (by decide)) (fun c => e _ _ _ _ (by decide)) rfl, RRf_eq g10 (fun c => e _ _ _ _ (by decide)) (fun c => e _ _ _ _ (by decide)) (fun _ => rfl) (fun _ => rfl) (fun _ => rfl), RRm_eq g11 (fun k _ => e _ _ _ _ (by decide)) (fun _ _ _ => rfl), RRj_eq g12 (e _ _ _ _ (by decide)) (e _ _ _ _ (by decide)) rfl rfl⟩
  intro f i j ho
  rw [← g1 f i j ho]
  have e1 := nvR_ok ho
  have e2 := okR_lt ho
  unfold atC
  refine e _ _ _ _ ?_
  intro hh
  have : (nvR (adR f i j)).1 = 80 := by
    unfold nvR
    simp [hh]
  rw [e1] at this
  simp only at this
  omega
theorem bitI : ∀ m, m < 64 → ∀ j, j < 6 → (((nI m >>> (nI j &&& 31)) &&& (1 : Int32)) = if m.testBit j = true then 1 else 0) := by decide +kernel
theorem orI : ∀ m, m < 64 → ∀ j, j < 6 → (nI m ||| ((1 : Int32) <<< (nI j &&& 31))) = nI (m ||| 2 ^ j) := by decide +kernel
theorem addI : ∀ m, m < 64 → ∀ j, j < 6 → m < 2 ^ j → (m ||| 2 ^ j) = m + 2 ^ j := by decide +kernel
theorem or64 : ∀ m, m < 64 → ∀ j, j < 6 → (m ||| 2 ^ j) < 64 := by decide +kernel
theorem m_claimed {n k r : Nat} {hd : Option Nat} {R : St} {a : AS} (h : RR n hd R a) (hB : BK a) (hk : k < 6) (hr : r < 3) : F_X12_claimed (nI k) (nI r) R = some (nI (nv a 26 k r - nv a 27 k r), R) := by
  refine rn_eq ?_
  unfold F_X12_claimed
  obtain ⟨b1, b2, b3, b4⟩ := hB.1 k r hk hr
  rw [show (3 : Int32) * nI k + nI r = nI (3 * k + r) from mulN 3 k r, show (nI (3 * k + r)).toNatClampNeg = 3 * k + r from nI_clamp (by omega), rr_26 h hk hr, rr_27 h hk hr, b1, b2, nI_sub b3]
  exact rn_gd (inb_nI (by omega) (by decide)) (rn_ret ⟨rfl, rfl⟩)
theorem m_isNext {n s k : Nat} {hd : Option Nat} {R : St} {a : AS} (h : RR n hd R a) (hB : BK a) (hs : s < 64) (hk : k < 6) : F_X12_isNext (nI s) (nI k) R = some (if fitB a (bl s) k = true then 1 else 0, R) := by
  have key : ∀ fu r x, 3 < fu + r → r ≤ 3 → (x = 0 ∨ x = 1) → (x = 1 ↔ ∀ q, q < r → nv a 26 k q - nv a 27 k q ≤ smn a (bl s) q 6) → Rn (F_X12_isNext_5 fu (nI s) (nI k) x (nI r) R) (fun y D => y = (if fitB a (bl s) k = true then 1 else 0) ∧ D = R) := by
    intro fu
    induction fu with
    | zero => intro r x h1 h2; omega
    | succ fu ih =>
      intro r x h1 h2 hx01 hx
      unfold F_X12_isNext_5
      by_cases e : r = 3
      · subst e
        refine rn_pos (show (3 : Int32) ≤ nI 3 by decide) (rn_gd (isb_of hx01) (rn_ret ⟨?_, rfl⟩))
        by_cases c : x = 1
        · rw [c, if_pos]
          unfold fitB
          exact (@decide_eq_true_iff _ (Classical.propDecidable _)).mpr (hx.mp c)
        · rw [hx01.resolve_right c, if_neg]
          unfold fitB
          rw [@decide_eq_true_iff _ (Classical.propDecidable _)]
          exact fun y => c (hx.mpr y)
      · have hr : r < 3 := by omega
        have nxt : ∀ y : Int32, (y = 0 ∨ y = 1) → (y = 1 ↔ ∀ q, q < r + 1 → nv a 26 k q - nv a 27 k q ≤ smn a (bl s) q 6) → Rn (F_X12_isNext_5 fu (nI s) (nI k) y (nI r + 1) R) (fun y D => y = (if fitB a (bl s) k = true then 1 else 0) ∧ D = R) := fun y h01 hy => by
          rw [nI_1]
          exact ih (r + 1) y (by omega) (by omega) h01 hy
        have inner : ∀ fu2 j, 6 < fu2 + j → j ≤ 6 → Rn (F_X12_isNext_23 (F_X12_isNext_5 fu) fu2 (nI s) (nI k) x (nI r) (nI (smn a (bl s) r j)) (nI j) R) (fun y D => y = (if fitB a (bl s) k = true then 1 else 0) ∧ D = R) := by
          intro fu2
          induction fu2 with
          | zero => intro j h1 h2; omega
          | succ fu2 ih2 =>
            intro j h1 h2
            unfold F_X12_isNext_23 F_X12_isNext_87 F_X12_isNext_88 F_X12_isNext_58
            by_cases e6 : j = 6
            · subst e6
              refine rn_pos (show (6 : Int32) ≤ nI 6 by decide) (rn_if (fun e0 => ?_) (fun e0 => rn_bdE (m_claimed h hB hk hr) ?_))
              · refine nxt 0 (Or.inl rfl) ⟨fun y => absurd y (by decide), fun y => ?_⟩
                have : x = 1 := hx.mpr (fun q hq => y q (by omega))
                rw [this] at e0
                exact absurd e0 (by decide)
              · have x1 : x = 1 := hx01.resolve_left e0
                obtain ⟨b1, b2, b3, b4⟩ := hB.1 k r hk hr
                have b5 := smn_lt hB (l := bl s) hr 6 (by omega)
                refine rn_if (fun e2 => ?_) (fun e2 => ?_)
                · refine nxt 0 (Or.inl rfl) ⟨fun y => absurd y (by decide), fun y => ?_⟩
                  have := y r (by omega)
                  exact absurd e2 (nI_nlt this (by omega))
                · refine nxt 1 (Or.inr rfl) ⟨fun _ q hq => ?_, fun _ => rfl⟩
                  by_cases eq : q = r
                  · subst eq
                    exact Classical.byContradiction fun hh => e2 (nI_lt (by omega) (by omega))
                  · exact hx.mp x1 q (by omega)
            · have hj : j < 6 := by omega
              refine rn_neg (nI_ge (b := 6) hj (by decide)) ?_
              rw [bitI s hs j hj]
              have st := ih2 (j + 1) (by omega) (by omega)
              simp only [smn] at st
              obtain ⟨b1, b2, b3, b4⟩ := hB.1 j r hj hr
              by_cases cb : s.testBit j = true
              · rw [if_pos (mem_bl.mpr ⟨hj, cb⟩)] at st
                rw [if_pos cb, show (3 : Int32) * nI j + nI r = nI (3 * j + r) from mulN 3 j r, show (nI (3 * j + r)).toNatClampNeg = 3 * j + r from nI_clamp (by omega), rr_27 h hj hr, b1, nI_add, nI_1]
                exact rn_pos rfl (rn_gd (inb_nI (by omega) (by decide)) st)
              · rw [if_neg (fun y => cb (mem_bl.mp y).2), Nat.add_zero] at st
                rw [if_neg cb, Int32.add_zero, nI_1]
                exact rn_neg (by decide) st
        rw [show (nI r).toNatClampNeg = r from nI_clamp (by omega), rr_28 h hr, (hB.2 r hr).1]
        exact rn_neg (nI_ge (b := 3) hr (by decide)) (rn_gd (inb_nI hr (by decide)) (inner 1000 0 (by omega) (by omega)))
  unfold F_X12_isNext
  exact rn_eq (key 1000 0 1 (by omega) (by omega) (Or.inr rfl) ⟨fun _ q hq => absurd hq (Nat.not_lt_zero q), fun _ => rfl⟩)
/-- which sets are marked when the sets below s, and s with the jobs below k, are done -/
def mk (a : AS) (s k t : Nat) : Prop := t = 0 ∨ (∃ u j, u < s ∧ j < 6 ∧ RS a u ∧ ext a u j t) ∨ ∃ j, j < k ∧ RS a s ∧ ext a s j t
theorem mk_self {a : AS} {s k : Nat} (hs : s < 64) (hk : k ≤ 6) : mk a s k s ↔ RS a s := by
  rw [RS_step hs]
  constructor
  · rintro (h | ⟨u, j, h1, h2, h3, h4⟩ | ⟨j, h1, h2, h3⟩)
    · exact Or.inl h
    · exact Or.inr ⟨u, j, h1, h2, h3, h4⟩
    · exfalso
      have := (bits2 s hs j (by omega) h3.2.1).1
      rw [← h3.2.2.2] at this
      omega
  · rintro (h | ⟨u, j, h1, h2, h3, h4⟩)
    · exact Or.inl h
    · exact Or.inr (Or.inl ⟨u, j, h1, h2, h3, h4⟩)
def MK (a : AS) (s k : Nat) (D : St) : Prop := ∀ t, t < 64 → (D 170 0 0 t = 0 ∨ D 170 0 0 t = 1) ∧ (D 170 0 0 t = 1 ↔ mk a s k t)
theorem m_safe78 {n s : Nat} {hd : Option Nat} {a : AS} {k69 : Int32 → Int32 → St → Option (Int32 × St)} {Q : Int32 → St → Prop} (hB : BK a) (hs : s < 64)
    (hK : ∀ D, RR n hd D a → MK a (s + 1) 0 D → Rn (k69 (nI (am a 6)) (nI s + 1) D) Q) :
    ∀ fu k D, 6 < fu + k → k ≤ 6 → RR n hd D a → MK a s k D → Rn (F_X12_isSafe_78 k69 fu (nI (am a 6)) (nI s) (nI k) D) Q := by
  have h64 : am a 6 < 64 := am_lt a 6
  have fin : ∀ k D, k ≤ 6 → MK a s k D → (k = 6 ∨ ¬ RS a s) → MK a (s + 1) 0 D := by
    intro k D hk hM hor t ht
    refine ⟨(hM t ht).1, (hM t ht).2.trans ?_⟩
    constructor
    · rintro (h | ⟨u, j, h1, h2, h3, h4⟩ | ⟨j, h1, h2, h3⟩)
      · exact Or.inl h
      · exact Or.inr (Or.inl ⟨u, j, by omega, h2, h3, h4⟩)
      · exact Or.inr (Or.inl ⟨s, j, by omega, by omega, h2, h3⟩)
    · rintro (h | ⟨u, j, h1, h2, h3, h4⟩ | ⟨j, h1, h2, h3⟩)
      · exact Or.inl h
      · by_cases e : u = s
        · subst e
          rcases hor with rfl | hor
          · exact Or.inr (Or.inr ⟨j, h2, h3, h4⟩)
          · exact absurd h3 hor
        · exact Or.inr (Or.inl ⟨u, j, by omega, h2, h3, h4⟩)
      · exact absurd h1 (Nat.not_lt_zero j)
  intro fu
  induction fu with
  | zero => intro k D h1 h2; omega
  | succ fu ih =>
    intro k D h1 h2 hR hM
    unfold F_X12_isSafe_78 F_X12_isSafe_135 F_X12_isSafe_129
    by_cases e : k = 6
    · subst e
      exact rn_pos (show (6 : Int32) ≤ nI 6 by decide) (hK D hR (fin 6 D (by omega) hM (Or.inl rfl)))
    · have hk : k < 6 := by omega
      rw [show (nI s).toNatClampNeg = s from nI_clamp (by omega), bitI (am a 6) h64 k hk, bitI s hs k hk, orI s hs k hk, nI_1 k]
      refine rn_neg (nI_ge (b := 6) hk (by decide)) (rn_gd (inb_nI hs (by decide)) (rn_if (fun e0 => ?_) (fun e0 => ?_)))
      · refine hK D hR (fin k D (by omega) hM (Or.inr (fun hRS => ?_)))
        have := (hM s hs).2.mpr ((mk_self hs (by omega)).mpr hRS)
        rw [e0] at this
        exact absurd this (by decide)
      · have hRS : RS a s := (mk_self hs (by omega)).mp ((hM s hs).2.mp ((hM s hs).1.resolve_left e0))
        have skip : ¬ (∃ t, ext a s k t) → MK a s (k + 1) D := by
          intro hno t ht
          refine ⟨(hM t ht).1, (hM t ht).2.trans ?_⟩
          constructor
          · rintro (h | h | ⟨j, h1, h2, h3⟩)
            · exact Or.inl h
            · exact Or.inr (Or.inl h)
            · exact Or.inr (Or.inr ⟨j, by omega, h2, h3⟩)
          · rintro (h | h | ⟨j, h1, h2, h3⟩)
            · exact Or.inl h
            · exact Or.inr (Or.inl h)
            · by_cases ej : j = k
              · subst ej
                exact absurd ⟨t, h3⟩ hno
              · exact Or.inr (Or.inr ⟨j, by omega, h2, h3⟩)
        by_cases c1 : (am a 6).testBit k = true
        · rw [if_pos c1]
          refine rn_pos rfl ?_
          by_cases c2 : s.testBit k = true
          · rw [if_pos c2]
            refine rn_neg (by decide) (ih (k + 1) D (by omega) (by omega) hR (skip ?_))
            rintro ⟨t, -, x2, -⟩
            rw [c2] at x2
            cases x2
          · have c2f : s.testBit k = false := by simpa using c2
            rw [if_neg c2]
            refine rn_pos rfl (rn_bdE (m_isNext hR hB hs hk) ?_)
            by_cases c3 : fitB a (bl s) k = true
            · have hfit : fits a (bl s) k := by
                unfold fitB at c3
                exact (@decide_eq_true_iff _ (Classical.propDecidable _)).mp c3
              have ho := or64 s hs k hk
              rw [if_pos c3, show (nI (s ||| 2 ^ k)).toNatClampNeg = s ||| 2 ^ k from nI_clamp (by omega)]
              refine rn_neg (by decide) (rn_gd (inb_nI ho (by decide)) (rn_st (ih (k + 1) _ (by omega) (by omega) (RR_170 hR (fun q b t c x => by rw [up_at, if_neg (fun y => x y.1)])) ?_)))
              have hex : ext a s k (s ||| 2 ^ k) := ⟨(am_bit a 6 k hk).mp c1, c2f, hfit, rfl⟩
              intro t ht
              rw [up_at]
              by_cases et : t = s ||| 2 ^ k
              · rw [if_pos ⟨rfl, rfl, rfl, et⟩]
                refine ⟨Or.inr rfl, fun _ => ?_, fun _ => rfl⟩
                rw [et]
                exact Or.inr (Or.inr ⟨k, by omega, hRS, hex⟩)
              · rw [if_neg (fun y => et y.2.2.2)]
                refine ⟨(hM t ht).1, (hM t ht).2.trans ?_⟩
                constructor
                · rintro (h | h | ⟨j, h1, h2, h3⟩)
                  · exact Or.inl h
                  · exact Or.inr (Or.inl h)
                  · exact Or.inr (Or.inr ⟨j, by omega, h2, h3⟩)
                · rintro (h | h | ⟨j, h1, h2, h3⟩)
                  · exact Or.inl h
                  · exact Or.inr (Or.inl h)
                  · by_cases ej : j = k
                    · subst ej
                      exact absurd h3.2.2.2 et
                    · exact Or.inr (Or.inr ⟨j, by omega, h2, h3⟩)
            · rw [if_neg c3]
              refine rn_pos rfl (ih (k + 1) D (by omega) (by omega) hR (skip ?_))
              rintro ⟨t, -, -, x3, -⟩
              apply c3
              unfold fitB
              exact (@decide_eq_true_iff _ (Classical.propDecidable _)).mpr x3
        · rw [if_neg c1]
          refine rn_neg (by decide) (ih (k + 1) D (by omega) (by omega) hR (skip ?_))
          rintro ⟨t, x1, -⟩
          exact c1 ((am_bit a 6 k hk).mpr x1)
theorem m_safe {n : Nat} {hd : Option Nat} {R : St} {a : AS} (h : RR n hd R a) (hB : BK a) : Rn (F_X12_isSafe R) (fun r D => r = (if safeB a = true then 1 else 0) ∧ RR n hd D a) := by
  have h64 : am a 6 < 64 := am_lt a 6
  have k69 : ∀ fu s D, 64 < fu + s → s ≤ 64 → RR n hd D a → MK a s 0 D → Rn (F_X12_isSafe_69 fu (nI (am a 6)) (nI s) D) (fun r D => r = (if safeB a = true then 1 else 0) ∧ RR n hd D a) := by
    intro fu
    induction fu with
    | zero => intro s D h1 h2; omega
    | succ fu ih =>
      intro s D h1 h2 hR hM
      unfold F_X12_isSafe_69
      by_cases e : s = 64
      · subst e
        rw [show (nI (am a 6)).toNatClampNeg = am a 6 from nI_clamp (by omega)]
        obtain ⟨m1, m2⟩ := hM (am a 6) h64
        refine rn_pos (show (64 : Int32) ≤ nI 64 by decide) (rn_gd (inb_nI h64 (by decide)) (rn_gd (isb_of m1) (rn_ret ⟨?_, hR⟩)))
        have e2 : mk a 64 0 (am a 6) ↔ z_safe a := by
          rw [← RS_all, RS_step h64]
          constructor
          · rintro (h | ⟨u, j, h1, h2, h3, h4⟩ | ⟨j, h1, -⟩)
            · exact Or.inl h
            · have hu : u < am a 6 := by
                have := (bits2 u (by omega) j h2 h4.2.1).1
                rw [← h4.2.2.2] at this
                exact this
              exact Or.inr ⟨u, j, hu, h2, h3, h4⟩
            · exact absurd h1 (Nat.not_lt_zero j)
          · rintro (h | ⟨u, j, h1, h2, h3, h4⟩)
            · exact Or.inl h
            · exact Or.inr (Or.inl ⟨u, j, by omega, h2, h3, h4⟩)
        by_cases c : z_safe a
        · rw [if_pos (safe_T c)]
          exact m2.mpr (e2.mpr c)
        · rw [safe_F c]
          exact m1.resolve_right (fun y => c (e2.mp (m2.mp y)))
      · refine rn_neg (nI_ge (b := 64) (by omega) (by decide)) (m_safe78 hB (by omega) (fun D2 hR2 hM2 => ?_) 1000 0 D (by omega) (by omega) hR hM)
        rw [nI_1]
        exact ih (s + 1) D2 (by omega) (by omega) hR2 hM2
  have k43 : ∀ fu s D, 64 < fu + s → s ≤ 64 → RR n hd D a → (∀ t, t < s → D 170 0 0 t = if t = 0 then 1 else 0) → Rn (F_X12_isSafe_43 fu (nI (am a 6)) (nI s) D) (fun r D => r = (if safeB a = true then 1 else 0) ∧ RR n hd D a) := by
    intro fu
    induction fu with
    | zero => intro s D h1 h2; omega
    | succ fu ih =>
      intro s D h1 h2 hR hM
      unfold F_X12_isSafe_43 F_X12_isSafe_60
      by_cases e : s = 64
      · subst e
        refine rn_pos (show (64 : Int32) ≤ nI 64 by decide) (k69 1000 0 D (by omega) (by omega) hR (fun t ht => ?_))
        rw [hM t ht]
        by_cases c : t = 0
        · rw [if_pos c]
          exact ⟨Or.inr rfl, fun _ => Or.inl c, fun _ => rfl⟩
        · rw [if_neg c]
          refine ⟨Or.inl rfl, fun y => absurd y (by decide), ?_⟩
          rintro (h | ⟨u, j, h1, -⟩ | ⟨j, h1, -⟩)
          · exact absurd h c
          · exact absurd h1 (Nat.not_lt_zero u)
          · exact absurd h1 (Nat.not_lt_zero j)
      · have hs : s < 64 := by omega
        rw [show (nI s).toNatClampNeg = s from nI_clamp (by omega), nI_1]
        have nx : ∀ x : Int32, (x = if s = 0 then 1 else 0) → Rn (F_X12_isSafe_43 fu (nI (am a 6)) (nI (s + 1)) (up D 170 0 0 s x)) (fun r D => r = (if safeB a = true then 1 else 0) ∧ RR n hd D a) := by
          intro x hx
          refine ih (s + 1) _ (by omega) (by omega) (RR_170 hR (fun q b t c x => by rw [up_at, if_neg (fun y => x y.1)])) (fun t ht => ?_)
          rw [up_at]
          by_cases et : t = s
          · subst et
            rw [if_pos ⟨rfl, rfl, rfl, rfl⟩, hx]
          · rw [if_neg (fun y => et y.2.2.2)]
            exact hM t (by omega)
        refine rn_neg (nI_ge (b := 64) hs (by decide)) (rn_if (fun e0 => ?_) (fun e0 => ?_))
        · have : s = 0 := Classical.byContradiction fun hh => nI_ne0 (by omega) (by omega) e0
          exact rn_gd (inb_nI hs (by decide)) (rn_gd rfl (rn_st (nx 1 (by rw [if_pos this]))))
        · have : ¬ s = 0 := fun hh => e0 (by rw [hh]; rfl)
          exact rn_gd (inb_nI hs (by decide)) (rn_gd rfl (rn_st (nx 0 (by rw [if_neg this]))))
  have k9 : ∀ fu k, 6 < fu + k → k ≤ 6 → Rn (F_X12_isSafe_9 fu (nI (am a k)) (nI k) R) (fun r D => r = (if safeB a = true then 1 else 0) ∧ RR n hd D a) := by
    intro fu
    induction fu with
    | zero => intro k h1 h2; omega
    | succ fu ih =>
      intro k h1 h2
      unfold F_X12_isSafe_9 F_X12_isSafe_33
      by_cases e : k = 6
      · subst e
        exact rn_pos (show (6 : Int32) ≤ nI 6 by decide) (k43 1000 0 R (by omega) (by omega) h (fun t ht => absurd ht (Nat.not_lt_zero t)))
      · have hk : k < 6 := by omega
        have hl := am_lt a k
        have hl64 : am a k < 64 := Nat.lt_of_lt_of_le hl (by
          have : 2 ^ k ≤ 2 ^ 6 := Nat.pow_le_pow_right (by decide) h2
          exact this)
        have st := ih (k + 1) (by omega) (by omega)
        simp only [am] at st
        rw [show (nI k).toNatClampNeg = k from nI_clamp (by omega), rr_14 h hk, nI_1]
        refine rn_neg (nI_ge (b := 6) hk (by decide)) (rn_gd (inb_nI hk (by decide)) (rn_if (fun e2 => ?_) (fun e2 => ?_)))
        · rw [if_pos e2] at st
          rw [orI _ hl64 k hk, addI _ hl64 k hk hl]
          exact st
        · rw [if_neg e2, Nat.add_zero] at st
          have : nI (am a k) ||| (0 : Int32) = nI (am a k) := by simp
          rw [this]
          exact st
  unfold F_X12_isSafe
  exact k9 1000 0 (by omega) (by omega)
