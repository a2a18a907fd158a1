/-! The class: the console -/
/-- the first line that waits: L bytes -/
def TX (L : Nat) (a : AS) : Prop := L ≤ 20 ∧ av a 65 0 0 = nI L
/-- all signs of the lines are bytes -/
def BY (a : AS) : Prop := ∀ r, r < 8 → ∀ i, i < 20 → ∃ y, y < 128 ∧ av a 64 r i = nI y
theorem z0 : (0 : Int32).toNatClampNeg = 0 := rfl
def z_sign (a : AS) (i : Nat) : Int32 := if i < nv a 65 0 0 then av a 64 0 i else -1
def z_dig (a : AS) (i : Nat) : Int32 := if z_sign a i < 48 then -1 else if 57 < z_sign a i then -1 else z_sign a i - 48
theorem tx65 {L : Nat} {a : AS} (hT : TX L a) : nv a 65 0 0 = L := by
  obtain ⟨t2, t5⟩ := hT
  unfold nv
  rw [t5, nI_clamp (by omega)]
theorem k_sign {n L i : Nat} {C : St} {a : AS} (hR : RC n C a) (hT : TX L a) (hi : i < 100) : F_X1_signAt n (nI i) C = some (z_sign a i, C) := by
  have e65 := tx65 hT
  obtain ⟨t2, t5⟩ := hT
  refine rn_eq ?_
  unfold F_X1_signAt F_X1_signAt_31 F_X1_signAt_32 z_sign
  rw [z0, rc_65 (i := 0) hR (by decide), t5, e65]
  refine rn_neg (nI_pos (by omega)) (rn_gd rfl ?_)
  by_cases c : i < L
  · rw [if_pos c, show (nI i).toNatClampNeg = i from nI_clamp (by omega), rc_64 (i := 0) hR (by decide) (by omega)]
    exact rn_neg (nI_ge c (by omega)) (rn_neg (nI_ge (b := 20) (by omega) (by decide)) (rn_gd (inb_nI (by omega) (by decide)) (rn_ret ⟨rfl, rfl⟩)))
  · rw [if_neg c]
    exact rn_pos (nI_le (by omega) (by omega)) (rn_ret ⟨rfl, rfl⟩)
theorem k_dig {n L i : Nat} {C : St} {a : AS} (hR : RC n C a) (hT : TX L a) (hi : i < 100) : F_X1_digitAt n (nI i) C = some (z_dig a i, C) := by
  refine rn_eq ?_
  unfold F_X1_digitAt F_X1_digitAt_25 F_X1_digitAt_26 z_dig
  refine rn_bdE (k_sign hR hT hi) (rn_if (fun e => ?_) (fun e => rn_if (fun e2 => ?_) (fun e2 => ?_)))
  · rw [if_pos e]; exact rn_ret ⟨rfl, rfl⟩
  · rw [if_neg e, if_pos e2]; exact rn_ret ⟨rfl, rfl⟩
  · rw [if_neg e, if_neg e2]; exact rn_ret ⟨rfl, rfl⟩
def z_admits (n k : Nat) (a : AS) : Int32 × AS := if av a 14 k 0 = 1 ∧ 2 * (z_adm a 6 + 1) ≤ nI n then (1, z_wake k (sv 14 k 0 2 a)) else (0, a)
theorem k_admits {n k : Nat} {C : St} {a : AS} (h : RC n C a) (hk : k < 6) : Rn (F_X1_admits n (nI k) C) (fun r D => r = (z_admits n k a).1 ∧ RC n D (z_admits n k a).2) := by
  unfold F_X1_admits F_X1_admits_30 z_admits
  rw [show (nI k).toNatClampNeg = k from nI_clamp (by omega), rc_14 h hk]
  refine rn_gd (inb_nI hk (by decide)) (rn_if (fun e => rn_bdE (k_adm h) (rn_if (fun e2 => rn_st ?_) (fun e2 => ?_))) (fun e => ?_))
  · rw [if_pos ⟨e, e2⟩]
    have h2 := wc_14 (x := 2) h hk
    rw [k_num h2 hk]
    refine rn_bd (k_wake h2 (by omega)) ?_
    rintro _ D ⟨-, hD⟩
    exact rn_ret ⟨rfl, hD⟩
  · rw [if_neg (fun y => e2 y.2)]
    exact rn_ret ⟨rfl, h⟩
  · rw [if_neg (fun y => e y.1)]
    exact rn_ret ⟨rfl, h⟩
def z_cancels (k : Nat) (a : AS) : Int32 × AS := if av a 14 k 0 = 2 then (1, if av a 10 k 0 = 5 ∨ av a 10 k 0 = 6 then z_wake k (sl 2 ((al a 2).erase k) (sv 24 k 0 1 a)) else sv 24 k 0 1 a) else (0, a)
theorem k_cancels {n k : Nat} {C : St} {a : AS} (h : RC n C a) (hk : k < 6) (hN : (al a 2).Nodup) : Rn (F_X1_cancels n (nI k) C) (fun r D => r = (z_cancels k a).1 ∧ RC n D (z_cancels k a).2) := by
  unfold F_X1_cancels F_X1_cancels_38 F_X1_cancels_57 z_cancels
  rw [show (nI k).toNatClampNeg = k from nI_clamp (by omega), rc_14 h hk]
  refine rn_gd (inb_nI hk (by decide)) (rn_if (fun e => rn_st ?_) (fun e => ?_))
  · rw [if_pos e]
    have h2 := wc_24 (x := 1) h hk
    rw [k_num h2 hk]
    have lv : Rn (bd2 (F_X0_leaveRow n (nI k) (up C 6 k 18 0 1)) (fun r1 D2 => gd (inb (nI k) 6) (bd2 (F_X7_wake n (D2 6 k 0 0) D2) (fun r5 D6 => some ((1 : Int32), D6))))) (fun r D => r = 1 ∧ RC n D (z_wake k (sl 2 ((al a 2).erase k) (sv 24 k 0 1 a)))) := by
      refine rn_bd (k_leaveRow h2 hk hN) ?_
      rintro _ D ⟨-, hD⟩
      rw [k_num hD hk]
      refine rn_gd (inb_nI hk (by decide)) (rn_bd (k_wake hD (by omega)) ?_)
      rintro _ E ⟨-, hE⟩
      exact rn_ret ⟨rfl, hE⟩
    refine rn_bdE (k_cause h2 (by omega)) ?_
    rw [av_o (by decide)]
    refine rn_if (fun e2 => ?_) (fun e2 => rn_if (fun e3 => ?_) (fun e3 => ?_))
    · rw [if_pos (Or.inl e2)]; exact lv
    · rw [if_pos (Or.inr e3)]; exact lv
    · rw [if_neg (fun o => o.elim e2 e3)]
      exact rn_ret ⟨rfl, h2⟩
  · rw [if_neg e]
    exact rn_ret ⟨rfl, h⟩
def z_dsum (a : AS) : Nat → Nat → Int32 → Option Int32
  | 0, _, v => some v
  | m + 1, i, v => if z_dig a i = -1 then none else z_dsum a m (i + 1) (v * 10 + z_dig a i)
def z_start (a : AS) : Nat := if z_sign a 3 = 45 then 4 else 3
def z_rep (n k : Nat) (v : Int32) (a : AS) : AS := z_wake k (z_comp n k (av a 18 k 0 + 1) (sv 19 k 0 v a))
def z_replies (n k : Nat) (a : AS) : Int32 × AS :=
  if z_sign a 2 = 32 ∧ z_start a < nv a 65 0 0 ∧ nv a 65 0 0 ≤ z_start a + 9 ∧ av a 10 k 0 = 5 then (match z_dsum a (nv a 65 0 0 - z_start a) (z_start a) 0 with
    | none => (0, a)
    | some v => (1, z_rep n k (if z_start a = 4 then -v else v) a))
  else (0, a)
theorem k_rep74 {n L k s : Nat} {C : St} {a : AS} (hR : RC n C a) (hn : n ≤ 12) (hT : TX L a) (hk : k < 6) (hs : s = 3 ∨ s = 4) : ∀ m fu i v, i + m = L → m < fu → Rn (F_X1_replies_74 n fu (nI k) (nI s) 1 v (nI i) C) (fun r D => match z_dsum a m i v with
    | none => r = 0 ∧ RC n D a
    | some v => r = 1 ∧ RC n D (z_rep n k (if s = 4 then -v else v) a)) := by
  have t := hT
  obtain ⟨t2, t5⟩ := t
  have ekk : (nI k).toNatClampNeg = k := nI_clamp (by omega)
  have g6 := inb_nI hk (show 6 < 2 ^ 31 by decide)
  intro m
  induction m with
  | zero =>
    intro fu i v hi hf
    obtain ⟨fu, rfl⟩ : ∃ g, fu = g + 1 := ⟨fu - 1, by omega⟩
    unfold F_X1_replies_74 F_X1_replies_127 F_X1_replies_146 F_X1_replies_174 z_dsum
    rw [z0, rc_65 (i := 0) hR (by decide), t5, ekk]
    refine rn_neg (by decide) (rn_gd rfl (rn_pos (nI_le (by omega) (by omega)) (rn_neg (by decide) ?_)))
    have fin : ∀ x : Int32, Rn (gd (inb (nI k) 6) (st (up C 6 k 13 0 x) (fun D2 => gd (inb (nI k) 6) (bd2 (F_X2_complete n (nI k) ((D2 6 k 12 0) + (1 : Int32)) D2) (fun r5 D6 => bd2 (F_X7_wake n (D6 6 k 0 0) D6) (fun r8 D9 => gd (isb 1) (some ((1 : Int32), D9)))))))) (fun r D => r = 1 ∧ RC n D (z_rep n k x a)) := by
      intro x
      refine rn_gd g6 (rn_st ?_)
      have h2 := wc_19 (x := x) hR hk
      rw [rc_18 h2 hk, av_o (by decide)]
      refine rn_gd g6 (rn_bd (k_comp h2 hn hk) ?_)
      rintro _ D ⟨-, hD⟩
      rw [k_num hD hk]
      refine rn_bd (k_wake hD (by omega)) ?_
      rintro _ E ⟨-, hE⟩
      exact rn_gd rfl (rn_ret ⟨rfl, hE⟩)
    rcases hs with rfl | rfl
    · refine rn_neg (by decide) ?_
      simp only
      rw [if_neg (by decide)]
      exact fin v
    · refine rn_pos (by decide) ?_
      simp only
      rw [if_pos trivial]
      exact fin (-v)
  | succ m ih =>
    intro fu i v hi hf
    obtain ⟨fu, rfl⟩ : ∃ g, fu = g + 1 := ⟨fu - 1, by omega⟩
    unfold F_X1_replies_74 F_X1_replies_105
    rw [z0, rc_65 (i := 0) hR (by decide), t5]
    refine rn_neg (by decide) (rn_gd rfl (rn_neg (nI_ge (by omega) (by omega)) (rn_bdE (k_dig hR hT (by omega)) ?_)))
    rw [z_dsum]
    refine rn_if (fun e => ?_) (fun e => ?_)
    · rw [if_pos e]
      refine rn_bdE (k_dig hR hT (by omega)) ?_
      obtain ⟨fu, rfl⟩ : ∃ g, fu = g + 1 := ⟨fu - 1, by omega⟩
      unfold F_X1_replies_74 F_X1_replies_127 F_X1_replies_174
      exact rn_pos rfl (rn_pos rfl (rn_gd rfl (rn_ret ⟨rfl, hR⟩)))
    · rw [if_neg e]
      refine rn_bdE (k_dig hR hT (by omega)) ?_
      rw [nI_1]
      exact ih fu (i + 1) _ (by omega) (by omega)
theorem k_rep66 {n k s : Nat} {C : St} {a : AS} (hR : RC n C a) : Rn (F_X1_replies_66 n (nI k) (nI s) 0 C) (fun r D => r = 0 ∧ RC n D a) := by
  unfold F_X1_replies_66
  have : F_X1_replies_74 n 1000 (nI k) (nI s) 0 0 (nI s) C = F_X1_replies_127 n (nI k) (nI s) 0 0 C := by
    rw [F_X1_replies_74]
    rw [if_pos rfl]
  rw [this]
  unfold F_X1_replies_127 F_X1_replies_174
  exact rn_pos rfl (rn_gd rfl (rn_ret ⟨rfl, hR⟩))
theorem k_replies {n L k : Nat} {C : St} {a : AS} (hR : RC n C a) (hn : n ≤ 12) (hT : TX L a) (hk : k < 6) : Rn (F_X1_replies n (nI k) C) (fun r D => r = (z_replies n k a).1 ∧ RC n D (z_replies n k a).2) := by
  have t := hT
  obtain ⟨t2, t5⟩ := t
  have e65 := tx65 hT
  unfold F_X1_replies
  have ekk : (nI k).toNatClampNeg = k := nI_clamp (by omega)
  have key : ∀ s, s = z_start a → Rn (F_X1_replies_15 n (nI k) (nI s) C) (fun r D => r = (z_replies n k a).1 ∧ RC n D (z_replies n k a).2) := by
    intro s hs
    have hs34 : s = 3 ∨ s = 4 := by
      rw [hs]
      unfold z_start
      split
      · exact Or.inr rfl
      · exact Or.inl rfl
    unfold F_X1_replies_15 F_X1_replies_65 z_replies
    rw [← hs, e65, z0, rc_65 (i := 0) hR (by decide), t5, ekk]
    refine rn_gd rfl (rn_bdE (k_sign (i := 2) hR hT (by decide)) (rn_if (fun e => ?_) (fun e => ?_)))
    · by_cases c1 : s < L
      · rw [nI_sub (by omega)]
        by_cases c2 : L ≤ s + 9
        · refine rn_neg (show ¬ nI (L - s) < nI 1 from nI_nlt (by omega) (by omega)) (rn_neg (show ¬ nI 9 < nI (L - s) from nI_nlt (by omega) (by omega)) (rn_gd (inb_nI hk (by decide)) ?_))
          rw [k_num hR hk]
          refine rn_bdE (k_cause hR (by omega)) (rn_if (fun e5 => ?_) (fun e5 => ?_))
          · rw [if_pos ⟨e, c1, c2, e5⟩]
            unfold F_X1_replies_66
            refine rn_mono (k_rep74 hR hn hT hk hs34 (L - s) 1000 s 0 (by omega) (by omega)) ?_
            intro r D hh
            revert hh
            cases z_dsum a (L - s) s 0 with
            | none => exact fun hh => hh
            | some v => exact fun hh => hh
          · rw [if_neg (fun y => e5 y.2.2.2)]
            exact k_rep66 hR
        · rw [if_neg (show ¬ (z_sign a 2 = 32 ∧ s < L ∧ L ≤ s + 9 ∧ av a 10 k 0 = 5) from fun y => c2 y.2.2.1)]
          refine rn_neg (show ¬ nI (L - s) < nI 1 from nI_nlt (by omega) (by omega)) (rn_pos (show nI 9 < nI (L - s) from nI_lt (by omega) (by omega)) (k_rep66 hR))
      · rw [if_neg (show ¬ (z_sign a 2 = 32 ∧ s < L ∧ L ≤ s + 9 ∧ av a 10 k 0 = 5) from fun y => c1 y.2.1)]
        have : nI L - nI s < 1 := by
          have key : ∀ L, L ≤ 4 → ∀ s, s = 3 ∨ s = 4 → L ≤ s → nI L - nI s < 1 := by
            intro L hL s hs hLs
            rcases hs with rfl | rfl
            · have : L = 0 ∨ L = 1 ∨ L = 2 ∨ L = 3 := by omega
              rcases this with rfl | rfl | rfl | rfl <;> decide
            · have : L = 0 ∨ L = 1 ∨ L = 2 ∨ L = 3 ∨ L = 4 := by omega
              rcases this with rfl | rfl | rfl | rfl | rfl <;> decide
          exact key L (by omega) s hs34 (by omega)
        exact rn_pos this (k_rep66 hR)
    · rw [if_neg (fun y => e y.1)]
      exact k_rep66 hR
  refine rn_bdE (k_sign (i := 3) hR hT (by decide)) (rn_if (fun e => ?_) (fun e => ?_))
  · exact key 4 (by unfold z_start; rw [if_pos e])
  · exact key 3 (by unfold z_start; rw [if_neg e])
def z_obeys (n : Nat) (a : AS) : Int32 × AS :=
  if z_dig a 1 < 0 ∨ (6 : Int32) ≤ z_dig a 1 then (0, a)
  else if z_sign a 0 = 65 then (if nv a 65 0 0 = 2 then z_admits n (z_dig a 1).toNatClampNeg a else (0, a))
  else if z_sign a 0 = 67 then (if nv a 65 0 0 = 2 then z_cancels (z_dig a 1).toNatClampNeg a else (0, a))
  else if z_sign a 0 = 82 then z_replies n (z_dig a 1).toNatClampNeg a
  else (0, a)
theorem bool_admits {n k : Nat} {a : AS} : (z_admits n k a).1 = 0 ∨ (z_admits n k a).1 = 1 := by
  unfold z_admits
  split
  · exact Or.inr rfl
  · exact Or.inl rfl
theorem bool_cancels {k : Nat} {a : AS} : (z_cancels k a).1 = 0 ∨ (z_cancels k a).1 = 1 := by
  unfold z_cancels
  split
  · exact Or.inr rfl
  · exact Or.inl rfl
theorem bool_replies {n k : Nat} {a : AS} : (z_replies n k a).1 = 0 ∨ (z_replies n k a).1 = 1 := by
  unfold z_replies
  split
  · split
    · exact Or.inl rfl
    · exact Or.inr rfl
  · exact Or.inl rfl
theorem isb_of {x : Int32} (h : x = 0 ∨ x = 1) : isb x = true := by
  rcases h with rfl | rfl <;> rfl
theorem lt6 {x : Int32} (h1 : ¬ x < 0) (h2 : ¬ (6 : Int32) ≤ x) : ∃ r, r < 6 ∧ x = nI r := by
  obtain ⟨r, hr, e⟩ := nI_of h1
  refine ⟨r, ?_, e⟩
  subst e
  exact (nI_ltI (b := 6) hr (by decide)).mp (Int32.not_le.mp h2)
theorem k_jobAt {n : Nat} {x : Int32} {C : St} : F_X11_jobAt n x C = some (if x < 0 ∨ (6 : Int32) ≤ x then -1 else x, C) := by
  refine rn_eq ?_
  unfold F_X11_jobAt F_X11_jobAt_16 F_X11_jobAt_17
  refine rn_if (fun e => ?_) (fun e => rn_if (fun e2 => ?_) (fun e2 => ?_))
  · rw [if_pos (Or.inl e)]; exact rn_ret ⟨rfl, rfl⟩
  · rw [if_pos (Or.inr e2)]; exact rn_ret ⟨rfl, rfl⟩
  · rw [if_neg (fun o => o.elim e e2)]
    obtain ⟨r, hr, rfl⟩ := lt6 e e2
    exact rn_gd (inb_nI hr (by decide)) (rn_ret ⟨rfl, rfl⟩)
theorem k_obeys {n L : Nat} {C : St} {a : AS} (hR : RC n C a) (hn : n ≤ 12) (hT : TX L a) (hN : (al a 2).Nodup) : Rn (F_X1_obeys n C) (fun r D => r = (z_obeys n a).1 ∧ RC n D (z_obeys n a).2) := by
  have t := hT
  obtain ⟨t2, t5⟩ := t
  have e65 := tx65 hT
  unfold F_X1_obeys z_obeys
  refine rn_bdE (k_dig (i := 1) hR hT (by decide)) (rn_bdE k_jobAt ?_)
  by_cases c : z_dig a 1 < 0 ∨ (6 : Int32) ≤ z_dig a 1
  · rw [if_pos c, if_pos c]
    exact rn_pos (by decide) (rn_ret ⟨rfl, hR⟩)
  · rw [if_neg c, if_neg c]
    rw [not_or] at c
    obtain ⟨k, hk, ek⟩ := lt6 c.1 c.2
    rw [ek, show (nI k).toNatClampNeg = k from nI_clamp (by omega), z0, rc_65 (i := 0) hR (by decide), t5, e65]
    refine rn_neg (nI_pos (by omega)) (rn_gd rfl ?_)
    have key : ∀ x : Int32, (x = if L = 2 then 1 else 0) → Rn (F_X1_obeys_34 n (nI k) x C) (fun r D => r = (if z_sign a 0 = 65 then (if L = 2 then z_admits n k a else (0, a)) else if z_sign a 0 = 67 then (if L = 2 then z_cancels k a else (0, a)) else if z_sign a 0 = 82 then z_replies n k a else (0, a)).1 ∧ RC n D (if z_sign a 0 = 65 then (if L = 2 then z_admits n k a else (0, a)) else if z_sign a 0 = 67 then (if L = 2 then z_cancels k a else (0, a)) else if z_sign a 0 = 82 then z_replies n k a else (0, a)).2) := by
      intro x hx
      unfold F_X1_obeys_34 F_X1_obeys_92 F_X1_obeys_93 F_X1_obeys_110 F_X1_obeys_111
      refine rn_bdE (k_sign (i := 0) hR hT (by decide)) (rn_if (fun e => ?_) (fun e => rn_if (fun e2 => ?_) (fun e2 => rn_if (fun e3 => ?_) (fun e3 => ?_))))
      · rw [if_pos e]
        by_cases c2 : L = 2
        · rw [if_pos c2] at hx ⊢
          subst hx
          refine rn_neg (by decide) (rn_bd (k_admits hR hk) ?_)
          rintro _ D ⟨rfl, hD⟩
          rcases bool_admits (n := n) (k := k) (a := a) with e5 | e5
          · exact rn_pos e5 (rn_gd rfl (rn_ret ⟨e5.symm, hD⟩))
          · exact rn_neg (by rw [e5]; decide) (rn_gd rfl (rn_ret ⟨e5.symm, hD⟩))
        · rw [if_neg c2] at hx ⊢
          subst hx
          exact rn_pos rfl (rn_gd rfl (rn_ret ⟨rfl, hR⟩))
      · rw [if_neg e, if_pos e2]
        by_cases c2 : L = 2
        · rw [if_pos c2] at hx ⊢
          subst hx
          refine rn_neg (by decide) (rn_bd (k_cancels hR hk hN) ?_)
          rintro _ D ⟨rfl, hD⟩
          rcases bool_cancels (k := k) (a := a) with e5 | e5
          · exact rn_pos e5 (rn_gd rfl (rn_ret ⟨e5.symm, hD⟩))
          · exact rn_neg (by rw [e5]; decide) (rn_gd rfl (rn_ret ⟨e5.symm, hD⟩))
        · rw [if_neg c2] at hx ⊢
          subst hx
          exact rn_pos rfl (rn_gd rfl (rn_ret ⟨rfl, hR⟩))
      · rw [if_neg e, if_neg e2, if_pos e3]
        refine rn_bd (k_replies hR hn hT hk) ?_
        rintro _ D ⟨rfl, hD⟩
        exact rn_gd (isb_of bool_replies) (rn_ret ⟨rfl, hD⟩)
      · rw [if_neg e, if_neg e2, if_neg e3]
        exact rn_ret ⟨rfl, hR⟩
    refine rn_if (fun e => key 1 ?_) (fun e => key 0 ?_)
    · rw [if_pos ((nI_eq (b := 2) (by omega) (by decide)).mp e)]
    · rw [if_neg (fun y => e (by rw [y]; rfl))]
theorem vo_obeys {n : Nat} {a : AS} {g b c : Nat} (h1 : g ≠ 10) (h2 : g ≠ 14) (h3 : g ≠ 24) (h4 : g ≠ 19) (h5 : g ≠ 17) (h6 : g ≠ 18) (h7 : g ≠ 43) : av (z_obeys n a).2 g b c = av a g b c := by
  have e1 : ∀ k, av (z_admits n k a).2 g b c = av a g b c := fun k => by
    unfold z_admits
    split
    · simp only; rw [vo_wake h1, av_o h2]
    · rfl
  have e2 : ∀ k, av (z_cancels k a).2 g b c = av a g b c := fun k => by
    unfold z_cancels
    split
    · simp only
      split
      · rw [vo_wake h1, av_sl, av_o h3]
      · rw [av_o h3]
    · rfl
  have e3 : ∀ k, av (z_replies n k a).2 g b c = av a g b c := fun k => by
    unfold z_replies
    split
    · split
      · rfl
      · simp only; unfold z_rep; rw [vo_wake h1, vo_comp h7 h6 h5, av_o h4]
    · rfl
  unfold z_obeys
  split
  · rfl
  · split
    · split
      · exact e1 _
      · rfl
    · split
      · split
        · exact e2 _
        · rfl
      · split
        · exact e3 _
        · rfl
/-- the first line goes: the others move up -/
def z_po (r : Nat) (a : AS) : AS := (fun g b c => if g = 65 ∧ c = 0 ∧ b + 1 < r then a.1 65 (b + 1) 0 else if g = 64 ∧ b + 1 < r ∧ c < 20 then a.1 64 (b + 1) c else a.1 g b c, a.2)
theorem av_po (r : Nat) (a : AS) (g b c : Nat) : av (z_po r a) g b c = if g = 65 ∧ c = 0 ∧ b + 1 < r then av a 65 (b + 1) 0 else if g = 64 ∧ b + 1 < r ∧ c < 20 then av a 64 (b + 1) c else av a g b c := rfl
def z_pop (a : AS) : AS := sv 68 0 0 (av a 68 0 0 - 1) (z_po (nv a 68 0 0) a)
def z_said (n : Nat) (a : AS) : AS := if (z_obeys n a).1 = 0 then z_say 10 (z_say 63 (z_obeys n a).2) else (z_obeys n a).2
def z_cons (n : Nat) (a : AS) : AS := z_p 6 (z_pop (z_said n a))
/-- the rows before r have moved, and of the next one j signs -/
def z_ch (r j : Nat) (a : AS) : AS := (fun g b c => if g = 65 ∧ c = 0 ∧ b < r then a.1 65 (b + 1) 0 else if g = 64 ∧ c < 20 ∧ (b < r ∨ b = r ∧ c < j) then a.1 64 (b + 1) c else a.1 g b c, a.2)
theorem av_ch (r j : Nat) (a : AS) (g b c : Nat) : av (z_ch r j a) g b c = if g = 65 ∧ c = 0 ∧ b < r then av a 65 (b + 1) 0 else if g = 64 ∧ c < 20 ∧ (b < r ∨ b = r ∧ c < j) then av a 64 (b + 1) c else av a g b c := rfl
theorem ch0 (a : AS) : z_ch 0 0 a = a := as_ext (fun g b c => by rw [av_ch, if_neg (by omega), if_neg (by omega)]) (fun q => rfl)
theorem ch_po (r : Nat) (a : AS) : z_ch r 0 a = z_po (r + 1) a := by
  refine as_ext (fun g b c => ?_) (fun q => rfl)
  rw [av_ch, av_po]
  by_cases c1 : g = 65 ∧ c = 0 ∧ b < r
  · rw [if_pos c1, if_pos ⟨c1.1, c1.2.1, by omega⟩]
  · rw [if_neg c1, if_neg (c := g = 65 ∧ c = 0 ∧ b + 1 < r + 1) (fun y => c1 ⟨y.1, y.2.1, by omega⟩)]
    by_cases c2 : g = 64 ∧ c < 20 ∧ (b < r ∨ b = r ∧ c < 0)
    · rw [if_pos c2, if_pos ⟨c2.1, by omega, c2.2.1⟩]
    · rw [if_neg c2, if_neg (c := g = 64 ∧ b + 1 < r + 1 ∧ c < 20) (fun y => c2 ⟨y.1, y.2.2, Or.inl (by omega)⟩)]
theorem ch_succ {r j : Nat} (a : AS) (hj : j < 20) : sv 64 r j (av a 64 (r + 1) j) (z_ch r j a) = z_ch r (j + 1) a := by
  refine as_ext (fun g b c => ?_) (fun q => rfl)
  rw [av_sv, av_ch, av_ch]
  by_cases c2 : g = 64
  · subst c2
    simp only [show ¬ (64 : Nat) = 65 by decide, false_and, if_false, true_and]
    by_cases c3 : b = r ∧ c = j
    · obtain ⟨rfl, rfl⟩ := c3
      rw [if_pos ⟨rfl, rfl⟩, if_pos ⟨hj, Or.inr ⟨rfl, by omega⟩⟩]
    · rw [if_neg c3]
      have : (c < 20 ∧ (b < r ∨ b = r ∧ c < j)) ↔ (c < 20 ∧ (b < r ∨ b = r ∧ c < j + 1)) := by omega
      simp only [this]
  · simp [c2]
theorem ch_row (r : Nat) (a : AS) : sv 65 r 0 (av a 65 (r + 1) 0) (z_ch r 20 a) = z_ch (r + 1) 0 a := by
  refine as_ext (fun g b c => ?_) (fun q => rfl)
  rw [av_sv, av_ch, av_ch]
  by_cases c1 : g = 65
  · subst c1
    by_cases c3 : b = r ∧ c = 0
    · obtain ⟨rfl, rfl⟩ := c3
      rw [if_pos ⟨rfl, rfl, rfl⟩, if_pos ⟨rfl, rfl, by omega⟩]
    · rw [if_neg (c := 65 = 65 ∧ b = r ∧ c = 0) (fun y => c3 y.2)]
      by_cases c4 : c = 0 ∧ b < r
      · rw [if_pos ⟨rfl, c4⟩, if_pos ⟨rfl, c4.1, by omega⟩]
      · rw [if_neg (c := 65 = 65 ∧ c = 0 ∧ b < r) (fun y => c4 y.2), if_neg (c := 65 = 65 ∧ c = 0 ∧ b < r + 1) (fun y => c4 ⟨y.2.1, by omega⟩), if_neg (by omega), if_neg (by omega)]
  · rw [if_neg (c := g = 65 ∧ b = r ∧ c = 0) (fun y => c1 y.1), if_neg (c := g = 65 ∧ c = 0 ∧ b < r) (fun y => c1 y.1), if_neg (c := g = 65 ∧ c = 0 ∧ b < r + 1) (fun y => c1 y.1)]
    by_cases c2 : g = 64 ∧ c < 20 ∧ (b < r ∨ b = r ∧ c < 20)
    · rw [if_pos c2, if_pos ⟨c2.1, c2.2.1, by omega⟩]
    · rw [if_neg c2, if_neg (c := g = 64 ∧ c < 20 ∧ (b < r + 1 ∨ b = r + 1 ∧ c < 0)) (fun y => c2 ⟨y.1, y.2.1, by omega⟩)]
theorem k_drop {n m : Nat} {C : St} {a : AS} (hR : RC n C a) (hB : BY a) (hm : av a 68 0 0 = nI m) (hm0 : 0 < m) (hm8 : m ≤ 8) : Rn (F_X1_dropFirst n C) (fun r D => r = 0 ∧ RC n D (z_pop a)) := by
  have n68 : nv a 68 0 0 = m := by unfold nv; rw [hm, nI_clamp (by omega)]
  have key : ∀ fu r D, m < fu + r → r < m → RC n D (z_ch r 0 a) → Rn (F_X1_dropFirst_2 n fu (nI (r + 1)) D) (fun r D => r = 0 ∧ RC n D (z_pop a)) := by
    intro fu
    induction fu with
    | zero => intro r D h1 h2; omega
    | succ fu ih =>
      intro r D h1 h2 hD
      have s68 : av (z_ch r 0 a) 68 0 0 = nI m := by rw [av_ch, if_neg (by simp), if_neg (by simp), hm]
      unfold F_X1_dropFirst_2 F_X1_dropFirst_68
      rw [rc_68 hD, s68]
      by_cases e : r + 1 = m
      · subst e
        refine rn_pos (nI_le (Nat.le_refl _) (by omega)) (rn_st (rn_ret ⟨rfl, ?_⟩))
        unfold z_pop
        rw [n68, hm, ← ch_po]
        exact wc_68 hD
      · refine rn_neg (nI_ge (by omega) (by omega)) (rn_neg (nI_ge (b := 8) (by omega) (by decide)) ?_)
        have inner : ∀ fu2 j D, 20 < fu2 + j → j ≤ 20 → RC n D (z_ch r j a) → Rn (F_X1_dropFirst_18 n (F_X1_dropFirst_2 n fu) fu2 (nI (r + 1)) (nI j) D) (fun r D => r = 0 ∧ RC n D (z_pop a)) := by
          intro fu2
          induction fu2 with
          | zero => intro j D x1 x2; omega
          | succ fu2 ih2 =>
            intro j D x1 x2 hJ
            unfold F_X1_dropFirst_18
            rw [nI_pred, show (nI (r + 1)).toNatClampNeg = r + 1 from nI_clamp (by omega), show (nI r).toNatClampNeg = r from nI_clamp (by omega)]
            have hr8 : r + 1 < 8 := by omega
            by_cases ej : j = 20
            · subst ej
              have s65 : av (z_ch r 20 a) 65 (r + 1) 0 = av a 65 (r + 1) 0 := by rw [av_ch, if_neg (by omega), if_neg (by simp)]
              rw [rc_65 hJ hr8, s65]
              refine rn_pos (show (20 : Int32) ≤ nI 20 by decide) (rn_gd (inb_nI hr8 (by decide)) (rn_gd (inb_nI (by omega) (by decide)) (rn_st ?_)))
              rw [nI_1]
              refine ih (r + 1) _ (by omega) (by omega) ?_
              rw [← ch_row]
              exact wc_65 hJ (by omega)
            · have hj : j < 20 := by omega
              obtain ⟨y, hy, ey⟩ := hB (r + 1) hr8 j hj
              have s64 : av (z_ch r j a) 64 (r + 1) j = nI y := by rw [av_ch, if_neg (by simp), if_neg (by omega), ey]
              rw [show (nI j).toNatClampNeg = j from nI_clamp (by omega), rc_64 hJ hr8 hj, s64, (b8 y hy).2, nI_1 j]
              refine rn_neg (nI_ge (b := 20) hj (by decide)) (rn_gd (inb_nI (by omega) (by decide)) (rn_gd (inb_nI hr8 (by decide)) (rn_gd (inb_nI hj (by decide)) (rn_st (ih2 (j + 1) _ (by omega) (by omega) ?_)))))
              rw [← ch_succ a hj, ey]
              exact wc_64 hJ (by omega) hj
        exact inner 1000 0 D (by omega) (by omega) hD
  unfold F_X1_dropFirst
  refine key 1000 0 C (by omega) (by omega) ?_
  rw [ch0]
  exact hR
theorem k_st26 {n m : Nat} {C : St} {a : AS} (hR : RC n C a) (hB : BY a) (hm : av a 68 0 0 = nI m) (hm0 : 0 < m) (hm8 : m ≤ 8) : Rn (F_X1_step_26 n C) (fun r D => r = 0 ∧ RC n D (z_p 6 (z_pop a))) := by
  unfold F_X1_step_26 F_X1_step_30
  refine rn_bd (k_drop hR hB hm hm0 hm8) ?_
  rintro _ D ⟨-, hD⟩
  refine rn_bd (k_p (s := 6) hD (by decide)) ?_
  rintro _ E ⟨-, hE⟩
  exact rn_ret ⟨rfl, hE⟩
theorem BY_eq {a b : AS} (h : BY a) (e : ∀ i j, av b 64 i j = av a 64 i j) : BY b := fun r hr i hi => by rw [e]; exact h r hr i hi
theorem k_cons {n L m t : Nat} {C : St} {a : AS} (hR : RC n C a) (hn : n ≤ 12) (hT : TX L a) (hN : (al a 2).Nodup) (hB : BY a) (ht : av a 68 0 0 = nI t) (ht0 : 0 < t) (ht8 : t ≤ 8) (hm : av a 69 0 0 = nI m) (hm2 : m < 2 ^ 29) : Rn (F_X1_step n C) (fun r D => r = 0 ∧ RC n D (z_cons n a)) := by
  unfold F_X1_step z_cons z_said
  rw [rc_68 hR, ht]
  refine rn_neg (show ¬ nI t ≤ nI 0 from nI_ge ht0 (by omega)) (rn_bd (k_obeys hR hn hT hN) ?_)
  rintro _ D ⟨rfl, hD⟩
  have o : ∀ g i j, g = 64 ∨ g = 68 ∨ g = 69 → av (z_obeys n a).2 g i j = av a g i j := fun g i j hg => vo_obeys (by omega) (by omega) (by omega) (by omega) (by omega) (by omega) (by omega)
  have h69 : av (z_obeys n a).2 69 0 0 = nI m := by rw [o 69 0 0 (by decide)]; exact hm
  have h68 : av (z_obeys n a).2 68 0 0 = nI t := by rw [o 68 0 0 (by decide)]; exact ht
  have hB2 : BY (z_obeys n a).2 := BY_eq hB (fun i j => o 64 i j (by decide))
  refine rn_if (fun e => ?_) (fun e => ?_)
  · rw [if_pos e]
    refine rn_bd (k_sayz (y := 63) hD h69 (by omega) rfl (by decide)) ?_
    rintro _ E ⟨-, hE⟩
    refine rn_bd (k_sayz (y := 10) hE (say69 h69) (by omega) rfl (by decide)) ?_
    rintro _ G ⟨-, hG⟩
    refine k_st26 hG (BY_eq hB2 (fun i j => ?_)) ?_ ht0 ht8
    · rw [vo_say (by decide) (by decide), vo_say (by decide) (by decide)]
    · rw [vo_say (by decide) (by decide), vo_say (by decide) (by decide)]
      exact h68
  · rw [if_neg e]
    exact k_st26 hD hB2 h68 ht0 ht8
