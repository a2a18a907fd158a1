/-! The class: the bank, granting -/
theorem smn_nil (a : AS) (r : Nat) : ∀ m, smn a [] r m = nv a 28 r 0 := by
  intro m
  induction m with
  | zero => rfl
  | succ m ih => simp [smn, ih]
theorem k_ace29 {n : Nat} {a : AS} (hB : BK a) : ∀ fu j D, 6 < fu + j → j ≤ 6 → RC n D a → (∀ k, k < j → D 22 0 0 k = if av a 14 k 0 = 2 then 0 else 1) → (∀ r, r < 3 → D 21 0 0 r = nI (nv a 28 r 0)) → Rn (F_X0_allCanEnd_29 n fu (nI (cu a [] j)) (nI j) D) (fun r E => r = (if safeB a = true then 1 else 0) ∧ RC n E a) := by
  intro fu
  induction fu with
  | zero => intro j D h1 h2; omega
  | succ fu ih =>
    intro j D h1 h2 hR h22 h21
    unfold F_X0_allCanEnd_29 F_X0_allCanEnd_91 F_X0_allCanEnd_67 F_X0_allCanEnd_83
    by_cases e : j = 6
    · subst e
      refine rn_pos (show (6 : Int32) ≤ nI 6 by decide) ?_
      refine k_ace93 hB 1000 0 [] D (by omega) (by omega) ⟨hR, fun k hk => ?_, fun r hr => ?_, trivial⟩ (Or.inr (Nat.zero_le _))
      · rw [h22 k hk]
        by_cases c : av a 14 k 0 = 2
        · rw [if_pos c, if_pos ⟨c, List.not_mem_nil⟩]
        · rw [if_neg c, if_neg (fun y => c y.1)]
      · rw [h21 r hr, smn_nil]
    · have hj : j < 6 := by omega
      refine rn_neg (nI_ge (b := 6) hj (by decide)) (rn_neg (nI_ge (b := 6) hj (by decide)) (rn_gd (inb_nI hj (by decide)) ?_))
      rw [nI_clamp (by omega), rc_14 hR hj, nI_1]
      have nxt : ∀ x : Int32, (x = if av a 14 j 0 = 2 then 0 else 1) → Rn (F_X0_allCanEnd_29 n fu (nI (cu a [] (j + 1))) (nI (j + 1)) (up D 22 0 0 j x)) (fun r E => r = (if safeB a = true then 1 else 0) ∧ RC n E a) := by
        intro x hx
        refine ih (j + 1) _ (by omega) (by omega) (RC_room hR (fun q b t c _ x2 => by rw [up_at, if_neg (fun y => x2 y.1)])) (fun k hk => ?_) (fun r hr => ?_)
        · rw [up_at]
          by_cases ek : k = j
          · subst ek
            rw [if_pos ⟨rfl, rfl, rfl, rfl⟩, hx]
          · rw [if_neg (by simp [ek])]
            exact h22 k (by omega)
        · rw [up_at, if_neg (by simp)]
          exact h21 r hr
      have e22 : ∀ x, up D 22 0 0 j x 22 0 0 j = x := fun x => by rw [up_at, if_pos ⟨rfl, rfl, rfl, rfl⟩]
      refine rn_if (fun c => ?_) (fun c => ?_)
      · refine rn_gd (inb_nI hj (by decide)) (rn_gd rfl (rn_st (rn_gd (inb_nI hj (by decide)) ?_)))
        rw [e22]
        refine rn_pos rfl ?_
        have := nxt 0 (by rw [if_pos c])
        simp only [cu] at this
        rw [if_pos ⟨c, List.not_mem_nil⟩] at this
        rw [nI_1]
        exact this
      · refine rn_gd (inb_nI hj (by decide)) (rn_gd rfl (rn_st (rn_gd (inb_nI hj (by decide)) ?_)))
        rw [e22]
        refine rn_neg (by decide) ?_
        have := nxt 1 (by rw [if_neg c])
        simp only [cu] at this
        rw [if_neg (fun y => c y.1), Nat.add_zero] at this
        rw [Int32.add_zero, nI_1]
        exact this
theorem k_ace {n : Nat} {a : AS} {C : St} (h : RC n C a) (hB : BK a) : Rn (F_X0_allCanEnd n C) (fun r E => r = (if safeB a = true then 1 else 0) ∧ RC n E a) := by
  have key : ∀ fu r D, 3 < fu + r → r ≤ 3 → RC n D a → (∀ q, q < r → D 21 0 0 q = nI (nv a 28 q 0)) → Rn (F_X0_allCanEnd_2 n fu (nI r) D) (fun r E => r = (if safeB a = true then 1 else 0) ∧ RC n E a) := by
    intro fu
    induction fu with
    | zero => intro r D h1 h2; omega
    | succ fu ih =>
      intro r D h1 h2 hR h3
      unfold F_X0_allCanEnd_2
      by_cases e : r = 3
      · subst e
        exact rn_pos (show (3 : Int32) ≤ nI 3 by decide) (k_ace29 hB 1000 0 D (by omega) (by omega) hR (fun k hk => absurd hk (Nat.not_lt_zero k)) h3)
      · have hr : r < 3 := by omega
        rw [nI_clamp (by omega), rc_28 hR hr, (hB.2 r hr).1, nI_1]
        refine rn_neg (nI_ge (b := 3) hr (by decide)) (rn_gd (inb_nI hr (by decide)) (rn_st (ih (r + 1) _ (by omega) (by omega) (RC_room hR (fun q b t c x1 _ => by rw [up_at, if_neg (fun y => x1 y.1)])) (fun q hq => ?_))))
        rw [up_at]
        by_cases eq : q = r
        · subst eq
          rw [if_pos ⟨rfl, rfl, rfl, rfl⟩]
        · rw [if_neg (by simp [eq])]
          exact h3 q (by omega)
  exact key 1000 0 C (by omega) (by omega) h (fun q hq => absurd hq (Nat.not_lt_zero q))
theorem move_back (k r : Nat) (a : AS) : z_move k r (-1) (z_move k r 1 a) = a := by
  refine as_ext (fun g b c => ?_) (fun q => rfl)
  unfold z_move
  have e1 : ∀ x : Int32, x + 1 + -1 = x := fun x => by
    have : (1 : Int32) + -1 = 0 := by decide
    rw [Int32.add_assoc, this, Int32.add_zero]
  have e2 : ∀ x : Int32, x - 1 - -1 = x := fun x => by
    have : (-1 : Int32) + - -1 = 0 := by decide
    rw [Int32.sub_eq_add_neg, Int32.sub_eq_add_neg, Int32.add_assoc, this, Int32.add_zero]
  have h27 : av (sv 27 k r (av a 27 k r + 1) (sv 28 r 0 (av a 28 r 0 - 1) a)) 27 k r = av a 27 k r + 1 := av_s
  have h28 : av (sv 27 k r (av a 27 k r + 1) (sv 28 r 0 (av a 28 r 0 - 1) a)) 28 r 0 = av a 28 r 0 - 1 := by rw [av_o (show 28 ≠ 27 by decide), av_s]
  rw [h27, h28, e1, e2, av_sv, av_sv, av_sv, av_sv]
  by_cases c1 : g = 27 ∧ b = k ∧ c = r
  · obtain ⟨rfl, rfl, rfl⟩ := c1
    rw [if_pos ⟨rfl, rfl, rfl⟩]
  · rw [if_neg c1]
    by_cases c2 : g = 28 ∧ b = r ∧ c = 0
    · obtain ⟨rfl, rfl, rfl⟩ := c2
      rw [if_pos ⟨rfl, rfl, rfl⟩]
    · rw [if_neg c2, if_neg c1, if_neg c2]
noncomputable def z_gr (k r : Nat) (a : AS) : Bool := decide (0 < av a 28 r 0) && safeB (z_move k r 1 a)
theorem k_grants {n k r : Nat} {x : Int32} {C : St} {a : AS} (h : RC n C a) (hk : k < 6) (hr : r < 3) (hx : x = nI r) (hB : 0 < av a 28 r 0 → BK (z_move k r 1 a)) : Rn (F_X0_grants n (nI k) x C) (fun y D => (z_gr k r a = true ∧ y = 1 ∧ RC n D (z_move k r 1 a)) ∨ (z_gr k r a = false ∧ y = 0 ∧ RC n D a)) := by
  unfold F_X0_grants
  refine rn_bdE (k_freeOf h hr hx) (rn_if (fun e => ?_) (fun e => ?_))
  · refine rn_bd (k_move h hk hr hx) ?_
    rintro _ D ⟨-, hD⟩
    refine rn_bd (k_ace hD (hB e)) ?_
    rintro y E ⟨rfl, hE⟩
    by_cases c : safeB (z_move k r 1 a) = true
    · rw [if_pos c]
      refine rn_neg (by decide) (rn_ret (Or.inl ⟨?_, rfl, hE⟩))
      unfold z_gr
      simp [e, c]
    · rw [if_neg c]
      refine rn_pos rfl (rn_bd (k_move hE hk hr hx) ?_)
      rintro _ G ⟨-, hG⟩
      rw [move_back] at hG
      refine rn_ret (Or.inr ⟨?_, rfl, hG⟩)
      unfold z_gr
      simp [c]
  · refine rn_ret (Or.inr ⟨?_, rfl, h⟩)
    unfold z_gr
    simp [e]
noncomputable def z_get (n k : Nat) (x : Int32) (a : AS) : AS :=
  if x < 0 ∨ ¬ x < 3 then z_trap k a
  else if av a 27 k x.toNatClampNeg < av a 26 k x.toNatClampNeg then (if z_gr k x.toNatClampNeg a = true then z_comp n k (av a 18 k 0 + 1) (z_move k x.toNatClampNeg 1 a) else z_susp k 6 (sl 2 (al a 2 ++ [k]) (sv 29 k 0 x a)))
  else sv 16 k 0 3 a
theorem lt3 {x : Int32} (h1 : ¬ x < 0) (h2 : x < 3) : ∃ r, r < 3 ∧ x = nI r := by
  obtain ⟨r, hr, e⟩ := nI_of h1
  refine ⟨r, ?_, e⟩
  subst e
  exact (nI_ltI (b := 3) hr (by decide)).mp h2
theorem vo_move {k r : Nat} {d : Int32} {a : AS} {g b c : Nat} (h : g ≠ 27) (h2 : g ≠ 28) : av (z_move k r d a) g b c = av a g b c := by
  unfold z_move
  rw [av_o h, av_o h2]
theorem k_get' {n k : Nat} {x : Int32} {C : St} {a : AS} (h : RC n C a) (hn : n ≤ 12) (hk : k < 6) (hl : (al a 2).length < 10) (hB : ∀ r, r < 3 → av a 27 k r < av a 26 k r → 0 < av a 28 r 0 → BK (z_move k r 1 a)) : Rn (F_X0_get n (nI k) x C) (fun r D => r = 0 ∧ RC n D (z_get n k x a)) := by
  unfold F_X0_get F_X0_get_9 F_X0_get_91 z_get
  have trap : Rn (gd (inb (nI k) 6) (st (up C 6 (nI k).toNatClampNeg 8 0 (4 : Int32)) (fun D2 => some (0, D2)))) (fun r D => r = 0 ∧ RC n D (z_trap k a)) := by
    rw [nI_clamp (by omega)]
    exact rn_gd (inb_nI hk (by decide)) (rn_st (rn_ret ⟨rfl, wc_16 h hk⟩))
  refine rn_if (fun e => ?_) (fun e => rn_if (fun e2 => ?_) (fun e2 => ?_))
  · rw [if_pos (Or.inl e)]
    exact trap
  · rw [if_neg (fun o => o.elim e (fun y => y e2))]
    obtain ⟨r, hr, rfl⟩ := lt3 e e2
    rw [nI_clamp (by omega), nI_clamp (by omega)]
    refine rn_gd (inb_nI hk (by decide)) (rn_bdE (k_held h hk hr rfl) (rn_bdE (k_claimed h hk hr rfl) (rn_if (fun e3 => ?_) (fun e3 => ?_))))
    · rw [if_pos e3]
      refine rn_bd (k_grants h hk hr rfl (hB r hr e3)) ?_
      rintro y D (⟨c, rfl, hD⟩ | ⟨c, rfl, hD⟩)
      · rw [if_pos c]
        refine rn_neg (by decide) ?_
        rw [rc_18 hD hk, vo_move (by decide) (by decide)]
        refine rn_bd (k_comp hD hn hk) ?_
        rintro _ E ⟨-, hE⟩
        exact rn_ret ⟨rfl, hE⟩
      · rw [if_neg (show ¬ z_gr k r a = true by rw [c]; decide)]
        refine rn_pos rfl (rn_st (rn_bd (k_add (q := 1) (wc_29 hD hk) (by decide) hk hl) ?_))
        rintro _ E ⟨-, hE⟩
        rw [k_num hE hk]
        refine rn_bd (k_susp hE (by omega)) ?_
        rintro _ G ⟨-, hG⟩
        exact rn_ret ⟨rfl, hG⟩
    · rw [if_neg e3]
      exact rn_st (rn_ret ⟨rfl, wc_16 h hk⟩)
  · rw [if_pos (Or.inr e2)]
    exact trap
/-- what is wanted of those who wait for a resource -/
def GW (a : AS) : Prop := BK a ∧ (al a 2).Nodup ∧ ∀ k ∈ al a 2, k < 6 ∧ nv a 29 k 0 < 3 ∧ av a 29 k 0 = nI (nv a 29 k 0) ∧ nv a 27 k (nv a 29 k 0) < nv a 26 k (nv a 29 k 0)
theorem nv_move {k r : Nat} {a : AS} (hB : BK a) (hk : k < 6) (hr : r < 3) (j q : Nat) : nv (z_move k r 1 a) 27 j q = if j = k ∧ q = r then nv a 27 k r + 1 else nv a 27 j q := by
  unfold z_move nv
  rw [av_sv]
  by_cases c : j = k ∧ q = r
  · rw [if_pos ⟨rfl, c.1, c.2⟩, if_pos c, (hB.1 k r hk hr).1, nI_1]
    have := hB.1 k r hk hr
    rw [nI_clamp (by omega), nI_clamp (by omega)]
  · rw [if_neg (fun y => c y.2), if_neg c, av_o (by decide)]
theorem BK_move {k r : Nat} {a : AS} (hB : BK a) (hk : k < 6) (hr : r < 3) (h1 : 0 < av a 28 r 0) (h2 : nv a 27 k r < nv a 26 k r) : BK (z_move k r 1 a) := by
  have hnm := nv_move hB hk hr
  have e26 : ∀ j q, nv (z_move k r 1 a) 26 j q = nv a 26 j q := fun j q => by unfold nv; rw [vo_move (by decide) (by decide)]
  refine ⟨fun j q hj hq => ?_, fun q hq => ?_⟩
  · obtain ⟨b1, b2, b3, b4⟩ := hB.1 j q hj hq
    rw [hnm, e26, vo_move (g := 26) (by decide) (by decide)]
    refine ⟨?_, b2, ?_, b4⟩
    · unfold z_move
      rw [av_sv]
      by_cases c : j = k ∧ q = r
      · rw [if_pos ⟨rfl, c.1, c.2⟩, if_pos c, (hB.1 k r hk hr).1, nI_1]
      · rw [if_neg (fun y => c y.2), if_neg c, av_o (by decide)]
        exact b1
    · by_cases c : j = k ∧ q = r
      · obtain ⟨rfl, rfl⟩ := c
        rw [if_pos ⟨rfl, rfl⟩]
        omega
      · rw [if_neg c]
        exact b3
  · obtain ⟨b1, b2⟩ := hB.2 q hq
    have e28 : av (z_move k r 1 a) 28 q 0 = if q = r then av a 28 r 0 - 1 else av a 28 q 0 := by
      unfold z_move
      rw [av_o (by decide), av_sv]
      by_cases c : q = r
      · rw [if_pos ⟨rfl, c, rfl⟩, if_pos c]
      · rw [if_neg (fun y => c y.2.1), if_neg c]
    by_cases c : q = r
    · subst c
      rw [if_pos rfl] at e28
      rw [b1] at h1
      have h0 : 0 < nv a 28 q 0 := by
        refine Nat.pos_of_ne_zero fun h => ?_
        rw [h] at h1
        exact absurd h1 (by decide)
      obtain ⟨m, hm⟩ : ∃ m, nv a 28 q 0 = m + 1 := ⟨nv a 28 q 0 - 1, by omega⟩
      rw [b1, hm, nI_pred] at e28
      have e29 : nv (z_move k q 1 a) 28 q 0 = m := by
        unfold nv
        rw [e28, nI_clamp (by omega)]
      rw [e29, e28]
      exact ⟨rfl, by omega⟩
    · rw [if_neg c] at e28
      have e29 : nv (z_move k r 1 a) 28 q 0 = nv a 28 q 0 := by
        unfold nv
        rw [e28]
      rw [e29, e28]
      exact ⟨b1, b2⟩
/-- the step in which a waiting job gets what it waits for -/
def z_have (n k r : Nat) (l : List Nat) (a : AS) : AS := z_wake k (z_comp n k (av a 18 k 0 + 1) (sl 2 l (z_move k r 1 a)))
theorem vo_have {n k r : Nat} {l : List Nat} {a : AS} {g b c : Nat} (h1 : g ≠ 10) (h2 : g ≠ 17) (h3 : g ≠ 18) (h4 : g ≠ 43) : av (z_have n k r l a) g b c = av (z_move k r 1 a) g b c := by
  unfold z_have
  rw [vo_wake h1, vo_comp h4 h3 h2, av_sl]
theorem lo_have {n k r : Nat} {l : List Nat} {a : AS} {q : Nat} (h1 : q ≠ 0) : al (z_have n k r l a) q = if q = 2 then l else al a q := by
  unfold z_have
  rw [lo_wake h1, al_comp, al_sl]
  rfl
theorem GW_have {n k : Nat} {pre t : List Nat} {a : AS} (h : GW a) (hl : al a 2 = pre ++ k :: t) (h1 : 0 < av a 28 (nv a 29 k 0) 0) : GW (z_have n k (nv a 29 k 0) (pre ++ t) a) := by
  obtain ⟨hB, hN, hG⟩ := h
  have hkm : k ∈ al a 2 := by rw [hl]; simp
  obtain ⟨g1, g2, g3, g4⟩ := hG k hkm
  have hB2 := BK_move hB g1 g2 h1 g4
  have e : ∀ g, g ≠ 10 → g ≠ 17 → g ≠ 18 → g ≠ 43 → ∀ b c, av (z_have n k (nv a 29 k 0) (pre ++ t) a) g b c = av (z_move k (nv a 29 k 0) 1 a) g b c := fun g x1 x2 x3 x4 b c => vo_have x1 x2 x3 x4
  have en : ∀ g, g ≠ 10 → g ≠ 17 → g ≠ 18 → g ≠ 43 → ∀ b c, nv (z_have n k (nv a 29 k 0) (pre ++ t) a) g b c = nv (z_move k (nv a 29 k 0) 1 a) g b c := fun g x1 x2 x3 x4 b c => by
    unfold nv
    rw [vo_have x1 x2 x3 x4]
  have e2 : al (z_have n k (nv a 29 k 0) (pre ++ t) a) 2 = pre ++ t := by rw [lo_have (by decide), if_pos rfl]
  rw [hl] at hN
  have hnd : (pre ++ t).Nodup ∧ k ∉ pre ++ t := by
    rw [List.nodup_append] at hN
    obtain ⟨n1, n2, n3⟩ := hN
    rw [List.nodup_cons] at n2
    refine ⟨List.nodup_append.mpr ⟨n1, n2.2, fun x hx y hy => n3 x hx y (List.mem_cons_of_mem _ hy)⟩, fun hm => ?_⟩
    rcases List.mem_append.mp hm with hm | hm
    · exact n3 k hm k List.mem_cons_self rfl
    · exact n2.1 hm
  refine ⟨⟨fun j q hj hq => ?_, fun q hq => ?_⟩, ?_, fun j hj => ?_⟩
  · rw [e 27 (by decide) (by decide) (by decide) (by decide), e 26 (by decide) (by decide) (by decide) (by decide), en 27 (by decide) (by decide) (by decide) (by decide), en 26 (by decide) (by decide) (by decide) (by decide)]
    exact hB2.1 j q hj hq
  · rw [e 28 (by decide) (by decide) (by decide) (by decide), en 28 (by decide) (by decide) (by decide) (by decide)]
    exact hB2.2 q hq
  · rw [e2]; exact hnd.1
  · rw [e2] at hj
    have hjk : j ≠ k := fun ee => hnd.2 (ee ▸ hj)
    have hja : j ∈ al a 2 := by
      rw [hl]
      rcases List.mem_append.mp hj with hm | hm
      · exact List.mem_append_left _ hm
      · exact List.mem_append_right _ (List.mem_cons_of_mem _ hm)
    obtain ⟨j1, j2, j3, j4⟩ := hG j hja
    have v29 : nv (z_have n k (nv a 29 k 0) (pre ++ t) a) 29 j 0 = nv a 29 j 0 := by
      rw [en 29 (by decide) (by decide) (by decide) (by decide)]
      unfold nv
      rw [vo_move (by decide) (by decide)]
    have v26 : nv (z_have n k (nv a 29 k 0) (pre ++ t) a) 26 j (nv a 29 j 0) = nv a 26 j (nv a 29 j 0) := by
      rw [en 26 (by decide) (by decide) (by decide) (by decide)]
      unfold nv
      rw [vo_move (by decide) (by decide)]
    rw [v29, v26, en 27 (by decide) (by decide) (by decide) (by decide), nv_move hB g1 g2, if_neg (fun y => hjk y.1), e 29 (by decide) (by decide) (by decide) (by decide), vo_move (by decide) (by decide)]
    exact ⟨j1, j2, j3, j4⟩
noncomputable def z_gtw (n : Nat) : List Nat → List Nat → AS → AS
  | _, [], a => a
  | pre, k :: t, a => if z_gr k (nv a 29 k 0) a = true then z_gtw n pre t (z_have n k (nv a 29 k 0) (pre ++ t) a) else z_gtw n (pre ++ [k]) t a
theorem gr_free {k r : Nat} {a : AS} (h : z_gr k r a = true) : 0 < av a 28 r 0 := by
  unfold z_gr at h
  simp at h
  exact h.1
theorem lt_nv {a : AS} (hB : BK a) {k r : Nat} (hk : k < 6) (hr : r < 3) : av a 27 k r < av a 26 k r ↔ nv a 27 k r < nv a 26 k r := by
  obtain ⟨b1, b2, b3, b4⟩ := hB.1 k r hk hr
  rw [b1, b2]
  have c1 : nv a 27 k r < 2 ^ 31 := by omega
  have c2 : nv a 26 k r < 2 ^ 31 := by omega
  generalize nv a 27 k r = u at *
  generalize nv a 26 k r = v at *
  exact nI_ltI c1 c2
theorem k_gtw12 {n : Nat} (hn : n ≤ 12) : ∀ rest pre a C fu i, RC n C a → GW a → al a 2 = pre ++ rest → rest.length < fu → i + rest.length < 1000 → pre.length < 1000 → Rn (F_X0_grantWaiting_12 n fu (nI pre.length) (nI (i + rest.length)) (nI i) C) (fun r D => r = 0 ∧ RC n D (z_gtw n pre rest a)) := by
  intro rest
  induction rest with
  | nil =>
    intro pre a C fu i h hG hl hf hi hp
    obtain ⟨fu, rfl⟩ : ∃ g, fu = g + 1 := ⟨fu - 1, by omega⟩
    unfold F_X0_grantWaiting_12 F_X0_grantWaiting_104
    exact rn_pos (nI_le (by simp) (by simp at hi; omega)) (rn_ret ⟨rfl, h⟩)
  | cons k t ih =>
    intro pre a C fu i h hG hl hf hi hp
    simp only [List.length_cons] at hf hi
    obtain ⟨fu, rfl⟩ : ∃ g, fu = g + 1 := ⟨fu - 1, by omega⟩
    unfold F_X0_grantWaiting_12 F_X0_grantWaiting_104 F_X0_grantWaiting_98
    have hl1 : al a (1 + 1) = pre ++ k :: t := hl
    have hkm : k ∈ al a 2 := by rw [hl]; simp
    obtain ⟨g1, g2, g3, g4⟩ := hG.2.2 k hkm
    have hget : (al a (1 + 1))[pre.length]? = some k := by
      rw [hl1, List.getElem?_append_right (Nat.le_refl _)]
      simp
    simp only [List.length_cons]
    refine rn_neg (nI_ge (by omega) (by omega)) (rn_bdE (k_size (q := 1) h (by decide)) ?_)
    rw [hl1]
    refine rn_neg (nI_ge (by simp) (by simp; omega)) (rn_bdE (k_get (q := 1) h (by decide) hget) ?_)
    refine rn_gd (okr_nI g1 (by decide)) (rn_gd (inb_nI g1 (by decide)) ?_)
    rw [nI_clamp (by omega), rc_29 h g1]
    refine rn_bd (k_grants h g1 g2 g3 (fun h0 => BK_move hG.1 g1 g2 h0 g4)) ?_
    rintro y D (⟨c, rfl, hD⟩ | ⟨c, rfl, hD⟩)
    · refine rn_neg (by decide) ?_
      have hget2 : (al (z_move k (nv a 29 k 0) 1 a) (1 + 1))[pre.length]? = some k := hget
      refine rn_bd (k_remove (q := 1) hD (by decide) hget2) ?_
      rintro _ E ⟨-, hE⟩
      have el : (al (z_move k (nv a 29 k 0) 1 a) (1 + 1)).eraseIdx pre.length = pre ++ t := by
        have : al (z_move k (nv a 29 k 0) 1 a) (1 + 1) = pre ++ k :: t := hl
        rw [this, List.eraseIdx_append_of_length_le (Nat.le_refl _)]
        simp
      rw [el] at hE
      have hE : RC n E (sl 2 (pre ++ t) (z_move k (nv a 29 k 0) 1 a)) := hE
      rw [rc_18 hE g1, av_sl, vo_move (by decide) (by decide)]
      refine rn_bd (k_comp hE hn g1) ?_
      rintro _ J ⟨-, hJ⟩
      rw [k_num hJ g1]
      refine rn_bd (k_wake hJ (by omega)) ?_
      rintro _ L ⟨-, hL⟩
      rw [nI_1]
      rw [z_gtw, if_pos c]
      have e1 : i + (t.length + 1) = (i + 1) + t.length := by omega
      rw [e1]
      refine ih pre _ L fu (i + 1) hL (GW_have hG hl (gr_free c)) ?_ (by omega) (by omega) hp
      rw [lo_have (by decide), if_pos rfl]
    · refine rn_pos rfl ?_
      rw [nI_1, nI_1, z_gtw, if_neg (by rw [c]; decide)]
      have e1 : i + (t.length + 1) = (i + 1) + t.length := by omega
      have e2 : pre.length + 1 = (pre ++ [k]).length := by simp
      have hlen := (h.2.2.2.2 1 (by decide)).2.1
      rw [hl1] at hlen
      simp at hlen
      rw [e1, e2]
      exact ih (pre ++ [k]) a D fu (i + 1) hD hG (by rw [hl]; simp) (by omega) (by omega) (by simp; omega)
theorem k_gtw {n : Nat} {C : St} {a : AS} (h : RC n C a) (hn : n ≤ 12) (hG : GW a) : Rn (F_X0_grantWaiting n C) (fun r D => r = 0 ∧ RC n D (z_gtw n [] (al a 2) a)) := by
  unfold F_X0_grantWaiting
  refine rn_bdE (k_size (q := 1) h (by decide)) ?_
  have hlen := (h.2.2.2.2 1 (by decide)).2.1
  have hlen : (al a 2).length ≤ 10 := hlen
  have := k_gtw12 hn (al a 2) [] a C 1000 0 h hG (by simp) (by omega) (by omega) (by simp)
  rw [Nat.zero_add] at this
  exact this
/-- true when something came free -/
def z_tb (n k : Nat) (x : Int32) (a : AS) : Int32 × AS :=
  if x < 0 ∨ (3 : Int32) ≤ x then (0, z_trap k a)
  else if 0 < av a 27 k x.toNatClampNeg then (if ¬ x = 0 ∧ ¬ av a 34 k 0 ≤ 0 then (0, z_susp k 4 a) else (1, z_comp n k (av a 18 k 0 + 1) (z_move k x.toNatClampNeg (-1) a)))
  else (0, z_trap k a)
theorem k_tb {n k : Nat} {x : Int32} {C : St} {a : AS} (h : RC n C a) (hn : n ≤ 12) (hk : k < 6) : Rn (F_X0_takesBack n (nI k) x C) (fun r D => r = (z_tb n k x a).1 ∧ RC n D (z_tb n k x a).2) := by
  unfold F_X0_takesBack F_X0_takesBack_17 F_X0_takesBack_52 z_tb F_X8_size
  have ekk : (nI k).toNatClampNeg = k := nI_clamp (by omega)
  rw [ekk]
  have trap : Rn (gd (inb (nI k) 6) (st (up C 6 k 8 0 (4 : Int32)) (fun D2 => some (0, D2)))) (fun r D => r = 0 ∧ RC n D (z_trap k a)) := by
    exact rn_gd (inb_nI hk (by decide)) (rn_st (rn_ret ⟨rfl, wc_16 h hk⟩))
  refine rn_if (fun e => ?_) (fun e => rn_if (fun e2 => ?_) (fun e2 => ?_))
  · rw [if_pos (Or.inl e)]
    exact trap
  · rw [if_pos (Or.inr e2)]
    exact trap
  · rw [if_neg (fun o => o.elim e e2)]
    obtain ⟨r, hr, rfl⟩ := lt3 e (Int32.not_le.mp e2)
    have mv : Rn (bd2 (F_X0_move n (nI k) (nI r) (-1) C) (fun r1 D2 => gd (inb (nI k) 6) (bd2 (F_X2_complete n (nI k) ((D2 6 k 12 0) + (1 : Int32)) D2) (fun r5 D6 => some ((1 : Int32), D6))))) (fun r' D => r' = 1 ∧ RC n D (z_comp n k (av a 18 k 0 + 1) (z_move k r (-1) a))) := by
      refine rn_bd (k_move h hk hr rfl) ?_
      rintro _ D ⟨-, hD⟩
      rw [rc_18 hD hk, vo_move (by decide) (by decide)]
      refine rn_gd (inb_nI hk (by decide)) (rn_bd (k_comp hD hn hk) ?_)
      rintro _ E ⟨-, hE⟩
      exact rn_ret ⟨rfl, hE⟩
    have ecl : (nI r).toNatClampNeg = r := nI_clamp (by omega)
    refine rn_gd (inb_nI hk (by decide)) (rn_bdE (k_held h hk hr rfl) (rn_if (fun e3 => ?_) (fun e3 => ?_)))
    · rw [ecl, if_pos e3]
      refine rn_if (fun e4 => ?_) (fun e4 => rn_bdE rfl ?_)
      · rw [if_neg (fun o => o.1 e4)]
        exact mv
      · rw [rc_34 h hk]
        refine rn_if (fun e5 => ?_) (fun e5 => ?_)
        · rw [if_neg (fun o => o.2 e5)]
          exact mv
        · rw [if_pos ⟨e4, e5⟩, k_num h hk]
          refine rn_bd (k_susp h (by omega)) ?_
          rintro _ D ⟨-, hD⟩
          exact rn_ret ⟨rfl, hD⟩
    · rw [ecl, if_neg e3]
      exact trap
theorem k_leaveRow {n k : Nat} {C : St} {a : AS} (h : RC n C a) (hk : k < 6) (hN : (al a 2).Nodup) : Rn (F_X0_leaveRow n (nI k) C) (fun r D => r = 0 ∧ RC n D (sl 2 ((al a 2).erase k) a)) := by
  have hlen := (h.2.2.2.2 1 (by decide)).2.1
  have hlen : (al a 2).length ≤ 10 := hlen
  have hb := (h.2.2.2.2 1 (by decide)).2.2.1
  have hb : ∀ p ∈ al a 2, p < 6 := hb
  have key : ∀ fu i, (al a 2).length < fu + i → i ≤ (al a 2).length → (∀ j, j < i → (al a 2)[j]? ≠ some k) → Rn (F_X0_leaveRow_2 n fu (nI k) (nI i) C) (fun r D => r = 0 ∧ RC n D (sl 2 ((al a 2).erase k) a)) := by
    intro fu
    induction fu with
    | zero => intro i h1 h2; omega
    | succ fu ih =>
      intro i h1 h2 h3
      unfold F_X0_leaveRow_2
      refine rn_bdE (k_size (q := 1) h (by decide)) ?_
      have e12 : al a (1 + 1) = al a 2 := rfl
      rw [e12]
      by_cases e : i = (al a 2).length
      · subst e
        refine rn_pos (nI_le (Nat.le_refl _) (by omega)) (rn_ret ⟨rfl, ?_⟩)
        have hm : k ∉ al a 2 := by
          intro hm
          obtain ⟨j, hj, e⟩ := List.getElem_of_mem hm
          exact h3 j hj (by rw [List.getElem?_eq_getElem hj, e])
        rw [List.erase_of_not_mem hm]
        have e : sl 2 (al a 2) a = a := as_ext (fun _ _ _ => rfl) (fun q => by rw [al_sl]; split <;> simp_all)
        rw [e]
        exact h
      · have hi : i < (al a 2).length := by omega
        have hg : (al a 2)[i]? = some (al a 2)[i] := List.getElem?_eq_getElem hi
        have hj6 := hb _ (List.getElem_mem hi)
        refine rn_neg (nI_ge hi (by omega)) (rn_bdE (k_get (q := 1) h (by decide) hg) (rn_gd (okr_nI hj6 (by decide)) (rn_gd (okr_nI hk (by decide)) (rn_if (fun e2 => ?_) (fun e2 => ?_)))))
        · have ek : (al a 2)[i] = k := (nI_eq (by omega) (by omega)).mp e2
          refine rn_bd (k_remove (q := 1) h (by decide) hg) ?_
          rintro _ D ⟨-, hD⟩
          refine rn_ret ⟨rfl, ?_⟩
          rw [ek] at hg
          rw [erase_idx hN hg]
          exact hD
        · rw [nI_1]
          refine ih (i + 1) (by omega) (by omega) (fun j hj => ?_)
          by_cases ej : j = i
          · subst ej
            rw [hg]
            intro e3
            injection e3 with e3
            exact e2 (by rw [e3])
          · exact h3 j (by omega)
  exact key 1000 0 (by omega) (by omega) (fun j hj => absurd hj (Nat.not_lt_zero j))
