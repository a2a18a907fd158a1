/-! THE INVARIANT, group B: what is held, what is free -/
def hv (a : AS) (k r : Nat) : Nat := if av a 14 k 0 = 2 then nv a 27 k r else 0
def hs (a : AS) (r : Nat) : Nat := hv a 0 r + hv a 1 r + hv a 2 r + hv a 3 r + hv a 4 r + hv a 5 r
def tt (pg r : Nat) : Nat := if r = 2 then pg else 1
def GB (a : AS) : Prop := ∃ pg, av a 1 0 0 = nI pg ∧ 1 ≤ pg ∧ pg ≤ 6 ∧
  (∀ k r, k < 6 → r < 3 → av a 27 k r = nI (nv a 27 k r) ∧ av a 26 k r = nI (nv a 26 k r) ∧ nv a 27 k r ≤ nv a 26 k r ∧ nv a 26 k r ≤ tt pg r) ∧
  (∀ r, r < 3 → av a 28 r 0 = nI (nv a 28 r 0) ∧ nv a 28 r 0 + hs a r = tt pg r) ∧
  (∀ k, k < 6 → av a 14 k 0 = 1 → ∀ r, r < 3 → nv a 27 k r = 0)
theorem tt_le {pg r : Nat} (h1 : 1 ≤ pg) (h2 : pg ≤ 6) : tt pg r ≤ 6 := by unfold tt; split <;> omega
theorem hs_one {a b : AS} {k r : Nat} (hk : k < 6) (e : ∀ j, j < 6 → j ≠ k → hv b j r = hv a j r) : hs b r + hv a k r = hs a r + hv b k r := by
  unfold hs
  have e0 := e 0 (by decide)
  have e1 := e 1 (by decide)
  have e2 := e 2 (by decide)
  have e3 := e 3 (by decide)
  have e4 := e 4 (by decide)
  have e5 := e 5 (by decide)
  have hc : k = 0 ∨ k = 1 ∨ k = 2 ∨ k = 3 ∨ k = 4 ∨ k = 5 := by omega
  rcases hc with rfl | rfl | rfl | rfl | rfl | rfl <;> simp at e0 e1 e2 e3 e4 e5 <;> omega
theorem hs_eq {a b : AS} {r : Nat} (e : ∀ j, j < 6 → hv b j r = hv a j r) : hs b r = hs a r := by
  unfold hs
  rw [e 0 (by decide), e 1 (by decide), e 2 (by decide), e 3 (by decide), e 4 (by decide), e 5 (by decide)]
theorem hv_le {a : AS} {k r : Nat} (hk : k < 6) : hv a k r ≤ hs a r := by
  unfold hs
  have hc : k = 0 ∨ k = 1 ∨ k = 2 ∨ k = 3 ∨ k = 4 ∨ k = 5 := by omega
  rcases hc with rfl | rfl | rfl | rfl | rfl | rfl <;> omega
theorem hv_two {a : AS} {j k r : Nat} (hj : j < 6) (hk : k < 6) (hn : j ≠ k) : hv a j r + hv a k r ≤ hs a r := by
  unfold hs
  have hc : k = 0 ∨ k = 1 ∨ k = 2 ∨ k = 3 ∨ k = 4 ∨ k = 5 := by omega
  have hd : j = 0 ∨ j = 1 ∨ j = 2 ∨ j = 3 ∨ j = 4 ∨ j = 5 := by omega
  rcases hc with rfl | rfl | rfl | rfl | rfl | rfl <;> rcases hd with rfl | rfl | rfl | rfl | rfl | rfl <;> omega
theorem GB_bk {a : AS} (h : GB a) : BK a := by
  obtain ⟨pg, h1, h2, h3, h4, h5, h6⟩ := h
  refine ⟨fun k r hk hr => ?_, fun r hr => ?_⟩
  · obtain ⟨q1, q2, q3, q4⟩ := h4 k r hk hr
    have := tt_le (r := r) h2 h3
    exact ⟨q1, q2, q3, by omega⟩
  · obtain ⟨q1, q2⟩ := h5 r hr
    have := tt_le (r := r) h2 h3
    exact ⟨q1, by omega⟩
theorem nve {a b : AS} {f i j : Nat} (e : av b f i j = av a f i j) : nv b f i j = nv a f i j := by unfold nv; rw [e]
theorem nvI {a : AS} {f i j m : Nat} (e : av a f i j = nI m) (hm : m < 2 ^ 31) : nv a f i j = m := by unfold nv; rw [e, nI_clamp hm]
theorem hve {a b : AS} {k r : Nat} (e : av b 14 k 0 = av a 14 k 0) (e2 : av b 27 k r = av a 27 k r) : hv b k r = hv a k r := by
  unfold hv
  rw [e, nve e2]
theorem GB_eq {a b : AS} (h : GB a) (e : ∀ g, g = 1 ∨ g = 14 ∨ g = 26 ∨ g = 27 ∨ g = 28 → ∀ i j, av b g i j = av a g i j) : GB b := by
  obtain ⟨pg, h1, h2, h3, h4, h5, h6⟩ := h
  have e27 := e 27 (by decide)
  have e26 := e 26 (by decide)
  have e28 := e 28 (by decide)
  have e14 := e 14 (by decide)
  refine ⟨pg, by rw [e 1 (by decide)]; exact h1, h2, h3, fun k r hk hr => ?_, fun r hr => ?_, fun k hk y r hr => ?_⟩
  · rw [e27, e26, nve (e27 k r), nve (e26 k r)]
    exact h4 k r hk hr
  · rw [e28, nve (e28 r 0), hs_eq (fun j _ => hve (e14 j 0) (e27 j r))]
    exact h5 r hr
  · rw [e14] at y
    rw [nve (e27 k r)]
    exact h6 k hk y r hr
theorem GB_mv {a b : AS} {k r m f : Nat} (h : GB a) (hk : k < 6) (hr : r < 3) (h14 : av a 14 k 0 = 2) (e : ∀ g, g = 1 ∨ g = 14 ∨ g = 26 → ∀ i j, av b g i j = av a g i j) (e27 : ∀ j q, av b 27 j q = if j = k ∧ q = r then nI m else av a 27 j q) (e28 : ∀ q, av b 28 q 0 = if q = r then nI f else av a 28 q 0) (hm : m ≤ nv a 26 k r) (hmf : m + f = nv a 27 k r + nv a 28 r 0) : GB b := by
  obtain ⟨pg, h1, h2, h3, h4, h5, h6⟩ := h
  have e26 := e 26 (by decide)
  have e14 := e 14 (by decide)
  have ht := tt_le (r := r) h2 h3
  obtain ⟨k1, k2, k3, k4⟩ := h4 k r hk hr
  obtain ⟨f1, f2⟩ := h5 r hr
  have hvk : hv a k r = nv a 27 k r := if_pos h14
  have hle := hv_le (a := a) (k := k) (r := r) hk
  have n27 : ∀ j q, nv b 27 j q = if j = k ∧ q = r then m else nv a 27 j q := fun j q => by
    unfold nv
    rw [e27]
    split
    · exact nI_clamp (by omega)
    · rfl
  have n28 : ∀ q, nv b 28 q 0 = if q = r then f else nv a 28 q 0 := fun q => by
    unfold nv
    rw [e28]
    split
    · exact nI_clamp (by omega)
    · rfl
  have hvb : ∀ j q, hv b j q = if j = k ∧ q = r then m else hv a j q := fun j q => by
    unfold hv
    rw [e14, n27]
    by_cases c : j = k ∧ q = r
    · rw [if_pos c, if_pos c, c.1, if_pos h14]
    · rw [if_neg c, if_neg c]
  refine ⟨pg, by rw [e 1 (by decide)]; exact h1, h2, h3, fun j q hj hq => ?_, fun q hq => ?_, fun j hj y q hq => ?_⟩
  · obtain ⟨q1, q2, q3, q4⟩ := h4 j q hj hq
    rw [e27, e26, n27, nve (e26 j q)]
    by_cases c : j = k ∧ q = r
    · obtain ⟨rfl, rfl⟩ := c
      rw [if_pos ⟨rfl, rfl⟩, if_pos ⟨rfl, rfl⟩]
      exact ⟨rfl, q2, hm, q4⟩
    · rw [if_neg c, if_neg c]
      exact ⟨q1, q2, q3, q4⟩
  · obtain ⟨q1, q2⟩ := h5 q hq
    rw [e28, n28]
    by_cases c : q = r
    · subst c
      rw [if_pos rfl, if_pos rfl]
      have := hs_one (a := a) (b := b) (r := q) hk (fun j _ hj => by rw [hvb, if_neg (fun y => hj y.1)])
      rw [hvb, if_pos ⟨rfl, rfl⟩] at this
      exact ⟨rfl, by omega⟩
    · rw [if_neg c, if_neg c, hs_eq (a := a) (b := b) (fun j _ => by rw [hvb, if_neg (fun y => c y.2)])]
      exact ⟨q1, q2⟩
  · rw [e14] at y
    rw [n27]
    by_cases c : j = k ∧ q = r
    · rw [c.1, h14] at y
      exact absurd y (by decide)
    · rw [if_neg c]
      exact h6 j hj y q hq
theorem GB_admit {a b : AS} {k : Nat} (h : GB a) (hk : k < 6) (h14 : av a 14 k 0 = 1) (e : ∀ g, g = 1 ∨ g = 26 ∨ g = 27 ∨ g = 28 → ∀ i j, av b g i j = av a g i j) (e14 : ∀ j, av b 14 j 0 = if j = k then 2 else av a 14 j 0) : GB b := by
  obtain ⟨pg, h1, h2, h3, h4, h5, h6⟩ := h
  have e27 := e 27 (by decide)
  have e26 := e 26 (by decide)
  have e28 := e 28 (by decide)
  refine ⟨pg, by rw [e 1 (by decide)]; exact h1, h2, h3, fun j r hj hr => ?_, fun r hr => ?_, fun j hj y r hr => ?_⟩
  · rw [e27, e26, nve (e27 j r), nve (e26 j r)]
    exact h4 j r hj hr
  · rw [e28, nve (e28 r 0), hs_eq (a := a) (fun j hj => ?_)]
    · exact h5 r hr
    · by_cases c : j = k
      · subst c
        unfold hv
        rw [e14, if_pos rfl, if_pos rfl, nve (e27 j r), h14, if_neg (by decide), h6 j hj h14 r hr]
      · exact hve (by rw [e14, if_neg c]) (e27 j r)
  · rw [e14] at y
    rw [nve (e27 j r)]
    by_cases c : j = k
    · rw [if_pos c] at y
      exact absurd y (by decide)
    · rw [if_neg c] at y
      exact h6 j hj y r hr
theorem GB_over {a b : AS} {k : Nat} (h : GB a) (hk : k < 6) (h14 : av a 14 k 0 = 2) (e : ∀ g, g = 1 ∨ g = 26 ∨ g = 27 → ∀ i j, av b g i j = av a g i j) (e14 : ∀ j, av b 14 j 0 = if j = k then 3 else av a 14 j 0) (e28 : ∀ r, r < 3 → av b 28 r 0 = av a 28 r 0 + av a 27 k r) : GB b := by
  obtain ⟨pg, h1, h2, h3, h4, h5, h6⟩ := h
  have e27 := e 27 (by decide)
  have e26 := e 26 (by decide)
  refine ⟨pg, by rw [e 1 (by decide)]; exact h1, h2, h3, fun j r hj hr => ?_, fun r hr => ?_, fun j hj y r hr => ?_⟩
  · rw [e27, e26, nve (e27 j r), nve (e26 j r)]
    exact h4 j r hj hr
  · have ht := tt_le (r := r) h2 h3
    obtain ⟨f1, f2⟩ := h5 r hr
    obtain ⟨k1, k2, k3, k4⟩ := h4 k r hk hr
    have hvk : hv a k r = nv a 27 k r := if_pos h14
    have hle := hv_le (a := a) (k := k) (r := r) hk
    have hvb : hv b k r = 0 := by
      unfold hv
      rw [e14, if_pos rfl, if_neg (by decide)]
    have := hs_one (a := a) (b := b) (r := r) hk (fun j _ hj => hve (by rw [e14, if_neg hj]) (e27 j r))
    have e28' : av b 28 r 0 = nI (nv a 28 r 0 + nv a 27 k r) := by
      rw [e28 r hr, f1, k1, nI_add]
    rw [nvI e28' (by omega), e28']
    exact ⟨rfl, by omega⟩
  · rw [e14] at y
    rw [nve (e27 j r)]
    by_cases c : j = k
    · rw [if_pos c] at y
      exact absurd y (by decide)
    · rw [if_neg c] at y
      exact h6 j hj y r hr
theorem GB_sub {a b : AS} {k : Nat} (h : GB a) (hk : k < 6) (h14 : ¬ av a 14 k 0 = 2) (e1 : av b 1 0 0 = av a 1 0 0) (e28 : ∀ r, av b 28 r 0 = av a 28 r 0) (e14 : ∀ j, av b 14 j 0 = if j = k then 1 else av a 14 j 0) (e27 : ∀ j r, r < 3 → av b 27 j r = if j = k then 0 else av a 27 j r) (e26 : ∀ j r, j ≠ k → av b 26 j r = av a 26 j r) (hc : ∀ pg r, av a 1 0 0 = nI pg → pg ≤ 6 → 1 ≤ pg → r < 3 → ∃ m, av b 26 k r = nI m ∧ m ≤ tt pg r) : GB b := by
  obtain ⟨pg, h1, h2, h3, h4, h5, h6⟩ := h
  have n27 : ∀ j r, r < 3 → nv b 27 j r = if j = k then 0 else nv a 27 j r := fun j r hr => by
    unfold nv
    rw [e27 j r hr]
    split <;> rfl
  refine ⟨pg, by rw [e1]; exact h1, h2, h3, fun j r hj hr => ?_, fun r hr => ?_, fun j hj y r hr => ?_⟩
  · by_cases c : j = k
    · subst c
      have ht := tt_le (r := r) h2 h3
      obtain ⟨m, m1, m2⟩ := hc pg r h1 h3 h2 hr
      rw [n27 j r hr, e27 j r hr, if_pos rfl, if_pos rfl, nvI m1 (by omega)]
      exact ⟨rfl, m1, by omega, m2⟩
    · rw [n27 j r hr, e27 j r hr, if_neg c, if_neg c, nve (e26 j r c), e26 j r c]
      exact h4 j r hj hr
  · rw [e28, nve (e28 r), hs_eq (a := a) (fun j hj => ?_)]
    · exact h5 r hr
    · by_cases c : j = k
      · subst c
        unfold hv
        rw [e14, if_pos rfl, if_neg (by decide), if_neg h14]
      · exact hve (by rw [e14, if_neg c]) (by rw [e27 j r hr, if_neg c])
  · rw [e14] at y
    rw [n27 j r hr]
    by_cases c : j = k
    · rw [if_pos c]
    · rw [if_neg c] at y ⊢
      exact h6 j hj y r hr
theorem GB_in {a : AS} {k r : Nat} {b : AS} (h : GB a) (hk : k < 6) (hr : r < 3) (h14 : av a 14 k 0 = 2) (h1 : 0 < av a 28 r 0) (h2 : nv a 27 k r < nv a 26 k r) (e : ∀ g, g = 1 ∨ g = 14 ∨ g = 26 ∨ g = 27 ∨ g = 28 → ∀ i j, av b g i j = av (z_move k r 1 a) g i j) : GB b := by
  have hB := GB_bk h
  obtain ⟨b1, b2, b3, b4⟩ := hB.1 k r hk hr
  obtain ⟨f1, f2⟩ := hB.2 r hr
  have h0 : 0 < nv a 28 r 0 := by
    refine Nat.pos_of_ne_zero fun h => ?_
    rw [f1, h] at h1
    exact absurd h1 (by decide)
  obtain ⟨m, hm⟩ : ∃ m, nv a 28 r 0 = m + 1 := ⟨nv a 28 r 0 - 1, by omega⟩
  refine GB_mv (k := k) (r := r) (m := nv a 27 k r + 1) (f := m) h hk hr h14 (fun g hg i j => ?_) (fun j q => ?_) (fun q => ?_) (by omega) (by omega)
  · rw [e g (by omega), vo_move (by omega) (by omega)]
  · rw [e 27 (by decide)]
    unfold z_move
    rw [av_sv, b1, nI_1]
    by_cases c : j = k ∧ q = r
    · rw [if_pos ⟨rfl, c.1, c.2⟩, if_pos c]
    · rw [if_neg (fun y => c y.2), if_neg c, av_o (by decide)]
  · rw [e 28 (by decide)]
    unfold z_move
    rw [av_o (by decide), av_sv]
    by_cases c : q = r
    · rw [if_pos ⟨rfl, c, rfl⟩, if_pos c, f1, hm, nI_pred]
    · rw [if_neg (fun y => c y.2.1), if_neg c]
theorem GB_out {a : AS} {k r : Nat} {b : AS} (h : GB a) (hk : k < 6) (hr : r < 3) (h14 : av a 14 k 0 = 2) (h1 : 0 < av a 27 k r) (e : ∀ g, g = 1 ∨ g = 14 ∨ g = 26 ∨ g = 27 ∨ g = 28 → ∀ i j, av b g i j = av (z_move k r (-1) a) g i j) : GB b := by
  have hB := GB_bk h
  obtain ⟨b1, b2, b3, b4⟩ := hB.1 k r hk hr
  obtain ⟨f1, f2⟩ := hB.2 r hr
  have h0 : 0 < nv a 27 k r := by
    refine Nat.pos_of_ne_zero fun h => ?_
    rw [b1, h] at h1
    exact absurd h1 (by decide)
  obtain ⟨m, hm⟩ : ∃ m, nv a 27 k r = m + 1 := ⟨nv a 27 k r - 1, by omega⟩
  have em : nI (m + 1) + -1 = nI m := by rw [← Int32.sub_eq_add_neg, nI_pred]
  have ef : ∀ x : Int32, x - -1 = x + 1 := fun x => by rw [Int32.sub_eq_add_neg]; rfl
  refine GB_mv (k := k) (r := r) (m := m) (f := nv a 28 r 0 + 1) h hk hr h14 (fun g hg i j => ?_) (fun j q => ?_) (fun q => ?_) (by omega) (by omega)
  · rw [e g (by omega), vo_move (by omega) (by omega)]
  · rw [e 27 (by decide)]
    unfold z_move
    rw [av_sv, b1, hm, em]
    by_cases c : j = k ∧ q = r
    · rw [if_pos ⟨rfl, c.1, c.2⟩, if_pos c]
    · rw [if_neg (fun y => c y.2), if_neg c, av_o (by decide)]
  · rw [e 28 (by decide)]
    unfold z_move
    rw [av_o (by decide), av_sv]
    by_cases c : q = r
    · rw [if_pos ⟨rfl, c, rfl⟩, if_pos c, f1, ef, nI_1]
    · rw [if_neg (fun y => c y.2.1), if_neg c]
