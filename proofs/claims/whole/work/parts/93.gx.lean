/-! THE INVARIANT, group X: what is typed -/
def GX (a : AS) : Prop := ∃ L m, L ≤ 20 ∧ m ≤ 8 ∧ av a 67 0 0 = nI L ∧ av a 68 0 0 = nI m ∧ (∀ i, i < L → ∃ y, y < 128 ∧ av a 63 i 0 = nI y) ∧
  (∃ c, av a 13 6 0 = nI c ∧ m = c + if av a 71 6 0 = 0 then 1 else 0) ∧
  (∀ r, r < m → ∃ Lr, Lr ≤ 20 ∧ av a 65 r 0 = nI Lr) ∧ BY a
theorem GX_ty {a : AS} (h : GX a) : ∃ L m, TY L m a := by
  obtain ⟨L, m, h2, h3, h5, h6, h7, -⟩ := h
  exact ⟨L, m, h2, h3, h5, h6, h7⟩
theorem GX_tx {a : AS} (h : GX a) (h71 : av a 71 6 0 = 0) : ∃ L m, TX L a ∧ TR L a ∧ av a 68 0 0 = nI m ∧ 0 < m ∧ m ≤ 8 ∧ BY a := by
  obtain ⟨L, m, h2, h3, h5, h6, h7, ⟨c, c1, c2⟩, h9, hB⟩ := h
  rw [if_pos h71] at c2
  obtain ⟨Lr, r1, r2⟩ := h9 0 (by omega)
  exact ⟨Lr, m, ⟨r1, r2⟩, ⟨r1, r2, fun i hi => hB 0 (by decide) i (by omega)⟩, h6, by omega, h3, hB⟩
theorem GX_eq {a b : AS} (h : GX a) (e : ∀ g, g = 63 ∨ g = 64 ∨ g = 65 ∨ g = 67 ∨ g = 68 → ∀ i j, av b g i j = av a g i j) (e13 : av b 13 6 0 = av a 13 6 0) (e71 : av b 71 6 0 = av a 71 6 0) : GX b := by
  have e63 := e 63 (by decide)
  have e64 := e 64 (by decide)
  have e65 := e 65 (by decide)
  unfold GX BY
  simp only [e63, e64, e65, e 67 (by decide), e 68 (by decide), e13, e71]
  exact h
theorem GX_char {a b : AS} {y : Nat} (h : GX a) (hy : y < 128) (hL : nv a 67 0 0 < 20) (e : ∀ g, g = 13 ∨ g = 71 ∨ g = 64 ∨ g = 65 ∨ g = 68 → ∀ i j, av b g i j = av a g i j) (e67 : av b 67 0 0 = av a 67 0 0 + 1) (e63 : ∀ i, av b 63 i 0 = if i = nv a 67 0 0 then nI y else av a 63 i 0) : GX b := by
  have e65 := e 65 (by decide)
  obtain ⟨L, m, h2, h3, h5, h6, h7, h8, h9, hB⟩ := h
  have nL : nv a 67 0 0 = L := nvI h5 (by omega)
  rw [nL] at hL e63
  refine ⟨L + 1, m, by omega, h3, by rw [e67, h5, nI_1], by rw [e 68 (by decide)]; exact h6, fun i hi => ?_, by rw [e 13 (by decide), e 71 (by decide)]; exact h8, ?_, BY_eq hB (e 64 (by decide))⟩
  · rw [e63]
    by_cases c : i = L
    · rw [if_pos c]; exact ⟨y, hy, rfl⟩
    · rw [if_neg c]; exact h7 i (by omega)
  · simp only [e65]
    exact h9
theorem GX_nl {a b : AS} {L m : Nat} (hG : GX a) (hL : av a 67 0 0 = nI L) (hm : av a 68 0 0 = nI m) (hL2 : L ≤ 20) (hm8 : m < 8)
    (e13 : av b 13 6 0 = if av a 71 6 0 = 0 then av a 13 6 0 + 1 else av a 13 6 0) (e71 : av b 71 6 0 = 0) (e68 : av b 68 0 0 = nI (m + 1)) (e67 : av b 67 0 0 = 0)
    (e65 : ∀ r, av b 65 r 0 = if r = m then nI L else av a 65 r 0)
    (e64 : ∀ r i, av b 64 r i = if r = m ∧ i < L then av a 63 i 0 else av a 64 r i) : GX b := by
  obtain ⟨L', m', h2, h3, h5, h6, h7, ⟨c, c1, c2⟩, h9, hB⟩ := hG
  obtain rfl : L' = L := nI_inj (by omega) (by omega) (by rw [← h5, hL])
  obtain rfl : m' = m := nI_inj (by omega) (by omega) (by rw [← h6, hm])
  refine ⟨0, m' + 1, by omega, by omega, by rw [e67]; rfl, e68, fun i hi => absurd hi (by omega), ?_, fun r hr => ?_, fun r hr i hi => ?_⟩
  · rw [e71, e13, if_pos rfl]
    by_cases w : av a 71 6 0 = 0
    · rw [if_pos w] at c2 ⊢
      exact ⟨c + 1, by rw [c1, nI_1], by omega⟩
    · rw [if_neg w] at c2 ⊢
      exact ⟨c, c1, by omega⟩
  · rw [e65]
    by_cases w : r = m'
    · rw [if_pos w]
      exact ⟨L', h2, rfl⟩
    · rw [if_neg w]
      exact h9 r (by omega)
  · rw [e64]
    by_cases w : r = m' ∧ i < L'
    · rw [if_pos w]
      exact h7 i w.2
    · rw [if_neg w]
      exact hB r hr i hi
theorem GX_pop {a b : AS} {m : Nat} (hG : GX a) (h71 : av a 71 6 0 = 0) (hm : av a 68 0 0 = nI m) (hm8 : m ≤ 8)
    (e13 : av b 13 6 0 = if av a 13 6 0 ≤ 0 then av a 13 6 0 else av a 13 6 0 - 1) (e71 : av b 71 6 0 = if av a 13 6 0 ≤ 0 then 1 else 0) (e68 : av b 68 0 0 = av a 68 0 0 - 1)
    (e : ∀ g, g = 63 ∨ g = 67 → ∀ i j, av b g i j = av a g i j)
    (e65 : ∀ r, r + 1 < m → av b 65 r 0 = av a 65 (r + 1) 0) (e64 : ∀ r i, r < 8 → i < 20 → av b 64 r i = av a 64 (if r + 1 < m then r + 1 else r) i) : GX b := by
  obtain ⟨L, m', h2, h3, h5, h6, h7, ⟨c, c1, c2⟩, h9, hB⟩ := hG
  obtain rfl : m' = m := nI_inj (by omega) (by omega) (by rw [← h6, hm])
  rw [if_pos h71] at c2
  rw [c1] at e13 e71
  obtain ⟨p, rfl⟩ : ∃ p, m' = p + 1 := ⟨m' - 1, by omega⟩
  rw [h6, nI_pred] at e68
  have e63 := e 63 (by decide)
  refine ⟨L, p, h2, by omega, by rw [e 67 (by decide)]; exact h5, e68, fun i hi => by rw [e63]; exact h7 i hi, ?_, fun r hr => ?_, fun r hr i hi => ?_⟩
  · rw [e13, e71]
    by_cases y : c = 0
    · have hle : nI c ≤ 0 := by rw [y]; decide
      refine ⟨0, by rw [if_pos hle, y], ?_⟩
      simp only [if_pos hle]
      rw [if_neg (show ¬ (1 : Int32) = 0 by decide)]
      omega
    · have hle : ¬ nI c ≤ 0 := nI_nle (by omega) (by omega)
      obtain ⟨c', rfl⟩ : ∃ c', c = c' + 1 := ⟨c - 1, by omega⟩
      refine ⟨c', by rw [if_neg hle, nI_pred], ?_⟩
      simp only [if_neg hle]
      rw [if_pos trivial]
      omega
  · rw [e65 r (by omega)]
    exact h9 (r + 1) (by omega)
  · rw [e64 r i hr hi]
    by_cases w : r + 1 < p + 1
    · rw [if_pos w]
      exact hB (r + 1) (by omega) i hi
    · rw [if_neg w]
      exact hB r hr i hi
