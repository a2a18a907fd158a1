/-! THE INVARIANT, group X: what is typed -/
def GX (a : AS) : Prop := ∃ h L m, h < 8 ∧ L ≤ 20 ∧ m ≤ 8 ∧ av a 73 0 0 = nI h ∧ av a 67 0 0 = nI L ∧ av a 68 0 0 = nI m ∧ (∀ i, i < L → ∃ y, y < 128 ∧ av a 63 i 0 = nI y) ∧
  (∃ c, av a 13 6 0 = nI c ∧ m = c + if av a 71 6 0 = 0 then 1 else 0) ∧
  ∀ r, r < m → ∃ Lr, Lr ≤ 20 ∧ av a 65 r 0 = nI Lr ∧ av a 75 ((h + r) % 8) 0 = nI Lr ∧ ∀ i, i < Lr → ∃ y, y < 128 ∧ av a 64 r i = nI y ∧ av a 74 ((h + r) % 8) i = nI y
theorem GX_ty {a : AS} (h : GX a) : ∃ h L m, TY h L m a := by
  obtain ⟨h, L, m, h1, h2, h3, h4, h5, h6, h7, -⟩ := h
  exact ⟨h, L, m, h1, h2, h3, h4, h5, h6, h7⟩
theorem GX_tx {a : AS} (h : GX a) (h71 : av a 71 6 0 = 0) : ∃ h L m, TX h L a ∧ TR L a ∧ av a 68 0 0 = nI m ∧ 0 < m ∧ m ≤ 8 := by
  obtain ⟨h, L, m, h1, h2, h3, h4, h5, h6, h7, ⟨c, c1, c2⟩, h9⟩ := h
  rw [if_pos h71] at c2
  obtain ⟨Lr, r1, r2, r3, r4⟩ := h9 0 (by omega)
  rw [Nat.add_zero, Nat.mod_eq_of_lt h1] at r3 r4
  refine ⟨h, Lr, m, ⟨h1, r1, h4, r3, r2, fun i hi => ?_⟩, ⟨r1, r2, fun i hi => ?_⟩, h6, by omega, h3⟩
  · obtain ⟨y, y1, y2, y3⟩ := r4 i hi
    rw [y2, y3]
  · obtain ⟨y, y1, y2, y3⟩ := r4 i hi
    exact ⟨y, y1, y2⟩
theorem GX_eq {a b : AS} (h : GX a) (e : ∀ g, g = 63 ∨ g = 64 ∨ g = 65 ∨ g = 67 ∨ g = 68 ∨ g = 73 ∨ g = 74 ∨ g = 75 → ∀ i j, av b g i j = av a g i j) (e13 : av b 13 6 0 = av a 13 6 0) (e71 : av b 71 6 0 = av a 71 6 0) : GX b := by
  have e63 := e 63 (by decide)
  have e64 := e 64 (by decide)
  have e65 := e 65 (by decide)
  have e74 := e 74 (by decide)
  have e75 := e 75 (by decide)
  unfold GX
  simp only [e63, e64, e65, e74, e75, e 67 (by decide), e 68 (by decide), e 73 (by decide), e13, e71]
  exact h
theorem GX_char {a b : AS} {y : Nat} (h : GX a) (hy : y < 128) (hL : nv a 67 0 0 < 20) (e : ∀ g, g = 13 ∨ g = 71 ∨ g = 64 ∨ g = 65 ∨ g = 68 ∨ g = 73 ∨ g = 74 ∨ g = 75 → ∀ i j, av b g i j = av a g i j) (e67 : av b 67 0 0 = av a 67 0 0 + 1) (e63 : ∀ i, av b 63 i 0 = if i = nv a 67 0 0 then nI y else av a 63 i 0) : GX b := by
  have e64 := e 64 (by decide)
  have e65 := e 65 (by decide)
  have e74 := e 74 (by decide)
  have e75 := e 75 (by decide)
  obtain ⟨h, L, m, h1, h2, h3, h4, h5, h6, h7, h8, h9⟩ := h
  have nL : nv a 67 0 0 = L := nvI h5 (by omega)
  rw [nL] at hL e63
  refine ⟨h, L + 1, m, h1, by omega, h3, by rw [e 73 (by decide)]; exact h4, by rw [e67, h5, nI_1], by rw [e 68 (by decide)]; exact h6, fun i hi => ?_, by rw [e 13 (by decide), e 71 (by decide)]; exact h8, ?_⟩
  · rw [e63]
    by_cases c : i = L
    · rw [if_pos c]; exact ⟨y, hy, rfl⟩
    · rw [if_neg c]; exact h7 i (by omega)
  · simp only [e64, e65, e74, e75]
    exact h9
theorem GX_nl {a b : AS} {h L m : Nat} (hG : GX a) (hA : GA a) (hh : av a 73 0 0 = nI h) (hL : av a 67 0 0 = nI L) (hm : av a 68 0 0 = nI m) (hh8 : h < 8) (hL2 : L ≤ 20) (hm8 : m < 8)
    (e13 : av b 13 6 0 = if av a 71 6 0 = 0 then av a 13 6 0 + 1 else av a 13 6 0) (e71 : av b 71 6 0 = 0) (e73 : av b 73 0 0 = av a 73 0 0) (e68 : av b 68 0 0 = nI (m + 1)) (e67 : av b 67 0 0 = 0)
    (e65 : ∀ r, av b 65 r 0 = if r = m then nI L else av a 65 r 0) (e75 : ∀ r, av b 75 r 0 = if r = (h + m) % 8 then nI L else av a 75 r 0)
    (e64 : ∀ r i, av b 64 r i = if r = m ∧ i < L then av a 63 i 0 else av a 64 r i) (e74 : ∀ r i, av b 74 r i = if r = (h + m) % 8 ∧ i < L then av a 63 i 0 else av a 74 r i) : GX b := by
  obtain ⟨h', L', m', h1, h2, h3, h4, h5, h6, h7, ⟨c, c1, c2⟩, h9⟩ := hG
  obtain rfl : h' = h := nI_inj (by omega) (by omega) (by rw [← h4, hh])
  obtain rfl : L' = L := nI_inj (by omega) (by omega) (by rw [← h5, hL])
  obtain rfl : m' = m := nI_inj (by omega) (by omega) (by rw [← h6, hm])
  refine ⟨h', 0, m' + 1, h1, by omega, by omega, by rw [e73]; exact h4, by rw [e67]; rfl, e68, fun i hi => absurd hi (by omega), ?_, fun r hr => ?_⟩
  · rw [e71, e13, if_pos rfl]
    by_cases w : av a 71 6 0 = 0
    · rw [if_pos w] at c2 ⊢
      exact ⟨c + 1, by rw [c1, nI_1], by omega⟩
    · rw [if_neg w] at c2 ⊢
      exact ⟨c, c1, by omega⟩
  · by_cases w : r = m'
    · subst w
      refine ⟨L', h2, by rw [e65, if_pos rfl], by rw [e75, if_pos rfl], fun i hi => ?_⟩
      obtain ⟨y, y1, y2⟩ := h7 i hi
      exact ⟨y, y1, by rw [e64, if_pos ⟨rfl, hi⟩]; exact y2, by rw [e74, if_pos ⟨rfl, hi⟩]; exact y2⟩
    · have hne : ¬ (h' + r) % 8 = (h' + m') % 8 := by omega
      obtain ⟨Lr, r1, r2, r3, r4⟩ := h9 r (by omega)
      refine ⟨Lr, r1, by rw [e65, if_neg w]; exact r2, by rw [e75, if_neg hne]; exact r3, fun i hi => ?_⟩
      rw [e64, e74, if_neg (fun z => w z.1), if_neg (fun z => hne z.1)]
      exact r4 i hi
theorem GX_pop {a b : AS} {m : Nat} (hG : GX a) (h71 : av a 71 6 0 = 0) (hm : av a 68 0 0 = nI m) (hm8 : m ≤ 8)
    (e13 : av b 13 6 0 = if av a 13 6 0 ≤ 0 then av a 13 6 0 else av a 13 6 0 - 1) (e71 : av b 71 6 0 = if av a 13 6 0 ≤ 0 then 1 else 0) (e73 : av b 73 0 0 = nI ((nv a 73 0 0 + 1) % 8)) (e68 : av b 68 0 0 = av a 68 0 0 - 1)
    (e : ∀ g, g = 63 ∨ g = 67 ∨ g = 74 ∨ g = 75 → ∀ i j, av b g i j = av a g i j)
    (e65 : ∀ r, r + 1 < m → av b 65 r 0 = av a 65 (r + 1) 0) (e64 : ∀ r i, r + 1 < m → i < 20 → av b 64 r i = av a 64 (r + 1) i) : GX b := by
  obtain ⟨h, L, m', h1, h2, h3, h4, h5, h6, h7, ⟨c, c1, c2⟩, h9⟩ := hG
  obtain rfl : m' = m := nI_inj (by omega) (by omega) (by rw [← h6, hm])
  rw [if_pos h71] at c2
  rw [c1] at e13 e71
  have n73 : nv a 73 0 0 = h := nvI h4 (by omega)
  rw [n73] at e73
  obtain ⟨p, rfl⟩ : ∃ p, m' = p + 1 := ⟨m' - 1, by omega⟩
  rw [h6, nI_pred] at e68
  have e63 := e 63 (by decide)
  refine ⟨(h + 1) % 8, L, p, Nat.mod_lt _ (by decide), h2, by omega, e73, by rw [e 67 (by decide)]; exact h5, e68, fun i hi => by rw [e63]; exact h7 i hi, ?_, fun r hr => ?_⟩
  · rw [e13, e71]
    by_cases y : c = 0
    · have hle : nI c ≤ 0 := by rw [y]; decide
      refine ⟨0, by rw [if_pos hle, y], ?_⟩
      simp only [if_pos hle]
      rw [if_neg (show ¬ (1 : Int32) = 0 by decide)]
      omega
    · have hle : ¬ nI c ≤ 0 := nI_nle (by omega) (by omega)
      obtain ⟨c', rfl⟩ : ∃ c', c = c' + 1 := ⟨c - 1, by omega⟩
      refine ⟨c', by rw [if_neg hle, nI_pred], ?_⟩
      simp only [if_neg hle]
      rw [if_pos trivial]
      omega
  · obtain ⟨Lr, r1, r2, r3, r4⟩ := h9 (r + 1) (by omega)
    have em : ((h + 1) % 8 + r) % 8 = (h + (r + 1)) % 8 := by omega
    rw [em]
    refine ⟨Lr, r1, by rw [e65 r (by omega)]; exact r2, by rw [e 75 (by decide)]; exact r3, fun i hi => ?_⟩
    rw [e64 r i (by omega) (by omega), e 74 (by decide)]
    exact r4 i hi
