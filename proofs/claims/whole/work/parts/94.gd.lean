/-! THE INVARIANT, groups F and N: the frames, what the instructions want -/
def ow (a : AS) (f k s : Nat) : Prop := av a 39 f 0 = nI k ∧ av a 40 f 0 = nI s
def AK (a : AS) (k : Nat) : Prop := k ∈ al a 1 ∨ (¬ av a 12 0 0 = 0 ∧ av a 47 0 0 = nI k)
def GF (n : Nat) (a : AS) : Prop :=
  (∀ f, f < n → av a 39 f 0 = -1 ∨ (av a 39 f 0 = -2 ∧ ¬ av a 12 0 0 = 0 ∧ av a 46 0 0 = nI f) ∨ ∃ k s, k < 6 ∧ s < 8 ∧ ow a f k s ∧ av a 14 k 0 = 2) ∧
  (∀ f g k s, f < n → g < n → k < 6 → ow a f k s → ow a g k s → f = g) ∧
  (∀ k, k < 6 → AK a k → ∃ s, s < 8 ∧ av a 29 k 0 = nI s ∧ ∀ f, f < n → ¬ ow a f k s) ∧
  (¬ av a 12 0 0 = 0 → ∃ f, f < n ∧ av a 46 0 0 = nI f ∧ av a 39 f 0 = -2) ∧
  (av a 45 0 0 = 1 → ∃ j s, j < 6 ∧ s < 8 ∧ av a 49 0 0 = nI j ∧ av a 50 0 0 = nI s ∧ (av a 23 j 0 = av a 51 0 0 → (av a 14 j 0 = 2 ∨ av a 14 j 0 = 3) ∧ (¬ av a 14 j 0 = 3 → ∀ f, f < n → ¬ ow a f j s))) ∧
  (∀ f k s, f < n → k < 6 → s < 8 → ow a f k s → av a 42 f 0 = 0 → ∀ i, i < 16 → av a 38 f i = av a 37 k (16 * s + i)) ∧
  (av a 12 0 0 = 2 → av a 45 0 0 = 0 → ∀ f k s, f < n → k < 6 → s < 8 → av a 46 0 0 = nI f → av a 47 0 0 = nI k → av a 29 k 0 = nI s → ∀ i, i < 16 → av a 38 f i = av a 37 k (16 * s + i))
/-- the word of job k, wherever it lies -/
def wd (n k s i : Nat) (a : AS) : Int32 := if z_holder n k (nI s) a < 0 then av a 37 k (16 * s + i) else av a 38 (z_holder n k (nI s) a).toNatClampNeg i
def opa (w y : Int32) : Int32 := if w / 256 = 11 ∨ w / 256 = 12 then (w - w / 256 * 256) + y else w - w / 256 * 256
def nd (n : Nat) (a : AS) (k s : Nat) : Prop := ∃ p, p < 128 ∧ av a 18 k 0 = nI p ∧ (s = p / 16 ∨ (hop (wd n k (p / 16) (p % 16) a / 256) = true ∧ ∃ x, x < 128 ∧ opa (wd n k (p / 16) (p % 16) a) (av a 20 k 0) = nI x ∧ s = x / 16))
def adn (a : AS) : Nat → Nat
  | 0 => 0
  | m + 1 => adn a m + if av a 14 m 0 = 2 then 1 else 0
def GN (n : Nat) (a : AS) : Prop :=
  (∀ f, f < n → ¬ av a 43 f 0 = 0 → ∃ k s, k < 6 ∧ s < 8 ∧ ow a f k s ∧ nd n a k s) ∧
  (∀ k, k < 6 → AK a k → ∀ s, s < 8 → av a 29 k 0 = nI s → nd n a k s) ∧
  2 * adn a 6 ≤ n
theorem nd_eq {n k s : Nat} {a b : AS} (h : nd n a k s) (e18 : av b 18 k 0 = av a 18 k 0) (e20 : av b 20 k 0 = av a 20 k 0) (ew : ∀ s i, s < 8 → i < 16 → wd n k s i b = wd n k s i a) : nd n b k s := by
  obtain ⟨p, h1, h2, h3⟩ := h
  refine ⟨p, h1, by rw [e18]; exact h2, ?_⟩
  rw [ew (p / 16) (p % 16) (by omega) (by omega), e20]
  exact h3
/-- two needed segments that are both the place's, or both not, are the same -/
theorem nd_two {n k s t : Nat} {a : AS} (h : nd n a k s) (h' : nd n a k t) (he : s = nv a 18 k 0 / 16 ↔ t = nv a 18 k 0 / 16) : s = t := by
  obtain ⟨p, h1, h2, h3⟩ := h
  obtain ⟨p', h1', h2', h3'⟩ := h'
  obtain rfl : p' = p := nI_inj (by omega) (by omega) (by rw [← h2', h2])
  have e : nv a 18 k 0 = p' := nvI h2 (by omega)
  rw [e] at he
  rcases h3 with h3 | ⟨-, x, x1, x2, x3⟩
  · rw [he.mp h3, h3]
  · rcases h3' with h3' | ⟨-, x', x1', x2', x3'⟩
    · rw [he.mpr h3', h3']
    · obtain rfl : x' = x := nI_inj (by omega) (by omega) (by rw [← x2', x2])
      rw [x3, x3']
theorem adn_mono {a : AS} {i j : Nat} (h : i ≤ j) : adn a i ≤ adn a j := by
  induction j with
  | zero => obtain rfl : i = 0 := by omega
            exact Nat.le_refl _
  | succ j ih =>
    by_cases c : i = j + 1
    · subst c; exact Nat.le_refl _
    · have := ih (by omega)
      simp only [adn]
      omega
theorem adn_lt {a : AS} {i j : Nat} (h : i < j) (hi : av a 14 i 0 = 2) : adn a i < adn a j := by
  have := adn_mono (a := a) (show i + 1 ≤ j by omega)
  simp only [adn] at this
  rw [if_pos hi] at this
  omega
def bt (a : AS) (k s : Nat) : Nat := 2 * adn a k + if s = nv a 18 k 0 / 16 then 0 else 1
theorem bt_inj {n k s j t : Nat} {a : AS} (hk : av a 14 k 0 = 2) (hj : av a 14 j 0 = 2) (h1 : nd n a k s) (h2 : nd n a j t) (h : bt a k s = bt a j t) : k = j ∧ s = t := by
  unfold bt at h
  have hkj : k = j := by
    rcases Nat.lt_trichotomy k j with c | c | c
    · have := adn_lt c hk
      split at h <;> split at h <;> omega
    · exact c
    · have := adn_lt c hj
      split at h <;> split at h <;> omega
  subst hkj
  refine ⟨rfl, nd_two h1 h2 ⟨fun c => ?_, fun c => ?_⟩⟩
  · rw [if_pos c] at h
    refine Classical.byContradiction fun y => ?_
    rw [if_neg y] at h
    omega
  · rw [if_pos c] at h
    refine Classical.byContradiction fun y => ?_
    rw [if_neg y] at h
    omega
theorem bt_lt {k s : Nat} {a : AS} (hk6 : k < 6) (hk : av a 14 k 0 = 2) : bt a k s < 2 * adn a 6 := by
  have := adn_lt hk6 hk
  unfold bt
  split <;> omega
theorem free_frame {n k0 : Nat} {a : AS} (hF : GF n a) (hN : GN n a) (hk0 : k0 < 6) (h14 : av a 14 k0 0 = 2) (hA : AK a k0) : ∃ f, f < n ∧ av a 43 f 0 = 0 := by
  refine Classical.byContradiction fun hno => ?_
  have hp : ∀ f, f < n → ¬ av a 43 f 0 = 0 := fun f hf y => hno ⟨f, hf, y⟩
  obtain ⟨F1, F2, F3, -⟩ := hF
  obtain ⟨N1, N2, N3⟩ := hN
  obtain ⟨s0, s1, s2, s3⟩ := F3 k0 hk0 hA
  have n0 := N2 k0 hk0 hA s0 s1 s2
  have key : ∀ f, f < n → ∃ k s, k < 6 ∧ s < 8 ∧ ow a f k s ∧ nd n a k s ∧ av a 14 k 0 = 2 ∧ nv a 39 f 0 = k ∧ nv a 40 f 0 = s := fun f hf => by
    obtain ⟨k, s, q1, q2, q3, q4⟩ := N1 f hf (hp f hf)
    have h14 : av a 14 k 0 = 2 := by
      rcases F1 f hf with y | y | y
      · rw [q3.1] at y
        exact absurd (by rw [y]; decide) (nI_pos (n := k) (by omega))
      · have y := y.1
        rw [q3.1] at y
        exact absurd (by rw [y]; decide) (nI_pos (n := k) (by omega))
      · obtain ⟨k', s', y1, y2, y3, y4⟩ := y
        obtain rfl : k' = k := nI_inj (by omega) (by omega) (by rw [← y3.1, q3.1])
        exact y4
    exact ⟨k, s, q1, q2, q3, q4, h14, nvI q3.1 (by omega), nvI q3.2 (by omega)⟩
  have hnd : ((List.range n).map (fun f => bt a (nv a 39 f 0) (nv a 40 f 0)) ++ [bt a k0 s0]).Nodup := by
    refine List.nodup_append.mpr ⟨?_, by simp, fun x hx y hy => ?_⟩
    · refine List.pairwise_map.mpr (List.Pairwise.imp_of_mem ?_ List.nodup_range)
      intro f g hf hg hne e
      have hf := List.mem_range.mp hf
      have hg := List.mem_range.mp hg
      obtain ⟨k, s, a1, a2, a3, a4, a5, a6, a7⟩ := key f hf
      obtain ⟨k', s', b1, b2, b3, b4, b5, b6, b7⟩ := key g hg
      rw [a6, a7, b6, b7] at e
      obtain ⟨rfl, rfl⟩ := bt_inj a5 b5 a4 b4 e
      exact hne (F2 f g k s hf hg a1 a3 b3)
    · obtain ⟨f, hf, rfl⟩ := List.mem_map.mp hx
      have hf := List.mem_range.mp hf
      rw [List.mem_singleton] at hy
      subst hy
      obtain ⟨k, s, a1, a2, a3, a4, a5, a6, a7⟩ := key f hf
      rw [a6, a7]
      intro e
      obtain ⟨rfl, rfl⟩ := bt_inj a5 h14 a4 n0 e
      exact s3 f hf a3
  have := hnd.length_le_of_subset (l₂ := List.range n) (fun x hx => by
    rw [List.mem_range]
    rcases List.mem_append.mp hx with hx | hx
    · obtain ⟨f, hf, rfl⟩ := List.mem_map.mp hx
      have hf := List.mem_range.mp hf
      obtain ⟨k, s, a1, a2, a3, a4, a5, a6, a7⟩ := key f hf
      have := bt_lt (s := nv a 40 f 0) a1 a5
      rw [a6]
      omega
    · rw [List.mem_singleton] at hx
      subst hx
      have := bt_lt (s := s0) hk0 h14
      omega)
  simp at this
  omega
theorem best_some {a : AS} {f : Nat} (h : ¬ (av a 39 f 0 = -2 ∨ ¬ av a 43 f 0 = 0)) : ∀ m, f < m → ∃ g, z_best a m = some g := by
  intro m
  induction m with
  | zero => intro hf; omega
  | succ m ih =>
    intro hf
    unfold z_best
    by_cases c : f = m
    · subst c
      cases z_best a f with
      | none => exact ⟨f, by simp only [if_neg h]⟩
      | some b =>
        simp only [if_neg h]
        split
        · exact ⟨_, rfl⟩
        · exact ⟨_, rfl⟩
    · obtain ⟨g, hg⟩ := ih (by omega)
      rw [hg]
      simp only
      split
      · exact ⟨_, rfl⟩
      · split
        · exact ⟨_, rfl⟩
        · exact ⟨_, rfl⟩
theorem choose_some {n k0 : Nat} {a : AS} (hF : GF n a) (hN : GN n a) (hk0 : k0 < 6) (h14 : av a 14 k0 0 = 2) (hA : AK a k0) (h12 : av a 12 0 0 = 0) : ∃ f, f < n ∧ z_choose n a = some f := by
  obtain ⟨f, hf, h43⟩ := free_frame hF hN hk0 h14 hA
  unfold z_choose
  cases e : (List.range n).find? (fun f => decide (av a 39 f 0 = -1)) with
  | some g => exact ⟨g, List.mem_range.mp (List.mem_of_find?_eq_some e), rfl⟩
  | none =>
    have hc : ¬ (av a 39 f 0 = -2 ∨ ¬ av a 43 f 0 = 0) := fun y => by
      rcases y with y | y
      · rcases hF.1 f hf with z | z | z
        · rw [y] at z; exact absurd z (by decide)
        · exact z.2.1 h12
        · obtain ⟨k, s, z1, z2, z3, z4⟩ := z
          rw [z3.1] at y
          exact absurd (by rw [y]; decide) (nI_pos (n := k) (by omega))
      · exact y h43
    obtain ⟨g, hg⟩ := best_some hc n hf
    exact ⟨g, best_lt hg, hg⟩
/-- the chosen frame: vacant, or owned and not pinned -/
theorem best_free {a : AS} : ∀ {m b : Nat}, z_best a m = some b → ¬ (av a 39 b 0 = -2 ∨ ¬ av a 43 b 0 = 0) := by
  intro m
  induction m with
  | zero => intro b h; cases h
  | succ m ih =>
    intro b h
    unfold z_best at h
    cases e : z_best a m with
    | none =>
      rw [e] at h
      simp only at h
      split at h
      · cases h
      · rename_i y
        injection h with h
        subst h
        exact y
    | some c =>
      rw [e] at h
      simp only at h
      have := ih e
      split at h
      · injection h with h; subst h; exact this
      · rename_i y
        split at h
        · injection h with h; subst h; exact this
        · injection h with h; subst h; exact y
theorem vJ_of {n : Nat} {a : AS} (hF : GF n a) {f : Nat} (hf : f < n) : vJ (av a 39 f 0) := by
  rcases hF.1 f hf with y | y | y
  · exact Or.inr (Or.inl y)
  · exact Or.inl y.1
  · obtain ⟨k, s, y1, y2, y3, y4⟩ := y
    exact Or.inr (Or.inr ⟨k, y1, y3.1⟩)
theorem mt_ow {n : Nat} {a : AS} (hF : GF n a) {k f : Nat} {s : Int32} (hf : f < n) (hk : k < 6) (h : z_mt k s a f = true) : ∃ t, t < 8 ∧ s = nI t ∧ ow a f k t := by
  unfold z_mt at h
  simp only [Bool.and_eq_true, decide_eq_true_eq] at h
  rcases hF.1 f hf with y | y | y
  · rw [h.1] at y
    exact absurd (by rw [y]; decide) (nI_pos (n := k) (by omega))
  · have y := y.1
    rw [h.1] at y
    exact absurd (by rw [y]; decide) (nI_pos (n := k) (by omega))
  · obtain ⟨k', t, y1, y2, y3, y4⟩ := y
    exact ⟨t, y2, by rw [← h.2, y3.2], h.1, y3.2⟩
theorem mt_one {n : Nat} {a : AS} (hF : GF n a) {k : Nat} (hk : k < 6) : ∀ s f g, f < n → g < n → z_mt k s a f = true → z_mt k s a g = true → f = g := by
  intro s f g hf hg h1 h2
  obtain ⟨t, t1, t2, t3⟩ := mt_ow hF hf hk h1
  obtain ⟨u, u1, u2, u3⟩ := mt_ow hF hg hk h2
  obtain rfl : u = t := nI_inj (by omega) (by omega) (by rw [← u2, t2])
  exact hF.2.1 f g k u hf hg hk t3 u3
theorem ow_mt {a : AS} {f k s : Nat} (h : ow a f k s) : z_mt k (nI s) a f = true := by
  unfold z_mt
  simp [h.1, h.2]
theorem find_no {n k s : Nat} {a : AS} (hF : GF n a) (hk : k < 6) (h : ∀ f, f < n → ¬ ow a f k s) (hs : s < 8) : z_find n k (nI s) a = none := by
  unfold z_find
  rw [List.find?_eq_none]
  intro f hf y
  have hf := List.mem_range.mp hf
  obtain ⟨t, t1, t2, t3⟩ := mt_ow hF hf hk y
  obtain rfl : s = t := nI_inj (by omega) (by omega) t2
  exact h f hf t3
theorem find_is {n k s f : Nat} {a : AS} (hF : GF n a) (hk : k < 6) (hf : f < n) (h : ow a f k s) : z_find n k (nI s) a = some f := by
  unfold z_find
  rw [List.find?_range_eq_some]
  refine ⟨ow_mt h, List.mem_range.mpr hf, fun g hg => ?_⟩
  cases e : z_mt k (nI s) a g with
  | false => rfl
  | true =>
    have := mt_one hF hk (nI s) g f (by omega) hf e (ow_mt h)
    omega
