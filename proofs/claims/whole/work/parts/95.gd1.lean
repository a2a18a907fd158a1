/-! groups F and N: small steps -/
def wri (a : AS) (k s : Nat) : Prop := av a 45 0 0 = 1 ∧ av a 49 0 0 = nI k ∧ (av a 23 k 0 = av a 51 0 0 ∧ ¬ av a 14 k 0 = 3) ∧ av a 50 0 0 = nI s
theorem wri_no {n k s : Nat} {a : AS} (hF : GF n a) (hk : k < 6) (hs : s < 8) (h : wri a k s) : ∀ f, f < n → ¬ ow a f k s := by
  obtain ⟨w1, w2, w3, w4⟩ := h
  obtain ⟨j, t, j1, j2, j3, j4, j5⟩ := hF.2.2.2.2.1 w1
  obtain rfl : j = k := nI_inj (by omega) (by omega) (by rw [← j3, w2])
  obtain rfl : t = s := nI_inj (by omega) (by omega) (by rw [← j4, w4])
  exact (j5 w3.1).2 w3.2
theorem wd_write {n k s i f : Nat} {a : AS} (h : wri a k s) (hf : f < 2 ^ 31) (h46 : av a 46 0 0 = nI f) : wd n k s i a = av a 38 f i := by
  have e : z_holder n k (nI s) a = nI f := by unfold wri at h; unfold z_holder; rw [if_pos h, h46]
  unfold wd
  rw [e, if_neg (nI_pos hf), nI_clamp hf]
theorem wd_core {n k s i f : Nat} {a : AS} (hF : GF n a) (hn : n ≤ 12) (hk : k < 6) (hs : s < 8) (hf : f < n) (h : ow a f k s) : wd n k s i a = av a 38 f i := by
  have hw : ¬ wri a k s := fun y => wri_no hF hk hs y f hf h
  have e : z_holder n k (nI s) a = nI f := by unfold wri at hw; unfold z_holder; rw [if_neg hw, find_is hF hk hf h]; rfl
  unfold wd
  rw [e, if_neg (nI_pos (by omega)), nI_clamp (by omega)]
theorem wd_drum {n k s i : Nat} {a : AS} (hF : GF n a) (hk : k < 6) (hs : s < 8) (hw : ¬ wri a k s) (h : ∀ f, f < n → ¬ ow a f k s) : wd n k s i a = av a 37 k (16 * s + i) := by
  have e : z_holder n k (nI s) a = -1 := by unfold wri at hw; unfold z_holder; rw [if_neg hw, find_no hF hk h hs]; rfl
  unfold wd
  rw [e, if_pos (by decide)]
def fF (g : Nat) : Prop := g = 12 ∨ g = 14 ∨ g = 23 ∨ g = 37 ∨ g = 38 ∨ g = 39 ∨ g = 40 ∨ g = 42 ∨ g = 45 ∨ g = 46 ∨ g = 47 ∨ g = 49 ∨ g = 50 ∨ g = 51
theorem wd_eq {n k s i : Nat} {a b : AS} (e : ∀ g, fF g → ∀ i j, av b g i j = av a g i j) : wd n k s i b = wd n k s i a := by
  have e39 : ∀ i j, av b 39 i j = av a 39 i j := e 39 (by unfold fF; decide)
  have e40 : ∀ i j, av b 40 i j = av a 40 i j := e 40 (by unfold fF; decide)
  have em : z_mt k (nI s) b = z_mt k (nI s) a := by
    funext f
    unfold z_mt
    rw [e39, e40]
  have eh : z_holder n k (nI s) b = z_holder n k (nI s) a := by
    unfold z_holder z_find
    rw [em, e 45 (by unfold fF; decide), e 49 (by unfold fF; decide), e 23 (by unfold fF; decide), e 51 (by unfold fF; decide), e 14 (by unfold fF; decide), e 50 (by unfold fF; decide), e 46 (by unfold fF; decide)]
  unfold wd
  rw [eh, e 37 (by unfold fF; decide), e 38 (by unfold fF; decide)]
theorem ow_eq {a b : AS} (e39 : ∀ i j, av b 39 i j = av a 39 i j) (e40 : ∀ i j, av b 40 i j = av a 40 i j) (f k s : Nat) : ow b f k s ↔ ow a f k s := by
  unfold ow
  rw [e39, e40]
theorem AK_eq {a b : AS} (e12 : av b 12 0 0 = av a 12 0 0) (e47 : av b 47 0 0 = av a 47 0 0) (el : al b 1 = al a 1) (k : Nat) : AK b k ↔ AK a k := by
  unfold AK
  rw [e12, e47, el]
theorem GF_ask {n k s : Nat} {a b : AS} (h : GF n a) (e : ∀ g, fF g → ∀ i j, av b g i j = av a g i j) (el : ∀ j, j ∈ al b 1 → j ∈ al a 1 ∨ j = k) (hA : ¬ AK a k) (hs : s < 8) (e29 : ∀ j, j < 6 → j ≠ k → av b 29 j 0 = av a 29 j 0) (hk29 : AK b k → av b 29 k 0 = nI s ∧ ∀ f, f < n → ¬ ow a f k s) : GF n b := by
  have e12 := e 12 (by unfold fF; decide) 0 0
  have e47 := e 47 (by unfold fF; decide) 0 0
  have e46 := e 46 (by unfold fF; decide) 0 0
  have e45 := e 45 (by unfold fF; decide) 0 0
  have e14 := e 14 (by unfold fF; decide)
  have e39 := e 39 (by unfold fF; decide)
  have e40 := e 40 (by unfold fF; decide)
  have e37 := e 37 (by unfold fF; decide)
  have e38 := e 38 (by unfold fF; decide)
  have e42 := e 42 (by unfold fF; decide)
  have e23 := e 23 (by unfold fF; decide)
  have eo := ow_eq e39 e40
  have hAK : ∀ j, j ≠ k → AK b j → AK a j := fun j hj y => by
    rcases y with y | y
    · exact Or.inl ((el j y).resolve_right hj)
    · rw [e12, e47] at y; exact Or.inr y
  obtain ⟨h1, h2, h3, h4, h5, h6, h7⟩ := h
  refine ⟨fun f hf => ?_, fun f g k s hf hg hk => ?_, fun j hj y => ?_, ?_, ?_, fun f k s hf hk hs => ?_, ?_⟩
  · rw [e39, e12, e46]
    refine (h1 f hf).imp id (Or.imp id ?_)
    rintro ⟨k, s, q1, q2, q3, q4⟩
    exact ⟨k, s, q1, q2, (eo f k s).mpr q3, by rw [e14]; exact q4⟩
  · rw [eo, eo]; exact h2 f g k s hf hg hk
  · by_cases c : j = k
    · subst c
      obtain ⟨q1, q2⟩ := hk29 y
      exact ⟨s, hs, q1, fun f hf z => q2 f hf ((eo f j s).mp z)⟩
    · obtain ⟨t, t1, t2, t3⟩ := h3 j hj (hAK j c y)
      exact ⟨t, t1, by rw [e29 j hj c]; exact t2, fun f hf z => t3 f hf ((eo f j t).mp z)⟩
  · rw [e12, e46]
    intro y
    obtain ⟨f, q1, q2, q3⟩ := h4 y
    exact ⟨f, q1, q2, by rw [e39]; exact q3⟩
  · rw [e45, e 49 (by unfold fF; decide), e 50 (by unfold fF; decide), e 51 (by unfold fF; decide)]
    intro y
    obtain ⟨j, t, q1, q2, q3, q4, q5⟩ := h5 y
    refine ⟨j, t, q1, q2, q3, q4, ?_⟩
    rw [e23, e14]
    exact fun z => ⟨(q5 z).1, fun z2 f hf z3 => (q5 z).2 z2 f hf ((eo f j t).mp z3)⟩
  · rw [eo, e42]
    intro y z i hi
    rw [e38, e37]
    exact h6 f k s hf hk hs y z i hi
  · rw [e12, e45, e46, e47]
    intro y1 y2 f j t hf hj ht y3 y4 y5 i hi
    rw [e38, e37]
    have hc : j ≠ k := fun c => hA (Or.inr ⟨by rw [y1]; decide, by rw [y4, c]⟩)
    rw [e29 j hj hc] at y5
    exact h7 y1 y2 f j t hf hj ht y3 y4 y5 i hi
theorem GF_eq {n : Nat} {a b : AS} (h : GF n a) (e : ∀ g, fF g → ∀ i j, av b g i j = av a g i j) (el : al b 1 = al a 1) (e29 : ∀ j, j < 6 → AK a j → av b 29 j 0 = av a 29 j 0) : GF n b := by
  have e12 := e 12 (by unfold fF; decide) 0 0
  have e47 := e 47 (by unfold fF; decide) 0 0
  have e46 := e 46 (by unfold fF; decide) 0 0
  have e45 := e 45 (by unfold fF; decide) 0 0
  have e14 := e 14 (by unfold fF; decide)
  have e39 := e 39 (by unfold fF; decide)
  have e40 := e 40 (by unfold fF; decide)
  have e37 := e 37 (by unfold fF; decide)
  have e38 := e 38 (by unfold fF; decide)
  have e42 := e 42 (by unfold fF; decide)
  have e23 := e 23 (by unfold fF; decide)
  have eo := ow_eq e39 e40
  have ea := AK_eq e12 e47 el
  obtain ⟨h1, h2, h3, h4, h5, h6, h7⟩ := h
  refine ⟨fun f hf => ?_, fun f g k s hf hg hk => ?_, fun j hj y => ?_, ?_, ?_, fun f k s hf hk hs => ?_, ?_⟩
  · rw [e39, e12, e46]
    refine (h1 f hf).imp id (Or.imp id ?_)
    rintro ⟨k, s, q1, q2, q3, q4⟩
    exact ⟨k, s, q1, q2, (eo f k s).mpr q3, by rw [e14]; exact q4⟩
  · rw [eo, eo]; exact h2 f g k s hf hg hk
  · have y := (ea j).mp y
    obtain ⟨t, t1, t2, t3⟩ := h3 j hj y
    exact ⟨t, t1, by rw [e29 j hj y]; exact t2, fun f hf z => t3 f hf ((eo f j t).mp z)⟩
  · rw [e12, e46]
    intro y
    obtain ⟨f, q1, q2, q3⟩ := h4 y
    exact ⟨f, q1, q2, by rw [e39]; exact q3⟩
  · rw [e45, e 49 (by unfold fF; decide), e 50 (by unfold fF; decide), e 51 (by unfold fF; decide)]
    intro y
    obtain ⟨j, t, q1, q2, q3, q4, q5⟩ := h5 y
    refine ⟨j, t, q1, q2, q3, q4, ?_⟩
    rw [e23, e14]
    exact fun z => ⟨(q5 z).1, fun z2 f hf z3 => (q5 z).2 z2 f hf ((eo f j t).mp z3)⟩
  · rw [eo, e42]
    intro y z i hi
    rw [e38, e37]
    exact h6 f k s hf hk hs y z i hi
  · rw [e12, e45, e46, e47]
    intro y1 y2 f j t hf hj ht y3 y4 y5 i hi
    rw [e38, e37]
    rw [e29 j hj (Or.inr ⟨by rw [y1]; decide, y4⟩)] at y5
    exact h7 y1 y2 f j t hf hj ht y3 y4 y5 i hi
theorem adn_eq {a b : AS} (e : ∀ j, av b 14 j 0 = av a 14 j 0) : ∀ m, adn b m = adn a m := by
  intro m
  induction m with
  | zero => rfl
  | succ m ih => simp only [adn]; rw [ih, e]
/-- group N, when the words of the jobs stay: pins may go, those who ask ask for what they need -/
theorem GN_keep {n : Nat} {a b : AS} (h : GN n a) (e18 : ∀ j, j < 6 → av b 18 j 0 = av a 18 j 0) (e20 : ∀ j, j < 6 → av b 20 j 0 = av a 20 j 0) (ew : ∀ j s i, j < 6 → s < 8 → i < 16 → wd n j s i b = wd n j s i a) (e43 : ∀ f, f < n → ¬ av b 43 f 0 = 0 → ¬ av a 43 f 0 = 0 ∧ ∀ k s, ow a f k s → ow b f k s) (hA : ∀ k s, k < 6 → s < 8 → AK b k → av b 29 k 0 = nI s → nd n a k s) (e14 : adn b 6 ≤ adn a 6) : GN n b := by
  obtain ⟨h1, h2, h3⟩ := h
  have hnd : ∀ k s, k < 6 → nd n a k s → nd n b k s := fun k s hk y => nd_eq y (e18 k hk) (e20 k hk) (fun s i hs hi => ew k s i hk hs hi)
  refine ⟨fun f hf y => ?_, fun k hk y s hs z => hnd k s hk (hA k s hk hs y z), by omega⟩
  obtain ⟨y1, y2⟩ := e43 f hf y
  obtain ⟨k, s, q1, q2, q3, q4⟩ := h1 f hf y1
  exact ⟨k, s, q1, q2, y2 k s q3, hnd k s q1 q4⟩
/-- group N, when job k has done an instruction: its pins are gone, it doesn't ask -/
theorem GN_comp {n k : Nat} {a b : AS} (h : GN n a) (e18 : ∀ j, j < 6 → j ≠ k → av b 18 j 0 = av a 18 j 0) (e20 : ∀ j, j < 6 → j ≠ k → av b 20 j 0 = av a 20 j 0) (ew : ∀ j s i, j < 6 → j ≠ k → s < 8 → i < 16 → wd n j s i b = wd n j s i a) (e43 : ∀ f, f < n → ¬ av b 43 f 0 = 0 → ¬ av a 43 f 0 = 0 ∧ ¬ av a 39 f 0 = nI k ∧ ∀ j s, ow a f j s → ow b f j s) (hk : ¬ AK b k) (hA : ∀ j s, j < 6 → j ≠ k → s < 8 → AK b j → av b 29 j 0 = nI s → AK a j ∧ av a 29 j 0 = nI s) (e14 : adn b 6 ≤ adn a 6) : GN n b := by
  obtain ⟨h1, h2, h3⟩ := h
  have hnd : ∀ j s, j < 6 → j ≠ k → nd n a j s → nd n b j s := fun j s hj hn y => nd_eq y (e18 j hj hn) (e20 j hj hn) (fun s i hs hi => ew j s i hj hn hs hi)
  refine ⟨fun f hf y => ?_, fun j hj y s hs z => ?_, by omega⟩
  · obtain ⟨y1, y3, y2⟩ := e43 f hf y
    obtain ⟨j, s, q1, q2, q3, q4⟩ := h1 f hf y1
    have hn : j ≠ k := fun c => y3 (by rw [q3.1, c])
    exact ⟨j, s, q1, q2, y2 j s q3, hnd j s q1 hn q4⟩
  · have hn : j ≠ k := fun c => hk (c ▸ y)
    obtain ⟨z1, z2⟩ := hA j s hj hn hs y z
    exact hnd j s hj hn (h2 j hj z1 s hs z2)
