/-! groups F and N: begin, the drum's end, bring -/
theorem GF_begin {n : Nat} {a b : AS} (h : GF n a) (h12 : ¬ av a 12 0 0 = 0) (e : ∀ q, q = 14 ∨ q = 29 ∨ q = 37 ∨ q = 38 ∨ q = 39 ∨ q = 40 ∨ q = 42 ∨ q = 46 ∨ q = 47 → ∀ i j, av b q i j = av a q i j) (el : al b 1 = al a 1) (e12 : av b 12 0 0 = 2) (e45 : av b 45 0 0 = 2) : GF n b := by
  have e14 := e 14 (by decide)
  have e46 := e 46 (by decide)
  have e47 := e 47 (by decide)
  have e39 := e 39 (by decide)
  have e38 := e 38 (by decide)
  have e37 := e 37 (by decide)
  have eo := ow_eq e39 (e 40 (by decide))
  have n20 : ¬ (2 : Int32) = 0 := by decide
  have n21 : ¬ (2 : Int32) = 1 := by decide
  obtain ⟨h1, h2, h3, h4, h5, h6, h7⟩ := h
  refine ⟨fun f hf => ?_, fun f g k s hf hg hk => ?_, fun j hj y => ?_, fun _ => ?_, fun y => absurd (e45 ▸ y) n21, fun f k s hf hk hs => ?_, fun _ y => absurd (e45 ▸ y) n20⟩
  · rw [e39, e12, e46]
    rcases h1 f hf with w | w | ⟨k, s, q1, q2, q3, q4⟩
    · exact Or.inl w
    · exact Or.inr (Or.inl ⟨w.1, n20, w.2.2⟩)
    · exact Or.inr (Or.inr ⟨k, s, q1, q2, (eo f k s).mpr q3, by rw [e14]; exact q4⟩)
  · rw [eo, eo]; exact h2 f g k s hf hg hk
  · have ya : AK a j := by
      rcases y with y | y
      · rw [el] at y; exact Or.inl y
      · rw [e47] at y; exact Or.inr ⟨h12, y.2⟩
    obtain ⟨s, s1, s2, s3⟩ := h3 j hj ya
    exact ⟨s, s1, by rw [e 29 (by decide)]; exact s2, fun g hg z => s3 g hg ((eo g j s).mp z)⟩
  · obtain ⟨f, q1, q2, q3⟩ := h4 h12
    exact ⟨f, q1, by rw [e46]; exact q2, by rw [e39]; exact q3⟩
  · rw [eo, e 42 (by decide)]
    intro y z i hi
    rw [e38, e37]
    exact h6 f k s hf hk hs y z i hi
theorem wd_begin {n : Nat} {a b : AS} (h : GF n a) (h' : GF n b) (hn : n ≤ 12) (h45 : av a 45 0 0 = 0) (e : ∀ q, q = 37 ∨ q = 38 ∨ q = 39 ∨ q = 40 → ∀ i j, av b q i j = av a q i j) (e45 : ¬ av b 45 0 0 = 1) : ∀ j s i, j < 6 → s < 8 → i < 16 → wd n j s i b = wd n j s i a := by
  intro j s i hj hs hi
  have eo := ow_eq (e 39 (by decide)) (e 40 (by decide))
  have h01 : ¬ (0 : Int32) = 1 := by decide
  rcases wd_cases h hn (fun y => absurd (h45 ▸ y) h01) hj hs with ⟨c1, -⟩ | ⟨c1, g, c3, c4, c6⟩ | ⟨c1, c2, c6⟩
  · exact absurd (h45 ▸ c1.1) h01
  · rw [c6, wd_core h' hn hj hs c3 ((eo g j s).mpr c4), e 38 (by decide)]
  · rw [c6, wd_drum h' hj hs (fun w => e45 w.1) (fun f hf y => c2 f hf ((eo f j s).mp y)), e 37 (by decide)]
/-- the drum has written -/
theorem GF_td {n : Nat} {a b : AS} (h : GF n a) (hn : n ≤ 12) (h12 : av a 12 0 0 = 1) (h45 : av a 45 0 0 = 1) (e : ∀ q, q = 12 ∨ q = 14 ∨ q = 29 ∨ q = 38 ∨ q = 39 ∨ q = 40 ∨ q = 42 ∨ q = 46 ∨ q = 47 → ∀ i j, av b q i j = av a q i j) (el : al b 1 = al a 1) (e45 : av b 45 0 0 = 0) (e37 : ∀ k s i, k < 6 → s < 8 → i < 16 → ¬ wri a k s → av b 37 k (16 * s + i) = av a 37 k (16 * s + i)) : GF n b := by
  have e14 := e 14 (by decide)
  have e12 := e 12 (by decide) 0 0
  have e46 := e 46 (by decide) 0 0
  have e47 := e 47 (by decide) 0 0
  have e39 := e 39 (by decide)
  have e38 := e 38 (by decide)
  have eo := ow_eq e39 (e 40 (by decide))
  have ea := AK_eq e12 e47 el
  have n01 : ¬ (0 : Int32) = 1 := by decide
  have n12 : ¬ (1 : Int32) = 2 := by decide
  have hF := h
  obtain ⟨h1, h2, h3, h4, h5, h6, h7⟩ := h
  refine ⟨fun f hf => ?_, fun f g k s hf hg hk => ?_, fun j hj y => ?_, ?_, fun y => absurd (e45 ▸ y) n01, fun f k s hf hk hs => ?_, fun y => absurd (h12 ▸ e12 ▸ y) n12⟩
  · rw [e39, e12, e46]
    refine (h1 f hf).imp id (Or.imp id ?_)
    rintro ⟨k, s, q1, q2, q3, q4⟩
    exact ⟨k, s, q1, q2, (eo f k s).mpr q3, by rw [e14]; exact q4⟩
  · rw [eo, eo]; exact h2 f g k s hf hg hk
  · have y := (ea j).mp y
    obtain ⟨t, t1, t2, t3⟩ := h3 j hj y
    exact ⟨t, t1, by rw [e 29 (by decide)]; exact t2, fun f hf z => t3 f hf ((eo f j t).mp z)⟩
  · rw [e12, e46]
    intro y
    obtain ⟨f, q1, q2, q3⟩ := h4 y
    exact ⟨f, q1, q2, by rw [e39]; exact q3⟩
  · rw [eo, e 42 (by decide)]
    intro y z i hi
    rw [e38, e37 k s i hk hs hi (fun w => wri_no hF hk hs w f hf y)]
    exact h6 f k s hf hk hs y z i hi
theorem wd_td {n f : Nat} {a b : AS} (h : GF n a) (h' : GF n b) (hn : n ≤ 12) (h12 : ¬ av a 12 0 0 = 0) (e : ∀ q, q = 38 ∨ q = 39 ∨ q = 40 → ∀ i j, av b q i j = av a q i j) (e45 : av b 45 0 0 = 0) (h46 : av a 46 0 0 = nI f) (hf : f < n) (e37 : ∀ k s i, k < 6 → s < 8 → i < 16 → ¬ wri a k s → av b 37 k (16 * s + i) = av a 37 k (16 * s + i)) (w37 : ∀ k s i, k < 6 → s < 8 → i < 16 → wri a k s → av b 37 k (16 * s + i) = av a 38 f i) : ∀ j s i, j < 6 → s < 8 → i < 16 → wd n j s i b = wd n j s i a := by
  intro j s i hj hs hi
  have eo := ow_eq (e 39 (by decide)) (e 40 (by decide))
  have hw : ¬ wri b j s := fun w => by
    have := w.1
    rw [e45] at this
    exact absurd this (by decide)
  rcases wd_cases h hn (fun _ => h12) hj hs with ⟨c1, c2, g, c3, c4, c5, c6⟩ | ⟨c1, g, c3, c4, c6⟩ | ⟨c1, c2, c6⟩
  · obtain rfl : g = f := nI_inj (by omega) (by omega) (by rw [← c4, h46])
    rw [c6, wd_drum h' hj hs hw (fun f hf y => c2 f hf ((eo f j s).mp y)), w37 j s i hj hs hi c1]
  · rw [c6, wd_core h' hn hj hs c3 ((eo g j s).mpr c4), e 38 (by decide)]
  · rw [c6, wd_drum h' hj hs hw (fun f hf y => c2 f hf ((eo f j s).mp y)), e37 j s i hj hs hi c1]
/-- the drum has read -/
theorem GF_tc {n f : Nat} {a b : AS} (h : GF n a) (hn : n ≤ 12) (h12 : ¬ av a 12 0 0 = 0) (h46 : av a 46 0 0 = nI f) (hf : f < n) (e : ∀ q, q = 12 ∨ q = 14 ∨ q = 29 ∨ q = 37 ∨ q = 39 ∨ q = 40 ∨ q = 42 ∨ q = 46 ∨ q = 47 → ∀ i j, av b q i j = av a q i j) (el : al b 1 = al a 1) (e45 : av b 45 0 0 = 0) (e38 : ∀ g i, g ≠ f → av b 38 g i = av a 38 g i) (w38 : ∀ k s i, k < 6 → s < 8 → i < 16 → av a 47 0 0 = nI k → av a 29 k 0 = nI s → av b 38 f i = av a 37 k (16 * s + i)) : GF n b := by
  have e14 := e 14 (by decide)
  have e12 := e 12 (by decide) 0 0
  have e46 := e 46 (by decide) 0 0
  have e47 := e 47 (by decide) 0 0
  have e39 := e 39 (by decide)
  have e37 := e 37 (by decide)
  have e29 := e 29 (by decide)
  have eo := ow_eq e39 (e 40 (by decide))
  have ea := AK_eq e12 e47 el
  have n01 : ¬ (0 : Int32) = 1 := by decide
  obtain ⟨h1, h2, h3, h4, h5, h6, h7⟩ := h
  have h39 : av a 39 f 0 = -2 := by
    obtain ⟨f', q1, q2, q3⟩ := h4 h12
    obtain rfl : f' = f := nI_inj (by omega) (by omega) (by rw [← q2, h46])
    exact q3
  refine ⟨fun f hf => ?_, fun f g k s hf hg hk => ?_, fun j hj y => ?_, ?_, fun y => absurd (e45 ▸ y) n01, fun g k s hg hk hs => ?_, fun _ _ g k s hg hk hs y3 y4 y5 i hi => ?_⟩
  · rw [e39, e12, e46]
    refine (h1 f hf).imp id (Or.imp id ?_)
    rintro ⟨k, s, q1, q2, q3, q4⟩
    exact ⟨k, s, q1, q2, (eo f k s).mpr q3, by rw [e14]; exact q4⟩
  · rw [eo, eo]; exact h2 f g k s hf hg hk
  · have y := (ea j).mp y
    obtain ⟨t, t1, t2, t3⟩ := h3 j hj y
    exact ⟨t, t1, by rw [e29]; exact t2, fun f hf z => t3 f hf ((eo f j t).mp z)⟩
  · rw [e12, e46]
    intro y
    obtain ⟨f, q1, q2, q3⟩ := h4 y
    exact ⟨f, q1, q2, by rw [e39]; exact q3⟩
  · rw [eo, e 42 (by decide)]
    intro y z i hi
    have x : g ≠ f := fun x => (ow_neg hk y).1 (by rw [x]; exact h39)
    rw [e38 g i x, e37]
    exact h6 g k s hg hk hs y z i hi
  · rw [e46] at y3
    rw [e47] at y4
    rw [e29] at y5
    obtain rfl : g = f := nI_inj (by omega) (by omega) (by rw [← y3, h46])
    rw [e37]
    exact w38 k s i hk hs hi y4 y5
theorem wd_tc {n f : Nat} {a b : AS} (h : GF n a) (h' : GF n b) (hn : n ≤ 12) (h12 : ¬ av a 12 0 0 = 0) (h45 : ¬ av a 45 0 0 = 1) (h46 : av a 46 0 0 = nI f) (hf : f < n) (e : ∀ q, q = 37 ∨ q = 39 ∨ q = 40 → ∀ i j, av b q i j = av a q i j) (e45 : av b 45 0 0 = 0) (e38 : ∀ g i, g ≠ f → av b 38 g i = av a 38 g i) : ∀ j s i, j < 6 → s < 8 → i < 16 → wd n j s i b = wd n j s i a := by
  intro j s i hj hs hi
  have eo := ow_eq (e 39 (by decide)) (e 40 (by decide))
  have h39 : av a 39 f 0 = -2 := by
    obtain ⟨f', q1, q2, q3⟩ := h.2.2.2.1 h12
    obtain rfl : f' = f := nI_inj (by omega) (by omega) (by rw [← q2, h46])
    exact q3
  have hw : ¬ wri b j s := fun w => by
    have := w.1
    rw [e45] at this
    exact absurd this (by decide)
  rcases wd_cases h hn (fun _ => h12) hj hs with ⟨c1, -⟩ | ⟨c1, g, c3, c4, c6⟩ | ⟨c1, c2, c6⟩
  · exact absurd c1.1 h45
  · have x : g ≠ f := fun x => (ow_neg hj c4).1 (by rw [x]; exact h39)
    rw [c6, wd_core h' hn hj hs c3 ((eo g j s).mpr c4), e38 g i x]
  · rw [c6, wd_drum h' hj hs hw (fun f hf y => c2 f hf ((eo f j s).mp y)), e 37 (by decide)]
/-- the segment is brought -/
theorem GF_bring {n f k s : Nat} {a b : AS} (h : GF n a) (hn : n ≤ 12) (h12 : av a 12 0 0 = 2) (h45 : av a 45 0 0 = 0) (h46 : av a 46 0 0 = nI f) (hf : f < n) (hk : k < 6) (hs : s < 8) (h47 : av a 47 0 0 = nI k) (h29 : av a 29 k 0 = nI s) (h14 : av a 14 k 0 = 2) (hkl : k ∉ al a 1)
    (e : ∀ q, q = 14 ∨ q = 29 ∨ q = 37 ∨ q = 38 ∨ q = 45 → ∀ i j, av b q i j = av a q i j) (el : al b 1 = al a 1) (e12 : av b 12 0 0 = 0) (e39 : ∀ g, av b 39 g 0 = if g = f then nI k else av a 39 g 0) (e40 : ∀ g, av b 40 g 0 = if g = f then nI s else av a 40 g 0) (e42 : ∀ g, g ≠ f → av b 42 g 0 = av a 42 g 0) : GF n b := by
  have e14 := e 14 (by decide)
  have e37 := e 37 (by decide)
  have e38 := e 38 (by decide)
  have e29 := e 29 (by decide)
  have e45 := e 45 (by decide) 0 0
  have n01 : ¬ (0 : Int32) = 1 := by decide
  have n02 : ¬ (0 : Int32) = 2 := by decide
  have n20 : ¬ (2 : Int32) = 0 := by decide
  obtain ⟨h1, h2, h3, h4, h5, h6, h7⟩ := h
  have eo : ∀ g j t, g ≠ f → (ow b g j t ↔ ow a g j t) := fun g j t hg => by
    unfold ow
    rw [e39, e40, if_neg hg, if_neg hg]
  have ef : ∀ j t, j < 6 → t < 8 → ow b f j t → j = k ∧ t = s := fun j t hj ht y => by
    have y1 := y.1
    have y2 := y.2
    rw [e39, if_pos rfl] at y1
    rw [e40, if_pos rfl] at y2
    exact ⟨nI_inj (by omega) (by omega) y1.symm, nI_inj (by omega) (by omega) y2.symm⟩
  have efk : ∀ j t, j < 6 → ow b f j t → j = k ∧ nI t = nI s := fun j t hj y => by
    have y1 := y.1
    have y2 := y.2
    rw [e39, if_pos rfl] at y1
    rw [e40, if_pos rfl] at y2
    exact ⟨nI_inj (by omega) (by omega) y1.symm, y2.symm⟩
  have hAK : AK a k := Or.inr ⟨by rw [h12]; decide, h47⟩
  have hno : ∀ g, g < n → ¬ ow a g k s := by
    obtain ⟨s', s1, s2, s3⟩ := h3 k hk hAK
    obtain rfl : s' = s := nI_inj (by omega) (by omega) (by rw [← s2, h29])
    exact s3
  have hnoI : ∀ g t, g < n → nI t = nI s → ¬ ow a g k t := fun g t hg et y => hno g hg ⟨y.1, by rw [y.2, et]⟩
  refine ⟨fun g hg => ?_, fun g g' j t hg hg' hj y y' => ?_, fun j hj y => ?_, fun y => absurd e12 y, fun y => absurd (h45 ▸ e45 ▸ y) n01, fun g j t hg hj ht y z i hi => ?_, fun y => absurd (e12 ▸ y) n02⟩
  · by_cases x : g = f
    · subst x
      exact Or.inr (Or.inr ⟨k, s, hk, hs, ⟨by rw [e39, if_pos rfl], by rw [e40, if_pos rfl]⟩, by rw [e14]; exact h14⟩)
    · rcases h1 g hg with w | w | ⟨j, t, q1, q2, q3, q4⟩
      · exact Or.inl (by rw [e39, if_neg x]; exact w)
      · exact absurd (nI_inj (by omega) (by omega) (by rw [← w.2.2, h46])) x
      · exact Or.inr (Or.inr ⟨j, t, q1, q2, (eo g j t x).mpr q3, by rw [e14]; exact q4⟩)
  · by_cases x : g = f
    · by_cases x' : g' = f
      · rw [x, x']
      · exfalso
        obtain ⟨c1, c2⟩ := efk j t hj (x ▸ y)
        have := (eo g' j t x').mp y'
        rw [c1] at this
        exact hnoI g' t hg' c2 this
    · by_cases x' : g' = f
      · exfalso
        obtain ⟨c1, c2⟩ := efk j t hj (x' ▸ y')
        have := (eo g j t x).mp y
        rw [c1] at this
        exact hnoI g t hg c2 this
      · exact h2 g g' j t hg hg' hj ((eo g j t x).mp y) ((eo g' j t x').mp y')
  · have yl : j ∈ al a 1 := by
      rcases y with y | y
      · rw [el] at y; exact y
      · exact absurd e12 y.1
    obtain ⟨t, t1, t2, t3⟩ := h3 j hj (Or.inl yl)
    refine ⟨t, t1, by rw [e29]; exact t2, fun g hg z => ?_⟩
    by_cases x : g = f
    · exact hkl ((efk j t hj (x ▸ z)).1 ▸ yl)
    · exact t3 g hg ((eo g j t x).mp z)
  · rw [e38, e37]
    by_cases x : g = f
    · obtain ⟨c1, c2⟩ := ef j t hj ht (x ▸ y)
      rw [x, c1, c2]
      exact h7 h12 h45 f k s hf hk hs h46 h47 h29 i hi
    · rw [e42 g x] at z
      exact h6 g j t hg hj ht ((eo g j t x).mp y) z i hi
theorem wd_bring {n f k s : Nat} {a b : AS} (h : GF n a) (h' : GF n b) (hn : n ≤ 12) (h12 : av a 12 0 0 = 2) (h45 : av a 45 0 0 = 0) (h46 : av a 46 0 0 = nI f) (hf : f < n) (hk : k < 6) (hs : s < 8) (h47 : av a 47 0 0 = nI k) (h29 : av a 29 k 0 = nI s)
    (e : ∀ q, q = 37 ∨ q = 38 ∨ q = 45 → ∀ i j, av b q i j = av a q i j) (e39 : ∀ g, av b 39 g 0 = if g = f then nI k else av a 39 g 0) (e40 : ∀ g, av b 40 g 0 = if g = f then nI s else av a 40 g 0) : ∀ j t i, j < 6 → t < 8 → i < 16 → wd n j t i b = wd n j t i a := by
  intro j t i hj ht hi
  have h01 : ¬ (0 : Int32) = 1 := by decide
  have e45 := e 45 (by decide) 0 0
  have hw : ¬ wri b j t := fun w => by
    have := w.1
    rw [e45, h45] at this
    exact absurd this (by decide)
  have h39 : av a 39 f 0 = -2 := by
    obtain ⟨f', q1, q2, q3⟩ := h.2.2.2.1 (by rw [h12]; decide)
    obtain rfl : f' = f := nI_inj (by omega) (by omega) (by rw [← q2, h46])
    exact q3
  have eo : ∀ g j t, g ≠ f → (ow b g j t ↔ ow a g j t) := fun g j t hg => by
    unfold ow
    rw [e39, e40, if_neg hg, if_neg hg]
  rcases wd_cases h hn (fun y => absurd (h45 ▸ y) h01) hj ht with ⟨c1, -⟩ | ⟨c1, g, c3, c4, c6⟩ | ⟨c1, c2, c6⟩
  · exact absurd (h45 ▸ c1.1) h01
  · have x : g ≠ f := fun x => (ow_neg hj c4).1 (by rw [x]; exact h39)
    rw [c6, wd_core h' hn hj ht c3 ((eo g j t x).mpr c4), e 38 (by decide)]
  · rw [c6]
    by_cases x : j = k ∧ t = s
    · obtain ⟨rfl, rfl⟩ := x
      rw [wd_core h' hn hj ht hf ⟨by rw [e39, if_pos rfl], by rw [e40, if_pos rfl]⟩, e 38 (by decide)]
      exact h.2.2.2.2.2.2 h12 h45 f j t hf hj ht h46 h47 h29 i hi
    · rw [wd_drum h' hj ht hw (fun g hg y => ?_), e 37 (by decide)]
      by_cases z : g = f
      · have y1 := y.1
        have y2 := y.2
        rw [e39, if_pos z] at y1
        rw [e40, if_pos z] at y2
        exact x ⟨nI_inj (by omega) (by omega) y1.symm, nI_inj (by omega) (by omega) y2.symm⟩
      · exact c2 g hg ((eo g j t z).mp y)
theorem GN_bring {n f k s : Nat} {a b : AS} (h : GN n a) (hf : f < n) (hk : k < 6) (hs : s < 8) (hA : AK a k) (h29 : av a 29 k 0 = nI s) (ew : ∀ j t i, j < 6 → t < 8 → i < 16 → wd n j t i b = wd n j t i a) (e18 : ∀ j, av b 18 j 0 = av a 18 j 0) (e20 : ∀ j, av b 20 j 0 = av a 20 j 0) (e29 : ∀ j, av b 29 j 0 = av a 29 j 0) (e14 : ∀ j, av b 14 j 0 = av a 14 j 0)
    (e39 : ∀ g, av b 39 g 0 = if g = f then nI k else av a 39 g 0) (e40 : ∀ g, av b 40 g 0 = if g = f then nI s else av a 40 g 0) (e43 : ∀ g, g ≠ f → av b 43 g 0 = av a 43 g 0) (hAb : ∀ j, AK b j → AK a j) : GN n b := by
  obtain ⟨h1, h2, h3⟩ := h
  have hnd : ∀ j t, j < 6 → nd n a j t → nd n b j t := fun j t hj y => nd_eq y (e18 j) (e20 j) (fun t i ht hi => ew j t i hj ht hi)
  refine ⟨fun g hg y => ?_, fun j hj y t ht z => ?_, by rw [adn_eq e14]; exact h3⟩
  · by_cases x : g = f
    · exact ⟨k, s, hk, hs, ⟨by rw [e39, if_pos x], by rw [e40, if_pos x]⟩, hnd k s hk (h2 k hk hA s hs h29)⟩
    · rw [e43 g x] at y
      obtain ⟨j, t, q1, q2, q3, q4⟩ := h1 g hg y
      exact ⟨j, t, q1, q2, ⟨by rw [e39, if_neg x]; exact q3.1, by rw [e40, if_neg x]; exact q3.2⟩, hnd j t q1 q4⟩
  · rw [e29] at z
    exact hnd j t hj (h2 j hj (hAb j y) t ht z)
