/-! groups F and N: store, take, begin -/
theorem wd_cases {n k s : Nat} {a : AS} (hF : GF n a) (hn : n ≤ 12) (h45 : av a 45 0 0 = 1 → ¬ av a 12 0 0 = 0) (hk : k < 6) (hs : s < 8) : (wri a k s ∧ (∀ f, f < n → ¬ ow a f k s) ∧ ∃ f, f < n ∧ av a 46 0 0 = nI f ∧ av a 39 f 0 = -2 ∧ ∀ i, wd n k s i a = av a 38 f i) ∨ (¬ wri a k s ∧ ∃ f, f < n ∧ ow a f k s ∧ ∀ i, wd n k s i a = av a 38 f i) ∨ (¬ wri a k s ∧ (∀ f, f < n → ¬ ow a f k s) ∧ ∀ i, wd n k s i a = av a 37 k (16 * s + i)) := by
  by_cases c : wri a k s
  · obtain ⟨f, f1, f2, f3⟩ := hF.2.2.2.1 (h45 c.1)
    exact Or.inl ⟨c, wri_no hF hk hs c, f, f1, f2, f3, fun i => wd_write c (by omega) f2⟩
  · by_cases c2 : ∃ f, f < n ∧ ow a f k s
    · obtain ⟨f, f1, f2⟩ := c2
      exact Or.inr (Or.inl ⟨c, f, f1, f2, fun i => wd_core hF hn hk hs f1 f2⟩)
    · have hno : ∀ f, f < n → ¬ ow a f k s := fun f hf y => c2 ⟨f, hf, y⟩
      exact Or.inr (Or.inr ⟨c, hno, fun i => wd_drum hF hk hs c hno⟩)
theorem ow_neg {a : AS} {f k s : Nat} (hk : k < 6) (h : ow a f k s) : ¬ av a 39 f 0 = -2 ∧ ¬ av a 39 f 0 = -1 := by
  refine ⟨fun y => ?_, fun y => ?_⟩ <;> rw [h.1] at y <;> exact absurd (by rw [y]; decide) (nI_pos (n := k) (by omega))
theorem GF_store {n k s g c : Nat} {v : Int32} {a b : AS} (h : GF n a) (hn : n ≤ 12) (hk : k < 6) (hg : g < n) (ho : ow a g k s) (e : ∀ q, q = 12 ∨ q = 14 ∨ q = 23 ∨ q = 29 ∨ q = 37 ∨ q = 39 ∨ q = 40 ∨ q = 45 ∨ q = 46 ∨ q = 47 ∨ q = 49 ∨ q = 50 ∨ q = 51 → ∀ i j, av b q i j = av a q i j) (el : al b 1 = al a 1) (e42 : ∀ f, av b 42 f 0 = if f = g then 1 else av a 42 f 0) (e38 : ∀ f i, av b 38 f i = if f = g ∧ i = c then v else av a 38 f i) : GF n b := by
  have e12 := e 12 (by decide) 0 0
  have e47 := e 47 (by decide) 0 0
  have e46 := e 46 (by decide) 0 0
  have e45 := e 45 (by decide) 0 0
  have e14 := e 14 (by decide)
  have e39 := e 39 (by decide)
  have e40 := e 40 (by decide)
  have e37 := e 37 (by decide)
  have e23 := e 23 (by decide)
  have e29 := e 29 (by decide)
  have eo := ow_eq e39 e40
  have ea := AK_eq e12 e47 el
  obtain ⟨h1, h2, h3, h4, h5, h6, h7⟩ := h
  refine ⟨fun f hf => ?_, fun f g k s hf hg hk => ?_, fun j hj y => ?_, ?_, ?_, fun f k s hf hk hs => ?_, ?_⟩
  · rw [e39, e12, e46]
    refine (h1 f hf).imp id (Or.imp id ?_)
    rintro ⟨k, s, q1, q2, q3, q4⟩
    exact ⟨k, s, q1, q2, (eo f k s).mpr q3, by rw [e14]; exact q4⟩
  · rw [eo, eo]; exact h2 f g k s hf hg hk
  · have y := (ea j).mp y
    obtain ⟨t, t1, t2, t3⟩ := h3 j hj y
    exact ⟨t, t1, by rw [e29]; exact t2, fun f hf z => t3 f hf ((eo f j t).mp z)⟩
  · rw [e12, e46]
    intro y
    obtain ⟨f, q1, q2, q3⟩ := h4 y
    exact ⟨f, q1, q2, by rw [e39]; exact q3⟩
  · rw [e45, e 49 (by decide), e 50 (by decide), e 51 (by decide)]
    intro y
    obtain ⟨j, t, q1, q2, q3, q4, q5⟩ := h5 y
    refine ⟨j, t, q1, q2, q3, q4, ?_⟩
    rw [e23, e14]
    exact fun z => ⟨(q5 z).1, fun z2 f hf z3 => (q5 z).2 z2 f hf ((eo f j t).mp z3)⟩
  · rw [eo, e42]
    intro y z i hi
    by_cases x : f = g
    · rw [if_pos x] at z; exact absurd z (by decide)
    · rw [if_neg x] at z
      rw [e38, if_neg (fun w => x w.1), e37]
      exact h6 f k s hf hk hs y z i hi
  · rw [e12, e45, e46, e47]
    intro y1 y2 f j t hf hj ht y3 y4 y5 i hi
    obtain ⟨f', q1, q2, q3⟩ := h4 (by rw [y1]; decide)
    obtain rfl : f' = f := nI_inj (by omega) (by omega) (by rw [← q2, y3])
    have x : ¬ f' = g := fun x => (ow_neg hk ho).1 (by rw [← x]; exact q3)
    rw [e38, if_neg (fun w => x w.1), e37]
    rw [e29] at y5
    exact h7 y1 y2 f' j t hf hj ht y3 y4 y5 i hi
theorem wri_eq {a b : AS} (e : ∀ q, q = 14 ∨ q = 23 ∨ q = 45 ∨ q = 49 ∨ q = 50 ∨ q = 51 → ∀ i j, av b q i j = av a q i j) (k s : Nat) : wri b k s ↔ wri a k s := by
  unfold wri
  rw [e 45 (by decide), e 49 (by decide), e 23 (by decide), e 51 (by decide), e 14 (by decide), e 50 (by decide)]
theorem wd_store {n k s g c : Nat} {v : Int32} {a b : AS} (h : GF n a) (h' : GF n b) (hn : n ≤ 12) (h45 : av a 45 0 0 = 1 → ¬ av a 12 0 0 = 0) (hk : k < 6) (ho : ow a g k s) (e : ∀ q, q = 12 ∨ q = 14 ∨ q = 23 ∨ q = 29 ∨ q = 37 ∨ q = 39 ∨ q = 40 ∨ q = 45 ∨ q = 46 ∨ q = 47 ∨ q = 49 ∨ q = 50 ∨ q = 51 → ∀ i j, av b q i j = av a q i j) (e38 : ∀ f i, av b 38 f i = if f = g ∧ i = c then v else av a 38 f i) : ∀ j t i, j < 6 → j ≠ k → t < 8 → i < 16 → wd n j t i b = wd n j t i a := by
  intro j t i hj hjk ht hi
  have eo := ow_eq (e 39 (by decide)) (e 40 (by decide))
  have ew := wri_eq (a := a) (b := b) (fun q hq => e q (by omega))
  have e46 := e 46 (by decide) 0 0
  rcases wd_cases h hn h45 hj ht with ⟨c1, c2, f, c3, c4, c5, c6⟩ | ⟨c1, f, c3, c4, c6⟩ | ⟨c1, c2, c6⟩
  · rw [c6, wd_write ((ew j t).mpr c1) (show f < 2 ^ 31 by omega) (by rw [e46]; exact c4), e38, if_neg]
    intro w
    exact (ow_neg hk ho).1 (by rw [← w.1]; exact c5)
  · rw [c6, wd_core h' hn hj ht c3 ((eo f j t).mpr c4), e38, if_neg]
    intro w
    have := ho.1
    rw [← w.1, c4.1] at this
    exact hjk (nI_inj (by omega) (by omega) this)
  · rw [c6, wd_drum h' hj ht (fun w => c1 ((ew j t).mp w)) (fun f hf w => c2 f hf ((eo f j t).mp w)), e 37 (by decide)]
/-- a frame is taken for the first who asks -/
theorem GF_take {n k f : Nat} {d : Int32} {t : List Nat} {a b : AS} (h : GF n a) (hn : n ≤ 12) (h12 : av a 12 0 0 = 0) (hf : f < n) (hk : k < 6) (hl : al a 1 = k :: t) (hd : ¬ d = 0)
    (e : ∀ q, q = 14 ∨ q = 23 ∨ q = 29 ∨ q = 37 ∨ q = 38 ∨ q = 40 → ∀ i j, av b q i j = av a q i j) (el : al b 1 = t) (e12 : av b 12 0 0 = d) (e45 : av b 45 0 0 = d) (e46 : av b 46 0 0 = nI f) (e47 : av b 47 0 0 = nI k)
    (e39 : ∀ g, av b 39 g 0 = if g = f then -2 else av a 39 g 0) (e42 : ∀ g, g ≠ f → av b 42 g 0 = av a 42 g 0)
    (h1d : d = 1 → ∃ j s, j < 6 ∧ s < 8 ∧ ow a f j s ∧ av b 49 0 0 = nI j ∧ av b 50 0 0 = nI s) : GF n b := by
  have e14 := e 14 (by decide)
  have e40 := e 40 (by decide)
  have e37 := e 37 (by decide)
  have e38 := e 38 (by decide)
  have e23 := e 23 (by decide)
  have e29 := e 29 (by decide)
  have n2 : ∀ j, j < 6 → ¬ (-2 : Int32) = nI j := fun j hj y => nI_pos (n := j) (by omega) (by rw [← y]; decide)
  have eo : ∀ g j s, j < 6 → ow b g j s → g ≠ f ∧ ow a g j s := fun g j s hj y => by
    have y1 := y.1
    have y2 := y.2
    rw [e39] at y1
    rw [e40] at y2
    by_cases x : g = f
    · rw [if_pos x] at y1; exact absurd y1 (n2 j hj)
    · rw [if_neg x] at y1; exact ⟨x, y1, y2⟩
  have oe : ∀ g j s, g ≠ f → ow a g j s → ow b g j s := fun g j s hg y => ⟨by rw [e39, if_neg hg]; exact y.1, by rw [e40]; exact y.2⟩
  obtain ⟨h1, h2, h3, h4, h5, h6, h7⟩ := h
  refine ⟨fun g hg => ?_, fun g g' j s hg hg' hj y y' => ?_, fun j hj y => ?_, fun _ => ⟨f, hf, e46, by rw [e39, if_pos rfl]⟩, fun y => ?_, fun g j s hg hj hs y z i hi => ?_, fun _ y => ?_⟩
  · rw [e39, e12, e46]
    by_cases x : g = f
    · rw [if_pos x, x]; exact Or.inr (Or.inl ⟨rfl, hd, rfl⟩)
    · rw [if_neg x]
      rcases h1 g hg with w | w | w
      · exact Or.inl w
      · exact absurd h12 w.2.1
      · obtain ⟨j, s, q1, q2, q3, q4⟩ := w
        exact Or.inr (Or.inr ⟨j, s, q1, q2, oe g j s x q3, by rw [e14]; exact q4⟩)
  · exact h2 g g' j s hg hg' hj (eo g j s hj y).2 (eo g' j s hj y').2
  · have ya : AK a j := by
      rcases y with y | y
      · rw [el] at y; exact Or.inl (by rw [hl]; exact List.mem_cons_of_mem _ y)
      · rw [e47] at y
        have : k = j := nI_inj (by omega) (by omega) y.2
        exact Or.inl (by rw [hl, this]; exact List.mem_cons_self)
    obtain ⟨s, s1, s2, s3⟩ := h3 j hj ya
    exact ⟨s, s1, by rw [e29]; exact s2, fun g hg z => s3 g hg (eo g j s hj z).2⟩
  · rw [e45] at y
    obtain ⟨j, s, q1, q2, q3, q4, q5⟩ := h1d y
    refine ⟨j, s, q1, q2, q4, q5, fun _ => ?_⟩
    rw [e14]
    have h14 : av a 14 j 0 = 2 := by
      rcases h1 f hf with w | w | w
      · exact absurd w (ow_neg q1 q3).2
      · exact absurd w.1 (ow_neg q1 q3).1
      · obtain ⟨j', s', w1, w2, w3, w4⟩ := w
        obtain rfl : j' = j := nI_inj (by omega) (by omega) (by rw [← w3.1, q3.1])
        exact w4
    refine ⟨Or.inl h14, fun _ g hg z => ?_⟩
    obtain ⟨z1, z2⟩ := eo g j s q1 z
    exact z1 (h2 g f j s hg hf q1 z2 q3)
  · obtain ⟨z1, z2⟩ := eo g j s hj y
    rw [e38, e37]
    rw [e42 g z1] at z
    exact h6 g j s hg hj hs z2 z i hi
  · rw [e45] at y
    exact absurd y hd
theorem wd_take {n f : Nat} {d : Int32} {a b : AS} (h : GF n a) (h' : GF n b) (hn : n ≤ 12) (h45 : av a 45 0 0 = 0) (hf : f < n) (hd : d = 1 ∨ d = 2)
    (e : ∀ q, q = 14 ∨ q = 23 ∨ q = 37 ∨ q = 38 ∨ q = 40 → ∀ i j, av b q i j = av a q i j) (e45 : av b 45 0 0 = d) (e46 : av b 46 0 0 = nI f)
    (e39 : ∀ g, av b 39 g 0 = if g = f then -2 else av a 39 g 0)
    (h1d : d = 1 → ∃ j s, j < 6 ∧ s < 8 ∧ ow a f j s ∧ av b 49 0 0 = nI j ∧ av b 50 0 0 = nI s ∧ av b 51 0 0 = av a 23 j 0)
    (h2d : d = 2 → av a 39 f 0 < 0 ∨ av a 42 f 0 = 0) : ∀ j s i, j < 6 → s < 8 → i < 16 → wd n j s i b = wd n j s i a := by
  intro j s i hj hs hi
  have e40 := e 40 (by decide)
  have n2 : ∀ j, j < 6 → ¬ (-2 : Int32) = nI j := fun j hj y => nI_pos (n := j) (by omega) (by rw [← y]; decide)
  have eo : ∀ g j s, j < 6 → ow b g j s → g ≠ f ∧ ow a g j s := fun g j s hj y => by
    have y1 := y.1
    have y2 := y.2
    rw [e39] at y1
    rw [e40] at y2
    by_cases x : g = f
    · rw [if_pos x] at y1; exact absurd y1 (n2 j hj)
    · rw [if_neg x] at y1; exact ⟨x, y1, y2⟩
  have h01 : ¬ (0 : Int32) = 1 := by decide
  rcases wd_cases h hn (fun y => absurd (h45 ▸ y) h01) hj hs with ⟨c1, -⟩ | ⟨c1, g, c3, c4, c6⟩ | ⟨c1, c2, c6⟩
  · exact absurd (h45 ▸ c1.1) h01
  · rw [c6]
    by_cases x : g = f
    · subst x
      rcases hd with hd | hd
      · obtain ⟨j', s', q1, q2, q3, q4, q5, q6⟩ := h1d hd
        obtain rfl : j' = j := nI_inj (by omega) (by omega) (by rw [← q3.1, c4.1])
        obtain rfl : s' = s := nI_inj (by omega) (by omega) (by rw [← q3.2, c4.2])
        have h14 : av a 14 j' 0 = 2 := by
          rcases h.1 g hf with w | w | w
          · exact absurd w (ow_neg q1 q3).2
          · exact absurd w.1 (ow_neg q1 q3).1
          · obtain ⟨j, s, w1, w2, w3, w4⟩ := w
            obtain rfl : j = j' := nI_inj (by omega) (by omega) (by rw [← w3.1, q3.1])
            exact w4
        rw [wd_write (f := g) ⟨by rw [e45, hd], q4, ⟨by rw [e 23 (by decide), q6], by rw [e 14 (by decide), h14]; decide⟩, q5⟩ (by omega) e46, e 38 (by decide)]
      · have hno : ∀ f', f' < n → ¬ ow b f' j s := fun f' hf' y => by
          obtain ⟨y1, y2⟩ := eo f' j s hj y
          exact y1 (h.2.1 f' g j s hf' hf hj y2 c4)
        have hw : ¬ wri b j s := fun w => by
          have := w.1
          rw [e45, hd] at this
          exact absurd this (by decide)
        have h42 : av a 42 g 0 = 0 := (h2d hd).resolve_left (fun y => by rw [c4.1] at y; exact nI_pos (by omega) y)
        rw [wd_drum h' hj hs hw hno, e 37 (by decide)]
        exact (h.2.2.2.2.2.1 g j s hf hj hs c4 h42 i hi).symm
    · rw [wd_core h' hn hj hs c3 ⟨by rw [e39, if_neg x]; exact c4.1, by rw [e40]; exact c4.2⟩, e 38 (by decide)]
  · have hno : ∀ f', f' < n → ¬ ow b f' j s := fun f' hf' y => c2 f' hf' (eo f' j s hj y).2
    have hw : ¬ wri b j s := fun w => by
      obtain ⟨w1, w2, w3, w4⟩ := w
      rw [e45] at w1
      obtain ⟨j', s', q1, q2, q3, q4, q5, q6⟩ := h1d w1
      obtain rfl : j' = j := nI_inj (by omega) (by omega) (by rw [← q4, w2])
      obtain rfl : s' = s := nI_inj (by omega) (by omega) (by rw [← q5, w4])
      exact c2 f hf q3
    rw [c6, wd_drum h' hj hs hw hno, e 37 (by decide)]
