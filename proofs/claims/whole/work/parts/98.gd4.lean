/-! groups F and N: over, taking a job in, submit -/
theorem GF_over {n k : Nat} {a b : AS} (h : GF n a) (hk : k < 6) (hA : ¬ AK a k) (e : ∀ q, q = 12 ∨ q = 23 ∨ q = 29 ∨ q = 37 ∨ q = 38 ∨ q = 40 ∨ q = 45 ∨ q = 46 ∨ q = 47 ∨ q = 49 ∨ q = 50 ∨ q = 51 → ∀ i j, av b q i j = av a q i j) (el : al b 1 = al a 1) (e14 : ∀ j, av b 14 j 0 = if j = k then 3 else av a 14 j 0) (e39 : ∀ f, f < n → av b 39 f 0 = if av a 39 f 0 = nI k then -1 else av a 39 f 0) (e42 : ∀ f, f < n → ¬ av a 39 f 0 = nI k → av b 42 f 0 = av a 42 f 0) : GF n b := by
  have e12 := e 12 (by decide) 0 0
  have e47 := e 47 (by decide) 0 0
  have e46 := e 46 (by decide) 0 0
  have e45 := e 45 (by decide) 0 0
  have e40 := e 40 (by decide)
  have e37 := e 37 (by decide)
  have e38 := e 38 (by decide)
  have e23 := e 23 (by decide)
  have e29 := e 29 (by decide)
  have ea := AK_eq e12 e47 el
  have n1 : ∀ j, j < 6 → ¬ (-1 : Int32) = nI j := fun j hj y => nI_pos (n := j) (by omega) (by rw [← y]; decide)
  have n2 : ∀ j, j < 6 → ¬ (-2 : Int32) = nI j := fun j hj y => nI_pos (n := j) (by omega) (by rw [← y]; decide)
  have eo : ∀ f j s, f < n → j < 6 → ow b f j s → ow a f j s ∧ ¬ av a 39 f 0 = nI k := fun f j s hf hj y => by
    have y1 := y.1
    have y2 := y.2
    rw [e39 f hf] at y1
    rw [e40] at y2
    by_cases x : av a 39 f 0 = nI k
    · rw [if_pos x] at y1; exact absurd y1 (n1 j hj)
    · rw [if_neg x] at y1; exact ⟨⟨y1, y2⟩, x⟩
  obtain ⟨h1, h2, h3, h4, h5, h6, h7⟩ := h
  refine ⟨fun f hf => ?_, fun f g j s hf hg hj y y' => ?_, fun j hj y => ?_, ?_, ?_, fun f j s hf hj hs y z i hi => ?_, ?_⟩
  · rw [e39 f hf, e12, e46]
    by_cases x : av a 39 f 0 = nI k
    · rw [if_pos x]; exact Or.inl rfl
    · rw [if_neg x]
      refine (h1 f hf).imp id (Or.imp id ?_)
      rintro ⟨j, s, q1, q2, q3, q4⟩
      have hjk : j ≠ k := fun c => x (by rw [q3.1, c])
      exact ⟨j, s, q1, q2, ⟨by rw [e39 f hf, if_neg x]; exact q3.1, by rw [e40]; exact q3.2⟩, by rw [e14, if_neg hjk]; exact q4⟩
  · exact h2 f g j s hf hg hj (eo f j s hf hj y).1 (eo g j s hg hj y').1
  · have y := (ea j).mp y
    obtain ⟨t, t1, t2, t3⟩ := h3 j hj y
    exact ⟨t, t1, by rw [e29]; exact t2, fun f hf z => t3 f hf (eo f j t hf hj z).1⟩
  · rw [e12, e46]
    intro y
    obtain ⟨f, q1, q2, q3⟩ := h4 y
    exact ⟨f, q1, q2, by rw [e39 f q1, if_neg (by rw [q3]; exact n2 k hk)]; exact q3⟩
  · rw [e45, e 49 (by decide), e 50 (by decide), e 51 (by decide)]
    intro y
    obtain ⟨j, t, q1, q2, q3, q4, q5⟩ := h5 y
    refine ⟨j, t, q1, q2, q3, q4, ?_⟩
    rw [e23, e14]
    intro z
    by_cases x : j = k
    · rw [if_pos x]; exact ⟨Or.inr rfl, fun w => absurd rfl w⟩
    · rw [if_neg x]
      exact ⟨(q5 z).1, fun z2 f hf z3 => (q5 z).2 z2 f hf (eo f j t hf q1 z3).1⟩
  · obtain ⟨y1, y2⟩ := eo f j s hf hj y
    rw [e38, e37]
    rw [e42 f hf y2] at z
    exact h6 f j s hf hj hs y1 z i hi
  · rw [e12, e45, e46, e47]
    intro y1 y2 f j t hf hj ht y3 y4 y5 i hi
    rw [e38, e37]
    rw [e29] at y5
    exact h7 y1 y2 f j t hf hj ht y3 y4 y5 i hi
theorem wd_over {n k : Nat} {a b : AS} (h : GF n a) (h' : GF n b) (hn : n ≤ 12) (h45 : av a 45 0 0 = 1 → ¬ av a 12 0 0 = 0) (hk : k < 6) (e : ∀ q, q = 23 ∨ q = 37 ∨ q = 38 ∨ q = 40 ∨ q = 45 ∨ q = 46 ∨ q = 49 ∨ q = 50 ∨ q = 51 → ∀ i j, av b q i j = av a q i j) (e14 : ∀ j, j ≠ k → av b 14 j 0 = av a 14 j 0) (e39 : ∀ f, f < n → av b 39 f 0 = if av a 39 f 0 = nI k then -1 else av a 39 f 0) : ∀ j s i, j < 6 → j ≠ k → s < 8 → i < 16 → wd n j s i b = wd n j s i a := by
  intro j s i hj hjk hs hi
  have n1 : ∀ j, j < 6 → ¬ (-1 : Int32) = nI j := fun j hj y => nI_pos (n := j) (by omega) (by rw [← y]; decide)
  have ew : wri b j s ↔ wri a j s := by
    unfold wri
    rw [e 45 (by decide), e 49 (by decide), e 23 (by decide), e 51 (by decide), e14 j hjk, e 50 (by decide)]
  have eo : ∀ f, f < n → (ow b f j s ↔ ow a f j s) := fun f hf => by
    unfold ow
    rw [e39 f hf, e 40 (by decide)]
    by_cases x : av a 39 f 0 = nI k
    · rw [if_pos x, x]
      exact ⟨fun y => absurd y.1 (n1 j hj), fun y => absurd (nI_inj (by omega) (by omega) y.1).symm hjk⟩
    · rw [if_neg x]
  rcases wd_cases h hn h45 hj hs with ⟨c1, c2, f, c3, c4, c5, c6⟩ | ⟨c1, f, c3, c4, c6⟩ | ⟨c1, c2, c6⟩
  · rw [c6, wd_write (ew.mpr c1) (show f < 2 ^ 31 by omega) (by rw [e 46 (by decide)]; exact c4), e 38 (by decide)]
  · rw [c6, wd_core h' hn hj hs c3 ((eo f c3).mpr c4), e 38 (by decide)]
  · rw [c6, wd_drum h' hj hs (fun w => c1 (ew.mp w)) (fun f hf y => c2 f hf ((eo f hf).mp y)), e 37 (by decide)]
/-- a change of state of a job that owns no frame: taking it in, submit -/
theorem GF_job {n k : Nat} {a b : AS} (h : GF n a) (hA : ¬ AK a k) (h14 : ¬ av a 14 k 0 = 2) (e : ∀ q, q = 12 ∨ q = 38 ∨ q = 39 ∨ q = 40 ∨ q = 42 ∨ q = 45 ∨ q = 46 ∨ q = 47 ∨ q = 49 ∨ q = 50 ∨ q = 51 → ∀ i j, av b q i j = av a q i j) (el : al b 1 = al a 1) (ek : ∀ q, q = 14 ∨ q = 23 ∨ q = 29 ∨ q = 37 → ∀ i j, i ≠ k → av b q i j = av a q i j) (h51 : av a 45 0 0 = 1 → av a 49 0 0 = nI k → ¬ av b 23 k 0 = av a 51 0 0) (hk6 : k < 6) : GF n b := by
  have e12 := e 12 (by decide) 0 0
  have e47 := e 47 (by decide) 0 0
  have e46 := e 46 (by decide) 0 0
  have e45 := e 45 (by decide) 0 0
  have e39 := e 39 (by decide)
  have e38 := e 38 (by decide)
  have eo := ow_eq e39 (e 40 (by decide))
  have ea := AK_eq e12 e47 el
  obtain ⟨h1, h2, h3, h4, h5, h6, h7⟩ := h
  have own : ∀ f j s, f < n → j < 6 → ow a f j s → j ≠ k := fun f j s hf hj y c => by
    rcases h1 f hf with w | w | ⟨j', s', w1, w2, w3, w4⟩
    · exact absurd w (ow_neg hj y).2
    · exact absurd w.1 (ow_neg hj y).1
    · obtain rfl : j' = j := nI_inj (by omega) (by omega) (by rw [← w3.1, y.1])
      exact h14 (c ▸ w4)
  refine ⟨fun f hf => ?_, fun f g k s hf hg hk => ?_, fun j hj y => ?_, ?_, ?_, fun f j s hf hj hs => ?_, ?_⟩
  · rw [e39, e12, e46]
    refine (h1 f hf).imp id (Or.imp id ?_)
    rintro ⟨j, s, q1, q2, q3, q4⟩
    exact ⟨j, s, q1, q2, (eo f j s).mpr q3, by rw [ek 14 (by decide) j 0 (own f j s hf q1 q3)]; exact q4⟩
  · rw [eo, eo]; exact h2 f g k s hf hg hk
  · have y := (ea j).mp y
    obtain ⟨t, t1, t2, t3⟩ := h3 j hj y
    exact ⟨t, t1, by rw [ek 29 (by decide) j 0 (fun c => hA (c ▸ y))]; exact t2, fun f hf z => t3 f hf ((eo f j t).mp z)⟩
  · rw [e12, e46]
    intro y
    obtain ⟨f, q1, q2, q3⟩ := h4 y
    exact ⟨f, q1, q2, by rw [e39]; exact q3⟩
  · rw [e45, e 49 (by decide), e 50 (by decide), e 51 (by decide)]
    intro y
    obtain ⟨j, t, q1, q2, q3, q4, q5⟩ := h5 y
    refine ⟨j, t, q1, q2, q3, q4, ?_⟩
    intro z
    by_cases x : j = k
    · exact absurd (x ▸ z) (h51 y (x ▸ q3))
    · rw [ek 23 (by decide) j 0 x] at z
      rw [ek 14 (by decide) j 0 x]
      exact ⟨(q5 z).1, fun z2 f hf z3 => (q5 z).2 z2 f hf ((eo f j t).mp z3)⟩
  · rw [eo, e 42 (by decide)]
    intro y z i hi
    rw [e38, ek 37 (by decide) j _ (own f j s hf hj y)]
    exact h6 f j s hf hj hs y z i hi
  · rw [e12, e45, e46, e47]
    intro y1 y2 f j t hf hj ht y3 y4 y5 i hi
    have x : j ≠ k := fun c => hA (Or.inr ⟨by rw [y1]; decide, by rw [y4, c]⟩)
    rw [e38, ek 37 (by decide) j _ x]
    rw [ek 29 (by decide) j 0 x] at y5
    exact h7 y1 y2 f j t hf hj ht y3 y4 y5 i hi
theorem wd_job {n k : Nat} {a b : AS} (h : GF n a) (h' : GF n b) (hn : n ≤ 12) (h45 : av a 45 0 0 = 1 → ¬ av a 12 0 0 = 0) (e : ∀ q, q = 38 ∨ q = 39 ∨ q = 40 ∨ q = 45 ∨ q = 46 ∨ q = 49 ∨ q = 50 ∨ q = 51 → ∀ i j, av b q i j = av a q i j) (ek : ∀ q, q = 14 ∨ q = 23 ∨ q = 37 → ∀ i j, i ≠ k → av b q i j = av a q i j) : ∀ j s i, j < 6 → j ≠ k → s < 8 → i < 16 → wd n j s i b = wd n j s i a := by
  intro j s i hj hjk hs hi
  have eo := ow_eq (e 39 (by decide)) (e 40 (by decide))
  have ew : wri b j s ↔ wri a j s := by
    unfold wri
    rw [e 45 (by decide), e 49 (by decide), ek 23 (by decide) j 0 hjk, e 51 (by decide), ek 14 (by decide) j 0 hjk, e 50 (by decide)]
  rcases wd_cases h hn h45 hj hs with ⟨c1, c2, f, c3, c4, c5, c6⟩ | ⟨c1, f, c3, c4, c6⟩ | ⟨c1, c2, c6⟩
  · rw [c6, wd_write (ew.mpr c1) (show f < 2 ^ 31 by omega) (by rw [e 46 (by decide)]; exact c4), e 38 (by decide)]
  · rw [c6, wd_core h' hn hj hs c3 ((eo f j s).mpr c4), e 38 (by decide)]
  · rw [c6, wd_drum h' hj hs (fun w => c1 (ew.mp w)) (fun f hf y => c2 f hf ((eo f j s).mp y)), ek 37 (by decide) j _ hjk]
theorem adn_14 {k : Nat} {x : Int32} {a b : AS} (e14 : ∀ j, av b 14 j 0 = if j = k then x else av a 14 j 0) (hx : ¬ x = 2 ∨ av a 14 k 0 = 2) : ∀ m, adn b m ≤ adn a m := by
  intro m
  induction m with
  | zero => exact Nat.le_refl _
  | succ m ih =>
    simp only [adn]
    rw [e14]
    by_cases c : m = k
    · subst c
      rw [if_pos rfl]
      rcases hx with hx | hx
      · rw [if_neg hx]; omega
      · rw [if_pos hx]; split <;> omega
    · rw [if_neg c]; omega
theorem adn_admit {k : Nat} {a b : AS} (e14 : ∀ j, av b 14 j 0 = if j = k then 2 else av a 14 j 0) : ∀ m, adn b m ≤ adn a m + 1 ∧ (m ≤ k → adn b m ≤ adn a m) := by
  intro m
  induction m with
  | zero => exact ⟨by simp only [adn]; omega, fun _ => Nat.le_refl _⟩
  | succ m ih =>
    simp only [adn]
    rw [e14]
    by_cases c : m = k
    · subst c
      rw [if_pos rfl, if_pos rfl]
      have := ih.2 (Nat.le_refl _)
      exact ⟨by split <;> omega, fun y => by omega⟩
    · rw [if_neg c]
      exact ⟨by omega, fun y => by have := ih.2 (by omega); omega⟩
theorem z_adm_nI {a : AS} : ∀ m, z_adm a m = nI (adn a m) := by
  intro m
  induction m with
  | zero => rfl
  | succ m ih =>
    simp only [z_adm, adn]
    split
    · rw [ih, nI_1]
    · rw [ih, Nat.add_zero]
theorem adn_le {a : AS} : ∀ m, adn a m ≤ m := by
  intro m
  induction m with
  | zero => exact Nat.le_refl _
  | succ m ih => simp only [adn]; split <;> omega
