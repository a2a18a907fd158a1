/-! THE INVARIANT, groups 5 to 9: numbers of the jobs, cards, hours, turn, tape -/
theorem nI_inj {i j : Nat} (hi : i < 2 ^ 31) (hj : j < 2 ^ 31) (h : nI i = nI j) : i = j := by
  have := congrArg Int32.toNatClampNeg h
  rwa [nI_clamp hi, nI_clamp hj] at this
def G5 (a : AS) : Prop := ∀ k, k < 6 → (∃ o, av a 16 k 0 = nI o ∧ o < 10) ∧ (av a 14 k 0 = 0 → av a 16 k 0 = 0) ∧ ∃ g, av a 22 k 0 = nI g ∧ g ≤ 8
theorem G5_one {a b : AS} {k : Nat} (h : G5 a) (e : ∀ g, g = 14 ∨ g = 16 ∨ g = 22 → ∀ j, j ≠ k → av b g j 0 = av a g j 0) (hk : (∃ o, av b 16 k 0 = nI o ∧ o < 10) ∧ (av b 14 k 0 = 0 → av b 16 k 0 = 0) ∧ ∃ g, av b 22 k 0 = nI g ∧ g ≤ 8) : G5 b := by
  intro j hj
  by_cases c : j = k
  · subst c; exact hk
  · rw [e 14 (by decide) j c, e 16 (by decide) j c, e 22 (by decide) j c]
    exact h j hj
theorem G5_eq {a b : AS} (h : G5 a) (e : ∀ g, g = 14 ∨ g = 16 ∨ g = 22 → ∀ i j, av b g i j = av a g i j) : G5 b := by
  intro k hk
  rw [e 14 (by decide), e 16 (by decide), e 22 (by decide)]
  exact h k hk
theorem sv_k {f k j : Nat} {x : Int32} {a : AS} : av (sv f k 0 x a) f j 0 = if j = k then x else av a f j 0 := by
  rw [av_sv]
  by_cases c : j = k
  · rw [if_pos ⟨rfl, c, rfl⟩, if_pos c]
  · rw [if_neg (fun y => c y.2.1), if_neg c]
theorem G5_out {a b : AS} {k o : Nat} (h : G5 a) (hk : k < 6) (h14 : av a 14 k 0 = 2) (ho : o < 10) (e : ∀ g, g = 14 ∨ g = 22 → ∀ i j, av b g i j = av a g i j) (e16 : ∀ j, av b 16 j 0 = if j = k then nI o else av a 16 j 0) : G5 b := by
  refine G5_one (k := k) h (fun g hg j hj => ?_) ⟨⟨o, by rw [e16, if_pos rfl], ho⟩, fun y => ?_, ?_⟩
  · rcases hg with rfl | rfl | rfl
    · exact e 14 (by decide) j 0
    · rw [e16, if_neg hj]
    · exact e 22 (by decide) j 0
  · rw [e 14 (by decide), h14] at y
    exact absurd y (by decide)
  · rw [e 22 (by decide)]; exact (h k hk).2.2
theorem G5_14 {a b : AS} {k : Nat} {x : Int32} (h : G5 a) (hk : k < 6) (hx : ¬ x = 0) (e : ∀ g, g = 16 ∨ g = 22 → ∀ i j, av b g i j = av a g i j) (e14 : ∀ j, av b 14 j 0 = if j = k then x else av a 14 j 0) : G5 b := by
  refine G5_one (k := k) h (fun g hg j hj => ?_) ⟨?_, fun y => ?_, ?_⟩
  · rcases hg with rfl | rfl | rfl
    · rw [e14, if_neg hj]
    · exact e 16 (by decide) j 0
    · exact e 22 (by decide) j 0
  · rw [e 16 (by decide)]; exact (h k hk).1
  · rw [e14, if_pos rfl] at y
    exact absurd y hx
  · rw [e 22 (by decide)]; exact (h k hk).2.2
/-- the cards -/
def G6 (a : AS) : Prop := ∀ k, k < 6 → ∃ c m, av a 31 k 0 = nI m ∧ m ≤ 40 ∧ av a 32 k 0 = nI c ∧ c ≤ m ∧ (k ∈ al a 3 ∨ av a 54 0 0 = nI k → c < m)
theorem G6_eq {a b : AS} (h : G6 a) (e : ∀ g, g = 31 ∨ g = 32 ∨ g = 54 → ∀ i j, av b g i j = av a g i j) (el : al b 3 = al a 3) : G6 b := by
  intro k hk
  rw [e 31 (by decide), e 32 (by decide), e 54 (by decide), el]
  exact h k hk
theorem G6_read {a b : AS} {k : Nat} (h : G6 a) (e : ∀ g, g = 31 ∨ g = 32 ∨ g = 54 → ∀ i j, av b g i j = av a g i j) (el : al b 3 = al a 3 ++ [k]) (hlt : ¬ av a 31 k 0 ≤ av a 32 k 0) : G6 b := by
  intro j hj
  rw [e 31 (by decide), e 32 (by decide), e 54 (by decide), el]
  obtain ⟨c, m, q1, q2, q3, q4, q5⟩ := h j hj
  refine ⟨c, m, q1, q2, q3, q4, fun y => ?_⟩
  by_cases e : j = k
  · subst e
    rw [q1, q3, nI_leI (by omega) (by omega)] at hlt
    omega
  · refine q5 (y.imp (fun y => ?_) id)
    rw [List.mem_append, List.mem_singleton] at y
    exact y.resolve_right e
theorem G6_take {a b : AS} {k : Nat} {t : List Nat} (h : G6 a) (e : ∀ g, g = 31 ∨ g = 32 → ∀ i j, av b g i j = av a g i j) (hl : al a 3 = k :: t) (el : al b 3 = t) (e54 : av b 54 0 0 = nI k) (hk : k < 6) : G6 b := by
  intro j hj
  rw [e 31 (by decide), e 32 (by decide), e54, el]
  obtain ⟨c, m, q1, q2, q3, q4, q5⟩ := h j hj
  refine ⟨c, m, q1, q2, q3, q4, fun y => q5 (Or.inl ?_)⟩
  rw [hl, List.mem_cons]
  exact y.symm.imp (fun y => (nI_inj (by omega) (by omega) y).symm) id
theorem G6_card {a b : AS} {k c : Nat} (h : G6 a) (hk : k < 6) (e31 : ∀ j, av b 31 j 0 = av a 31 j 0) (e32 : ∀ j, av b 32 j 0 = if j = k then nI (c + 1) else av a 32 j 0) (el : al b 3 = al a 3) (e54 : av b 54 0 0 = -1) (h54 : av a 54 0 0 = nI k) (hkl : k ∉ al a 3) (hc : av a 32 k 0 = nI c) (hc2 : c < 2 ^ 31) : G6 b := by
  intro j hj
  rw [e31, e32, el, e54]
  obtain ⟨c', m, q1, q2, q3, q4, q5⟩ := h j hj
  have n1 : ∀ i, i < 6 → ¬ (-1 : Int32) = nI i := fun i hi y => nI_pos (n := i) (by omega) (by rw [← y]; decide)
  by_cases e : j = k
  · subst e
    have hcc : c' = c := nI_inj (by omega) (by omega) (by rw [← q3, hc])
    have := q5 (Or.inr h54)
    rw [if_pos rfl]
    refine ⟨c + 1, m, q1, q2, rfl, by omega, fun y => ?_⟩
    rcases y with y | y
    · exact absurd y hkl
    · exact absurd y (n1 j hj)
  · rw [if_neg e]
    refine ⟨c', m, q1, q2, q3, q4, fun y => q5 (Or.inl ?_)⟩
    rcases y with y | y
    · exact y
    · exact absurd y (n1 j hj)
theorem G6_sub {a b : AS} {k c : Nat} (h : G6 a) (hc : c ≤ 40) (e : ∀ g, g = 31 ∨ g = 32 → ∀ j, j ≠ k → av b g j 0 = av a g j 0) (e31 : av b 31 k 0 = nI c) (e32 : av b 32 k 0 = 0) (el : al b 3 = al a 3) (e54 : av b 54 0 0 = av a 54 0 0) (h54 : ¬ av a 54 0 0 = nI k) (hkl : k ∉ al a 3) : G6 b := by
  intro j hj
  by_cases c' : j = k
  · subst c'
    rw [e31, e32, el, e54]
    exact ⟨0, c, rfl, hc, rfl, by omega, fun y => y.elim (fun y => absurd y hkl) (fun y => absurd y h54)⟩
  · rw [e 31 (by decide) j c', e 32 (by decide) j c', el, e54]
    exact h j hj
/-- hours and signs said -/
def G7 (t : Nat) (a : AS) : Prop := av a 5 0 0 = nI t ∧ ∃ m, av a 69 0 0 = nI m ∧ m ≤ 4 * t
theorem G7_eq {t : Nat} {a b : AS} (h : G7 t a) (e : ∀ g, g = 5 ∨ g = 69 → av b g 0 0 = av a g 0 0) : G7 t b := by
  unfold G7
  rw [e 5 (by decide), e 69 (by decide)]
  exact h
def G7s (t d : Nat) (a : AS) : Prop := av a 5 0 0 = nI t ∧ ∃ m, av a 69 0 0 = nI m ∧ m + d ≤ 4 * t
theorem G7_t5 {t : Nat} {a : AS} (h : G7 t a) : G7s (t + 1) 4 (z_t5 a) := by
  obtain ⟨h1, m, h2, h3⟩ := h
  refine ⟨?_, m, ?_, by omega⟩
  · unfold z_t5; rw [av_s, h1, nI_1]
  · unfold z_t5; rw [av_o (by decide), h2]
theorem G7s_eq {t d : Nat} {a b : AS} (h : G7s t d a) (e : ∀ g, g = 5 ∨ g = 69 → av b g 0 0 = av a g 0 0) : G7s t d b := by
  unfold G7s
  rw [e 5 (by decide), e 69 (by decide)]
  exact h
theorem G7s_say {t d : Nat} {x : Int32} {a : AS} (h : G7s t (d + 1) a) : G7s t d (z_say x a) := by
  obtain ⟨h1, m, h2, h3⟩ := h
  refine ⟨?_, m + 1, ?_, by omega⟩
  · rw [vo_say (by decide) (by decide), h1]
  · unfold z_say; rw [av_s, h2, nI_1]
theorem G7s_le {t d d' : Nat} {a : AS} (h : G7s t d a) (hd : d' ≤ d) : G7s t d' a := by
  obtain ⟨h1, m, h2, h3⟩ := h
  exact ⟨h1, m, h2, by omega⟩
theorem G7s_7 {t d : Nat} {a : AS} (h : G7s t d a) : G7 t a := by
  obtain ⟨h1, m, h2, h3⟩ := h
  exact ⟨h1, m, h2, by omega⟩
/-- the turn -/
def G8 (a : AS) : Prop := ∃ u q, av a 7 0 0 = nI u ∧ av a 2 0 0 = nI q ∧ u < q ∧ q < 1000
theorem G8_eq {a b : AS} (h : G8 a) (e2 : av b 2 0 0 = av a 2 0 0) (e7 : av b 7 0 0 = av a 7 0 0 ∨ av b 7 0 0 = 0) : G8 b := by
  obtain ⟨u, q, h1, h2, h3, h4⟩ := h
  rcases e7 with e7 | e7
  · exact ⟨u, q, by rw [e7]; exact h1, by rw [e2]; exact h2, h3, h4⟩
  · exact ⟨0, q, by rw [e7]; rfl, by rw [e2]; exact h2, by omega, h4⟩
theorem G8_endt {p : Nat} {a : AS} (h : G8 a) : G8 (z_endt p a) := by
  obtain ⟨u, q, h1, h2, h3, h4⟩ := h
  unfold z_endt
  split
  · split
    · rename_i c
      rw [h1, h2, nI_1, nI_ltI (by omega) (by omega)] at c
      exact ⟨u + 1, q, by rw [av_s, h1, nI_1], by rw [av_o (by decide), h2], c, h4⟩
    · exact ⟨0, q, by rw [av_sl, av_s]; rfl, by rw [av_sl, av_o (by decide), h2], by omega, h4⟩
  · exact ⟨u, q, h1, h2, h3, h4⟩
/-- the tape -/
def G9 (a : AS) : Prop := ∃ t, av a 4 0 0 = nI t ∧ t ≤ 200
