/-! the whole invariant, steps of a job -/
theorem run_of {n c k : Nat} {a : AS} (h : GI n c a) (hk : k < 6) (hm : k ∈ al a 0) : av a 14 k 0 = 2 ∧ av a 10 k 0 = 0 ∧ ¬ AK a k ∧ k ∉ al a 2 ∧ k ∉ al a 3 := by
  have hA : GA a := h 0 (by decide)
  have h1 : G1 a := h 1 (by decide)
  have h2 : G2 a := h 4 (by decide)
  have h3 : G3 a := h 2 (by decide)
  obtain ⟨q1, q2⟩ := (hA.2.1 k hk).mp hm
  refine ⟨q1, q2, fun y => ?_, fun y => ?_, fun y => ?_⟩
  · rcases y with y | y
    · have := (h1.2.1 k y).2
      rw [q2] at this
      exact absurd this (by decide)
    · obtain ⟨j, j1, j2, j3, j4⟩ := h1.2.2.2.1 y.1
      obtain rfl : j = k := nI_inj (by omega) (by omega) (by rw [← j2, y.2])
      rw [q2] at j3
      exact absurd j3 (by decide)
  · have := (h2.2 k y).2.1
    rw [q2] at this
    exact absurd this (by decide)
  · have := (h3.2.1 k y).2
    rw [q2] at this
    exact absurd this (by decide)
theorem GI_19 {n c k : Nat} {x : Int32} {a : AS} (h : GI n c a) : GI n c (sv 19 k 0 x a) :=
  GI_same h [19] [] (fun g hg i j => av_o (by simpa using hg)) (fun q _ => rfl) (by decide)
theorem GN_compz {n k : Nat} {x : Int32} {a b : AS} (h : GN n a) (hA : ¬ AK a k) (e : ∀ g, g ≠ 17 → g ≠ 18 → g ≠ 20 → g ≠ 43 → ∀ i j, av b g i j = av a g i j) (e18 : ∀ j, j ≠ k → av b 18 j 0 = av a 18 j 0) (e20 : ∀ j, j ≠ k → av b 20 j 0 = av a 20 j 0) (e43 : ∀ f, f < n → av b 43 f 0 = if av a 39 f 0 = nI k then 0 else av a 43 f 0) (el : al b 1 = al a 1) : GN n b := by
  have e' : ∀ g, fF g → ∀ i j, av b g i j = av a g i j := fun g hg => by unfold fF at hg; exact e g (by omega) (by omega) (by omega) (by omega)
  have eo := ow_eq (e' 39 (by unfold fF; decide)) (e' 40 (by unfold fF; decide))
  have ea := AK_eq (e' 12 (by unfold fF; decide) 0 0) (e' 47 (by unfold fF; decide) 0 0) el
  have e29 := e 29 (by decide) (by decide) (by decide) (by decide)
  refine GN_comp (k := k) h (fun j _ hj => e18 j hj) (fun j _ hj => e20 j hj) (fun j s i _ _ _ _ => wd_eq e') (fun f hf y => ?_) (fun y => hA ((ea k).mp y)) (fun j s _ _ _ y z => ⟨(ea j).mp y, by rw [← e29]; exact z⟩) ?_
  · rw [e43 f hf] at y
    by_cases x : av a 39 f 0 = nI k
    · rw [if_pos x] at y; exact absurd rfl y
    · rw [if_neg x] at y; exact ⟨y, x, fun j s z => (eo f j s).mpr z⟩
  · rw [adn_eq (fun j => e' 14 (by unfold fF; decide) j 0)]
    exact Nat.le_refl _
theorem GI_comp {n c k : Nat} {x : Int32} {a : AS} (h : GI n c a) (hA : ¬ AK a k) : GI n c (z_comp n k x a) := by
  have hN : GN n a := h 14 (by decide)
  refine GI_step h [17, 18, 43] [] (fun g hg i j => vo_comp (by simp at hg; omega) (by simp at hg; omega) (by simp at hg; omega)) (fun q _ => al_comp n k x a q) (c15 ?_ ?_ ?_ ?_ ?_ ?_ ?_ ?_ ?_ ?_ ?_ ?_ ?_ ?_ ?_)
  all_goals first | exact fun y => absurd y (by decide) | skip
  refine fun _ => GN_compz (x := x) hN hA (fun g g1 g2 _ g4 i j => vo_comp g4 g2 g1) (fun j hj => ?_) (fun j _ => vo_comp (by decide) (by decide) (by decide)) (fun f hf => ?_) rfl
  · rw [av_comp, if_neg (by simp), if_neg (fun y => hj y.2.1), if_neg (by simp)]
  · rw [av_comp]
    by_cases y : av a 39 f 0 = nI k
    · rw [if_pos ⟨rfl, rfl, hf, y⟩, if_pos y]
    · rw [if_neg (fun z => y z.2.2.2), if_neg (by simp), if_neg (by simp), if_neg y]
theorem GI_comp20 {n c k : Nat} {x v : Int32} {a : AS} (h : GI n c a) (hA : ¬ AK a k) : GI n c (z_comp n k x (sv 20 k 0 v a)) := by
  have hN : GN n a := h 14 (by decide)
  refine GI_step h [17, 18, 20, 43] [] (fun g hg i j => by rw [vo_comp (by simp at hg; omega) (by simp at hg; omega) (by simp at hg; omega), av_o (by simp at hg; omega)]) (fun q _ => al_comp n k x _ q) (c15 ?_ ?_ ?_ ?_ ?_ ?_ ?_ ?_ ?_ ?_ ?_ ?_ ?_ ?_ ?_)
  all_goals first | exact fun y => absurd y (by decide) | skip
  refine fun _ => GN_compz (x := x) hN hA (fun g g1 g2 g3 g4 i j => by rw [vo_comp g4 g2 g1, av_o g3]) (fun j hj => ?_) (fun j hj => ?_) (fun f hf => ?_) rfl
  · rw [av_comp, if_neg (by simp), if_neg (fun y => hj y.2.1), if_neg (by simp), av_o (by decide)]
  · rw [vo_comp (by decide) (by decide) (by decide), sv_k, if_neg hj]
  · rw [av_comp, av_o (by decide)]
    by_cases y : av a 39 f 0 = nI k
    · rw [if_pos ⟨rfl, rfl, hf, y⟩, if_pos y]
    · rw [if_neg (fun z => y z.2.2.2), if_neg (by simp), if_neg (by simp), if_neg y, av_o (by decide)]
theorem susp7 {k : Nat} {x : Int32} {a : AS} : av (z_susp k x a) 7 0 0 = 0 := by
  rw [av_susp, if_pos ⟨rfl, rfl, rfl⟩]
theorem GI_susp {n c k : Nat} {x : Int32} {a : AS} (h : GI n c a) (hk : k < 6) (hm : k ∈ al a 0) (hx : ¬ x = 0) : GI n c (z_susp k x a) := by
  obtain ⟨q1, q2, q3, q4, q5⟩ := run_of h hk hm
  have hA : GA a := h 0 (by decide)
  have h1 : G1 a := h 1 (by decide)
  have h2 : G2 a := h 4 (by decide)
  have h3 : G3 a := h 2 (by decide)
  have h8 : G8 a := h 8 (by decide)
  have o : ∀ g, g ≠ 10 → g ≠ 7 → ∀ i j, av (z_susp k x a) g i j = av a g i j := fun g g1 g2 i j => vo_susp g1 g2
  have e10 : ∀ y : Int32, ¬ y = 0 → ∀ j, j < 6 → av a 10 j 0 = y → av (z_susp k x a) 10 j 0 = y := fun y hy j _ e => by
    rw [s10, if_neg]
    · exact e
    · rintro rfl
      rw [q2] at e
      exact hy e.symm
  refine GI_step h [7, 10] [0] (fun g hg i j => o g (by simp at hg; omega) (by simp at hg; omega) i j) (fun q hq => lo_susp (by simpa using hq)) (c15 ?_ ?_ ?_ ?_ ?_ ?_ ?_ ?_ ?_ ?_ ?_ ?_ ?_ ?_ ?_)
  all_goals first | exact fun y => absurd y (by decide) | skip
  · exact fun _ => GA_susp hA hk hm hx
  · exact fun _ => G1_eq h1 (o 12 (by decide) (by decide) 0 0) (o 47 (by decide) (by decide) 0 0) (o 45 (by decide) (by decide) 0 0) (fun s _ => o 71 (by decide) (by decide) s 0) (fun s _ => o 13 (by decide) (by decide) s 0) (lo_susp (by decide)) (e10 1 (by decide))
  · exact fun _ => G3_eq h3 (o 54 (by decide) (by decide) 0 0) (o 52 (by decide) (by decide) 0 0) (fun s _ => o 71 (by decide) (by decide) s 0) (fun s _ => o 13 (by decide) (by decide) s 0) (lo_susp (by decide)) (e10 2 (by decide))
  · exact fun _ => G2_eq h2 (lo_susp (by decide)) (fun j hj y => e10 6 (by decide) j (h2.2 j hj).1 y) (fun j _ => o 29 (by decide) (by decide) j 0) (fun j _ r _ => o 27 (by decide) (by decide) j r) (fun j _ r _ => o 26 (by decide) (by decide) j r)
  · exact fun _ => G8_eq h8 (o 2 (by decide) (by decide) 0 0) (Or.inr susp7)
