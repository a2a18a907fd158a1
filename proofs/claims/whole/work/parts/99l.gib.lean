/-! the whole invariant: the step of process 9 -/
theorem GI_wake {n c k : Nat} {a : AS} (h : GI n c a) (hk : k < 6) (h14 : av a 14 k 0 = 2) (hne : ¬ (av a 10 k 0 = 1 ∨ av a 10 k 0 = 2 ∨ av a 10 k 0 = 6)) : GI n c (z_wake k a) := by
  have hA : GA a := h 0 (by decide)
  have h1 : G1 a := h 1 (by decide)
  have h3 : G3 a := h 2 (by decide)
  have hB : GB a := h 3 (by decide)
  have h2 : G2 a := h 4 (by decide)
  have h4 : G4 a := h 5 (by decide)
  have h5 : G5 a := h 6 (by decide)
  have h6 : G6 a := h 7 (by decide)
  have h8 : G8 a := h 8 (by decide)
  have hS : GS c a := h 10 (by decide)
  have hP : GPa c a := h 11 (by decide)
  have hX : GX a := h 12 (by decide)
  have hF : GF n a := h 13 (by decide)
  have hN : GN n a := h 14 (by decide)
  have gA : GA (z_wake k a) := GA_wake hA hk h14
  have y10 : ∀ j, av (z_wake k a) 10 j 0 = if j = k then 0 else av a 10 j 0 := fun j => w10 j
  generalize hY : z_wake k a = Y at gA y10 ⊢
  have o : ∀ g, g ∉ [10] → ∀ i j, av Y g i j = av a g i j := fun g hg i j => by simp at hg; rw [← hY, vo_wake hg]
  have y71 : ∀ i, i ≠ 99 → av Y 71 i 0 = av a 71 i 0 := fun i _ => o 71 (by decide) i 0
  have y13 : ∀ i, i ≠ 99 → av Y 13 i 0 = av a 13 i 0 := fun i _ => o 13 (by decide) i 0
  have yl : ∀ q, q ∉ [0] → al Y q = al a q := fun q hq => by simp at hq; rw [← hY, lo_wake hq]
  have e10 : ∀ y : Int32, (y = 1 ∨ y = 2 ∨ y = 6) → ∀ j, j < 6 → av a 10 j 0 = y → av Y 10 j 0 = y := fun y hy j hj e => by
    rw [y10, if_neg]
    · exact e
    · rintro rfl
      exact hne (by rw [e]; exact hy)
  refine GI_step h [10] [0] o yl (c15 ?_ ?_ ?_ ?_ ?_ ?_ ?_ ?_ ?_ ?_ ?_ ?_ ?_ ?_ ?_)
  all_goals first | exact fun y => absurd y (by decide) | skip
  · exact fun _ => gA
  · exact fun _ => G1_eq h1 (o 12 (by decide) 0 0) (o 47 (by decide) 0 0) (o 45 (by decide) 0 0) (fun s hs => y71 s (by omega)) (fun s hs => y13 s (by omega)) (yl 1 (by decide)) (e10 1 (by decide))
  · exact fun _ => G3_eq h3 (o 54 (by decide) 0 0) (o 52 (by decide) 0 0) (fun s hs => y71 s (by omega)) (fun s hs => y13 s (by omega)) (yl 3 (by decide)) (e10 2 (by decide))
  · exact fun _ => G2_eq h2 (yl 2 (by decide)) (fun j hj y => e10 6 (by decide) j (h2.2 j hj).1 y) (fun j hj => o 29 (by decide) j 0) (fun j _ r _ => o 27 (by decide) j r) (fun j _ r _ => o 26 (by decide) j r)
theorem GI_unwait {n c k : Nat} {a : AS} (h : GI n c a) (hk : k < 6) (h14 : av a 14 k 0 = 2) (hne : ¬ (av a 10 k 0 = 1 ∨ av a 10 k 0 = 2)) : GI n c (z_wake k (sl 2 ((al a 2).erase k) a)) := by
  have hA : GA a := h 0 (by decide)
  have h1 : G1 a := h 1 (by decide)
  have h3 : G3 a := h 2 (by decide)
  have hB : GB a := h 3 (by decide)
  have h2 : G2 a := h 4 (by decide)
  have h4 : G4 a := h 5 (by decide)
  have h5 : G5 a := h 6 (by decide)
  have h6 : G6 a := h 7 (by decide)
  have h8 : G8 a := h 8 (by decide)
  have hS : GS c a := h 10 (by decide)
  have hP : GPa c a := h 11 (by decide)
  have hX : GX a := h 12 (by decide)
  have hF : GF n a := h 13 (by decide)
  have hN : GN n a := h 14 (by decide)
  have gA : GA (z_wake k (sl 2 ((al a 2).erase k) a)) := GA_wake (GA_eq hA (fun g _ i j => by rw [av_sl]) rfl) hk (by rw [av_sl]; exact h14)
  have y10 : ∀ j, av (z_wake k (sl 2 ((al a 2).erase k) a)) 10 j 0 = if j = k then 0 else av a 10 j 0 := fun j => by rw [w10, av_sl]
  have yl2 : al (z_wake k (sl 2 ((al a 2).erase k) a)) 2 = (al a 2).erase k := by rw [lo_wake (by decide), al_sl, if_pos rfl]
  generalize hY : z_wake k (sl 2 ((al a 2).erase k) a) = Y at gA y10 yl2 ⊢
  have o : ∀ g, g ∉ [10] → ∀ i j, av Y g i j = av a g i j := fun g hg i j => by simp at hg; rw [← hY, vo_wake hg, av_sl]
  have y71 : ∀ i, i ≠ 99 → av Y 71 i 0 = av a 71 i 0 := fun i _ => o 71 (by decide) i 0
  have y13 : ∀ i, i ≠ 99 → av Y 13 i 0 = av a 13 i 0 := fun i _ => o 13 (by decide) i 0
  have yl : ∀ q, q ∉ [0, 2] → al Y q = al a q := fun q hq => by simp at hq; rw [← hY, lo_wake hq.1, al_sl, if_neg hq.2]
  have hmm : ∀ j, j ∈ al Y 2 → j ≠ k ∧ j ∈ al a 2 := fun j hj => by rw [yl2] at hj; exact h2.1.mem_erase_iff.mp hj
  have e10 : ∀ y : Int32, (y = 1 ∨ y = 2) → ∀ j, j < 6 → av a 10 j 0 = y → av Y 10 j 0 = y := fun y hy j hj e => by
    rw [y10, if_neg]
    · exact e
    · rintro rfl
      exact hne (by rw [e]; exact hy)
  refine GI_step h [10] [0, 2] o yl (c15 ?_ ?_ ?_ ?_ ?_ ?_ ?_ ?_ ?_ ?_ ?_ ?_ ?_ ?_ ?_)
  all_goals first | exact fun y => absurd y (by decide) | skip
  · exact fun _ => gA
  · exact fun _ => G1_eq h1 (o 12 (by decide) 0 0) (o 47 (by decide) 0 0) (o 45 (by decide) 0 0) (fun s hs => y71 s (by omega)) (fun s hs => y13 s (by omega)) (yl 1 (by decide)) (e10 1 (by decide))
  · exact fun _ => G3_eq h3 (o 54 (by decide) 0 0) (o 52 (by decide) 0 0) (fun s hs => y71 s (by omega)) (fun s hs => y13 s (by omega)) (yl 3 (by decide)) (e10 2 (by decide))
  · exact fun _ => G2_sub h2 (by rw [yl2]; exact h2.1.erase k) (fun j hj => (hmm j hj).2) (fun j hj => by rw [y10, if_neg (hmm j hj).1]) (fun j hj => o 29 (by decide) j 0) (fun j _ r _ => o 27 (by decide) j r) (fun j _ r _ => o 26 (by decide) j r)
theorem GI_24 {n c k : Nat} {x : Int32} {a : AS} (h : GI n c a) : GI n c (sv 24 k 0 x a) :=
  GI_same h [24] [] (fun g hg i j => av_o (by simpa using hg)) (fun q _ => rfl) (by decide)
theorem GI_cancels {n c k : Nat} {a : AS} (h : GI n c a) (hk : k < 6) : GI n c (z_cancels k a).2 := by
  unfold z_cancels
  split
  · rename_i h14
    simp only
    split
    · rename_i cc
      refine GI_unwait (a := sv 24 k 0 1 a) (GI_24 h) hk (by rw [av_o (by decide)]; exact h14) ?_
      rw [av_o (by decide)]
      rcases cc with e | e <;> rw [e] <;> decide
    · exact GI_24 h
  · exact h
theorem GI_replies {n c k : Nat} {a : AS} (h : GI n c a) (hk : k < 6) : GI n c (z_replies n k a).2 := by
  have hA : GA a := h 0 (by decide)
  have h1 : G1 a := h 1 (by decide)
  unfold z_replies
  split
  · rename_i cc
    have h5 := cc.2.2.2
    have h14 : av a 14 k 0 = 2 := Classical.byContradiction fun y => by
      have := (hA.2.2.2.2.1 k hk).2 y
      rw [h5] at this
      exact absurd this (by decide)
    have hAK : ¬ AK a k := fun y => by
      rcases y with y | y
      · have := (h1.2.1 k y).2
        rw [h5] at this
        exact absurd this (by decide)
      · obtain ⟨j, j1, j2, j3, j4⟩ := h1.2.2.2.1 y.1
        obtain rfl : j = k := nI_inj (by omega) (by omega) (by rw [← j2, y.2])
        rw [h5] at j3
        exact absurd j3 (by decide)
    split
    · exact h
    · rename_i v _
      simp only
      unfold z_rep
      refine GI_wake (GI_comp (GI_19 h) ?_) hk ?_ ?_
      · exact fun y => hAK ((AK_eq (a := a) (b := sv 19 k 0 _ a) (av_o (by decide)) (av_o (by decide)) rfl k).mp y)
      · rw [vo_comp (by decide) (by decide) (by decide), av_o (by decide)]; exact h14
      · rw [vo_comp (by decide) (by decide) (by decide), av_o (by decide), h5]; decide
  · exact h
