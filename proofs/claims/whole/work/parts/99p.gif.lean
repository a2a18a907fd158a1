/-! the whole invariant: calls (reader, printer, tape, a character) -/
theorem GI_rdone {n c : Nat} {a : AS} (h0 : GI n c a) (hf : ¬ av a 52 0 0 = 0) : GI n (c + 1) (z_rdone a) := by
  have hP : GPa c a := h0 11 (by decide)
  have h : GI n (c + 1) a := GI_more h0 (Nat.le_succ c)
  have hA : GA a := h 0 (by decide)
  have h1 : G1 a := h 1 (by decide)
  have h3 : G3 a := h 2 (by decide)
  have hB : GB a := h 3 (by decide)
  have h2 : G2 a := h 4 (by decide)
  have h4 : G4 a := h 5 (by decide)
  have h5 : G5 a := h 6 (by decide)
  have h6 : G6 a := h 7 (by decide)
  have h8 : G8 a := h 8 (by decide)
  have hS : GS (c + 1) a := h 10 (by decide)
  have hX : GX a := h 12 (by decide)
  have hF : GF n a := h 13 (by decide)
  have hN : GN n a := h 14 (by decide)
  have gg := G3_done h3 hA hf
  have z : ∀ g, g ≠ 52 → ∀ i j, av (sv 52 0 0 0 a) g i j = av a g i j := fun g x i j => av_o x
  have gA : GA (z_rdone a) := GA_v (GA_eq hA (fun g hg i j => z g (by omega) i j) rfl) (by decide)
  generalize hY : z_rdone a = Y at gg gA ⊢
  unfold z_rdone at hY
  have o : ∀ g, g ∉ [10, 13, 52, 71] → ∀ i j, av Y g i j = av a g i j := fun g hg i j => by simp at hg; rw [← hY, vo_v (by omega) (by omega) (by omega), z g (by omega)]
  have y71 : ∀ i, i ≠ 3 → av Y 71 i 0 = av a 71 i 0 := fun i hi => by rw [← hY, v71, if_neg hi, z 71 (by decide)]
  have y13 : ∀ i, i ≠ 3 → av Y 13 i 0 = av a 13 i 0 := fun i hi => by rw [← hY, v13, if_neg (fun y => hi y.2), z 13 (by decide)]
  have e10 : ∀ y : Int32, ¬ y = 0 → ∀ j, j < 6 → av a 10 j 0 = y → av Y 10 j 0 = y := fun y _ j hj e => by rw [← hY, v10 (by decide) hj, z 10 (by decide)]; exact e
  have yl : ∀ q, q ∉ [0] → al Y q = al a q := fun q hq => by simp at hq; rw [← hY, lo_v hq]; rfl
  refine GI_step h [10, 13, 52, 71] [0] o yl (c15 ?_ ?_ ?_ ?_ ?_ ?_ ?_ ?_ ?_ ?_ ?_ ?_ ?_ ?_ ?_)
  all_goals first | exact fun y => absurd y (by decide) | skip
  · exact fun _ => gA
  · exact fun _ => G1_eq h1 (o 12 (by decide) 0 0) (o 47 (by decide) 0 0) (o 45 (by decide) 0 0) (fun s hs => y71 s (by omega)) (fun s hs => y13 s (by omega)) (yl 1 (by decide)) (e10 1 (by decide))
  · exact fun _ => gg
  · exact fun _ => G2_eq h2 (yl 2 (by decide)) (fun j hj y => e10 6 (by decide) j (h2.2 j hj).1 y) (fun j hj => o 29 (by decide) j 0) (fun j _ r _ => o 27 (by decide) j r) (fun j _ r _ => o 26 (by decide) j r)
  · exact fun _ => G4_eq h4 (fun j _ => o 34 (by decide) j 0) (o 55 (by decide) 0 0) (o 53 (by decide) 0 0) (fun s hs => y71 s (by omega)) (fun s hs => y13 s (by omega)) (fun j _ _ x1 x2 => by rw [o 14 (by decide), o 27 (by decide)]; exact ⟨x1, x2⟩)
  · exact fun _ => GPa_eq hP (Nat.le_succ c) (fun g hg i j => o g (by simp; omega) i j) (fun j _ y => by rw [← o 14 (by decide) j 0]; exact y) (by rw [o 55 (by decide), y71 5 (by decide)]; exact Nat.le_add_right _ _)
  · exact fun _ => GX_eq hX (fun g hg i j => o g (by simp; omega) i j) (y13 6 (by decide)) (y71 6 (by decide))
theorem GI_pdone {n c : Nat} {a : AS} (h0 : GI n c a) (hf : ¬ av a 53 0 0 = 0) : GI n (c + 1) (z_pdone a) := by
  have hP : GPa c a := h0 11 (by decide)
  have h : GI n (c + 1) a := GI_more h0 (Nat.le_succ c)
  have hA : GA a := h 0 (by decide)
  have h1 : G1 a := h 1 (by decide)
  have h3 : G3 a := h 2 (by decide)
  have hB : GB a := h 3 (by decide)
  have h2 : G2 a := h 4 (by decide)
  have h4 : G4 a := h 5 (by decide)
  have h5 : G5 a := h 6 (by decide)
  have h6 : G6 a := h 7 (by decide)
  have h8 : G8 a := h 8 (by decide)
  have hS : GS (c + 1) a := h 10 (by decide)
  have hX : GX a := h 12 (by decide)
  have hF : GF n a := h 13 (by decide)
  have hN : GN n a := h 14 (by decide)
  have gg := G4_done h4 hA hf
  have z : ∀ g, g ≠ 53 → ∀ i j, av (sv 53 0 0 0 a) g i j = av a g i j := fun g x i j => av_o x
  have gA : GA (z_pdone a) := GA_v (GA_eq hA (fun g hg i j => z g (by omega) i j) rfl) (by decide)
  generalize hY : z_pdone a = Y at gg gA ⊢
  unfold z_pdone at hY
  have o : ∀ g, g ∉ [10, 13, 53, 71] → ∀ i j, av Y g i j = av a g i j := fun g hg i j => by simp at hg; rw [← hY, vo_v (by omega) (by omega) (by omega), z g (by omega)]
  have y71 : ∀ i, i ≠ 5 → av Y 71 i 0 = av a 71 i 0 := fun i hi => by rw [← hY, v71, if_neg hi, z 71 (by decide)]
  have y13 : ∀ i, i ≠ 5 → av Y 13 i 0 = av a 13 i 0 := fun i hi => by rw [← hY, v13, if_neg (fun y => hi y.2), z 13 (by decide)]
  have e10 : ∀ y : Int32, ¬ y = 0 → ∀ j, j < 6 → av a 10 j 0 = y → av Y 10 j 0 = y := fun y _ j hj e => by rw [← hY, v10 (by decide) hj, z 10 (by decide)]; exact e
  have yl : ∀ q, q ∉ [0] → al Y q = al a q := fun q hq => by simp at hq; rw [← hY, lo_v hq]; rfl
  refine GI_step h [10, 13, 53, 71] [0] o yl (c15 ?_ ?_ ?_ ?_ ?_ ?_ ?_ ?_ ?_ ?_ ?_ ?_ ?_ ?_ ?_)
  all_goals first | exact fun y => absurd y (by decide) | skip
  · exact fun _ => gA
  · exact fun _ => G1_eq h1 (o 12 (by decide) 0 0) (o 47 (by decide) 0 0) (o 45 (by decide) 0 0) (fun s hs => y71 s (by omega)) (fun s hs => y13 s (by omega)) (yl 1 (by decide)) (e10 1 (by decide))
  · exact fun _ => G3_eq h3 (o 54 (by decide) 0 0) (o 52 (by decide) 0 0) (fun s hs => y71 s (by omega)) (fun s hs => y13 s (by omega)) (yl 3 (by decide)) (e10 2 (by decide))
  · exact fun _ => G2_eq h2 (yl 2 (by decide)) (fun j hj y => e10 6 (by decide) j (h2.2 j hj).1 y) (fun j hj => o 29 (by decide) j 0) (fun j _ r _ => o 27 (by decide) j r) (fun j _ r _ => o 26 (by decide) j r)
  · exact fun _ => gg
  · exact fun _ => GPa_eq hP (Nat.le_succ c) (fun g hg i j => o g (by simp; omega) i j) (fun j _ y => by rw [← o 14 (by decide) j 0]; exact y) (by split <;> omega)
  · exact fun _ => GX_eq hX (fun g hg i j => o g (by simp; omega) i j) (y13 6 (by decide)) (y71 6 (by decide))
theorem GI_feed {n c : Nat} {x1 x2 x3 x4 : Int32} {a : AS} (h : GI n c a) : GI n c (z_feed x1 x2 x3 x4 a).2 := by
  obtain ⟨t, t1, t2⟩ : G9 a := h 9 (by decide)
  unfold z_feed
  split
  · rename_i cc
    have e4 : av a 4 0 0 + 4 = nI (t + 4) := by rw [t1]; exact nI_add t 4
    refine GI_step h [3, 4] [] (fun g hg i j => by simp at hg; simp only; rw [av_o (by omega), av_o (by omega), av_o (by omega), av_o (by omega), av_o (by omega)]) (fun q _ => rfl) (c15 ?_ ?_ ?_ ?_ ?_ ?_ ?_ ?_ ?_ ?_ ?_ ?_ ?_ ?_ ?_)
    all_goals first | exact fun y => absurd y (by decide) | skip
    refine fun _ => ⟨t + 4, by rw [av_s, e4], ?_⟩
    rw [e4] at cc
    exact (nI_leI (b := 200) (by omega) (by decide)).mp cc
  · exact h
