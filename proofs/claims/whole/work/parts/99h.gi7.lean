/-! the whole invariant: the step of process 6 -/
theorem p7 {s : Nat} {a : AS} : av (z_p s a) 7 0 0 = av a 7 0 0 ∨ av (z_p s a) 7 0 0 = 0 := by
  unfold z_p
  split
  · exact Or.inr susp7
  · exact Or.inl (av_o (by decide))
theorem GI_begin {n c : Nat} {a : AS} (h : GI n c a) (hn : n ≤ 12) (hm : 6 ∈ al a 0) (h12 : av a 12 0 0 = 1) : GI n c (z_p 1 (z_begin 2 a)) := by
  have hA : GA a := h 0 (by decide)
  have h1 : G1 a := h 1 (by decide)
  have h3 : G3 a := h 2 (by decide)
  have hB : GB a := h 3 (by decide)
  have h2 : G2 a := h 4 (by decide)
  have h4 : G4 a := h 5 (by decide)
  have h5 : G5 a := h 6 (by decide)
  have h6 : G6 a := h 7 (by decide)
  have h8 : G8 a := h 8 (by decide)
  have hS : GS c a := h 10 (by decide)
  have hP : GPa c a := h 11 (by decide)
  have hX : GX a := h 12 (by decide)
  have hF : GF n a := h 13 (by decide)
  have hN : GN n a := h 14 (by decide)
  have hs := hA.2.2.2.1.1.mp hm
  have h45 : av a 45 0 0 = 0 := Classical.byContradiction fun y => by
    have := h1.2.2.2.2.2.2.2.1.mp y
    rw [hs.2] at this
    exact absurd this (by decide)
  have n120 : ¬ av a 12 0 0 = 0 := by rw [h12]; decide
  have g1 : G1 (z_p 1 (z_begin 2 a)) := G1_begin h1 hA hm h12
  have z : ∀ g, g ≠ 12 → g ≠ 45 → ∀ i j, av (z_begin 2 a) g i j = av a g i j := fun g x1 x2 i j => by unfold z_begin; rw [av_o x1, av_o x2]
  have gA : GA (z_p 1 (z_begin 2 a)) := GA_p (GA_eq hA (fun g hg i j => z g (by omega) (by omega) i j) rfl) (by decide) hm
  have y7 : av (z_p 1 (z_begin 2 a)) 7 0 0 = av a 7 0 0 ∨ av (z_p 1 (z_begin 2 a)) 7 0 0 = 0 := by
    have := p7 (s := 1) (a := z_begin 2 a)
    rw [z 7 (by decide) (by decide)] at this
    exact this
  generalize hY : z_p 1 (z_begin 2 a) = Y at g1 gA y7 ⊢
  have o : ∀ g, g ∉ [7, 10, 12, 13, 45, 71] → ∀ i j, av Y g i j = av a g i j := fun g hg i j => by simp at hg; rw [← hY, vo_p (by omega) (by omega) (by omega) (by omega), z g (by omega) (by omega)]
  have y71 : ∀ i, i ≠ 1 → av Y 71 i 0 = av a 71 i 0 := fun i hi => by rw [← hY, p71, if_neg (fun y => hi y.2), z 71 (by decide) (by decide)]
  have y13 : ∀ i, i ≠ 1 → av Y 13 i 0 = av a 13 i 0 := fun i hi => by rw [← hY, p13, if_neg (fun y => hi y.2), z 13 (by decide) (by decide)]
  have e10 : ∀ y : Int32, ¬ y = 0 → ∀ j, j < 6 → av a 10 j 0 = y → av Y 10 j 0 = y := fun y _ j hj e => by rw [← hY, p10 (by decide) hj, z 10 (by decide) (by decide)]; exact e
  have yl : ∀ q, q ∉ [0] → al Y q = al a q := fun q hq => by simp at hq; rw [← hY, lo_p hq]; rfl
  have y12 : av Y 12 0 0 = 2 := by rw [← hY, vo_p (by decide) (by decide) (by decide) (by decide)]; unfold z_begin; rw [av_s]
  have y45 : av Y 45 0 0 = 2 := by rw [← hY, vo_p (by decide) (by decide) (by decide) (by decide)]; unfold z_begin; rw [av_o (by decide), av_s]
  have gF : GF n Y := GF_begin hF n120 (fun q hq i j => o q (by simp; omega) i j) (yl 1 (by decide)) y12 y45
  have ew := wd_begin hF gF hn h45 (fun q hq i j => o q (by simp; omega) i j) (by rw [y45]; decide)
  have gN : GN n Y := by
    refine GN_keep hN (fun j _ => o 18 (by decide) j 0) (fun j _ => o 20 (by decide) j 0) ew (fun f hf y => ?_) (fun j t hj ht y w => ?_) ?_
    · rw [o 43 (by decide)] at y
      exact ⟨y, fun j s w => (ow_eq (o 39 (by decide)) (o 40 (by decide)) f j s).mpr w⟩
    · rw [o 29 (by decide)] at w
      refine hN.2.1 j hj ?_ t ht w
      rcases y with y | y
      · rw [yl 1 (by decide)] at y; exact Or.inl y
      · rw [o 47 (by decide)] at y; exact Or.inr ⟨n120, y.2⟩
    · rw [adn_eq (fun j => o 14 (by decide) j 0)]
      exact Nat.le_refl _
  refine GI_step h [7, 10, 12, 13, 45, 71] [0] o yl (c15 ?_ ?_ ?_ ?_ ?_ ?_ ?_ ?_ ?_ ?_ ?_ ?_ ?_ ?_ ?_)
  all_goals first | exact fun y => absurd y (by decide) | skip
  · exact fun _ => gA
  · exact fun _ => g1
  · exact fun _ => G3_eq h3 (o 54 (by decide) 0 0) (o 52 (by decide) 0 0) (fun s hs => y71 s (by omega)) (fun s hs => y13 s (by omega)) (yl 3 (by decide)) (e10 2 (by decide))
  · exact fun _ => G2_eq h2 (yl 2 (by decide)) (fun j hj y => e10 6 (by decide) j (h2.2 j hj).1 y) (fun j hj => o 29 (by decide) j 0) (fun j _ r _ => o 27 (by decide) j r) (fun j _ r _ => o 26 (by decide) j r)
  · exact fun _ => G4_eq h4 (fun j _ => o 34 (by decide) j 0) (o 55 (by decide) 0 0) (o 53 (by decide) 0 0) (fun s hs => y71 s (by omega)) (fun s hs => y13 s (by omega)) (fun j _ _ x1 x2 => by rw [o 14 (by decide), o 27 (by decide)]; exact ⟨x1, x2⟩)
  · exact fun _ => G8_eq h8 (o 2 (by decide) 0 0) y7
  · exact fun _ => GPa_eq hP (Nat.le_refl _) (fun g hg i j => o g (by simp; omega) i j) (fun j _ y => by rw [← o 14 (by decide) j 0]; exact y) (by rw [o 55 (by decide), y71 5 (by decide)]; exact Nat.le_add_right _ _)
  · exact fun _ => GX_eq hX (fun g hg i j => o g (by simp; omega) i j) (y13 6 (by decide)) (y71 6 (by decide))
  · exact fun _ => gF
  · exact fun _ => gN
theorem GI_bring {n c f k : Nat} {a : AS} (h : GI n c a) (hn : n ≤ 12) (hm : 6 ∈ al a 0) (h12 : av a 12 0 0 = 2) (hf : f < n) (hk : k < 6) (h46 : av a 46 0 0 = nI f) (h47 : av a 47 0 0 = nI k) : GI n c (z_p 0 (z_bring f k a)) := by
  have hA : GA a := h 0 (by decide)
  have h1 : G1 a := h 1 (by decide)
  have h3 : G3 a := h 2 (by decide)
  have hB : GB a := h 3 (by decide)
  have h2 : G2 a := h 4 (by decide)
  have h4 : G4 a := h 5 (by decide)
  have h5 : G5 a := h 6 (by decide)
  have h6 : G6 a := h 7 (by decide)
  have h8 : G8 a := h 8 (by decide)
  have hS : GS c a := h 10 (by decide)
  have hP : GPa c a := h 11 (by decide)
  have hX : GX a := h 12 (by decide)
  have hF : GF n a := h 13 (by decide)
  have hN : GN n a := h 14 (by decide)
  have hs := hA.2.2.2.1.1.mp hm
  have h45 : av a 45 0 0 = 0 := Classical.byContradiction fun y => by
    have := h1.2.2.2.2.2.2.2.1.mp y
    rw [hs.2] at this
    exact absurd this (by decide)
  have n120 : ¬ av a 12 0 0 = 0 := by rw [h12]; decide
  have hAK : AK a k := Or.inr ⟨n120, h47⟩
  obtain ⟨k', k1, k2, k3, k4⟩ := h1.2.2.2.1 n120
  obtain rfl : k' = k := nI_inj (by omega) (by omega) (by rw [← k2, h47])
  have h14 : av a 14 k' 0 = 2 := Classical.byContradiction fun y => by
    have := (hA.2.2.2.2.1 k' hk).2 y
    rw [k3] at this
    exact absurd this (by decide)
  obtain ⟨s, s1, s2, s3⟩ := hF.2.2.1 k' hk hAK
  have g1 : G1 (z_p 0 (z_bring f k' a)) := G1_bring h1 hA hm h12 hk h47
  have z : ∀ g, g ≠ 10 → g ≠ 12 → g ≠ 39 → g ≠ 40 → g ≠ 41 → g ≠ 42 → g ≠ 43 → g ≠ 44 → g ≠ 46 → g ≠ 47 → ∀ i j, av (z_bring f k' a) g i j = av a g i j := fun g x0 x1 x2 x3 x4 x5 x6 x7 x8 x9 i j => by
    unfold z_bring z_occupy
    rw [av_o x9, av_o x8, vo_wake x0, av_o x7, av_o x4, av_o x6, av_o x5, av_o x3, av_o x2, av_o x1]
  have z39 : ∀ g, av (z_bring f k' a) 39 g 0 = if g = f then nI k' else av a 39 g 0 := fun g => by
    unfold z_bring z_occupy
    rw [av_o (by decide), av_o (by decide), vo_wake (by decide), av_o (by decide), av_o (by decide), av_o (by decide), av_o (by decide), av_o (by decide), sv_k, av_o (by decide)]
  have z40 : ∀ g, av (z_bring f k' a) 40 g 0 = if g = f then nI s else av a 40 g 0 := fun g => by
    unfold z_bring z_occupy
    rw [av_o (by decide), av_o (by decide), vo_wake (by decide), av_o (by decide), av_o (by decide), av_o (by decide), av_o (by decide), sv_k, av_o (by decide), av_o (by decide), s2]
  have z42 : ∀ g, g ≠ f → av (z_bring f k' a) 42 g 0 = av a 42 g 0 := fun g hg => by
    unfold z_bring z_occupy
    rw [av_o (by decide), av_o (by decide), vo_wake (by decide), av_o (by decide), av_o (by decide), av_o (by decide), sv_k, if_neg hg, av_o (by decide), av_o (by decide), av_o (by decide)]
  have z43 : ∀ g, g ≠ f → av (z_bring f k' a) 43 g 0 = av a 43 g 0 := fun g hg => by
    unfold z_bring z_occupy
    rw [av_o (by decide), av_o (by decide), vo_wake (by decide), av_o (by decide), av_o (by decide), sv_k, if_neg hg, av_o (by decide), av_o (by decide), av_o (by decide), av_o (by decide)]
  have z12 : av (z_bring f k' a) 12 0 0 = 0 := by
    unfold z_bring z_occupy
    rw [av_o (by decide), av_o (by decide), vo_wake (by decide), av_o (by decide), av_o (by decide), av_o (by decide), av_o (by decide), av_o (by decide), av_o (by decide), av_s]
  have z10 : ∀ j, av (z_bring f k' a) 10 j 0 = if j = k' then 0 else av a 10 j 0 := fun j => by
    unfold z_bring z_occupy
    rw [av_o (by decide), av_o (by decide), w10, av_o (by decide), av_o (by decide), av_o (by decide), av_o (by decide), av_o (by decide), av_o (by decide), av_o (by decide)]
  have zl : ∀ q, q ≠ 0 → al (z_bring f k' a) q = al a q := fun q hq => by
    unfold z_bring z_occupy
    show al (z_wake k' _) q = _
    rw [lo_wake hq]
    rfl
  have hm2 : 6 ∈ al (z_bring f k' a) 0 := by
    unfold z_bring z_occupy
    show 6 ∈ al (z_wake k' _) 0
    rw [al_wake, if_pos rfl]
    split
    · exact hm
    · exact List.mem_append_left _ hm
  have gA : GA (z_p 0 (z_bring f k' a)) := by
    refine GA_p ?_ (by decide) hm2
    unfold z_bring z_occupy
    refine GA_eq (GA_wake (k := k') (GA_eq (b := sv 44 0 0 (av a 44 0 0 + 1) (z_occupy f k' (av a 29 k' 0) (av a 5 0 0) (sv 12 0 0 0 a))) hA (fun g hg i j => ?_) rfl) hk ?_) (fun g hg i j => ?_) rfl
    · unfold z_occupy
      rw [av_o (by omega), av_o (by omega), av_o (by omega), av_o (by omega), av_o (by omega), av_o (by omega), av_o (by omega)]
    · unfold z_occupy
      rw [av_o (by decide), av_o (by decide), av_o (by decide), av_o (by decide), av_o (by decide), av_o (by decide), av_o (by decide)]
      exact h14
    · rw [av_o (by omega), av_o (by omega)]
      rfl
  have y7 : av (z_p 0 (z_bring f k' a)) 7 0 0 = av a 7 0 0 ∨ av (z_p 0 (z_bring f k' a)) 7 0 0 = 0 := by
    have := p7 (s := 0) (a := z_bring f k' a)
    rw [z 7 (by decide) (by decide) (by decide) (by decide) (by decide) (by decide) (by decide) (by decide) (by decide) (by decide)] at this
    exact this
  generalize hY : z_p 0 (z_bring f k' a) = Y at g1 gA y7 ⊢
  have p : ∀ g, g ≠ 7 → g ≠ 10 → g ≠ 13 → g ≠ 71 → ∀ i j, av Y g i j = av (z_bring f k' a) g i j := fun g x1 x2 x3 x4 i j => by rw [← hY, vo_p x3 x2 x4 x1]
  have o : ∀ g, g ∉ [7, 10, 12, 13, 39, 40, 41, 42, 43, 44, 46, 47, 71] → ∀ i j, av Y g i j = av a g i j := fun g hg i j => by simp at hg; rw [p g (by omega) (by omega) (by omega) (by omega), z g (by omega) (by omega) (by omega) (by omega) (by omega) (by omega) (by omega) (by omega) (by omega) (by omega)]
  have y71 : ∀ i, i ≠ 0 → av Y 71 i 0 = av a 71 i 0 := fun i hi => by rw [← hY, p71, if_neg (fun y => hi y.2), z 71 (by decide) (by decide) (by decide) (by decide) (by decide) (by decide) (by decide) (by decide) (by decide) (by decide)]
  have y13 : ∀ i, i ≠ 0 → av Y 13 i 0 = av a 13 i 0 := fun i hi => by rw [← hY, p13, if_neg (fun y => hi y.2), z 13 (by decide) (by decide) (by decide) (by decide) (by decide) (by decide) (by decide) (by decide) (by decide) (by decide)]
  have e10 : ∀ y : Int32, ¬ y = 1 → ∀ j, j < 6 → av a 10 j 0 = y → av Y 10 j 0 = y := fun y hy j hj e => by
    rw [← hY, p10 (by decide) hj, z10, if_neg]
    · exact e
    · rintro rfl
      rw [k3] at e
      exact hy e.symm
  have yl : ∀ q, q ∉ [0] → al Y q = al a q := fun q hq => by simp at hq; rw [← hY, lo_p hq, zl q hq]
  have y12 : av Y 12 0 0 = 0 := by rw [p 12 (by decide) (by decide) (by decide) (by decide), z12]
  have y39 : ∀ g, av Y 39 g 0 = if g = f then nI k' else av a 39 g 0 := fun g => by rw [p 39 (by decide) (by decide) (by decide) (by decide), z39]
  have y40 : ∀ g, av Y 40 g 0 = if g = f then nI s else av a 40 g 0 := fun g => by rw [p 40 (by decide) (by decide) (by decide) (by decide), z40]
  have gF : GF n Y := GF_bring hF hn h12 h45 h46 hf hk s1 h47 s2 h14 k4 (fun q hq i j => o q (by simp; omega) i j) (yl 1 (by decide)) y12 y39 y40 (fun g hg => by rw [p 42 (by decide) (by decide) (by decide) (by decide), z42 g hg])
  have ew := wd_bring hF gF hn h12 h45 h46 hf hk s1 h47 s2 (fun q hq i j => o q (by simp; omega) i j) y39 y40
  have gN : GN n Y := GN_bring hN hf hk s1 hAK s2 ew (fun j => o 18 (by decide) j 0) (fun j => o 20 (by decide) j 0) (fun j => o 29 (by decide) j 0) (fun j => o 14 (by decide) j 0) y39 y40 (fun g hg => by rw [p 43 (by decide) (by decide) (by decide) (by decide), z43 g hg]) (fun j y => by
    rcases y with y | y
    · rw [yl 1 (by decide)] at y; exact Or.inl y
    · exact absurd y12 y.1)
  refine GI_step h [7, 10, 12, 13, 39, 40, 41, 42, 43, 44, 46, 47, 71] [0] o yl (c15 ?_ ?_ ?_ ?_ ?_ ?_ ?_ ?_ ?_ ?_ ?_ ?_ ?_ ?_ ?_)
  all_goals first | exact fun y => absurd y (by decide) | skip
  · exact fun _ => gA
  · exact fun _ => g1
  · exact fun _ => G3_eq h3 (o 54 (by decide) 0 0) (o 52 (by decide) 0 0) (fun s hs => y71 s (by omega)) (fun s hs => y13 s (by omega)) (yl 3 (by decide)) (e10 2 (by decide))
  · exact fun _ => G2_eq h2 (yl 2 (by decide)) (fun j hj y => e10 6 (by decide) j (h2.2 j hj).1 y) (fun j hj => o 29 (by decide) j 0) (fun j _ r _ => o 27 (by decide) j r) (fun j _ r _ => o 26 (by decide) j r)
  · exact fun _ => G4_eq h4 (fun j _ => o 34 (by decide) j 0) (o 55 (by decide) 0 0) (o 53 (by decide) 0 0) (fun s hs => y71 s (by omega)) (fun s hs => y13 s (by omega)) (fun j _ _ x1 x2 => by rw [o 14 (by decide), o 27 (by decide)]; exact ⟨x1, x2⟩)
  · exact fun _ => G8_eq h8 (o 2 (by decide) 0 0) y7
  · exact fun _ => GPa_eq hP (Nat.le_refl _) (fun g hg i j => o g (by simp; omega) i j) (fun j _ y => by rw [← o 14 (by decide) j 0]; exact y) (by rw [o 55 (by decide), y71 5 (by decide)]; exact Nat.le_add_right _ _)
  · exact fun _ => GX_eq hX (fun g hg i j => o g (by simp; omega) i j) (y13 6 (by decide)) (y71 6 (by decide))
  · exact fun _ => gF
  · exact fun _ => gN
