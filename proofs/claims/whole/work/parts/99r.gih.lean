/-! the whole invariant: the drum is done -/
theorem GI_td {n c f : Nat} {a B : AS} (h : GI n c a) (hn : n ≤ 12) (h1' : av a 45 0 0 = 1) (hf : f < n) (h46 : av a 46 0 0 = nI f) (ob : ∀ g, g ≠ 37 → ∀ i j, av B g i j = av a g i j) (obl : ∀ q, al B q = al a q) (e37 : ∀ k s i, k < 6 → s < 8 → i < 16 → ¬ wri a k s → av B 37 k (16 * s + i) = av a 37 k (16 * s + i)) (w37 : ∀ k s i, k < 6 → s < 8 → i < 16 → wri a k s → av B 37 k (16 * s + i) = av a 38 f i) : GI n c (z_v 1 (sv 45 0 0 0 B)) := by
  have hA : GA a := h 0 (by decide)
  have h1 : G1 a := h 1 (by decide)
  have h3 : G3 a := h 2 (by decide)
  have hB : GB a := h 3 (by decide)
  have h2 : G2 a := h 4 (by decide)
  have h4 : G4 a := h 5 (by decide)
  have h5 : G5 a := h 6 (by decide)
  have h6 : G6 a := h 7 (by decide)
  have h8 : G8 a := h 8 (by decide)
  have hS : GS c a := h 10 (by decide)
  have hP : GPa c a := h 11 (by decide)
  have hX : GX a := h 12 (by decide)
  have hF : GF n a := h 13 (by decide)
  have hN : GN n a := h 14 (by decide)
  have n01 : ¬ (1 : Int32) = 0 := by decide
  have h45 : ¬ av a 45 0 0 = 0 := by rw [h1']; exact n01
  have h12 : av a 12 0 0 = 1 := by rw [h1.2.2.2.2.2.2.2.2.1 h45, h1']
  have g1 : G1 (z_v 1 (sv 45 0 0 0 B)) := G1_drum h1 hA h45 (ob 12 (by decide) 0 0) (ob 47 (by decide) 0 0) (fun s => ob 71 (by decide) s 0) (fun s => ob 13 (by decide) s 0) (obl 1) (fun k => ob 10 (by decide) k 0)
  have gA : GA (z_v 1 (sv 45 0 0 0 B)) := GA_v (GA_eq hA (fun g hg i j => by rw [av_o (by omega), ob g (by omega)]) (obl 0)) (by decide)
  generalize hY : z_v 1 (sv 45 0 0 0 B) = Y at g1 gA ⊢
  have p : ∀ g, g ≠ 10 → g ≠ 13 → g ≠ 71 → g ≠ 45 → ∀ i j, av Y g i j = av B g i j := fun g x1 x2 x3 x4 i j => by rw [← hY, vo_v x2 x1 x3, av_o x4]
  have o : ∀ g, g ∉ [10, 13, 37, 45, 71] → ∀ i j, av Y g i j = av a g i j := fun g hg i j => by simp at hg; rw [p g (by omega) (by omega) (by omega) (by omega), ob g (by omega)]
  have y71 : ∀ i, i ≠ 1 → av Y 71 i 0 = av a 71 i 0 := fun i hi => by rw [← hY, v71, if_neg hi, av_o (by decide), ob 71 (by decide)]
  have y13 : ∀ i, i ≠ 1 → av Y 13 i 0 = av a 13 i 0 := fun i hi => by rw [← hY, v13, if_neg (fun y => hi y.2), av_o (by decide), ob 13 (by decide)]
  have e10 : ∀ y : Int32, ¬ y = 0 → ∀ j, j < 6 → av a 10 j 0 = y → av Y 10 j 0 = y := fun y _ j hj e => by rw [← hY, v10 (by decide) hj, av_o (by decide), ob 10 (by decide)]; exact e
  have yl : ∀ q, q ∉ [0] → al Y q = al a q := fun q hq => by simp at hq; rw [← hY, lo_v hq]; exact obl q
  have y45 : av Y 45 0 0 = 0 := by rw [← hY, vo_v (by decide) (by decide) (by decide), av_s]
  have p37 : ∀ i j, av Y 37 i j = av B 37 i j := fun i j => p 37 (by decide) (by decide) (by decide) (by decide) i j
  have gF : GF n Y := GF_td hF hn h12 h1' (fun q hq i j => o q (by simp; omega) i j) (yl 1 (by decide)) y45 (fun k s i x1 x2 x3 x4 => by rw [p37]; exact e37 k s i x1 x2 x3 x4)
  have ew := wd_td hF gF hn (by rw [h12]; exact n01) (fun q hq i j => o q (by simp; omega) i j) y45 h46 hf (fun k s i x1 x2 x3 x4 => by rw [p37]; exact e37 k s i x1 x2 x3 x4) (fun k s i x1 x2 x3 x4 => by rw [p37]; exact w37 k s i x1 x2 x3 x4)
  have ea := AK_eq (o 12 (by decide) 0 0) (o 47 (by decide) 0 0) (yl 1 (by decide))
  have gN : GN n Y := by
    refine GN_keep hN (fun j _ => o 18 (by decide) j 0) (fun j _ => o 20 (by decide) j 0) ew (fun f hf y => ?_) (fun j t hj ht y w => ?_) ?_
    · rw [o 43 (by decide)] at y
      exact ⟨y, fun j s w => (ow_eq (o 39 (by decide)) (o 40 (by decide)) f j s).mpr w⟩
    · rw [o 29 (by decide)] at w
      exact hN.2.1 j hj ((ea j).mp y) t ht w
    · rw [adn_eq (fun j => o 14 (by decide) j 0)]
      exact Nat.le_refl _
  refine GI_step h [10, 13, 37, 45, 71] [0] o yl (c15 ?_ ?_ ?_ ?_ ?_ ?_ ?_ ?_ ?_ ?_ ?_ ?_ ?_ ?_ ?_)
  all_goals first | exact fun y => absurd y (by decide) | skip
  · exact fun _ => gA
  · exact fun _ => g1
  · exact fun _ => G3_eq h3 (o 54 (by decide) 0 0) (o 52 (by decide) 0 0) (fun s hs => y71 s (by omega)) (fun s hs => y13 s (by omega)) (yl 3 (by decide)) (e10 2 (by decide))
  · exact fun _ => G2_eq h2 (yl 2 (by decide)) (fun j hj y => e10 6 (by decide) j (h2.2 j hj).1 y) (fun j hj => o 29 (by decide) j 0) (fun j _ r _ => o 27 (by decide) j r) (fun j _ r _ => o 26 (by decide) j r)
  · exact fun _ => G4_eq h4 (fun j _ => o 34 (by decide) j 0) (o 55 (by decide) 0 0) (o 53 (by decide) 0 0) (fun s hs => y71 s (by omega)) (fun s hs => y13 s (by omega)) (fun j _ _ x1 x2 => by rw [o 14 (by decide), o 27 (by decide)]; exact ⟨x1, x2⟩)
  · exact fun _ => GPa_eq hP (Nat.le_refl _) (fun g hg i j => o g (by simp; omega) i j) (fun j _ y => by rw [← o 14 (by decide) j 0]; exact y) (by rw [o 55 (by decide), y71 5 (by decide)]; exact Nat.le_add_right _ _)
  · exact fun _ => GX_eq hX (fun g hg i j => o g (by simp; omega) i j) (y13 6 (by decide)) (y71 6 (by decide))
  · exact fun _ => gF
  · exact fun _ => gN
theorem GI_tc {n c f : Nat} {a B : AS} (h : GI n c a) (hn : n ≤ 12) (h45 : ¬ av a 45 0 0 = 0) (h1' : ¬ av a 45 0 0 = 1) (hf : f < n) (h46 : av a 46 0 0 = nI f) (ob : ∀ g, g ≠ 38 → ∀ i j, av B g i j = av a g i j) (obl : ∀ q, al B q = al a q) (e38 : ∀ g i, g ≠ f → av B 38 g i = av a 38 g i) (w38 : ∀ k s i, k < 6 → s < 8 → i < 16 → av a 47 0 0 = nI k → av a 29 k 0 = nI s → av B 38 f i = av a 37 k (16 * s + i)) : GI n c (z_v 1 (sv 45 0 0 0 B)) := by
  have hA : GA a := h 0 (by decide)
  have h1 : G1 a := h 1 (by decide)
  have h3 : G3 a := h 2 (by decide)
  have hB : GB a := h 3 (by decide)
  have h2 : G2 a := h 4 (by decide)
  have h4 : G4 a := h 5 (by decide)
  have h5 : G5 a := h 6 (by decide)
  have h6 : G6 a := h 7 (by decide)
  have h8 : G8 a := h 8 (by decide)
  have hS : GS c a := h 10 (by decide)
  have hP : GPa c a := h 11 (by decide)
  have hX : GX a := h 12 (by decide)
  have hF : GF n a := h 13 (by decide)
  have hN : GN n a := h 14 (by decide)
  have h12 : ¬ av a 12 0 0 = 0 := by rw [h1.2.2.2.2.2.2.2.2.1 h45]; exact h45
  have g1 : G1 (z_v 1 (sv 45 0 0 0 B)) := G1_drum h1 hA h45 (ob 12 (by decide) 0 0) (ob 47 (by decide) 0 0) (fun s => ob 71 (by decide) s 0) (fun s => ob 13 (by decide) s 0) (obl 1) (fun k => ob 10 (by decide) k 0)
  have gA : GA (z_v 1 (sv 45 0 0 0 B)) := GA_v (GA_eq hA (fun g hg i j => by rw [av_o (by omega), ob g (by omega)]) (obl 0)) (by decide)
  generalize hY : z_v 1 (sv 45 0 0 0 B) = Y at g1 gA ⊢
  have p : ∀ g, g ≠ 10 → g ≠ 13 → g ≠ 71 → g ≠ 45 → ∀ i j, av Y g i j = av B g i j := fun g x1 x2 x3 x4 i j => by rw [← hY, vo_v x2 x1 x3, av_o x4]
  have o : ∀ g, g ∉ [10, 13, 38, 45, 71] → ∀ i j, av Y g i j = av a g i j := fun g hg i j => by simp at hg; rw [p g (by omega) (by omega) (by omega) (by omega), ob g (by omega)]
  have y71 : ∀ i, i ≠ 1 → av Y 71 i 0 = av a 71 i 0 := fun i hi => by rw [← hY, v71, if_neg hi, av_o (by decide), ob 71 (by decide)]
  have y13 : ∀ i, i ≠ 1 → av Y 13 i 0 = av a 13 i 0 := fun i hi => by rw [← hY, v13, if_neg (fun y => hi y.2), av_o (by decide), ob 13 (by decide)]
  have e10 : ∀ y : Int32, ¬ y = 0 → ∀ j, j < 6 → av a 10 j 0 = y → av Y 10 j 0 = y := fun y _ j hj e => by rw [← hY, v10 (by decide) hj, av_o (by decide), ob 10 (by decide)]; exact e
  have yl : ∀ q, q ∉ [0] → al Y q = al a q := fun q hq => by simp at hq; rw [← hY, lo_v hq]; exact obl q
  have y45 : av Y 45 0 0 = 0 := by rw [← hY, vo_v (by decide) (by decide) (by decide), av_s]
  have p38 : ∀ i j, av Y 38 i j = av B 38 i j := fun i j => p 38 (by decide) (by decide) (by decide) (by decide) i j
  have gF : GF n Y := GF_tc hF hn h12 h46 hf (fun q hq i j => o q (by simp; omega) i j) (yl 1 (by decide)) y45 (fun g i hg => by rw [p38]; exact e38 g i hg) (fun k s i x1 x2 x3 x4 x5 => by rw [p38]; exact w38 k s i x1 x2 x3 x4 x5)
  have ew := wd_tc hF gF hn h12 h1' h46 hf (fun q hq i j => o q (by simp; omega) i j) y45 (fun g i hg => by rw [p38]; exact e38 g i hg)
  have ea := AK_eq (o 12 (by decide) 0 0) (o 47 (by decide) 0 0) (yl 1 (by decide))
  have gN : GN n Y := by
    refine GN_keep hN (fun j _ => o 18 (by decide) j 0) (fun j _ => o 20 (by decide) j 0) ew (fun f hf y => ?_) (fun j t hj ht y w => ?_) ?_
    · rw [o 43 (by decide)] at y
      exact ⟨y, fun j s w => (ow_eq (o 39 (by decide)) (o 40 (by decide)) f j s).mpr w⟩
    · rw [o 29 (by decide)] at w
      exact hN.2.1 j hj ((ea j).mp y) t ht w
    · rw [adn_eq (fun j => o 14 (by decide) j 0)]
      exact Nat.le_refl _
  refine GI_step h [10, 13, 38, 45, 71] [0] o yl (c15 ?_ ?_ ?_ ?_ ?_ ?_ ?_ ?_ ?_ ?_ ?_ ?_ ?_ ?_ ?_)
  all_goals first | exact fun y => absurd y (by decide) | skip
  · exact fun _ => gA
  · exact fun _ => g1
  · exact fun _ => G3_eq h3 (o 54 (by decide) 0 0) (o 52 (by decide) 0 0) (fun s hs => y71 s (by omega)) (fun s hs => y13 s (by omega)) (yl 3 (by decide)) (e10 2 (by decide))
  · exact fun _ => G2_eq h2 (yl 2 (by decide)) (fun j hj y => e10 6 (by decide) j (h2.2 j hj).1 y) (fun j hj => o 29 (by decide) j 0) (fun j _ r _ => o 27 (by decide) j r) (fun j _ r _ => o 26 (by decide) j r)
  · exact fun _ => G4_eq h4 (fun j _ => o 34 (by decide) j 0) (o 55 (by decide) 0 0) (o 53 (by decide) 0 0) (fun s hs => y71 s (by omega)) (fun s hs => y13 s (by omega)) (fun j _ _ x1 x2 => by rw [o 14 (by decide), o 27 (by decide)]; exact ⟨x1, x2⟩)
  · exact fun _ => GPa_eq hP (Nat.le_refl _) (fun g hg i j => o g (by simp; omega) i j) (fun j _ y => by rw [← o 14 (by decide) j 0]; exact y) (by rw [o 55 (by decide), y71 5 (by decide)]; exact Nat.le_add_right _ _)
  · exact fun _ => GX_eq hX (fun g hg i j => o g (by simp; omega) i j) (y13 6 (by decide)) (y71 6 (by decide))
  · exact fun _ => gF
  · exact fun _ => gN
