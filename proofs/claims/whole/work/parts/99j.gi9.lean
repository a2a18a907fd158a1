/-! the whole invariant: the step of process 7 -/
theorem GI_take1 {n c k : Nat} {t : List Nat} {a : AS} (h : GI n c a) (hm : 7 ∈ al a 0) (h54 : av a 54 0 0 < 0) (hl : al a 3 = k :: t) : GI n c (z_p 3 (z_take1 k t a)) := by
  have hA : GA a := h 0 (by decide)
  have h1 : G1 a := h 1 (by decide)
  have h3 : G3 a := h 2 (by decide)
  have hB : GB a := h 3 (by decide)
  have h2 : G2 a := h 4 (by decide)
  have h4 : G4 a := h 5 (by decide)
  have h5 : G5 a := h 6 (by decide)
  have h6 : G6 a := h 7 (by decide)
  have h8 : G8 a := h 8 (by decide)
  have hS : GS c a := h 10 (by decide)
  have hP : GPa c a := h 11 (by decide)
  have hX : GX a := h 12 (by decide)
  have hF : GF n a := h 13 (by decide)
  have hN : GN n a := h 14 (by decide)
  have hk : k < 6 := (h3.2.1 k (by rw [hl]; exact List.mem_cons_self)).1
  have g3 : G3 (z_p 3 (z_take1 k t a)) := G3_take h3 hA hm h54 hl
  have z : ∀ g, g ≠ 52 → g ≠ 54 → ∀ i j, av (z_take1 k t a) g i j = av a g i j := fun g x1 x2 i j => by unfold z_take1; rw [av_o x1, av_o x2, av_sl]
  have zl : ∀ q, al (z_take1 k t a) q = if q = 3 then t else al a q := fun q => by
    unfold z_take1
    show al (sl 3 t a) q = _
    rw [al_sl]
  have gA : GA (z_p 3 (z_take1 k t a)) := by
    refine GA_p (GA_eq hA (fun g hg i j => z g (by omega) (by omega) i j) (by rw [zl]; rfl)) (by decide) ?_
    rw [zl]; exact hm
  have y7 : av (z_p 3 (z_take1 k t a)) 7 0 0 = av a 7 0 0 ∨ av (z_p 3 (z_take1 k t a)) 7 0 0 = 0 := by
    have := p7 (s := 3) (a := z_take1 k t a)
    rw [z 7 (by decide) (by decide)] at this
    exact this
  generalize hY : z_p 3 (z_take1 k t a) = Y at g3 gA y7 ⊢
  have o : ∀ g, g ∉ [7, 10, 13, 52, 54, 71] → ∀ i j, av Y g i j = av a g i j := fun g hg i j => by simp at hg; rw [← hY, vo_p (by omega) (by omega) (by omega) (by omega), z g (by omega) (by omega)]
  have y71 : ∀ i, i ≠ 3 → av Y 71 i 0 = av a 71 i 0 := fun i hi => by rw [← hY, p71, if_neg (fun y => hi y.2), z 71 (by decide) (by decide)]
  have y13 : ∀ i, i ≠ 3 → av Y 13 i 0 = av a 13 i 0 := fun i hi => by rw [← hY, p13, if_neg (fun y => hi y.2), z 13 (by decide) (by decide)]
  have e10 : ∀ y : Int32, ¬ y = 0 → ∀ j, j < 6 → av a 10 j 0 = y → av Y 10 j 0 = y := fun y _ j hj e => by rw [← hY, p10 (by decide) hj, z 10 (by decide) (by decide)]; exact e
  have yl : ∀ q, q ∉ [0, 3] → al Y q = al a q := fun q hq => by simp at hq; rw [← hY, lo_p hq.1, zl, if_neg hq.2]
  have yl3 : al Y 3 = t := by rw [← hY, lo_p (by decide), zl, if_pos rfl]
  have y54 : av Y 54 0 0 = nI k := by rw [← hY, vo_p (by decide) (by decide) (by decide) (by decide)]; unfold z_take1; rw [av_o (by decide), av_s]
  refine GI_step h [7, 10, 13, 52, 54, 71] [0, 3] o yl (c15 ?_ ?_ ?_ ?_ ?_ ?_ ?_ ?_ ?_ ?_ ?_ ?_ ?_ ?_ ?_)
  all_goals first | exact fun y => absurd y (by decide) | skip
  · exact fun _ => gA
  · exact fun _ => G1_eq h1 (o 12 (by decide) 0 0) (o 47 (by decide) 0 0) (o 45 (by decide) 0 0) (fun s hs => y71 s (by omega)) (fun s hs => y13 s (by omega)) (yl 1 (by decide)) (e10 1 (by decide))
  · exact fun _ => g3
  · exact fun _ => G2_eq h2 (yl 2 (by decide)) (fun j hj y => e10 6 (by decide) j (h2.2 j hj).1 y) (fun j hj => o 29 (by decide) j 0) (fun j _ r _ => o 27 (by decide) j r) (fun j _ r _ => o 26 (by decide) j r)
  · exact fun _ => G4_eq h4 (fun j _ => o 34 (by decide) j 0) (o 55 (by decide) 0 0) (o 53 (by decide) 0 0) (fun s hs => y71 s (by omega)) (fun s hs => y13 s (by omega)) (fun j _ _ x1 x2 => by rw [o 14 (by decide), o 27 (by decide)]; exact ⟨x1, x2⟩)
  · exact fun _ => G6_take h6 (fun g hg i j => o g (by simp; omega) i j) hl yl3 y54 hk
  · exact fun _ => G8_eq h8 (o 2 (by decide) 0 0) y7
  · exact fun _ => GPa_eq hP (Nat.le_refl _) (fun g hg i j => o g (by simp; omega) i j) (fun j _ y => by rw [← o 14 (by decide) j 0]; exact y) (by rw [o 55 (by decide), y71 5 (by decide)]; exact Nat.le_add_right _ _)
  · exact fun _ => GX_eq hX (fun g hg i j => o g (by simp; omega) i j) (y13 6 (by decide)) (y71 6 (by decide))
theorem GI_card {n c k cc : Nat} {a : AS} (h : GI n c a) (hm : 7 ∈ al a 0) (h54 : ¬ av a 54 0 0 < 0) (hk : k < 6) (e54 : av a 54 0 0 = nI k) (hcc : av a 32 k 0 = nI cc) (hcc2 : cc < 40) : GI n c (z_p 2 (z_card n k cc a)) := by
  have hA : GA a := h 0 (by decide)
  have h1 : G1 a := h 1 (by decide)
  have h3 : G3 a := h 2 (by decide)
  have hB : GB a := h 3 (by decide)
  have h2 : G2 a := h 4 (by decide)
  have h4 : G4 a := h 5 (by decide)
  have h5 : G5 a := h 6 (by decide)
  have h6 : G6 a := h 7 (by decide)
  have h8 : G8 a := h 8 (by decide)
  have hS : GS c a := h 10 (by decide)
  have hP : GPa c a := h 11 (by decide)
  have hX : GX a := h 12 (by decide)
  have hF : GF n a := h 13 (by decide)
  have hN : GN n a := h 14 (by decide)
  obtain ⟨k', k1, k2, k3, k4⟩ := h3.2.2.1 h54
  obtain rfl : k' = k := nI_inj (by omega) (by omega) (by rw [← k2, e54])
  have h14 : av a 14 k' 0 = 2 := Classical.byContradiction fun y => by
    have := (hA.2.2.2.2.1 k' hk).2 y
    rw [k3] at this
    exact absurd this (by decide)
  have hAK : ¬ AK a k' := fun y => by
    rcases y with y | y
    · have := (h1.2.1 k' y).2
      rw [k3] at this
      exact absurd this (by decide)
    · obtain ⟨j, j1, j2, j3, j4⟩ := h1.2.2.2.1 y.1
      obtain rfl : j = k' := nI_inj (by omega) (by omega) (by rw [← j2, y.2])
      rw [k3] at j3
      exact absurd j3 (by decide)
  have g3 : G3 (z_p 2 (z_card n k' cc a)) := G3_card h3 hA hm h54 hk e54
  have z : ∀ g, g ≠ 10 → g ≠ 17 → g ≠ 18 → g ≠ 19 → g ≠ 32 → g ≠ 43 → g ≠ 54 → ∀ i j, av (z_card n k' cc a) g i j = av a g i j := fun g x1 x2 x3 x4 x5 x6 x7 i j => by unfold z_card; rw [av_o x7, vo_wake x1, vo_comp x6 x3 x2, av_o x4, av_o x5]
  have z10 : ∀ j, av (z_card n k' cc a) 10 j 0 = if j = k' then 0 else av a 10 j 0 := fun j => by unfold z_card; rw [av_o (by decide), w10, vo_comp (by decide) (by decide) (by decide), av_o (by decide), av_o (by decide)]
  have z32 : ∀ j, av (z_card n k' cc a) 32 j 0 = if j = k' then nI (cc + 1) else av a 32 j 0 := fun j => by unfold z_card; rw [av_o (by decide), vo_wake (by decide), vo_comp (by decide) (by decide) (by decide), av_o (by decide), sv_k]
  have z18 : ∀ j, j ≠ k' → av (z_card n k' cc a) 18 j 0 = av a 18 j 0 := fun j hj => by
    unfold z_card
    rw [av_o (by decide), vo_wake (by decide), av_comp, if_neg (by simp), if_neg (fun y => hj y.2.1), if_neg (by simp), av_o (by decide), av_o (by decide)]
  have z43 : ∀ f, f < n → av (z_card n k' cc a) 43 f 0 = if av a 39 f 0 = nI k' then 0 else av a 43 f 0 := fun f hf => by
    unfold z_card
    rw [av_o (by decide), vo_wake (by decide), av_comp, av_o (show 39 ≠ 19 by decide), av_o (show 39 ≠ 32 by decide)]
    by_cases y : av a 39 f 0 = nI k'
    · rw [if_pos ⟨rfl, rfl, hf, y⟩, if_pos y]
    · rw [if_neg (fun v => y v.2.2.2), if_neg (by simp), if_neg (by simp), if_neg y, av_o (by decide), av_o (by decide)]
  have zl : ∀ q, q ≠ 0 → al (z_card n k' cc a) q = al a q := fun q hq => by
    unfold z_card
    show al (z_wake k' _) q = _
    rw [lo_wake hq]
    rfl
  have gZ : GA (z_card n k' cc a) := by
    unfold z_card
    refine GA_eq (GA_wake (k := k') (GA_eq (b := z_comp n k' (av a 18 k' 0 + 1) (sv 19 k' 0 (av a 30 k' cc) (sv 32 k' 0 (nI (cc + 1)) a))) hA (fun g hg i j => ?_) rfl) hk ?_) (fun g hg i j => ?_) rfl
    · rw [vo_comp (by omega) (by omega) (by omega), av_o (by omega), av_o (by omega)]
    · rw [vo_comp (by decide) (by decide) (by decide), av_o (by decide), av_o (by decide)]
      exact h14
    · rw [av_o (by omega)]
  have hm2 : 7 ∈ al (z_card n k' cc a) 0 := by
    unfold z_card
    show 7 ∈ al (z_wake k' _) 0
    rw [al_wake, if_pos rfl]
    split
    · exact hm
    · exact List.mem_append_left _ hm
  have gA : GA (z_p 2 (z_card n k' cc a)) := GA_p gZ (by decide) hm2
  have y7 : av (z_p 2 (z_card n k' cc a)) 7 0 0 = av a 7 0 0 ∨ av (z_p 2 (z_card n k' cc a)) 7 0 0 = 0 := by
    have := p7 (s := 2) (a := z_card n k' cc a)
    rw [z 7 (by decide) (by decide) (by decide) (by decide) (by decide) (by decide) (by decide)] at this
    exact this
  generalize hY : z_p 2 (z_card n k' cc a) = Y at g3 gA y7 ⊢
  have p : ∀ g, g ≠ 7 → g ≠ 10 → g ≠ 13 → g ≠ 71 → ∀ i j, av Y g i j = av (z_card n k' cc a) g i j := fun g x1 x2 x3 x4 i j => by rw [← hY, vo_p x3 x2 x4 x1]
  have o : ∀ g, g ∉ [7, 10, 13, 17, 18, 19, 32, 43, 54, 71] → ∀ i j, av Y g i j = av a g i j := fun g hg i j => by simp at hg; rw [p g (by omega) (by omega) (by omega) (by omega), z g (by omega) (by omega) (by omega) (by omega) (by omega) (by omega) (by omega)]
  have y71 : ∀ i, i ≠ 2 → av Y 71 i 0 = av a 71 i 0 := fun i hi => by rw [← hY, p71, if_neg (fun y => hi y.2), z 71 (by decide) (by decide) (by decide) (by decide) (by decide) (by decide) (by decide)]
  have y13 : ∀ i, i ≠ 2 → av Y 13 i 0 = av a 13 i 0 := fun i hi => by rw [← hY, p13, if_neg (fun y => hi y.2), z 13 (by decide) (by decide) (by decide) (by decide) (by decide) (by decide) (by decide)]
  have e10 : ∀ y : Int32, ¬ y = 2 → ∀ j, j < 6 → av a 10 j 0 = y → av Y 10 j 0 = y := fun y hy j hj e => by
    rw [← hY, p10 (by decide) hj, z10, if_neg]
    · exact e
    · rintro rfl
      rw [k3] at e
      exact hy e.symm
  have yl : ∀ q, q ∉ [0] → al Y q = al a q := fun q hq => by simp at hq; rw [← hY, lo_p hq, zl q hq]
  have y54 : av Y 54 0 0 = -1 := by rw [p 54 (by decide) (by decide) (by decide) (by decide)]; unfold z_card; rw [av_s]
  have gN : GN n Y := GN_cz hN hAK (fun g hg i j => o g (by unfold fF at hg; simp; omega) i j) (fun j => o 29 (by decide) j 0) (fun j hj => by rw [p 18 (by decide) (by decide) (by decide) (by decide), z18 j hj]) (fun j _ => o 20 (by decide) j 0) (fun f hf => by rw [p 43 (by decide) (by decide) (by decide) (by decide), z43 f hf]) (yl 1 (by decide))
  refine GI_step h [7, 10, 13, 17, 18, 19, 32, 43, 54, 71] [0] o yl (c15 ?_ ?_ ?_ ?_ ?_ ?_ ?_ ?_ ?_ ?_ ?_ ?_ ?_ ?_ ?_)
  all_goals first | exact fun y => absurd y (by decide) | skip
  · exact fun _ => gA
  · exact fun _ => G1_eq h1 (o 12 (by decide) 0 0) (o 47 (by decide) 0 0) (o 45 (by decide) 0 0) (fun s hs => y71 s (by omega)) (fun s hs => y13 s (by omega)) (yl 1 (by decide)) (e10 1 (by decide))
  · exact fun _ => g3
  · exact fun _ => G2_eq h2 (yl 2 (by decide)) (fun j hj y => e10 6 (by decide) j (h2.2 j hj).1 y) (fun j hj => o 29 (by decide) j 0) (fun j _ r _ => o 27 (by decide) j r) (fun j _ r _ => o 26 (by decide) j r)
  · exact fun _ => G4_eq h4 (fun j _ => o 34 (by decide) j 0) (o 55 (by decide) 0 0) (o 53 (by decide) 0 0) (fun s hs => y71 s (by omega)) (fun s hs => y13 s (by omega)) (fun j _ _ x1 x2 => by rw [o 14 (by decide), o 27 (by decide)]; exact ⟨x1, x2⟩)
  · exact fun _ => G6_card h6 hk (fun j => o 31 (by decide) j 0) (fun j => by rw [p 32 (by decide) (by decide) (by decide) (by decide), z32]) (yl 3 (by decide)) y54 e54 k4 hcc (by omega)
  · exact fun _ => G8_eq h8 (o 2 (by decide) 0 0) y7
  · exact fun _ => GPa_eq hP (Nat.le_refl _) (fun g hg i j => o g (by simp; omega) i j) (fun j _ y => by rw [← o 14 (by decide) j 0]; exact y) (by rw [o 55 (by decide), y71 5 (by decide)]; exact Nat.le_add_right _ _)
  · exact fun _ => GX_eq hX (fun g hg i j => o g (by simp; omega) i j) (y13 6 (by decide)) (y71 6 (by decide))
  · exact fun _ => gN
theorem GI_reading {n c : Nat} {a : AS} (h : GI n c a) (hm : 7 ∈ al a 0) : GI n c (z_reading n a) := by
  have h3 : G3 a := h 2 (by decide)
  have h6 : G6 a := h 7 (by decide)
  unfold z_reading
  split
  · rename_i e
    split
    · exact h
    · rename_i k t hl
      exact GI_take1 h hm e hl
  · rename_i e
    obtain ⟨k, k1, k2, k3, k4⟩ := h3.2.2.1 e
    obtain ⟨cc, m, m1, m2, m3, m4, m5⟩ := h6 k k1
    have := m5 (Or.inr k2)
    rw [k2, show (nI k).toNatClampNeg = k from nI_clamp (by omega), m3, show (nI cc).toNatClampNeg = cc from nI_clamp (by omega)]
    exact GI_card h hm e k1 k2 m3 (by omega)
