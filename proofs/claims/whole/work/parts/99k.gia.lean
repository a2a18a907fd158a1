/-! the whole invariant: the step of process 8 -/
theorem GI_take2 {n c k : Nat} {a : AS} (h : GI n c a) (hm : 8 ∈ al a 0) (hk : k < 6) (hlk : 0 < nv a 34 k 0) : GI n c (z_p 5 (z_take2 k a)) := by
  have hA : GA a := h 0 (by decide)
  have h1 : G1 a := h 1 (by decide)
  have h3 : G3 a := h 2 (by decide)
  have hB : GB a := h 3 (by decide)
  have h2 : G2 a := h 4 (by decide)
  have h4 : G4 a := h 5 (by decide)
  have h5 : G5 a := h 6 (by decide)
  have h6 : G6 a := h 7 (by decide)
  have h8 : G8 a := h 8 (by decide)
  have hS : GS c a := h 10 (by decide)
  have hP : GPa c a := h 11 (by decide)
  have hX : GX a := h 12 (by decide)
  have hF : GF n a := h 13 (by decide)
  have hN : GN n a := h 14 (by decide)
  have hs := hA.2.2.2.1.2.2.1.mp hm
  have g4 : G4 (z_p 5 (z_take2 k a)) := G4_take h4 hs.1 hs.2 hk hlk
  have z : ∀ g, g ≠ 53 → g ≠ 55 → ∀ i j, av (z_take2 k a) g i j = av a g i j := fun g x1 x2 i j => by unfold z_take2; rw [av_o x1, av_o x2]
  have gA : GA (z_p 5 (z_take2 k a)) := GA_p (GA_eq hA (fun g hg i j => z g (by omega) (by omega) i j) rfl) (by decide) hm
  have y7 : av (z_p 5 (z_take2 k a)) 7 0 0 = av a 7 0 0 ∨ av (z_p 5 (z_take2 k a)) 7 0 0 = 0 := by
    have := p7 (s := 5) (a := z_take2 k a)
    rw [z 7 (by decide) (by decide)] at this
    exact this
  have y715 : av (z_p 5 (z_take2 k a)) 71 5 0 = 1 := by rw [p71, if_pos ⟨by rw [z 13 (by decide) (by decide), h4.2.2.2.1]; decide, rfl⟩]
  generalize hY : z_p 5 (z_take2 k a) = Y at g4 gA y7 y715 ⊢
  have o : ∀ g, g ∉ [7, 10, 13, 53, 55, 71] → ∀ i j, av Y g i j = av a g i j := fun g hg i j => by simp at hg; rw [← hY, vo_p (by omega) (by omega) (by omega) (by omega), z g (by omega) (by omega)]
  have y71 : ∀ i, i ≠ 5 → av Y 71 i 0 = av a 71 i 0 := fun i hi => by rw [← hY, p71, if_neg (fun y => hi y.2), z 71 (by decide) (by decide)]
  have y13 : ∀ i, i ≠ 5 → av Y 13 i 0 = av a 13 i 0 := fun i hi => by rw [← hY, p13, if_neg (fun y => hi y.2), z 13 (by decide) (by decide)]
  have e10 : ∀ y : Int32, ¬ y = 0 → ∀ j, j < 6 → av a 10 j 0 = y → av Y 10 j 0 = y := fun y _ j hj e => by rw [← hY, p10 (by decide) hj, z 10 (by decide) (by decide)]; exact e
  have yl : ∀ q, q ∉ [0] → al Y q = al a q := fun q hq => by simp at hq; rw [← hY, lo_p hq]; rfl
  refine GI_step h [7, 10, 13, 53, 55, 71] [0] o yl (c15 ?_ ?_ ?_ ?_ ?_ ?_ ?_ ?_ ?_ ?_ ?_ ?_ ?_ ?_ ?_)
  all_goals first | exact fun y => absurd y (by decide) | skip
  · exact fun _ => gA
  · exact fun _ => G1_eq h1 (o 12 (by decide) 0 0) (o 47 (by decide) 0 0) (o 45 (by decide) 0 0) (fun s hs => y71 s (by omega)) (fun s hs => y13 s (by omega)) (yl 1 (by decide)) (e10 1 (by decide))
  · exact fun _ => G3_eq h3 (o 54 (by decide) 0 0) (o 52 (by decide) 0 0) (fun s hs => y71 s (by omega)) (fun s hs => y13 s (by omega)) (yl 3 (by decide)) (e10 2 (by decide))
  · exact fun _ => G2_eq h2 (yl 2 (by decide)) (fun j hj y => e10 6 (by decide) j (h2.2 j hj).1 y) (fun j hj => o 29 (by decide) j 0) (fun j _ r _ => o 27 (by decide) j r) (fun j _ r _ => o 26 (by decide) j r)
  · exact fun _ => g4
  · exact fun _ => G8_eq h8 (o 2 (by decide) 0 0) y7
  · exact fun _ => GPa_eq hP (Nat.le_refl _) (fun g hg i j => o g (by simp; omega) i j) (fun j _ y => by rw [← o 14 (by decide) j 0]; exact y) (by rw [if_neg (fun y => absurd (y715 ▸ y.2) (by decide))]; exact Nat.zero_le _)
  · exact fun _ => GX_eq hX (fun g hg i j => o g (by simp; omega) i j) (y13 6 (by decide)) (y71 6 (by decide))
theorem GI_put {n c k : Nat} {a : AS} (h : GI n c a) (hc : c ≤ 512) (hm : 8 ∈ al a 0) (h55 : ¬ av a 55 0 0 < 0) (hk : k < 6) (hlk : 0 < nv a 34 k 0) : GI n c (z_p 4 (sv 55 0 0 (-1) (z_wakeP k (z_put k a)))) := by
  have hA : GA a := h 0 (by decide)
  have h1 : G1 a := h 1 (by decide)
  have h3 : G3 a := h 2 (by decide)
  have hB : GB a := h 3 (by decide)
  have h2 : G2 a := h 4 (by decide)
  have h4 : G4 a := h 5 (by decide)
  have h5 : G5 a := h 6 (by decide)
  have h6 : G6 a := h 7 (by decide)
  have h8 : G8 a := h 8 (by decide)
  have hS : GS c a := h 10 (by decide)
  have hP : GPa c a := h 11 (by decide)
  have hX : GX a := h 12 (by decide)
  have hF : GF n a := h 13 (by decide)
  have hN : GN n a := h 14 (by decide)
  have hs := hA.2.2.2.1.2.2.1.mp hm
  have h14 := ((h4.1 k hk).2.2 hlk).1
  have g4 : G4 (z_p 4 (sv 55 0 0 (-1) (z_wakeP k (z_put k a)))) := G4_put h4 hs.1 hs.2 hk hlk
  obtain ⟨pc, pc1, pc2, -⟩ := id hP
  rw [if_pos ⟨h55, hs.2⟩] at pc2
  have zp : ∀ g, g ≠ 33 → g ≠ 34 → ∀ i j, av (z_put k a) g i j = av (z_out k a) g i j := fun g x1 x2 i j => by
    unfold z_put
    rw [av_shift, if_neg (fun y => x2 y.1), if_neg (fun y => x1 y.1)]
  generalize hZ : sv 55 0 0 (-1) (z_wakeP k (z_put k a)) = Z at g4 ⊢
  have z : ∀ g, g ≠ 10 → g ≠ 33 → g ≠ 34 → g ≠ 35 → g ≠ 36 → g ≠ 55 → g ≠ 72 → g ≠ 76 → g ≠ 77 → ∀ i j, av Z g i j = av a g i j := fun g x0 x1 x2 x3 x4 x5 x6 x7 x8 i j => by
    rw [← hZ, av_o x5, vo_wakeP x0, vo_put x1 x2 x3 x4 x6 x7 x8]
  have zo : ∀ g, g ≠ 10 → g ≠ 33 → g ≠ 34 → g ≠ 55 → ∀ i j, av Z g i j = av (z_out k a) g i j := fun g x0 x1 x2 x3 i j => by
    rw [← hZ, av_o x3, vo_wakeP x0, zp g x1 x2]
  have zl : ∀ q, q ≠ 0 → al Z q = al a q := fun q hq => by
    rw [← hZ]
    show al (z_wakeP k (z_put k a)) q = _
    unfold z_wakeP
    split
    · rw [lo_wake hq]; rfl
    · rfl
  have zA : GA (z_put k a) := GA_eq hA (fun g hg i j => vo_put (by omega) (by omega) (by omega) (by omega) (by omega) (by omega) (by omega)) rfl
  have gZ : GA Z := by
    rw [← hZ]
    refine GA_eq (a := z_wakeP k (z_put k a)) ?_ (fun g hg i j => av_o (by omega)) rfl
    unfold z_wakeP
    split
    · refine GA_wake zA hk ?_
      rw [vo_put (by decide) (by decide) (by decide) (by decide) (by decide) (by decide) (by decide)]
      exact h14
    · exact zA
  have hm2 : 8 ∈ al Z 0 := by
    rw [← hZ]
    show 8 ∈ al (z_wakeP k (z_put k a)) 0
    unfold z_wakeP
    split
    · rw [al_wake, if_pos rfl]
      split
      · exact hm
      · exact List.mem_append_left _ hm
    · exact hm
  have gA : GA (z_p 4 Z) := GA_p gZ (by decide) hm2
  have z10 : ∀ y : Int32, (y = 1 ∨ y = 2 ∨ y = 6) → ∀ j, j < 6 → av a 10 j 0 = y → av Z 10 j 0 = y := fun y hy j hj e => by
    rw [← hZ, av_o (by decide)]
    have e' : av (z_put k a) 10 j 0 = y := by rw [vo_put (by decide) (by decide) (by decide) (by decide) (by decide) (by decide) (by decide)]; exact e
    unfold z_wakeP
    split
    · rename_i cc
      rw [w10, if_neg]
      · exact e'
      · rintro rfl
        rw [e'] at cc
        rcases hy with rfl | rfl | rfl <;> exact absurd cc (by simp)
    · exact e'
  have y7 : av (z_p 4 Z) 7 0 0 = av a 7 0 0 ∨ av (z_p 4 Z) 7 0 0 = 0 := by
    have := p7 (s := 4) (a := Z)
    rw [z 7 (by decide) (by decide) (by decide) (by decide) (by decide) (by decide) (by decide) (by decide) (by decide)] at this
    exact this
  generalize hY : z_p 4 Z = Y at g4 gA y7 ⊢
  have p : ∀ g, g ≠ 7 → g ≠ 10 → g ≠ 13 → g ≠ 71 → ∀ i j, av Y g i j = av Z g i j := fun g x1 x2 x3 x4 i j => by rw [← hY, vo_p x3 x2 x4 x1]
  have po : ∀ g, g ≠ 7 → g ≠ 10 → g ≠ 13 → g ≠ 71 → g ≠ 33 → g ≠ 34 → g ≠ 55 → ∀ i j, av Y g i j = av (z_out k a) g i j := fun g x1 x2 x3 x4 x5 x6 x7 i j => by rw [p g x1 x2 x3 x4, zo g x2 x5 x6 x7]
  have o : ∀ g, g ∉ [7, 10, 13, 33, 34, 35, 36, 55, 71, 72, 76, 77] → ∀ i j, av Y g i j = av a g i j := fun g hg i j => by simp at hg; rw [p g (by omega) (by omega) (by omega) (by omega), z g (by omega) (by omega) (by omega) (by omega) (by omega) (by omega) (by omega) (by omega) (by omega)]
  have y71 : ∀ i, i ≠ 4 → av Y 71 i 0 = av a 71 i 0 := fun i hi => by rw [← hY, p71, if_neg (fun y => hi y.2), z 71 (by decide) (by decide) (by decide) (by decide) (by decide) (by decide) (by decide) (by decide) (by decide)]
  have y13 : ∀ i, i ≠ 4 → av Y 13 i 0 = av a 13 i 0 := fun i hi => by rw [← hY, p13, if_neg (fun y => hi y.2), z 13 (by decide) (by decide) (by decide) (by decide) (by decide) (by decide) (by decide) (by decide) (by decide)]
  have e10 : ∀ y : Int32, (y = 1 ∨ y = 2 ∨ y = 6) → ∀ j, j < 6 → av a 10 j 0 = y → av Y 10 j 0 = y := fun y hy j hj e => by
    rw [← hY, p10 (by decide) hj]
    exact z10 y hy j hj e
  have yl : ∀ q, q ∉ [0] → al Y q = al a q := fun q hq => by simp at hq; rw [← hY, lo_p hq, zl q hq]
  have y55 : av Y 55 0 0 < 0 := by rw [p 55 (by decide) (by decide) (by decide) (by decide), ← hZ, av_s]; decide
  have epc : (av a 72 0 0).toNatClampNeg = pc := by rw [pc1, nI_clamp (by omega)]
  have y72 : av Y 72 0 0 = nI (pc + 1) := by
    rw [po 72 (by decide) (by decide) (by decide) (by decide) (by decide) (by decide) (by decide)]
    unfold z_out
    rw [av_o (by decide), av_s, pc1, nI_1]
  have y77 : ∀ q, av Y 77 q 0 = if q = pc then av a 23 k 0 else av a 77 q 0 := fun q => by
    rw [po 77 (by decide) (by decide) (by decide) (by decide) (by decide) (by decide) (by decide)]
    unfold z_out
    rw [epc, av_o (by decide), av_o (by decide), sv_k, av_o (by decide), av_o (by decide)]
  have y76 : ∀ q, av Y 76 q 0 = if q = pc then av a 33 k 0 else av a 76 q 0 := fun q => by
    rw [po 76 (by decide) (by decide) (by decide) (by decide) (by decide) (by decide) (by decide)]
    unfold z_out
    rw [epc, av_o (by decide), av_o (by decide), av_o (by decide), sv_k, av_o (by decide)]
  have y36 : ∀ j, av Y 36 j 0 = if j = k then av a 36 k 0 + 1 else av a 36 j 0 := fun j => by
    rw [po 36 (by decide) (by decide) (by decide) (by decide) (by decide) (by decide) (by decide)]
    unfold z_out
    rw [sv_k, av_o (by decide), av_o (by decide), av_o (by decide), av_o (by decide)]
  have y35 : ∀ j i, av Y 35 j i = if j = k ∧ i = nv a 36 k 0 then av a 33 k 0 else av a 35 j i := fun j i => by
    rw [po 35 (by decide) (by decide) (by decide) (by decide) (by decide) (by decide) (by decide)]
    unfold z_out
    rw [av_o (by decide), av_o (by decide), av_o (by decide), av_o (by decide), av_sv]
    by_cases e : j = k ∧ i = nv a 36 k 0
    · rw [if_pos ⟨rfl, e.1, e.2⟩, if_pos e]
    · rw [if_neg (fun y => e y.2), if_neg e]
  have gP : GPa c Y := GPa_put hP hS hc hk h14 ⟨h55, hs.2⟩ pc1 (by omega) (fun g hg i j => o g (by simp; omega) i j) y55 y72 y77 y76 y36 y35
  refine GI_step h [7, 10, 13, 33, 34, 35, 36, 55, 71, 72, 76, 77] [0] o yl (c15 ?_ ?_ ?_ ?_ ?_ ?_ ?_ ?_ ?_ ?_ ?_ ?_ ?_ ?_ ?_)
  all_goals first | exact fun y => absurd y (by decide) | skip
  · exact fun _ => gA
  · exact fun _ => G1_eq h1 (o 12 (by decide) 0 0) (o 47 (by decide) 0 0) (o 45 (by decide) 0 0) (fun s hs => y71 s (by omega)) (fun s hs => y13 s (by omega)) (yl 1 (by decide)) (e10 1 (by decide))
  · exact fun _ => G3_eq h3 (o 54 (by decide) 0 0) (o 52 (by decide) 0 0) (fun s hs => y71 s (by omega)) (fun s hs => y13 s (by omega)) (yl 3 (by decide)) (e10 2 (by decide))
  · exact fun _ => G2_eq h2 (yl 2 (by decide)) (fun j hj y => e10 6 (by decide) j (h2.2 j hj).1 y) (fun j hj => o 29 (by decide) j 0) (fun j _ r _ => o 27 (by decide) j r) (fun j _ r _ => o 26 (by decide) j r)
  · exact fun _ => g4
  · exact fun _ => G8_eq h8 (o 2 (by decide) 0 0) y7
  · exact fun _ => gP
  · exact fun _ => GX_eq hX (fun g hg i j => o g (by simp; omega) i j) (y13 6 (by decide)) (y71 6 (by decide))
theorem GI_printing {n c : Nat} {a : AS} (h : GI n c a) (hc : c ≤ 512) (hm : 8 ∈ al a 0) : GI n c (z_printing a) := by
  have hA : GA a := h 0 (by decide)
  have hB : GB a := h 3 (by decide)
  have h4 : G4 a := h 5 (by decide)
  have hs := hA.2.2.2.1.2.2.1.mp hm
  unfold z_printing
  split
  · split
    · exact h
    · rename_i k hh
      obtain ⟨cc, c1, c2⟩ := h4.2.2.1
      rw [if_pos hs.1] at c2
      obtain ⟨j, j1, j2⟩ := LT_some (a := a) (by omega)
      obtain ⟨l1, l2, l3⟩ := h4.1 j j1
      have := (hold_of hB j1 (l3 j2).1 (l3 j2).2).1
      rw [hh] at this
      injection this with this
      subst this
      exact GI_take2 h hm j1 j2
  · rename_i e
    obtain ⟨k, k1, k2, k3⟩ := h4.2.1 e
    rw [k2, show (nI k).toNatClampNeg = k from nI_clamp (by omega)]
    exact GI_put h hc hm e k1 k3
