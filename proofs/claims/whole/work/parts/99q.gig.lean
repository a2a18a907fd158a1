/-! the whole invariant: what is typed -/
theorem GI_nl {n c : Nat} {a : AS} (h : GI n c a) (h68 : av a 68 0 0 < 8) : GI n c (z_v 6 (z_nl (nv a 67 0 0) (nv a 68 0 0) a)) := by
  have hA : GA a := h 0 (by decide)
  have h1 : G1 a := h 1 (by decide)
  have h3 : G3 a := h 2 (by decide)
  have hB : GB a := h 3 (by decide)
  have h2 : G2 a := h 4 (by decide)
  have h4 : G4 a := h 5 (by decide)
  have h5 : G5 a := h 6 (by decide)
  have h6 : G6 a := h 7 (by decide)
  have h8 : G8 a := h 8 (by decide)
  have hS : GS c a := h 10 (by decide)
  have hP : GPa c a := h 11 (by decide)
  have hX : GX a := h 12 (by decide)
  have hF : GF n a := h 13 (by decide)
  have hN : GN n a := h 14 (by decide)
  obtain ⟨L, m, b2, b3, b5, b6, -⟩ := id hX
  have n67 : nv a 67 0 0 = L := nvI b5 (by omega)
  have n68 : nv a 68 0 0 = m := nvI b6 (by omega)
  have hm8 : m < 8 := by rw [b6] at h68; exact (nI_ltI (b := 8) (by omega) (by decide)).mp h68
  rw [n67, n68]
  have z : ∀ g, g ≠ 64 → g ≠ 65 → g ≠ 67 → g ≠ 68 → ∀ i j, av (z_nl L m a) g i j = av a g i j := fun g x1 x2 x3 x4 i j => by
    unfold z_nl
    rw [av_o x4, av_o x3, av_o x2, av_cpr, if_neg (fun y => x1 y.1)]
  have z65 : ∀ r, av (z_nl L m a) 65 r 0 = if r = m then nI L else av a 65 r 0 := fun r => by
    unfold z_nl
    have cp : av (z_cpr L m a) 65 r 0 = av a 65 r 0 := by rw [av_cpr, if_neg (by simp)]
    rw [av_o (by decide), av_o (by decide), sv_k, cp]
  have z64 : ∀ r i, av (z_nl L m a) 64 r i = if r = m ∧ i < L then av a 63 i 0 else av a 64 r i := fun r i => by
    unfold z_nl
    rw [av_o (by decide), av_o (by decide), av_o (by decide), av_cpr]
    by_cases y : r = m ∧ i < L
    · rw [if_pos ⟨rfl, y.1, y.2⟩, if_pos y]
    · rw [if_neg (fun v => y v.2), if_neg y]
  have gA : GA (z_v 6 (z_nl L m a)) := GA_v (GA_eq hA (fun g hg i j => z g (by omega) (by omega) (by omega) (by omega) i j) rfl) (by decide)
  generalize hY : z_v 6 (z_nl L m a) = Y at gA ⊢
  have p : ∀ g, g ≠ 10 → g ≠ 13 → g ≠ 71 → ∀ i j, av Y g i j = av (z_nl L m a) g i j := fun g x1 x2 x3 i j => by rw [← hY, vo_v x2 x1 x3]
  have o : ∀ g, g ∉ [10, 13, 64, 65, 67, 68, 71] → ∀ i j, av Y g i j = av a g i j := fun g hg i j => by simp at hg; rw [p g (by omega) (by omega) (by omega), z g (by omega) (by omega) (by omega) (by omega)]
  have y71 : ∀ i, i ≠ 6 → av Y 71 i 0 = av a 71 i 0 := fun i hi => by rw [← hY, v71, if_neg hi, z 71 (by decide) (by decide) (by decide) (by decide)]
  have y13 : ∀ i, i ≠ 6 → av Y 13 i 0 = av a 13 i 0 := fun i hi => by rw [← hY, v13, if_neg (fun y => hi y.2), z 13 (by decide) (by decide) (by decide) (by decide)]
  have e10 : ∀ y : Int32, ¬ y = 0 → ∀ j, j < 6 → av a 10 j 0 = y → av Y 10 j 0 = y := fun y _ j hj e => by rw [← hY, v10 (by decide) hj, z 10 (by decide) (by decide) (by decide) (by decide)]; exact e
  have yl : ∀ q, q ∉ [0] → al Y q = al a q := fun q hq => by simp at hq; rw [← hY, lo_v hq]; rfl
  have w71 : av Y 71 6 0 = 0 := by rw [← hY, v71, if_pos rfl]
  have w13 : av Y 13 6 0 = if av a 71 6 0 = 0 then av a 13 6 0 + 1 else av a 13 6 0 := by
    rw [← hY, v13, z 71 (by decide) (by decide) (by decide) (by decide), z 13 (by decide) (by decide) (by decide) (by decide)]
    by_cases y : av a 71 6 0 = 0
    · rw [if_pos ⟨y, rfl⟩, if_pos y]
    · rw [if_neg (fun v => y v.1), if_neg y]
  have gX : GX Y := by
    refine GX_nl (L := L) (m := m) hX b5 b6 b2 hm8 w13 w71 ?_ ?_ (fun r => ?_) (fun r i => ?_)
    · rw [p 68 (by decide) (by decide) (by decide)]; unfold z_nl; rw [av_s]
    · rw [p 67 (by decide) (by decide) (by decide)]; unfold z_nl; rw [av_o (by decide), av_s]
    · rw [p 65 (by decide) (by decide) (by decide), z65]
    · rw [p 64 (by decide) (by decide) (by decide), z64]
  refine GI_step h [10, 13, 64, 65, 67, 68, 71] [0] o yl (c15 ?_ ?_ ?_ ?_ ?_ ?_ ?_ ?_ ?_ ?_ ?_ ?_ ?_ ?_ ?_)
  all_goals first | exact fun y => absurd y (by decide) | skip
  · exact fun _ => gA
  · exact fun _ => G1_eq h1 (o 12 (by decide) 0 0) (o 47 (by decide) 0 0) (o 45 (by decide) 0 0) (fun s hs => y71 s (by omega)) (fun s hs => y13 s (by omega)) (yl 1 (by decide)) (e10 1 (by decide))
  · exact fun _ => G3_eq h3 (o 54 (by decide) 0 0) (o 52 (by decide) 0 0) (fun s hs => y71 s (by omega)) (fun s hs => y13 s (by omega)) (yl 3 (by decide)) (e10 2 (by decide))
  · exact fun _ => G2_eq h2 (yl 2 (by decide)) (fun j hj y => e10 6 (by decide) j (h2.2 j hj).1 y) (fun j hj => o 29 (by decide) j 0) (fun j _ r _ => o 27 (by decide) j r) (fun j _ r _ => o 26 (by decide) j r)
  · exact fun _ => G4_eq h4 (fun j _ => o 34 (by decide) j 0) (o 55 (by decide) 0 0) (o 53 (by decide) 0 0) (fun s hs => y71 s (by omega)) (fun s hs => y13 s (by omega)) (fun j _ _ x1 x2 => by rw [o 14 (by decide), o 27 (by decide)]; exact ⟨x1, x2⟩)
  · exact fun _ => GPa_eq hP (Nat.le_refl _) (fun g hg i j => o g (by simp; omega) i j) (fun j _ y => by rw [← o 14 (by decide) j 0]; exact y) (by rw [o 55 (by decide), y71 5 (by decide)]; exact Nat.le_add_right _ _)
  · exact fun _ => gX
theorem GI_type {n c : Nat} {x : Int32} {a : AS} (h : GI n c a) : GI n c (z_type x a).2 := by
  have hX : GX a := h 12 (by decide)
  unfold z_type
  split
  · split
    · rename_i cc
      exact GI_nl h cc
    · exact h
  · split
    · exact h
    · rename_i cc
      rw [not_or, not_or] at cc
      obtain ⟨c1, c2, c3⟩ := cc
      obtain ⟨L, m, b2, b3, b5, b6, -⟩ := id hX
      have n67 : nv a 67 0 0 = L := nvI b5 (by omega)
      obtain ⟨y, hy, rfl⟩ := nI_of (x := x) (fun y => c1 (Int32.lt_trans y (by decide)))
      have hy2 : y < 128 := Classical.byContradiction fun w => c2 ((nI_ltI (a := 126) (by decide) hy).mpr (by omega))
      have hL : nv a 67 0 0 < 20 := by
        rw [n67]
        rw [b5] at c3
        exact Classical.byContradiction fun w => c3 ((nI_leI (a := 20) (by decide) (by omega)).mpr (by omega))
      refine GI_step h [63, 67] [] (fun g hg i j => by simp at hg; simp only; rw [av_o (by omega), av_o (by omega)]) (fun q _ => rfl) (c15 ?_ ?_ ?_ ?_ ?_ ?_ ?_ ?_ ?_ ?_ ?_ ?_ ?_ ?_ ?_)
      all_goals first | exact fun y => absurd y (by decide) | skip
      refine fun _ => GX_char hX hy2 hL (fun g hg i j => ?_) (av_s) (fun i => ?_)
      · rw [av_o (by omega), av_o (by omega)]
      · rw [av_o (by decide), sv_k]
