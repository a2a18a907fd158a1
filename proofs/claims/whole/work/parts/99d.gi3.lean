/-! the whole invariant: a job prints, gets, gives -/
theorem GI_print {n c k : Nat} {x : Int32} {a : AS} (h : GI n c a) (hk : k < 6) (hm : k ∈ al a 0) (h27 : ¬ av a 27 k 1 ≤ 0) (hlt : av a 34 k 0 < 4 * av a 27 k 2) : GI n c (z_v 4 (z_comp n k x (z_line k a))) := by
  obtain ⟨q1, q2, q3, q4, q5⟩ := run_of h hk hm
  have hA : GA a := h 0 (by decide)
  have h1 : G1 a := h 1 (by decide)
  have h2 : G2 a := h 4 (by decide)
  have h3 : G3 a := h 2 (by decide)
  have h4 : G4 a := h 5 (by decide)
  have hB : GB a := h 3 (by decide)
  have hP : GPa c a := h 11 (by decide)
  have hX : GX a := h 12 (by decide)
  have hN : GN n a := h 14 (by decide)
  have g4 : G4 (z_v 4 (z_comp n k x (z_line k a))) := G4_print h4 hA hB hk q1 h27 hlt
  generalize hY : z_v 4 (z_comp n k x (z_line k a)) = Y at g4 ⊢
  have l : ∀ g, g ≠ 33 → g ≠ 34 → ∀ i j, av (z_line k a) g i j = av a g i j := fun g x1 x2 i j => by unfold z_line; rw [av_o x2, av_o x1]
  have z : ∀ g, g ≠ 17 → g ≠ 18 → g ≠ 33 → g ≠ 34 → g ≠ 43 → ∀ i j, av (z_comp n k x (z_line k a)) g i j = av a g i j := fun g x1 x2 x3 x4 x5 i j => by rw [vo_comp x5 x2 x1, l g x3 x4]
  have o : ∀ g, g ≠ 10 → g ≠ 13 → g ≠ 17 → g ≠ 18 → g ≠ 33 → g ≠ 34 → g ≠ 43 → g ≠ 71 → ∀ i j, av Y g i j = av a g i j := fun g x1 x2 x3 x4 x5 x6 x7 x8 i j => by rw [← hY, vo_v x2 x1 x8, z g x3 x4 x5 x6 x7]
  have y71 : ∀ i, i ≠ 4 → av Y 71 i 0 = av a 71 i 0 := fun i hi => by rw [← hY, v71, if_neg hi, z 71 (by decide) (by decide) (by decide) (by decide) (by decide)]
  have y13 : ∀ i, i ≠ 4 → av Y 13 i 0 = av a 13 i 0 := fun i hi => by rw [← hY, v13, if_neg (fun y => hi y.2), z 13 (by decide) (by decide) (by decide) (by decide) (by decide)]
  have y10 : ∀ j, j < 6 → av Y 10 j 0 = av a 10 j 0 := fun j hj => by rw [← hY, v10 (by decide) hj, z 10 (by decide) (by decide) (by decide) (by decide) (by decide)]
  have yl : ∀ q, q ≠ 0 → al Y q = al a q := fun q x1 => by rw [← hY, lo_v x1]; rfl
  have gA : GA Y := by
    rw [← hY]
    exact GA_v (GA_eq hA (fun g hg i j => z g (by omega) (by omega) (by omega) (by omega) (by omega) i j) rfl) (by decide)
  refine GI_step h [10, 13, 17, 18, 33, 34, 43, 71] [0] (fun g hg i j => o g (by simp at hg; omega) (by simp at hg; omega) (by simp at hg; omega) (by simp at hg; omega) (by simp at hg; omega) (by simp at hg; omega) (by simp at hg; omega) (by simp at hg; omega) i j) (fun q hq => yl q (by simpa using hq)) (c15 ?_ ?_ ?_ ?_ ?_ ?_ ?_ ?_ ?_ ?_ ?_ ?_ ?_ ?_ ?_)
  all_goals first | exact fun y => absurd y (by decide) | skip
  · exact fun _ => gA
  · exact fun _ => G1_eq h1 (o 12 (by decide) (by decide) (by decide) (by decide) (by decide) (by decide) (by decide) (by decide) 0 0) (o 47 (by decide) (by decide) (by decide) (by decide) (by decide) (by decide) (by decide) (by decide) 0 0) (o 45 (by decide) (by decide) (by decide) (by decide) (by decide) (by decide) (by decide) (by decide) 0 0) (fun s hs => y71 s (by omega)) (fun s hs => y13 s (by omega)) (yl 1 (by decide)) (fun j hj y => by rw [y10 j hj]; exact y)
  · exact fun _ => G3_eq h3 (o 54 (by decide) (by decide) (by decide) (by decide) (by decide) (by decide) (by decide) (by decide) 0 0) (o 52 (by decide) (by decide) (by decide) (by decide) (by decide) (by decide) (by decide) (by decide) 0 0) (fun s hs => y71 s (by omega)) (fun s hs => y13 s (by omega)) (yl 3 (by decide)) (fun j hj y => by rw [y10 j hj]; exact y)
  · exact fun _ => G2_eq h2 (yl 2 (by decide)) (fun j hj y => by rw [y10 j (h2.2 j hj).1]; exact y) (fun j hj => o 29 (by decide) (by decide) (by decide) (by decide) (by decide) (by decide) (by decide) (by decide) j 0) (fun j _ r _ => o 27 (by decide) (by decide) (by decide) (by decide) (by decide) (by decide) (by decide) (by decide) j r) (fun j _ r _ => o 26 (by decide) (by decide) (by decide) (by decide) (by decide) (by decide) (by decide) (by decide) j r)
  · exact fun _ => g4
  · exact fun _ => GPa_eq hP (Nat.le_refl _) (fun g hg i j => o g (by omega) (by omega) (by omega) (by omega) (by omega) (by omega) (by omega) (by omega) i j) (fun j _ y => by rw [← o 14 (by decide) (by decide) (by decide) (by decide) (by decide) (by decide) (by decide) (by decide) j 0]; exact y) (by rw [o 55 (by decide) (by decide) (by decide) (by decide) (by decide) (by decide) (by decide) (by decide), y71 5 (by decide)]; exact Nat.le_add_right _ _)
  · exact fun _ => GX_eq hX (fun g hg i j => o g (by omega) (by omega) (by omega) (by omega) (by omega) (by omega) (by omega) (by omega) i j) (y13 6 (by decide)) (y71 6 (by decide))
  · have oF : ∀ g, fF g → ∀ i j, av Y g i j = av a g i j := fun g hg => by unfold fF at hg; exact o g (by omega) (by omega) (by omega) (by omega) (by omega) (by omega) (by omega) (by omega)
    have ea := AK_eq (oF 12 (by unfold fF; decide) 0 0) (oF 47 (by unfold fF; decide) 0 0) (yl 1 (by decide))
    refine fun _ => GN_comp (k := k) hN (fun j _ hj => ?_) (fun j _ _ => o 20 (by decide) (by decide) (by decide) (by decide) (by decide) (by decide) (by decide) (by decide) j 0) (fun j s i _ _ _ _ => wd_eq oF) (fun f hf y => ?_) (fun y => q3 ((ea k).mp y)) (fun j s _ _ _ y w => ⟨(ea j).mp y, by rw [← o 29 (by decide) (by decide) (by decide) (by decide) (by decide) (by decide) (by decide) (by decide) j 0]; exact w⟩) ?_
    · rw [← hY, vo_v (by decide) (by decide) (by decide), av_comp, if_neg (by simp), if_neg (fun y => hj y.2.1), if_neg (by simp), l 18 (by decide) (by decide)]
    · rw [← hY, vo_v (by decide) (by decide) (by decide), av_comp, l 39 (by decide) (by decide)] at y
      by_cases w : av a 39 f 0 = nI k
      · rw [if_pos ⟨rfl, rfl, hf, w⟩] at y; exact absurd rfl y
      · rw [if_neg (fun v => w v.2.2.2), if_neg (by simp), if_neg (by simp), l 43 (by decide) (by decide)] at y
        exact ⟨y, w, fun j s v => (ow_eq (oF 39 (by unfold fF; decide)) (oF 40 (by unfold fF; decide)) f j s).mpr v⟩
    · rw [adn_eq (fun j => oF 14 (by unfold fF; decide) j 0)]
      exact Nat.le_refl _
/-- one of a resource goes over, without the end of the instruction -/
theorem GI_in {n c k r : Nat} {a : AS} (h : GI n c a) (hk : k < 6) (hr : r < 3) (h14 : av a 14 k 0 = 2) (hl : k ∉ al a 2) (hf : 0 < av a 28 r 0) (hlt : av a 27 k r < av a 26 k r) : GI n c (z_move k r 1 a) := by
  have h2 : G2 a := h 4 (by decide)
  have h4 : G4 a := h 5 (by decide)
  have hB : GB a := h 3 (by decide)
  have o : ∀ g, g ≠ 27 → g ≠ 28 → ∀ i j, av (z_move k r 1 a) g i j = av a g i j := fun g x1 x2 i j => vo_move x1 x2
  have o27 : ∀ j q, j ≠ k → av (z_move k r 1 a) 27 j q = av a 27 j q := fun j q hj => by unfold z_move; rw [av_sv, if_neg (fun y => hj y.2.1), av_o (by decide)]
  have hn := (lt_nv (GB_bk hB) hk hr).mp hlt
  have gB : GB (z_move k r 1 a) := GB_in hB hk hr h14 hf hn (fun g _ i j => rfl)
  refine GI_step h [27, 28] [] (fun g hg i j => o g (by simp at hg; omega) (by simp at hg; omega) i j) (fun q _ => rfl) (c15 ?_ ?_ ?_ ?_ ?_ ?_ ?_ ?_ ?_ ?_ ?_ ?_ ?_ ?_ ?_)
  all_goals first | exact fun y => absurd y (by decide) | skip
  · exact fun _ => gB
  · exact fun _ => G2_eq h2 rfl (fun j hj y => by rw [o 10 (by decide) (by decide)]; exact y) (fun j hj => o 29 (by decide) (by decide) j 0) (fun j hj q _ => o27 j q (fun (e : j = k) => hl (e ▸ hj))) (fun j _ q _ => o 26 (by decide) (by decide) j q)
  · refine fun _ => G4_eq h4 (fun j _ => o 34 (by decide) (by decide) j 0) (o 55 (by decide) (by decide) 0 0) (o 53 (by decide) (by decide) 0 0) (fun s _ => o 71 (by decide) (by decide) s 0) (fun s _ => o 13 (by decide) (by decide) s 0) (fun j hj _ x1 x2 => ⟨by rw [o 14 (by decide) (by decide)]; exact x1, ?_⟩)
    by_cases e : j = k
    · subst e
      obtain ⟨b1, -⟩ := gB.choose_spec.2.2.2.1 j 1 hj (by decide)
      obtain ⟨d1, -, d3, d4⟩ := (GB_bk hB).1 j 1 hj (by decide)
      have t1 := (GB_bk gB).1 j 1 hj (by decide)
      have hv := nv_move (GB_bk hB) hj hr j 1
      have p0 : 0 < nv a 27 j 1 := by
        rw [d1] at x2
        refine Nat.pos_of_ne_zero fun e => x2 ?_
        rw [e]; decide
      rw [b1]
      refine nI_nle (by rw [hv]; split <;> omega) (by omega)
    · rw [o27 j 1 e]; exact x2
