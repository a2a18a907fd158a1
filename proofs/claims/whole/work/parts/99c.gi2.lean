/-! the whole invariant: a job asks for a segment, for a card, prints -/
theorem GI_ask {n c k s : Nat} {a : AS} (h : GI n c a) (hk : k < 6) (hm : k ∈ al a 0) (hs : s < 8) (hno : ∀ f, f < n → ¬ ow a f k s) (hnd : nd n a k s) : GI n c (z_ask k (nI s) a) := by
  obtain ⟨q1, q2, q3, q4, q5⟩ := run_of h hk hm
  have hA : GA a := h 0 (by decide)
  have h1 : G1 a := h 1 (by decide)
  have h2 : G2 a := h 4 (by decide)
  have h3 : G3 a := h 2 (by decide)
  have h4 : G4 a := h 5 (by decide)
  have h8 : G8 a := h 8 (by decide)
  have hP : GPa c a := h 11 (by decide)
  have hX : GX a := h 12 (by decide)
  have hF : GF n a := h 13 (by decide)
  have hN : GN n a := h 14 (by decide)
  have g1 : G1 (z_ask k (nI s) a) := G1_ask h1 hA hk hm
  generalize hY : z_ask k (nI s) a = Y at g1 ⊢
  unfold z_ask at hY
  generalize hZ : sl 1 (al a 1 ++ [k]) (sv 29 k 0 (nI s) a) = Z at hY
  have z : ∀ g, g ≠ 29 → ∀ i j, av Z g i j = av a g i j := fun g x i j => by rw [← hZ, av_sl, av_o x]
  have zl : ∀ q, q ≠ 1 → al Z q = al a q := fun q hq => by rw [← hZ, al_sl, if_neg hq]; rfl
  have o : ∀ g, g ≠ 7 → g ≠ 10 → g ≠ 13 → g ≠ 29 → g ≠ 71 → ∀ i j, av Y g i j = av a g i j := fun g x1 x2 x3 x4 x5 i j => by rw [← hY, vo_v x3 x2 x5, vo_susp x2 x1, z g x4]
  have y71 : ∀ i, i ≠ 0 → av Y 71 i 0 = av a 71 i 0 := fun i hi => by rw [← hY, v71, if_neg hi, vo_susp (by decide) (by decide), z 71 (by decide)]
  have y13 : ∀ i, i ≠ 0 → av Y 13 i 0 = av a 13 i 0 := fun i hi => by rw [← hY, v13, if_neg (fun y => hi y.2), vo_susp (by decide) (by decide), z 13 (by decide)]
  have y10 : ∀ j, j < 6 → av Y 10 j 0 = if j = k then 1 else av a 10 j 0 := fun j hj => by rw [← hY, v10 (by decide) hj, s10, z 10 (by decide)]
  have y29 : ∀ j, av Y 29 j 0 = if j = k then nI s else av a 29 j 0 := fun j => by rw [← hY, vo_v (by decide) (by decide) (by decide), vo_susp (by decide) (by decide), ← hZ, av_sl, sv_k]
  have y7 : av Y 7 0 0 = 0 := by rw [← hY, vo_v (by decide) (by decide) (by decide), susp7]
  have yl : ∀ q, q ≠ 0 → q ≠ 1 → al Y q = al a q := fun q x1 x2 => by rw [← hY, lo_v x1, lo_susp x1, zl q x2]
  have yl1 : al Y 1 = al a 1 ++ [k] := by rw [← hY, lo_v (by decide), lo_susp (by decide), ← hZ, al_sl, if_pos rfl]
  have e10 : ∀ y : Int32, ¬ y = 0 → ∀ j, j < 6 → av a 10 j 0 = y → av Y 10 j 0 = y := fun y hy j hj e => by
    rw [y10 j hj, if_neg]
    · exact e
    · rintro rfl
      rw [q2] at e
      exact hy e.symm
  have gA : GA Y := by
    rw [← hY]
    refine GA_v (GA_susp (GA_eq hA (fun g hg i j => z g (by omega) i j) (zl 0 (by decide))) hk ?_ (by decide)) (by decide)
    rw [zl 0 (by decide)]; exact hm
  have oF : ∀ g, fF g → ∀ i j, av Y g i j = av a g i j := fun g hg => by unfold fF at hg; exact o g (by omega) (by omega) (by omega) (by omega) (by omega)
  refine GI_step h [7, 10, 13, 29, 71] [0, 1] (fun g hg i j => o g (by simp at hg; omega) (by simp at hg; omega) (by simp at hg; omega) (by simp at hg; omega) (by simp at hg; omega) i j) (fun q hq => yl q (by simp at hq; omega) (by simp at hq; omega)) (c15 ?_ ?_ ?_ ?_ ?_ ?_ ?_ ?_ ?_ ?_ ?_ ?_ ?_ ?_ ?_)
  all_goals first | exact fun y => absurd y (by decide) | skip
  · exact fun _ => gA
  · exact fun _ => g1
  · exact fun _ => G3_eq h3 (o 54 (by decide) (by decide) (by decide) (by decide) (by decide) 0 0) (o 52 (by decide) (by decide) (by decide) (by decide) (by decide) 0 0) (fun s hs => y71 s (by omega)) (fun s hs => y13 s (by omega)) (yl 3 (by decide) (by decide)) (e10 2 (by decide))
  · exact fun _ => G2_eq h2 (yl 2 (by decide) (by decide)) (fun j hj y => e10 6 (by decide) j (h2.2 j hj).1 y) (fun j hj => by rw [y29, if_neg (fun (c : j = k) => q4 (c ▸ hj))]) (fun j _ r _ => o 27 (by decide) (by decide) (by decide) (by decide) (by decide) j r) (fun j _ r _ => o 26 (by decide) (by decide) (by decide) (by decide) (by decide) j r)
  · exact fun _ => G4_eq h4 (fun j _ => o 34 (by decide) (by decide) (by decide) (by decide) (by decide) j 0) (o 55 (by decide) (by decide) (by decide) (by decide) (by decide) 0 0) (o 53 (by decide) (by decide) (by decide) (by decide) (by decide) 0 0) (fun s hs => y71 s (by omega)) (fun s hs => y13 s (by omega)) (fun j _ _ x1 x2 => by rw [o 14 (by decide) (by decide) (by decide) (by decide) (by decide), o 27 (by decide) (by decide) (by decide) (by decide) (by decide)]; exact ⟨x1, x2⟩)
  · exact fun _ => G8_eq h8 (o 2 (by decide) (by decide) (by decide) (by decide) (by decide) 0 0) (Or.inr y7)
  · exact fun _ => GPa_eq hP (Nat.le_refl _) (fun g hg i j => o g (by omega) (by omega) (by omega) (by omega) (by omega) i j) (fun j _ y => by rw [← o 14 (by decide) (by decide) (by decide) (by decide) (by decide) j 0]; exact y) (by rw [o 55 (by decide) (by decide) (by decide) (by decide) (by decide), y71 5 (by decide)]; exact Nat.le_add_right _ _)
  · exact fun _ => GX_eq hX (fun g hg i j => o g (by omega) (by omega) (by omega) (by omega) (by omega) i j) (y13 6 (by decide)) (y71 6 (by decide))
  · exact fun _ => GF_ask (k := k) (s := s) hF oF (fun j hj => by rw [yl1, List.mem_append, List.mem_singleton] at hj; exact hj) q3 hs (fun j _ hj => by rw [y29, if_neg hj]) (fun _ => ⟨by rw [y29, if_pos rfl], hno⟩)
  · refine fun _ => GN_keep hN (fun j _ => o 18 (by decide) (by decide) (by decide) (by decide) (by decide) j 0) (fun j _ => o 20 (by decide) (by decide) (by decide) (by decide) (by decide) j 0) (fun j s i _ _ _ => wd_eq oF) (fun f hf y => ?_) (fun j t hj ht y w => ?_) ?_
    · rw [o 43 (by decide) (by decide) (by decide) (by decide) (by decide)] at y
      exact ⟨y, fun j s w => (ow_eq (oF 39 (by unfold fF; decide)) (oF 40 (by unfold fF; decide)) f j s).mpr w⟩
    · rw [y29] at w
      by_cases x : j = k
      · rw [if_pos x] at w
        rw [x, ← nI_inj (by omega) (by omega) w]
        exact hnd
      · rw [if_neg x] at w
        refine hN.2.1 j hj ?_ t ht w
        rcases y with y | y
        · rw [yl1, List.mem_append, List.mem_singleton] at y
          exact Or.inl (y.resolve_right x)
        · rw [oF 12 (by unfold fF; decide), oF 47 (by unfold fF; decide)] at y
          exact Or.inr y
    · rw [adn_eq (fun j => oF 14 (by unfold fF; decide) j 0)]
      exact Nat.le_refl _
theorem GI_read {n c k : Nat} {a : AS} (h : GI n c a) (hk : k < 6) (hm : k ∈ al a 0) (hlt : ¬ av a 31 k 0 ≤ av a 32 k 0) : GI n c (z_v 2 (z_susp k 2 (sl 3 (al a 3 ++ [k]) a))) := by
  obtain ⟨q1, q2, q3, q4, q5⟩ := run_of h hk hm
  have hA : GA a := h 0 (by decide)
  have h1 : G1 a := h 1 (by decide)
  have h2 : G2 a := h 4 (by decide)
  have h3 : G3 a := h 2 (by decide)
  have h4 : G4 a := h 5 (by decide)
  have h6 : G6 a := h 7 (by decide)
  have h8 : G8 a := h 8 (by decide)
  have hP : GPa c a := h 11 (by decide)
  have hX : GX a := h 12 (by decide)
  have g3 := G3_read h3 hA hk hm
  generalize hY : z_v 2 (z_susp k 2 (sl 3 (al a 3 ++ [k]) a)) = Y at g3 ⊢
  generalize hZ : sl 3 (al a 3 ++ [k]) a = Z at hY
  have z : ∀ g i j, av Z g i j = av a g i j := fun g i j => by rw [← hZ, av_sl]
  have zl : ∀ q, q ≠ 3 → al Z q = al a q := fun q hq => by rw [← hZ, al_sl, if_neg hq]
  have o : ∀ g, g ≠ 7 → g ≠ 10 → g ≠ 13 → g ≠ 71 → ∀ i j, av Y g i j = av a g i j := fun g x1 x2 x3 x5 i j => by rw [← hY, vo_v x3 x2 x5, vo_susp x2 x1, z g]
  have y71 : ∀ i, i ≠ 2 → av Y 71 i 0 = av a 71 i 0 := fun i hi => by rw [← hY, v71, if_neg hi, vo_susp (by decide) (by decide), z 71]
  have y13 : ∀ i, i ≠ 2 → av Y 13 i 0 = av a 13 i 0 := fun i hi => by rw [← hY, v13, if_neg (fun y => hi y.2), vo_susp (by decide) (by decide), z 13]
  have y10 : ∀ j, j < 6 → av Y 10 j 0 = if j = k then 2 else av a 10 j 0 := fun j hj => by rw [← hY, v10 (by decide) hj, s10, z 10]
  have y7 : av Y 7 0 0 = 0 := by rw [← hY, vo_v (by decide) (by decide) (by decide), susp7]
  have yl : ∀ q, q ≠ 0 → q ≠ 3 → al Y q = al a q := fun q x1 x2 => by rw [← hY, lo_v x1, lo_susp x1, zl q x2]
  have yl3 : al Y 3 = al a 3 ++ [k] := by rw [← hY, lo_v (by decide), lo_susp (by decide), ← hZ, al_sl, if_pos rfl]
  have e10 : ∀ y : Int32, ¬ y = 0 → ∀ j, j < 6 → av a 10 j 0 = y → av Y 10 j 0 = y := fun y hy j hj e => by
    rw [y10 j hj, if_neg]
    · exact e
    · rintro rfl
      rw [q2] at e
      exact hy e.symm
  have gA : GA Y := by
    rw [← hY]
    refine GA_v (GA_susp (GA_eq hA (fun g hg i j => z g i j) (zl 0 (by decide))) hk ?_ (by decide)) (by decide)
    rw [zl 0 (by decide)]; exact hm
  refine GI_step h [7, 10, 13, 71] [0, 3] (fun g hg i j => o g (by simp at hg; omega) (by simp at hg; omega) (by simp at hg; omega) (by simp at hg; omega) i j) (fun q hq => yl q (by simp at hq; omega) (by simp at hq; omega)) (c15 ?_ ?_ ?_ ?_ ?_ ?_ ?_ ?_ ?_ ?_ ?_ ?_ ?_ ?_ ?_)
  all_goals first | exact fun y => absurd y (by decide) | skip
  · exact fun _ => gA
  · exact fun _ => G1_eq h1 (o 12 (by decide) (by decide) (by decide) (by decide) 0 0) (o 47 (by decide) (by decide) (by decide) (by decide) 0 0) (o 45 (by decide) (by decide) (by decide) (by decide) 0 0) (fun s hs => y71 s (by omega)) (fun s hs => y13 s (by omega)) (yl 1 (by decide) (by decide)) (e10 1 (by decide))
  · exact fun _ => g3
  · exact fun _ => G2_eq h2 (yl 2 (by decide) (by decide)) (fun j hj y => e10 6 (by decide) j (h2.2 j hj).1 y) (fun j hj => o 29 (by decide) (by decide) (by decide) (by decide) j 0) (fun j _ r _ => o 27 (by decide) (by decide) (by decide) (by decide) j r) (fun j _ r _ => o 26 (by decide) (by decide) (by decide) (by decide) j r)
  · exact fun _ => G4_eq h4 (fun j _ => o 34 (by decide) (by decide) (by decide) (by decide) j 0) (o 55 (by decide) (by decide) (by decide) (by decide) 0 0) (o 53 (by decide) (by decide) (by decide) (by decide) 0 0) (fun s hs => y71 s (by omega)) (fun s hs => y13 s (by omega)) (fun j _ _ x1 x2 => by rw [o 14 (by decide) (by decide) (by decide) (by decide), o 27 (by decide) (by decide) (by decide) (by decide)]; exact ⟨x1, x2⟩)
  · exact fun _ => G6_read (k := k) h6 (fun g hg i j => o g (by omega) (by omega) (by omega) (by omega) i j) yl3 hlt
  · exact fun _ => G8_eq h8 (o 2 (by decide) (by decide) (by decide) (by decide) 0 0) (Or.inr y7)
  · exact fun _ => GPa_eq hP (Nat.le_refl _) (fun g hg i j => o g (by omega) (by omega) (by omega) (by omega) i j) (fun j _ y => by rw [← o 14 (by decide) (by decide) (by decide) (by decide) j 0]; exact y) (by rw [o 55 (by decide) (by decide) (by decide) (by decide), y71 5 (by decide)]; exact Nat.le_add_right _ _)
  · exact fun _ => GX_eq hX (fun g hg i j => o g (by omega) (by omega) (by omega) (by omega) i j) (y13 6 (by decide)) (y71 6 (by decide))
