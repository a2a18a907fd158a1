/-! the whole invariant: those who wait get, a job is over -/
theorem GN_cz {n k : Nat} {a b : AS} (h : GN n a) (hA : ¬ AK a k) (e' : ∀ g, fF g → ∀ i j, av b g i j = av a g i j) (e29 : ∀ j, av b 29 j 0 = av a 29 j 0) (e18 : ∀ j, j ≠ k → av b 18 j 0 = av a 18 j 0) (e20 : ∀ j, j ≠ k → av b 20 j 0 = av a 20 j 0) (e43 : ∀ f, f < n → av b 43 f 0 = if av a 39 f 0 = nI k then 0 else av a 43 f 0) (el : al b 1 = al a 1) : GN n b := by
  have eo := ow_eq (e' 39 (by unfold fF; decide)) (e' 40 (by unfold fF; decide))
  have ea := AK_eq (e' 12 (by unfold fF; decide) 0 0) (e' 47 (by unfold fF; decide) 0 0) el
  refine GN_comp (k := k) h (fun j _ hj => e18 j hj) (fun j _ hj => e20 j hj) (fun j s i _ _ _ _ => wd_eq e') (fun f hf y => ?_) (fun y => hA ((ea k).mp y)) (fun j s _ _ _ y z => ⟨(ea j).mp y, by rw [← e29]; exact z⟩) ?_
  · rw [e43 f hf] at y
    by_cases x : av a 39 f 0 = nI k
    · rw [if_pos x] at y; exact absurd rfl y
    · rw [if_neg x] at y; exact ⟨y, x, fun j s z => (eo f j s).mpr z⟩
  · rw [adn_eq (fun j => e' 14 (by unfold fF; decide) j 0)]
    exact Nat.le_refl _
theorem GI_have {n c k : Nat} {pre t : List Nat} {a : AS} (h : GI n c a) (hl : al a 2 = pre ++ k :: t) (hg : z_gr k (nv a 29 k 0) a = true) : GI n c (z_have n k (nv a 29 k 0) (pre ++ t) a) := by
  have hA : GA a := h 0 (by decide)
  have h1 : G1 a := h 1 (by decide)
  have h2 : G2 a := h 4 (by decide)
  have h3 : G3 a := h 2 (by decide)
  have h4 : G4 a := h 5 (by decide)
  have hB : GB a := h 3 (by decide)
  have hN : GN n a := h 14 (by decide)
  have hkl : k ∈ al a 2 := by rw [hl]; simp
  obtain ⟨k1, k2, k3, k4, k5⟩ := h2.2 k hkl
  have h14 : av a 14 k 0 = 2 := Classical.byContradiction fun y => by
    have := (hA.2.2.2.2.1 k k1).2 y
    rw [k2] at this
    exact absurd this (by decide)
  have hAK : ¬ AK a k := fun y => by
    rcases y with y | y
    · have := (h1.2.1 k y).2
      rw [k2] at this
      exact absurd this (by decide)
    · obtain ⟨j, j1, j2, j3, j4⟩ := h1.2.2.2.1 y.1
      obtain rfl : j = k := nI_inj (by omega) (by omega) (by rw [← j2, y.2])
      rw [k2] at j3
      exact absurd j3 (by decide)
  have gB : GB (z_have n k (nv a 29 k 0) (pre ++ t) a) := GB_have hB h2 h14 hl hg
  have g2 : G2 (z_have n k (nv a 29 k 0) (pre ++ t) a) := G2_have h2 hl
  have o27 : ∀ j q, j ≠ k → av (z_have n k (nv a 29 k 0) (pre ++ t) a) 27 j q = av a 27 j q := fun j q hj => vk_have hj (by decide)
  have n27 : ∀ q, nv a 27 k q ≤ nv (z_have n k (nv a 29 k 0) (pre ++ t) a) 27 k q := fun q => by
    have : nv (z_have n k (nv a 29 k 0) (pre ++ t) a) 27 k q = nv (z_move k (nv a 29 k 0) 1 a) 27 k q := nve (vo_have (by decide) (by decide) (by decide) (by decide))
    rw [this, nv_move (GB_bk hB) k1 k3]
    split
    · rename_i y
      rw [y.2]; omega
    · exact Nat.le_refl _
  have y10 : ∀ j, av (z_have n k (nv a 29 k 0) (pre ++ t) a) 10 j 0 = if j = k then 0 else av a 10 j 0 := fun j => by
    unfold z_have
    rw [w10, vo_comp (by decide) (by decide) (by decide), av_sl, vo_move (by decide) (by decide)]
  have y18 : ∀ j, j ≠ k → av (z_have n k (nv a 29 k 0) (pre ++ t) a) 18 j 0 = av a 18 j 0 := fun j hj => by
    unfold z_have
    rw [vo_wake (by decide), av_comp, if_neg (by simp), if_neg (fun y => hj y.2.1), if_neg (by simp), av_sl, vo_move (by decide) (by decide)]
  have y43 : ∀ f, f < n → av (z_have n k (nv a 29 k 0) (pre ++ t) a) 43 f 0 = if av a 39 f 0 = nI k then 0 else av a 43 f 0 := fun f hf => by
    unfold z_have
    rw [vo_wake (by decide), av_comp, av_sl, vo_move (by decide) (by decide)]
    by_cases y : av a 39 f 0 = nI k
    · rw [if_pos ⟨rfl, rfl, hf, y⟩, if_pos y]
    · rw [if_neg (fun z => y z.2.2.2), if_neg (by simp), if_neg (by simp), if_neg y, av_sl, vo_move (by decide) (by decide)]
  have gA : GA (z_have n k (nv a 29 k 0) (pre ++ t) a) := by
    unfold z_have
    refine GA_wake (GA_eq hA (fun g hg i j => by rw [vo_comp (by omega) (by omega) (by omega), av_sl, vo_move (by omega) (by omega)]) rfl) k1 ?_
    rw [vo_comp (by decide) (by decide) (by decide), av_sl, vo_move (by decide) (by decide)]
    exact h14
  generalize hY : z_have n k (nv a 29 k 0) (pre ++ t) a = Y at gA gB g2 o27 n27 y10 y18 y43 ⊢
  have o : ∀ g, g ≠ 10 → g ≠ 17 → g ≠ 18 → g ≠ 27 → g ≠ 28 → g ≠ 43 → ∀ i j, av Y g i j = av a g i j := fun g x1 x2 x3 x4 x5 x6 i j => by rw [← hY, vo_have x1 x2 x3 x6, vo_move x4 x5]
  have yl : ∀ q, q ≠ 0 → q ≠ 2 → al Y q = al a q := fun q x1 x2 => by rw [← hY, lo_have x1, if_neg x2]
  have e10 : ∀ y : Int32, ¬ y = 6 → ∀ j, j < 6 → av a 10 j 0 = y → av Y 10 j 0 = y := fun y hy j hj e => by
    rw [y10, if_neg]
    · exact e
    · rintro rfl
      rw [k2] at e
      exact hy e.symm
  refine GI_step h [10, 17, 18, 27, 28, 43] [0, 2] (fun g hg i j => o g (by simp at hg; omega) (by simp at hg; omega) (by simp at hg; omega) (by simp at hg; omega) (by simp at hg; omega) (by simp at hg; omega) i j) (fun q hq => yl q (by simp at hq; omega) (by simp at hq; omega)) (c15 ?_ ?_ ?_ ?_ ?_ ?_ ?_ ?_ ?_ ?_ ?_ ?_ ?_ ?_ ?_)
  all_goals first | exact fun y => absurd y (by decide) | skip
  · exact fun _ => gA
  · exact fun _ => G1_eq h1 (o 12 (by decide) (by decide) (by decide) (by decide) (by decide) (by decide) 0 0) (o 47 (by decide) (by decide) (by decide) (by decide) (by decide) (by decide) 0 0) (o 45 (by decide) (by decide) (by decide) (by decide) (by decide) (by decide) 0 0) (fun s hs => o 71 (by decide) (by decide) (by decide) (by decide) (by decide) (by decide) s 0) (fun s hs => o 13 (by decide) (by decide) (by decide) (by decide) (by decide) (by decide) s 0) (yl 1 (by decide) (by decide)) (e10 1 (by decide))
  · exact fun _ => G3_eq h3 (o 54 (by decide) (by decide) (by decide) (by decide) (by decide) (by decide) 0 0) (o 52 (by decide) (by decide) (by decide) (by decide) (by decide) (by decide) 0 0) (fun s hs => o 71 (by decide) (by decide) (by decide) (by decide) (by decide) (by decide) s 0) (fun s hs => o 13 (by decide) (by decide) (by decide) (by decide) (by decide) (by decide) s 0) (yl 3 (by decide) (by decide)) (e10 2 (by decide))
  · exact fun _ => gB
  · exact fun _ => g2
  · refine fun _ => G4_eq h4 (fun j _ => o 34 (by decide) (by decide) (by decide) (by decide) (by decide) (by decide) j 0) (o 55 (by decide) (by decide) (by decide) (by decide) (by decide) (by decide) 0 0) (o 53 (by decide) (by decide) (by decide) (by decide) (by decide) (by decide) 0 0) (fun s _ => o 71 (by decide) (by decide) (by decide) (by decide) (by decide) (by decide) s 0) (fun s _ => o 13 (by decide) (by decide) (by decide) (by decide) (by decide) (by decide) s 0) (fun j hj _ x1 x2 => ⟨by rw [o 14 (by decide) (by decide) (by decide) (by decide) (by decide) (by decide)]; exact x1, ?_⟩)
    by_cases e : j = k
    · subst e
      obtain ⟨b1, -, b3, b4⟩ := (GB_bk gB).1 j 1 hj (by decide)
      obtain ⟨d1, -⟩ := (GB_bk hB).1 j 1 hj (by decide)
      have p0 : 0 < nv a 27 j 1 := by
        rw [d1] at x2
        refine Nat.pos_of_ne_zero fun e => x2 ?_
        rw [e]; decide
      have := n27 1
      rw [b1]
      exact nI_nle (by omega) (by omega)
    · rw [o27 j 1 e]; exact x2
  · exact fun _ => GN_cz hN hAK (fun g hg => by unfold fF at hg; exact o g (by omega) (by omega) (by omega) (by omega) (by omega) (by omega)) (fun j => o 29 (by decide) (by decide) (by decide) (by decide) (by decide) (by decide) j 0) y18 (fun j _ => o 20 (by decide) (by decide) (by decide) (by decide) (by decide) (by decide) j 0) y43 (yl 1 (by decide) (by decide))
theorem GI_gtw {n c : Nat} {a : AS} (h : GI n c a) : GI n c (z_gtw n [] (al a 2) a) :=
  gtw_ind (GI n c) (fun _ _ _ _ h hl hg => GI_have h hl hg) (al a 2) [] a h rfl
theorem GI_ov {n c k : Nat} {a : AS} (h : GI n c a) (hn : n ≤ 12) (hk : k < 6) (hm : k ∈ al a 0) (hlines : av a 34 k 0 ≤ 0) : GI n c (z_ov n k a) := by
  obtain ⟨q1, q2, q3, q4, q5⟩ := run_of h hk hm
  have hA : GA a := h 0 (by decide)
  have h1 : G1 a := h 1 (by decide)
  have h4 : G4 a := h 5 (by decide)
  have h5 : G5 a := h 6 (by decide)
  have h8 : G8 a := h 8 (by decide)
  have hB : GB a := h 3 (by decide)
  have hS : GS c a := h 10 (by decide)
  have hP : GPa c a := h 11 (by decide)
  have hF : GF n a := h 13 (by decide)
  have hN : GN n a := h 14 (by decide)
  have n01 : ¬ (1 : Int32) = 0 := by decide
  have h45 : av a 45 0 0 = 1 → ¬ av a 12 0 0 = 0 := fun y => by rw [h1.2.2.2.2.2.2.2.2.1 (by rw [y]; exact n01), y]; exact n01
  unfold z_ov z_over
  refine GI_say (GI_say (GI_say (GI_say ?_)))
  generalize hZ : z_gab 3 k (z_vac n k a) = Z
  have z : ∀ g, g ≠ 28 → g ≠ 39 → g ≠ 42 → g ≠ 43 → ∀ i j, av Z g i j = av a g i j := fun g x1 x2 x3 x4 i j => by rw [← hZ, vo_gab x1, vo_vac x2 x3 x4]
  have gA : GA (z_leave k (sv 14 k 0 3 Z)) := by
    have gZ : GA Z := GA_eq hA (fun g hg i j => z g (by omega) (by omega) (by omega) (by omega) i j) (by rw [← hZ]; rfl)
    refine GA_over gZ hk ?_
    rw [← hZ]; exact hm
  generalize hY : z_leave k (sv 14 k 0 3 Z) = Y at gA ⊢
  have o : ∀ g, g ≠ 7 → g ≠ 14 → g ≠ 28 → g ≠ 39 → g ≠ 42 → g ≠ 43 → ∀ i j, av Y g i j = av a g i j := fun g x1 x2 x3 x4 x5 x6 i j => by rw [← hY, vo_leave x1, av_o x2, z g x3 x4 x5 x6]
  have y14 : ∀ j, av Y 14 j 0 = if j = k then 3 else av a 14 j 0 := fun j => by rw [← hY, vo_leave (by decide), sv_k, z 14 (by decide) (by decide) (by decide) (by decide)]
  have y28 : ∀ r, r < 3 → av Y 28 r 0 = av a 28 r 0 + av a 27 k r := fun r hr => by rw [← hY, vo_leave (by decide), av_o (by decide), ← hZ, av_gab, if_pos ⟨rfl, rfl, hr⟩, vo_vac (by decide) (by decide) (by decide), vo_vac (by decide) (by decide) (by decide)]
  have y39 : ∀ f, f < n → av Y 39 f 0 = if av a 39 f 0 = nI k then -1 else av a 39 f 0 := fun f hf => by
    rw [← hY, vo_leave (by decide), av_o (by decide), ← hZ, vo_gab (by decide), av_vac]
    by_cases y : av a 39 f 0 = nI k
    · rw [if_pos ⟨rfl, hf, y⟩, if_pos rfl, if_pos y]
    · rw [if_neg (fun w => y w.2.2), if_neg y]
  have y42 : ∀ g, g = 42 ∨ g = 43 → ∀ f, f < n → av Y g f 0 = if av a 39 f 0 = nI k then 0 else av a g f 0 := fun g hg f hf => by
    rw [← hY, vo_leave (by omega), av_o (by omega), ← hZ, vo_gab (by omega), av_vac]
    by_cases y : av a 39 f 0 = nI k
    · rw [if_pos ⟨rfl, hf, y⟩, if_neg (by omega), if_pos hg, if_pos y]
    · rw [if_neg (fun w => y w.2.2), if_neg y]
  have yl : ∀ q, q ≠ 0 → al Y q = al a q := fun q x1 => by rw [← hY, lo_leave x1, ← hZ]; rfl
  have y7 : av Y 7 0 0 = 0 := by rw [← hY]; unfold z_leave; rw [av_s]
  have e : ∀ q, q = 12 ∨ q = 23 ∨ q = 29 ∨ q = 37 ∨ q = 38 ∨ q = 40 ∨ q = 45 ∨ q = 46 ∨ q = 47 ∨ q = 49 ∨ q = 50 ∨ q = 51 → ∀ i j, av Y q i j = av a q i j := fun q hq => o q (by omega) (by omega) (by omega) (by omega) (by omega) (by omega)
  have gF : GF n Y := GF_over hF hk q3 e (yl 1 (by decide)) y14 y39 (fun f hf y => by rw [y42 42 (by decide) f hf, if_neg y])
  have ew := wd_over hF gF hn h45 hk (fun q hq => e q (by omega)) (fun j hj => by rw [y14, if_neg hj]) y39
  have ea := AK_eq (e 12 (by decide) 0 0) (e 47 (by decide) 0 0) (yl 1 (by decide))
  have n30 : ¬ (3 : Int32) = 0 := by decide
  refine GI_step h [7, 14, 28, 39, 42, 43] [0] (fun g hg i j => o g (by simp at hg; omega) (by simp at hg; omega) (by simp at hg; omega) (by simp at hg; omega) (by simp at hg; omega) (by simp at hg; omega) i j) (fun q hq => yl q (by simpa using hq)) (c15 ?_ ?_ ?_ ?_ ?_ ?_ ?_ ?_ ?_ ?_ ?_ ?_ ?_ ?_ ?_)
  all_goals first | exact fun y => absurd y (by decide) | skip
  · exact fun _ => gA
  · exact fun _ => GB_over hB hk q1 (fun g hg i j => o g (by omega) (by omega) (by omega) (by omega) (by omega) (by omega) i j) y14 y28
  · refine fun _ => G4_eq h4 (fun j _ => o 34 (by decide) (by decide) (by decide) (by decide) (by decide) (by decide) j 0) (o 55 (by decide) (by decide) (by decide) (by decide) (by decide) (by decide) 0 0) (o 53 (by decide) (by decide) (by decide) (by decide) (by decide) (by decide) 0 0) (fun s _ => o 71 (by decide) (by decide) (by decide) (by decide) (by decide) (by decide) s 0) (fun s _ => o 13 (by decide) (by decide) (by decide) (by decide) (by decide) (by decide) s 0) (fun j hj x0 x1 x2 => ?_)
    have hjk : ¬ j = k := fun c => by
      subst c
      obtain ⟨l1, l2, -⟩ := h4.1 j hj
      rw [l1] at hlines
      exact nI_nle x0 (by omega) hlines
    rw [y14, if_neg hjk, o 27 (by decide) (by decide) (by decide) (by decide) (by decide) (by decide)]
    exact ⟨x1, x2⟩
  · exact fun _ => G5_14 (k := k) (x := 3) h5 hk n30 (fun g hg i j => o g (by omega) (by omega) (by omega) (by omega) (by omega) (by omega) i j) y14
  · exact fun _ => G8_eq h8 (o 2 (by decide) (by decide) (by decide) (by decide) (by decide) (by decide) 0 0) (Or.inr y7)
  · refine fun _ => GS_eq hS (Nat.le_refl _) (fun g hg i j => o g (by omega) (by omega) (by omega) (by omega) (by omega) (by omega) i j) (fun j _ y => ?_)
    rw [y14] at y
    by_cases x : j = k
    · rw [x, q1]; decide
    · rw [if_neg x] at y; exact y
  · refine fun _ => GPa_eq hP (Nat.le_refl _) (fun g hg i j => o g (by omega) (by omega) (by omega) (by omega) (by omega) (by omega) i j) (fun j _ y => ?_) (by rw [o 55 (by decide) (by decide) (by decide) (by decide) (by decide) (by decide), o 71 (by decide) (by decide) (by decide) (by decide) (by decide) (by decide)]; exact Nat.le_add_right _ _)
    rw [y14] at y
    by_cases x : j = k
    · rw [if_pos x] at y; exact absurd y n30
    · rw [if_neg x] at y; exact y
  · exact fun _ => gF
  · refine fun _ => GN_comp (k := k) hN (fun j _ _ => o 18 (by decide) (by decide) (by decide) (by decide) (by decide) (by decide) j 0) (fun j _ _ => o 20 (by decide) (by decide) (by decide) (by decide) (by decide) (by decide) j 0) ew (fun f hf y => ?_) (fun y => q3 ((ea k).mp y)) (fun j s _ _ _ y w => ⟨(ea j).mp y, by rw [← e 29 (by decide) j 0]; exact w⟩) (adn_14 y14 (Or.inl (by decide)) 6)
    rw [y42 43 (by decide) f hf] at y
    by_cases w : av a 39 f 0 = nI k
    · rw [if_pos w] at y; exact absurd rfl y
    · rw [if_neg w] at y
      exact ⟨y, w, fun j s v => ⟨by rw [y39 f hf, if_neg w]; exact v.1, by rw [e 40 (by decide)]; exact v.2⟩⟩
