/-! the whole invariant: what is given back, what those who wait get -/
theorem GI_wait {n c k r : Nat} {a : AS} (h : GI n c a) (hk : k < 6) (hm : k ∈ al a 0) (hr : r < 3) (hlt : av a 27 k r < av a 26 k r) : GI n c (z_susp k 6 (sl 2 (al a 2 ++ [k]) (sv 29 k 0 (nI r) a))) := by
  obtain ⟨q1, q2, q3, q4, q5⟩ := run_of h hk hm
  have hA : GA a := h 0 (by decide)
  have h1 : G1 a := h 1 (by decide)
  have h2 : G2 a := h 4 (by decide)
  have h3 : G3 a := h 2 (by decide)
  have h8 : G8 a := h 8 (by decide)
  have hB : GB a := h 3 (by decide)
  have hF : GF n a := h 13 (by decide)
  have hN : GN n a := h 14 (by decide)
  have g2 := G2_wait h2 hB hk hr q2 hlt
  generalize hY : z_susp k 6 (sl 2 (al a 2 ++ [k]) (sv 29 k 0 (nI r) a)) = Y at g2 ⊢
  generalize hZ : sl 2 (al a 2 ++ [k]) (sv 29 k 0 (nI r) a) = Z at hY
  have z : ∀ g, g ≠ 29 → ∀ i j, av Z g i j = av a g i j := fun g x i j => by rw [← hZ, av_sl, av_o x]
  have zl : ∀ q, q ≠ 2 → al Z q = al a q := fun q hq => by rw [← hZ, al_sl, if_neg hq]; rfl
  have o : ∀ g, g ≠ 7 → g ≠ 10 → g ≠ 29 → ∀ i j, av Y g i j = av a g i j := fun g x1 x2 x4 i j => by rw [← hY, vo_susp x2 x1, z g x4]
  have y29 : ∀ j, j ≠ k → av Y 29 j 0 = av a 29 j 0 := fun j hj => by rw [← hY, vo_susp (by decide) (by decide), ← hZ, av_sl, sv_k, if_neg hj]
  have yl : ∀ q, q ≠ 0 → q ≠ 2 → al Y q = al a q := fun q x1 x2 => by rw [← hY, lo_susp x1, zl q x2]
  have y7 : av Y 7 0 0 = 0 := by rw [← hY, susp7]
  have e10 : ∀ y : Int32, ¬ y = 0 → ∀ j, j < 6 → av a 10 j 0 = y → av Y 10 j 0 = y := fun y hy j hj e => by
    rw [← hY, s10, if_neg, z 10 (by decide)]
    · exact e
    · rintro rfl
      rw [q2] at e
      exact hy e.symm
  have gA : GA Y := by
    rw [← hY]
    refine GA_susp (GA_eq hA (fun g hg i j => z g (by omega) i j) (zl 0 (by decide))) hk ?_ (by decide)
    rw [zl 0 (by decide)]; exact hm
  have oF : ∀ g, fF g → ∀ i j, av Y g i j = av a g i j := fun g hg => by unfold fF at hg; exact o g (by omega) (by omega) (by omega)
  have ea := AK_eq (oF 12 (by unfold fF; decide) 0 0) (oF 47 (by unfold fF; decide) 0 0) (yl 1 (by decide) (by decide))
  refine GI_step h [7, 10, 29] [0, 2] (fun g hg i j => o g (by simp at hg; omega) (by simp at hg; omega) (by simp at hg; omega) i j) (fun q hq => yl q (by simp at hq; omega) (by simp at hq; omega)) (c15 ?_ ?_ ?_ ?_ ?_ ?_ ?_ ?_ ?_ ?_ ?_ ?_ ?_ ?_ ?_)
  all_goals first | exact fun y => absurd y (by decide) | skip
  · exact fun _ => gA
  · exact fun _ => G1_eq h1 (o 12 (by decide) (by decide) (by decide) 0 0) (o 47 (by decide) (by decide) (by decide) 0 0) (o 45 (by decide) (by decide) (by decide) 0 0) (fun s hs => o 71 (by decide) (by decide) (by decide) s 0) (fun s hs => o 13 (by decide) (by decide) (by decide) s 0) (yl 1 (by decide) (by decide)) (e10 1 (by decide))
  · exact fun _ => G3_eq h3 (o 54 (by decide) (by decide) (by decide) 0 0) (o 52 (by decide) (by decide) (by decide) 0 0) (fun s hs => o 71 (by decide) (by decide) (by decide) s 0) (fun s hs => o 13 (by decide) (by decide) (by decide) s 0) (yl 3 (by decide) (by decide)) (e10 2 (by decide))
  · exact fun _ => g2
  · exact fun _ => G8_eq h8 (o 2 (by decide) (by decide) (by decide) 0 0) (Or.inr y7)
  · exact fun _ => GF_eq hF oF (yl 1 (by decide) (by decide)) (fun j _ y => y29 j (fun (e : j = k) => q3 (e ▸ y)))
  · refine fun _ => GN_keep hN (fun j _ => o 18 (by decide) (by decide) (by decide) j 0) (fun j _ => o 20 (by decide) (by decide) (by decide) j 0) (fun j s i _ _ _ => wd_eq oF) (fun f hf y => ?_) (fun j t hj ht y w => ?_) ?_
    · rw [o 43 (by decide) (by decide) (by decide)] at y
      exact ⟨y, fun j s w => (ow_eq (oF 39 (by unfold fF; decide)) (oF 40 (by unfold fF; decide)) f j s).mpr w⟩
    · have y := (ea j).mp y
      rw [y29 j (fun (e : j = k) => q3 (e ▸ y))] at w
      exact hN.2.1 j hj y t ht w
    · rw [adn_eq (fun j => oF 14 (by unfold fF; decide) j 0)]
      exact Nat.le_refl _
theorem GI_back {n c k r : Nat} {a : AS} (h : GI n c a) (hk : k < 6) (hr : r < 3) (h14 : av a 14 k 0 = 2) (hl : k ∉ al a 2) (hf : 0 < av a 27 k r) (hlines : r ≠ 0 → av a 34 k 0 ≤ 0) : GI n c (z_move k r (-1) a) := by
  have h2 : G2 a := h 4 (by decide)
  have h4 : G4 a := h 5 (by decide)
  have hB : GB a := h 3 (by decide)
  have o : ∀ g, g ≠ 27 → g ≠ 28 → ∀ i j, av (z_move k r (-1) a) g i j = av a g i j := fun g x1 x2 i j => vo_move x1 x2
  have o27 : ∀ j q, (j ≠ k ∨ q ≠ r) → av (z_move k r (-1) a) 27 j q = av a 27 j q := fun j q hj => by unfold z_move; rw [av_sv, if_neg (fun y => hj.elim (fun e => e y.2.1) (fun e => e y.2.2)), av_o (by decide)]
  have gB : GB (z_move k r (-1) a) := GB_out hB hk hr h14 hf (fun g _ i j => rfl)
  refine GI_step h [27, 28] [] (fun g hg i j => o g (by simp at hg; omega) (by simp at hg; omega) i j) (fun q _ => rfl) (c15 ?_ ?_ ?_ ?_ ?_ ?_ ?_ ?_ ?_ ?_ ?_ ?_ ?_ ?_ ?_)
  all_goals first | exact fun y => absurd y (by decide) | skip
  · exact fun _ => gB
  · exact fun _ => G2_eq h2 rfl (fun j hj y => by rw [o 10 (by decide) (by decide)]; exact y) (fun j hj => o 29 (by decide) (by decide) j 0) (fun j hj q _ => o27 j q (Or.inl (fun (e : j = k) => hl (e ▸ hj)))) (fun j _ q _ => o 26 (by decide) (by decide) j q)
  · refine fun _ => G4_eq h4 (fun j _ => o 34 (by decide) (by decide) j 0) (o 55 (by decide) (by decide) 0 0) (o 53 (by decide) (by decide) 0 0) (fun s _ => o 71 (by decide) (by decide) s 0) (fun s _ => o 13 (by decide) (by decide) s 0) (fun j hj x0 x1 x2 => ⟨by rw [o 14 (by decide) (by decide)]; exact x1, ?_⟩)
    by_cases e : j = k
    · subst e
      by_cases e2 : r = 0
      · rw [o27 j 1 (Or.inr (by omega))]; exact x2
      · exfalso
        obtain ⟨l1, l2, -⟩ := h4.1 j hj
        have := hlines e2
        rw [l1] at this
        exact nI_nle x0 (by omega) this
    · rw [o27 j 1 (Or.inl e)]; exact x2
theorem GI_store {n c k s g i : Nat} {x v : Int32} {a : AS} (h : GI n c a) (hn : n ≤ 12) (hk : k < 6) (hm : k ∈ al a 0) (hg : g < n) (ho : ow a g k s) : GI n c (z_comp n k x (sv 42 g 0 1 (sv 38 g i v a))) := by
  obtain ⟨q1, q2, q3, q4, q5⟩ := run_of h hk hm
  have h1 : G1 a := h 1 (by decide)
  have hF : GF n a := h 13 (by decide)
  have hN : GN n a := h 14 (by decide)
  have n01 : ¬ (1 : Int32) = 0 := by decide
  have h45 : av a 45 0 0 = 1 → ¬ av a 12 0 0 = 0 := fun y => by rw [h1.2.2.2.2.2.2.2.2.1 (by rw [y]; exact n01), y]; exact n01
  generalize hY : z_comp n k x (sv 42 g 0 1 (sv 38 g i v a)) = Y
  have o : ∀ q, q ≠ 17 → q ≠ 18 → q ≠ 38 → q ≠ 42 → q ≠ 43 → ∀ i j, av Y q i j = av a q i j := fun q x1 x2 x3 x4 x5 i j => by rw [← hY, vo_comp x5 x2 x1, av_o x4, av_o x3]
  have yl : ∀ q, al Y q = al a q := fun q => by rw [← hY]; rfl
  have e42 : ∀ f, av Y 42 f 0 = if f = g then 1 else av a 42 f 0 := fun f => by rw [← hY, vo_comp (by decide) (by decide) (by decide), sv_k, av_o (by decide)]
  have e38 : ∀ f j, av Y 38 f j = if f = g ∧ j = i then v else av a 38 f j := fun f j => by
    rw [← hY, vo_comp (by decide) (by decide) (by decide), av_o (by decide), av_sv]
    by_cases e : f = g ∧ j = i
    · rw [if_pos ⟨rfl, e.1, e.2⟩, if_pos e]
    · rw [if_neg (fun y => e y.2), if_neg e]
  have e : ∀ q, q = 12 ∨ q = 14 ∨ q = 23 ∨ q = 29 ∨ q = 37 ∨ q = 39 ∨ q = 40 ∨ q = 45 ∨ q = 46 ∨ q = 47 ∨ q = 49 ∨ q = 50 ∨ q = 51 → ∀ i j, av Y q i j = av a q i j := fun q hq => o q (by omega) (by omega) (by omega) (by omega) (by omega)
  have gF : GF n Y := GF_store hF hn hk hg ho e (yl 1) e42 e38
  have ew := wd_store hF gF hn h45 hk ho e e38
  have ea := AK_eq (e 12 (by decide) 0 0) (e 47 (by decide) 0 0) (yl 1)
  refine GI_step h [17, 18, 38, 42, 43] [] (fun q hq i j => o q (by simp at hq; omega) (by simp at hq; omega) (by simp at hq; omega) (by simp at hq; omega) (by simp at hq; omega) i j) (fun q _ => yl q) (c15 ?_ ?_ ?_ ?_ ?_ ?_ ?_ ?_ ?_ ?_ ?_ ?_ ?_ ?_ ?_)
  all_goals first | exact fun y => absurd y (by decide) | skip
  · exact fun _ => gF
  · refine fun _ => GN_comp (k := k) hN (fun j _ hj => ?_) (fun j _ _ => o 20 (by decide) (by decide) (by decide) (by decide) (by decide) j 0) ew (fun f hf y => ?_) (fun y => q3 ((ea k).mp y)) (fun j s _ _ _ y w => ⟨(ea j).mp y, by rw [← e 29 (by decide) j 0]; exact w⟩) ?_
    · rw [← hY, av_comp, if_neg (by simp), if_neg (fun y => hj y.2.1), if_neg (by simp), av_o (by decide), av_o (by decide)]
    · rw [← hY, av_comp, av_o (show 39 ≠ 42 by decide), av_o (show 39 ≠ 38 by decide)] at y
      by_cases w : av a 39 f 0 = nI k
      · rw [if_pos ⟨rfl, rfl, hf, w⟩] at y; exact absurd rfl y
      · rw [if_neg (fun v => w v.2.2.2), if_neg (by simp), if_neg (by simp), av_o (by decide), av_o (by decide)] at y
        exact ⟨y, w, fun j s v => (ow_eq (e 39 (by decide)) (e 40 (by decide)) f j s).mpr v⟩
    · rw [adn_eq (fun j => e 14 (by decide) j 0)]
      exact Nat.le_refl _
