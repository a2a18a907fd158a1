/-! the whole invariant: a frame is taken -/
theorem GI_take {n c f k : Nat} {t : List Nat} {a : AS} (h : GI n c a) (hn : n ≤ 12) (hm : 6 ∈ al a 0) (h12 : av a 12 0 0 = 0) (hf : f < n) (hl : al a 1 = k :: t) : GI n c (z_p 1 (z_take f k t a)) := by
  have hA : GA a := h 0 (by decide)
  have h1 : G1 a := h 1 (by decide)
  have h3 : G3 a := h 2 (by decide)
  have hB : GB a := h 3 (by decide)
  have h2 : G2 a := h 4 (by decide)
  have h4 : G4 a := h 5 (by decide)
  have h5 : G5 a := h 6 (by decide)
  have h6 : G6 a := h 7 (by decide)
  have h8 : G8 a := h 8 (by decide)
  have hS : GS c a := h 10 (by decide)
  have hP : GPa c a := h 11 (by decide)
  have hX : GX a := h 12 (by decide)
  have hF : GF n a := h 13 (by decide)
  have hN : GN n a := h 14 (by decide)
  have hs := hA.2.2.2.1.1.mp hm
  have h45 : av a 45 0 0 = 0 := Classical.byContradiction fun y => by
    have := h1.2.2.2.2.2.2.2.1.mp y
    rw [hs.2] at this
    exact absurd this (by decide)
  have hk : k < 6 := (h1.2.1 k (by rw [hl]; exact List.mem_cons_self)).1
  have g1 : G1 (z_p 1 (z_take f k t a)) := G1_take h1 hA hm h12 hl
  have z : ∀ g, g ≠ 12 → g ≠ 45 → g ≠ 39 → g ≠ 42 → g ≠ 43 → g ≠ 46 → g ≠ 47 → g ≠ 49 → g ≠ 50 → g ≠ 51 → ∀ i j, av (z_take f k t a) g i j = av a g i j := by
    intro g x1 x2 x3 x4 x5 x6 x7 x8 x9 x10 i j
    unfold z_take z_begin z_vacate
    split
    · simp [av_sv, av_sl, *]
    · simp [av_sv, av_sl, *]
  have z47 : av (z_take f k t a) 47 0 0 = nI k := by
    unfold z_take z_begin z_vacate
    split
    · simp [av_sv]
    · simp [av_sv]
  have z46 : av (z_take f k t a) 46 0 0 = nI f := by
    unfold z_take z_begin z_vacate
    split
    · simp [av_sv]
    · simp [av_sv]
  have z39 : ∀ g, av (z_take f k t a) 39 g 0 = if g = f then -2 else av a 39 g 0 := fun g => by
    unfold z_take z_begin z_vacate
    split
    · rw [av_o (by decide), av_o (by decide), sv_k]
      by_cases e : g = f
      · rw [if_pos e, if_pos e]
      · rw [if_neg e, if_neg e]; simp [av_sv, av_sl, e]
    · rw [av_o (by decide), av_o (by decide), sv_k]
      by_cases e : g = f
      · rw [if_pos e, if_pos e]
      · rw [if_neg e, if_neg e]; simp [av_sv, av_sl, e]
  have z42 : ∀ g, g ≠ f → av (z_take f k t a) 42 g 0 = av a 42 g 0 := fun g e => by
    unfold z_take z_begin z_vacate
    split
    · simp [av_sv, av_sl, e]
    · simp [av_sv, av_sl, e]
  have z43 : ∀ g, av (z_take f k t a) 43 g 0 = if g = f then 0 else av a 43 g 0 := fun g => by
    unfold z_take z_begin z_vacate
    split
    · by_cases e : g = f
      · rw [if_pos e]; simp [av_sv, av_sl, e]
      · rw [if_neg e]; simp [av_sv, av_sl, e]
    · by_cases e : g = f
      · rw [if_pos e]; simp [av_sv, av_sl, e]
      · rw [if_neg e]; simp [av_sv, av_sl, e]
  have zl : ∀ q, al (z_take f k t a) q = if q = 1 then t else al a q := fun q => by
    unfold z_take z_begin z_vacate
    split
    · show al (sl 1 t a) q = _
      rw [al_sl]
    · show al (sl 1 t a) q = _
      rw [al_sl]
  have zd : ∃ d : Int32, (d = 1 ∨ d = 2) ∧ av (z_take f k t a) 12 0 0 = d ∧ av (z_take f k t a) 45 0 0 = d ∧ (d = 1 → ∃ j s, j < 6 ∧ s < 8 ∧ ow a f j s ∧ av (z_take f k t a) 49 0 0 = nI j ∧ av (z_take f k t a) 50 0 0 = nI s ∧ av (z_take f k t a) 51 0 0 = av a 23 j 0) ∧ (d = 2 → (av a 39 f 0 < 0 ∨ av a 42 f 0 = 0) ∧ av (z_take f k t a) 51 0 0 = av a 51 0 0) := by
    unfold z_take
    split
    · rename_i cc
      refine ⟨2, Or.inr rfl, by unfold z_begin; rw [av_s], by unfold z_begin; rw [av_o (by decide), av_s], fun y => absurd y (by decide), fun _ => ⟨cc, ?_⟩⟩
      unfold z_begin z_vacate
      simp [av_sv, av_sl]
    · rename_i cc
      rw [not_or] at cc
      refine ⟨1, Or.inl rfl, by unfold z_begin; rw [av_s], by unfold z_begin; rw [av_o (by decide), av_s], fun _ => ?_, fun y => absurd y (by decide)⟩
      rcases hF.1 f hf with w | w | ⟨j, s, w1, w2, w3, w4⟩
      · exact absurd (by rw [w]; decide) cc.1
      · exact absurd h12 w.2.1
      · refine ⟨j, s, w1, w2, w3, ?_, ?_, ?_⟩
        · unfold z_begin z_vacate
          simp [av_sv, av_sl, w3.1]
        · unfold z_begin z_vacate
          simp [av_sv, av_sl, w3.2]
        · unfold z_begin z_vacate
          rw [w3.1, nI_clamp (by omega)]
          simp [av_sv, av_sl]
  obtain ⟨d, d1, d2, d3, d4, d5⟩ := zd
  have hd0 : ¬ d = 0 := by rcases d1 with rfl | rfl <;> decide
  have gA : GA (z_p 1 (z_take f k t a)) := by
    refine GA_p (GA_eq hA (fun g hg i j => z g (by omega) (by omega) (by omega) (by omega) (by omega) (by omega) (by omega) (by omega) (by omega) (by omega) i j) (by rw [zl]; rfl)) (by decide) ?_
    rw [zl]; exact hm
  have y7 : av (z_p 1 (z_take f k t a)) 7 0 0 = av a 7 0 0 ∨ av (z_p 1 (z_take f k t a)) 7 0 0 = 0 := by
    have := p7 (s := 1) (a := z_take f k t a)
    rw [z 7 (by decide) (by decide) (by decide) (by decide) (by decide) (by decide) (by decide) (by decide) (by decide) (by decide)] at this
    exact this
  generalize hY : z_p 1 (z_take f k t a) = Y at g1 gA y7 ⊢
  have p : ∀ g, g ≠ 7 → g ≠ 10 → g ≠ 13 → g ≠ 71 → ∀ i j, av Y g i j = av (z_take f k t a) g i j := fun g x1 x2 x3 x4 i j => by rw [← hY, vo_p x3 x2 x4 x1]
  have o : ∀ g, g ∉ [7, 10, 12, 13, 39, 42, 43, 45, 46, 47, 49, 50, 51, 71] → ∀ i j, av Y g i j = av a g i j := fun g hg i j => by simp at hg; rw [p g (by omega) (by omega) (by omega) (by omega), z g (by omega) (by omega) (by omega) (by omega) (by omega) (by omega) (by omega) (by omega) (by omega) (by omega)]
  have y71 : ∀ i, i ≠ 1 → av Y 71 i 0 = av a 71 i 0 := fun i hi => by rw [← hY, p71, if_neg (fun y => hi y.2), z 71 (by decide) (by decide) (by decide) (by decide) (by decide) (by decide) (by decide) (by decide) (by decide) (by decide)]
  have y13 : ∀ i, i ≠ 1 → av Y 13 i 0 = av a 13 i 0 := fun i hi => by rw [← hY, p13, if_neg (fun y => hi y.2), z 13 (by decide) (by decide) (by decide) (by decide) (by decide) (by decide) (by decide) (by decide) (by decide) (by decide)]
  have e10 : ∀ y : Int32, ¬ y = 0 → ∀ j, j < 6 → av a 10 j 0 = y → av Y 10 j 0 = y := fun y hy j hj e => by
    rw [← hY, p10 (by decide) hj, z 10 (by decide) (by decide) (by decide) (by decide) (by decide) (by decide) (by decide) (by decide) (by decide) (by decide)]
    exact e
  have yl : ∀ q, q ∉ [0, 1] → al Y q = al a q := fun q hq => by simp at hq; rw [← hY, lo_p hq.1, zl q, if_neg hq.2]
  have yl1 : al Y 1 = t := by rw [← hY, lo_p (by decide), zl, if_pos rfl]
  have y12 : av Y 12 0 0 = d := by rw [p 12 (by decide) (by decide) (by decide) (by decide), d2]
  have y45 : av Y 45 0 0 = d := by rw [p 45 (by decide) (by decide) (by decide) (by decide), d3]
  have y46 : av Y 46 0 0 = nI f := by rw [p 46 (by decide) (by decide) (by decide) (by decide), z46]
  have y47 : av Y 47 0 0 = nI k := by rw [p 47 (by decide) (by decide) (by decide) (by decide), z47]
  have y39 : ∀ g, av Y 39 g 0 = if g = f then -2 else av a 39 g 0 := fun g => by rw [p 39 (by decide) (by decide) (by decide) (by decide), z39]
  have y42 : ∀ g, g ≠ f → av Y 42 g 0 = av a 42 g 0 := fun g e => by rw [p 42 (by decide) (by decide) (by decide) (by decide), z42 g e]
  have y43 : ∀ g, av Y 43 g 0 = if g = f then 0 else av a 43 g 0 := fun g => by rw [p 43 (by decide) (by decide) (by decide) (by decide), z43]
  have yd : d = 1 → ∃ j s, j < 6 ∧ s < 8 ∧ ow a f j s ∧ av Y 49 0 0 = nI j ∧ av Y 50 0 0 = nI s ∧ av Y 51 0 0 = av a 23 j 0 := fun e => by
    rw [p 49 (by decide) (by decide) (by decide) (by decide), p 50 (by decide) (by decide) (by decide) (by decide), p 51 (by decide) (by decide) (by decide) (by decide)]
    exact d4 e
  have gF : GF n Y := GF_take hF hn h12 hf hk hl hd0 (fun q hq i j => o q (by simp; omega) i j) yl1 y12 y45 y46 y47 y39 y42 (fun e => by
    obtain ⟨j, s, x1, x2, x3, x4, x5, x6⟩ := yd e
    exact ⟨j, s, x1, x2, x3, x4, x5⟩)
  have ew := wd_take hF gF hn h45 hf d1 (fun q hq i j => o q (by simp; omega) i j) y45 y46 y39 yd (fun e => (d5 e).1)
  have gS : GS c Y := by
    rcases d1 with e | e
    · obtain ⟨j, s, x1, x2, x3, x4, x5, x6⟩ := yd e
      exact GS_take hS x1 (fun q hq i j => o q (by simp; omega) i j) x6
    · obtain ⟨S, s1, s2, s3, s4, s5⟩ := hS
      refine ⟨S, by rw [o 25 (by decide)]; exact s1, s2, fun j hj => ?_, by rw [p 51 (by decide) (by decide) (by decide) (by decide), (d5 e).2]; exact s4, fun i j hi hj hij y => ?_⟩
      · rw [o 23 (by decide), o 14 (by decide)]; exact s3 j hj
      · rw [o 14 (by decide)] at y
        rw [o 23 (by decide), o 23 (by decide)]
        exact s5 i j hi hj hij y
  have gN : GN n Y := by
    refine GN_keep hN (fun j _ => o 18 (by decide) j 0) (fun j _ => o 20 (by decide) j 0) ew (fun g hg y => ?_) (fun j u hj hu y w => ?_) ?_
    · rw [y43] at y
      by_cases e : g = f
      · rw [if_pos e] at y; exact absurd rfl y
      · rw [if_neg e] at y
        exact ⟨y, fun j s v => ⟨by rw [y39, if_neg e]; exact v.1, by rw [o 40 (by decide)]; exact v.2⟩⟩
    · rw [o 29 (by decide)] at w
      refine hN.2.1 j hj (Or.inl ?_) u hu w
      rcases y with y | y
      · rw [yl1] at y; rw [hl]; exact List.mem_cons_of_mem _ y
      · have e : k = j := nI_inj (by omega) (by omega) (by rw [← y47, y.2])
        rw [hl, e]; exact List.mem_cons_self
    · rw [adn_eq (fun j => o 14 (by decide) j 0)]
      exact Nat.le_refl _
  refine GI_step h [7, 10, 12, 13, 39, 42, 43, 45, 46, 47, 49, 50, 51, 71] [0, 1] o yl (c15 ?_ ?_ ?_ ?_ ?_ ?_ ?_ ?_ ?_ ?_ ?_ ?_ ?_ ?_ ?_)
  all_goals first | exact fun y => absurd y (by decide) | skip
  · exact fun _ => gA
  · exact fun _ => g1
  · exact fun _ => G3_eq h3 (o 54 (by decide) 0 0) (o 52 (by decide) 0 0) (fun s hs => y71 s (by omega)) (fun s hs => y13 s (by omega)) (yl 3 (by decide)) (e10 2 (by decide))
  · exact fun _ => G2_eq h2 (yl 2 (by decide)) (fun j hj y => e10 6 (by decide) j (h2.2 j hj).1 y) (fun j hj => o 29 (by decide) j 0) (fun j _ r _ => o 27 (by decide) j r) (fun j _ r _ => o 26 (by decide) j r)
  · exact fun _ => G4_eq h4 (fun j _ => o 34 (by decide) j 0) (o 55 (by decide) 0 0) (o 53 (by decide) 0 0) (fun s hs => y71 s (by omega)) (fun s hs => y13 s (by omega)) (fun j _ _ x1 x2 => by rw [o 14 (by decide), o 27 (by decide)]; exact ⟨x1, x2⟩)
  · exact fun _ => G8_eq h8 (o 2 (by decide) 0 0) y7
  · exact fun _ => gS
  · exact fun _ => GPa_eq hP (Nat.le_refl _) (fun g hg i j => o g (by simp; omega) i j) (fun j _ y => by rw [← o 14 (by decide) j 0]; exact y) (by rw [o 55 (by decide), y71 5 (by decide)]; exact Nat.le_add_right _ _)
  · exact fun _ => GX_eq hX (fun g hg i j => o g (by simp; omega) i j) (y13 6 (by decide)) (y71 6 (by decide))
  · exact fun _ => gF
  · exact fun _ => gN
theorem GI_segs {n c : Nat} {a : AS} (h : GI n c a) (hn : n ≤ 12) (hm : 6 ∈ al a 0) : GI n c (z_segs n a) := by
  have hA : GA a := h 0 (by decide)
  have h1 : G1 a := h 1 (by decide)
  have hF : GF n a := h 13 (by decide)
  unfold z_segs
  split
  · rename_i e
    exact GI_begin h hn hm e
  · split
    · rename_i e
      have n120 : ¬ av a 12 0 0 = 0 := by rw [e]; decide
      obtain ⟨k, k1, k2, k3, k4⟩ := h1.2.2.2.1 n120
      obtain ⟨f, f1, f2, f3⟩ := hF.2.2.2.1 n120
      rw [f2, k2, show (nI f).toNatClampNeg = f from nI_clamp (by omega), show (nI k).toNatClampNeg = k from nI_clamp (by omega)]
      exact GI_bring h hn hm e f1 k1 f2 k2
    · rename_i e1 e2
      have h12 : av a 12 0 0 = 0 := (h1.2.2.1.resolve_right (fun y => y.elim e1 e2))
      split
      · rename_i f k t hc hl
        refine GI_take h hn hm h12 ?_ hl
        unfold z_choose at hc
        split at hc
        · rename_i g e
          injection hc with hc
          subst hc
          exact List.mem_range.mp (List.mem_of_find?_eq_some e)
        · exact best_lt hc
      · exact h
