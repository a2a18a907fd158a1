/-! the whole invariant: the step of process 9, whole -/
theorem av_pop (a : AS) (g b c : Nat) : av (z_pop a) g b c = if g = 68 ∧ b = 0 ∧ c = 0 then av a 68 0 0 - 1 else if g = 65 ∧ c = 0 ∧ b + 1 < nv a 68 0 0 then av a 65 (b + 1) 0 else if g = 64 ∧ b + 1 < nv a 68 0 0 ∧ c < 20 then av a 64 (b + 1) c else av a g b c := by
  unfold z_pop
  rw [av_sv]
  rfl
theorem GI_pop {n c : Nat} {a : AS} (h : GI n c a) (hm : 9 ∈ al a 0) : GI n c (z_p 6 (z_pop a)) := by
  have hA : GA a := h 0 (by decide)
  have h1 : G1 a := h 1 (by decide)
  have h3 : G3 a := h 2 (by decide)
  have hB : GB a := h 3 (by decide)
  have h2 : G2 a := h 4 (by decide)
  have h4 : G4 a := h 5 (by decide)
  have h5 : G5 a := h 6 (by decide)
  have h6 : G6 a := h 7 (by decide)
  have h8 : G8 a := h 8 (by decide)
  have hS : GS c a := h 10 (by decide)
  have hP : GPa c a := h 11 (by decide)
  have hX : GX a := h 12 (by decide)
  have hF : GF n a := h 13 (by decide)
  have hN : GN n a := h 14 (by decide)
  have hs := hA.2.2.2.1.2.2.2.mp hm
  obtain ⟨-, m, -, m8, -, hm68, -⟩ := id hX
  have nm : nv a 68 0 0 = m := nvI hm68 (by omega)
  have z : ∀ g, g ≠ 64 → g ≠ 65 → g ≠ 68 → ∀ i j, av (z_pop a) g i j = av a g i j := fun g x1 x2 x3 i j => by
    rw [av_pop, if_neg (fun y => x3 y.1), if_neg (fun y => x2 y.1), if_neg (fun y => x1 y.1)]
  have gA : GA (z_p 6 (z_pop a)) := GA_p (GA_eq hA (fun g hg i j => z g (by omega) (by omega) (by omega) i j) rfl) (by decide) hm
  have y7 : av (z_p 6 (z_pop a)) 7 0 0 = av a 7 0 0 ∨ av (z_p 6 (z_pop a)) 7 0 0 = 0 := by
    have := p7 (s := 6) (a := z_pop a)
    rw [z 7 (by decide) (by decide) (by decide)] at this
    exact this
  generalize hY : z_p 6 (z_pop a) = Y at gA y7 ⊢
  have p : ∀ g, g ≠ 7 → g ≠ 10 → g ≠ 13 → g ≠ 71 → ∀ i j, av Y g i j = av (z_pop a) g i j := fun g x1 x2 x3 x4 i j => by rw [← hY, vo_p x3 x2 x4 x1]
  have o : ∀ g, g ∉ [7, 10, 13, 64, 65, 68, 71] → ∀ i j, av Y g i j = av a g i j := fun g hg i j => by simp at hg; rw [p g (by omega) (by omega) (by omega) (by omega), z g (by omega) (by omega) (by omega)]
  have y71 : ∀ i, i ≠ 6 → av Y 71 i 0 = av a 71 i 0 := fun i hi => by rw [← hY, p71, if_neg (fun y => hi y.2), z 71 (by decide) (by decide) (by decide)]
  have y13 : ∀ i, i ≠ 6 → av Y 13 i 0 = av a 13 i 0 := fun i hi => by rw [← hY, p13, if_neg (fun y => hi y.2), z 13 (by decide) (by decide) (by decide)]
  have e10 : ∀ y : Int32, ¬ y = 0 → ∀ j, j < 6 → av a 10 j 0 = y → av Y 10 j 0 = y := fun y _ j hj e => by rw [← hY, p10 (by decide) hj, z 10 (by decide) (by decide) (by decide)]; exact e
  have yl : ∀ q, q ∉ [0] → al Y q = al a q := fun q hq => by simp at hq; rw [← hY, lo_p hq]; rfl
  have w71 : av Y 71 6 0 = if av a 13 6 0 ≤ 0 then 1 else 0 := by
    rw [← hY, p71, z 13 (by decide) (by decide) (by decide), z 71 (by decide) (by decide) (by decide), hs]
    by_cases y : av a 13 6 0 ≤ 0
    · rw [if_pos ⟨y, rfl⟩, if_pos y]
    · rw [if_neg (fun v => y v.1), if_neg y]
  have w13 : av Y 13 6 0 = if av a 13 6 0 ≤ 0 then av a 13 6 0 else av a 13 6 0 - 1 := by
    rw [← hY, p13, z 13 (by decide) (by decide) (by decide)]
    by_cases y : av a 13 6 0 ≤ 0
    · rw [if_neg (fun v => v.1 y), if_pos y]
    · rw [if_pos ⟨y, rfl⟩, if_neg y]
  have gX : GX Y := by
    refine GX_pop hX hs hm68 m8 w13 w71 ?_ (fun g hg i j => o g (by simp; omega) i j) (fun r hr => ?_) (fun r i hr hi => ?_)
    · rw [p 68 (by decide) (by decide) (by decide) (by decide), av_pop, if_pos ⟨rfl, rfl, rfl⟩]
    · rw [p 65 (by decide) (by decide) (by decide) (by decide), av_pop, if_neg (by simp), if_pos ⟨rfl, rfl, by rw [nm]; exact hr⟩]
    · rw [p 64 (by decide) (by decide) (by decide) (by decide), av_pop, if_neg (by simp), if_neg (by simp), nm]
      by_cases w : r + 1 < m
      · rw [if_pos ⟨rfl, w, hi⟩, if_pos w]
      · rw [if_neg (fun v => w v.2.1), if_neg w]
  refine GI_step h [7, 10, 13, 64, 65, 68, 71] [0] o yl (c15 ?_ ?_ ?_ ?_ ?_ ?_ ?_ ?_ ?_ ?_ ?_ ?_ ?_ ?_ ?_)
  all_goals first | exact fun y => absurd y (by decide) | skip
  · exact fun _ => gA
  · exact fun _ => G1_eq h1 (o 12 (by decide) 0 0) (o 47 (by decide) 0 0) (o 45 (by decide) 0 0) (fun s hs => y71 s (by omega)) (fun s hs => y13 s (by omega)) (yl 1 (by decide)) (e10 1 (by decide))
  · exact fun _ => G3_eq h3 (o 54 (by decide) 0 0) (o 52 (by decide) 0 0) (fun s hs => y71 s (by omega)) (fun s hs => y13 s (by omega)) (yl 3 (by decide)) (e10 2 (by decide))
  · exact fun _ => G2_eq h2 (yl 2 (by decide)) (fun j hj y => e10 6 (by decide) j (h2.2 j hj).1 y) (fun j hj => o 29 (by decide) j 0) (fun j _ r _ => o 27 (by decide) j r) (fun j _ r _ => o 26 (by decide) j r)
  · exact fun _ => G4_eq h4 (fun j _ => o 34 (by decide) j 0) (o 55 (by decide) 0 0) (o 53 (by decide) 0 0) (fun s hs => y71 s (by omega)) (fun s hs => y13 s (by omega)) (fun j _ _ x1 x2 => by rw [o 14 (by decide), o 27 (by decide)]; exact ⟨x1, x2⟩)
  · exact fun _ => G8_eq h8 (o 2 (by decide) 0 0) y7
  · exact fun _ => GPa_eq hP (Nat.le_refl _) (fun g hg i j => o g (by simp; omega) i j) (fun j _ y => by rw [← o 14 (by decide) j 0]; exact y) (by rw [o 55 (by decide), y71 5 (by decide)]; exact Nat.le_add_right _ _)
  · exact fun _ => gX
theorem said71 {n : Nat} {a : AS} : av (z_said n a) 71 6 0 = av a 71 6 0 := by
  have e : av (z_obeys n a).2 71 6 0 = av a 71 6 0 := vo_obeys (by decide) (by decide) (by decide) (by decide) (by decide) (by decide) (by decide)
  unfold z_said
  split
  · rw [vo_say (by decide) (by decide), vo_say (by decide) (by decide), e]
  · exact e
theorem GI_cons {n c : Nat} {a : AS} (h : GI n c a) (hn : n ≤ 12) (hm : 9 ∈ al a 0) : GI n c (z_cons n a) := by
  have hA : GA a := h 0 (by decide)
  have h' := GI_said h hn
  have hA' : GA (z_said n a) := h' 0 (by decide)
  have hs := hA.2.2.2.1.2.2.2.mp hm
  exact GI_pop h' (hA'.2.2.2.1.2.2.2.mpr (by rw [said71]; exact hs))
/-- the step of any process -/
theorem GI_pstep {n c p : Nat} {a : AS} (h : GI n c a) (hn : n ≤ 12) (hc : c ≤ 512) (hm : p ∈ al a 0) : GI n c (z_step n p a) := by
  have hA : GA a := h 0 (by decide)
  have hp := hA.1.2 p hm
  unfold z_step
  split
  · rename_i e
    exact GI_job h hn e hm
  · split
    · rename_i e
      exact GI_segs h hn (e ▸ hm)
    · split
      · rename_i e
        exact GI_reading h (e ▸ hm)
      · split
        · rename_i e
          exact GI_printing h hc (e ▸ hm)
        · rename_i e1 e2 e3 e4
          exact GI_cons h hn ((show p = 9 by omega) ▸ hm)
