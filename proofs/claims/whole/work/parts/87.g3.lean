/-! THE INVARIANT, group 3: the row of cards, the reader -/
def G3 (a : AS) : Prop :=
  (al a 3).Nodup ∧ (∀ k ∈ al a 3, k < 6 ∧ av a 10 k 0 = 2) ∧
  (¬ av a 54 0 0 < 0 → ∃ k, k < 6 ∧ av a 54 0 0 = nI k ∧ av a 10 k 0 = 2 ∧ k ∉ al a 3) ∧
  (∃ c, av a 13 2 0 = nI c ∧ (al a 3).length = c + if av a 54 0 0 < 0 ∧ av a 71 2 0 = 0 then 1 else 0) ∧ av a 13 3 0 = 0 ∧
  (av a 52 0 0 = if av a 71 3 0 = 1 then 1 else 0) ∧ (av a 71 3 0 = 1 → ¬ av a 54 0 0 < 0) ∧ (av a 71 2 0 = 1 → av a 54 0 0 < 0)
theorem G3_eq {a b : AS} (h : G3 a) (e54 : av b 54 0 0 = av a 54 0 0) (e52 : av b 52 0 0 = av a 52 0 0) (e71 : ∀ s, s = 2 ∨ s = 3 → av b 71 s 0 = av a 71 s 0) (e13 : ∀ s, s = 2 ∨ s = 3 → av b 13 s 0 = av a 13 s 0) (el : al b 3 = al a 3) (e10 : ∀ k, k < 6 → av a 10 k 0 = 2 → av b 10 k 0 = 2) : G3 b := by
  obtain ⟨h1, h2, h3, h4, h5, h6, h7, h8⟩ := h
  unfold G3
  rw [e54, e52, e71 2 (by decide), e71 3 (by decide), e13 2 (by decide), e13 3 (by decide), el]
  refine ⟨h1, fun k hk => ⟨(h2 k hk).1, e10 k (h2 k hk).1 (h2 k hk).2⟩, fun y => ?_, h4, h5, h6, h7, h8⟩
  obtain ⟨k, q1, q2, q3, q4⟩ := h3 y
  exact ⟨k, q1, q2, e10 k q1 q3, q4⟩
theorem v71 {s : Nat} {a : AS} (i : Nat) : av (z_v s a) 71 i 0 = if i = s then 0 else av a 71 i 0 := by
  rw [av_v]
  by_cases c : av a 71 s 0 = 0
  · rw [if_pos c, if_neg (by simp)]
    by_cases e : i = s
    · rw [if_pos e, e, c]
    · rw [if_neg e]
  · rw [if_neg c, if_neg (by simp)]
    by_cases e : i = s
    · rw [if_pos ⟨rfl, e, rfl⟩, if_pos e]
    · rw [if_neg (by simp [e]), if_neg e]
theorem v13 {s : Nat} {a : AS} (i : Nat) : av (z_v s a) 13 i 0 = if av a 71 s 0 = 0 ∧ i = s then av a 13 s 0 + 1 else av a 13 i 0 := by
  rw [av_v]
  by_cases c : av a 71 s 0 = 0
  · rw [if_pos c]
    by_cases e : i = s
    · rw [if_pos ⟨rfl, e, rfl⟩, if_pos ⟨c, e⟩]
    · rw [if_neg (by simp [e]), if_neg (fun y => e y.2)]
  · rw [if_neg c, if_neg (by simp), if_neg (by simp), if_neg (fun y => c y.1)]
theorem v10 {s j : Nat} {a : AS} (hs : s < 7) (hj : j < 6) : av (z_v s a) 10 j 0 = av a 10 j 0 := by
  have := pr_cases hs
  rw [av_v]
  split
  · rw [if_neg (by simp)]
  · rw [if_neg (by omega), if_neg (by simp)]
theorem s10 {k : Nat} {c : Int32} {a : AS} (j : Nat) : av (z_susp k c a) 10 j 0 = if j = k then c else av a 10 j 0 := by
  rw [av_susp, if_neg (by simp)]
  by_cases e : j = k
  · rw [if_pos ⟨rfl, e, rfl⟩, if_pos e]
  · rw [if_neg (by simp [e]), if_neg e]
theorem w10 {k : Nat} {a : AS} (j : Nat) : av (z_wake k a) 10 j 0 = if j = k then 0 else av a 10 j 0 := by
  rw [av_wake]
  by_cases e : j = k
  · rw [if_pos ⟨rfl, e, rfl⟩, if_pos e]
  · rw [if_neg (by simp [e]), if_neg e]
theorem G3_read {k : Nat} {a : AS} (h : G3 a) (hA : GA a) (hk : k < 6) (hm : k ∈ al a 0) : G3 (z_v 2 (z_susp k 2 (sl 3 (al a 3 ++ [k]) a))) := by
  obtain ⟨h1, h2, h3, h4, h5, h6, h7, h8⟩ := h
  have h10k : av a 10 k 0 = 0 := ((hA.2.1 k hk).mp hm).2
  have n01 : ¬ (0 : Int32) = 1 := by decide
  have n02 : ¬ (0 : Int32) = 2 := by decide
  have hkl : k ∉ al a 3 := fun y => by
    have := (h2 k y).2
    rw [h10k] at this
    exact n02 this
  have z0 := hA.2.2.1.1 2 (by decide)
  obtain ⟨c, c1, c2⟩ := h4
  generalize hZ : z_susp k 2 (sl 3 (al a 3 ++ [k]) a) = Z
  have o : ∀ g, g ≠ 10 → g ≠ 7 → ∀ i j, av Z g i j = av a g i j := fun g x1 x2 i j => by rw [← hZ, vo_susp x1 x2, av_sl]
  have el : al Z 3 = al a 3 ++ [k] := by rw [← hZ, lo_susp (by decide), al_sl, if_pos rfl]
  have e10 : ∀ j, j < 6 → av (z_v 2 Z) 10 j 0 = if j = k then 2 else av a 10 j 0 := fun j hj => by
    rw [v10 (by decide) hj, ← hZ, s10]
    rfl
  have m10 : ∀ j, j < 6 → av a 10 j 0 = 2 → av (z_v 2 Z) 10 j 0 = 2 := fun j hj y => by
    rw [e10 j hj]
    split
    · rfl
    · exact y
  have v54 : av (z_v 2 Z) 54 0 0 = av a 54 0 0 := by rw [vo_v (by decide) (by decide) (by decide), o 54 (by decide) (by decide)]
  have v52 : av (z_v 2 Z) 52 0 0 = av a 52 0 0 := by rw [vo_v (by decide) (by decide) (by decide), o 52 (by decide) (by decide)]
  have v712 : av (z_v 2 Z) 71 2 0 = 0 := by rw [v71, if_pos rfl]
  have v713 : av (z_v 2 Z) 71 3 0 = av a 71 3 0 := by rw [v71, if_neg (by decide), o 71 (by decide) (by decide)]
  have v132 : av (z_v 2 Z) 13 2 0 = if av a 71 2 0 = 0 then nI (c + 1) else nI c := by
    rw [v13, o 71 (by decide) (by decide), o 13 (by decide) (by decide), c1]
    by_cases y : av a 71 2 0 = 0
    · rw [if_pos ⟨y, rfl⟩, if_pos y, nI_1]
    · rw [if_neg (fun z => y z.1), if_neg y]
  have v133 : av (z_v 2 Z) 13 3 0 = av a 13 3 0 := by rw [v13, if_neg (by simp), o 13 (by decide) (by decide)]
  have vl : al (z_v 2 Z) 3 = al a 3 ++ [k] := by rw [lo_v (by decide), el]
  unfold G3
  rw [v54, v52, v712, v713, v132, v133, vl]
  refine ⟨nd_app h1 hkl, fun j hj => ?_, fun y => ?_, ?_, h5, h6, h7, fun y => absurd y n01⟩
  · rcases List.mem_append.mp hj with hj | hj
    · exact ⟨(h2 j hj).1, m10 j (h2 j hj).1 (h2 j hj).2⟩
    · rw [List.mem_singleton] at hj
      subst hj
      exact ⟨hk, by rw [e10 j hk, if_pos rfl]⟩
  · obtain ⟨j, q1, q2, q3, q4⟩ := h3 y
    refine ⟨j, q1, q2, m10 j q1 q3, fun hj => ?_⟩
    rcases List.mem_append.mp hj with hj | hj
    · exact q4 hj
    · rw [List.mem_singleton] at hj
      subst hj
      rw [h10k] at q3
      exact n02 q3
  · rw [List.length_append, List.length_singleton, c2]
    by_cases y : av a 71 2 0 = 0
    · refine ⟨c + 1, by rw [if_pos y], ?_⟩
      simp only [y, and_true]
      by_cases z : av a 54 0 0 < 0
      · simp only [z, if_true]
      · simp only [z, if_false]
        try omega
    · have z : av a 54 0 0 < 0 := h8 (z0.resolve_left y)
      refine ⟨c, by rw [if_neg y], ?_⟩
      simp only [z, y, and_false, if_false, true_and, if_true]
      try omega
theorem G3_take {k : Nat} {t : List Nat} {a : AS} (h : G3 a) (hA : GA a) (h7' : 7 ∈ al a 0) (h54 : av a 54 0 0 < 0) (hl : al a 3 = k :: t) : G3 (z_p 3 (z_take1 k t a)) := by
  obtain ⟨h1, h2, h3, h4, h5, h6, h7, h8⟩ := h
  obtain ⟨c, c1, c2⟩ := h4
  have n01 : ¬ (0 : Int32) = 1 := by decide
  have hs := hA.2.2.2.1.2.1.mp h7'
  have hkm : k ∈ al a 3 := by rw [hl]; simp
  have hk := (h2 k hkm).1
  have o : ∀ g, g ≠ 52 → g ≠ 54 → ∀ i j, av (z_take1 k t a) g i j = av a g i j := fun g x1 x2 i j => by unfold z_take1; rw [av_o x1, av_o x2, av_sl]
  have e13 : av (z_take1 k t a) 13 3 0 = 0 := by rw [o 13 (by decide) (by decide)]; exact h5
  have le0 : av (z_take1 k t a) 13 3 0 ≤ 0 := by rw [e13]; decide
  have v54 : av (z_p 3 (z_take1 k t a)) 54 0 0 = nI k := by rw [vo_p (by decide) (by decide) (by decide) (by decide)]; unfold z_take1; rw [av_o (by decide), av_s]
  have v52 : av (z_p 3 (z_take1 k t a)) 52 0 0 = 1 := by rw [vo_p (by decide) (by decide) (by decide) (by decide)]; unfold z_take1; rw [av_s]
  have v712 : av (z_p 3 (z_take1 k t a)) 71 2 0 = 0 := by rw [p71, if_neg (by simp), o 71 (by decide) (by decide), hs.1]
  have v713 : av (z_p 3 (z_take1 k t a)) 71 3 0 = 1 := by rw [p71, if_pos ⟨le0, rfl⟩]
  have v132 : av (z_p 3 (z_take1 k t a)) 13 2 0 = nI c := by rw [p13, if_neg (by simp), o 13 (by decide) (by decide), c1]
  have v133 : av (z_p 3 (z_take1 k t a)) 13 3 0 = 0 := by rw [p13, if_neg (fun y => y.1 le0), e13]
  have vl : al (z_p 3 (z_take1 k t a)) 3 = t := by rw [lo_p (by decide)]; unfold z_take1; rw [al_sv, al_sv, al_sl, if_pos rfl]
  unfold G3
  rw [v54, v52, v712, v713, v132, v133, vl]
  rw [hl] at h1 c2
  have hkt := (List.nodup_cons.mp h1).1
  have hnk : ¬ nI k < 0 := nI_pos (by omega)
  refine ⟨(List.nodup_cons.mp h1).2, fun j hj => ?_, fun _ => ⟨k, hk, rfl, ?_, hkt⟩, ⟨c, rfl, ?_⟩, rfl, by rw [if_pos rfl], fun _ => hnk, fun y => absurd y n01⟩
  · have hj1 : j ∈ al a 3 := by rw [hl]; exact List.mem_cons_of_mem _ hj
    rw [p10 (by decide) (h2 j hj1).1, o 10 (by decide) (by decide)]
    exact h2 j hj1
  · rw [p10 (by decide) hk, o 10 (by decide) (by decide)]
    exact (h2 k hkm).2
  · rw [if_neg (fun y => hnk y.1)]
    rw [if_pos ⟨h54, hs.1⟩] at c2
    simp only [List.length_cons] at c2
    omega
theorem G3_card {n k cc : Nat} {a : AS} (h : G3 a) (hA : GA a) (h7' : 7 ∈ al a 0) (h54 : ¬ av a 54 0 0 < 0) (hk : k < 6) (e54 : av a 54 0 0 = nI k) : G3 (z_p 2 (z_card n k cc a)) := by
  obtain ⟨h1, h2, h3, h4, h5, h6, h7, h8⟩ := h
  obtain ⟨c, c1, c2⟩ := h4
  have n01 : ¬ (0 : Int32) = 1 := by decide
  have hs := hA.2.2.2.1.2.1.mp h7'
  obtain ⟨j, q1, q2, q3, q4⟩ := h3 h54
  have hjk : j = k := by
    rw [e54] at q2
    exact ((nI_eq (by omega) (by omega)).mp q2).symm
  subst hjk
  have o : ∀ g, g ≠ 54 → g ≠ 10 → g ≠ 17 → g ≠ 18 → g ≠ 43 → g ≠ 19 → g ≠ 32 → ∀ i c, av (z_card n j cc a) g i c = av a g i c := fun g x1 x2 x3 x4 x5 x6 x7 i c => by
    unfold z_card
    rw [av_o x1, vo_wake x2, vo_comp x5 x4 x3, av_o x6, av_o x7]
  have e10 : ∀ i, av (z_card n j cc a) 10 i 0 = if i = j then 0 else av a 10 i 0 := fun i => by
    unfold z_card
    rw [av_o (by decide), w10, vo_comp (by decide) (by decide) (by decide), av_o (by decide), av_o (by decide)]
  have el : al (z_card n j cc a) 3 = al a 3 := by
    unfold z_card
    rw [al_sv, lo_wake (by decide)]
    rfl
  have o13 := o 13 (by decide) (by decide) (by decide) (by decide) (by decide) (by decide) (by decide)
  have o71 := o 71 (by decide) (by decide) (by decide) (by decide) (by decide) (by decide) (by decide)
  rw [if_neg (fun y => h54 y.1), Nat.add_zero] at c2
  have l6 := len6 h1 (fun x hx => (h2 x hx).1)
  have h52 : av a 52 0 0 = 0 := by rw [h6, if_neg (by rw [hs.2]; exact n01)]
  have neg1 : (-1 : Int32) < 0 := by decide
  have v54 : av (z_p 2 (z_card n j cc a)) 54 0 0 = -1 := by rw [vo_p (by decide) (by decide) (by decide) (by decide)]; unfold z_card; rw [av_s]
  have v52 : av (z_p 2 (z_card n j cc a)) 52 0 0 = 0 := by rw [vo_p (by decide) (by decide) (by decide) (by decide), o 52 (by decide) (by decide) (by decide) (by decide) (by decide) (by decide) (by decide), h52]
  have v712 : av (z_p 2 (z_card n j cc a)) 71 2 0 = if nI c ≤ 0 then 1 else 0 := by
    rw [p71, o13, c1, o71, hs.1]
    by_cases y : nI c ≤ 0
    · rw [if_pos ⟨y, rfl⟩, if_pos y]
    · rw [if_neg (fun z => y z.1), if_neg y]
  have v713 : av (z_p 2 (z_card n j cc a)) 71 3 0 = 0 := by rw [p71, if_neg (by simp), o71, hs.2]
  have v132 : av (z_p 2 (z_card n j cc a)) 13 2 0 = if nI c ≤ 0 then nI c else nI c - 1 := by
    rw [p13, o13, c1]
    by_cases y : nI c ≤ 0
    · rw [if_neg (fun z => z.1 y), if_pos y]
    · rw [if_pos ⟨y, rfl⟩, if_neg y]
  have v133 : av (z_p 2 (z_card n j cc a)) 13 3 0 = 0 := by rw [p13, if_neg (by simp), o13, h5]
  have vl : al (z_p 2 (z_card n j cc a)) 3 = al a 3 := by rw [lo_p (by decide), el]
  unfold G3
  rw [v54, v52, v712, v713, v132, v133, vl]
  refine ⟨h1, fun i hi => ?_, fun y => absurd neg1 y, ?_, rfl, by rw [if_neg n01], fun y => absurd y n01, fun _ => neg1⟩
  · have hij : ¬ i = j := fun e => q4 (e ▸ hi)
    rw [p10 (by decide) (h2 i hi).1, e10, if_neg hij]
    exact h2 i hi
  · by_cases y : c = 0
    · have hle : nI c ≤ 0 := by rw [y]; decide
      refine ⟨0, ?_, ?_⟩
      · rw [if_pos hle, y]
      · simp only [if_pos hle]
        rw [if_neg (fun z => absurd z.2 (by decide))]
        omega
    · have hle : ¬ nI c ≤ 0 := nI_nle (by omega) (by omega)
      obtain ⟨c', rfl⟩ : ∃ c', c = c' + 1 := ⟨c - 1, by omega⟩
      refine ⟨c', ?_, ?_⟩
      · rw [if_neg hle, nI_pred]
      · simp only [if_neg hle]
        rw [if_pos ⟨neg1, trivial⟩]
        omega
theorem G3_done {a : AS} (h : G3 a) (hA : GA a) (h52 : ¬ av a 52 0 0 = 0) : G3 (z_rdone a) := by
  obtain ⟨h1, h2, h3, h4, h5, h6, h7, h8⟩ := h
  have n01 : ¬ (0 : Int32) = 1 := by decide
  have w1 : av a 71 3 0 = 1 := Classical.byContradiction fun y => h52 (by rw [h6, if_neg y])
  have w0 : av a 71 2 0 = 0 := (hA.2.2.1.1 2 (by decide)).resolve_right (fun y => hA.2.2.1.2.2.1 ⟨y, w1⟩)
  have n54 := h7 w1
  have o : ∀ g, g ≠ 52 → ∀ i j, av (sv 52 0 0 0 a) g i j = av a g i j := fun g x i j => av_o x
  have v54 : av (z_rdone a) 54 0 0 = av a 54 0 0 := by unfold z_rdone; rw [vo_v (by decide) (by decide) (by decide), o 54 (by decide)]
  have v52 : av (z_rdone a) 52 0 0 = 0 := by unfold z_rdone; rw [vo_v (by decide) (by decide) (by decide), av_s]
  have v712 : av (z_rdone a) 71 2 0 = 0 := by unfold z_rdone; rw [v71, if_neg (by decide), o 71 (by decide), w0]
  have v713 : av (z_rdone a) 71 3 0 = 0 := by unfold z_rdone; rw [v71, if_pos rfl]
  have hne : ¬ av (sv 52 0 0 0 a) 71 3 0 = 0 := by rw [o 71 (by decide), w1]; decide
  have v13 : ∀ s, av (z_rdone a) 13 s 0 = av a 13 s 0 := fun s => by unfold z_rdone; rw [v13, if_neg (fun y => hne y.1), o 13 (by decide)]
  have vl : al (z_rdone a) 3 = al a 3 := by unfold z_rdone; rw [lo_v (by decide)]; rfl
  have f10 : ∀ k, k < 6 → av (z_rdone a) 10 k 0 = av a 10 k 0 := fun k hk => by unfold z_rdone; rw [v10 (by decide) hk, o 10 (by decide)]
  unfold G3
  rw [v54, v52, v712, v713, v13, v13, vl]
  rw [w0] at h4
  refine ⟨h1, fun k hk => ⟨(h2 k hk).1, by rw [f10 k (h2 k hk).1]; exact (h2 k hk).2⟩, fun y => ?_, h4, h5, by rw [if_neg n01], fun y => absurd y n01, fun y => absurd y n01⟩
  obtain ⟨j, q1, q2, q3, q4⟩ := h3 y
  exact ⟨j, q1, q2, by rw [f10 j q1]; exact q3, q4⟩
