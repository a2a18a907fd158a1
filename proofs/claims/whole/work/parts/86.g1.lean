/-! THE INVARIANT, groups 1, 3, 2: the rows of those who ask, of cards, of gets -/
def G1 (a : AS) : Prop :=
  (al a 1).Nodup ∧ (∀ k ∈ al a 1, k < 6 ∧ av a 10 k 0 = 1) ∧ (av a 12 0 0 = 0 ∨ av a 12 0 0 = 1 ∨ av a 12 0 0 = 2) ∧
  (¬ av a 12 0 0 = 0 → ∃ k, k < 6 ∧ av a 47 0 0 = nI k ∧ av a 10 k 0 = 1 ∧ k ∉ al a 1) ∧
  (∃ c, av a 13 0 0 = nI c ∧ (al a 1).length = c + if av a 12 0 0 = 0 ∧ av a 71 0 0 = 0 then 1 else 0) ∧ av a 13 1 0 = 0 ∧
  (av a 45 0 0 = 0 ∨ av a 45 0 0 = 1 ∨ av a 45 0 0 = 2) ∧ (¬ av a 45 0 0 = 0 ↔ av a 71 1 0 = 1) ∧ (¬ av a 45 0 0 = 0 → av a 12 0 0 = av a 45 0 0) ∧ (av a 71 0 0 = 1 → av a 12 0 0 = 0)
theorem G1_eq {a b : AS} (h : G1 a) (e12 : av b 12 0 0 = av a 12 0 0) (e47 : av b 47 0 0 = av a 47 0 0) (e45 : av b 45 0 0 = av a 45 0 0) (e71 : ∀ s, s < 2 → av b 71 s 0 = av a 71 s 0) (e13 : ∀ s, s < 2 → av b 13 s 0 = av a 13 s 0) (el : al b 1 = al a 1) (e10 : ∀ k, k < 6 → av a 10 k 0 = 1 → av b 10 k 0 = 1) : G1 b := by
  obtain ⟨h1, h2, h3, h4, h5, h6, h7, h8, h9, h10⟩ := h
  unfold G1
  rw [e12, e47, e45, e71 0 (by decide), e71 1 (by decide), e13 0 (by decide), e13 1 (by decide), el]
  refine ⟨h1, fun k hk => ⟨(h2 k hk).1, e10 k (h2 k hk).1 (h2 k hk).2⟩, h3, fun y => ?_, h5, h6, h7, h8, h9, h10⟩
  obtain ⟨k, q1, q2, q3, q4⟩ := h4 y
  exact ⟨k, q1, q2, e10 k q1 q3, q4⟩
theorem len6_of {l : List Nat} (h : l.Nodup) (h2 : ∀ k ∈ l, k < 6) : l.length ≤ 6 := len6 h h2
theorem G1_ask {k : Nat} {s : Int32} {a : AS} (h : G1 a) (hA : GA a) (hk : k < 6) (hm : k ∈ al a 0) : G1 (z_ask k s a) := by
  obtain ⟨h1, h2, h3, h4, h5, h6, h7, h8, h9, h10⟩ := h
  have h10k : av a 10 k 0 = 0 := ((hA.2.1 k hk).mp hm).2
  have n01 : ¬ (0 : Int32) = 1 := by decide
  have n10 : ¬ (1 : Int32) = 0 := by decide
  have hkl : k ∉ al a 1 := fun y => by
    have := (h2 k y).2
    rw [h10k] at this
    exact n01 this
  have G := hA.2.2.1
  have z0 := G.1 0 (by decide)
  obtain ⟨c, c1, c2⟩ := h5
  have clen : (al a 1).length < 6 := len6' h1 (fun x hx => (h2 x hx).1) hk hkl
  have e12 : av (z_ask k s a) 12 0 0 = av a 12 0 0 := by unfold z_ask; rw [vo_v (by decide) (by decide) (by decide), vo_susp (by decide) (by decide), av_sl, av_o (by decide)]
  have e47 : av (z_ask k s a) 47 0 0 = av a 47 0 0 := by unfold z_ask; rw [vo_v (by decide) (by decide) (by decide), vo_susp (by decide) (by decide), av_sl, av_o (by decide)]
  have e45 : av (z_ask k s a) 45 0 0 = av a 45 0 0 := by unfold z_ask; rw [vo_v (by decide) (by decide) (by decide), vo_susp (by decide) (by decide), av_sl, av_o (by decide)]
  have i71 : av (z_susp k 1 (sl 1 (al a 1 ++ [k]) (sv 29 k 0 s a))) 71 0 0 = av a 71 0 0 := by rw [vo_susp (by decide) (by decide), av_sl, av_o (by decide)]
  have e71 : av (z_ask k s a) 71 0 0 = 0 := by
    unfold z_ask
    rw [av_v, i71]
    by_cases y : av a 71 0 0 = 0
    · rw [if_pos y, if_neg (by simp), y]
    · rw [if_neg y, if_neg (by simp), if_pos ⟨rfl, rfl, rfl⟩]
  have e711 : av (z_ask k s a) 71 1 0 = av a 71 1 0 := by
    unfold z_ask
    rw [av_v, i71]
    split
    · rw [if_neg (by simp), vo_susp (by decide) (by decide), av_sl, av_o (by decide)]
    · rw [if_neg (by simp), if_neg (by simp), vo_susp (by decide) (by decide), av_sl, av_o (by decide)]
  have e13 : av (z_ask k s a) 13 0 0 = if av a 71 0 0 = 0 then av a 13 0 0 + 1 else av a 13 0 0 := by
    unfold z_ask
    rw [av_v, i71]
    split
    · rw [if_pos ⟨rfl, rfl, rfl⟩, vo_susp (by decide) (by decide), av_sl, av_o (by decide)]
    · rw [if_neg (by simp), if_neg (by simp), vo_susp (by decide) (by decide), av_sl, av_o (by decide)]
  have e131 : av (z_ask k s a) 13 1 0 = av a 13 1 0 := by
    unfold z_ask
    rw [av_v, i71]
    split
    · rw [if_neg (by simp), vo_susp (by decide) (by decide), av_sl, av_o (by decide)]
    · rw [if_neg (by simp), if_neg (by simp), vo_susp (by decide) (by decide), av_sl, av_o (by decide)]
  have e10 : ∀ j, j < 6 → av (z_ask k s a) 10 j 0 = if j = k then 1 else av a 10 j 0 := by
    intro j hj
    have hp : pr 0 = 6 := rfl
    unfold z_ask
    rw [av_v, i71, hp]
    have inner : av (z_susp k 1 (sl 1 (al a 1 ++ [k]) (sv 29 k 0 s a))) 10 j 0 = if j = k then 1 else av a 10 j 0 := by
      rw [av_susp, if_neg (by simp)]
      by_cases e : j = k
      · rw [if_pos ⟨rfl, e, rfl⟩, if_pos e]
      · rw [if_neg (by simp [e]), if_neg e, av_sl, av_o (by decide)]
    split
    · rw [if_neg (by simp)]; exact inner
    · rw [if_neg (by omega), if_neg (by simp)]; exact inner
  have el : al (z_ask k s a) 1 = al a 1 ++ [k] := by unfold z_ask; rw [lo_v (by decide), lo_susp (by decide), al_sl, if_pos rfl]
  have m10 : ∀ j, j < 6 → av a 10 j 0 = 1 → av (z_ask k s a) 10 j 0 = 1 := fun j hj y => by
    rw [e10 j hj]
    split
    · rfl
    · exact y
  unfold G1
  rw [e12, e47, e45, e71, e711, e13, e131, el]
  refine ⟨nd_app h1 hkl, fun j hj => ?_, h3, fun y => ?_, ?_, h6, h7, h8, h9, fun y => absurd y n01⟩
  · rcases List.mem_append.mp hj with hj | hj
    · exact ⟨(h2 j hj).1, m10 j (h2 j hj).1 (h2 j hj).2⟩
    · rw [List.mem_singleton] at hj
      subst hj
      exact ⟨hk, by rw [e10 j hk, if_pos rfl]⟩
  · obtain ⟨j, q1, q2, q3, q4⟩ := h4 y
    refine ⟨j, q1, q2, m10 j q1 q3, fun hj => ?_⟩
    rcases List.mem_append.mp hj with hj | hj
    · exact q4 hj
    · rw [List.mem_singleton] at hj
      subst hj
      rw [h10k] at q3
      exact n01 q3
  · rw [List.length_append, List.length_singleton, c2]
    by_cases y : av a 71 0 0 = 0
    · refine ⟨c + 1, ?_, ?_⟩
      · rw [if_pos y, c1, nI_1]
      · simp only [y, and_true]
        by_cases z : av a 12 0 0 = 0
        · simp only [z, if_true]
        · simp only [z, if_false]
          try omega
    · have z : av a 12 0 0 = 0 := h10 (z0.resolve_left y)
      refine ⟨c, ?_, ?_⟩
      · rw [if_neg y, c1]
      · simp only [z, y, and_false, if_false, true_and, if_true]
        try omega
/-- P of a signal that the process stands ready for -/
theorem p71 {s : Nat} {a : AS} (i : Nat) : av (z_p s a) 71 i 0 = if av a 13 s 0 ≤ 0 ∧ i = s then 1 else av a 71 i 0 := by
  rw [av_p]
  by_cases c : av a 13 s 0 ≤ 0
  · rw [if_pos c, if_neg (by simp), if_neg (by simp)]
    by_cases e : i = s
    · rw [if_pos ⟨rfl, e, rfl⟩, if_pos ⟨c, e⟩]
    · rw [if_neg (by simp [e]), if_neg (fun y => e y.2)]
  · rw [if_neg c, if_neg (by simp), if_neg (fun y => c y.1)]
theorem p13 {s : Nat} {a : AS} (i : Nat) : av (z_p s a) 13 i 0 = if ¬ av a 13 s 0 ≤ 0 ∧ i = s then av a 13 s 0 - 1 else av a 13 i 0 := by
  rw [av_p]
  by_cases c : av a 13 s 0 ≤ 0
  · rw [if_pos c, if_neg (by simp), if_neg (by simp), if_neg (by simp), if_neg (fun y => y.1 c)]
  · rw [if_neg c]
    by_cases e : i = s
    · rw [if_pos ⟨rfl, e, rfl⟩, if_pos ⟨c, e⟩]
    · rw [if_neg (by simp [e]), if_neg (fun y => e y.2)]
theorem p10 {s j : Nat} {a : AS} (hs : s < 7) (hj : j < 6) : av (z_p s a) 10 j 0 = av a 10 j 0 := by
  have := pr_cases hs
  rw [av_p]
  split
  · rw [if_neg (by simp), if_neg (by omega), if_neg (by simp)]
  · rw [if_neg (by simp)]
/-- the segments' process, behind a P of WANTED, of DRUM -/
theorem G1_take {f k : Nat} {t : List Nat} {a : AS} (h : G1 a) (hA : GA a) (h6 : 6 ∈ al a 0) (h12 : av a 12 0 0 = 0) (hl : al a 1 = k :: t) : G1 (z_p 1 (z_take f k t a)) := by
  obtain ⟨h1, h2, h3, h4, h5, h6', h7, h8, h9, h10⟩ := h
  obtain ⟨c, c1, c2⟩ := h5
  have n01 : ¬ (0 : Int32) = 1 := by decide
  have hs := hA.2.2.2.1.1.mp h6
  have hd : ∃ d : Int32, (d = 1 ∨ d = 2) ∧ av (z_take f k t a) 12 0 0 = d ∧ av (z_take f k t a) 45 0 0 = d := by
    unfold z_take
    split
    · exact ⟨2, Or.inr rfl, by unfold z_begin; rw [av_s], by unfold z_begin; rw [av_o (by decide), av_s]⟩
    · exact ⟨1, Or.inl rfl, by unfold z_begin; rw [av_s], by unfold z_begin; rw [av_o (by decide), av_s]⟩
  have o : ∀ g, g ≠ 12 → g ≠ 45 → g ≠ 39 → g ≠ 42 → g ≠ 43 → g ≠ 46 → g ≠ 47 → g ≠ 49 → g ≠ 50 → g ≠ 51 → ∀ i j, av (z_take f k t a) g i j = av a g i j := by
    intro g x1 x2 x3 x4 x5 x6 x7 x8 x9 x10 i j
    unfold z_take z_begin z_vacate
    split
    · simp [av_sv, av_sl, *]
    · simp [av_sv, av_sl, *]
  have e47 : av (z_take f k t a) 47 0 0 = nI k := by
    unfold z_take z_begin z_vacate
    split
    · simp [av_sv]
    · simp [av_sv]
  have el : al (z_take f k t a) 1 = t := by
    unfold z_take
    split
    · exact (by unfold z_begin z_vacate; simp [al_sv, al_sl])
    · exact (by unfold z_begin z_vacate; simp [al_sv, al_sl])
  obtain ⟨d, d12, e12, e45⟩ := hd
  have e13 : av (z_take f k t a) 13 1 0 = 0 := by rw [o 13 (by decide) (by decide) (by decide) (by decide) (by decide) (by decide) (by decide) (by decide) (by decide) (by decide)]; exact h6'
  have dn : ¬ d = 0 := by rcases d12 with rfl | rfl <;> decide
  have hkm : k ∈ al a 1 := by rw [hl]; simp
  have o71 := o 71 (by decide) (by decide) (by decide) (by decide) (by decide) (by decide) (by decide) (by decide) (by decide) (by decide)
  have o10 := o 10 (by decide) (by decide) (by decide) (by decide) (by decide) (by decide) (by decide) (by decide) (by decide) (by decide)
  have o13 := o 13 (by decide) (by decide) (by decide) (by decide) (by decide) (by decide) (by decide) (by decide) (by decide) (by decide)
  have le0 : av (z_take f k t a) 13 1 0 ≤ 0 := by rw [e13]; decide
  have v12 : av (z_p 1 (z_take f k t a)) 12 0 0 = d := by rw [vo_p (by decide) (by decide) (by decide) (by decide), e12]
  have v47 : av (z_p 1 (z_take f k t a)) 47 0 0 = nI k := by rw [vo_p (by decide) (by decide) (by decide) (by decide), e47]
  have v45 : av (z_p 1 (z_take f k t a)) 45 0 0 = d := by rw [vo_p (by decide) (by decide) (by decide) (by decide), e45]
  have v710 : av (z_p 1 (z_take f k t a)) 71 0 0 = 0 := by rw [p71, if_neg (by simp), o71, hs.1]
  have v711 : av (z_p 1 (z_take f k t a)) 71 1 0 = 1 := by rw [p71, if_pos ⟨le0, rfl⟩]
  have v130 : av (z_p 1 (z_take f k t a)) 13 0 0 = nI c := by rw [p13, if_neg (by simp), o13, c1]
  have v131 : av (z_p 1 (z_take f k t a)) 13 1 0 = 0 := by rw [p13, if_neg (fun y => y.1 le0), e13]
  have vl : al (z_p 1 (z_take f k t a)) 1 = t := by rw [lo_p (by decide), el]
  unfold G1
  rw [v12, v47, v45, v710, v711, v130, v131, vl]
  rw [hl] at h1 c2
  have hkt := (List.nodup_cons.mp h1).1
  refine ⟨(List.nodup_cons.mp h1).2, fun j hj => ?_, ?_, fun _ => ⟨k, (h2 k hkm).1, rfl, ?_, hkt⟩, ⟨c, rfl, ?_⟩, rfl, ?_, ⟨fun _ => rfl, fun _ => dn⟩, fun _ => rfl, fun y => absurd y n01⟩
  · have hj1 : j ∈ al a 1 := by rw [hl]; exact List.mem_cons_of_mem _ hj
    rw [p10 (by decide) (h2 j hj1).1, o10]
    exact h2 j hj1
  · exact Or.inr d12
  · rw [p10 (by decide) (h2 k hkm).1, o10]
    exact (h2 k hkm).2
  · rw [if_neg (fun y => dn y.1)]
    rw [if_pos ⟨h12, hs.1⟩] at c2
    simp only [List.length_cons] at c2
    omega
  · exact Or.inr d12
theorem G1_begin {a : AS} (h : G1 a) (hA : GA a) (h6 : 6 ∈ al a 0) (h12 : av a 12 0 0 = 1) : G1 (z_p 1 (z_begin 2 a)) := by
  obtain ⟨h1, h2, h3, h4, h5, h6', h7, h8, h9, h10⟩ := h
  obtain ⟨c, c1, c2⟩ := h5
  have n01 : ¬ (0 : Int32) = 1 := by decide
  have hs := hA.2.2.2.1.1.mp h6
  have o : ∀ g, g ≠ 12 → g ≠ 45 → ∀ i j, av (z_begin 2 a) g i j = av a g i j := fun g x1 x2 i j => by
    unfold z_begin
    rw [av_o x1, av_o x2]
  have e12 : av (z_begin 2 a) 12 0 0 = 2 := by unfold z_begin; rw [av_s]
  have e45 : av (z_begin 2 a) 45 0 0 = 2 := by unfold z_begin; rw [av_o (by decide), av_s]
  have e13 : av (z_begin 2 a) 13 1 0 = 0 := by rw [o 13 (by decide) (by decide)]; exact h6'
  have le0 : av (z_begin 2 a) 13 1 0 ≤ 0 := by rw [e13]; decide
  have v12 : av (z_p 1 (z_begin 2 a)) 12 0 0 = 2 := by rw [vo_p (by decide) (by decide) (by decide) (by decide), e12]
  have v47 : av (z_p 1 (z_begin 2 a)) 47 0 0 = av a 47 0 0 := by rw [vo_p (by decide) (by decide) (by decide) (by decide), o 47 (by decide) (by decide)]
  have v45 : av (z_p 1 (z_begin 2 a)) 45 0 0 = 2 := by rw [vo_p (by decide) (by decide) (by decide) (by decide), e45]
  have v710 : av (z_p 1 (z_begin 2 a)) 71 0 0 = 0 := by rw [p71, if_neg (by simp), o 71 (by decide) (by decide), hs.1]
  have v711 : av (z_p 1 (z_begin 2 a)) 71 1 0 = 1 := by rw [p71, if_pos ⟨le0, rfl⟩]
  have v130 : av (z_p 1 (z_begin 2 a)) 13 0 0 = nI c := by rw [p13, if_neg (by simp), o 13 (by decide) (by decide), c1]
  have v131 : av (z_p 1 (z_begin 2 a)) 13 1 0 = 0 := by rw [p13, if_neg (fun y => y.1 le0), e13]
  have vl : al (z_p 1 (z_begin 2 a)) 1 = al a 1 := by rw [lo_p (by decide)]; rfl
  unfold G1
  rw [v12, v47, v45, v710, v711, v130, v131, vl]
  have n20 : ¬ (2 : Int32) = 0 := by decide
  refine ⟨h1, fun j hj => ?_, Or.inr (Or.inr rfl), fun _ => ?_, ⟨c, rfl, ?_⟩, rfl, Or.inr (Or.inr rfl), ⟨fun _ => rfl, fun _ => n20⟩, fun _ => rfl, fun y => absurd y n01⟩
  · rw [p10 (by decide) (h2 j hj).1, o 10 (by decide) (by decide)]
    exact h2 j hj
  · obtain ⟨j, q1, q2, q3, q4⟩ := h4 (by rw [h12]; decide)
    refine ⟨j, q1, q2, ?_, q4⟩
    rw [p10 (by decide) q1, o 10 (by decide) (by decide)]
    exact q3
  · rw [if_neg (fun y => n20 y.1)]
    rw [if_neg (by rw [h12]; exact fun y => absurd y.1 (by decide))] at c2
    exact c2
theorem G1_bring {f k : Nat} {a : AS} (h : G1 a) (hA : GA a) (h6 : 6 ∈ al a 0) (h12 : av a 12 0 0 = 2) (hk : k < 6) (h47 : av a 47 0 0 = nI k) : G1 (z_p 0 (z_bring f k a)) := by
  obtain ⟨h1, h2, h3, h4, h5, h6', h7, h8, h9, h10⟩ := h
  obtain ⟨c, c1, c2⟩ := h5
  have n01 : ¬ (0 : Int32) = 1 := by decide
  have hs := hA.2.2.2.1.1.mp h6
  obtain ⟨j, q1, q2, q3, q4⟩ := h4 (by rw [h12]; decide)
  have hjk : j = k := by
    rw [h47] at q2
    exact ((nI_eq (by omega) (by omega)).mp q2).symm
  subst hjk
  have h45 : av a 45 0 0 = 0 := Classical.byContradiction fun y => by
    have := h8.mp y
    rw [hs.2] at this
    exact n01 this
  have o : ∀ g, g ≠ 12 → g ≠ 46 → g ≠ 47 → g ≠ 10 → g ≠ 44 → g ≠ 39 → g ≠ 40 → g ≠ 41 → g ≠ 42 → g ≠ 43 → ∀ i c, av (z_bring f j a) g i c = av a g i c := by
    intro g x1 x2 x3 x4 x5 x6 x7 x8 x9 x10 i c
    unfold z_bring
    rw [av_o x3, av_o x2, vo_wake x4, av_o x5, vo_occ x6 x7 x8 x9 x10, av_o x1]
  have e12 : av (z_bring f j a) 12 0 0 = 0 := bring12 f j a
  have e10 : ∀ i, i < 6 → av (z_bring f j a) 10 i 0 = if i = j then 0 else av a 10 i 0 := by
    intro i hi
    unfold z_bring
    rw [av_o (by decide), av_o (by decide), av_wake]
    by_cases e : i = j
    · rw [if_pos ⟨rfl, e, rfl⟩, if_pos e]
    · rw [if_neg (by simp [e]), if_neg e, av_o (by decide), vo_occ (by decide) (by decide) (by decide) (by decide) (by decide), av_o (by decide)]
  have el : al (z_bring f j a) 1 = al a 1 := by
    unfold z_bring
    rw [al_sv, al_sv, lo_wake (by decide)]
    rfl
  have o13 := o 13 (by decide) (by decide) (by decide) (by decide) (by decide) (by decide) (by decide) (by decide) (by decide) (by decide)
  have o71 := o 71 (by decide) (by decide) (by decide) (by decide) (by decide) (by decide) (by decide) (by decide) (by decide) (by decide)
  have o45 := o 45 (by decide) (by decide) (by decide) (by decide) (by decide) (by decide) (by decide) (by decide) (by decide) (by decide)
  rw [if_neg (by rw [h12]; exact fun y => absurd y.1 (by decide)), Nat.add_zero] at c2
  have l6 := len6 h1 (fun x hx => (h2 x hx).1)
  have v12 : av (z_p 0 (z_bring f j a)) 12 0 0 = 0 := by rw [vo_p (by decide) (by decide) (by decide) (by decide), e12]
  have v45 : av (z_p 0 (z_bring f j a)) 45 0 0 = 0 := by rw [vo_p (by decide) (by decide) (by decide) (by decide), o45, h45]
  have v710 : av (z_p 0 (z_bring f j a)) 71 0 0 = if nI c ≤ 0 then 1 else 0 := by
    rw [p71, o13, c1, o71, hs.1]
    by_cases y : nI c ≤ 0
    · rw [if_pos ⟨y, rfl⟩, if_pos y]
    · rw [if_neg (fun z => y z.1), if_neg y]
  have v711 : av (z_p 0 (z_bring f j a)) 71 1 0 = 0 := by rw [p71, if_neg (by simp), o71, hs.2]
  have v130 : av (z_p 0 (z_bring f j a)) 13 0 0 = if nI c ≤ 0 then nI c else nI c - 1 := by
    rw [p13, o13, c1]
    by_cases y : nI c ≤ 0
    · rw [if_neg (fun z => z.1 y), if_pos y]
    · rw [if_pos ⟨y, rfl⟩, if_neg y]
  have v131 : av (z_p 0 (z_bring f j a)) 13 1 0 = 0 := by rw [p13, if_neg (by simp), o13, h6']
  have vl : al (z_p 0 (z_bring f j a)) 1 = al a 1 := by rw [lo_p (by decide), el]
  unfold G1
  rw [v12, v45, v710, v711, v130, v131, vl]
  refine ⟨h1, fun i hi => ?_, Or.inl rfl, fun y => absurd rfl y, ?_, rfl, Or.inl rfl, ⟨fun y => absurd rfl y, fun y => absurd y n01⟩, fun y => absurd rfl y, fun _ => rfl⟩
  · have hij : ¬ i = j := fun e => q4 (e ▸ hi)
    rw [p10 (by decide) (h2 i hi).1, e10 i (h2 i hi).1, if_neg hij]
    exact h2 i hi
  · by_cases y : c = 0
    · have hle : nI c ≤ 0 := by rw [y]; decide
      refine ⟨0, ?_, ?_⟩
      · rw [if_pos hle, y]
      · simp only [if_pos hle]
        rw [if_neg (fun z => absurd z.2 (by decide))]
        omega
    · have hle : ¬ nI c ≤ 0 := nI_nle (by omega) (by omega)
      obtain ⟨c', rfl⟩ : ∃ c', c = c' + 1 := ⟨c - 1, by omega⟩
      refine ⟨c', ?_, ?_⟩
      · rw [if_neg hle, nI_pred]
      · simp only [if_neg hle]
        rw [if_pos ⟨trivial, trivial⟩]
        omega
theorem G1_drum {a b : AS} (h : G1 a) (hA : GA a) (h45 : ¬ av a 45 0 0 = 0) (e12 : av b 12 0 0 = av a 12 0 0) (e47 : av b 47 0 0 = av a 47 0 0) (e71 : ∀ s, av b 71 s 0 = av a 71 s 0) (e13 : ∀ s, av b 13 s 0 = av a 13 s 0) (el : al b 1 = al a 1) (e10 : ∀ k, av b 10 k 0 = av a 10 k 0) : G1 (z_v 1 (sv 45 0 0 0 b)) := by
  obtain ⟨h1, h2, h3, h4, h5, h6', h7, h8, h9, h10⟩ := h
  have n10 : ¬ (1 : Int32) = 0 := by decide
  have n01 : ¬ (0 : Int32) = 1 := by decide
  have w1 : av a 71 1 0 = 1 := h8.mp h45
  have w0 : av a 71 0 0 = 0 := (hA.2.2.1.1 0 (by decide)).resolve_right (fun y => hA.2.2.1.2.1 ⟨y, w1⟩)
  have i71 : ∀ s, av (sv 45 0 0 0 b) 71 s 0 = av a 71 s 0 := fun s => by rw [av_o (by decide), e71]
  have hne : ¬ av (sv 45 0 0 0 b) 71 1 0 = 0 := by rw [i71, w1]; exact n10
  have f71 : ∀ s, av (z_v 1 (sv 45 0 0 0 b)) 71 s 0 = if s = 1 then 0 else av a 71 s 0 := fun s => by
    rw [av_v, if_neg hne, if_neg (by simp)]
    by_cases e : s = 1
    · rw [if_pos ⟨rfl, e, rfl⟩, if_pos e]
    · rw [if_neg (by simp [e]), if_neg e, i71]
  have f13 : ∀ s, av (z_v 1 (sv 45 0 0 0 b)) 13 s 0 = av a 13 s 0 := fun s => by
    rw [av_v, if_neg hne, if_neg (by simp), if_neg (by simp), av_o (by decide), e13]
  have f10 : ∀ k, k < 6 → av (z_v 1 (sv 45 0 0 0 b)) 10 k 0 = av a 10 k 0 := fun k hk => by
    have : pr 1 = 6 := rfl
    rw [av_v, if_neg hne, this, if_neg (by omega), if_neg (by simp), av_o (by decide), e10]
  have v12 : av (z_v 1 (sv 45 0 0 0 b)) 12 0 0 = av a 12 0 0 := by rw [vo_v (by decide) (by decide) (by decide), av_o (by decide), e12]
  have v47 : av (z_v 1 (sv 45 0 0 0 b)) 47 0 0 = av a 47 0 0 := by rw [vo_v (by decide) (by decide) (by decide), av_o (by decide), e47]
  have v45 : av (z_v 1 (sv 45 0 0 0 b)) 45 0 0 = 0 := by rw [vo_v (by decide) (by decide) (by decide), av_s]
  have v710 : av (z_v 1 (sv 45 0 0 0 b)) 71 0 0 = 0 := by rw [f71, if_neg (by decide), w0]
  have v711 : av (z_v 1 (sv 45 0 0 0 b)) 71 1 0 = 0 := by rw [f71, if_pos rfl]
  have vl : al (z_v 1 (sv 45 0 0 0 b)) 1 = al a 1 := by rw [lo_v (by decide), al_sv, el]
  unfold G1
  rw [v12, v47, v45, v710, v711, f13, f13, vl]
  rw [w0] at h5
  refine ⟨h1, fun k hk => ⟨(h2 k hk).1, by rw [f10 k (h2 k hk).1]; exact (h2 k hk).2⟩, h3, fun y => ?_, h5, h6', Or.inl rfl, ⟨fun y => absurd rfl y, fun y => absurd y n01⟩, fun y => absurd rfl y, fun y => absurd y n01⟩
  obtain ⟨j, q1, q2, q3, q4⟩ := h4 y
  exact ⟨j, q1, q2, by rw [f10 j q1]; exact q3, q4⟩
