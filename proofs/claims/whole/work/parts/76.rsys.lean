/-! The reference: segments, reader, printer -/
theorem wr_begin2 {n : Nat} {R : St} {a : AS} (h : RR n none R a) (h12 : av a 12 0 0 ≠ 0) : RR n none (up (up R 50 0 45 0 2) 112 0 0 6 2) (z_begin 2 a) := by
  obtain ⟨g1, g2, g3, g4, g5, g6, g7, g8, g9, g10, g11, g12⟩ := h
  have htt : RRt (up (up R 50 0 45 0 2) 112 0 0 6 2) (z_begin 2 a) := by
    obtain ⟨c1, c2, c3⟩ := g5
    refine ⟨?_, ?_, ?_⟩
    · simp [up_at, z_begin, av_sv]
    · simp [up_at, z_begin, av_sv]; exact c2
    · simp [up_at, z_begin, av_sv]; exact c3
  have hmm : RRm (up (up R 50 0 45 0 2) 112 0 0 6 2) (z_begin 2 a) := by
    refine ⟨fun _ => ?_, fun hb => ?_⟩
    · simp [up_at, z_begin, av_sv]
      exact g11.1 h12
    · simp [z_begin, av_sv] at hb
  refine ⟨wRa (wRo (y := (112, 0, 0, 6)) (x := 2) (wRd (f := 45) (i := 0) (j := 0) (x := 2) g1 ⟨rfl, rfl⟩) rfl) (fun f i j ho => by unfold z_begin; rw [av_o (by rintro rfl; exact ho.elim)]), RRh_eq g2 ?_ ?_ ?_ ?_ ?_ ?_, RRs_eq g3 ?_ ?_, ?_, htt, RRe_eq g6 ?_ ?_ ?_ ?_, RRg_eq g7 ?_ ?_ ?_ ?_ ?_, RRa_eq g8 ?_ ?_ ?_ ?_ ?_, RRc_eq g9 ?_ ?_ ?_, RRf_eq g10 ?_ ?_ ?_ ?_ ?_, hmm, RRj_eq g12 ?_ ?_ ?_ ?_⟩
  all_goals first
    | rfl
    | (simp [up_at, av_sv, av_sl, al_sv, al_sl, z_begin]; done)
    | (intro c; simp [up_at, av_sv, av_sl, al_sv, al_sl, z_begin]; done)
    | (simp [up_at, av_sv, av_sl, al_sv, al_sl, z_begin]; exact g4)
    | (intro k hk; simp only [List.mem_cons, List.not_mem_nil, or_false] at hk; rcases hk with rfl | rfl | rfl | rfl | rfl | rfl <;> simp [up_at, av_sv, av_sl, al_sv, al_sl, z_begin]; done)
    | (intro g b hg; simp only [List.mem_cons, List.not_mem_nil, or_false] at hg; rcases hg with rfl | rfl | rfl | rfl | rfl | rfl | rfl | rfl <;> simp [up_at, av_sv, av_sl, al_sv, al_sl, z_begin]; done)
theorem tk_ok1 {n f k g i j : Nat} {x : Int32} {b : AS} (ho : okR n g i j) : av (z_begin 1 (sv 39 f 0 (-2) (z_vacate f (sv 50 0 0 (av b 40 f 0) (sv 51 0 0 x (sv 49 0 0 (av b 39 f 0) (sv 46 0 0 (nI f) (sv 47 0 0 (nI k) b)))))))) g i j = av (sv 45 0 0 1 (sv 39 f 0 (-2) b)) g i j := by
  have n12 : g ≠ 12 := by rintro rfl; exact ho.elim
  have n42 : g ≠ 42 := by rintro rfl; exact ho.elim
  have n43 : g ≠ 43 := by rintro rfl; exact ho.elim
  have n46 : g ≠ 46 := by rintro rfl; exact ho.elim
  have n47 : g ≠ 47 := by rintro rfl; exact ho.elim
  have n49 : g ≠ 49 := by rintro rfl; exact ho.elim
  have n50 : g ≠ 50 := by rintro rfl; exact ho.elim
  have n51 : g ≠ 51 := by rintro rfl; exact ho.elim
  unfold z_begin z_vacate
  simp only [av_sv, n12, n42, n43, n46, n47, n49, n50, n51, false_and, if_false]
  clear ho
  by_cases c : g = 39 ∧ i = f ∧ j = 0
  · simp [c]
  · simp only [if_neg c]
theorem tk_ok2 {n f k g i j : Nat} {x : Int32} {b : AS} (ho : okR n g i j) : av (z_begin 2 (sv 39 f 0 (-2) (z_vacate f (sv 46 0 0 (nI f) (sv 47 0 0 (nI k) b))))) g i j = av (sv 45 0 0 2 (sv 39 f 0 (-2) b)) g i j := by
  have n12 : g ≠ 12 := by rintro rfl; exact ho.elim
  have n42 : g ≠ 42 := by rintro rfl; exact ho.elim
  have n43 : g ≠ 43 := by rintro rfl; exact ho.elim
  have n46 : g ≠ 46 := by rintro rfl; exact ho.elim
  have n47 : g ≠ 47 := by rintro rfl; exact ho.elim
  have n49 : g ≠ 49 := by rintro rfl; exact ho.elim
  have n50 : g ≠ 50 := by rintro rfl; exact ho.elim
  have n51 : g ≠ 51 := by rintro rfl; exact ho.elim
  unfold z_begin z_vacate
  simp only [av_sv, n12, n42, n43, n46, n47, n49, n50, n51, false_and, if_false]
  clear ho
  by_cases c : g = 39 ∧ i = f ∧ j = 0
  · simp [c]
  · simp only [if_neg c]
theorem wr_take1 {n f k : Nat} {x : Int32} {D : St} {b : AS} (h : RR n none D b) (hf : f < n) (hk : k < 6) (e47 : D 50 0 47 0 = nI k) (e48 : D 50 0 48 0 = av b 29 k 0) : RR n none (up (up (up (up (up (up (up D 50 0 46 0 (nI f)) 50 0 49 0 (av b 39 f 0)) 50 0 50 0 (av b 40 f 0)) 50 0 51 0 x) 139 0 0 f (-2)) 50 0 45 0 1) 112 0 0 6 1) (z_begin 1 (sv 39 f 0 (-2) (z_vacate f (sv 50 0 0 (av b 40 f 0) (sv 51 0 0 x (sv 49 0 0 (av b 39 f 0) (sv 46 0 0 (nI f) (sv 47 0 0 (nI k) b)))))))) := by
  obtain ⟨g1, g2, g3, g4, g5, g6, g7, g8, g9, g10, g11, g12⟩ := h
  have htt : RRt (up (up (up (up (up (up (up D 50 0 46 0 (nI f)) 50 0 49 0 (av b 39 f 0)) 50 0 50 0 (av b 40 f 0)) 50 0 51 0 x) 139 0 0 f (-2)) 50 0 45 0 1) 112 0 0 6 1) (z_begin 1 (sv 39 f 0 (-2) (z_vacate f (sv 50 0 0 (av b 40 f 0) (sv 51 0 0 x (sv 49 0 0 (av b 39 f 0) (sv 46 0 0 (nI f) (sv 47 0 0 (nI k) b)))))))) := by
    obtain ⟨c1, c2, c3⟩ := g5
    refine ⟨?_, ?_, ?_⟩
    · simp [up_at, z_begin, z_vacate, av_sv]
    · simp [up_at, z_begin, z_vacate, av_sv]; exact c2
    · simp [up_at, z_begin, z_vacate, av_sv]; exact c3
  have hff : RRf n (up (up (up (up (up (up (up D 50 0 46 0 (nI f)) 50 0 49 0 (av b 39 f 0)) 50 0 50 0 (av b 40 f 0)) 50 0 51 0 x) 139 0 0 f (-2)) 50 0 45 0 1) 112 0 0 6 1) (z_begin 1 (sv 39 f 0 (-2) (z_vacate f (sv 50 0 0 (av b 40 f 0) (sv 51 0 0 x (sv 49 0 0 (av b 39 f 0) (sv 46 0 0 (nI f) (sv 47 0 0 (nI k) b)))))))) := by
    intro i hi hni
    by_cases e : i = f
    · subst e
      simp [z_begin, z_vacate, av_sv] at hni
    · simp [z_begin, z_vacate, av_sv, e] at hni
      obtain ⟨c1, c2⟩ := g10 i hi (Int32.not_lt.mpr hni)
      simp [up_at, z_begin, z_vacate, av_sv, e]
      exact ⟨c1, c2⟩
  have hmm : RRm (up (up (up (up (up (up (up D 50 0 46 0 (nI f)) 50 0 49 0 (av b 39 f 0)) 50 0 50 0 (av b 40 f 0)) 50 0 51 0 x) 139 0 0 f (-2)) 50 0 45 0 1) 112 0 0 6 1) (z_begin 1 (sv 39 f 0 (-2) (z_vacate f (sv 50 0 0 (av b 40 f 0) (sv 51 0 0 x (sv 49 0 0 (av b 39 f 0) (sv 46 0 0 (nI f) (sv 47 0 0 (nI k) b)))))))) := by
    refine ⟨fun _ => ?_, fun hb => ?_⟩
    · simp [up_at, z_begin, z_vacate, av_sv]
      rw [show (nI k).toNatClampNeg = k from nI_clamp (by omega)]
      exact ⟨e47, e48⟩
    · simp [up_at, z_begin, z_vacate, av_sv]
  refine ⟨wRa (wRo (y := (112, 0, 0, 6)) (x := 1) (wRd (f := 45) (i := 0) (j := 0) (x := 1) (wRd (f := 39) (i := f) (j := 0) (x := -2) (wRo (y := (50, 0, 51, 0)) (x := x) (wRo (y := (50, 0, 50, 0)) (x := av b 40 f 0) (wRo (y := (50, 0, 49, 0)) (x := av b 39 f 0) (wRo (y := (50, 0, 46, 0)) (x := nI f) g1 rfl) rfl) rfl) rfl) ⟨hf, rfl⟩) ⟨rfl, rfl⟩) rfl) (fun g i j ho => tk_ok1 (x := x) ho), RRh_eq g2 ?_ ?_ ?_ ?_ ?_ ?_, RRs_eq g3 ?_ ?_, ?_, htt, RRe_eq g6 ?_ ?_ ?_ ?_, RRg_eq g7 ?_ ?_ ?_ ?_ ?_, RRa_eq g8 ?_ ?_ ?_ ?_ ?_, RRc_eq g9 ?_ ?_ ?_, hff, hmm, RRj_eq g12 ?_ ?_ ?_ ?_⟩
  all_goals first
    | rfl
    | (simp [up_at, av_sv, av_sl, al_sv, al_sl, z_begin, z_vacate]; done)
    | (intro c; simp [up_at, av_sv, av_sl, al_sv, al_sl, z_begin, z_vacate]; done)
    | (simp [up_at, av_sv, av_sl, al_sv, al_sl, z_begin, z_vacate]; exact g4)
    | (intro k hk; simp only [List.mem_cons, List.not_mem_nil, or_false] at hk; rcases hk with rfl | rfl | rfl | rfl | rfl | rfl <;> simp [up_at, av_sv, av_sl, al_sv, al_sl, z_begin, z_vacate]; done)
    | (intro g b hg; simp only [List.mem_cons, List.not_mem_nil, or_false] at hg; rcases hg with rfl | rfl | rfl | rfl | rfl | rfl | rfl | rfl <;> simp [up_at, av_sv, av_sl, al_sv, al_sl, z_begin, z_vacate]; done)
theorem wr_take2 {n f k : Nat} {x : Int32} {D : St} {b : AS} (h : RR n none D b) (hf : f < n) (hk : k < 6) (e47 : D 50 0 47 0 = nI k) (e48 : D 50 0 48 0 = av b 29 k 0) : RR n none (up (up (up (up (up (up (up D 50 0 46 0 (nI f)) 50 0 49 0 (av b 39 f 0)) 50 0 50 0 (av b 40 f 0)) 50 0 51 0 x) 139 0 0 f (-2)) 50 0 45 0 2) 112 0 0 6 2) (z_begin 2 (sv 39 f 0 (-2) (z_vacate f (sv 46 0 0 (nI f) (sv 47 0 0 (nI k) b))))) := by
  obtain ⟨g1, g2, g3, g4, g5, g6, g7, g8, g9, g10, g11, g12⟩ := h
  have htt : RRt (up (up (up (up (up (up (up D 50 0 46 0 (nI f)) 50 0 49 0 (av b 39 f 0)) 50 0 50 0 (av b 40 f 0)) 50 0 51 0 x) 139 0 0 f (-2)) 50 0 45 0 2) 112 0 0 6 2) (z_begin 2 (sv 39 f 0 (-2) (z_vacate f (sv 46 0 0 (nI f) (sv 47 0 0 (nI k) b))))) := by
    obtain ⟨c1, c2, c3⟩ := g5
    refine ⟨?_, ?_, ?_⟩
    · simp [up_at, z_begin, z_vacate, av_sv]
    · simp [up_at, z_begin, z_vacate, av_sv]; exact c2
    · simp [up_at, z_begin, z_vacate, av_sv]; exact c3
  have hff : RRf n (up (up (up (up (up (up (up D 50 0 46 0 (nI f)) 50 0 49 0 (av b 39 f 0)) 50 0 50 0 (av b 40 f 0)) 50 0 51 0 x) 139 0 0 f (-2)) 50 0 45 0 2) 112 0 0 6 2) (z_begin 2 (sv 39 f 0 (-2) (z_vacate f (sv 46 0 0 (nI f) (sv 47 0 0 (nI k) b))))) := by
    intro i hi hni
    by_cases e : i = f
    · subst e
      simp [z_begin, z_vacate, av_sv] at hni
    · simp [z_begin, z_vacate, av_sv, e] at hni
      obtain ⟨c1, c2⟩ := g10 i hi (Int32.not_lt.mpr hni)
      simp [up_at, z_begin, z_vacate, av_sv, e]
      exact ⟨c1, c2⟩
  have hmm : RRm (up (up (up (up (up (up (up D 50 0 46 0 (nI f)) 50 0 49 0 (av b 39 f 0)) 50 0 50 0 (av b 40 f 0)) 50 0 51 0 x) 139 0 0 f (-2)) 50 0 45 0 2) 112 0 0 6 2) (z_begin 2 (sv 39 f 0 (-2) (z_vacate f (sv 46 0 0 (nI f) (sv 47 0 0 (nI k) b))))) := by
    refine ⟨fun _ => ?_, fun hb => ?_⟩
    · simp [up_at, z_begin, z_vacate, av_sv]
      rw [show (nI k).toNatClampNeg = k from nI_clamp (by omega)]
      exact ⟨e47, e48⟩
    · simp [z_begin, z_vacate, av_sv] at hb
  refine ⟨wRa (wRo (y := (112, 0, 0, 6)) (x := 2) (wRd (f := 45) (i := 0) (j := 0) (x := 2) (wRd (f := 39) (i := f) (j := 0) (x := -2) (wRo (y := (50, 0, 51, 0)) (x := x) (wRo (y := (50, 0, 50, 0)) (x := av b 40 f 0) (wRo (y := (50, 0, 49, 0)) (x := av b 39 f 0) (wRo (y := (50, 0, 46, 0)) (x := nI f) g1 rfl) rfl) rfl) rfl) ⟨hf, rfl⟩) ⟨rfl, rfl⟩) rfl) (fun g i j ho => tk_ok2 (x := x) ho), RRh_eq g2 ?_ ?_ ?_ ?_ ?_ ?_, RRs_eq g3 ?_ ?_, ?_, htt, RRe_eq g6 ?_ ?_ ?_ ?_, RRg_eq g7 ?_ ?_ ?_ ?_ ?_, RRa_eq g8 ?_ ?_ ?_ ?_ ?_, RRc_eq g9 ?_ ?_ ?_, hff, hmm, RRj_eq g12 ?_ ?_ ?_ ?_⟩
  all_goals first
    | rfl
    | (simp [up_at, av_sv, av_sl, al_sv, al_sl, z_begin, z_vacate]; done)
    | (intro c; simp [up_at, av_sv, av_sl, al_sv, al_sl, z_begin, z_vacate]; done)
    | (simp [up_at, av_sv, av_sl, al_sv, al_sl, z_begin, z_vacate]; exact g4)
    | (intro k hk; simp only [List.mem_cons, List.not_mem_nil, or_false] at hk; rcases hk with rfl | rfl | rfl | rfl | rfl | rfl <;> simp [up_at, av_sv, av_sl, al_sv, al_sl, z_begin, z_vacate]; done)
    | (intro g b hg; simp only [List.mem_cons, List.not_mem_nil, or_false] at hg; rcases hg with rfl | rfl | rfl | rfl | rfl | rfl | rfl | rfl <;> simp [up_at, av_sv, av_sl, al_sv, al_sl, z_begin, z_vacate]; done)
theorem wr_occ {n f k : Nat} {s tk : Int32} {hd : Option Nat} {R : St} {a : AS} (h : RR n hd R a) (hf : f < n) : RR n hd (up (up (up (up (up R 139 0 0 f (nI k)) 140 0 0 f s) 142 0 0 f 0) 143 0 0 f 1) 141 0 0 f tk) (z_occupy f k s tk a) := by
  obtain ⟨g1, g2, g3, g4, g5, g6, g7, g8, g9, g10, g11, g12⟩ := h
  have hff : RRf n (up (up (up (up (up R 139 0 0 f (nI k)) 140 0 0 f s) 142 0 0 f 0) 143 0 0 f 1) 141 0 0 f tk) (z_occupy f k s tk a) := by
    intro i hi hni
    by_cases e : i = f
    · subst e
      simp [up_at, z_occupy, av_sv]
    · simp [z_occupy, av_sv, e] at hni
      obtain ⟨c1, c2⟩ := g10 i hi (Int32.not_lt.mpr hni)
      simp [up_at, z_occupy, av_sv, e]
      exact ⟨c1, c2⟩
  have hd1 : RRd n (up (up (up (up (up R 139 0 0 f (nI k)) 140 0 0 f s) 142 0 0 f 0) 143 0 0 f 1) 141 0 0 f tk) (z_occupy f k s tk a) := by
    have w3 := wRo (y := (143, 0, 0, f)) (x := 1) (wRo (y := (142, 0, 0, f)) (x := 0) (wRd (f := 40) (i := f) (j := 0) (x := s) (wRd (f := 39) (i := f) (j := 0) (x := nI k) g1 ⟨hf, rfl⟩) ⟨hf, rfl⟩) rfl) rfl
    have w4 := wRd (f := 41) (i := f) (j := 0) (x := tk) w3 ⟨hf, rfl⟩
    refine wRa w4 (fun g i j ho => ?_)
    have n42 : g ≠ 42 := by rintro rfl; exact ho.elim
    have n43 : g ≠ 43 := by rintro rfl; exact ho.elim
    unfold z_occupy
    simp [av_sv, n42, n43]
  refine ⟨hd1, RRh_eq g2 ?_ ?_ ?_ ?_ ?_ ?_, RRs_eq g3 ?_ ?_, ?_, RRt_eq g5 ?_ ?_ ?_ ?_, RRe_eq g6 ?_ ?_ ?_ ?_, RRg_eq g7 ?_ ?_ ?_ ?_ ?_, RRa_eq g8 ?_ ?_ ?_ ?_ ?_, RRc_eq g9 ?_ ?_ ?_, hff, RRm_eq g11 ?_ ?_, RRj_eq g12 ?_ ?_ ?_ ?_⟩
  all_goals first
    | rfl
    | (simp [up_at, av_sv, av_sl, al_sv, al_sl, z_occupy]; done)
    | (intro c; simp [up_at, av_sv, av_sl, al_sv, al_sl, z_occupy]; done)
    | (simp [up_at, av_sv, av_sl, al_sv, al_sl, z_occupy]; exact g4)
    | (intro k hk; simp only [List.mem_cons, List.not_mem_nil, or_false] at hk; rcases hk with rfl | rfl | rfl | rfl | rfl | rfl <;> simp [up_at, av_sv, av_sl, al_sv, al_sl, z_occupy]; done)
    | (intro g b hg; simp only [List.mem_cons, List.not_mem_nil, or_false] at hg; rcases hg with rfl | rfl | rfl | rfl | rfl | rfl | rfl | rfl <;> simp [up_at, av_sv, av_sl, al_sv, al_sl, z_occupy]; done)
theorem wr_unst {n : Nat} {hd : Option Nat} {R : St} {a : AS} (h : RR n hd R a) (h45 : ¬ av a 45 0 0 = 1) : RR n hd (up R 112 0 0 6 0) (sv 47 0 0 (-1) (sv 46 0 0 (-1) (sv 12 0 0 0 a))) := by
  obtain ⟨g1, g2, g3, g4, g5, g6, g7, g8, g9, g10, g11, g12⟩ := h
  have htt : RRt (up R 112 0 0 6 0) (sv 47 0 0 (-1) (sv 46 0 0 (-1) (sv 12 0 0 0 a))) := by
    obtain ⟨c1, c2, c3⟩ := g5
    refine ⟨?_, ?_, ?_⟩
    · simp [up_at, av_sv]
    · simp [up_at, av_sv]; exact c2
    · simp [up_at, av_sv]; exact c3
  have hmm : RRm (up R 112 0 0 6 0) (sv 47 0 0 (-1) (sv 46 0 0 (-1) (sv 12 0 0 0 a))) := by
    refine ⟨fun hb => ?_, fun hb => ?_⟩
    · simp [av_sv] at hb
    · simp [av_sv] at hb
      exact absurd hb h45
  refine ⟨wRa (wRo (y := (112, 0, 0, 6)) (x := 0) g1 rfl) (fun f i j ho => by rw [av_o (by rintro rfl; exact ho.elim), av_o (by rintro rfl; exact ho.elim), av_o (by rintro rfl; exact ho.elim)]), RRh_eq g2 ?_ ?_ ?_ ?_ ?_ ?_, RRs_eq g3 ?_ ?_, ?_, htt, RRe_eq g6 ?_ ?_ ?_ ?_, RRg_eq g7 ?_ ?_ ?_ ?_ ?_, RRa_eq g8 ?_ ?_ ?_ ?_ ?_, RRc_eq g9 ?_ ?_ ?_, RRf_eq g10 ?_ ?_ ?_ ?_ ?_, hmm, RRj_eq g12 ?_ ?_ ?_ ?_⟩
  all_goals first
    | rfl
    | (simp [up_at, av_sv, av_sl, al_sv, al_sl]; done)
    | (intro c; simp [up_at, av_sv, av_sl, al_sv, al_sl]; done)
    | (simp [up_at, av_sv, av_sl, al_sv, al_sl]; exact g4)
    | (intro k hk; simp only [List.mem_cons, List.not_mem_nil, or_false] at hk; rcases hk with rfl | rfl | rfl | rfl | rfl | rfl <;> simp [up_at, av_sv, av_sl, al_sv, al_sl]; done)
    | (intro g b hg; simp only [List.mem_cons, List.not_mem_nil, or_false] at hg; rcases hg with rfl | rfl | rfl | rfl | rfl | rfl | rfl | rfl <;> simp [up_at, av_sv, av_sl, al_sv, al_sl]; done)
theorem RRd_of {n : Nat} {R D : St} {a a' : AS} (h : RRd n R a) (e : ∀ x, (nvR x).1 ≠ 80 → atC D x = atC R x) (ea : ∀ f i j, okR n f i j → av a' f i j = av a f i j) : RRd n D a' := by
  intro f i j ho
  rw [ea f i j ho, ← h f i j ho]
  refine e _ ?_
  rw [nvR_ok ho]
  have := okR_lt ho
  simp only
  omega
theorem RR_abs {n : Nat} {hd : Option Nat} {R : St} {a a' : AS} (h : RR n hd R a) (e : ∀ g b c, g ≠ 72 → g ≠ 73 → g ≠ 74 → g ≠ 75 → g ≠ 76 → g ≠ 77 → av a' g b c = av a g b c) (el : ∀ q, al a' q = al a q) : RR n hd R a' := by
  obtain ⟨g1, g2, g3, g4, g5, g6, g7, g8, g9, g10, g11, g12⟩ := h
  have e2 : ∀ g, g ≤ 71 → ∀ b c, av a' g b c = av a g b c := fun g hg b c => e g b c (by omega) (by omega) (by omega) (by omega) (by omega) (by omega)
  refine ⟨wRa g1 (fun f i j ho => e f i j (by rintro rfl; exact ho) (by rintro rfl; exact ho) (by rintro rfl; exact ho) (by rintro rfl; exact ho) (by rintro rfl; exact ho) (by rintro rfl; exact ho)), RRh_eq g2 rfl rfl (fun _ => rfl) (fun _ => rfl) (el 0) (e2 7 (by decide) _ _), RRs_eq g3 (fun _ => rfl) (fun s => e2 71 (by decide) _ _), g4, RRt_eq g5 (fun _ => rfl) (e2 12 (by decide) _ _) (e2 54 (by decide) _ _) (e2 55 (by decide) _ _), RRe_eq g6 (fun _ => rfl) (fun _ => rfl) (fun k => e2 14 (by decide) _ _) (fun k => e2 16 (by decide) _ _), RRg_eq g7 rfl (fun _ => rfl) (fun _ => rfl) (el 2) (fun k => e2 29 (by decide) _ _), RRa_eq g8 rfl (fun _ => rfl) (fun _ => rfl) (el 1) (fun k => e2 29 (by decide) _ _), RRc_eq g9 rfl (fun _ => rfl) (el 3), RRf_eq g10 (fun _ => rfl) (fun _ => rfl) (fun k => e2 39 (by decide) _ _) (fun k => e2 42 (by decide) _ _) (fun k => e2 43 (by decide) _ _), RRm_eq g11 (fun _ _ => rfl) (fun g b hg => ?_), RRj_eq g12 rfl rfl (e2 54 (by decide) _ _) (e2 55 (by decide) _ _)⟩
  refine e2 g ?_ b 0
  simp only [List.mem_cons, List.not_mem_nil, or_false] at hg
  omega
theorem wr_pop1 {n k : Nat} {t : List Nat} {R D : St} {a : AS} (h : RR n none R a) (hl : al a 1 = k :: t) (h12 : av a 12 0 0 = 0) (e60 : D 50 0 60 0 = nI t.length) (e156 : ∀ i, i < t.length → D 156 0 0 i = R 156 0 0 (i + 1)) (e157 : ∀ i, i < t.length → D 157 0 0 i = R 157 0 0 (i + 1)) (e : ∀ q b k c, ¬ (q = 156 ∧ True) → ¬ (q = 157 ∧ True) → ¬ (q = 50 ∧ k = 60) → ¬ (q = 50 ∧ k = 47) → ¬ (q = 50 ∧ k = 48) → D q b k c = R q b k c) : RR n none D (sl 1 t a) := by
  obtain ⟨g1, g2, g3, g4, g5, g6, g7, g8, g9, g10, g11, g12⟩ := h
  have ha : RRa D (sl 1 t a) := by
    obtain ⟨⟨c1, c2⟩, c3⟩ := g8
    rw [hl] at c1 c2 c3
    refine ⟨⟨?_, fun i p hi => ?_⟩, fun i p hi => ?_⟩
    · rw [al_sl, if_pos rfl]; exact e60
    · rw [al_sl, if_pos rfl] at hi
      obtain ⟨x1, -⟩ := List.getElem?_eq_some_iff.mp hi
      rw [e156 i x1]
      exact c2 (i + 1) p hi
    · rw [al_sl, if_pos rfl] at hi
      obtain ⟨x1, -⟩ := List.getElem?_eq_some_iff.mp hi
      rw [e157 i x1, av_sl]
      exact c3 (i + 1) p hi
  have hmm : RRm D (sl 1 t a) := by
    refine ⟨fun hb => absurd h12 hb, fun hb => ?_⟩
    obtain ⟨c1, c2, c3⟩ := g11.2 hb
    exact ⟨by rw [e _ _ _ _ (by simp) (by simp) (by simp) (by simp) (by simp)]; exact c1, by rw [e _ _ _ _ (by simp) (by simp) (by simp) (by simp) (by simp)]; exact c2, by rw [e _ _ _ _ (by simp) (by simp) (by simp) (by simp) (by simp)]; exact c3⟩
  have hd1 : RRd n D (sl 1 t a) := by
    refine RRd_of g1 (fun x hx => ?_) (fun _ _ _ _ => rfl)
    obtain ⟨q, b, kk, c⟩ := x
    refine e q b kk c ?_ ?_ ?_ ?_ ?_ <;> (rintro ⟨rfl, hr⟩; exact hx (by simp [nvR, hr]))
  refine ⟨hd1, RRh_eq g2 (e _ _ _ _ (by simp) (by simp) (by simp) (by simp) (by simp)) (e _ _ _ _ (by simp) (by simp) (by simp) (by simp) (by simp)) (fun c => e _ _ _ _ (by simp) (by simp) (by simp) (by simp) (by simp)) (fun c => e _ _ _ _ (by simp) (by simp) (by simp) (by simp) (by simp)) ?_ ?_, RRs_eq g3 (fun c => e _ _ _ _ (by simp) (by simp) (by simp) (by simp) (by simp)) ?_, (e _ _ _ _ (by simp) (by simp) (by simp) (by simp) (by simp)).trans g4, RRt_eq g5 (fun c => e _ _ _ _ (by simp) (by simp) (by simp) (by simp) (by simp)) ?_ ?_ ?_, RRe_eq g6 (fun c => e _ _ _ _ (by simp) (by simp) (by simp) (by simp) (by simp)) (fun c => e _ _ _ _ (by simp) (by simp) (by simp) (by simp) (by simp)) ?_ ?_, RRg_eq g7 (e _ _ _ _ (by simp) (by simp) (by simp) (by simp) (by simp)) (fun c => e _ _ _ _ (by simp) (by simp) (by simp) (by simp) (by simp)) (fun c => e _ _ _ _ (by simp) (by simp) (by simp) (by simp) (by simp)) ?_ ?_, ha, RRc_eq g9 (e _ _ _ _ (by simp) (by simp) (by simp) (by simp) (by simp)) (fun c => e _ _ _ _ (by simp) (by simp) (by simp) (by simp) (by simp)) ?_, RRf_eq g10 (fun c => e _ _ _ _ (by simp) (by simp) (by simp) (by simp) (by simp)) (fun c => e _ _ _ _ (by simp) (by simp) (by simp) (by simp) (by simp)) ?_ ?_ ?_, hmm, RRj_eq g12 (e _ _ _ _ (by simp) (by simp) (by simp) (by simp) (by simp)) (e _ _ _ _ (by simp) (by simp) (by simp) (by simp) (by simp)) ?_ ?_⟩
  all_goals first
    | rfl
    | (simp [av_sv, av_sl, al_sv, al_sl]; done)
    | (intro c; simp [av_sv, av_sl, al_sv, al_sl]; done)
    | (intro k hk; simp only [List.mem_cons, List.not_mem_nil, or_false] at hk; rcases hk with rfl | rfl | rfl | rfl | rfl | rfl <;> exact e _ _ _ _ (by simp) (by simp) (by simp) (by simp) (by simp))
    | (intro g b hg; simp only [List.mem_cons, List.not_mem_nil, or_false] at hg; rcases hg with rfl | rfl | rfl | rfl | rfl | rfl | rfl | rfl <;> simp [av_sv, av_sl, al_sv, al_sl]; done)
theorem wr_pop3 {n k : Nat} {t : List Nat} {hd : Option Nat} {R D : St} {a : AS} (h : RR n hd R a) (hl : al a 3 = k :: t) (h54 : av a 54 0 0 < 0) (e61 : D 50 0 61 0 = nI t.length) (e158 : ∀ i, i < t.length → D 158 0 0 i = R 158 0 0 (i + 1)) (e : ∀ q b k c, ¬ (q = 158 ∧ True) → ¬ (q = 50 ∧ k = 61) → ¬ (q = 50 ∧ k = 54) → D q b k c = R q b k c) : RR n hd D (sl 3 t a) := by
  obtain ⟨g1, g2, g3, g4, g5, g6, g7, g8, g9, g10, g11, g12⟩ := h
  have hc : RRc D (sl 3 t a) := by
    obtain ⟨c1, c2⟩ := g9
    rw [hl] at c1 c2
    refine ⟨?_, fun i p hi => ?_⟩
    · rw [al_sl, if_pos rfl]; exact e61
    · rw [al_sl, if_pos rfl] at hi
      obtain ⟨x1, -⟩ := List.getElem?_eq_some_iff.mp hi
      rw [e158 i x1]
      exact c2 (i + 1) p hi
  have hj : RRj D (sl 3 t a) := by
    refine ⟨fun hb => absurd h54 hb, fun hb => ?_⟩
    rw [e _ _ _ _ (by simp) (by simp) (by simp)]
    exact g12.2 hb
  have hd1 : RRd n D (sl 3 t a) := by
    refine RRd_of g1 (fun x hx => ?_) (fun _ _ _ _ => rfl)
    obtain ⟨q, b, kk, c⟩ := x
    refine e q b kk c ?_ ?_ ?_ <;> (rintro ⟨rfl, hr⟩; exact hx (by simp [nvR, hr]))
  refine ⟨hd1, RRh_eq g2 (e _ _ _ _ (by simp) (by simp) (by simp)) (e _ _ _ _ (by simp) (by simp) (by simp)) (fun c => e _ _ _ _ (by simp) (by simp) (by simp)) (fun c => e _ _ _ _ (by simp) (by simp) (by simp)) ?_ ?_, RRs_eq g3 (fun c => e _ _ _ _ (by simp) (by simp) (by simp)) ?_, (e _ _ _ _ (by simp) (by simp) (by simp)).trans g4, RRt_eq g5 (fun c => e _ _ _ _ (by simp) (by simp) (by simp)) ?_ ?_ ?_, RRe_eq g6 (fun c => e _ _ _ _ (by simp) (by simp) (by simp)) (fun c => e _ _ _ _ (by simp) (by simp) (by simp)) ?_ ?_, RRg_eq g7 (e _ _ _ _ (by simp) (by simp) (by simp)) (fun c => e _ _ _ _ (by simp) (by simp) (by simp)) (fun c => e _ _ _ _ (by simp) (by simp) (by simp)) ?_ ?_, RRa_eq g8 (e _ _ _ _ (by simp) (by simp) (by simp)) (fun c => e _ _ _ _ (by simp) (by simp) (by simp)) (fun c => e _ _ _ _ (by simp) (by simp) (by simp)) ?_ ?_, hc, RRf_eq g10 (fun c => e _ _ _ _ (by simp) (by simp) (by simp)) (fun c => e _ _ _ _ (by simp) (by simp) (by simp)) ?_ ?_ ?_, RRm_eq g11 ?_ ?_, hj⟩
  all_goals first
    | rfl
    | (simp [av_sv, av_sl, al_sv, al_sl]; done)
    | (intro c; simp [av_sv, av_sl, al_sv, al_sl]; done)
    | (intro k hk; simp only [List.mem_cons, List.not_mem_nil, or_false] at hk; rcases hk with rfl | rfl | rfl | rfl | rfl | rfl <;> exact e _ _ _ _ (by simp) (by simp) (by simp))
    | (intro g b hg; simp only [List.mem_cons, List.not_mem_nil, or_false] at hg; rcases hg with rfl | rfl | rfl | rfl | rfl | rfl | rfl | rfl <;> simp [av_sv, av_sl, al_sv, al_sl]; done)
theorem wr_st7 {n k : Nat} {hd : Option Nat} {R : St} {a : AS} (h : RR n hd R a) (hk : k < 6) (e54 : R 50 0 54 0 = nI k) : RR n hd (up R 112 0 0 7 1) (sv 54 0 0 (nI k) a) := by
  obtain ⟨g1, g2, g3, g4, g5, g6, g7, g8, g9, g10, g11, g12⟩ := h
  have htt : RRt (up R 112 0 0 7 1) (sv 54 0 0 (nI k) a) := by
    obtain ⟨c1, c2, c3⟩ := g5
    refine ⟨?_, ?_, ?_⟩
    · simp [up_at, av_sv]; exact c1
    · rw [av_s]; unfold sgt; rw [if_neg (nI_pos (by omega))]; simp [up_at]
    · simp [up_at, av_sv]; exact c3
  have hj : RRj (up R 112 0 0 7 1) (sv 54 0 0 (nI k) a) := by
    refine ⟨fun hb => ?_, fun hb => ?_⟩
    · rw [av_s]; simp [up_at]; exact e54
    · simp [av_sv] at hb ⊢
      simp [up_at]
      exact g12.2 (Int32.not_lt.mpr hb)
  refine ⟨wRa (wRo (y := (112, 0, 0, 7)) (x := 1) g1 rfl) (fun f i j ho => by simp only [av_sv, av_sl]; rw [if_neg (by rintro ⟨rfl, -, -⟩; exact ho.elim)]), RRh_eq g2 ?_ ?_ ?_ ?_ ?_ ?_, RRs_eq g3 ?_ ?_, ?_, htt, RRe_eq g6 ?_ ?_ ?_ ?_, RRg_eq g7 ?_ ?_ ?_ ?_ ?_, RRa_eq g8 ?_ ?_ ?_ ?_ ?_, RRc_eq g9 ?_ ?_ ?_, RRf_eq g10 ?_ ?_ ?_ ?_ ?_, RRm_eq g11 ?_ ?_, hj⟩
  all_goals first
    | rfl
    | (simp [up_at, av_sv, av_sl, al_sv, al_sl]; done)
    | (intro c; simp [up_at, av_sv, av_sl, al_sv, al_sl]; done)
    | (simp [up_at, av_sv, av_sl, al_sv, al_sl]; exact g4)
    | (intro k hk; simp only [List.mem_cons, List.not_mem_nil, or_false] at hk; rcases hk with rfl | rfl | rfl | rfl | rfl | rfl <;> simp [up_at, av_sv, av_sl, al_sv, al_sl]; done)
    | (intro g b hg; simp only [List.mem_cons, List.not_mem_nil, or_false] at hg; rcases hg with rfl | rfl | rfl | rfl | rfl | rfl | rfl | rfl <;> simp [up_at, av_sv, av_sl, al_sv, al_sl]; done)
theorem wr_un7 {n : Nat} {hd : Option Nat} {R : St} {a : AS} (h : RR n hd R a) : RR n hd (up R 112 0 0 7 0) (sv 54 0 0 (-1) a) := by
  obtain ⟨g1, g2, g3, g4, g5, g6, g7, g8, g9, g10, g11, g12⟩ := h
  have htt : RRt (up R 112 0 0 7 0) (sv 54 0 0 (-1) a) := by
    obtain ⟨c1, c2, c3⟩ := g5
    refine ⟨?_, ?_, ?_⟩
    · simp [up_at, av_sv]; exact c1
    · rw [av_s]; simp [up_at]; rfl
    · simp [up_at, av_sv]; exact c3
  have hj : RRj (up R 112 0 0 7 0) (sv 54 0 0 (-1) a) := by
    refine ⟨fun hb => ?_, fun hb => ?_⟩
    · rw [av_s] at hb; exact absurd (by decide) hb
    · simp [av_sv] at hb ⊢
      simp [up_at]
      exact g12.2 (Int32.not_lt.mpr hb)
  refine ⟨wRa (wRo (y := (112, 0, 0, 7)) (x := 0) g1 rfl) (fun f i j ho => by simp only [av_sv, av_sl]; rw [if_neg (by rintro ⟨rfl, -, -⟩; exact ho.elim)]), RRh_eq g2 ?_ ?_ ?_ ?_ ?_ ?_, RRs_eq g3 ?_ ?_, ?_, htt, RRe_eq g6 ?_ ?_ ?_ ?_, RRg_eq g7 ?_ ?_ ?_ ?_ ?_, RRa_eq g8 ?_ ?_ ?_ ?_ ?_, RRc_eq g9 ?_ ?_ ?_, RRf_eq g10 ?_ ?_ ?_ ?_ ?_, RRm_eq g11 ?_ ?_, hj⟩
  all_goals first
    | rfl
    | (simp [up_at, av_sv, av_sl, al_sv, al_sl]; done)
    | (intro c; simp [up_at, av_sv, av_sl, al_sv, al_sl]; done)
    | (simp [up_at, av_sv, av_sl, al_sv, al_sl]; exact g4)
    | (intro k hk; simp only [List.mem_cons, List.not_mem_nil, or_false] at hk; rcases hk with rfl | rfl | rfl | rfl | rfl | rfl <;> simp [up_at, av_sv, av_sl, al_sv, al_sl]; done)
    | (intro g b hg; simp only [List.mem_cons, List.not_mem_nil, or_false] at hg; rcases hg with rfl | rfl | rfl | rfl | rfl | rfl | rfl | rfl <;> simp [up_at, av_sv, av_sl, al_sv, al_sl]; done)
theorem wr_st8 {n k : Nat} {hd : Option Nat} {R : St} {a : AS} (h : RR n hd R a) (hk : k < 6) (e55 : R 50 0 55 0 = nI k) : RR n hd (up R 112 0 0 8 1) (sv 55 0 0 (nI k) a) := by
  obtain ⟨g1, g2, g3, g4, g5, g6, g7, g8, g9, g10, g11, g12⟩ := h
  have htt : RRt (up R 112 0 0 8 1) (sv 55 0 0 (nI k) a) := by
    obtain ⟨c1, c2, c3⟩ := g5
    refine ⟨?_, ?_, ?_⟩
    · simp [up_at, av_sv]; exact c1
    · simp [up_at, av_sv]; exact c2
    · rw [av_s]; unfold sgt; rw [if_neg (nI_pos (by omega))]; simp [up_at]
  have hj : RRj (up R 112 0 0 8 1) (sv 55 0 0 (nI k) a) := by
    refine ⟨fun hb => ?_, fun hb => ?_⟩
    · simp [av_sv] at hb ⊢
      simp [up_at]
      exact g12.1 (Int32.not_lt.mpr hb)
    · rw [av_s]; simp [up_at]; exact e55
  refine ⟨wRa (wRo (y := (112, 0, 0, 8)) (x := 1) g1 rfl) (fun f i j ho => by simp only [av_sv, av_sl]; rw [if_neg (by rintro ⟨rfl, -, -⟩; exact ho.elim)]), RRh_eq g2 ?_ ?_ ?_ ?_ ?_ ?_, RRs_eq g3 ?_ ?_, ?_, htt, RRe_eq g6 ?_ ?_ ?_ ?_, RRg_eq g7 ?_ ?_ ?_ ?_ ?_, RRa_eq g8 ?_ ?_ ?_ ?_ ?_, RRc_eq g9 ?_ ?_ ?_, RRf_eq g10 ?_ ?_ ?_ ?_ ?_, RRm_eq g11 ?_ ?_, hj⟩
  all_goals first
    | rfl
    | (simp [up_at, av_sv, av_sl, al_sv, al_sl]; done)
    | (intro c; simp [up_at, av_sv, av_sl, al_sv, al_sl]; done)
    | (simp [up_at, av_sv, av_sl, al_sv, al_sl]; exact g4)
    | (intro k hk; simp only [List.mem_cons, List.not_mem_nil, or_false] at hk; rcases hk with rfl | rfl | rfl | rfl | rfl | rfl <;> simp [up_at, av_sv, av_sl, al_sv, al_sl]; done)
    | (intro g b hg; simp only [List.mem_cons, List.not_mem_nil, or_false] at hg; rcases hg with rfl | rfl | rfl | rfl | rfl | rfl | rfl | rfl <;> simp [up_at, av_sv, av_sl, al_sv, al_sl]; done)
theorem wr_un8 {n : Nat} {hd : Option Nat} {R : St} {a : AS} (h : RR n hd R a) : RR n hd (up R 112 0 0 8 0) (sv 55 0 0 (-1) a) := by
  obtain ⟨g1, g2, g3, g4, g5, g6, g7, g8, g9, g10, g11, g12⟩ := h
  have htt : RRt (up R 112 0 0 8 0) (sv 55 0 0 (-1) a) := by
    obtain ⟨c1, c2, c3⟩ := g5
    refine ⟨?_, ?_, ?_⟩
    · simp [up_at, av_sv]; exact c1
    · simp [up_at, av_sv]; exact c2
    · rw [av_s]; simp [up_at]; rfl
  have hj : RRj (up R 112 0 0 8 0) (sv 55 0 0 (-1) a) := by
    refine ⟨fun hb => ?_, fun hb => ?_⟩
    · simp [av_sv] at hb ⊢
      simp [up_at]
      exact g12.1 (Int32.not_lt.mpr hb)
    · rw [av_s] at hb; exact absurd (by decide) hb
  refine ⟨wRa (wRo (y := (112, 0, 0, 8)) (x := 0) g1 rfl) (fun f i j ho => by simp only [av_sv, av_sl]; rw [if_neg (by rintro ⟨rfl, -, -⟩; exact ho.elim)]), RRh_eq g2 ?_ ?_ ?_ ?_ ?_ ?_, RRs_eq g3 ?_ ?_, ?_, htt, RRe_eq g6 ?_ ?_ ?_ ?_, RRg_eq g7 ?_ ?_ ?_ ?_ ?_, RRa_eq g8 ?_ ?_ ?_ ?_ ?_, RRc_eq g9 ?_ ?_ ?_, RRf_eq g10 ?_ ?_ ?_ ?_ ?_, RRm_eq g11 ?_ ?_, hj⟩
  all_goals first
    | rfl
    | (simp [up_at, av_sv, av_sl, al_sv, al_sl]; done)
    | (intro c; simp [up_at, av_sv, av_sl, al_sv, al_sl]; done)
    | (simp [up_at, av_sv, av_sl, al_sv, al_sl]; exact g4)
    | (intro k hk; simp only [List.mem_cons, List.not_mem_nil, or_false] at hk; rcases hk with rfl | rfl | rfl | rfl | rfl | rfl <;> simp [up_at, av_sv, av_sl, al_sv, al_sl]; done)
    | (intro g b hg; simp only [List.mem_cons, List.not_mem_nil, or_false] at hg; rcases hg with rfl | rfl | rfl | rfl | rfl | rfl | rfl | rfl <;> simp [up_at, av_sv, av_sl, al_sv, al_sl]; done)
theorem wr_r55 {n : Nat} {x : Int32} {hd : Option Nat} {R : St} {a : AS} (h : RR n hd R a) (h55 : av a 55 0 0 < 0) : RR n hd (up R 50 0 55 0 x) (a) := by
  obtain ⟨g1, g2, g3, g4, g5, g6, g7, g8, g9, g10, g11, g12⟩ := h
  have hj : RRj (up R 50 0 55 0 x) a := by
    refine ⟨fun hb => ?_, fun hb => absurd h55 hb⟩
    simp [up_at]
    exact g12.1 hb
  refine ⟨wRo (y := (50, 0, 55, 0)) (x := x) g1 rfl, RRh_eq g2 ?_ ?_ ?_ ?_ ?_ ?_, RRs_eq g3 ?_ ?_, ?_, RRt_eq g5 ?_ ?_ ?_ ?_, RRe_eq g6 ?_ ?_ ?_ ?_, RRg_eq g7 ?_ ?_ ?_ ?_ ?_, RRa_eq g8 ?_ ?_ ?_ ?_ ?_, RRc_eq g9 ?_ ?_ ?_, RRf_eq g10 ?_ ?_ ?_ ?_ ?_, RRm_eq g11 ?_ ?_, hj⟩
  all_goals first
    | rfl
    | (simp [up_at, av_sv, av_sl, al_sv, al_sl]; done)
    | (intro c; simp [up_at, av_sv, av_sl, al_sv, al_sl]; done)
    | (simp [up_at, av_sv, av_sl, al_sv, al_sl]; exact g4)
    | (intro k hk; simp only [List.mem_cons, List.not_mem_nil, or_false] at hk; rcases hk with rfl | rfl | rfl | rfl | rfl | rfl <;> simp [up_at, av_sv, av_sl, al_sv, al_sl]; done)
    | (intro g b hg; simp only [List.mem_cons, List.not_mem_nil, or_false] at hg; rcases hg with rfl | rfl | rfl | rfl | rfl | rfl | rfl | rfl <;> simp [up_at, av_sv, av_sl, al_sv, al_sl]; done)
theorem wr_14 {n k : Nat} {x : Int32} {hd : Option Nat} {R : St} {a : AS} (h : RR n hd R a) (hk : k < 6) (h14 : ¬ av a 14 k 0 = 3) (hx : ¬ x = 3) : RR n hd (up R 114 0 0 k x) (sv 14 k 0 x a) := by
  obtain ⟨g1, g2, g3, g4, g5, g6, g7, g8, g9, g10, g11, g12⟩ := h
  have he : RRe (up R 114 0 0 k x) (sv 14 k 0 x a) := by
    intro j hj
    obtain ⟨c1, c2⟩ := g6 j hj
    rw [av_o (show 16 ≠ 14 by decide)]
    by_cases e : j = k
    · subst e
      rw [av_s, if_neg hx, if_neg hx]
      rw [if_neg h14] at c1 c2
      simp [up_at]
      exact ⟨c1, c2⟩
    · have e14 : av (sv 14 k 0 x a) 14 j 0 = av a 14 j 0 := by rw [av_sv, if_neg (by simp [e])]
      rw [e14]
      simp [up_at]
      exact ⟨c1, c2⟩
  refine ⟨wRd (f := 14) (i := k) (j := 0) (x := x) g1 ⟨hk, rfl⟩, RRh_eq g2 ?_ ?_ ?_ ?_ ?_ ?_, RRs_eq g3 ?_ ?_, ?_, RRt_eq g5 ?_ ?_ ?_ ?_, he, RRg_eq g7 ?_ ?_ ?_ ?_ ?_, RRa_eq g8 ?_ ?_ ?_ ?_ ?_, RRc_eq g9 ?_ ?_ ?_, RRf_eq g10 ?_ ?_ ?_ ?_ ?_, RRm_eq g11 ?_ ?_, RRj_eq g12 ?_ ?_ ?_ ?_⟩
  all_goals first
    | rfl
    | (simp [up_at, av_sv, av_sl, al_sv, al_sl]; done)
    | (intro c; simp [up_at, av_sv, av_sl, al_sv, al_sl]; done)
    | (simp [up_at, av_sv, av_sl, al_sv, al_sl]; exact g4)
    | (intro k hk; simp only [List.mem_cons, List.not_mem_nil, or_false] at hk; rcases hk with rfl | rfl | rfl | rfl | rfl | rfl <;> simp [up_at, av_sv, av_sl, al_sv, al_sl]; done)
    | (intro g b hg; simp only [List.mem_cons, List.not_mem_nil, or_false] at hg; rcases hg with rfl | rfl | rfl | rfl | rfl | rfl | rfl | rfl <;> simp [up_at, av_sv, av_sl, al_sv, al_sl]; done)
