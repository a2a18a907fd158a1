/-! The reference: its relation through its writes -/
theorem RRl_app {R D : St} {arr cnt k : Nat} {l : List Nat} (h : RRl R arr cnt l) (e1 : D 50 0 cnt 0 = nI (l.length + 1)) (e2 : ∀ i, D arr 0 0 i = if i = l.length then nI k else R arr 0 0 i) : RRl D arr cnt (l ++ [k]) := by
  refine ⟨?_, fun i p hi => ?_⟩
  · rw [e1, List.length_append]; rfl
  · rw [e2]
    by_cases c : i = l.length
    · subst c
      rw [List.getElem?_append_right (Nat.le_refl _)] at hi
      simp at hi
      rw [if_pos rfl, hi]
    · rw [if_neg c]
      obtain ⟨h6, -⟩ := List.getElem?_eq_some_iff.mp hi
      rw [List.length_append, List.length_singleton] at h6
      rw [List.getElem?_append_left (by omega)] at hi
      exact h.2 i p hi
theorem RRl_era {R D : St} {arr cnt i0 : Nat} {l : List Nat} (h : RRl R arr cnt l) (h0 : i0 < l.length) (e1 : D 50 0 cnt 0 = nI (l.length - 1)) (e2 : ∀ i, D arr 0 0 i = if i0 ≤ i ∧ i + 1 < l.length then R arr 0 0 (i + 1) else R arr 0 0 i) : RRl D arr cnt (l.eraseIdx i0) := by
  refine ⟨?_, fun i p hi => ?_⟩
  · rw [e1, List.length_eraseIdx_of_lt h0]
  · rw [e2]
    rw [List.getElem?_eraseIdx] at hi
    by_cases c : i < i0
    · rw [if_pos c] at hi
      rw [if_neg (by omega)]
      exact h.2 i p hi
    · rw [if_neg c] at hi
      obtain ⟨h6, -⟩ := List.getElem?_eq_some_iff.mp hi
      rw [if_pos ⟨by omega, by omega⟩]
      exact h.2 (i + 1) p hi
theorem wr_16 {n k : Nat} {hd : Option Nat} {R : St} {a : AS} {x : Int32} (h : RR n hd R a) (h14 : ¬ av a 14 k 0 = 3) : RR n hd (up R 116 0 0 k x) (sv 16 k 0 x a) := by
  obtain ⟨g1, g2, g3, g4, g5, g6, g7, g8, g9, g10, g11, g12⟩ := h
  have he : RRe (up R 116 0 0 k x) (sv 16 k 0 x a) := by
    intro j hj
    obtain ⟨c1, c2⟩ := g6 j hj
    rw [av_o (by decide)]
    by_cases e : j = k
    · subst e
      exact ⟨by rw [up_at, if_pos ⟨rfl, rfl, rfl, rfl⟩, if_neg h14, av_s], by rw [up_at, if_neg (by simp), c2, if_neg h14, if_neg h14]⟩
    · have e16 : av (sv 16 k 0 x a) 16 j 0 = av a 16 j 0 := by rw [av_sv, if_neg (by simp [e])]
      rw [e16]
      exact ⟨by rw [up_at, if_neg (by simp [e])]; exact c1, by rw [up_at, if_neg (by simp)]; exact c2⟩
  refine ⟨wRa (wRo (y := (116, 0, 0, k)) (x := x) g1 rfl) (fun f i j ho => by simp only [av_sv, av_sl]; rw [if_neg (by rintro ⟨rfl, -, -⟩; exact ho.elim)]), RRh_eq g2 ?_ ?_ ?_ ?_ ?_ ?_, RRs_eq g3 ?_ ?_, ?_, RRt_eq g5 ?_ ?_ ?_ ?_, he, RRg_eq g7 ?_ ?_ ?_ ?_ ?_, RRa_eq g8 ?_ ?_ ?_ ?_ ?_, RRc_eq g9 ?_ ?_ ?_, RRf_eq g10 ?_ ?_ ?_ ?_ ?_, RRm_eq g11 ?_ ?_, RRj_eq g12 ?_ ?_ ?_ ?_⟩
  all_goals first
    | rfl
    | (simp [up_at, av_sv, av_sl, al_sv, al_sl]; done)
    | (intro c; simp [up_at, av_sv, av_sl, al_sv, al_sl]; done)
    | (simp [up_at, av_sv, av_sl, al_sv, al_sl]; exact g4)
    | (intro k hk; simp only [List.mem_cons, List.not_mem_nil, or_false] at hk; rcases hk with rfl | rfl | rfl | rfl | rfl | rfl <;> simp [up_at, av_sv, av_sl, al_sv, al_sl]; done)
    | (intro g b hg; simp only [List.mem_cons, List.not_mem_nil, or_false] at hg; rcases hg with rfl | rfl | rfl | rfl | rfl | rfl | rfl | rfl <;> simp [up_at, av_sv, av_sl, al_sv, al_sl]; done)
theorem wr_want {n k m : Nat} {hd : Option Nat} {R : St} {a : AS} {s : Int32} (h : RR n hd R a) (hm : (al a 1).length = m) (hk1 : k ∉ al a 1) (hk2 : k ∉ al a 2) (h47 : av a 12 0 0 ≠ 0 → (av a 47 0 0).toNatClampNeg ≠ k) : RR n hd (up (up (up R 156 0 0 m (nI k)) 157 0 0 m s) 50 0 60 0 (nI (m + 1))) (sl 1 (al a 1 ++ [k]) (sv 29 k 0 s a)) := by
  obtain ⟨g1, g2, g3, g4, g5, g6, g7, g8, g9, g10, g11, g12⟩ := h
  have hg : RRg (up (up (up R 156 0 0 m (nI k)) 157 0 0 m s) 50 0 60 0 (nI (m + 1))) (sl 1 (al a 1 ++ [k]) (sv 29 k 0 s a)) := by
    obtain ⟨⟨c1, c2⟩, c3⟩ := g7
    refine ⟨⟨?_, fun b p hb => ?_⟩, fun j hj => ?_⟩
    · rw [al_sl, if_neg (by decide), al_sv]; simp [up_at]; exact c1
    · rw [al_sl, if_neg (by decide), al_sv] at hb; simp [up_at]; exact c2 b p hb
    · rw [al_sl, if_neg (by decide), al_sv] at hj
      have : j ≠ k := fun e => hk2 (e ▸ hj)
      rw [av_sl, av_sv, if_neg (by simp [this])]
      simp [up_at]; exact c3 j hj
  have ha : RRa (up (up (up R 156 0 0 m (nI k)) 157 0 0 m s) 50 0 60 0 (nI (m + 1))) (sl 1 (al a 1 ++ [k]) (sv 29 k 0 s a)) := by
    subst hm
    refine ⟨?_, fun b p hb => ?_⟩
    · rw [al_sl, if_pos rfl]
      exact RRl_app g8.1 (by simp [up_at]) (fun i => by simp [up_at])
    · rw [al_sl, if_pos rfl] at hb
      rw [av_sl, av_sv]
      by_cases c : b = (al a 1).length
      · subst c
        rw [List.getElem?_append_right (Nat.le_refl _)] at hb
        simp at hb
        rw [if_pos ⟨rfl, hb.symm, rfl⟩]
        simp [up_at]
      · obtain ⟨h6, -⟩ := List.getElem?_eq_some_iff.mp hb
        rw [List.length_append, List.length_singleton] at h6
        rw [List.getElem?_append_left (by omega)] at hb
        have : p ≠ k := fun e => hk1 (e ▸ List.mem_of_getElem? hb)
        rw [if_neg (by simp [this])]
        simp [up_at, c]
        exact g8.2 b p hb
  have hmm : RRm (up (up (up R 156 0 0 m (nI k)) 157 0 0 m s) 50 0 60 0 (nI (m + 1))) (sl 1 (al a 1 ++ [k]) (sv 29 k 0 s a)) := by
    obtain ⟨c1, c2⟩ := g11
    refine ⟨fun hb => ?_, fun hb => ?_⟩
    · rw [av_sl, av_o (by decide)] at hb
      simp only [av_sl, av_o (show 46 ≠ 29 by decide), av_o (show 47 ≠ 29 by decide)]
      rw [av_sv, if_neg (fun y => h47 hb y.2.1)]
      simp [up_at]
      exact c1 hb
    · rw [av_sl, av_o (by decide)] at hb
      simp only [av_sl, av_o (show 49 ≠ 29 by decide), av_o (show 50 ≠ 29 by decide), av_o (show 51 ≠ 29 by decide)]
      simp [up_at]
      exact c2 hb
  refine ⟨wRa (wRo (y := (50, 0, 60, 0)) (x := nI (m + 1)) (wRo (y := (157, 0, 0, m)) (x := s) (wRo (y := (156, 0, 0, m)) (x := nI k) g1 rfl) rfl) rfl) (fun f i j ho => by simp only [av_sv, av_sl]; rw [if_neg (by rintro ⟨rfl, -, -⟩; exact ho.elim)]), RRh_eq g2 ?_ ?_ ?_ ?_ ?_ ?_, RRs_eq g3 ?_ ?_, ?_, RRt_eq g5 ?_ ?_ ?_ ?_, RRe_eq g6 ?_ ?_ ?_ ?_, hg, ha, RRc_eq g9 ?_ ?_ ?_, RRf_eq g10 ?_ ?_ ?_ ?_ ?_, hmm, RRj_eq g12 ?_ ?_ ?_ ?_⟩
  all_goals first
    | rfl
    | (simp [up_at, av_sv, av_sl, al_sv, al_sl]; done)
    | (intro c; simp [up_at, av_sv, av_sl, al_sv, al_sl]; done)
    | (simp [up_at, av_sv, av_sl, al_sv, al_sl]; exact g4)
    | (intro k hk; simp only [List.mem_cons, List.not_mem_nil, or_false] at hk; rcases hk with rfl | rfl | rfl | rfl | rfl | rfl <;> simp [up_at, av_sv, av_sl, al_sv, al_sl]; done)
    | (intro g b hg; simp only [List.mem_cons, List.not_mem_nil, or_false] at hg; rcases hg with rfl | rfl | rfl | rfl | rfl | rfl | rfl | rfl <;> simp [up_at, av_sv, av_sl, al_sv, al_sl]; done)
theorem wr_getw {n k m : Nat} {hd : Option Nat} {R : St} {a : AS} {s : Int32} (h : RR n hd R a) (hm : (al a 2).length = m) (hk1 : k ∉ al a 1) (hk2 : k ∉ al a 2) (h47 : av a 12 0 0 ≠ 0 → (av a 47 0 0).toNatClampNeg ≠ k) : RR n hd (up (up (up R 129 0 0 k s) 159 0 0 m (nI k)) 50 0 62 0 (nI (m + 1))) (sl 2 (al a 2 ++ [k]) (sv 29 k 0 s a)) := by
  obtain ⟨g1, g2, g3, g4, g5, g6, g7, g8, g9, g10, g11, g12⟩ := h
  have hg : RRg (up (up (up R 129 0 0 k s) 159 0 0 m (nI k)) 50 0 62 0 (nI (m + 1))) (sl 2 (al a 2 ++ [k]) (sv 29 k 0 s a)) := by
    subst hm
    refine ⟨?_, fun j hj => ?_⟩
    · rw [al_sl, if_pos rfl]
      exact RRl_app g7.1 (by simp [up_at]) (fun i => by simp [up_at])
    · rw [al_sl, if_pos rfl] at hj
      rw [av_sl, av_sv]
      by_cases e : j = k
      · subst e
        rw [if_pos ⟨rfl, rfl, rfl⟩]
        simp [up_at]
      · rw [if_neg (by simp [e])]
        rcases List.mem_append.mp hj with hj | hj
        · simp [up_at, e]
          exact g7.2 j hj
        · exact absurd (List.mem_singleton.mp hj) e
  have ha : RRa (up (up (up R 129 0 0 k s) 159 0 0 m (nI k)) 50 0 62 0 (nI (m + 1))) (sl 2 (al a 2 ++ [k]) (sv 29 k 0 s a)) := by
    obtain ⟨⟨c1, c2⟩, c3⟩ := g8
    refine ⟨⟨?_, fun b p hb => ?_⟩, fun b p hb => ?_⟩
    · rw [al_sl, if_neg (by decide), al_sv]; simp [up_at]; exact c1
    · rw [al_sl, if_neg (by decide), al_sv] at hb; simp [up_at]; exact c2 b p hb
    · rw [al_sl, if_neg (by decide), al_sv] at hb
      have : p ≠ k := fun e => hk1 (e ▸ List.mem_of_getElem? hb)
      rw [av_sl, av_sv, if_neg (by simp [this])]
      simp [up_at]; exact c3 b p hb
  have hmm : RRm (up (up (up R 129 0 0 k s) 159 0 0 m (nI k)) 50 0 62 0 (nI (m + 1))) (sl 2 (al a 2 ++ [k]) (sv 29 k 0 s a)) := by
    obtain ⟨c1, c2⟩ := g11
    refine ⟨fun hb => ?_, fun hb => ?_⟩
    · rw [av_sl, av_o (by decide)] at hb
      simp only [av_sl, av_o (show 46 ≠ 29 by decide), av_o (show 47 ≠ 29 by decide)]
      rw [av_sv, if_neg (fun y => h47 hb y.2.1)]
      simp [up_at]
      exact c1 hb
    · rw [av_sl, av_o (by decide)] at hb
      simp only [av_sl, av_o (show 49 ≠ 29 by decide), av_o (show 50 ≠ 29 by decide), av_o (show 51 ≠ 29 by decide)]
      simp [up_at]
      exact c2 hb
  refine ⟨wRa (wRo (y := (50, 0, 62, 0)) (x := nI (m + 1)) (wRo (y := (159, 0, 0, m)) (x := nI k) (wRo (y := (129, 0, 0, k)) (x := s) g1 rfl) rfl) rfl) (fun f i j ho => by simp only [av_sv, av_sl]; rw [if_neg (by rintro ⟨rfl, -, -⟩; exact ho.elim)]), RRh_eq g2 ?_ ?_ ?_ ?_ ?_ ?_, RRs_eq g3 ?_ ?_, ?_, RRt_eq g5 ?_ ?_ ?_ ?_, RRe_eq g6 ?_ ?_ ?_ ?_, hg, ha, RRc_eq g9 ?_ ?_ ?_, RRf_eq g10 ?_ ?_ ?_ ?_ ?_, hmm, RRj_eq g12 ?_ ?_ ?_ ?_⟩
  all_goals first
    | rfl
    | (simp [up_at, av_sv, av_sl, al_sv, al_sl]; done)
    | (intro c; simp [up_at, av_sv, av_sl, al_sv, al_sl]; done)
    | (simp [up_at, av_sv, av_sl, al_sv, al_sl]; exact g4)
    | (intro k hk; simp only [List.mem_cons, List.not_mem_nil, or_false] at hk; rcases hk with rfl | rfl | rfl | rfl | rfl | rfl <;> simp [up_at, av_sv, av_sl, al_sv, al_sl]; done)
    | (intro g b hg; simp only [List.mem_cons, List.not_mem_nil, or_false] at hg; rcases hg with rfl | rfl | rfl | rfl | rfl | rfl | rfl | rfl <;> simp [up_at, av_sv, av_sl, al_sv, al_sl]; done)
theorem wr_cardr {n k m : Nat} {hd : Option Nat} {R : St} {a : AS} (h : RR n hd R a) (hm : (al a 3).length = m) : RR n hd (up (up R 158 0 0 m (nI k)) 50 0 61 0 (nI (m + 1))) (sl 3 (al a 3 ++ [k]) a) := by
  obtain ⟨g1, g2, g3, g4, g5, g6, g7, g8, g9, g10, g11, g12⟩ := h
  have hc : RRc (up (up R 158 0 0 m (nI k)) 50 0 61 0 (nI (m + 1))) (sl 3 (al a 3 ++ [k]) a) := by
    subst hm
    unfold RRc
    rw [al_sl, if_pos rfl]
    exact RRl_app g9 (by simp [up_at]) (fun i => by simp [up_at])
  refine ⟨wRo (y := (50, 0, 61, 0)) (x := nI (m + 1)) (wRo (y := (158, 0, 0, m)) (x := nI k) g1 rfl) rfl, RRh_eq g2 ?_ ?_ ?_ ?_ ?_ ?_, RRs_eq g3 ?_ ?_, ?_, RRt_eq g5 ?_ ?_ ?_ ?_, RRe_eq g6 ?_ ?_ ?_ ?_, RRg_eq g7 ?_ ?_ ?_ ?_ ?_, RRa_eq g8 ?_ ?_ ?_ ?_ ?_, hc, RRf_eq g10 ?_ ?_ ?_ ?_ ?_, RRm_eq g11 ?_ ?_, RRj_eq g12 ?_ ?_ ?_ ?_⟩
  all_goals first
    | rfl
    | (simp [up_at, av_sv, av_sl, al_sv, al_sl]; done)
    | (intro c; simp [up_at, av_sv, av_sl, al_sv, al_sl]; done)
    | (simp [up_at, av_sv, av_sl, al_sv, al_sl]; exact g4)
    | (intro k hk; simp only [List.mem_cons, List.not_mem_nil, or_false] at hk; rcases hk with rfl | rfl | rfl | rfl | rfl | rfl <;> simp [up_at, av_sv, av_sl, al_sv, al_sl]; done)
    | (intro g b hg; simp only [List.mem_cons, List.not_mem_nil, or_false] at hg; rcases hg with rfl | rfl | rfl | rfl | rfl | rfl | rfl | rfl <;> simp [up_at, av_sv, av_sl, al_sv, al_sl]; done)
