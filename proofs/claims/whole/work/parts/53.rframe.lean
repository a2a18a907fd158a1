/-! The reference: pieces of its relation one by one, frames, the console's sayings -/
theorem RRh_eq {hd : Option Nat} {R D : St} {a a' : AS} (h : RRh hd R a) (e1 : D 50 0 6 0 = R 50 0 6 0) (e2 : D 50 0 7 0 = R 50 0 7 0) (e3 : ∀ c, D 108 0 0 c = R 108 0 0 c) (e4 : ∀ c, D 109 0 0 c = R 109 0 0 c) (el : al a' 0 = al a 0) (ea : av a' 7 0 0 = av a 7 0 0) : RRh hd D a' := by
  obtain ⟨⟨b1, b2⟩, b3, b4, b5⟩ := h
  refine ⟨⟨?_, ?_⟩, ?_, ?_, ?_⟩
  · rw [e1, el]; exact b1
  · rw [el]; intro i p hi; rw [e3]; exact b2 i p hi
  · rw [el]; intro p hp; rw [e4]; exact b3 p hp
  · intro p hp; rw [e4]; exact b4 p hp
  · intro hh; rw [e2, ea]; exact b5 hh
theorem RRs_eq {R D : St} {a a' : AS} (h : RRs R a) (e : ∀ c, D 111 0 0 c = R 111 0 0 c) (ea : ∀ s, av a' 71 s 0 = av a 71 s 0) : RRs D a' := by
  intro p hp
  rw [e, h p hp]
  unfold sg
  simp only [ea]
theorem RRt_eq {R D : St} {a a' : AS} (h : RRt R a) (e : ∀ c, D 112 0 0 c = R 112 0 0 c) (e1 : av a' 12 0 0 = av a 12 0 0) (e2 : av a' 54 0 0 = av a 54 0 0) (e3 : av a' 55 0 0 = av a 55 0 0) : RRt D a' := by
  refine ⟨?_, ?_, ?_⟩
  · rw [e, e1]; exact h.1
  · rw [e, e2]; exact h.2.1
  · rw [e, e3]; exact h.2.2
theorem RRe_eq {R D : St} {a a' : AS} (h : RRe R a) (e : ∀ c, D 116 0 0 c = R 116 0 0 c) (e0 : ∀ c, D 115 0 0 c = R 115 0 0 c) (e1 : ∀ k, av a' 14 k 0 = av a 14 k 0) (e2 : ∀ k, av a' 16 k 0 = av a 16 k 0) : RRe D a' := by
  intro k hk
  rw [e, e0, e1, e2]
  exact h k hk
theorem RRg_eq {R D : St} {a a' : AS} (h : RRg R a) (e : D 50 0 62 0 = R 50 0 62 0) (e0 : ∀ c, D 159 0 0 c = R 159 0 0 c) (e1 : ∀ c, D 129 0 0 c = R 129 0 0 c) (el : al a' 2 = al a 2) (ea : ∀ k, av a' 29 k 0 = av a 29 k 0) : RRg D a' := by
  refine ⟨⟨?_, fun b p hb => ?_⟩, fun k hk => ?_⟩
  · rw [e, el]; exact h.1.1
  · rw [el] at hb; rw [e0]; exact h.1.2 b p hb
  · rw [el] at hk; rw [e1, ea]; exact h.2 k hk
theorem RRa_eq {R D : St} {a a' : AS} (h : RRa R a) (e : D 50 0 60 0 = R 50 0 60 0) (e0 : ∀ c, D 156 0 0 c = R 156 0 0 c) (e1 : ∀ c, D 157 0 0 c = R 157 0 0 c) (el : al a' 1 = al a 1) (ea : ∀ k, av a' 29 k 0 = av a 29 k 0) : RRa D a' := by
  refine ⟨⟨?_, fun b p hb => ?_⟩, fun b p hb => ?_⟩
  · rw [e, el]; exact h.1.1
  · rw [el] at hb; rw [e0]; exact h.1.2 b p hb
  · rw [el] at hb; rw [e1, ea]; exact h.2 b p hb
theorem RRc_eq {R D : St} {a a' : AS} (h : RRc R a) (e : D 50 0 61 0 = R 50 0 61 0) (e0 : ∀ c, D 158 0 0 c = R 158 0 0 c) (el : al a' 3 = al a 3) : RRc D a' := by
  refine ⟨?_, fun b p hb => ?_⟩
  · rw [e, el]; exact h.1
  · rw [el] at hb; rw [e0]; exact h.2 b p hb
theorem RRf_eq {n : Nat} {R D : St} {a a' : AS} (h : RRf n R a) (e : ∀ c, D 142 0 0 c = R 142 0 0 c) (e0 : ∀ c, D 143 0 0 c = R 143 0 0 c) (e1 : ∀ k, av a' 39 k 0 = av a 39 k 0) (e2 : ∀ k, av a' 42 k 0 = av a 42 k 0) (e3 : ∀ k, av a' 43 k 0 = av a 43 k 0) : RRf n D a' := by
  intro b hb hn
  rw [e1] at hn
  rw [e, e0, e2, e3]
  exact h b hb hn
theorem RRm_eq {R D : St} {a a' : AS} (h : RRm R a) (e : ∀ k, k ∈ [46, 47, 48, 49, 50, 51] → D 50 0 k 0 = R 50 0 k 0) (ea : ∀ g b, g ∈ [12, 29, 46, 47, 45, 49, 50, 51] → av a' g b 0 = av a g b 0) : RRm D a' := by
  refine ⟨fun hb => ?_, fun hb => ?_⟩
  · rw [ea 12 _ (by decide)] at hb
    rw [e 46 (by decide), e 47 (by decide), e 48 (by decide), ea 46 _ (by decide), ea 47 _ (by decide), ea 29 _ (by decide)]
    exact h.1 hb
  · rw [ea 45 _ (by decide)] at hb
    rw [e 49 (by decide), e 50 (by decide), e 51 (by decide), ea 49 _ (by decide), ea 50 _ (by decide), ea 51 _ (by decide)]
    exact h.2 hb
theorem RRj_eq {R D : St} {a a' : AS} (h : RRj R a) (e : D 50 0 54 0 = R 50 0 54 0) (e0 : D 50 0 55 0 = R 50 0 55 0) (e1 : av a' 54 0 0 = av a 54 0 0) (e2 : av a' 55 0 0 = av a 55 0 0) : RRj D a' := by
  refine ⟨fun hb => ?_, fun hb => ?_⟩
  · rw [e1] at hb ⊢
    rw [e]
    exact h.1 hb
  · rw [e2] at hb ⊢
    rw [e0]
    exact h.2 hb
theorem wr_43 {n f : Nat} {hd : Option Nat} {R : St} {a : AS} {x : Int32} (h : RR n hd R a) : RR n hd (up R 143 0 0 f x) (sv 43 f 0 x a) := by
  obtain ⟨g1, g2, g3, g4, g5, g6, g7, g8, g9, g10, g11, g12⟩ := h
  have hf : RRf n (up R 143 0 0 f x) (sv 43 f 0 x a) := by
    intro b hb hn
    rw [av_sv, if_neg (by simp)] at hn
    obtain ⟨c1, c2⟩ := g10 b hb hn
    refine ⟨?_, ?_⟩
    · rw [up_at, if_neg (by simp), av_sv, if_neg (by simp)]; exact c1
    · rw [up_at, av_sv]
      by_cases e : b = f
      · rw [if_pos ⟨rfl, rfl, rfl, e⟩, if_pos ⟨rfl, e, rfl⟩]
      · rw [if_neg (by simp [e]), if_neg (by simp [e])]; exact c2
  refine ⟨wRa (wRo (y := (143, 0, 0, f)) (x := x) g1 rfl) (fun g i j ho => ?_), RRh_eq g2 ?_ ?_ ?_ ?_ rfl ?_, RRs_eq g3 ?_ ?_, ?_, RRt_eq g5 ?_ ?_ ?_ ?_, RRe_eq g6 ?_ ?_ ?_ ?_, RRg_eq g7 ?_ ?_ ?_ rfl ?_, RRa_eq g8 ?_ ?_ ?_ rfl ?_, RRc_eq g9 ?_ ?_ rfl, hf, RRm_eq g11 ?_ ?_, RRj_eq g12 ?_ ?_ ?_ ?_⟩
  · rw [av_sv, if_neg]; rintro ⟨rfl, -, -⟩; exact ho.elim
  all_goals first
    | (rw [up_at, if_neg (by simp)]; done)
    | (rw [up_at, if_neg (by simp)]; exact g4)
    | (intro c; rw [up_at, if_neg (by simp)]; done)
    | (rw [av_sv, if_neg (by simp)]; done)
    | (intro c; rw [av_sv, if_neg (by simp)]; done)
    | (intro k hk; rw [up_at, if_neg (by simp)]; done)
    | (intro g b hg; rw [av_sv, if_neg (by rintro ⟨rfl, -, -⟩; simp at hg)]; done)
theorem wr_42 {n f : Nat} {hd : Option Nat} {R : St} {a : AS} {x : Int32} (h : RR n hd R a) : RR n hd (up R 142 0 0 f x) (sv 42 f 0 x a) := by
  obtain ⟨g1, g2, g3, g4, g5, g6, g7, g8, g9, g10, g11, g12⟩ := h
  have hf : RRf n (up R 142 0 0 f x) (sv 42 f 0 x a) := by
    intro b hb hn
    rw [av_sv, if_neg (by simp)] at hn
    obtain ⟨c1, c2⟩ := g10 b hb hn
    refine ⟨?_, ?_⟩
    · rw [up_at, av_sv]
      by_cases e : b = f
      · rw [if_pos ⟨rfl, rfl, rfl, e⟩, if_pos ⟨rfl, e, rfl⟩]
      · rw [if_neg (by simp [e]), if_neg (by simp [e])]; exact c1
    · rw [up_at, if_neg (by simp), av_sv, if_neg (by simp)]; exact c2
  refine ⟨wRa (wRo (y := (142, 0, 0, f)) (x := x) g1 rfl) (fun g i j ho => ?_), RRh_eq g2 ?_ ?_ ?_ ?_ rfl ?_, RRs_eq g3 ?_ ?_, ?_, RRt_eq g5 ?_ ?_ ?_ ?_, RRe_eq g6 ?_ ?_ ?_ ?_, RRg_eq g7 ?_ ?_ ?_ rfl ?_, RRa_eq g8 ?_ ?_ ?_ rfl ?_, RRc_eq g9 ?_ ?_ rfl, hf, RRm_eq g11 ?_ ?_, RRj_eq g12 ?_ ?_ ?_ ?_⟩
  · rw [av_sv, if_neg]; rintro ⟨rfl, -, -⟩; exact ho.elim
  all_goals first
    | (rw [up_at, if_neg (by simp)]; done)
    | (rw [up_at, if_neg (by simp)]; exact g4)
    | (intro c; rw [up_at, if_neg (by simp)]; done)
    | (rw [av_sv, if_neg (by simp)]; done)
    | (intro c; rw [av_sv, if_neg (by simp)]; done)
    | (intro k hk; rw [up_at, if_neg (by simp)]; done)
    | (intro g b hg; rw [av_sv, if_neg (by rintro ⟨rfl, -, -⟩; simp at hg)]; done)
theorem m_say {n m : Nat} {hd : Option Nat} {x : Int32} {R : St} {a : AS} (h : RR n hd R a) (hm : av a 69 0 0 = nI m) (hm2 : m < 2 ^ 30) : Rn (F_X12_say x R) (fun r D => r = 0 ∧ RR n hd D (sv 69 0 0 (nI (m + 1)) (if m < 600 then sv 66 m 0 x a else a))) := by
  unfold F_X12_say F_X12_say_20
  rw [rr_69 h, hm]
  by_cases e : m < 600
  · rw [if_pos e, nI_clamp (by omega)]
    refine rn_neg (nI_ge (b := 600) e (by decide)) (rn_gd (inb_nI e (by decide)) (rn_st (rn_st (rn_ret ⟨rfl, ?_⟩))))
    have h2 : RR n hd (up R 166 0 0 m x) (sv 66 m 0 x a) := wr_66 h e
    rw [rr_69 h2, av_sv, if_neg (by simp), hm, nI_1]
    exact wr_69 h2
  · rw [if_neg e]
    refine rn_pos (nI_le (a := 600) (by omega) (by omega)) (rn_st (rn_ret ⟨rfl, ?_⟩))
    rw [nI_1]
    exact wr_69 h
theorem m_frameOf {n k : Nat} {s : Int32} {hd : Option Nat} {R : St} {a : AS} (h : RR n hd R a) (hn : n ≤ 12) (hu : ∀ f g, f < n → g < n → z_mt k s a f = true → z_mt k s a g = true → f = g) : F_X12_frameOf (nI k) s R = some (oI (z_find n k s a), R) := by
  have hN : R 50 0 0 0 = nI n := h.2.2.2.1
  have key : ∀ fu f, n < fu + f → f ≤ n → ∀ x, (x = match z_find n k s a with | some g => if g < f then nI g else -1 | none => -1) → Rn (F_X12_frameOf_5 fu (nI k) s x (nI f) R) (fun r D => r = oI (z_find n k s a) ∧ D = R) := by
    intro fu
    induction fu with
    | zero => intro f h1 h2; omega
    | succ fu ih =>
      intro f h1 h2 x hx
      unfold F_X12_frameOf_5
      rw [hN]
      by_cases e : f = n
      · subst e
        refine rn_pos (nI_le (Nat.le_refl _) (by omega)) (rn_ret ⟨?_, rfl⟩)
        rw [hx]
        cases hz : z_find f k s a with
        | none => rfl
        | some g =>
          have : g < f := by
            unfold z_find at hz
            exact List.mem_range.mp (List.find?_range_eq_some.mp hz).2.1
          simp only [this, if_true]
          rfl
      · have hf : f < n := by omega
        refine rn_neg (nI_ge hf (by omega)) (rn_gd (inb_nI (by omega) (by decide)) ?_)
        rw [nI_clamp (by omega), rr_39 h hf, rr_40 h hf]
        have no : z_mt k s a f = false → (x = match z_find n k s a with | some g => if g < f + 1 then nI g else -1 | none => -1) := by
          intro hm
          rw [hx]
          cases hz : z_find n k s a with
          | none => rfl
          | some g =>
            have hg : z_mt k s a g = true := by
              unfold z_find at hz
              exact (List.find?_range_eq_some.mp hz).1
            have : g ≠ f := by rintro rfl; rw [hg] at hm; cases hm
            simp only
            by_cases c : g < f
            · rw [if_pos c, if_pos (by omega)]
            · rw [if_neg c, if_neg (by omega)]
        refine rn_if (fun e1 => rn_if (fun e2 => ?_) (fun e2 => ?_)) (fun e1 => ?_)
        · show Rn (F_X12_frameOf_5 fu (nI k) s (nI f) (nI f + 1) R) _
          rw [nI_1]
          refine ih (f + 1) (by omega) (by omega) _ ?_
          have hm : z_mt k s a f = true := by unfold z_mt; simp [e1, e2]
          cases hz : z_find n k s a with
          | none =>
            unfold z_find at hz
            rw [List.find?_range_eq_none] at hz
            have := hz f hf
            rw [hm] at this
            cases this
          | some g =>
            have hg : z_mt k s a g = true ∧ g < n := by
              unfold z_find at hz
              exact ⟨(List.find?_range_eq_some.mp hz).1, List.mem_range.mp (List.find?_range_eq_some.mp hz).2.1⟩
            have : g = f := hu g f hg.2 hf hg.1 hm
            subst this
            simp
        · show Rn (F_X12_frameOf_5 fu (nI k) s x (nI f + 1) R) _
          rw [nI_1]
          exact ih (f + 1) (by omega) (by omega) _ (no (by unfold z_mt; simp [e2]))
        · show Rn (F_X12_frameOf_5 fu (nI k) s x (nI f + 1) R) _
          rw [nI_1]
          exact ih (f + 1) (by omega) (by omega) _ (no (by unfold z_mt; simp [e1]))
  refine rn_eq (key 1000 0 (by omega) (by omega) (-1) ?_)
  cases z_find n k s a with
  | none => rfl
  | some g => simp
