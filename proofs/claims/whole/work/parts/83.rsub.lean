/-! The reference: a job is submitted -/
theorem wr_new {n k : Nat} {hd : Option Nat} {R : St} {a : AS} (h : RR n hd R a) (hk : k < 6) (h14 : av a 14 k 0 = 3 ∨ (¬ av a 14 k 0 = 3 ∧ av a 16 k 0 = 0)) : RR n hd (up (up R 114 0 0 k 1) 115 0 0 k 0) (sv 16 k 0 0 (sv 14 k 0 1 a)) := by
  obtain ⟨g1, g2, g3, g4, g5, g6, g7, g8, g9, g10, g11, g12⟩ := h
  have he : RRe (up (up R 114 0 0 k 1) 115 0 0 k 0) (sv 16 k 0 0 (sv 14 k 0 1 a)) := by
    intro j hj
    obtain ⟨c1, c2⟩ := g6 j hj
    by_cases e : j = k
    · subst e
      have z : R 116 0 0 j = 0 := by
        rcases h14 with y | ⟨y1, y2⟩
        · rw [c1, if_pos y]
        · rw [c1, if_neg y1, y2]
      simp [up_at, av_sv]
      exact z
    · simp [up_at, av_sv, e]
      exact ⟨c1, c2⟩
  refine ⟨wRa (wRo (y := (115, 0, 0, k)) (x := 0) (wRd (f := 14) (i := k) (j := 0) (x := 1) g1 ⟨hk, rfl⟩) rfl) (fun f i j ho => by rw [av_o (by rintro rfl; exact ho.elim)]), RRh_eq g2 ?_ ?_ ?_ ?_ ?_ ?_, RRs_eq g3 ?_ ?_, ?_, RRt_eq g5 ?_ ?_ ?_ ?_, he, RRg_eq g7 ?_ ?_ ?_ ?_ ?_, RRa_eq g8 ?_ ?_ ?_ ?_ ?_, RRc_eq g9 ?_ ?_ ?_, RRf_eq g10 ?_ ?_ ?_ ?_ ?_, RRm_eq g11 ?_ ?_, RRj_eq g12 ?_ ?_ ?_ ?_⟩
  all_goals first
    | rfl
    | exact g4
    | (simp [up_at, av_sv, av_sl, al_sv, al_sl]; done)
    | (intro c; simp [up_at, av_sv, av_sl, al_sv, al_sl]; done)
    | (simp [up_at, av_sv, av_sl, al_sv, al_sl]; exact g4)
    | (intro k hk; simp only [List.mem_cons, List.not_mem_nil, or_false] at hk; rcases hk with rfl | rfl | rfl | rfl | rfl | rfl <;> simp [up_at, av_sv, av_sl, al_sv, al_sl]; done)
    | (intro g b hg; simp only [List.mem_cons, List.not_mem_nil, or_false] at hg; rcases hg with rfl | rfl | rfl | rfl | rfl | rfl | rfl | rfl <;> simp [up_at, av_sv, av_sl, al_sv, al_sl]; done)
theorem wr_29z {n k : Nat} {x : Int32} {hd : Option Nat} {R : St} {a : AS} (h : RR n hd R a) (hk1 : k ∉ al a 1) (hk2 : k ∉ al a 2) (h47 : av a 12 0 0 ≠ 0 → (av a 47 0 0).toNatClampNeg ≠ k) : RR n hd (R) (sv 29 k 0 x a) := by
  obtain ⟨g1, g2, g3, g4, g5, g6, g7, g8, g9, g10, g11, g12⟩ := h
  have hg : RRg R (sv 29 k 0 x a) := by
    refine ⟨g7.1, fun j hj => ?_⟩
    have : j ≠ k := fun e => hk2 (e ▸ hj)
    rw [av_sv, if_neg (by simp [this])]
    exact g7.2 j hj
  have ha : RRa R (sv 29 k 0 x a) := by
    refine ⟨g8.1, fun b p hb => ?_⟩
    have : p ≠ k := fun e => hk1 (e ▸ List.mem_of_getElem? hb)
    rw [av_sv, if_neg (by simp [this])]
    exact g8.2 b p hb
  have hmm : RRm R (sv 29 k 0 x a) := by
    obtain ⟨c1, c2⟩ := g11
    refine ⟨fun hb => ?_, fun hb => ?_⟩
    · rw [av_o (by decide)] at hb
      rw [av_o (show 46 ≠ 29 by decide), av_o (show 47 ≠ 29 by decide), av_sv, if_neg (fun y => h47 hb y.2.1)]
      exact c1 hb
    · rw [av_o (by decide)] at hb
      rw [av_o (show 49 ≠ 29 by decide), av_o (show 50 ≠ 29 by decide), av_o (show 51 ≠ 29 by decide)]
      exact c2 hb
  refine ⟨wRa g1 (fun f i j ho => av_o (by rintro rfl; exact ho.elim)), RRh_eq g2 ?_ ?_ ?_ ?_ ?_ ?_, RRs_eq g3 ?_ ?_, ?_, RRt_eq g5 ?_ ?_ ?_ ?_, RRe_eq g6 ?_ ?_ ?_ ?_, hg, ha, RRc_eq g9 ?_ ?_ ?_, RRf_eq g10 ?_ ?_ ?_ ?_ ?_, hmm, RRj_eq g12 ?_ ?_ ?_ ?_⟩
  all_goals first
    | rfl
    | exact g4
    | (simp [up_at, av_sv, av_sl, al_sv, al_sl]; done)
    | (intro c; simp [up_at, av_sv, av_sl, al_sv, al_sl]; done)
    | (simp [up_at, av_sv, av_sl, al_sv, al_sl]; exact g4)
    | (intro k hk; simp only [List.mem_cons, List.not_mem_nil, or_false] at hk; rcases hk with rfl | rfl | rfl | rfl | rfl | rfl <;> simp [up_at, av_sv, av_sl, al_sv, al_sl]; done)
    | (intro g b hg; simp only [List.mem_cons, List.not_mem_nil, or_false] at hg; rcases hg with rfl | rfl | rfl | rfl | rfl | rfl | rfl | rfl <;> simp [up_at, av_sv, av_sl, al_sv, al_sl]; done)
theorem claimI : ∀ u, u < 28 → (nI u &&& (1 : Int32)) = nI u - nI u / 2 * 2 ∧ ((nI u >>> ((1 : Int32) &&& 31)) &&& (1 : Int32)) = nI u / 2 - nI u / 2 / 2 * 2 := by decide +kernel
theorem sub_eq (k p c : Nat) (x3 x4 s : Int32) (y0 y1 y2 : Int32) (x5 : Int32) (a : AS) (h0 : y0 = x5 - x5 / 2 * 2) (h1 : y1 = x5 / 2 - x5 / 2 / 2 * 2) (h2 : y2 = x5 / 4) (hs : s = av a 25 0 0 + 1) : sv 34 k 0 0 (sv 29 k 0 0 (z_lc c k p (z_ld 128 k p (sv 36 k 0 0 (sv 32 k 0 0 (sv 31 k 0 (nI c) (z_h0 3 k (sv 26 k 2 y2 (sv 26 k 1 y1 (sv 26 k 0 y0 (sv 24 k 0 0 (sv 22 k 0 x3 (sv 21 k 0 x4 (sv 20 k 0 0 (sv 19 k 0 0 (sv 18 k 0 0 (sv 17 k 0 0 (sv 16 k 0 0 (sv 14 k 0 1 (sv 23 k 0 s (sv 25 0 0 s (sv 4 0 0 0 a)))))))))))))))))))))) = sv 4 0 0 0 (z_sub k p c x3 x4 x5 a) := by
  subst h0 h1 h2 hs
  unfold z_sub z_load z_claim z_renew
  refine as_ext (fun g b c => ?_) (fun q => rfl)
  have hg : g = 4 ∨ g = 14 ∨ g = 16 ∨ g = 17 ∨ g = 18 ∨ g = 19 ∨ g = 20 ∨ g = 21 ∨ g = 22 ∨ g = 23 ∨ g = 24 ∨ g = 25 ∨ g = 26 ∨ g = 27 ∨ g = 29 ∨ g = 30 ∨ g = 31 ∨ g = 32 ∨ g = 34 ∨ g = 36 ∨ g = 37 ∨ (g ≠ 4 ∧ g ≠ 14 ∧ g ≠ 16 ∧ g ≠ 17 ∧ g ≠ 18 ∧ g ≠ 19 ∧ g ≠ 20 ∧ g ≠ 21 ∧ g ≠ 22 ∧ g ≠ 23 ∧ g ≠ 24 ∧ g ≠ 25 ∧ g ≠ 26 ∧ g ≠ 27 ∧ g ≠ 29 ∧ g ≠ 30 ∧ g ≠ 31 ∧ g ≠ 32 ∧ g ≠ 34 ∧ g ≠ 36 ∧ g ≠ 37) := by omega
  rcases hg with rfl | rfl | rfl | rfl | rfl | rfl | rfl | rfl | rfl | rfl | rfl | rfl | rfl | rfl | rfl | rfl | rfl | rfl | rfl | rfl | rfl | ⟨g1, g2, g3, g4, g5, g6, g7, g8, g9, g10, g11, g12, g13, g14, g15, g16, g17, g18, g19, g20, g21⟩
  all_goals first
    | (simp [av_sv, av_h0, av_ld, av_lc]; done)
    | (simp [av_sv, av_h0, av_ld, av_lc, *]; done)
theorem m_submit {n t pg : Nat} {x1 x2 x3 x4 x5 : Int32} {R : St} {a : AS} (h : RR n none R a) (ht : av a 4 0 0 = nI t) (ht2 : t ≤ 200) (hpg : av a 1 0 0 = nI pg) (hpg2 : pg ≤ 6) (hV : ∀ k, z_vacant a = some k → (av a 14 k 0 = 3 ∨ (¬ av a 14 k 0 = 3 ∧ av a 16 k 0 = 0)) ∧ k ∉ al a 1 ∧ k ∉ al a 2 ∧ (av a 12 0 0 ≠ 0 → (av a 47 0 0).toNatClampNeg ≠ k) ∧ av a 34 k 0 = 0) : Rn (F_X12_submit x1 x2 x3 x4 x5 R) (fun r D => r = (z_submit x1 x2 x3 x4 x5 a).1 ∧ RR n none D (z_submit x1 x2 x3 x4 x5 a).2) := by
  have hD : RR n none (up R 50 0 4 0 0) (sv 4 0 0 0 a) := wr_4 h
  have find : ∀ (x7 : Int32) fu k, 6 < fu + k → k ≤ 6 → (∀ g, g < k → z_vj a g = false) → ∃ k', k' ≤ 6 ∧ (z_vacant a = if k' < 6 then some k' else none) ∧ F_X12_submit_104 fu x1 x2 x3 x4 x5 x7 (nI k) (up R 50 0 4 0 0) = F_X12_submit_138 x1 x2 x3 x4 x5 x7 (nI k') (up R 50 0 4 0 0) := by
    intro x7 fu
    induction fu with
    | zero => intro k h1 h2; omega
    | succ fu ih =>
      intro k h1 h2 h3
      rw [F_X12_submit_104]
      by_cases e : k = 6
      · subst e
        refine ⟨6, by omega, ?_, ?_⟩
        · rw [if_neg (by decide)]
          unfold z_vacant
          rw [List.find?_range_eq_none]
          intro i hi
          simp [h3 i hi]
        · rw [if_pos (show (6 : Int32) ≤ nI 6 by decide)]
      · have hk : k < 6 := by omega
        rw [if_neg (show ¬ (6 : Int32) ≤ nI k from nI_ge (b := 6) hk (by decide)), show (nI k).toNatClampNeg = k from nI_clamp (by omega), rr_14 hD hk, av_o (by decide), nI_1]
        unfold gd
        rw [if_pos (inb_nI hk (by decide))]
        have yes : z_vj a k = true → z_vacant a = some k := by
          intro hv
          unfold z_vacant
          rw [List.find?_range_eq_some]
          exact ⟨hv, List.mem_range.mpr hk, fun j hj => by simp [h3 j hj]⟩
        by_cases e1 : av a 14 k 0 = 0
        · rw [if_pos e1]
          exact ⟨k, h2, by rw [if_pos hk]; exact yes (by unfold z_vj; simp [e1]), rfl⟩
        · rw [if_neg e1]
          by_cases e2 : av a 14 k 0 = 3
          · rw [if_pos e2]
            exact ⟨k, h2, by rw [if_pos hk]; exact yes (by unfold z_vj; simp [e2]), rfl⟩
          · rw [if_neg e2]
            refine ih (k + 1) (by omega) (by omega) (fun g hg => ?_)
            by_cases eg : g = k
            · subst eg
              unfold z_vj
              simp [e1, e2]
            · exact h3 g (by omega)
  have no : z_good x1 x2 x3 x4 x5 a = false → Rn (F_X12_submit_99 x1 x2 x3 x4 x5 0 (up R 50 0 4 0 0)) (fun r D => r = (z_submit x1 x2 x3 x4 x5 a).1 ∧ RR n none D (z_submit x1 x2 x3 x4 x5 a).2) := by
    intro hg
    have hz : z_submit x1 x2 x3 x4 x5 a = (-1, sv 4 0 0 0 a) := by
      unfold z_submit
      rw [if_neg (by rw [hg]; decide)]
    rw [hz]
    unfold F_X12_submit_99
    obtain ⟨k, hk, hv, e⟩ := find 0 1000 0 (by omega) (by omega) (fun g hg => absurd hg (Nat.not_lt_zero g))
    have e : F_X12_submit_104 1000 x1 x2 x3 x4 x5 0 0 (up R 50 0 4 0 0) = _ := e
    rw [e]
    unfold F_X12_submit_138 F_X12_submit_150
    exact rn_pos rfl (rn_ret ⟨rfl, hD⟩)
  unfold F_X12_submit F_X12_submit_56
  refine rn_st ?_
  have no57 : z_good x1 x2 x3 x4 x5 a = false → Rn (F_X12_submit_57 x1 x2 x3 x4 x5 0 (up R 50 0 4 0 0)) (fun r D => r = (z_submit x1 x2 x3 x4 x5 a).1 ∧ RR n none D (z_submit x1 x2 x3 x4 x5 a).2) := by
    intro hg
    unfold F_X12_submit_57 F_X12_submit_98
    exact rn_pos rfl (no hg)
  have e16 : (16 : Int32) * x3 = x3 * 16 := Int32.mul_comm _ _
  rw [rr_4 h, e16]
  refine rn_if (fun e => no57 (by unfold z_good z_deck; simp [e])) (fun d1 => rn_if (fun e => no57 (by unfold z_good z_deck; simp [e])) (fun d2 => rn_if (fun e => no57 (by unfold z_good z_deck; simp [e])) (fun d3 => rn_if (fun e => no57 (by unfold z_good z_deck; simp [e])) (fun d4 => rn_if (fun e => no57 (by unfold z_good z_deck; simp [e])) (fun d5 => rn_if (fun e => no57 (by unfold z_good z_deck; simp [e])) (fun d6 => rn_if (fun e => no57 (by unfold z_good z_deck; simp [e])) (fun d7 => ?_)))))))
  have hdk : z_deck x1 x2 x3 a = true := by unfold z_deck; simp [d1, d2, d3, d4, d5, d6, d7]
  unfold F_X12_submit_57 F_X12_submit_98
  rw [rr_1 hD, av_o (by decide)]
  refine rn_neg (by decide) (rn_if (fun e => no (by unfold z_good; simp [e])) (fun d8 => rn_if (fun e => no (by unfold z_good; simp [e])) (fun d9 => rn_if (fun e => no (by unfold z_good; simp [e])) (fun d10 => rn_if (fun e => no (by unfold z_good; simp [e])) (fun d11 => ?_)))))
  have hgd : z_good x1 x2 x3 x4 x5 a = true := by unfold z_good; simp [hdk, d8, d9, d10, d11]
  unfold F_X12_submit_99
  obtain ⟨k, hk, hv, e⟩ := find 1 1000 0 (by omega) (by omega) (fun g hg => absurd hg (Nat.not_lt_zero g))
  have e : F_X12_submit_104 1000 x1 x2 x3 x4 x5 1 0 (up R 50 0 4 0 0) = _ := e
  rw [e]
  unfold F_X12_submit_138 F_X12_submit_150
  refine rn_neg (by decide) ?_
  by_cases c6 : k = 6
  · rw [if_neg (by omega)] at hv
    have hz : z_submit x1 x2 x3 x4 x5 a = (-1, sv 4 0 0 0 a) := by
      unfold z_submit
      rw [if_pos hgd, hv]
    rw [hz]
    exact rn_pos (by rw [c6]; rfl) (rn_ret ⟨rfl, hD⟩)
  · have hk6 : k < 6 := by omega
    rw [if_pos hk6] at hv
    obtain ⟨v1, v2, v3, v4, v5⟩ := hV k hv
    obtain ⟨p, c, g, rfl, rfl, rfl, g1, g8, p16, c40, pct⟩ := deck_n ht ht2 hdk
    have hz : z_submit (nI p) (nI c) (nI g) x4 x5 a = (nI k, sv 4 0 0 0 (z_sub k p c (nI g) x4 x5 a)) := by
      unfold z_submit
      rw [if_pos hgd, hv]
      simp only
      rw [show (nI p).toNatClampNeg = p from nI_clamp (by omega), show (nI c).toNatClampNeg = c from nI_clamp (by omega)]
    rw [hz]
    obtain ⟨u, hu0, rfl⟩ := nI_of d10
    have hu : u < 28 := by
      have e4 : nI u / 4 = nI (u / 4) := pk_div (d := 4) hu0 (by decide) (by decide)
      rw [e4, hpg] at d11
      have : u / 4 ≤ pg := Classical.byContradiction fun hh => d11 (nI_lt (by omega) (by omega))
      omega
    obtain ⟨cl0, cl1⟩ := claimI u hu
    have ekk : (nI k).toNatClampNeg = k := nI_clamp (by omega)
    have g6 := inb_nI hk6 (show 6 < 2 ^ 31 by decide)
    have i0 : (3 : Int32) * nI k = nI (3 * k + 0) := mulN0 3 k
    have i1 : (3 : Int32) * nI k + 1 = nI (3 * k + 1) := mulN 3 k 1
    have i2 : (3 : Int32) * nI k + 2 = nI (3 * k + 2) := mulN 3 k 2
    refine rn_neg (fun y => c6 ((nI_eq (b := 6) (by omega) (by decide)).mp y)) ?_
    rw [rr_25 hD, av_o (by decide), ekk]
    refine rn_st ?_
    have h25 := wr_25 (x := av a 25 0 0 + 1) hD
    rw [rr_25 h25, av_s]
    refine rn_gd g6 (rn_st (rn_st (rn_st (rn_st (rn_st (rn_st (rn_st (rn_st (rn_st (rn_st ?_))))))))))
    have h23 := wr_23 (x := av a 25 0 0 + 1) h25 hk6
    have h14 := wr_new h23 hk6 (by
      rw [av_o (show 14 ≠ 23 by decide), av_o (show 14 ≠ 25 by decide), av_o (show 14 ≠ 4 by decide), av_o (show 16 ≠ 23 by decide), av_o (show 16 ≠ 25 by decide), av_o (show 16 ≠ 4 by decide)]
      exact v1)
    have h24 := wr_24 (x := 0) (wr_22 (x := nI g) (wr_21 (x := x4) (wr_20 (x := 0) (wr_19 (x := 0) (wr_18 (x := 0) (wr_17 (x := 0) h14 hk6) hk6) hk6) hk6) hk6) hk6) hk6
    rw [i1, i2, i0, show (nI (3 * k + 0)).toNatClampNeg = 3 * k + 0 from nI_clamp (by omega), show (nI (3 * k + 1)).toNatClampNeg = 3 * k + 1 from nI_clamp (by omega), show (nI (3 * k + 2)).toNatClampNeg = 3 * k + 2 from nI_clamp (by omega)]
    refine rn_gd (inb_nI (by omega) (by decide)) (rn_st (rn_gd (inb_nI (by omega) (by decide)) (rn_st (rn_gd (inb_nI (by omega) (by decide)) (rn_st ?_)))))
    have h26 := wr_26 (j := 2) (x := nI u / 4) (wr_26 (j := 1) (x := (nI u >>> ((1 : Int32) &&& 31)) &&& (1 : Int32)) (wr_26 (j := 0) (x := nI u &&& (1 : Int32)) h24 hk6 (by decide)) hk6 (by decide)) hk6 (by decide)
    generalize hA : sv 26 k 2 (nI u / 4) (sv 26 k 1 ((nI u >>> ((1 : Int32) &&& 31)) &&& (1 : Int32)) (sv 26 k 0 (nI u &&& (1 : Int32)) (sv 24 k 0 0 (sv 22 k 0 (nI g) (sv 21 k 0 x4 (sv 20 k 0 0 (sv 19 k 0 0 (sv 18 k 0 0 (sv 17 k 0 0 (sv 16 k 0 0 (sv 14 k 0 1 (sv 23 k 0 (av a 25 0 0 + 1) (sv 25 0 0 (av a 25 0 0 + 1) (sv 4 0 0 0 a)))))))))))))) = A at h26
    have A3 : ∀ i, av A 3 i 0 = av a 3 i 0 := fun i => by rw [← hA]; simp [av_sv]
    have A12 : av A 12 0 0 = av a 12 0 0 := by rw [← hA]; simp [av_sv]
    have A47 : av A 47 0 0 = av a 47 0 0 := by rw [← hA]; simp [av_sv]
    have A34 : av A 34 k 0 = av a 34 k 0 := by rw [← hA]; simp [av_sv]
    have Al : ∀ q, al A q = al a q := fun q => by rw [← hA]; rfl
    generalize hB : sv 32 k 0 0 (sv 31 k 0 (nI c) (z_h0 3 k A)) = B
    have B3 : ∀ i, av (sv 36 k 0 0 B) 3 i 0 = av a 3 i 0 := fun i => by rw [← hB]; simp [av_sv, av_h0, A3]
    have fin : ∀ D, RR n none D (z_lc c k p (z_ld 128 k p (sv 36 k 0 0 B))) → RR n none D (sv 4 0 0 0 (z_sub k p c (nI g) x4 (nI u) a)) := by
      intro D hD2
      have e29 : ∀ g, g ≠ 30 → g ≠ 31 → g ≠ 32 → g ≠ 36 → g ≠ 37 → g ≠ 27 → ∀ i j, av (z_lc c k p (z_ld 128 k p (sv 36 k 0 0 B))) g i j = av A g i j := fun g y1 y2 y3 y4 y5 y6 i j => by
        rw [← hB, av_lc, if_neg (fun z => y1 z.1), av_ld, if_neg (fun z => y5 z.1), av_o y4, av_o y3, av_o y2, av_h0, if_neg (fun z => y6 z.1)]
      have eL : ∀ q, al (z_lc c k p (z_ld 128 k p (sv 36 k 0 0 B))) q = al a q := fun q => by rw [← hB]; exact Al q
      have h29 := wr_29z (k := k) (x := 0) hD2 (by rw [eL]; exact v2) (by rw [eL]; exact v3) (by
        rw [e29 12 (by decide) (by decide) (by decide) (by decide) (by decide) (by decide), e29 47 (by decide) (by decide) (by decide) (by decide) (by decide) (by decide), A12, A47]
        exact v4)
      have e34 : sv 34 k 0 0 (sv 29 k 0 0 (z_lc c k p (z_ld 128 k p (sv 36 k 0 0 B)))) = sv 29 k 0 0 (z_lc c k p (z_ld 128 k p (sv 36 k 0 0 B))) := by
        refine as_ext (fun g b cc => ?_) (fun q => rfl)
        rw [av_sv]
        by_cases y : g = 34 ∧ b = k ∧ cc = 0
        · obtain ⟨rfl, rfl, rfl⟩ := y
          rw [if_pos ⟨rfl, rfl, rfl⟩, av_o (by decide), e29 34 (by decide) (by decide) (by decide) (by decide) (by decide) (by decide), A34, v5]
        · rw [if_neg y]
      rw [← e34, ← hB, ← hA] at h29
      rw [sub_eq k p c (nI g) x4 (av a 25 0 0 + 1) _ _ _ (nI u) a cl0 cl1 rfl rfl] at h29
      exact h29
    have cards : ∀ fu m D, c < fu + m → m ≤ c → RR n none D (z_lc m k p (z_ld 128 k p (sv 36 k 0 0 B))) → Rn (F_X12_submit_394 fu (nI p) (nI c) (nI k) (nI m) D) (fun r D => r = nI k ∧ RR n none D (sv 4 0 0 0 (z_sub k p c (nI g) x4 (nI u) a))) := by
      intro fu
      induction fu with
      | zero => intro m D y1 y2; omega
      | succ fu ih =>
        intro m D y1 y2 hR
        unfold F_X12_submit_394
        by_cases em : m = c
        · subst em
          exact rn_pos (nI_le (Nat.le_refl _) (by omega)) (rn_ret ⟨rfl, fin D hR⟩)
        · have hm : m < c := by omega
          rw [nI_add, show (40 : Int32) * nI k + nI m = nI (40 * k + m) from mulN 40 k m, show (nI (40 * k + m)).toNatClampNeg = 40 * k + m from nI_clamp (by omega), show (nI (p + m)).toNatClampNeg = p + m from nI_clamp (by omega), rr_3 hR (by omega), nI_1]
          refine rn_neg (nI_ge hm (by omega)) (rn_gd (inb_nI (by omega) (by decide)) (rn_gd (inb_nI (by omega) (by decide)) (rn_st (ih (m + 1) _ (by omega) (by omega) ?_))))
          have e3 : av (z_lc m k p (z_ld 128 k p (sv 36 k 0 0 B))) 3 (p + m) 0 = av (z_ld 128 k p (sv 36 k 0 0 B)) 3 (p + m) 0 := by rw [av_lc, if_neg (by simp)]
          rw [e3, ← lc_succ]
          exact wr_30 hR hk6 (by omega)
    have drum : ∀ fu m D, 128 < fu + m → m ≤ 128 → RR n none D (z_ld m k p (sv 36 k 0 0 B)) → Rn (F_X12_submit_346 fu (nI p) (nI c) (nI k) (nI m) D) (fun r D => r = nI k ∧ RR n none D (sv 4 0 0 0 (z_sub k p c (nI g) x4 (nI u) a))) := by
      intro fu
      induction fu with
      | zero => intro m D y1 y2; omega
      | succ fu ih =>
        intro m D y1 y2 hR
        unfold F_X12_submit_346 F_X12_submit_384
        by_cases em : m = 128
        · subst em
          refine rn_pos (show (128 : Int32) ≤ nI 128 by decide) (cards 1000 0 D (by omega) (by omega) ?_)
          rw [lc0]
          exact hR
        · have hm : m < 128 := by omega
          rw [show (128 : Int32) * nI k + nI m = nI (128 * k + m) from mulN 128 k m, show (nI (128 * k + m)).toNatClampNeg = 128 * k + m from nI_clamp (by omega), nI_1]
          refine rn_neg (nI_ge (b := 128) hm (by decide)) ?_
          have nx : RR n none (up D 137 0 0 (128 * k + m) (if m < p then av (sv 36 k 0 0 B) 3 m 0 else 0)) (z_ld (m + 1) k p (sv 36 k 0 0 B)) := by
            rw [← ld_succ]
            exact wr_37 hR hk6 hm
          by_cases cp : m < p
          · rw [if_pos cp] at nx
            refine rn_neg (nI_ge cp (by omega)) (rn_gd (inb_nI (by omega) (by decide)) (rn_gd (inb_nI (by omega) (by decide)) (rn_st (ih (m + 1) _ (by omega) (by omega) ?_))))
            rw [show (nI m).toNatClampNeg = m from nI_clamp (by omega), rr_3 hR (by omega), av_ld, if_neg (by simp)]
            exact nx
          · rw [if_neg cp] at nx
            exact rn_pos (nI_le (by omega) (by omega)) (rn_gd (inb_nI (by omega) (by decide)) (rn_st (ih (m + 1) _ (by omega) (by omega) nx)))
    have hold : ∀ fu r D, 3 < fu + r → r ≤ 3 → RR n none D (z_h0 r k A) → Rn (F_X12_submit_294 fu (nI p) (nI c) (nI k) (nI r) D) (fun r D => r = nI k ∧ RR n none D (sv 4 0 0 0 (z_sub k p c (nI g) x4 (nI u) a))) := by
      intro fu
      induction fu with
      | zero => intro r D y1 y2; omega
      | succ fu ih =>
        intro r D y1 y2 hR
        unfold F_X12_submit_294
        by_cases er : r = 3
        · subst er
          rw [ekk]
          refine rn_pos (show (3 : Int32) ≤ nI 3 by decide) (rn_gd g6 (rn_st (rn_st (rn_st (drum 1000 0 _ (by omega) (by omega) ?_)))))
          rw [ld0, ← hB]
          exact wr_36 (wr_32 (wr_31 hR hk6) hk6) hk6
        · have hr : r < 3 := by omega
          rw [show (3 : Int32) * nI k + nI r = nI (3 * k + r) from mulN 3 k r, show (nI (3 * k + r)).toNatClampNeg = 3 * k + r from nI_clamp (by omega), nI_1]
          refine rn_neg (nI_ge (b := 3) hr (by decide)) (rn_gd (inb_nI (by omega) (by decide)) (rn_st (ih (r + 1) _ (by omega) (by omega) ?_)))
          rw [← h0_succ]
          exact wr_27 hR hk6 hr
    refine hold 1000 0 _ (by omega) (by omega) ?_
    rw [h0_0]
    exact h26
