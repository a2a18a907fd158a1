/-! The reference: instructions -/
theorem wr_free {n f : Nat} {hd : Option Nat} {R : St} {a : AS} (h : RR n hd R a) (hf : f < n) : RR n hd (up R 139 0 0 f (-1)) (z_vacate f a) := by
  obtain ⟨g1, g2, g3, g4, g5, g6, g7, g8, g9, g10, g11, g12⟩ := h
  have hff : RRf n (up R 139 0 0 f (-1)) (z_vacate f a) := by
    intro b hb hn
    unfold z_vacate at hn ⊢
    rw [av_o (by decide), av_o (by decide), av_sv] at hn
    by_cases e : b = f
    · rw [if_pos ⟨rfl, e, rfl⟩] at hn
      exact absurd (by decide) hn
    · rw [if_neg (by simp [e])] at hn
      obtain ⟨c1, c2⟩ := g10 b hb hn
      simp [up_at, av_sv, e]
      exact ⟨c1, c2⟩
  refine ⟨wRa (wRd (f := 39) (i := f) (j := 0) (x := -1) g1 ⟨hf, rfl⟩) (fun f i j ho => by unfold z_vacate; rw [av_o (by rintro rfl; exact ho.elim), av_o (by rintro rfl; exact ho.elim)]), RRh_eq g2 ?_ ?_ ?_ ?_ ?_ ?_, RRs_eq g3 ?_ ?_, ?_, RRt_eq g5 ?_ ?_ ?_ ?_, RRe_eq g6 ?_ ?_ ?_ ?_, RRg_eq g7 ?_ ?_ ?_ ?_ ?_, RRa_eq g8 ?_ ?_ ?_ ?_ ?_, RRc_eq g9 ?_ ?_ ?_, hff, RRm_eq g11 ?_ ?_, RRj_eq g12 ?_ ?_ ?_ ?_⟩
  all_goals first
    | rfl
    | (simp [up_at, av_sv, av_sl, al_sv, al_sl, z_vacate]; done)
    | (intro c; simp [up_at, av_sv, av_sl, al_sv, al_sl, z_vacate]; done)
    | (simp [up_at, av_sv, av_sl, al_sv, al_sl, z_vacate]; exact g4)
    | (intro k hk; simp only [List.mem_cons, List.not_mem_nil, or_false] at hk; rcases hk with rfl | rfl | rfl | rfl | rfl | rfl <;> simp [up_at, av_sv, av_sl, al_sv, al_sl, z_vacate]; done)
    | (intro g b hg; simp only [List.mem_cons, List.not_mem_nil, or_false] at hg; rcases hg with rfl | rfl | rfl | rfl | rfl | rfl | rfl | rfl <;> simp [up_at, av_sv, av_sl, al_sv, al_sl, z_vacate]; done)
theorem wr_over {n k : Nat} {R : St} {b : AS} {t : List Nat} (h : RR n none R b) (hk : k < 6) (hl : al b 0 = k :: t) (hnd : (al b 0).Nodup) (h14 : ¬ av b 14 k 0 = 3) : RR n (some k) (up (up (up (up R 114 0 0 k 3) 115 0 0 k (av b 16 k 0)) 116 0 0 k 0) 109 0 0 k 1) (z_leave k (sv 14 k 0 3 b)) := by
  obtain ⟨g1, g2, g3, g4, g5, g6, g7, g8, g9, g10, g11, g12⟩ := h
  have hkt : k ∉ t := by
    rw [hl] at hnd
    exact (List.nodup_cons.mp hnd).1
  have el : al (z_leave k (sv 14 k 0 3 b)) 0 = t := by rw [al_leave, if_pos rfl, al_sv, hl, er_hd]
  have hh : RRh (some k) (up (up (up (up R 114 0 0 k 3) 115 0 0 k (av b 16 k 0)) 116 0 0 k 0) 109 0 0 k 1) (z_leave k (sv 14 k 0 3 b)) := by
    obtain ⟨⟨c1, c2⟩, c3, c4, c5⟩ := g2
    refine ⟨⟨?_, fun i p hi => ?_⟩, fun p hp => ?_, fun p hp => ?_, fun hx => by cases hx⟩
    · rw [el]; simp [up_at]; rw [c1, hl]; rfl
    · rw [el] at hi
      simp [up_at]
      refine c2 i p ?_
      rw [hl]; exact hi
    · rw [el] at hp
      have : p ≠ k := fun e => hkt (e ▸ hp)
      simp [up_at, this]
      exact c3 p (by rw [hl]; exact List.mem_cons_of_mem _ hp)
    · injection hp with hp
      subst hp
      simp [up_at]
  have he : RRe (up (up (up (up R 114 0 0 k 3) 115 0 0 k (av b 16 k 0)) 116 0 0 k 0) 109 0 0 k 1) (z_leave k (sv 14 k 0 3 b)) := by
    intro j hj
    obtain ⟨c1, c2⟩ := g6 j hj
    rw [vo_leave (by decide), vo_leave (by decide), av_o (show 16 ≠ 14 by decide)]
    by_cases e : j = k
    · subst e
      rw [av_s]
      simp [up_at]
    · have e14 : av (sv 14 k 0 3 b) 14 j 0 = av b 14 j 0 := by rw [av_sv, if_neg (by simp [e])]
      rw [e14]
      simp [up_at, e]
      exact ⟨c1, c2⟩
  refine ⟨wRa (wRo (y := (109, 0, 0, k)) (x := 1) (wRo (y := (116, 0, 0, k)) (x := 0) (wRo (y := (115, 0, 0, k)) (x := av b 16 k 0) (wRd (f := 14) (i := k) (j := 0) (x := 3) g1 ⟨hk, rfl⟩) rfl) rfl) rfl) (fun f i j ho => vo_leave (by rintro rfl; exact ho.elim)), hh, RRs_eq g3 ?_ ?_, ?_, RRt_eq g5 ?_ ?_ ?_ ?_, he, RRg_eq g7 ?_ ?_ ?_ ?_ ?_, RRa_eq g8 ?_ ?_ ?_ ?_ ?_, RRc_eq g9 ?_ ?_ ?_, RRf_eq g10 ?_ ?_ ?_ ?_ ?_, RRm_eq g11 ?_ ?_, RRj_eq g12 ?_ ?_ ?_ ?_⟩
  all_goals first
    | rfl
    | (simp [up_at, av_sv, av_sl, al_sv, al_sl, av_leave, al_leave]; done)
    | (intro c; simp [up_at, av_sv, av_sl, al_sv, al_sl, av_leave, al_leave]; done)
    | (simp [up_at, av_sv, av_sl, al_sv, al_sl, av_leave, al_leave]; exact g4)
    | (intro k hk; simp only [List.mem_cons, List.not_mem_nil, or_false] at hk; rcases hk with rfl | rfl | rfl | rfl | rfl | rfl <;> simp [up_at, av_sv, av_sl, al_sv, al_sl, av_leave, al_leave]; done)
    | (intro g b hg; simp only [List.mem_cons, List.not_mem_nil, or_false] at hg; rcases hg with rfl | rfl | rfl | rfl | rfl | rfl | rfl | rfl <;> simp [up_at, av_sv, av_sl, al_sv, al_sl, av_leave, al_leave]; done)
theorem vac0 (k : Nat) (a : AS) : z_vac 0 k a = a := as_ext (fun g b c => by rw [av_vac, if_neg (by omega)]) (fun q => rfl)
theorem vac_succ {m k : Nat} {a : AS} : (av a 39 m 0 = nI k → z_vacate m (z_vac m k a) = z_vac (m + 1) k a) ∧ (¬ av a 39 m 0 = nI k → z_vac m k a = z_vac (m + 1) k a) := by
  refine ⟨fun e => as_ext (fun g b c => ?_) (fun q => rfl), fun e => as_ext (fun g b c => ?_) (fun q => rfl)⟩
  · unfold z_vacate
    rw [av_sv, av_sv, av_sv, av_vac, av_vac]
    by_cases c1 : c = 0
    · by_cases c2 : b = m
      · subst c2
        simp [c1, e]
        grind
      · simp [c1, c2]
        grind
    · simp [c1]
  · rw [av_vac, av_vac]
    by_cases x4 : b = m
    · subst x4
      simp [e]
    · have : (b < m + 1) ↔ b < m := by omega
      simp only [this]
theorem gab0 (k : Nat) (a : AS) : z_gab 0 k a = a := as_ext (fun g b c => by rw [av_gab, if_neg (by omega)]) (fun q => rfl)
theorem gab_succ (m k : Nat) (a : AS) : sv 28 m 0 (av a 28 m 0 + av a 27 k m) (z_gab m k a) = z_gab (m + 1) k a := by
  refine as_ext (fun g b c => ?_) (fun q => rfl)
  rw [av_sv, av_gab, av_gab]
  grind
theorem up_idR {C : St} {q i k j : Nat} {x : Int32} (h : C q i k j = x) : up C q i k j x = C := by
  funext a b c d
  rw [up_at]
  by_cases e : a = q ∧ b = i ∧ c = k ∧ d = j
  · obtain ⟨rfl, rfl, rfl, rfl⟩ := e
    rw [if_pos ⟨rfl, rfl, rfl, rfl⟩, h]
  · rw [if_neg e]
theorem m_end {n k m o : Nat} {R : St} {a : AS} (h : RR n none R a) (hn : n ≤ 12) (hk : k < 6) (hM : MJ n k a) (hm : av a 69 0 0 = nI m) (hm2 : m < 2 ^ 29) (ho : av a 16 k 0 = nI o) (ho2 : o < 10) (hG : GW (z_ov n k a)) (hV : GV none a) : Rn (F_X12_endingStep (nI k) R) (fun r D => r = 0 ∧ RRo n k D (z_end n k a)) := by
  have hM2 := hM
  obtain ⟨⟨t, h1⟩, h2, h3, h4, h5, h6, h7, h8, h9, h10, h11, h12, h13⟩ := hM
  have g6 := inb_nI hk (show 6 < 2 ^ 31 by decide)
  have ekk : (nI k).toNatClampNeg = k := nI_clamp (by omega)
  have hkt : k ∉ t := by
    rw [h1] at h2
    exact (List.nodup_cons.mp h2).1
  unfold F_X12_endingStep z_end
  rw [ekk, rr_34 h hk]
  refine rn_gd g6 (rn_if (fun e => ?_) (fun e => ?_))
  · rw [if_pos e]
    have k60 : ∀ fu r D, 3 < fu + r → r ≤ 3 → RR n none D (z_gab r k (z_vac n k a)) → Rn (F_X12_endingStep_60 fu (nI k) (nI r) D) (fun r D => r = 0 ∧ RRo n k D (z_gtw n [] (al a 2) (z_ov n k a))) := by
      intro fu
      induction fu with
      | zero => intro r D x1 x2; omega
      | succ fu ih =>
        intro r D x1 x2 hD
        unfold F_X12_endingStep_60
        by_cases er : r = 3
        · subst er
          rw [ekk]
          refine rn_pos (show (3 : Int32) ≤ nI 3 by decide) (rn_gd g6 (rn_st ?_))
          have eb14 : ¬ av (z_gab 3 k (z_vac n k a)) 14 k 0 = 3 := by
            rw [vo_gab (by decide), vo_vac (by decide) (by decide) (by decide), h12]
            decide
          have eb16 : av (z_gab 3 k (z_vac n k a)) 16 k 0 = av a 16 k 0 := by
            rw [vo_gab (by decide), vo_vac (by decide) (by decide) (by decide)]
          have e116 : D 116 0 0 k = av a 16 k 0 := by
            have := (hD.2.2.2.2.2.1 k hk).1
            rw [if_neg eb14, eb16] at this
            exact this
          have e1 : up D 114 0 0 k 3 116 0 0 k = av a 16 k 0 := by rw [up_at, if_neg (by simp), e116]
          rw [e1]
          refine rn_st (rn_st (rn_gd (inb_nI (by omega) (by decide)) (rn_st ?_)))
          have hE := wr_over hD hk (show al (z_gab 3 k (z_vac n k a)) 0 = k :: t from h1) h2 eb14
          rw [eb16] at hE
          generalize up (up (up (up D 114 0 0 k 3) 115 0 0 k (av a 16 k 0)) 116 0 0 k 0) 109 0 0 k 1 = E at hE
          have eb : ∀ g, g ≠ 7 → g ≠ 14 → g ≠ 28 → g ≠ 39 → g ≠ 42 → g ≠ 43 → ∀ b c, av (z_leave k (sv 14 k 0 3 (z_gab 3 k (z_vac n k a)))) g b c = av a g b c := fun g y1 y2 y3 y4 y5 y6 b c => by
            rw [vo_leave y1, av_o y2, vo_gab y3, vo_vac y4 y5 y6]
          have hm' : av (z_leave k (sv 14 k 0 3 (z_gab 3 k (z_vac n k a)))) 69 0 0 = nI m := by rw [eb 69 (by decide) (by decide) (by decide) (by decide) (by decide) (by decide)]; exact hm
          refine rn_bd (m_sayz hE hm' (by omega)) ?_
          rintro _ E1 ⟨-, hE1⟩
          refine rn_bd (m_sayz hE1 (say69 hm') (by omega)) ?_
          rintro _ E2 ⟨-, hE2⟩
          have e115 : E2 115 0 0 k = av (z_leave k (sv 14 k 0 3 (z_gab 3 k (z_vac n k a)))) 16 k 0 := by
            have := (hE2.2.2.2.2.2.1 k hk).2
            rw [vo_say (by decide) (by decide), vo_say (by decide) (by decide), vo_say (by decide) (by decide), vo_say (by decide) (by decide), vo_leave (by decide), av_s, if_pos rfl] at this
            exact this
          rw [e115]
          refine rn_bd (m_sayz hE2 (say69 (say69 hm')) (by omega)) ?_
          rintro _ E3 ⟨-, hE3⟩
          refine rn_bd (m_sayz hE3 (say69 (say69 (say69 hm'))) (by omega)) ?_
          rintro _ E4 ⟨-, hE4⟩
          have hE4 : RR n (some k) E4 (z_ov n k a) := hE4
          have el0 : al (z_ov n k a) 0 = t := by
            unfold z_ov
            rw [lo_over, al_leave, if_pos rfl]
            show (al a 0).erase k = t
            rw [h1, er_hd]
          have el2 : al (z_ov n k a) 2 = al a 2 := lo_ov (by decide)
          have hcat : (some k).toList ++ al (z_ov n k a) 0 = al a 0 := by rw [el0, h1]; rfl
          have hV2 : GV (some k) (z_ov n k a) := by
            unfold GV
            rw [hcat, el2]
            exact hV
          refine rn_bd (m_gtw hE4 hn hG hV2 (by rw [el2]; omega)) ?_
          rintro _ E5 ⟨-, hE5, t', x3, x4⟩
          rw [el2] at hE5 x3 x4
          refine rn_ret ⟨rfl, Or.inr ⟨hE5, ?_⟩⟩
          rw [x3, el0]
          intro hmm
          rcases List.mem_append.mp hmm with hmm | hmm
          · exact hkt hmm
          · exact h7 (x4 k hmm)
        · have hr : r < 3 := by omega
          have er2 : (nI r).toNatClampNeg = r := nI_clamp (by omega)
          rw [show (3 : Int32) * nI k + nI r = nI (3 * k + r) from mulN 3 k r, show (nI (3 * k + r)).toNatClampNeg = 3 * k + r from nI_clamp (by omega), er2, rr_28 hD hr, rr_27 hD hk hr, nI_1]
          have e28 : av (z_gab r k (z_vac n k a)) 28 r 0 = av (z_vac n k a) 28 r 0 := by rw [av_gab, if_neg (by omega)]
          rw [e28, vo_gab (by decide)]
          refine rn_neg (nI_ge (b := 3) hr (by decide)) (rn_gd (inb_nI hr (by decide)) (rn_gd (inb_nI (by omega) (by decide)) (rn_st (ih (r + 1) _ (by omega) (by omega) ?_))))
          rw [← gab_succ]
          exact wr_28 hD hr
    have k18 : ∀ fu f D, n < fu + f → f ≤ n → RR n none D (z_vac f k a) → Rn (F_X12_endingStep_18 fu (nI k) (nI f) D) (fun r D => r = 0 ∧ RRo n k D (z_gtw n [] (al a 2) (z_ov n k a))) := by
      intro fu
      induction fu with
      | zero => intro f D x1 x2; omega
      | succ fu ih =>
        intro f D x1 x2 hD
        have hN : D 50 0 0 0 = nI n := hD.2.2.2.1
        unfold F_X12_endingStep_18 F_X12_endingStep_51
        rw [hN]
        by_cases ef : f = n
        · subst ef
          refine rn_pos (nI_le (Nat.le_refl _) (by omega)) (k60 1000 0 D (by omega) (by omega) ?_)
          rw [gab0]
          exact hD
        · have hf : f < n := by omega
          have e39 : av (z_vac f k a) 39 f 0 = av a 39 f 0 := by rw [av_vac, if_neg (by omega)]
          rw [show (nI f).toNatClampNeg = f from nI_clamp (by omega), rr_39 hD hf, e39, nI_1]
          refine rn_neg (nI_ge hf (by omega)) (rn_gd (inb_nI (by omega) (by decide)) (rn_if (fun e2 => ?_) (fun e2 => ?_)))
          · refine rn_gd (inb_nI (by omega) (by decide)) (rn_st (ih (f + 1) _ (by omega) (by omega) ?_))
            rw [← vac_succ.1 e2]
            exact wr_free hD hf
          · refine rn_gd (inb_nI (by omega) (by decide)) (rn_st (ih (f + 1) _ (by omega) (by omega) ?_))
            rw [← vac_succ.2 e2, up_idR (by rw [rr_39 hD hf, e39])]
            exact hD
    refine k18 1000 0 R (by omega) (by omega) ?_
    rw [vac0]
    exact h
  · rw [if_neg e]
    refine rn_bd (m_leave h hk h1 h2) ?_
    rintro _ D ⟨-, hD⟩
    exact rn_ret ⟨rfl, hD⟩
theorem hop_cases {x : Int32} (h : hop x = true) : x = 1 ∨ x = 2 ∨ x = 3 ∨ x = 4 ∨ x = 5 ∨ x = 6 ∨ x = 10 ∨ x = 11 ∨ x = 12 := by
  unfold hop at h
  simp only [Bool.or_eq_true, Bool.and_eq_true, Bool.not_eq_true', decide_eq_false_iff_not, decide_eq_true_eq] at h
  have hx : ¬ x < 0 := by
    rcases h with ⟨h, -⟩ | ⟨h, -⟩
    · exact fun y => h (Int32.lt_trans y (by decide))
    · exact fun y => h (Int32.lt_trans y (by decide))
  obtain ⟨j, hj, rfl⟩ := nI_of hx
  rcases h with ⟨h1, h2⟩ | ⟨h1, h2⟩
  · have a1 : 1 ≤ j := Classical.byContradiction fun hh => h1 (nI_lt (b := 1) (by omega) (by decide))
    have a2 : j ≤ 6 := (nI_leI (b := 6) hj (by decide)).mp h2
    have : j = 1 ∨ j = 2 ∨ j = 3 ∨ j = 4 ∨ j = 5 ∨ j = 6 := by omega
    rcases this with rfl | rfl | rfl | rfl | rfl | rfl <;> decide
  · have a1 : 10 ≤ j := Classical.byContradiction fun hh => h1 (nI_lt (b := 10) (by omega) (by decide))
    have a2 : j ≤ 12 := Classical.byContradiction fun hh => h2 (nI_lt (a := 12) (by omega) hj)
    have : j = 10 ∨ j = 11 ∨ j = 12 := by omega
    rcases this with rfl | rfl | rfl <;> decide
/-- what an operand does -/
def z_with (n k g i : Nat) (kind : Int32) (b : AS) : AS := if kind = 2 ∨ kind = 12 then z_comp n k (av b 18 k 0 + 1) (sv 42 g 0 1 (sv 38 g i (av b 19 k 0) b)) else z_cmp n k kind (av b 38 g i) b
theorem m_173 {n k : Nat} {R : St} {b : AS} {t : List Nat} (h : RR n none R b) (hn : n ≤ 12) (hk : k < 6) (hl : al b 0 = k :: t) : Rn (F_X12_withWord_173 (nI k) R) (fun r D => r = 0 ∧ RRo n k D (z_comp n k (av b 18 k 0 + 1) b)) := by
  unfold F_X12_withWord_173
  refine rn_bd (m_finish h hn hk) ?_
  rintro _ D ⟨-, hD⟩
  exact rn_ret ⟨rfl, RRo_stay (t := t) hD hl⟩
theorem m_with {n k g i : Nat} {kind x4 : Int32} {R : St} {b : AS} (h : RR n none R b) (hn : n ≤ 12) (hk : k < 6) (hM : MJ n k b) (hg : g < n) (hi : i < 16) (hx : x4 = nI (16 * g + i)) (hh : hop kind = true) : Rn (F_X12_withWord (nI k) kind (nI g) x4 R) (fun r D => r = 0 ∧ RRo n k D (z_with n k g i kind b)) := by
  subst hx
  have hM2 := hM
  obtain ⟨⟨t, h1⟩, -⟩ := hM
  have g6 := inb_nI hk (show 6 < 2 ^ 31 by decide)
  have ekk : (nI k).toNatClampNeg = k := nI_clamp (by omega)
  have e38 : R 138 0 0 (16 * g + i) = av b 38 g i := rr_38 h hg hi
  have gw := inb_nI (show 16 * g + i < 192 by omega) (show 192 < 2 ^ 31 by decide)
  unfold F_X12_withWord F_X12_withWord_28 F_X12_withWord_39 F_X12_withWord_59 F_X12_withWord_70 F_X12_withWord_78 F_X12_withWord_98 F_X12_withWord_118 F_X12_withWord_138 F_X12_withWord_159
  rw [ekk, show (nI (16 * g + i)).toNatClampNeg = 16 * g + i from nI_clamp (by omega), show (nI g).toNatClampNeg = g from nI_clamp (by omega), e38, rr_19 h hk]
  refine rn_gd gw ?_
  have f19 : ∀ x : Int32, Rn (F_X12_withWord_173 (nI k) (up R 119 0 0 k x)) (fun r D => r = 0 ∧ RRo n k D (z_comp n k (av b 18 k 0 + 1) (sv 19 k 0 x b))) := fun x => by
    have := m_173 (t := t) (wr_19 (x := x) h hk) hn hk h1
    rw [av_o (by decide)] at this
    exact this
  have f20 : ∀ x : Int32, Rn (F_X12_withWord_173 (nI k) (up R 120 0 0 k x)) (fun r D => r = 0 ∧ RRo n k D (z_comp n k (av b 18 k 0 + 1) (sv 20 k 0 x b))) := fun x => by
    have := m_173 (t := t) (wr_20 (x := x) h hk) hn hk h1
    rw [av_o (by decide)] at this
    exact this
  have f2 : Rn (F_X12_withWord_173 (nI k) (up (up R 138 0 0 (16 * g + i) (av b 19 k 0)) 142 0 0 g 1)) (fun r D => r = 0 ∧ RRo n k D (z_comp n k (av b 18 k 0 + 1) (sv 42 g 0 1 (sv 38 g i (av b 19 k 0) b)))) := by
    have := m_173 (t := t) (wr_42 (f := g) (x := 1) (wr_38 (x := av b 19 k 0) h hg hi)) hn hk h1
    rw [av_o (by decide), av_o (by decide)] at this
    exact this
  have gg := inb_nI (show g < 12 by omega) (show 12 < 2 ^ 31 by decide)
  unfold z_with z_cmp
  rcases hop_cases hh with rfl | rfl | rfl | rfl | rfl | rfl | rfl | rfl | rfl
  · refine rn_neg (by decide) (rn_neg (by decide) (rn_neg (by decide) (rn_pos rfl (rn_gd g6 (rn_st (rn_neg (by decide) (rn_neg (by decide) (rn_neg (by decide) (rn_neg (by decide) (rn_neg (by decide) ?_))))))))))
    simpa using f19 (av b 38 g i)
  · refine rn_neg (by decide) (rn_pos rfl (rn_gd g6 (rn_gd gw (rn_st (rn_gd gg (rn_st (rn_neg (by decide) (rn_neg (by decide) (rn_neg (by decide) (rn_neg (by decide) (rn_neg (by decide) (rn_neg (by decide) (rn_neg (by decide) ?_)))))))))))))
    simpa using f2
  · refine rn_neg (by decide) (rn_neg (by decide) (rn_neg (by decide) (rn_neg (by decide) (rn_neg (by decide) (rn_pos rfl (rn_gd g6 (rn_st (rn_neg (by decide) (rn_neg (by decide) (rn_neg (by decide) (rn_neg (by decide) ?_)))))))))))
    simpa using f19 (av b 19 k 0 + av b 38 g i)
  · refine rn_neg (by decide) (rn_neg (by decide) (rn_neg (by decide) (rn_neg (by decide) (rn_neg (by decide) (rn_neg (by decide) (rn_pos rfl (rn_gd g6 (rn_st (rn_neg (by decide) (rn_neg (by decide) (rn_neg (by decide) ?_)))))))))))
    simpa using f19 (av b 19 k 0 - av b 38 g i)
  · refine rn_neg (by decide) (rn_neg (by decide) (rn_neg (by decide) (rn_neg (by decide) (rn_neg (by decide) (rn_neg (by decide) (rn_neg (by decide) (rn_pos rfl (rn_gd g6 (rn_st (rn_neg (by decide) (rn_neg (by decide) ?_)))))))))))
    simpa using f19 (av b 19 k 0 * av b 38 g i)
  · refine rn_pos rfl (rn_if (fun e => ?_) (fun e => ?_))
    · have := m_trap (x := 4) h hM2
      refine rn_gd g6 (rn_st (rn_ret ⟨rfl, ?_⟩))
      simpa [e, z_trap] using this
    · refine rn_neg (by decide) (rn_neg (by decide) (rn_neg (by decide) (rn_neg (by decide) (rn_neg (by decide) (rn_neg (by decide) (rn_neg (by decide) (rn_pos rfl (rn_gd g6 (rn_gd (by simp [e]) (rn_st (rn_neg (by decide) ?_)))))))))))
      simpa [e] using f19 (av b 19 k 0 / av b 38 g i)
  · refine rn_neg (by decide) (rn_neg (by decide) (rn_neg (by decide) (rn_neg (by decide) (rn_neg (by decide) (rn_neg (by decide) (rn_neg (by decide) (rn_neg (by decide) (rn_neg (by decide) (rn_pos rfl (rn_gd g6 (rn_st ?_)))))))))))
    simpa using f20 (av b 38 g i)
  · refine rn_neg (by decide) (rn_neg (by decide) (rn_neg (by decide) (rn_neg (by decide) (rn_pos rfl (rn_gd g6 (rn_st (rn_neg (by decide) (rn_neg (by decide) (rn_neg (by decide) (rn_neg (by decide) (rn_neg (by decide) ?_)))))))))))
    simpa using f19 (av b 38 g i)
  · refine rn_neg (by decide) (rn_neg (by decide) (rn_pos rfl (rn_gd g6 (rn_gd gw (rn_st (rn_gd gg (rn_st (rn_neg (by decide) (rn_neg (by decide) (rn_neg (by decide) (rn_neg (by decide) (rn_neg (by decide) (rn_neg (by decide) (rn_neg (by decide) ?_))))))))))))))
    simpa using f2
