/-! The reference: the console's step, ticks -/
theorem wr_st9 {n : Nat} {x : Int32} {hd : Option Nat} {R : St} {a : AS} (h : RR n hd R a) : RR n hd (up R 112 0 0 9 x) (a) := by
  obtain ⟨g1, g2, g3, g4, g5, g6, g7, g8, g9, g10, g11, g12⟩ := h
  have htt : RRt (up R 112 0 0 9 x) a := by
    obtain ⟨c1, c2, c3⟩ := g5
    refine ⟨?_, ?_, ?_⟩
    · simp [up_at]; exact c1
    · simp [up_at]; exact c2
    · simp [up_at]; exact c3
  refine ⟨wRo (y := (112, 0, 0, 9)) (x := x) g1 rfl, RRh_eq g2 ?_ ?_ ?_ ?_ ?_ ?_, RRs_eq g3 ?_ ?_, ?_, htt, RRe_eq g6 ?_ ?_ ?_ ?_, RRg_eq g7 ?_ ?_ ?_ ?_ ?_, RRa_eq g8 ?_ ?_ ?_ ?_ ?_, RRc_eq g9 ?_ ?_ ?_, RRf_eq g10 ?_ ?_ ?_ ?_ ?_, RRm_eq g11 ?_ ?_, RRj_eq g12 ?_ ?_ ?_ ?_⟩
  all_goals first
    | rfl
    | (simp [up_at, av_sv, av_sl, al_sv, al_sl]; done)
    | (intro c; simp [up_at, av_sv, av_sl, al_sv, al_sl]; done)
    | (simp [up_at, av_sv, av_sl, al_sv, al_sl]; exact g4)
    | (intro k hk; simp only [List.mem_cons, List.not_mem_nil, or_false] at hk; rcases hk with rfl | rfl | rfl | rfl | rfl | rfl <;> simp [up_at, av_sv, av_sl, al_sv, al_sl]; done)
    | (intro g b hg; simp only [List.mem_cons, List.not_mem_nil, or_false] at hg; rcases hg with rfl | rfl | rfl | rfl | rfl | rfl | rfl | rfl <;> simp [up_at, av_sv, av_sl, al_sv, al_sl]; done)
def z_pi (r j : Nat) (a : AS) : AS := (fun g b c => if g = 65 ∧ c = 0 ∧ b < r then a.1 65 (b + 1) 0 else if g = 64 ∧ c < 20 ∧ (b + 1 < r ∨ (b + 1 = r ∧ c < j)) then a.1 64 (b + 1) c else a.1 g b c, a.2)
theorem av_pi (r j : Nat) (a : AS) (g b c : Nat) : av (z_pi r j a) g b c = if g = 65 ∧ c = 0 ∧ b < r then av a 65 (b + 1) 0 else if g = 64 ∧ c < 20 ∧ (b + 1 < r ∨ (b + 1 = r ∧ c < j)) then av a 64 (b + 1) c else av a g b c := rfl
theorem po1 (a : AS) : z_po 1 a = a := as_ext (fun g b c => by rw [av_po, if_neg (by omega), if_neg (by omega)]) (fun q => rfl)
theorem po_pi (r : Nat) (a : AS) : sv 65 r 0 (av a 65 (r + 1) 0) (z_po (r + 1) a) = z_pi (r + 1) 0 a := by
  refine as_ext (fun g b c => ?_) (fun q => rfl)
  rw [av_sv, av_po, av_pi]
  by_cases c1 : g = 65
  · subst c1
    by_cases c2 : b = r
    · subst c2
      by_cases c3 : c = 0
      · subst c3
        simp
      · simp [c3]
    · have : (b + 1 < r + 1) ↔ b < r + 1 := by omega
      by_cases c3 : c = 0
      · subst c3
        have x1 : (b < r + 1) ↔ (b < r) := by omega
        simp [c2, x1]
      · simp [c3]
  · by_cases c2 : g = 64
    · subst c2
      have : (c < 20 ∧ (b + 1 < r + 1 ∨ b + 1 = r + 1 ∧ c < 0)) ↔ (b + 1 < r + 1 ∧ c < 20) := by omega
      simp only [show ¬ (64 : Nat) = 65 by decide, false_and, if_false, true_and, this]
    · simp [c1, c2]
theorem pi_succ {r j : Nat} (a : AS) (hj : j < 20) : sv 64 r j (av a 64 (r + 1) j) (z_pi (r + 1) j a) = z_pi (r + 1) (j + 1) a := by
  refine as_ext (fun g b c => ?_) (fun q => rfl)
  rw [av_sv, av_pi, av_pi]
  by_cases c2 : g = 64
  · subst c2
    simp only [show ¬ (64 : Nat) = 65 by decide, false_and, if_false, true_and]
    by_cases c3 : b = r ∧ c = j
    · obtain ⟨rfl, rfl⟩ := c3
      rw [if_pos ⟨rfl, rfl⟩, if_pos ⟨hj, Or.inr ⟨rfl, by omega⟩⟩]
    · rw [if_neg c3]
      have : (c < 20 ∧ (b + 1 < r + 1 ∨ b + 1 = r + 1 ∧ c < j)) ↔ (c < 20 ∧ (b + 1 < r + 1 ∨ b + 1 = r + 1 ∧ c < j + 1)) := by omega
      simp only [this]
  · simp [c2]
theorem pi_po (r : Nat) (a : AS) : z_pi (r + 1) 20 a = z_po (r + 2) a := by
  refine as_ext (fun g b c => ?_) (fun q => rfl)
  rw [av_pi, av_po]
  have x1 : (b < r + 1) ↔ (b + 1 < r + 2) := by omega
  have x2 : (c < 20 ∧ (b + 1 < r + 1 ∨ b + 1 = r + 1 ∧ c < 20)) ↔ (b + 1 < r + 2 ∧ c < 20) := by omega
  simp only [x1, x2]
theorem m_pop {n m : Nat} {R : St} {a : AS} (h : RR n none R a) (hm : av a 68 0 0 = nI m) (hm0 : 0 < m) (hm2 : m ≤ 8) (hM : MS 9 a) : Rn (F_X12_consoleStep_19 R) (fun r D => r = 0 ∧ RRo n 9 D (z_p 6 (z_pop a))) := by
  have n68 : nv a 68 0 0 = m := by unfold nv; rw [hm, nI_clamp (by omega)]
  have key : ∀ fu r D, m < fu + r → r < m → RR n none D (z_po (r + 1) a) → Rn (F_X12_consoleStep_21 fu (nI (r + 1)) D) (fun r D => r = 0 ∧ RRo n 9 D (z_p 6 (z_pop a))) := by
    intro fu
    induction fu with
    | zero => intro r D h1 h2; omega
    | succ fu ih =>
      intro r D h1 h2 hD
      have s68 : av (z_po (r + 1) a) 68 0 0 = nI m := by rw [av_po, if_neg (by simp), if_neg (by simp), hm]
      unfold F_X12_consoleStep_21
      by_cases e : r + 1 = m
      · subst e
        refine rn_pos (by rw [rr_68 hD, s68]; exact nI_le (Nat.le_refl _) (by omega)) ?_
        rw [rr_68 hD, s68]
        refine rn_st ?_
        have hE : RR n none (up D 50 0 68 0 (nI (r + 1) - 1)) (z_pop a) := by
          unfold z_pop
          rw [n68, hm]
          exact wr_68 (x := nI (r + 1) - 1) hD
        refine rn_bd (m_pO (s := 6) (p := 9) rfl rfl (wr_st9 hE) (by decide) rfl (MS_eq hM (fun s => ?_) rfl)) ?_
        · unfold z_pop
          rw [av_o (by decide)]
          rfl
        rintro _ G ⟨-, hG⟩
        exact rn_ret ⟨rfl, hG⟩
      · refine rn_neg (by rw [rr_68 hD, s68]; exact nI_ge (by omega) (by omega)) ?_
        rw [nI_pred, show (nI (r + 1)).toNatClampNeg = r + 1 from nI_clamp (by omega), show (nI r).toNatClampNeg = r from nI_clamp (by omega), rr_65 hD (by omega)]
        have s65 : av (z_po (r + 1) a) 65 (r + 1) 0 = av a 65 (r + 1) 0 := by rw [av_po, if_neg (by omega), if_neg (by simp)]
        rw [s65]
        refine rn_gd (inb_nI (by omega) (by decide)) (rn_gd (inb_nI (by omega) (by decide)) (rn_st ?_))
        have hE := wr_65 (x := av a 65 (r + 1) 0) hD (show r < 8 by omega)
        rw [po_pi] at hE
        have inner : ∀ fu2 j D, 20 < fu2 + j → j ≤ 20 → RR n none D (z_pi (r + 1) j a) → Rn (F_X12_consoleStep_45 (F_X12_consoleStep_21 fu) fu2 (nI (r + 1)) (nI j) D) (fun r D => r = 0 ∧ RRo n 9 D (z_p 6 (z_pop a))) := by
          intro fu2
          induction fu2 with
          | zero => intro j D x1 x2; omega
          | succ fu2 ih2 =>
            intro j D x1 x2 hJ
            unfold F_X12_consoleStep_45
            by_cases ej : j = 20
            · subst ej
              rw [pi_po] at hJ
              refine rn_pos (show (20 : Int32) ≤ nI 20 by decide) ?_
              rw [nI_1]
              exact ih (r + 1) D (by omega) (by omega) hJ
            · have hj : j < 20 := by omega
              rw [nI_pred, show (20 : Int32) * nI (r + 1) + nI j = nI (20 * (r + 1) + j) from mulN 20 (r + 1) j, show (20 : Int32) * nI r + nI j = nI (20 * r + j) from mulN 20 r j, show (nI (20 * (r + 1) + j)).toNatClampNeg = 20 * (r + 1) + j from nI_clamp (by omega), show (nI (20 * r + j)).toNatClampNeg = 20 * r + j from nI_clamp (by omega), rr_64 hJ (by omega) hj, nI_1 j]
              have s64 : av (z_pi (r + 1) j a) 64 (r + 1) j = av a 64 (r + 1) j := by rw [av_pi, if_neg (by simp), if_neg (by omega)]
              rw [s64]
              refine rn_neg (nI_ge (b := 20) hj (by decide)) (rn_gd (inb_nI (by omega) (by decide)) (rn_gd (inb_nI (by omega) (by decide)) (rn_st (ih2 (j + 1) _ (by omega) (by omega) ?_))))
              have := wr_64 (x := av a 64 (r + 1) j) hJ (show r < 8 by omega) hj
              rw [pi_succ a hj] at this
              exact this
        exact inner 1000 0 _ (by omega) (by omega) hE
  unfold F_X12_consoleStep_19
  refine key 1000 0 R (by omega) (by omega) ?_
  rw [po1]
  exact h
theorem obeys_al {n : Nat} {a : AS} (hC : MC a) : al (z_obeys n a).2 0 = al a 0 ∨ ∃ k, k < 6 ∧ k ∉ al a 0 ∧ al (z_obeys n a).2 0 = al a 0 ++ [k] := by
  obtain ⟨c1, c2, c3, c4, c5, c6⟩ := hC
  unfold z_obeys
  by_cases x1 : z_dig a 1 < 0 ∨ (6 : Int32) ≤ z_dig a 1
  · rw [if_pos x1]; exact Or.inl rfl
  · rw [if_neg x1]
    rw [not_or] at x1
    obtain ⟨k, hk, ek⟩ := lt6 x1.1 x1.2
    obtain ⟨d1, d2, d3⟩ := c6 k hk
    rw [ek, show (nI k).toNatClampNeg = k from nI_clamp (by omega)]
    have hA : al (z_admits n k a).2 0 = al a 0 ∨ ∃ q, q < 6 ∧ q ∉ al a 0 ∧ al (z_admits n k a).2 0 = al a 0 ++ [q] := by
      by_cases y : av a 14 k 0 = 1 ∧ 2 * (z_adm a 6 + 1) ≤ nI n
      · have ez : z_admits n k a = (1, z_wake k (sv 14 k 0 2 a)) := if_pos y
        rw [ez]
        refine Or.inr ⟨k, hk, d1 y.1, ?_⟩
        exact al0_wake (a := sv 14 k 0 2 a) (d1 y.1)
      · have ez : z_admits n k a = (0, a) := if_neg y
        rw [ez]
        exact Or.inl rfl
    have hB : al (z_cancels k a).2 0 = al a 0 ∨ ∃ q, q < 6 ∧ q ∉ al a 0 ∧ al (z_cancels k a).2 0 = al a 0 ++ [q] := by
      by_cases y0 : av a 14 k 0 = 2
      · by_cases y : av a 10 k 0 = 5 ∨ av a 10 k 0 = 6
        · have ez : z_cancels k a = (1, z_wake k (sl 2 ((al a 2).erase k) (sv 24 k 0 1 a))) := by
            unfold z_cancels
            rw [if_pos y0, if_pos y]
          have hne : av a 10 k 0 ≠ 0 := by
            rcases y with y | y <;> rw [y] <;> decide
          rw [ez]
          refine Or.inr ⟨k, hk, d2 hne, ?_⟩
          exact al0_wake (a := sl 2 ((al a 2).erase k) (sv 24 k 0 1 a)) (d2 hne)
        · have ez : z_cancels k a = (1, sv 24 k 0 1 a) := by
            unfold z_cancels
            rw [if_pos y0, if_neg y]
          rw [ez]
          exact Or.inl rfl
      · have ez : z_cancels k a = (0, a) := if_neg y0
        rw [ez]
        exact Or.inl rfl
    have hR : al (z_replies n k a).2 0 = al a 0 ∨ ∃ q, q < 6 ∧ q ∉ al a 0 ∧ al (z_replies n k a).2 0 = al a 0 ++ [q] := by
      by_cases y : z_sign a 2 = 32 ∧ z_start a < nv a 65 0 0 ∧ nv a 65 0 0 ≤ z_start a + 9 ∧ av a 10 k 0 = 5
      · have hne : av a 10 k 0 ≠ 0 := by rw [y.2.2.2]; decide
        cases hz : z_dsum a (nv a 65 0 0 - z_start a) (z_start a) 0 with
        | none =>
          have ez : z_replies n k a = (0, a) := by
            unfold z_replies
            rw [if_pos y, hz]
          rw [ez]
          exact Or.inl rfl
        | some v =>
          have ez : z_replies n k a = (1, z_rep n k (if z_start a = 4 then -v else v) a) := by
            unfold z_replies
            rw [if_pos y, hz]
          rw [ez]
          refine Or.inr ⟨k, hk, d2 hne, ?_⟩
          exact al0_wake (a := z_comp n k (av a 18 k 0 + 1) (sv 19 k 0 (if z_start a = 4 then -v else v) a)) (d2 hne)
      · have ez : z_replies n k a = (0, a) := if_neg y
        rw [ez]
        exact Or.inl rfl
    by_cases y1 : z_sign a 0 = 65
    · rw [if_pos y1]
      by_cases y2 : nv a 65 0 0 = 2
      · rw [if_pos y2]; exact hA
      · rw [if_neg y2]; exact Or.inl rfl
    · rw [if_neg y1]
      by_cases y3 : z_sign a 0 = 67
      · rw [if_pos y3]
        by_cases y2 : nv a 65 0 0 = 2
        · rw [if_pos y2]; exact hB
        · rw [if_neg y2]; exact Or.inl rfl
      · rw [if_neg y3]
        by_cases y4 : z_sign a 0 = 82
        · rw [if_pos y4]; exact hR
        · rw [if_neg y4]; exact Or.inl rfl
theorem m_cons {n L m ms : Nat} {R : St} {a : AS} (h : RR n none R a) (hn : n ≤ 12) (hT : TR L a) (hC : MC a) (hM : MS 9 a) (hm : av a 68 0 0 = nI m) (hm0 : 0 < m) (hm2 : m ≤ 8) (h69 : av a 69 0 0 = nI ms) (h69' : ms < 2 ^ 29) : Rn (F_X12_consoleStep R) (fun r D => r = 0 ∧ RRo n 9 D (z_cons n a)) := by
  unfold F_X12_consoleStep z_cons z_said
  refine rn_bd (m_obeys h hn hT hC) ?_
  rintro _ D ⟨rfl, hD⟩
  have o69 : av (z_obeys n a).2 69 0 0 = nI ms := by rw [vo_obeys (by decide) (by decide) (by decide) (by decide) (by decide) (by decide) (by decide)]; exact h69
  have o68 : av (z_obeys n a).2 68 0 0 = nI m := by rw [vo_obeys (by decide) (by decide) (by decide) (by decide) (by decide) (by decide) (by decide)]; exact hm
  have o71 : ∀ s, av (z_obeys n a).2 71 s 0 = av a 71 s 0 := fun s => vo_obeys (by decide) (by decide) (by decide) (by decide) (by decide) (by decide) (by decide)
  have hM2 : MS 9 (z_obeys n a).2 := by
    rcases obeys_al (n := n) hC with e | ⟨k, hk, hka, e⟩
    · exact MS_eq hM o71 e
    · exact MS_wake hM o71 hk hka e
  refine rn_if (fun e => ?_) (fun e => ?_)
  · rw [if_pos e]
    refine rn_bd (m_sayz hD o69 (by omega)) ?_
    rintro _ E ⟨-, hE⟩
    refine rn_bd (m_sayz hE (say69 o69) (by omega)) ?_
    rintro _ G ⟨-, hG⟩
    refine m_pop hG ?_ hm0 hm2 (MS_eq hM2 (fun s => ?_) (by rw [lo_say, lo_say]))
    · rw [vo_say (by decide) (by decide), vo_say (by decide) (by decide)]; exact o68
    · rw [vo_say (by decide) (by decide), vo_say (by decide) (by decide)]
  · rw [if_neg e]
    exact m_pop hD o68 hm0 hm2 hM2
theorem wr_ready {n : Nat} {hd : Option Nat} {R D : St} {b b' : AS} (h : RR n hd R b) (hh : RRh none D b') (ea : ∀ g i j, g ≠ 7 → av b' g i j = av b g i j) (el : ∀ q, q ≠ 0 → al b' q = al b q) (e : ∀ q b k c, ¬ (q = 108 ∧ True) → ¬ (q = 50 ∧ k = 6) → ¬ (q = 50 ∧ k = 7) → D q b k c = R q b k c) : RR n none D (b') := by
  obtain ⟨g1, g2, g3, g4, g5, g6, g7, g8, g9, g10, g11, g12⟩ := h
  have hd1 : RRd n D b' := by
    refine RRd_of g1 (fun x hx => ?_) (fun f i j ho => ea f i j (by rintro rfl; exact ho.elim))
    obtain ⟨q, b, kk, c⟩ := x
    refine e q b kk c ?_ ?_ ?_ <;> (rintro ⟨rfl, hr⟩; exact hx (by simp [nvR, hr]))
  refine ⟨hd1, hh, RRs_eq g3 (fun c => e _ _ _ _ (by simp) (by simp) (by simp)) (fun s => ea 71 _ _ (by decide)), (e _ _ _ _ (by simp) (by simp) (by simp)).trans g4, RRt_eq g5 (fun c => e _ _ _ _ (by simp) (by simp) (by simp)) (ea _ _ _ (by decide)) (ea _ _ _ (by decide)) (ea _ _ _ (by decide)), RRe_eq g6 (fun c => e _ _ _ _ (by simp) (by simp) (by simp)) (fun c => e _ _ _ _ (by simp) (by simp) (by simp)) (fun k => ea _ _ _ (by decide)) (fun k => ea _ _ _ (by decide)), RRg_eq g7 (e _ _ _ _ (by simp) (by simp) (by simp)) (fun c => e _ _ _ _ (by simp) (by simp) (by simp)) (fun c => e _ _ _ _ (by simp) (by simp) (by simp)) (el 2 (by decide)) (fun k => ea _ _ _ (by decide)), RRa_eq g8 (e _ _ _ _ (by simp) (by simp) (by simp)) (fun c => e _ _ _ _ (by simp) (by simp) (by simp)) (fun c => e _ _ _ _ (by simp) (by simp) (by simp)) (el 1 (by decide)) (fun k => ea _ _ _ (by decide)), RRc_eq g9 (e _ _ _ _ (by simp) (by simp) (by simp)) (fun c => e _ _ _ _ (by simp) (by simp) (by simp)) (el 3 (by decide)), RRf_eq g10 (fun c => e _ _ _ _ (by simp) (by simp) (by simp)) (fun c => e _ _ _ _ (by simp) (by simp) (by simp)) (fun k => ea _ _ _ (by decide)) (fun k => ea _ _ _ (by decide)) (fun k => ea _ _ _ (by decide)), RRm_eq g11 ?_ (fun g b hg => ea g b 0 (by rintro rfl; simp at hg)), RRj_eq g12 (e _ _ _ _ (by simp) (by simp) (by simp)) (e _ _ _ _ (by simp) (by simp) (by simp)) (ea _ _ _ (by decide)) (ea _ _ _ (by decide))⟩
  all_goals first
    | rfl
    | (simp [av_sv, av_sl, al_sv, al_sl]; done)
    | (intro c; simp [av_sv, av_sl, al_sv, al_sl]; done)
    | (intro k hk; simp only [List.mem_cons, List.not_mem_nil, or_false] at hk; rcases hk with rfl | rfl | rfl | rfl | rfl | rfl <;> exact e _ _ _ _ (by simp) (by simp) (by simp))
    | (intro g b hg; simp only [List.mem_cons, List.not_mem_nil, or_false] at hg; rcases hg with rfl | rfl | rfl | rfl | rfl | rfl | rfl | rfl <;> simp [av_sv, av_sl, al_sv, al_sl]; done)
theorem m_sh130 {R : St} {m p : Nat} {Q : Int32 → St → Prop} (hm : m ≤ 10)
    (hK : ∀ D, D 50 0 6 0 = nI m → (∀ t, D 108 0 0 t = if t + 1 < m then R 108 0 0 (t + 1) else R 108 0 0 t) → (∀ q b k c, q ≠ 108 → D q b k c = R q b k c) → Rn (st (up D 50 0 6 0 ((D 50 0 6 0) - (1 : Int32))) (fun D2 => gd (inb (nI p) 10) (if (D2 109 0 0 (nI p).toNatClampNeg) = 0 then (gd (inb (D2 50 0 6 0) 10) (st (up D2 108 0 0 (D2 50 0 6 0).toNatClampNeg (nI p)) (fun D7 => st (up D7 50 0 6 0 ((D7 50 0 6 0) + (1 : Int32))) (fun D9 => some (0, D9))))) else (some (0, D2))))) Q) :
    ∀ fu j D, m < fu + j → 0 < j → j ≤ m → D 50 0 6 0 = nI m → (∀ t, D 108 0 0 t = if t + 1 < j then R 108 0 0 (t + 1) else R 108 0 0 t) → (∀ q b k c, q ≠ 108 → D q b k c = R q b k c) → Rn (F_X12_oneTick_130 fu (nI p) (nI j) D) Q := by
  intro fu
  induction fu with
  | zero => intro j D h1 h2 h3; omega
  | succ fu ih =>
    intro j D h1 h2 h3 hs hv he
    unfold F_X12_oneTick_130
    by_cases e : j = m
    · subst e
      refine rn_pos (by rw [hs]; exact nI_le (Nat.le_refl _) (by omega)) ?_
      exact hK D hs hv he
    · obtain ⟨j', rfl⟩ : ∃ j', j = j' + 1 := ⟨j - 1, by omega⟩
      refine rn_neg (by rw [hs]; exact nI_ge (by omega) (by omega)) ?_
      rw [nI_pred, show (nI (j' + 1)).toNatClampNeg = j' + 1 from nI_clamp (by omega), show (nI j').toNatClampNeg = j' from nI_clamp (by omega), nI_1]
      refine rn_gd (inb_nI (by omega) (by decide)) (rn_gd (inb_nI (by omega) (by decide)) (rn_st (ih (j' + 1 + 1) _ (by omega) (by omega) (by omega) ?_ ?_ ?_)))
      · rw [up_at, if_neg (by simp), hs]
      · intro t
        rw [up_at]
        by_cases et : t = j'
        · subst et
          rw [if_pos ⟨rfl, rfl, rfl, rfl⟩, if_pos (by omega), hv, if_neg (by omega)]
        · rw [if_neg (by simp [et]), hv]
          by_cases e1 : t + 1 < j' + 1
          · rw [if_pos e1, if_pos (by omega)]
          · rw [if_neg e1, if_neg (by omega)]
      · intro q b k c h4
        rw [up_at, if_neg (fun h => h4 h.1)]
        exact he q b k c h4
theorem m_t82 {n p : Nat} {D : St} {b : AS} (hp : p < 10) (hO : RRo n p D b) (hN : (al b 0).Nodup) (hB : ∀ q ∈ al b 0, q < 10) (h7 : (al b 0).head? = some p → ∃ u q, av b 7 0 0 = nI u ∧ av b 2 0 0 = nI q ∧ u < q ∧ q < 1000) (h70 : p ∉ al b 0 → av b 7 0 0 = 0) : Rn (F_X12_oneTick_82 (nI p) D) (fun r E => r = 0 ∧ RR n none E (z_endt p b)) := by
  have ecp : (nI p).toNatClampNeg = p := nI_clamp (by omega)
  unfold F_X12_oneTick_82 F_X12_oneTick_112 F_X12_oneTick_117
  rw [ecp]
  have e109 : ∀ x, up D 50 0 7 0 x 109 0 0 p = D 109 0 0 p := fun x => by rw [up_at, if_neg (by simp)]
  have e7 : ∀ x, up D 50 0 7 0 x 50 0 7 0 = x := fun x => by rw [up_at, if_pos ⟨rfl, rfl, rfl, rfl⟩]
  have e2 : ∀ x, up D 50 0 7 0 x 50 0 2 0 = D 50 0 2 0 := fun x => by rw [up_at, if_neg (by simp)]
  refine rn_st (rn_gd (inb_nI hp (by decide)) ?_)
  rw [e109, e7, e2]
  rcases hO with ⟨hR, hhd⟩ | ⟨hR, hnp⟩
  · have hpm : p ∈ al b 0 := List.mem_of_mem_head? hhd
    obtain ⟨t, hl⟩ : ∃ t, al b 0 = p :: t := by
      cases hb : al b 0 with
      | nil => rw [hb] at hhd; cases hhd
      | cons q t =>
        rw [hb] at hhd
        injection hhd with hhd
        exact ⟨t, by rw [hhd]⟩
    obtain ⟨u, q, e7b, e2b, huq, hq⟩ := h7 hhd
    have d109 : D 109 0 0 p = 0 := hR.2.1.2.1 p hpm
    have d7 : D 50 0 7 0 = nI u := by rw [hR.2.1.2.2.2 rfl, e7b]
    have d6 : D 50 0 6 0 = nI (al b 0).length := hR.2.1.1.1
    have l10 := len10 hN hB
    have hkt : p ∉ t := by
      rw [hl] at hN
      exact (List.nodup_cons.mp hN).1
    rw [d109, d7, rr_2 hR, e2b, nI_1]
    unfold z_endt
    rw [if_pos hhd, e7b, e2b, nI_1]
    refine rn_pos rfl ?_
    by_cases c : u + 1 = q
    · rw [if_neg (show ¬ nI (u + 1) < nI q from nI_nlt (by omega) (by omega))]
      refine rn_pos (by rw [c]) (rn_neg (by decide) (rn_st ?_))
      refine m_sh130 (R := up (up D 50 0 7 0 (nI (u + 1))) 50 0 7 0 0) (m := (al b 0).length) l10 ?_ 1000 1 _ (by omega) (by omega) (by rw [hl]; simp) (by rw [up_at, if_neg (by simp), up_at, if_neg (by simp), d6]) (fun t => by rw [if_neg (by omega)]) (fun _ _ _ _ _ => rfl)
      intro E c6 c108 ce
      have hlen : (al b 0).length = t.length + 1 := by rw [hl]; rfl
      rw [c6, hlen, nI_pred, ecp]
      refine rn_st (rn_gd (inb_nI hp (by decide)) ?_)
      have x109 : up E 50 0 6 0 (nI t.length) 109 0 0 p = 0 := by
        rw [up_at, if_neg (by simp), ce _ _ _ _ (by decide), up_at, if_neg (by simp), up_at, if_neg (by simp), d109]
      have x6 : up E 50 0 6 0 (nI t.length) 50 0 6 0 = nI t.length := by rw [up_at, if_pos ⟨rfl, rfl, rfl, rfl⟩]
      rw [x109, x6, show (nI t.length).toNatClampNeg = t.length from nI_clamp (by omega)]
      refine rn_pos rfl (rn_gd (inb_nI (by omega) (by decide)) (rn_st ?_))
      have y6 : up (up E 50 0 6 0 (nI t.length)) 108 0 0 t.length (nI p) 50 0 6 0 = nI t.length := by rw [up_at, if_neg (by simp), x6]
      rw [y6, nI_1]
      refine rn_st (rn_ret ⟨rfl, ?_⟩)
      have er : (al b 0).erase p = t := by rw [hl, er_hd]
      rw [er]
      have el0 : al (sl 0 (t ++ [p]) (sv 7 0 0 0 b)) 0 = t ++ [p] := by rw [al_sl, if_pos rfl]
      refine wr_ready hR ⟨⟨?_, fun i q hi => ?_⟩, fun q hq => ?_, fun q hq => (by cases hq), fun _ => ?_⟩ (fun g i j hg => by rw [av_sl, av_o hg]) (fun q hq => by rw [al_sl, if_neg hq, al_sv]) (fun q bb kk cc x1 x2 x3 => ?_)
      · rw [el0, up_at, if_pos ⟨rfl, rfl, rfl, rfl⟩]
        simp
      · rw [el0] at hi
        have hi : (t ++ [p])[i]? = some q := hi
        rw [up_at, if_neg (by simp), up_at]
        by_cases ei : i = t.length
        · subst ei
          rw [List.getElem?_append_right (Nat.le_refl _)] at hi
          simp at hi
          rw [if_pos ⟨rfl, rfl, rfl, rfl⟩, hi]
        · obtain ⟨h6, -⟩ := List.getElem?_eq_some_iff.mp hi
          rw [List.length_append, List.length_singleton] at h6
          rw [List.getElem?_append_left (by omega)] at hi
          rw [if_neg (by simp [ei]), up_at, if_neg (by simp), c108, if_pos (by omega), up_at, if_neg (by simp), up_at, if_neg (by simp)]
          exact hR.2.1.1.2 (i + 1) q (by rw [hl]; exact hi)
      · rw [el0] at hq
        have hq' : q ∈ al b 0 := by
          rw [hl]
          rcases List.mem_append.mp hq with hq | hq
          · exact List.mem_cons_of_mem _ hq
          · rw [List.mem_singleton] at hq
            rw [hq]; exact List.mem_cons_self
        rw [up_at, if_neg (by simp), up_at, if_neg (by simp), up_at, if_neg (by simp), ce _ _ _ _ (by decide), up_at, if_neg (by simp), up_at, if_neg (by simp)]
        exact hR.2.1.2.1 q hq'
      · rw [up_at, if_neg (by simp), up_at, if_neg (by simp), up_at, if_neg (by simp), ce _ _ _ _ (by decide), up_at, if_pos ⟨rfl, rfl, rfl, rfl⟩, av_sl, av_s]
      · rw [up_at, if_neg (fun y => x2 ⟨y.1, y.2.2.1⟩), up_at, if_neg (fun y => x1 ⟨y.1, trivial⟩), up_at, if_neg (fun y => x2 ⟨y.1, y.2.2.1⟩), ce _ _ _ _ (fun y => x1 ⟨y, trivial⟩), up_at, if_neg (fun y => x3 ⟨y.1, y.2.2.1⟩), up_at, if_neg (fun y => x3 ⟨y.1, y.2.2.1⟩)]
    · rw [if_pos (show nI (u + 1) < nI q from nI_lt (by omega) (by omega))]
      refine rn_neg (fun y => c ((nI_eq (by omega) (by omega)).mp y)) (rn_pos rfl (rn_ret ⟨rfl, ?_⟩))
      refine wr_ready hR ⟨⟨?_, fun i q hi => ?_⟩, fun q hq => ?_, fun q hq => (by cases hq), fun _ => ?_⟩ (fun g i j hg => av_o hg) (fun q hq => rfl) (fun q bb kk cc x1 x2 x3 => ?_)
      · rw [up_at, if_neg (by simp), d6]; rfl
      · rw [up_at, if_neg (by simp)]; exact hR.2.1.1.2 i q hi
      · rw [up_at, if_neg (by simp)]; exact hR.2.1.2.1 q hq
      · rw [e7, av_s]
      · rw [up_at, if_neg (fun y => x3 ⟨y.1, y.2.2.1⟩)]
  · have hlen10 : (p :: al b 0).length ≤ 10 := by
      refine len10 (List.nodup_cons.mpr ⟨hnp, hN⟩) (fun q hq => ?_)
      rcases List.mem_cons.mp hq with rfl | hq
      · exact hp
      · exact hB q hq
    have d109 : D 109 0 0 p = 1 := hR.2.1.2.2.1 p rfl
    have d6 : D 50 0 6 0 = nI (p :: al b 0).length := hR.2.1.1.1
    have ez : z_endt p b = b := by
      unfold z_endt
      rw [if_neg]
      intro hh
      exact hnp (List.mem_of_mem_head? hh)
    rw [ez, d109]
    refine rn_neg (by decide) (rn_neg (by decide) (rn_st ?_))
    generalize hX : D 50 0 7 0 + 1 = X
    refine m_sh130 (R := up (up D 50 0 7 0 X) 50 0 7 0 0) (m := (p :: al b 0).length) hlen10 ?_ 1000 1 _ (by omega) (by omega) (by simp) (by rw [up_at, if_neg (by simp), up_at, if_neg (by simp), d6]) (fun t => by rw [if_neg (by omega)]) (fun _ _ _ _ _ => rfl)
    intro E c6 c108 ce
    simp only [List.length_cons] at c6 c108 hlen10
    rw [c6, nI_pred, ecp]
    refine rn_st (rn_gd (inb_nI hp (by decide)) ?_)
    have x109 : up E 50 0 6 0 (nI (al b 0).length) 109 0 0 p = 1 := by
      rw [up_at, if_neg (by simp), ce _ _ _ _ (by decide), up_at, if_neg (by simp), up_at, if_neg (by simp), d109]
    rw [x109]
    refine rn_neg (by decide) (rn_ret ⟨rfl, ?_⟩)
    refine wr_ready hR ⟨⟨?_, fun i q hi => ?_⟩, fun q hq => ?_, fun q hq => (by cases hq), fun _ => ?_⟩ (fun g i j hg => rfl) (fun q hq => rfl) (fun q bb kk cc x1 x2 x3 => ?_)
    · rw [up_at, if_pos ⟨rfl, rfl, rfl, rfl⟩]; rfl
    · have hi : (al b 0)[i]? = some q := hi
      obtain ⟨h6, -⟩ := List.getElem?_eq_some_iff.mp hi
      rw [up_at, if_neg (by simp), c108, if_pos (by omega), up_at, if_neg (by simp), up_at, if_neg (by simp)]
      exact hR.2.1.1.2 (i + 1) q hi
    · rw [up_at, if_neg (by simp), ce _ _ _ _ (by decide), up_at, if_neg (by simp), up_at, if_neg (by simp)]
      exact hR.2.1.2.1 q hq
    · rw [up_at, if_neg (by simp), ce _ _ _ _ (by decide), up_at, if_pos ⟨rfl, rfl, rfl, rfl⟩, h70 hnp]
    · rw [up_at, if_neg (fun y => x2 ⟨y.1, y.2.2.1⟩), ce _ _ _ _ (fun y => x1 ⟨y, trivial⟩), up_at, if_neg (fun y => x3 ⟨y.1, y.2.2.1⟩), up_at, if_neg (fun y => x3 ⟨y.1, y.2.2.1⟩)]
