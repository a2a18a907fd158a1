/-! The reference: the steps of reader and printer -/
theorem m_rd22 {R : St} {m : Nat} {Q : Int32 → St → Prop} (hm : m ≤ 6)
    (hK : ∀ D, D 50 0 61 0 = nI m → (∀ t, D 158 0 0 t = if t + 1 < m then R 158 0 0 (t + 1) else R 158 0 0 t) → (∀ q b k c, q ≠ 158 → D q b k c = R q b k c) → Rn (st (up D 50 0 61 0 ((D 50 0 61 0) - (1 : Int32))) (fun D2 => st (up D2 50 0 52 0 (1 : Int32)) (fun D4 => bd2 (F_X12_waitFor (7 : Int32) (3 : Int32) (1 : Int32) D4) (fun r6 D7 => some (0, D7))))) Q) :
    ∀ fu j D, m < fu + j → 0 < j → j ≤ m → D 50 0 61 0 = nI m → (∀ t, D 158 0 0 t = if t + 1 < j then R 158 0 0 (t + 1) else R 158 0 0 t) → (∀ q b k c, q ≠ 158 → D q b k c = R q b k c) → Rn (F_X12_readingStep_22 fu (nI j) D) Q := by
  intro fu
  induction fu with
  | zero => intro j D h1 h2 h3; omega
  | succ fu ih =>
    intro j D h1 h2 h3 hs hv he
    unfold F_X12_readingStep_22
    by_cases e : j = m
    · subst e
      refine rn_pos (by rw [hs]; exact nI_le (Nat.le_refl _) (by omega)) ?_
      exact hK D hs hv he
    · obtain ⟨j', rfl⟩ : ∃ j', j = j' + 1 := ⟨j - 1, by omega⟩
      refine rn_neg (by rw [hs]; exact nI_ge (by omega) (by omega)) ?_
      rw [nI_pred, nI_clamp (by omega), nI_clamp (by omega), nI_1]
      refine rn_gd (inb_nI (by omega) (by decide)) (rn_gd (inb_nI (by omega) (by decide)) (rn_st (ih (j' + 1 + 1) _ (by omega) (by omega) (by omega) ?_ ?_ ?_)))
      · rw [up_at, if_neg (by simp), hs]
      · intro t
        rw [up_at]
        by_cases et : t = j'
        · subst et
          rw [if_pos ⟨rfl, rfl, rfl, rfl⟩, if_pos (by omega), hv, if_neg (by omega)]
        · rw [if_neg (by simp [et]), hv]
          by_cases e1 : t + 1 < j' + 1
          · rw [if_pos e1, if_pos (by omega)]
          · rw [if_neg e1, if_neg (by omega)]
      · intro q b k c h4
        rw [up_at, if_neg (fun h => h4 h.1)]
        exact he q b k c h4
theorem MS_wake {p k : Nat} {a b : AS} (h : MS p a) (e : ∀ s, av b 71 s 0 = av a 71 s 0) (hk : k < 6) (hka : k ∉ al a 0) (el : al b 0 = al a 0 ++ [k]) : MS p b := by
  obtain ⟨⟨t, hl⟩, hn2, hb2, hs2⟩ := h
  refine ⟨⟨t ++ [k], by rw [el, hl]; rfl⟩, ?_, fun q hq => ?_, ?_⟩
  · rw [el, List.nodup_append]
    refine ⟨hn2, by simp, fun x hx y hy => ?_⟩
    rw [List.mem_singleton] at hy
    subst hy
    exact fun e => hka (e ▸ hx)
  · rw [el] at hq
    rcases List.mem_append.mp hq with hq | hq
    · exact hb2 q hq
    · rw [List.mem_singleton] at hq; omega
  · rw [sg_eq e]
    exact hs2
theorem al0_wake {k : Nat} {a : AS} (h : k ∉ al a 0) : al (z_wake k a) 0 = al a 0 ++ [k] := by
  rw [al_wake, if_pos rfl, if_neg h]
/-- what the reference wants of the reader's process -/
def MR (a : AS) : Prop := (av a 54 0 0 < 0 → ∃ k t, k < 6 ∧ al a 3 = k :: t ∧ t.length < 6) ∧ (¬ av a 54 0 0 < 0 → ∃ k c, k < 6 ∧ c < 40 ∧ av a 54 0 0 = nI k ∧ av a 32 k 0 = nI c ∧ k ∉ al a 0)
theorem m_reading {n : Nat} {R : St} {a : AS} (h : RR n none R a) (hn : n ≤ 12) (hM : MS 7 a) (hG : MR a) : Rn (F_X12_readingStep R) (fun r D => r = 0 ∧ RRo n 7 D (z_reading n a)) := by
  obtain ⟨q1, q2⟩ := hG
  have e112 : R 112 0 0 7 = sgt (av a 54 0 0) := h.2.2.2.2.1.2.1
  have e7 : (7 : Int32).toNatClampNeg = 7 := rfl
  have e0 : (0 : Int32).toNatClampNeg = 0 := rfl
  unfold F_X12_readingStep z_reading
  rw [e7, e0, e112]
  by_cases c : av a 54 0 0 < 0
  · obtain ⟨k, t, hk, hl, ht⟩ := q1 c
    have s0 : sgt (av a 54 0 0) = 0 := by unfold sgt; rw [if_pos c]
    rw [s0, if_pos c, hl]
    have a158 : R 158 0 0 0 = nI k := h.2.2.2.2.2.2.2.2.1.2 0 k (by rw [hl]; rfl)
    have a61 : R 50 0 61 0 = nI (t.length + 1) := by
      have := h.2.2.2.2.2.2.2.2.1.1
      rw [hl] at this
      exact this
    rw [a158]
    refine rn_gd rfl (rn_pos rfl (rn_gd rfl (rn_st ?_)))
    refine m_rd22 (m := t.length + 1) (R := up R 50 0 54 0 (nI k)) (by omega) ?_ 1000 1 _ (by omega) (by omega) (by omega) (by rw [up_at, if_neg (by simp), a61]) (fun t => by rw [if_neg (by omega)]) (fun _ _ _ _ _ => rfl)
    intro D d61 d158 dd
    rw [d61, nI_pred]
    refine rn_st (rn_st ?_)
    have hD : RR n none (up D 50 0 61 0 (nI t.length)) (sl 3 t a) := by
      refine wr_pop3 h hl c ?_ (fun i hi => ?_) (fun q b kk cc x1 x2 x3 => ?_)
      · rw [up_at, if_pos ⟨rfl, rfl, rfl, rfl⟩]
      · rw [up_at, if_neg (by simp), d158, if_pos (by omega), up_at, if_neg (by simp)]
      · rw [up_at, if_neg (fun y => x2 ⟨y.1, y.2.2.1⟩), dd q b kk cc (fun y => x1 ⟨y, trivial⟩), up_at, if_neg (fun y => x3 ⟨y.1, y.2.2.1⟩)]
    have d54 : up (up D 50 0 61 0 (nI t.length)) 50 0 52 0 1 50 0 54 0 = nI k := by
      rw [up_at, if_neg (by simp), up_at, if_neg (by simp), dd _ _ _ _ (by decide), up_at, if_pos ⟨rfl, rfl, rfl, rfl⟩]
    have hE := wr_st7 (wr_52 (x := 1) hD) hk d54
    have ez : sv 54 0 0 (nI k) (sv 52 0 0 1 (sl 3 t a)) = z_take1 k t a := by
      unfold z_take1
      refine as_ext (fun g b c => ?_) (fun q => rfl)
      rw [av_sv, av_sv, av_sv, av_sv]
      grind
    rw [ez] at hE
    refine rn_bd (m_pO (s := 3) (p := 7) rfl rfl hE (by decide) rfl (MS_eq hM (fun s => by unfold z_take1; simp [av_sv, av_sl]) rfl)) ?_
    rintro _ G ⟨-, hG⟩
    exact rn_ret ⟨rfl, hG⟩
  · obtain ⟨k, cc, hk, hc, e54, e32, hka⟩ := q2 c
    have s0 : sgt (av a 54 0 0) = 1 := by unfold sgt; rw [if_neg c]
    have m1 : R 50 0 54 0 = nI k := by rw [h.2.2.2.2.2.2.2.2.2.2.2.1 c, e54]
    have eck : (nI k).toNatClampNeg = k := nI_clamp (by omega)
    rw [s0, if_neg c, m1, eck, rr_32 h hk, e32, show (40 : Int32) * nI k + nI cc = nI (40 * k + cc) from mulN 40 k cc, show (nI (40 * k + cc)).toNatClampNeg = 40 * k + cc from nI_clamp (by omega), rr_30 h hk hc]
    refine rn_gd rfl (rn_neg (by decide) (rn_gd (inb_nI hk (by decide)) (rn_gd (inb_nI (by omega) (by decide)) (rn_st ?_))))
    have h19 := wr_19 (x := av a 30 k cc) h hk
    rw [rr_32 h19 hk, av_o (by decide), e32, nI_1]
    refine rn_st ?_
    have h32 := wr_32 (x := nI (cc + 1)) h19 hk
    have ez : sv 32 k 0 (nI (cc + 1)) (sv 19 k 0 (av a 30 k cc) a) = sv 19 k 0 (av a 30 k cc) (sv 32 k 0 (nI (cc + 1)) a) := by
      refine as_ext (fun g b c => ?_) (fun q => rfl)
      rw [av_sv, av_sv, av_sv, av_sv]
      grind
    rw [ez] at h32
    refine rn_bd (m_finish h32 hn hk) ?_
    rintro _ D ⟨-, hD⟩
    rw [av_o (by decide), av_o (by decide)] at hD
    refine rn_bd (m_wakeJ (hd := none) hD hk hM.2.1 hM.2.2.1 hka) ?_
    rintro _ E ⟨-, hE⟩
    have hU := wr_un7 hE
    have el : al (z_card n k cc a) 0 = al a 0 ++ [k] := by
      unfold z_card
      rw [al_sv, al0_wake]
      · rfl
      · exact hka
    rw [e54, eck, e32, show (nI cc).toNatClampNeg = cc from nI_clamp (by omega)]
    refine rn_bd (m_pO (s := 2) (p := 7) (a := z_card n k cc a) rfl rfl hU (by decide) rfl (MS_wake hM (fun s => ?_) hk hka el)) ?_
    · unfold z_card
      rw [av_o (by decide), vo_wake (by decide), vo_comp (by decide) (by decide) (by decide), av_o (by decide), av_o (by decide)]
    rintro _ G ⟨-, hG⟩
    exact rn_ret ⟨rfl, hG⟩
def z_shl (j k : Nat) (a : AS) : AS := (fun g b c => if g = 33 ∧ b = k ∧ c + 1 < j then a.1 33 k (c + 1) else a.1 g b c, a.2)
theorem av_shl (j k : Nat) (a : AS) (g b c : Nat) : av (z_shl j k a) g b c = if g = 33 ∧ b = k ∧ c + 1 < j then av a 33 k (c + 1) else av a g b c := rfl
theorem shl_succ (j k : Nat) (a : AS) : sv 33 k j (av a 33 k (j + 1)) (z_shl (j + 1) k a) = z_shl (j + 2) k a := by
  refine as_ext (fun g b c => ?_) (fun q => rfl)
  rw [av_sv, av_shl, av_shl]
  by_cases c1 : g = 33 ∧ b = k ∧ c = j
  · obtain ⟨rfl, rfl, rfl⟩ := c1
    rw [if_pos ⟨rfl, rfl, rfl⟩, if_pos ⟨rfl, rfl, by omega⟩]
  · rw [if_neg c1]
    by_cases c2 : g = 33 ∧ b = k ∧ c + 1 < j + 1
    · rw [if_pos c2, if_pos ⟨c2.1, c2.2.1, by omega⟩]
    · rw [if_neg c2, if_neg]
      rintro ⟨d1, d2, d3⟩
      by_cases d5 : c = j
      · exact c1 ⟨d1, d2, d5⟩
      · exact c2 ⟨d1, d2, by omega⟩
theorem shl1 (k : Nat) (a : AS) : z_shl 1 k a = a := as_ext (fun g b c => by rw [av_shl, if_neg (by omega)]) (fun q => rfl)
/-- what the reference wants of the printer's process -/
def MP (a : AS) : Prop := (av a 55 0 0 < 0 → ∃ k, k < 6 ∧ z_hold a = some k ∧ ∀ j, j < 6 → ((av a 14 j 0 = 2 ∧ av a 27 j 1 = 1) ↔ j = k)) ∧ (¬ av a 55 0 0 < 0 → ∃ k m pm, k < 6 ∧ av a 55 0 0 = nI k ∧ av a 34 k 0 = nI m ∧ 0 < m ∧ m ≤ 24 ∧ av a 36 k 0 = nI pm ∧ pm < 5000 ∧ (av a 10 k 0 ≠ 0 → k ∉ al a 0))
theorem m_printing {n : Nat} {R : St} {a : AS} (h : RR n none R a) (hM : MS 8 a) (hG : MP a) : Rn (F_X12_printingStep R) (fun r D => r = 0 ∧ RRo n 8 D (z_printing a)) := by
  obtain ⟨q1, q2⟩ := hG
  have e112 : R 112 0 0 8 = sgt (av a 55 0 0) := h.2.2.2.2.1.2.2
  have e8 : (8 : Int32).toNatClampNeg = 8 := rfl
  unfold F_X12_printingStep z_printing
  rw [e8, e112]
  by_cases c : av a 55 0 0 < 0
  · obtain ⟨k, hk, hz, hu⟩ := q1 c
    have s0 : sgt (av a 55 0 0) = 0 := by unfold sgt; rw [if_pos c]
    rw [s0, if_pos c, hz]
    refine rn_gd rfl (rn_pos rfl ?_)
    have key : ∀ fu j D, 6 < fu + j → j ≤ 6 → RR n none D a → (k < j → D 50 0 55 0 = nI k) → Rn (F_X12_printingStep_12 fu (nI j) D) (fun r D => r = 0 ∧ RRo n 8 D (z_p 5 (z_take2 k a))) := by
      intro fu
      induction fu with
      | zero => intro j D h1 h2; omega
      | succ fu ih =>
        intro j D h1 h2 hD h55
        unfold F_X12_printingStep_12 F_X12_printingStep_47
        by_cases e : j = 6
        · subst e
          refine rn_pos (show (6 : Int32) ≤ nI 6 by decide) (rn_st ?_)
          have d55 : up D 50 0 53 0 1 50 0 55 0 = nI k := by rw [up_at, if_neg (by simp), h55 hk]
          have hE := wr_st8 (wr_53 (x := 1) hD) hk d55
          have ez : sv 55 0 0 (nI k) (sv 53 0 0 1 a) = z_take2 k a := by
            unfold z_take2
            refine as_ext (fun g b c => ?_) (fun q => rfl)
            rw [av_sv, av_sv, av_sv, av_sv]
            grind
          rw [ez] at hE
          refine rn_bd (m_pO (s := 5) (p := 8) rfl rfl hE (by decide) rfl (MS_eq hM (fun s => by unfold z_take2; simp [av_sv]) rfl)) ?_
          rintro _ G ⟨-, hG⟩
          exact rn_ret ⟨rfl, hG⟩
        · have hj : j < 6 := by omega
          rw [show (3 : Int32) * nI j + 1 = nI (3 * j + 1) from mulN 3 j 1, show (nI (3 * j + 1)).toNatClampNeg = 3 * j + 1 from nI_clamp (by omega), show (nI j).toNatClampNeg = j from nI_clamp (by omega), rr_14 hD hj, rr_27 hD hj (by decide), nI_1]
          refine rn_neg (nI_ge (b := 6) hj (by decide)) (rn_gd (inb_nI hj (by decide)) (rn_if (fun e1 => rn_gd (inb_nI (by omega) (by decide)) (rn_if (fun e2 => rn_st (ih (j + 1) _ (by omega) (by omega) (wr_r55 hD c) (fun hkj => ?_))) (fun e2 => ih (j + 1) D (by omega) (by omega) hD (fun hkj => ?_)))) (fun e1 => ih (j + 1) D (by omega) (by omega) hD (fun hkj => ?_))))
          · rw [up_at, if_pos ⟨rfl, rfl, rfl, rfl⟩, (hu j hj).mp ⟨e1, e2⟩]
          · refine h55 (Classical.byContradiction fun hh => ?_)
            have : k = j := by omega
            subst this
            exact e2 ((hu k hk).mpr rfl).2
          · refine h55 (Classical.byContradiction fun hh => ?_)
            have : k = j := by omega
            subst this
            exact e1 ((hu k hk).mpr rfl).1
    exact key 1000 0 R (by omega) (by omega) h (fun hh => absurd hh (Nat.not_lt_zero k))
  · obtain ⟨k, m, pm, hk, e55, hm, hm0, hm2, hpm, hpm2, hka⟩ := q2 c
    have s0 : sgt (av a 55 0 0) = 1 := by unfold sgt; rw [if_neg c]
    have m1 : R 50 0 55 0 = nI k := by rw [h.2.2.2.2.2.2.2.2.2.2.2.2 c, e55]
    have eck : (nI k).toNatClampNeg = k := nI_clamp (by omega)
    rw [s0, if_neg c, m1, eck, rr_36 h hk, hpm, show (5000 : Int32) * nI k + nI pm = nI (5000 * k + pm) from mulN 5000 k pm, show (nI (5000 * k + pm)).toNatClampNeg = 5000 * k + pm from nI_clamp (by omega), show (24 : Int32) * nI k = nI (24 * k + 0) from mulN0 24 k, show (nI (24 * k + 0)).toNatClampNeg = 24 * k + 0 from nI_clamp (by omega), rr_33 h hk (by decide)]
    refine rn_gd rfl (rn_neg (by decide) (rn_gd (inb_nI hk (by decide)) (rn_gd (inb_nI (by omega) (by decide)) (rn_gd (inb_nI (by omega) (by decide)) (rn_st ?_)))))
    have h35 := wr_35 (x := av a 33 k 0) h hk (show pm < 5000 from hpm2)
    rw [rr_36 h35 hk, av_o (by decide), hpm]
    refine rn_st ?_
    have h36 := wr_36 (x := nI pm + 1) h35 hk
    have hO : RR n none (up (up R 135 0 0 (5000 * k + pm) (av a 33 k 0)) 136 0 0 k (nI pm + 1)) (z_out k a) := by
      refine RR_abs h36 (fun g b c x1 x2 x3 x4 x5 x6 => ?_) (fun q => rfl)
      unfold z_out
      rw [hpm, show (nI pm).toNatClampNeg = pm from nI_clamp (by omega), av_sv, av_sv, av_sv, av_sv, av_sv, av_sv, av_sv]
      rw [if_neg (c := g = 72 ∧ b = 0 ∧ c = 0) (fun y => x1 y.1), if_neg (c := g = 77 ∧ b = (av a 72 0 0).toNatClampNeg ∧ c = 0) (fun y => x6 y.1), if_neg (c := g = 76 ∧ b = (av a 72 0 0).toNatClampNeg ∧ c = 0) (fun y => x5 y.1)]
    have o34 : av (z_out k a) 34 k 0 = nI m := by
      unfold z_out
      rw [av_o (by decide), av_o (by decide), av_o (by decide), av_o (by decide), av_o (by decide), hm]
    have key : ∀ fu j D, m < fu + j → 0 < j → j ≤ m → RR n none D (z_shl j k (z_out k a)) → Rn (F_X12_printingStep_110 fu (nI k) (nI j) D) (fun r D => r = 0 ∧ RRo n 8 D (z_p 4 (sv 55 0 0 (-1) (z_wakeP k (z_put k a))))) := by
      intro fu
      induction fu with
      | zero => intro j D h1 h2 h3; omega
      | succ fu ih =>
        intro j D h1 h2 h3 hD
        have s34 : av (z_shl j k (z_out k a)) 34 k 0 = nI m := by rw [av_shl, if_neg (by simp), o34]
        unfold F_X12_printingStep_110 F_X12_printingStep_189 F_X12_printingStep_194
        rw [eck, rr_34 hD hk, s34]
        refine rn_gd (inb_nI hk (by decide)) ?_
        by_cases e : j = m
        · subst e
          obtain ⟨m', rfl⟩ : ∃ m', j = m' + 1 := ⟨j - 1, by omega⟩
          refine rn_pos (nI_le (Nat.le_refl _) (by omega)) ?_
          rw [nI_pred]
          refine rn_st (rn_gd (inb_nI (by omega) (by decide)) ?_)
          have hE : RR n none (up D 134 0 0 k (nI m')) (z_put k a) := by
            have := wr_34 (x := nI m') hD hk
            have ez : sv 34 k 0 (nI m') (z_shl (m' + 1) k (z_out k a)) = z_put k a := by
              unfold z_put z_shift
              rw [hm, show (nI (m' + 1)).toNatClampNeg = m' + 1 from nI_clamp (by omega)]
              rfl
            rw [ez] at this
            exact this
          have p34 : av (z_put k a) 34 k 0 = nI m' := by
            unfold z_put
            rw [av_shift, if_pos ⟨rfl, rfl, rfl⟩, hm, show (nI (m' + 1)).toNatClampNeg = m' + 1 from nI_clamp (by omega)]
            rfl
          have p10 : av (z_put k a) 10 k 0 = av a 10 k 0 := vo_put (by decide) (by decide) (by decide) (by decide) (by decide) (by decide) (by decide)
          have p71 : ∀ s, av (z_put k a) 71 s 0 = av a 71 s 0 := fun s => vo_put (by decide) (by decide) (by decide) (by decide) (by decide) (by decide) (by decide)
          rw [rr_10 hE hk, rr_34 hE hk, p10, p34]
          have fin : ∀ (D : St) (b : AS), RR n none D b → MS 8 b → Rn (bd2 (F_X12_waitFor (8 : Int32) (4 : Int32) (0 : Int32) D) (fun r1 D2 => some (0, D2))) (fun r D => r = 0 ∧ RRo n 8 D (z_p 4 (sv 55 0 0 (-1) b))) := by
            intro D b hb hMb
            refine rn_bd (m_pO (s := 4) (p := 8) rfl rfl (wr_un8 hb) (by decide) rfl (MS_eq hMb (fun s => av_o (by decide)) rfl)) ?_
            rintro _ G ⟨-, hG⟩
            exact rn_ret ⟨rfl, hG⟩
          have wk : av a 10 k 0 ≠ 0 → (z_wakeP k (z_put k a) = z_wake k (z_put k a)) → Rn (bd2 (F_X12_wake (nI k) (up D 134 0 0 k (nI m'))) (fun r1 D2 => bd2 (F_X12_waitFor (8 : Int32) (4 : Int32) (0 : Int32) D2) (fun r1 D2 => some (0, D2)))) (fun r D => r = 0 ∧ RRo n 8 D (z_p 4 (sv 55 0 0 (-1) (z_wakeP k (z_put k a))))) := by
            intro hne ez
            rw [ez]
            have hk0 := hka hne
            refine rn_bd (m_wakeJ (hd := none) hE hk hM.2.1 hM.2.2.1 hk0) ?_
            rintro _ G ⟨-, hG⟩
            exact fin G _ hG (MS_wake hM (fun s => by rw [vo_wake (by decide), p71]) hk hk0 (al0_wake hk0))
          have nw : (z_wakeP k (z_put k a) = z_put k a) → Rn (bd2 (F_X12_waitFor (8 : Int32) (4 : Int32) (0 : Int32) (up D 134 0 0 k (nI m'))) (fun r1 D2 => some (0, D2))) (fun r D => r = 0 ∧ RRo n 8 D (z_p 4 (sv 55 0 0 (-1) (z_wakeP k (z_put k a))))) := by
            intro ez
            rw [ez]
            exact fin _ _ hE (MS_eq hM p71 rfl)
          refine rn_if (fun e1 => wk (by rw [e1]; decide) ?_) (fun e1 => rn_if (fun e2 => rn_if (fun e3 => wk (by rw [e2]; decide) ?_) (fun e3 => nw ?_)) (fun e2 => nw ?_))
          · unfold z_wakeP
            rw [if_pos (Or.inl (by rw [p10]; exact e1))]
          · unfold z_wakeP
            rw [if_pos (Or.inr ⟨by rw [p10]; exact e2, by rw [p34]; exact e3⟩)]
          · unfold z_wakeP
            rw [p10, p34, if_neg (fun o => o.elim e1 (fun y => e3 y.2))]
          · unfold z_wakeP
            rw [p10, p34, if_neg (fun o => o.elim e1 (fun y => e2 y.1))]
        · obtain ⟨j', rfl⟩ : ∃ j', j = j' + 1 := ⟨j - 1, by omega⟩
          have ex : nI (24 * k + (j' + 1)) - 1 = nI (24 * k + j') := by
            rw [← Nat.add_assoc]
            exact nI_pred _
          rw [show (24 : Int32) * nI k + nI (j' + 1) = nI (24 * k + (j' + 1)) from mulN 24 k (j' + 1), ex, show (nI (24 * k + (j' + 1))).toNatClampNeg = 24 * k + (j' + 1) from nI_clamp (by omega), show (nI (24 * k + j')).toNatClampNeg = 24 * k + j' from nI_clamp (by omega), rr_33 hD hk (by omega), nI_1]
          refine rn_neg (nI_ge (by omega) (by omega)) (rn_gd (inb_nI (by omega) (by decide)) (rn_gd (inb_nI (by omega) (by decide)) (rn_st (ih (j' + 1 + 1) _ (by omega) (by omega) (by omega) ?_))))
          have e33 : av (z_shl (j' + 1) k (z_out k a)) 33 k (j' + 1) = av (z_out k a) 33 k (j' + 1) := by rw [av_shl, if_neg (by omega)]
          rw [e33, ← shl_succ]
          exact wr_33 hD hk (by omega)
    rw [e55, eck]
    refine key 1000 1 _ (by omega) (by omega) (by omega) ?_
    rw [shl1]
    exact hO
