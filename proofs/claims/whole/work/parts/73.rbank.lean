/-! The reference: resources -/
theorem wr_leave2 {n i0 : Nat} {hd : Option Nat} {R D : St} {a : AS} (h : RR n hd R a) (h0 : i0 < (al a 2).length) (e1 : D 50 0 62 0 = nI ((al a 2).length - 1)) (e2 : ∀ i, D 159 0 0 i = if i0 ≤ i ∧ i + 1 < (al a 2).length then R 159 0 0 (i + 1) else R 159 0 0 i) (e : ∀ q b k c, ¬ (q = 159 ∧ b = 0 ∧ k = 0) → ¬ (q = 50 ∧ b = 0 ∧ k = 62 ∧ c = 0) → D q b k c = R q b k c) : RR n hd (D) (sl 2 ((al a 2).eraseIdx i0) a) := by
  obtain ⟨g1, g2, g3, g4, g5, g6, g7, g8, g9, g10, g11, g12⟩ := h
  have hg : RRg D (sl 2 ((al a 2).eraseIdx i0) a) := by
    refine ⟨?_, fun j hj => ?_⟩
    · rw [al_sl, if_pos rfl]
      exact RRl_era g7.1 h0 e1 e2
    · rw [al_sl, if_pos rfl] at hj
      rw [av_sl, e 129 0 0 j (by simp) (by simp)]
      exact g7.2 j (List.mem_of_mem_eraseIdx hj)
  have hd1 : RRd n D (sl 2 ((al a 2).eraseIdx i0) a) := by
    intro f i j ho
    rw [av_sl, ← g1 f i j ho]
    have e5 := nvR_ok ho
    have e6 := okR_lt ho
    unfold atC
    refine e _ _ _ _ ?_ ?_
    · intro hh
      have : (nvR (adR f i j)).1 = 80 := by
        unfold nvR
        simp [hh.1]
      rw [e5] at this
      simp only at this
      omega
    · intro hh
      have : (nvR (adR f i j)).1 = 80 := by
        unfold nvR
        simp [hh.1, hh.2.2.1]
      rw [e5] at this
      simp only at this
      omega
  refine ⟨hd1, RRh_eq g2 (e _ _ _ _ (by simp) (by simp)) (e _ _ _ _ (by simp) (by simp)) (fun c => e _ _ _ _ (by simp) (by simp)) (fun c => e _ _ _ _ (by simp) (by simp)) (by simp [al_sl]) rfl, RRs_eq g3 (fun c => e _ _ _ _ (by simp) (by simp)) (fun _ => rfl), (e _ _ _ _ (by simp) (by simp)).trans g4, RRt_eq g5 (fun c => e _ _ _ _ (by simp) (by simp)) rfl rfl rfl, RRe_eq g6 (fun c => e _ _ _ _ (by simp) (by simp)) (fun c => e _ _ _ _ (by simp) (by simp)) (fun _ => rfl) (fun _ => rfl), hg, RRa_eq g8 (e _ _ _ _ (by simp) (by simp)) (fun c => e _ _ _ _ (by simp) (by simp)) (fun c => e _ _ _ _ (by simp) (by simp)) (by simp [al_sl]) (fun _ => rfl), RRc_eq g9 (e _ _ _ _ (by simp) (by simp)) (fun c => e _ _ _ _ (by simp) (by simp)) (by simp [al_sl]), RRf_eq g10 (fun c => e _ _ _ _ (by simp) (by simp)) (fun c => e _ _ _ _ (by simp) (by simp)) (fun _ => rfl) (fun _ => rfl) (fun _ => rfl), RRm_eq g11 (fun k hk => e _ _ _ _ (by simp) (by rintro ⟨-, -, rfl, -⟩; simp at hk)) (fun _ _ _ => rfl), RRj_eq g12 (e _ _ _ _ (by simp) (by simp)) (e _ _ _ _ (by simp) (by simp)) rfl rfl⟩

theorem m_lg4 {R : St} {m i0 : Nat} (hm : m ≤ 6) (h0 : i0 < m) : ∀ fu j D, m < fu + j → i0 < j → j ≤ m → D 50 0 62 0 = nI m → (∀ t, D 159 0 0 t = if i0 ≤ t ∧ t + 1 < j then R 159 0 0 (t + 1) else R 159 0 0 t) → (∀ q b k c, ¬ (q = 159 ∧ b = 0 ∧ k = 0) → D q b k c = R q b k c) →
    Rn (F_X12_leaveGets_4 fu (nI j) D) (fun r E => r = 0 ∧ E 50 0 62 0 = nI (m - 1) ∧ (∀ t, E 159 0 0 t = if i0 ≤ t ∧ t + 1 < m then R 159 0 0 (t + 1) else R 159 0 0 t) ∧ ∀ q b k c, ¬ (q = 159 ∧ b = 0 ∧ k = 0) → ¬ (q = 50 ∧ b = 0 ∧ k = 62 ∧ c = 0) → E q b k c = R q b k c) := by
  intro fu
  induction fu with
  | zero => intro j D h1 h2 h3; omega
  | succ fu ih =>
    intro j D h1 h2 h3 hs hv he
    unfold F_X12_leaveGets_4
    rw [hs]
    by_cases e : j = m
    · subst e
      refine rn_pos (nI_le (Nat.le_refl _) (by omega)) (rn_st (rn_ret ⟨rfl, ?_, fun t => ?_, fun q b k c h4 h5 => ?_⟩))
      · rw [up_at, if_pos ⟨rfl, rfl, rfl, rfl⟩]
        obtain ⟨m', rfl⟩ : ∃ m', j = m' + 1 := ⟨j - 1, by omega⟩
        rw [nI_pred]
        rfl
      · rw [up_at, if_neg (by simp), hv t]
      · rw [up_at, if_neg h5, he q b k c h4]
    · obtain ⟨j', rfl⟩ : ∃ j', j = j' + 1 := ⟨j - 1, by omega⟩
      rw [nI_pred, nI_clamp (by omega), nI_clamp (by omega), nI_1]
      refine rn_neg (nI_ge (by omega) (by omega)) (rn_gd (inb_nI (by omega) (by decide)) (rn_gd (inb_nI (by omega) (by decide)) (rn_st (ih (j' + 1 + 1) _ (by omega) (by omega) (by omega) ?_ ?_ ?_))))
      · rw [up_at, if_neg (by simp), hs]
      · intro t
        rw [up_at]
        by_cases et : t = j'
        · subst et
          rw [if_pos ⟨rfl, rfl, rfl, rfl⟩, if_pos ⟨by omega, by omega⟩, hv]
          rw [if_neg (by omega)]
        · rw [if_neg (by simp [et]), hv]
          by_cases e1 : i0 ≤ t ∧ t + 1 < j' + 1
          · rw [if_pos e1, if_pos ⟨e1.1, by omega⟩]
          · rw [if_neg e1, if_neg (by omega)]
      · intro q b k c h4
        rw [up_at, if_neg (fun h => h4 ⟨h.1, h.2.1, h.2.2.1⟩)]
        exact he q b k c h4
theorem m_leaveGets {n i : Nat} {hd : Option Nat} {R : St} {a : AS} (h : RR n hd R a) (h6 : (al a 2).length ≤ 6) (hi : i < (al a 2).length) : Rn (F_X12_leaveGets (nI i) R) (fun r D => r = 0 ∧ RR n hd D (sl 2 ((al a 2).eraseIdx i) a)) := by
  have e62 : R 50 0 62 0 = nI (al a 2).length := h.2.2.2.2.2.2.1.1.1
  unfold F_X12_leaveGets
  rw [show nI i + 1 = nI (i + 1) from nI_1 i]
  refine rn_mono (m_lg4 h6 hi 1000 (i + 1) R (by omega) (by omega) (by omega) e62 (fun t => by rw [if_neg (by omega)]) (fun _ _ _ _ _ => rfl)) ?_
  rintro r D ⟨h1, h2, h3, h4⟩
  exact ⟨h1, wr_leave2 h hi h2 h3 h4⟩
theorem move_back2 (k r : Nat) (a : AS) : sv 27 k r (av (sv 28 r 0 (av (z_move k r 1 a) 28 r 0 + 1) (z_move k r 1 a)) 27 k r - 1) (sv 28 r 0 (av (z_move k r 1 a) 28 r 0 + 1) (z_move k r 1 a)) = a := by
  have e1 : ∀ x : Int32, x + 1 - 1 = x := fun x => Int32.add_sub_cancel x 1
  have e2 : ∀ x : Int32, x - 1 + 1 = x := fun x => Int32.sub_add_cancel x 1
  have h27 : av (z_move k r 1 a) 27 k r = av a 27 k r + 1 := av_s
  have h28 : av (z_move k r 1 a) 28 r 0 = av a 28 r 0 - 1 := by
    unfold z_move
    rw [av_o (show 28 ≠ 27 by decide), av_s]
  rw [av_o (show 27 ≠ 28 by decide), h27, h28, e1, e2]
  refine as_ext (fun g b c => ?_) (fun q => rfl)
  unfold z_move
  rw [av_sv, av_sv, av_sv, av_sv]
  by_cases c1 : g = 27 ∧ b = k ∧ c = r
  · obtain ⟨rfl, rfl, rfl⟩ := c1
    rw [if_pos ⟨rfl, rfl, rfl⟩]
  · rw [if_neg c1]
    by_cases c2 : g = 28 ∧ b = r ∧ c = 0
    · obtain ⟨rfl, rfl, rfl⟩ := c2
      rw [if_pos ⟨rfl, rfl, rfl⟩]
    · rw [if_neg c2, if_neg c1, if_neg c2]
theorem free0 {a : AS} (hB : BK a) {r : Nat} (hr : r < 3) : av a 28 r 0 = 0 ↔ ¬ 0 < av a 28 r 0 := by
  obtain ⟨b1, b2⟩ := hB.2 r hr
  rw [b1]
  have hlt : nv a 28 r 0 < 2 ^ 31 := by omega
  generalize nv a 28 r 0 = u at *
  constructor
  · intro e
    rw [e]
    decide
  · intro e
    by_cases c : u = 0
    · rw [c]; rfl
    · exact absurd (nI_lt (a := 0) (b := u) (by omega) hlt) e
theorem m_grants {n k r : Nat} {hd : Option Nat} {R : St} {a : AS} (h : RR n hd R a) (hk : k < 6) (hr : r < 3) (hB0 : BK a) (hB : 0 < av a 28 r 0 → BK (z_move k r 1 a)) : Rn (F_X12_grants (nI k) (nI r) R) (fun y D => (z_gr k r a = true ∧ y = 1 ∧ RR n hd D (z_move k r 1 a)) ∨ (z_gr k r a = false ∧ y = 0 ∧ RR n hd D a)) := by
  unfold F_X12_grants
  have er : (nI r).toNatClampNeg = r := nI_clamp (by omega)
  have e3 : (3 : Int32) * nI k + nI r = nI (3 * k + r) := mulN 3 k r
  have e3c : (nI (3 * k + r)).toNatClampNeg = 3 * k + r := nI_clamp (by omega)
  rw [e3, er, e3c, rr_28 h hr]
  refine rn_gd (inb_nI hr (by decide)) (rn_if (fun e => ?_) (fun e => ?_))
  · refine rn_ret (Or.inr ⟨?_, rfl, h⟩)
    unfold z_gr
    have := (free0 hB0 hr).mp e
    simp [this]
  · have hf : 0 < av a 28 r 0 := Classical.byContradiction fun hh => e ((free0 hB0 hr).mpr hh)
    refine rn_st ?_
    have h1 := wr_28 (x := av a 28 r 0 - 1) h hr
    rw [rr_27 h1 hk hr, av_o (by decide)]
    refine rn_gd (inb_nI (by omega) (by decide)) (rn_st ?_)
    have h2 : RR n hd (up (up R 128 0 0 r (av a 28 r 0 - 1)) 127 0 0 (3 * k + r) (av a 27 k r + 1)) (z_move k r 1 a) := wr_27 h1 hk hr
    refine rn_bd (m_safe h2 (hB hf)) ?_
    rintro y D ⟨rfl, hD⟩
    by_cases c : safeB (z_move k r 1 a) = true
    · rw [if_pos c]
      refine rn_neg (by decide) (rn_ret (Or.inl ⟨?_, rfl, hD⟩))
      unfold z_gr
      simp [hf, c]
    · rw [if_neg c]
      refine rn_pos rfl (rn_st ?_)
      rw [rr_28 hD hr]
      have h3 := wr_28 (x := av (z_move k r 1 a) 28 r 0 + 1) hD hr
      rw [rr_27 h3 hk hr]
      refine rn_st (rn_ret (Or.inr ⟨?_, rfl, ?_⟩))
      · unfold z_gr
        simp [c]
      · have h4 := wr_27 (x := av (sv 28 r 0 (av (z_move k r 1 a) 28 r 0 + 1) (z_move k r 1 a)) 27 k r - 1) h3 hk hr
        rw [move_back2] at h4
        exact h4
/-- those who wait for a resource are not ready -/
def GV (hd : Option Nat) (a : AS) : Prop := (hd.toList ++ al a 0).Nodup ∧ (∀ p ∈ hd.toList ++ al a 0, p < 10) ∧ ∀ j ∈ al a 2, j ∉ hd.toList ++ al a 0
theorem al0_have {n k r : Nat} {l : List Nat} {a : AS} (h : k ∉ al a 0) : al (z_have n k r l a) 0 = al a 0 ++ [k] := by
  unfold z_have
  have e : al (z_comp n k (av a 18 k 0 + 1) (sl 2 l (z_move k r 1 a))) 0 = al a 0 := rfl
  rw [al_wake, if_pos rfl, e, if_neg h]
theorem GV_have {n k r : Nat} {hd : Option Nat} {pre t : List Nat} {a : AS} (h : GV hd a) (hG : GW a) (hl : al a 2 = pre ++ k :: t) : GV hd (z_have n k r (pre ++ t) a) := by
  obtain ⟨h1, h2, h3⟩ := h
  have hk : k ∈ al a 2 := by rw [hl]; simp
  have hkn := h3 k hk
  have hk6 := (hG.2.2 k hk).1
  have hka : k ∉ al a 0 := fun hh => hkn (List.mem_append_right _ hh)
  have e0 : al (z_have n k r (pre ++ t) a) 0 = al a 0 ++ [k] := al0_have hka
  have e2 : al (z_have n k r (pre ++ t) a) 2 = pre ++ t := by rw [lo_have (by decide), if_pos rfl]
  have hN := hG.2.1
  rw [hl] at hN
  unfold GV
  rw [e0, e2, ← List.append_assoc]
  refine ⟨?_, fun p hp => ?_, fun j hj hm => ?_⟩
  · rw [List.nodup_append]
    refine ⟨h1, by simp, fun x hx y hy => ?_⟩
    rw [List.mem_singleton] at hy
    subst hy
    exact fun e => hkn (e ▸ hx)
  · rcases List.mem_append.mp hp with hp | hp
    · exact h2 p hp
    · rw [List.mem_singleton] at hp; omega
  · have hja : j ∈ al a 2 := by
      rw [hl]
      rcases List.mem_append.mp hj with hj | hj
      · exact List.mem_append_left _ hj
      · exact List.mem_append_right _ (List.mem_cons_of_mem _ hj)
    rcases List.mem_append.mp hm with hm | hm
    · exact h3 j hja hm
    · rw [List.mem_singleton] at hm
      subst hm
      rw [List.nodup_append] at hN
      rcases List.mem_append.mp hj with hj | hj
      · exact hN.2.2 j hj j List.mem_cons_self rfl
      · exact (List.nodup_cons.mp hN.2.1).1 hj
theorem m_gtw2 {n : Nat} {hd : Option Nat} (hn : n ≤ 12) : ∀ rest pre a R fu, RR n hd R a → GW a → GV hd a → al a 2 = pre ++ rest → rest.length < fu → (al a 2).length ≤ 6 → Rn (F_X12_goThroughGets_2 fu (nI pre.length) R) (fun r D => r = 0 ∧ RR n hd D (z_gtw n pre rest a) ∧ ∃ t, al (z_gtw n pre rest a) 0 = al a 0 ++ t ∧ ∀ j ∈ t, j ∈ rest) := by
  intro rest
  induction rest with
  | nil =>
    intro pre a R fu h hG hV hl hf h6
    obtain ⟨fu, rfl⟩ : ∃ g, fu = g + 1 := ⟨fu - 1, by omega⟩
    have e62 : R 50 0 62 0 = nI (al a 2).length := h.2.2.2.2.2.2.1.1.1
    unfold F_X12_goThroughGets_2
    rw [e62, hl]
    refine rn_pos (nI_le (by simp) (by rw [hl] at h6; simp at h6; omega)) (rn_ret ⟨rfl, h, [], ?_, fun j hj => by cases hj⟩)
    rw [z_gtw]; simp
  | cons k t ih =>
    intro pre a R fu h hG hV hl hf h6
    simp only [List.length_cons] at hf
    obtain ⟨fu, rfl⟩ : ∃ g, fu = g + 1 := ⟨fu - 1, by omega⟩
    have e62 : R 50 0 62 0 = nI (al a 2).length := h.2.2.2.2.2.2.1.1.1
    have hlen : (al a 2).length = pre.length + (t.length + 1) := by rw [hl]; simp
    have hget : (al a 2)[pre.length]? = some k := by
      rw [hl, List.getElem?_append_right (Nat.le_refl _)]
      simp
    have e159 : R 159 0 0 pre.length = nI k := h.2.2.2.2.2.2.1.1.2 pre.length k hget
    have hkm : k ∈ al a 2 := by rw [hl]; simp
    obtain ⟨g1, g2, g3, g4⟩ := hG.2.2 k hkm
    have e129 : R 129 0 0 k = av a 29 k 0 := h.2.2.2.2.2.2.1.2 k hkm
    unfold F_X12_goThroughGets_2 F_X12_goThroughGets_52
    rw [e62, show (nI pre.length).toNatClampNeg = pre.length from nI_clamp (by omega), e159, show (nI k).toNatClampNeg = k from nI_clamp (by omega), e129, g3]
    refine rn_neg (nI_ge (by omega) (by omega)) (rn_gd (inb_nI (by omega) (by decide)) (rn_gd (inb_nI g1 (by decide)) ?_))
    refine rn_bd (m_grants h g1 g2 hG.1 (fun h0 => BK_move hG.1 g1 g2 h0 g4)) ?_
    rintro y D (⟨c, rfl, hD⟩ | ⟨c, rfl, hD⟩)
    · refine rn_neg (by decide) ?_
      have hl2 : al (z_move k (nv a 29 k 0) 1 a) 2 = al a 2 := rfl
      refine rn_bd (m_leaveGets (i := pre.length) hD (by rw [hl2]; exact h6) (by rw [hl2]; omega)) ?_
      rintro _ E ⟨-, hE⟩
      have el : (al (z_move k (nv a 29 k 0) 1 a) 2).eraseIdx pre.length = pre ++ t := by
        rw [hl2, hl, List.eraseIdx_append_of_length_le (Nat.le_refl _)]
        simp
      rw [el] at hE
      refine rn_bd (m_finish hE hn g1) ?_
      rintro _ J ⟨-, hJ⟩
      have e18 : av (sl 2 (pre ++ t) (z_move k (nv a 29 k 0) 1 a)) 18 k 0 = av a 18 k 0 := by rw [av_sl, vo_move (by decide) (by decide)]
      rw [e18] at hJ
      refine rn_bd (m_wakeJ hJ g1 hV.1 hV.2.1 (hV.2.2 k hkm)) ?_
      rintro _ L ⟨-, hL⟩
      have hka : k ∉ al a 0 := fun hh => hV.2.2 k hkm (List.mem_append_right _ hh)
      have e0 : al (z_have n k (nv a 29 k 0) (pre ++ t) a) 0 = al a 0 ++ [k] := al0_have hka
      have e2 : al (z_have n k (nv a 29 k 0) (pre ++ t) a) 2 = pre ++ t := by rw [lo_have (by decide), if_pos rfl]
      refine rn_mono (ih pre (z_have n k (nv a 29 k 0) (pre ++ t) a) L fu hL (GW_have hG hl (gr_free c)) (GV_have hV hG hl) e2 (by omega) ?_) ?_
      · rw [e2, List.length_append]; omega
      · rintro r D' ⟨x1, x2, t', x3, x4⟩
        rw [z_gtw, if_pos c]
        refine ⟨x1, x2, k :: t', ?_, fun j hj => ?_⟩
        · rw [x3, e0]; simp
        · rcases List.mem_cons.mp hj with rfl | hj
          · exact List.mem_cons_self
          · exact List.mem_cons_of_mem _ (x4 j hj)
    · refine rn_pos rfl ?_
      rw [nI_1]
      have e2 : pre.length + 1 = (pre ++ [k]).length := by simp
      rw [e2]
      refine rn_mono (ih (pre ++ [k]) a D fu hD hG hV (by rw [hl]; simp) (by omega) h6) ?_
      rintro r D' ⟨x1, x2, t', x3, x4⟩
      rw [z_gtw, if_neg (by rw [c]; decide)]
      exact ⟨x1, x2, t', x3, fun j hj => List.mem_cons_of_mem _ (x4 j hj)⟩
theorem m_gtw {n : Nat} {hd : Option Nat} {R : St} {a : AS} (h : RR n hd R a) (hn : n ≤ 12) (hG : GW a) (hV : GV hd a) (h6 : (al a 2).length ≤ 6) : Rn (F_X12_goThroughGets R) (fun r D => r = 0 ∧ RR n hd D (z_gtw n [] (al a 2) a) ∧ ∃ t, al (z_gtw n [] (al a 2) a) 0 = al a 0 ++ t ∧ ∀ j ∈ t, j ∈ al a 2) := by
  unfold F_X12_goThroughGets
  exact m_gtw2 hn (al a 2) [] a R 1000 h hG hV (by simp) (by omega) h6
theorem m_get {n k : Nat} {x : Int32} {R : St} {a : AS} (h : RR n none R a) (hn : n ≤ 12) (hk : k < 6) (hM : MJ n k a) (hx : ¬ x < 0) (hB : BK a) : Rn (F_X12_get (nI k) x R) (fun r D => r = 0 ∧ RRo n k D (z_get n k x a)) := by
  have hM2 := hM
  obtain ⟨⟨t, h1⟩, h2, h3, h4, h5, h6, h7, h8, h9, h10, h11, h12, h13⟩ := hM
  unfold F_X12_get F_X12_get_86 z_get
  have g6 := inb_nI hk (show 6 < 2 ^ 31 by decide)
  have ekk : (nI k).toNatClampNeg = k := nI_clamp (by omega)
  rw [ekk]
  by_cases c : x < 3
  · obtain ⟨r, hr, rfl⟩ := lt3 hx c
    rw [if_neg (show ¬ (nI r < 0 ∨ ¬ nI r < 3) from fun o => o.elim hx (fun y => y c)), show (nI r).toNatClampNeg = r from nI_clamp (by omega)]
    refine rn_pos (nI_le (b := 2) (by omega) (by decide)) (rn_bdE (m_claimed h hB hk hr) ?_)
    obtain ⟨b1, b2, b3, b4⟩ := hB.1 k r hk hr
    by_cases c2 : nv a 27 k r < nv a 26 k r
    · rw [if_pos ((lt_nv hB hk hr).mpr c2)]
      refine rn_pos (nI_le (a := 1) (by omega) (by omega)) (rn_bd (m_grants h hk hr hB (fun h0 => BK_move hB hk hr h0 c2)) ?_)
      rintro y D (⟨c5, rfl, hD⟩ | ⟨c5, rfl, hD⟩)
      · rw [if_pos c5]
        refine rn_neg (by decide) (rn_bd (m_finish hD hn hk) ?_)
        rintro _ E ⟨-, hE⟩
        rw [vo_move (by decide) (by decide)] at hE
        exact rn_ret ⟨rfl, RRo_stay (t := t) hE h1⟩
      · rw [if_neg (show ¬ z_gr k r a = true by rw [c5]; decide)]
        have e62 : D 50 0 62 0 = nI (al a 2).length := hD.2.2.2.2.2.2.1.1.1
        refine rn_pos rfl (rn_gd g6 (rn_st ?_))
        have e1 : up D 129 0 0 k (nI r) 50 0 62 0 = nI (al a 2).length := by rw [up_at, if_neg (by simp), e62]
        rw [e1, show (nI (al a 2).length).toNatClampNeg = (al a 2).length from nI_clamp (by omega)]
        refine rn_gd (inb_nI h9 (by decide)) (rn_st ?_)
        have e2 : up (up D 129 0 0 k (nI r)) 159 0 0 (al a 2).length (nI k) 50 0 62 0 = nI (al a 2).length := by rw [up_at, if_neg (by simp), e1]
        rw [e2, nI_1]
        refine rn_st ?_
        have hE := wr_getw (s := nI r) hD rfl h6 h7 h11
        refine rn_bd (m_leave (t := t) hE hk h1 h2) ?_
        rintro _ G ⟨-, hG⟩
        exact rn_ret ⟨rfl, hG⟩
    · rw [if_neg (fun y => c2 ((lt_nv hB hk hr).mp y))]
      refine rn_neg (nI_ge (b := 1) (by omega) (by decide)) (rn_gd g6 (rn_st (rn_ret ⟨rfl, m_trap h hM2⟩)))
  · rw [if_pos (show x < 0 ∨ ¬ x < 3 from Or.inr c)]
    refine rn_neg ?_ (rn_gd g6 (rn_st (rn_ret ⟨rfl, m_trap h hM2⟩)))
    intro hle
    exact c (Int32.lt_of_le_of_lt hle (by decide))
theorem ge_pos {a : AS} (hB : BK a) {k r : Nat} (hk : k < 6) (hr : r < 3) : av a 27 k r = 0 ↔ ¬ 0 < av a 27 k r := by
  obtain ⟨b1, b2, b3, b4⟩ := hB.1 k r hk hr
  rw [b1]
  have hlt : nv a 27 k r < 2 ^ 31 := by omega
  generalize nv a 27 k r = u at *
  constructor
  · intro e
    rw [e]
    decide
  · intro e
    by_cases c : u = 0
    · rw [c]; rfl
    · exact absurd (nI_lt (a := 0) (b := u) (by omega) hlt) e
theorem m_give {n k : Nat} {x : Int32} {R : St} {a : AS} (h : RR n none R a) (hn : n ≤ 12) (hk : k < 6) (hM : MJ n k a) (hx : ¬ x < 0) (hG : GW a) (hV : GV none a) (hfr : ∀ r, r < 3 → nv a 28 r 0 + nv a 27 k r < 1000) : Rn (F_X12_give (nI k) x R) (fun r D => r = 0 ∧ RRo n k D (z_give n k x a)) := by
  have hM2 := hM
  obtain ⟨⟨t, h1⟩, h2, h3, h4, h5, h6, h7, h8, h9, h10, h11, h12, h13⟩ := hM
  have hB := hG.1
  have hW := GW_tb (n := n) (x := x) hG hk h7 hfr
  unfold F_X12_give F_X12_give_18 F_X12_give_46
  have g6 := inb_nI hk (show 6 < 2 ^ 31 by decide)
  have ekk : (nI k).toNatClampNeg = k := nI_clamp (by omega)
  rw [ekk]
  have trap : z_tb n k x a = (0, z_trap k a) → Rn (gd (inb (nI k) 6) (st (up R 116 0 0 k (4 : Int32)) (fun D2 => some (0, D2)))) (fun r D => r = 0 ∧ RRo n k D (z_give n k x a)) := by
    intro e
    unfold z_give
    rw [e, if_pos rfl]
    exact rn_gd g6 (rn_st (rn_ret ⟨rfl, m_trap h hM2⟩))
  by_cases c : x < 3
  · obtain ⟨r, hr, rfl⟩ := lt3 hx c
    have er : (nI r).toNatClampNeg = r := nI_clamp (by omega)
    have c0 : ¬ (nI r < 0 ∨ (3 : Int32) ≤ nI r) := fun o => o.elim hx (Int32.not_le.mpr c)
    rw [show (3 : Int32) * nI k + nI r = nI (3 * k + r) from mulN 3 k r, show (nI (3 * k + r)).toNatClampNeg = 3 * k + r from nI_clamp (by omega), rr_27 h hk hr, rr_34 h hk, er]
    have mv : (z_tb n k (nI r) a = (1, z_comp n k (av a 18 k 0 + 1) (z_move k r (-1) a))) → Rn (gd (inb (nI (3 * k + r)) 18) (st (up R 127 0 0 (3 * k + r) (av a 27 k r - (1 : Int32))) (fun D2 => gd (inb (nI r) 3) (st (up D2 128 0 0 r ((D2 128 0 0 r) + (1 : Int32))) (fun D5 => bd2 (F_X12_finish (nI k) D5) (fun r7 D8 => bd2 (F_X12_goThroughGets D8) (fun r10 D11 => some (0, D11)))))))) (fun r' D => r' = 0 ∧ RRo n k D (z_give n k (nI r) a)) := by
      intro e
      have hW2 := hW (by rw [e]; exact (by decide : (1 : Int32) ≠ 0))
      rw [e] at hW2
      unfold z_give
      rw [e, if_neg (show ¬ (1 : Int32) = 0 by decide)]
      refine rn_gd (inb_nI (by omega) (by decide)) (rn_st ?_)
      have hD := wr_27 (x := av a 27 k r - 1) h hk hr
      rw [rr_28 hD hr, av_o (by decide)]
      refine rn_gd (inb_nI hr (by decide)) (rn_st ?_)
      have hE := wr_28 (x := av a 28 r 0 + 1) hD hr
      have ez : sv 28 r 0 (av a 28 r 0 + 1) (sv 27 k r (av a 27 k r - 1) a) = z_move k r (-1) a := by
        unfold z_move
        have x1 : av a 27 k r + -1 = av a 27 k r - 1 := (Int32.sub_eq_add_neg _ _).symm
        have x2 : av a 28 r 0 - -1 = av a 28 r 0 + 1 := by rw [Int32.sub_eq_add_neg]; rfl
        rw [x1, x2]
        refine as_ext (fun g b c => ?_) (fun q => rfl)
        rw [av_sv, av_sv, av_sv, av_sv]
        grind
      rw [ez] at hE
      refine rn_bd (m_finish hE hn hk) ?_
      rintro _ G ⟨-, hG2⟩
      rw [vo_move (by decide) (by decide)] at hG2
      refine rn_bd (m_gtw hG2 hn hW2 hV (by show (al a 2).length ≤ 6; omega)) ?_
      rintro _ J ⟨-, hJ, t', x3, -⟩
      refine rn_ret ⟨rfl, Or.inl ⟨hJ, ?_⟩⟩
      rw [x3]
      show (al a 0 ++ t').head? = some k
      rw [h1]
      rfl
    refine rn_neg (show ¬ nI 2 < nI r from nI_nlt (by omega) (by omega)) (rn_gd (inb_nI (by omega) (by decide)) (rn_if (fun e => trap ?_) (fun e => ?_)))
    · unfold z_tb
      rw [if_neg c0, er, if_neg ((ge_pos hB hk hr).mp e)]
    · have hpos : 0 < av a 27 k r := Classical.byContradiction fun hh => e ((ge_pos hB hk hr).mpr hh)
      refine rn_if (fun e2 => mv ?_) (fun e2 => rn_gd g6 (rn_if (fun e3 => mv ?_) (fun e3 => ?_)))
      · have r0 : r = 0 := Classical.byContradiction fun hh => nI_nle (by omega) (by omega) e2
        unfold z_tb
        rw [if_neg c0, er, if_pos hpos, if_neg]
        rintro ⟨y1, -⟩
        exact y1 (by rw [r0]; rfl)
      · unfold z_tb
        rw [if_neg c0, er, if_pos hpos, if_neg (fun y => y.2 e3)]
      · have hr0 : ¬ nI r = 0 := fun y => e2 (by rw [y]; decide)
        have e : z_tb n k (nI r) a = (0, z_susp k 4 a) := by
          unfold z_tb
          rw [if_neg c0, er, if_pos hpos, if_pos ⟨hr0, e3⟩]
        unfold z_give
        rw [e, if_pos rfl]
        refine rn_bd (m_leave h hk h1 h2) ?_
        rintro _ D ⟨-, hD⟩
        exact rn_ret ⟨rfl, hD⟩
  · have hc : ¬ x < 3 := c
    have c3 : (3 : Int32) ≤ x := Int32.not_lt.mp hc
    refine rn_pos (Int32.lt_of_lt_of_le (by decide) c3) (trap ?_)
    unfold z_tb
    rw [if_pos (Or.inr c3)]
