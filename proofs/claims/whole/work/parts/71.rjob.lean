/-! The reference: small steps of a job -/
/-- what the reference's step of job k wants -/
def MJ (n k : Nat) (a : AS) : Prop := (∃ t, al a 0 = k :: t) ∧ (al a 0).Nodup ∧ (∀ p ∈ al a 0, p < 10) ∧ GSg a ∧ (∀ s, s < 7 → av a 71 s 0 = 1 → pr s ∉ al a 0) ∧ k ∉ al a 1 ∧ k ∉ al a 2 ∧ (al a 1).length < 6 ∧ (al a 2).length < 6 ∧ (al a 3).length < 6 ∧ (av a 12 0 0 ≠ 0 → (av a 47 0 0).toNatClampNeg ≠ k) ∧ av a 14 k 0 = 2 ∧ ∀ s f g, f < n → g < n → z_mt k s a f = true → z_mt k s a g = true → f = g
/-- the state behind the step of process p: it is still the first, or it has left -/
def RRo (n p : Nat) (D : St) (b : AS) : Prop := (RR n none D b ∧ (al b 0).head? = some p) ∨ (RR n (some p) D b ∧ p ∉ al b 0)
theorem MJ_use {n k f : Nat} {a : AS} (h : MJ n k a) : MJ n k (z_use f a) := by
  have e : ∀ g, g ≠ 41 → ∀ b c, av (z_use f a) g b c = av a g b c := fun g hg b c => vo_use hg
  obtain ⟨h1, h2, h3, h4, h5, h6, h7, h8, h9, h10, h11, h12, h13⟩ := h
  refine ⟨h1, h2, h3, ⟨fun s hs => ?_, ?_, ?_, ?_⟩, fun s hs => ?_, h6, h7, h8, h9, h10, ?_, ?_, fun s f' g hf hg => ?_⟩
  · rw [e 71 (by decide)]; exact h4.1 s hs
  · rw [e 71 (by decide), e 71 (by decide)]; exact h4.2.1
  · rw [e 71 (by decide), e 71 (by decide)]; exact h4.2.2.1
  · rw [e 71 (by decide), e 71 (by decide)]; exact h4.2.2.2
  · rw [e 71 (by decide)]; exact h5 s hs
  · rw [e 12 (by decide), e 47 (by decide)]; exact h11
  · rw [e 14 (by decide)]; exact h12
  · unfold z_mt
    rw [e 39 (by decide), e 40 (by decide), e 39 (by decide), e 40 (by decide)]
    exact h13 s f' g hf hg
theorem GSg_eq {a b : AS} (h : GSg a) (e : ∀ s, av b 71 s 0 = av a 71 s 0) : GSg b := by
  refine ⟨fun s hs => ?_, ?_, ?_, ?_⟩
  · rw [e]; exact h.1 s hs
  · rw [e, e]; exact h.2.1
  · rw [e, e]; exact h.2.2.1
  · rw [e, e]; exact h.2.2.2
theorem er_hd {k : Nat} {t : List Nat} : (k :: t).erase k = t := by simp
/-- k leaves and a signal is raised -/
theorem m_leave_v {n k s : Nat} {c : Int32} {R : St} {a : AS} {t : List Nat} (h : RR n none R a) (hk : k < 6) (hs : s < 7) (hr : al a 0 = k :: t) (hn : (al a 0).Nodup) (hb : ∀ p ∈ al a 0, p < 10) (hG : GSg a) (hw : av a 71 s 0 = 1 → pr s ∉ al a 0) : Rn (bd2 (F_X12_pause (nI k) c R) (fun _ D => bd2 (F_X12_raise (nI s) D) (fun _ E => some (0, E)))) (fun r D => r = 0 ∧ RRo n k D (z_v s (z_susp k c a))) := by
  refine rn_bd (m_pause (c := c) h hk hr hn) ?_
  rintro _ D ⟨-, hD⟩
  have e71 : ∀ s, av (z_susp k c a) 71 s 0 = av a 71 s 0 := fun s => vo_susp (by decide) (by decide)
  have el : al (z_susp k c a) 0 = t := by rw [al_susp, if_pos rfl, hr, er_hd]
  have el2 : (some k).toList ++ al (z_susp k c a) 0 = al a 0 := by rw [el, hr]; rfl
  refine rn_bd (m_v hD (GSg_eq hG e71) hs (by rw [el2]; exact hn) (by rw [el2]; exact hb) (by rw [el2, e71]; exact hw)) ?_
  rintro _ E ⟨-, hE⟩
  refine rn_ret ⟨rfl, Or.inr ⟨hE, ?_⟩⟩
  rw [hr] at hn hw
  have hkt : k ∉ t := (List.nodup_cons.mp hn).1
  rw [al_v, e71, el]
  by_cases c0 : av a 71 s 0 = 0
  · rw [if_pos c0]; exact hkt
  · rw [if_neg c0, if_pos rfl]
    have c1 : av a 71 s 0 = 1 := (hG.1 s hs).resolve_left c0
    have hne : pr s ≠ k := fun e => hw c1 (by rw [e]; simp)
    split
    · exact hkt
    · intro hm
      rcases List.mem_append.mp hm with hm | hm
      · exact hkt hm
      · exact hne (List.mem_singleton.mp hm).symm
theorem m_leave {n k : Nat} {c : Int32} {R : St} {a : AS} {t : List Nat} (h : RR n none R a) (hk : k < 6) (hr : al a 0 = k :: t) (hn : (al a 0).Nodup) : Rn (F_X12_pause (nI k) c R) (fun r D => r = 0 ∧ RRo n k D (z_susp k c a)) := by
  refine rn_mono (m_pause (c := c) h hk hr hn) ?_
  rintro r D ⟨h1, hD⟩
  refine ⟨h1, Or.inr ⟨hD, ?_⟩⟩
  rw [hr] at hn
  rw [al_susp, if_pos rfl, hr, er_hd]
  exact (List.nodup_cons.mp hn).1
theorem m_ask {n k : Nat} {s : Int32} {R : St} {a : AS} (h : RR n none R a) (hk : k < 6) (hM : MJ n k a) : Rn (F_X12_want (nI k) s R) (fun r D => r = 0 ∧ RRo n k D (z_ask k s a)) := by
  obtain ⟨⟨t, h1⟩, h2, h3, h4, h5, h6, h7, h8, h9, h10, h11, h12, h13⟩ := hM
  unfold F_X12_want
  have e60 : R 50 0 60 0 = nI (al a 1).length := h.2.2.2.2.2.2.2.1.1.1
  rw [e60, show (nI (al a 1).length).toNatClampNeg = (al a 1).length from nI_clamp (by omega)]
  refine rn_gd (inb_nI h8 (by decide)) (rn_st ?_)
  have e1 : up R 156 0 0 (al a 1).length (nI k) 50 0 60 0 = nI (al a 1).length := by rw [up_at, if_neg (by simp), e60]
  rw [e1, show (nI (al a 1).length).toNatClampNeg = (al a 1).length from nI_clamp (by omega)]
  refine rn_gd (inb_nI h8 (by decide)) (rn_st ?_)
  have e2 : up (up R 156 0 0 (al a 1).length (nI k)) 157 0 0 (al a 1).length s 50 0 60 0 = nI (al a 1).length := by rw [up_at, if_neg (by simp), e1]
  rw [e2, nI_1]
  refine rn_st ?_
  have hD := wr_want (s := s) h rfl h6 h7 h11
  refine m_leave_v (s := 0) (c := 1) (t := t) hD hk (by decide) h1 h2 h3 (GSg_eq h4 (fun s => by rw [av_sl, av_o (by decide)])) ?_
  rw [av_sl, av_o (by decide)]
  exact h5 0 (by decide)
theorem m_trap {n k : Nat} {x : Int32} {R : St} {a : AS} (h : RR n none R a) (hM : MJ n k a) : RRo n k (up R 116 0 0 k x) (sv 16 k 0 x a) := by
  obtain ⟨⟨t, h1⟩, h2, h3, h4, h5, h6, h7, h8, h9, h10, h11, h12, h13⟩ := hM
  refine Or.inl ⟨wr_16 h (by rw [h12]; decide), ?_⟩
  rw [al_sv, h1]
  rfl
theorem wr_use {n f : Nat} {hd : Option Nat} {R : St} {a : AS} (h : RR n hd R a) (hf : f < n) : RR n hd (up R 141 0 0 f (av a 5 0 0)) (z_use f a) := wr_41 h hf
theorem RRo_stay {n k : Nat} {D : St} {b : AS} {t : List Nat} (h : RR n none D b) (e : al b 0 = k :: t) : RRo n k D b := Or.inl ⟨h, by rw [e]; rfl⟩
theorem idx16 (g i : Nat) : (16 : Int32) * nI g + nI i = nI (16 * g + i) := by
  have : (16 : Int32) = nI 16 := rfl
  unfold nI at *
  rw [this, ← Int32.ofNat_mul, ← Int32.ofNat_add]
theorem mulN (m g i : Nat) : nI m * nI g + nI i = nI (m * g + i) := by
  unfold nI
  rw [← Int32.ofNat_mul, ← Int32.ofNat_add]
theorem mulN0 (m g : Nat) : nI m * nI g = nI (m * g) := by
  unfold nI
  rw [← Int32.ofNat_mul]
theorem m_read {n k : Nat} {R : St} {a : AS} (h : RR n none R a) (hk : k < 6) (hM : MJ n k a) (h27 : av a 27 k 0 ≤ 0 ↔ av a 27 k 0 = 0) (h32 : av a 31 k 0 ≤ av a 32 k 0 ↔ av a 32 k 0 = av a 31 k 0) : Rn (F_X12_read (nI k) R) (fun r D => r = 0 ∧ RRo n k D (z_read k a)) := by
  have hM2 := hM
  obtain ⟨⟨t, h1⟩, h2, h3, h4, h5, h6, h7, h8, h9, h10, h11, h12, h13⟩ := hM
  unfold F_X12_read F_X12_read_26 z_read
  have g6 := inb_nI hk (show 6 < 2 ^ 31 by decide)
  have ekk : (nI k).toNatClampNeg = k := nI_clamp (by omega)
  have e3 : (3 : Int32) * nI k = nI (3 * k + 0) := mulN0 3 k
  rw [e3, show (nI (3 * k + 0)).toNatClampNeg = 3 * k + 0 from nI_clamp (by omega), rr_27 h hk (by decide), ekk, rr_32 h hk, rr_31 h hk]
  refine rn_gd (inb_nI (by omega) (by decide)) (rn_if (fun e => ?_) (fun e => rn_gd g6 (rn_if (fun e2 => ?_) (fun e2 => ?_))))
  · rw [if_pos (Or.inl (h27.mpr e))]
    exact rn_gd g6 (rn_st (rn_ret ⟨rfl, m_trap h hM2⟩))
  · rw [if_pos (Or.inr (h32.mpr e2))]
    exact rn_gd g6 (rn_st (rn_ret ⟨rfl, m_trap h hM2⟩))
  · rw [if_neg (show ¬ (av a 27 k 0 ≤ 0 ∨ av a 31 k 0 ≤ av a 32 k 0) from fun o => o.elim (fun y => e (h27.mp y)) (fun y => e2 (h32.mp y)))]
    have e61 : R 50 0 61 0 = nI (al a 3).length := h.2.2.2.2.2.2.2.2.1.1
    rw [e61, show (nI (al a 3).length).toNatClampNeg = (al a 3).length from nI_clamp (by omega)]
    refine rn_gd (inb_nI h10 (by decide)) (rn_st ?_)
    have e1 : up R 158 0 0 (al a 3).length (nI k) 50 0 61 0 = nI (al a 3).length := by rw [up_at, if_neg (by simp), e61]
    rw [e1, nI_1]
    refine rn_st ?_
    have hD := wr_cardr (k := k) h rfl
    exact m_leave_v (s := 2) (c := 2) (t := t) hD hk (by decide) h1 h2 h3 (GSg_eq h4 (fun s => rfl)) (h5 2 (by decide))
theorem v_comp {n k s : Nat} {x : Int32} {a : AS} : z_v s (z_comp n k x a) = z_comp n k x (z_v s a) := by
  have e71 : av (z_comp n k x a) 71 s 0 = av a 71 s 0 := vo_comp (by decide) (by decide) (by decide)
  have e13 : av (z_comp n k x a) 13 s 0 = av a 13 s 0 := vo_comp (by decide) (by decide) (by decide)
  have e39 : ∀ b, av (z_v s a) 39 b 0 = av a 39 b 0 := fun b => vo_v (by decide) (by decide) (by decide)
  have e17 : av (z_v s a) 17 k 0 = av a 17 k 0 := vo_v (by decide) (by decide) (by decide)
  refine as_ext (fun g b c => ?_) (fun q => ?_)
  · rw [av_v, e71, e13, av_comp, av_comp, e39, e17, av_v]
    grind
  · rw [al_v, e71, al_comp, al_comp, al_comp, al_v]
theorem head_v {k s : Nat} {t : List Nat} {a : AS} (h : al a 0 = k :: t) : (al (z_v s a) 0).head? = some k := by
  rw [al_v]
  split
  · rw [h]; rfl
  · rw [if_pos rfl]
    split
    · rw [h]; rfl
    · rw [h]; rfl
theorem m_print {n k m : Nat} {R : St} {a : AS} (h : RR n none R a) (hn : n ≤ 12) (hk : k < 6) (hM : MJ n k a) (h1' : av a 27 k 1 ≤ 0 ↔ av a 27 k 1 = 0) (h2' : ¬ 0 < av a 27 k 2 ↔ av a 27 k 2 = 0) (hm : av a 34 k 0 = nI m) (hm2 : av a 34 k 0 < 4 * av a 27 k 2 → m < 24) : Rn (F_X12_print (nI k) R) (fun r D => r = 0 ∧ RRo n k D (z_print n k a)) := by
  have hM2 := hM
  obtain ⟨⟨t, h1⟩, h2, h3, h4, h5, h6, h7, h8, h9, h10, h11, h12, h13⟩ := hM
  unfold F_X12_print F_X12_print_26 F_X12_print_108 z_print
  have g6 := inb_nI hk (show 6 < 2 ^ 31 by decide)
  have ekk : (nI k).toNatClampNeg = k := nI_clamp (by omega)
  have e31 : (3 : Int32) * nI k + 1 = nI (3 * k + 1) := mulN 3 k 1
  have e32 : (3 : Int32) * nI k + 2 = nI (3 * k + 2) := mulN 3 k 2
  rw [e31, e32, show (nI (3 * k + 1)).toNatClampNeg = 3 * k + 1 from nI_clamp (by omega), show (nI (3 * k + 2)).toNatClampNeg = 3 * k + 2 from nI_clamp (by omega), rr_27 h hk (by decide), rr_27 h hk (by decide), ekk, rr_34 h hk, rr_19 h hk]
  refine rn_gd (inb_nI (by omega) (by decide)) (rn_if (fun e => ?_) (fun e => rn_gd (inb_nI (by omega) (by decide)) (rn_if (fun e2 => ?_) (fun e2 => rn_gd g6 (rn_if (fun e3 => ?_) (fun e3 => ?_))))))
  · rw [if_pos (Or.inl (h1'.mpr e))]
    exact rn_gd g6 (rn_st (rn_ret ⟨rfl, m_trap h hM2⟩))
  · rw [if_pos (Or.inr (h2'.mpr e2))]
    exact rn_gd g6 (rn_st (rn_ret ⟨rfl, m_trap h hM2⟩))
  · rw [if_neg (show ¬ (av a 27 k 1 ≤ 0 ∨ ¬ 0 < av a 27 k 2) from fun o => o.elim (fun y => e (h1'.mp y)) (fun y => e2 (h2'.mp y))), if_pos e3]
    have hm3 := hm2 e3
    rw [hm, show (24 : Int32) * nI k + nI m = nI (24 * k + m) from mulN 24 k m, show (nI (24 * k + m)).toNatClampNeg = 24 * k + m from nI_clamp (by omega)]
    refine rn_gd (inb_nI (by omega) (by decide)) (rn_st ?_)
    have hD := wr_33 (x := av a 19 k 0) h hk hm3
    rw [rr_34 hD hk, av_o (by decide), hm, nI_1]
    refine rn_st ?_
    have hE := wr_34 (x := nI (m + 1)) hD hk
    have ez : z_line k a = sv 34 k 0 (nI (m + 1)) (sv 33 k m (av a 19 k 0) a) := by
      unfold z_line
      rw [hm, nI_1, nI_clamp (by omega)]
    rw [← ez] at hE
    have e71 : ∀ s, av (z_line k a) 71 s 0 = av a 71 s 0 := fun s => by unfold z_line; rw [av_o (by decide), av_o (by decide)]
    have el : al (z_line k a) 0 = al a 0 := rfl
    refine rn_bd (m_v (s := 4) hE (GSg_eq h4 e71) (by decide) h2 h3 (fun e => h5 4 (by decide) (by rw [← e71 4]; exact e))) ?_
    rintro _ G ⟨-, hG⟩
    refine rn_bd (m_finish hG hn hk) ?_
    rintro _ J ⟨-, hJ⟩
    have e18 : av (z_v 4 (z_line k a)) 18 k 0 = av a 18 k 0 := by
      rw [vo_v (by decide) (by decide) (by decide)]
      unfold z_line
      rw [av_o (by decide), av_o (by decide)]
    rw [e18, ← v_comp] at hJ
    refine rn_ret ⟨rfl, Or.inl ⟨hJ, ?_⟩⟩
    exact head_v (t := t) h1
  · rw [if_neg (show ¬ (av a 27 k 1 ≤ 0 ∨ ¬ 0 < av a 27 k 2) from fun o => o.elim (fun y => e (h1'.mp y)) (fun y => e2 (h2'.mp y))), if_neg e3]
    refine rn_bd (m_leave h hk h1 h2) ?_
    rintro _ D ⟨-, hD⟩
    exact rn_ret ⟨rfl, hD⟩
theorem m_sayz {n m : Nat} {hd : Option Nat} {x : Int32} {R : St} {a : AS} (h : RR n hd R a) (hm : av a 69 0 0 = nI m) (hm2 : m < 2 ^ 30) : Rn (F_X12_say x R) (fun r D => r = 0 ∧ RR n hd D (z_say x a)) := by
  rw [say_eq hm hm2]
  exact m_say h hm hm2
theorem m_asks {n k m : Nat} {R : St} {a : AS} (h : RR n none R a) (hk : k < 6) (hM : MJ n k a) (hm : av a 69 0 0 = nI m) (hm2 : m < 2 ^ 29) {K : St → Option (Int32 × St)} (hK : ∀ D, K D = some (0, D)) : Rn (bd2 (F_X12_say ((48 : Int32) + nI k) R) (fun _ D30 => bd2 (F_X12_say (63 : Int32) D30) (fun _ D33 => bd2 (F_X12_say (10 : Int32) D33) (fun _ D36 => bd2 (F_X12_pause (nI k) (5 : Int32) D36) (fun _ D39 => K D39))))) (fun r D => r = 0 ∧ RRo n k D (z_asks k a)) := by
  obtain ⟨⟨t, h1⟩, h2, h3, h4, h5, h6, h7, h8, h9, h10, h11, h12, h13⟩ := hM
  refine rn_bd (m_sayz h hm (by omega)) ?_
  rintro _ D ⟨-, hD⟩
  refine rn_bd (m_sayz hD (say69 hm) (by omega)) ?_
  rintro _ E ⟨-, hE⟩
  refine rn_bd (m_sayz hE (say69 (say69 hm)) (by omega)) ?_
  rintro _ G ⟨-, hG⟩
  refine rn_bd (m_leave (t := t) hG hk (by rw [lo_say, lo_say, lo_say]; exact h1) (by rw [lo_say, lo_say, lo_say]; exact h2)) ?_
  rintro _ J ⟨-, hJ⟩
  rw [hK]
  exact rn_ret ⟨rfl, hJ⟩
