/-! The reference: a job pauses, P and V -/
theorem m_pause {n k : Nat} {c : Int32} {R : St} {a : AS} {t : List Nat} (h : RR n none R a) (hk : k < 6) (hr : al a 0 = k :: t) (hn : (al a 0).Nodup) : Rn (F_X12_pause (nI k) c R) (fun r D => r = 0 ∧ RR n (some k) D (z_susp k c a)) := by
  obtain ⟨h1, ⟨⟨b1, b2⟩, b3, b4, b5⟩, h3, h4⟩ := h
  unfold F_X12_pause
  rw [nI_clamp (by omega)]
  refine rn_gd (inb_nI (by omega) (by decide)) (rn_st (rn_st (rn_ret ⟨rfl, ?_⟩)))
  have er : al (z_susp k c a) 0 = t := by
    unfold z_susp z_leave
    rw [al_sv, al_sl, if_pos rfl, al_sv, hr]
    simp
  have eo : ∀ q, q ≠ 0 → al (z_susp k c a) q = al a q := by
    intro q hq
    unfold z_susp z_leave
    rw [al_sv, al_sl, if_neg hq, al_sv]
  have ea : ∀ g b c', g ≠ 7 → av (z_susp k c a) g b c' = av (sv 10 k 0 c a) g b c' := by
    intro g b c' hg
    unfold z_susp z_leave
    rw [av_sv, if_neg (fun h => hg h.1), av_sl]
  rw [hr] at hn
  have hkt : k ∉ t := (List.nodup_cons.mp hn).1
  refine ⟨?_, ⟨⟨?_, ?_⟩, ?_, ?_, ?_⟩, ?_, ?_⟩
  · have w1 := wRd (f := 10) (i := k) (j := 0) (x := c) h1 ⟨hk, rfl⟩
    have w2 := wRo (y := (109, 0, 0, k)) (x := 1) w1 rfl
    refine wRa w2 (fun f i j ho => ea f i j ?_)
    rintro rfl
    exact ho.elim
  · rw [up_at, if_neg (by simp), up_at, if_neg (by simp), b1, er, hr]
    rfl
  · intro i q hi
    rw [er] at hi
    rw [up_at, if_neg (by simp), up_at, if_neg (by simp)]
    refine b2 i q ?_
    rw [hr]
    exact hi
  · intro q hq
    rw [er] at hq
    rw [up_at, if_neg (by rintro ⟨-, -, -, rfl⟩; exact hkt hq), up_at, if_neg (by simp)]
    exact b3 q (by rw [hr]; exact List.mem_cons_of_mem _ hq)
  · intro q hq
    injection hq with hq
    subst hq
    rw [up_at, if_pos ⟨rfl, rfl, rfl, rfl⟩]
  · intro hh
    cases hh
  · intro p hp
    have es : sg (z_susp k c a) p = sg a p := by
      unfold sg
      simp only [ea 71 _ _ (by decide), av_sv]
      simp
    rw [es, up_at, if_neg (by simp), up_at, if_neg (by simp)]
    exact h3 p hp
  · refine RRy_eq h4 (fun q b k' c' hq => ?_) (fun g b c' hg => ?_) (eo 1 (by decide)) (eo 2 (by decide)) (eo 3 (by decide))
    · rw [up_at, if_neg, up_at, if_neg]
      · rintro ⟨rfl, -, -, -⟩
        simp at hq
      · rintro ⟨rfl, -, -, -⟩
        simp at hq
    · rw [ea g b c' (by rintro rfl; simp at hg), av_sv, if_neg]
      rintro ⟨rfl, -, -⟩
      simp at hg
/-- the signals: none awaited with another of the same process -/
def GSg (a : AS) : Prop := (∀ s, s < 7 → av a 71 s 0 = 0 ∨ av a 71 s 0 = 1) ∧ ¬ (av a 71 0 0 = 1 ∧ av a 71 1 0 = 1) ∧ ¬ (av a 71 2 0 = 1 ∧ av a 71 3 0 = 1) ∧ ¬ (av a 71 4 0 = 1 ∧ av a 71 5 0 = 1)
theorem lt7 {s : Nat} (h : s < 7) : s = 0 ∨ s = 1 ∨ s = 2 ∨ s = 3 ∨ s = 4 ∨ s = 5 ∨ s = 6 := by omega
theorem sg_is {a : AS} (hG : GSg a) {s : Nat} (hs : s < 7) : sg a (pr s) = nI s ↔ av a 71 s 0 = 1 := by
  obtain ⟨h1, h2, h3, h4⟩ := hG
  have d1 : ¬ (-1 : Int32) = nI 0 := by decide
  have d2 : ¬ (-1 : Int32) = nI 1 := by decide
  have d3 : ¬ (-1 : Int32) = nI 2 := by decide
  have d4 : ¬ (-1 : Int32) = nI 3 := by decide
  have d5 : ¬ (-1 : Int32) = nI 4 := by decide
  have d6 : ¬ (-1 : Int32) = nI 5 := by decide
  have d7 : ¬ (-1 : Int32) = nI 6 := by decide
  rcases lt7 hs with rfl | rfl | rfl | rfl | rfl | rfl | rfl
  · show (if av a 71 0 0 = 1 then (0 : Int32) else if av a 71 1 0 = 1 then 1 else -1) = nI 0 ↔ _
    by_cases e : av a 71 0 0 = 1
    · rw [if_pos e]; exact ⟨fun _ => e, fun _ => rfl⟩
    · rw [if_neg e]
      refine ⟨fun h => ?_, fun h => absurd h e⟩
      split at h
      · exact absurd h (by decide)
      · exact absurd h d1
  · show (if av a 71 0 0 = 1 then (0 : Int32) else if av a 71 1 0 = 1 then 1 else -1) = nI 1 ↔ _
    by_cases e : av a 71 1 0 = 1
    · rw [if_neg (fun h => h2 ⟨h, e⟩), if_pos e]; exact ⟨fun _ => e, fun _ => rfl⟩
    · refine ⟨fun h => ?_, fun h => absurd h e⟩
      rw [if_neg e] at h
      split at h
      · exact absurd h (by decide)
      · exact absurd h d2
  · show (if av a 71 2 0 = 1 then (2 : Int32) else if av a 71 3 0 = 1 then 3 else -1) = nI 2 ↔ _
    by_cases e : av a 71 2 0 = 1
    · rw [if_pos e]; exact ⟨fun _ => e, fun _ => rfl⟩
    · rw [if_neg e]
      refine ⟨fun h => ?_, fun h => absurd h e⟩
      split at h
      · exact absurd h (by decide)
      · exact absurd h d3
  · show (if av a 71 2 0 = 1 then (2 : Int32) else if av a 71 3 0 = 1 then 3 else -1) = nI 3 ↔ _
    by_cases e : av a 71 3 0 = 1
    · rw [if_neg (fun h => h3 ⟨h, e⟩), if_pos e]; exact ⟨fun _ => e, fun _ => rfl⟩
    · refine ⟨fun h => ?_, fun h => absurd h e⟩
      rw [if_neg e] at h
      split at h
      · exact absurd h (by decide)
      · exact absurd h d4
  · show (if av a 71 4 0 = 1 then (4 : Int32) else if av a 71 5 0 = 1 then 5 else -1) = nI 4 ↔ _
    by_cases e : av a 71 4 0 = 1
    · rw [if_pos e]; exact ⟨fun _ => e, fun _ => rfl⟩
    · rw [if_neg e]
      refine ⟨fun h => ?_, fun h => absurd h e⟩
      split at h
      · exact absurd h (by decide)
      · exact absurd h d5
  · show (if av a 71 4 0 = 1 then (4 : Int32) else if av a 71 5 0 = 1 then 5 else -1) = nI 5 ↔ _
    by_cases e : av a 71 5 0 = 1
    · rw [if_neg (fun h => h4 ⟨h, e⟩), if_pos e]; exact ⟨fun _ => e, fun _ => rfl⟩
    · refine ⟨fun h => ?_, fun h => absurd h e⟩
      rw [if_neg e] at h
      split at h
      · exact absurd h (by decide)
      · exact absurd h d6
  · show (if av a 71 6 0 = 1 then (6 : Int32) else -1) = nI 6 ↔ _
    by_cases e : av a 71 6 0 = 1
    · rw [if_pos e]; exact ⟨fun _ => e, fun _ => rfl⟩
    · rw [if_neg e]
      exact ⟨fun h => absurd h d7, fun h => absurd h e⟩
theorem sg_ne {a : AS} {s p : Nat} (hs : s < 7) (hp : p ≠ pr s) : sg a p ≠ nI s := by
  intro h
  unfold sg at h
  rcases lt7 hs with rfl | rfl | rfl | rfl | rfl | rfl | rfl <;> simp only [pr] at hp <;> (repeat' (split at h)) <;> first | omega | (exact absurd h (by decide)) | simp_all
theorem m_raise5 {R : St} {a : AS} {s : Nat} (h : RRs R a) (hG : GSg a) (hs : s < 7) {Q : Int32 → St → Prop} (h1 : av a 71 s 0 = 1 → Rn (bd2 (F_X12_wake (nI (pr s)) R) (fun r3 D4 => F_X12_raise_52 D4)) Q) (h2 : ¬ av a 71 s 0 = 1 → Rn (F_X12_raise_52 (up R 113 0 0 s (R 113 0 0 s + 1))) Q) : Rn (F_X12_raise (nI s) R) Q := by
  have key : ∀ fu p x2, 10 < fu + p → p ≤ 10 → 6 ≤ p → (x2 = if av a 71 s 0 = 1 ∧ pr s < p then nI (pr s) else -1) → Rn (F_X12_raise_5 fu (nI s) x2 (nI p) R) Q := by
    intro fu
    induction fu with
    | zero => intro p x2 c1 c2; omega
    | succ fu ih =>
      intro p x2 c1 c2 c3 c4
      unfold F_X12_raise_5
      by_cases e : p = 10
      · subst e
        refine rn_pos (show (10 : Int32) ≤ nI 10 by decide) ?_
        by_cases ew : av a 71 s 0 = 1
        · rw [if_pos ⟨ew, pr_lt s⟩] at c4
          rw [c4]
          refine rn_neg (nI_nm (by have := pr_lt s; omega) (by decide)) (h1 ew)
        · rw [if_neg (fun h => ew h.1)] at c4
          rw [c4, nI_clamp (by omega)]
          exact rn_pos rfl (rn_gd (inb_nI hs (by decide)) (rn_st (h2 ew)))
      · have hp : p < 10 := by omega
        refine rn_neg (nI_ge (b := 10) hp (by decide)) (rn_gd (inb_nI hp (by decide)) ?_)
        rw [nI_clamp (by omega), h p hp]
        refine rn_if (fun e2 => ?_) (fun e2 => ?_)
        · show Rn (F_X12_raise_5 fu (nI s) (nI p) (nI p + 1) R) Q
          rw [nI_1]
          refine ih (p + 1) (nI p) (by omega) (by omega) (by omega) ?_
          have ep : p = pr s := Classical.byContradiction fun hne => sg_ne hs hne e2
          subst ep
          rw [if_pos ⟨(sg_is hG hs).mp e2, by omega⟩]
        · show Rn (F_X12_raise_5 fu (nI s) x2 (nI p + 1) R) Q
          rw [nI_1]
          refine ih (p + 1) x2 (by omega) (by omega) (by omega) ?_
          rw [c4]
          by_cases e3 : av a 71 s 0 = 1 ∧ pr s < p
          · rw [if_pos e3, if_pos ⟨e3.1, by omega⟩]
          · rw [if_neg e3, if_neg]
            rintro ⟨e4, e5⟩
            by_cases e6 : p = pr s
            · subst e6
              exact e2 ((sg_is hG hs).mpr e4)
            · exact e3 ⟨e4, by omega⟩
  unfold F_X12_raise
  refine key 1000 6 (-1) (by omega) (by omega) (by omega) ?_
  rw [if_neg]
  rintro ⟨-, h3⟩
  have : 6 ≤ pr s := by unfold pr; split; omega; split; omega; split <;> omega
  omega
theorem sg_off {a : AS} (hG : GSg a) {s : Nat} (hs : s < 7) (hw : av a 71 s 0 = 1) : sg (sv 71 s 0 0 a) (pr s) = -1 ∧ ∀ q, q ≠ pr s → sg (sv 71 s 0 0 a) q = sg a q := by
  obtain ⟨h1, h2, h3, h4⟩ := hG
  rcases lt7 hs with rfl | rfl | rfl | rfl | rfl | rfl | rfl
  · have : ¬ av a 71 1 0 = 1 := fun h => h2 ⟨hw, h⟩
    refine ⟨by simp [sg, pr, av_sv, this], fun q hq => ?_⟩
    simp only [pr] at hq
    simp [sg, av_sv] at hq ⊢
    simp [hq]
  · have : ¬ av a 71 0 0 = 1 := fun h => h2 ⟨h, hw⟩
    refine ⟨by simp [sg, pr, av_sv, this], fun q hq => ?_⟩
    simp only [pr] at hq
    simp [sg, av_sv] at hq ⊢
    simp [hq]
  · have : ¬ av a 71 3 0 = 1 := fun h => h3 ⟨hw, h⟩
    refine ⟨by simp [sg, pr, av_sv, this], fun q hq => ?_⟩
    simp only [pr] at hq
    simp [sg, av_sv] at hq ⊢
    simp [hq]
  · have : ¬ av a 71 2 0 = 1 := fun h => h3 ⟨h, hw⟩
    refine ⟨by simp [sg, pr, av_sv, this], fun q hq => ?_⟩
    simp only [pr] at hq
    simp [sg, av_sv] at hq ⊢
    simp [hq]
  · have : ¬ av a 71 5 0 = 1 := fun h => h4 ⟨hw, h⟩
    refine ⟨by simp [sg, pr, av_sv, this], fun q hq => ?_⟩
    simp only [pr] at hq
    simp [sg, av_sv] at hq ⊢
    simp [hq]
  · have : ¬ av a 71 4 0 = 1 := fun h => h4 ⟨h, hw⟩
    refine ⟨by simp [sg, pr, av_sv, this], fun q hq => ?_⟩
    simp only [pr] at hq
    simp [sg, av_sv] at hq ⊢
    simp [hq]
  · refine ⟨by simp [sg, pr, av_sv], fun q hq => ?_⟩
    simp only [pr] at hq
    simp [sg, av_sv] at hq ⊢
    simp [hq]
/-- V -/
theorem m_v {n s : Nat} {hd : Option Nat} {R : St} {a : AS} (h : RR n hd R a) (hG : GSg a) (hs : s < 7) (hn : (hd.toList ++ al a 0).Nodup) (hb : ∀ p ∈ hd.toList ++ al a 0, p < 10) (hw : av a 71 s 0 = 1 → pr s ∉ hd.toList ++ al a 0) : Rn (F_X12_raise (nI s) R) (fun r D => r = 0 ∧ RR n hd D (z_v s a)) := by
  have hh := h
  obtain ⟨h1, h2, h3, h4⟩ := h
  refine m_raise5 h3 hG hs (fun e => ?_) (fun e => ?_)
  · have e0 : ¬ av a 71 s 0 = 0 := by rw [e]; decide
    have hw := hw e
    rw [List.mem_append, not_or] at hw
    obtain ⟨s1, s2⟩ := sg_off hG hs e
    have key := m_wake (n := n) (p := pr s) (hd := hd) (R := R) (a := sv 71 s 0 0 a) (pr_lt s)
      (wRa h1 (fun f i j ho => by
        rw [av_sv, if_neg]
        rintro ⟨rfl, -, -⟩
        exact ho.elim))
      ⟨h2.1, h2.2.1, h2.2.2.1, fun hx => by rw [av_sv, if_neg (by simp)]; exact h2.2.2.2 hx⟩
      (fun q hq hne => by rw [s2 q hne]; exact h3 q hq) s1
      (RRy_eq h4 (fun _ _ _ _ _ => rfl) (fun g b c hg => by
        rw [av_sv, if_neg]
        rintro ⟨rfl, -, -⟩
        simp at hg) rfl rfl rfl)
      hw.2 (fun hx => hw.1 (by rw [hx]; simp))
      (by
        refine len10' hn hb (pr_lt s) ?_
        rw [List.mem_append, not_or]
        exact hw)
    unfold z_v
    rw [if_neg e0]
    refine rn_bd key ?_
    rintro r D ⟨-, hD⟩
    exact rn_ret ⟨rfl, hD⟩
  · have e0 : av a 71 s 0 = 0 := (hG.1 s hs).resolve_right e
    unfold z_v
    rw [if_pos e0, rr_13 hh hs]
    exact rn_ret ⟨rfl, wr_13 hh hs⟩
