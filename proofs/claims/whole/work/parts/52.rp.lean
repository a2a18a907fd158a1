/-! The reference: P -/
theorem sg_on {a : AS} {s : Nat} (hs : s < 7) (hw : sg a (pr s) = -1) : sg (sv 71 s 0 1 a) (pr s) = nI s ∧ ∀ q, q ≠ pr s → sg (sv 71 s 0 1 a) q = sg a q := by
  rcases lt7 hs with rfl | rfl | rfl | rfl | rfl | rfl | rfl
  · refine ⟨by simp [sg, pr, av_sv]; rfl, fun q hq => ?_⟩
    simp only [pr] at hq
    simp [sg, av_sv] at hq ⊢
    simp [hq]
  · have : ¬ av a 71 0 0 = 1 := fun h => by simp [sg, pr, h] at hw
    refine ⟨by simp [sg, pr, av_sv, this]; rfl, fun q hq => ?_⟩
    simp only [pr] at hq
    simp [sg, av_sv] at hq ⊢
    simp [hq]
  · refine ⟨by simp [sg, pr, av_sv]; rfl, fun q hq => ?_⟩
    simp only [pr] at hq
    simp [sg, av_sv] at hq ⊢
    simp [hq]
  · have : ¬ av a 71 2 0 = 1 := fun h => by simp [sg, pr, h] at hw
    refine ⟨by simp [sg, pr, av_sv, this]; rfl, fun q hq => ?_⟩
    simp only [pr] at hq
    simp [sg, av_sv] at hq ⊢
    simp [hq]
  · refine ⟨by simp [sg, pr, av_sv]; rfl, fun q hq => ?_⟩
    simp only [pr] at hq
    simp [sg, av_sv] at hq ⊢
    simp [hq]
  · have : ¬ av a 71 4 0 = 1 := fun h => by simp [sg, pr, h] at hw
    refine ⟨by simp [sg, pr, av_sv, this]; rfl, fun q hq => ?_⟩
    simp only [pr] at hq
    simp [sg, av_sv] at hq ⊢
    simp [hq]
  · refine ⟨by simp [sg, pr, av_sv]; rfl, fun q hq => ?_⟩
    simp only [pr] at hq
    simp [sg, av_sv] at hq ⊢
    simp [hq]
/-- who leads the row behind a P -/
def z_ph2 (s : Nat) (a : AS) : Option Nat := if av a 13 s 0 ≤ 0 then some (pr s) else none
theorem m_p {n s p : Nat} {nx x1 x2 : Int32} {R : St} {a : AS} {t : List Nat} (hx1 : x1 = nI p) (hx2 : x2 = nI s) (h : RR n none (up R 112 0 0 p nx) a) (hs : s < 7) (hp : p = pr s) (hr : al a 0 = p :: t) (hn : (al a 0).Nodup) (hw : sg a p = -1) : Rn (F_X12_waitFor x1 x2 nx R) (fun r D => r = 0 ∧ RR n (z_ph2 s a) D (z_p s a)) := by
  subst hp hx1 hx2
  have hp10 := pr_lt s
  unfold F_X12_waitFor
  rw [nI_clamp (by omega), nI_clamp (by omega)]
  refine rn_gd (inb_nI hp10 (by decide)) (rn_st (rn_gd (inb_nI hs (by decide)) ?_))
  generalize up R 112 0 0 (pr s) nx = R1 at h ⊢
  rw [rr_13 h hs]
  unfold z_ph2 z_p
  have hh := h
  obtain ⟨h1, ⟨⟨b1, b2⟩, b3, b4, b5⟩, h3, h4⟩ := h
  refine rn_if (fun e => ?_) (fun e => ?_)
  · rw [if_pos e, if_pos e]
    refine rn_st (rn_st (rn_ret ⟨rfl, ?_⟩))
    have er : al (z_susp (pr s) (cz s) (sv 71 s 0 1 a)) 0 = t := by
      unfold z_susp z_leave
      rw [al_sv, al_sl, if_pos rfl, al_sv, al_sv, hr]
      simp
    have eo : ∀ q, q ≠ 0 → al (z_susp (pr s) (cz s) (sv 71 s 0 1 a)) q = al a q := by
      intro q hq
      unfold z_susp z_leave
      rw [al_sv, al_sl, if_neg hq, al_sv, al_sv]
    have h6 : 6 ≤ pr s := by unfold pr; split; omega; split; omega; split <;> omega
    have ea : ∀ g b c', g ≠ 7 → g ≠ 71 → (g ≠ 10 ∨ b < 6) → av (z_susp (pr s) (cz s) (sv 71 s 0 1 a)) g b c' = av a g b c' := by
      intro g b c' hg hg2 hg3
      unfold z_susp z_leave
      rw [av_sv, if_neg (fun h => hg h.1), av_sl, av_sv, if_neg (by rintro ⟨rfl, rfl, -⟩; omega), av_sv, if_neg (fun h => hg2 h.1)]
    have ea71 : ∀ i, av (z_susp (pr s) (cz s) (sv 71 s 0 1 a)) 71 i 0 = av (sv 71 s 0 1 a) 71 i 0 := by
      intro i
      unfold z_susp z_leave
      rw [av_sv, if_neg (by simp), av_sl, av_sv, if_neg (by simp)]
    rw [hr] at hn
    have hkt : pr s ∉ t := (List.nodup_cons.mp hn).1
    refine ⟨?_, ⟨⟨?_, ?_⟩, ?_, ?_, ?_⟩, ?_, ?_⟩
    · have w1 := wRo (y := (111, 0, 0, pr s)) (x := nI s) h1 rfl
      have w2 := wRo (y := (109, 0, 0, pr s)) (x := 1) w1 rfl
      refine wRa w2 (fun f i j ho => ea f i j ?_ ?_ ?_)
      · rintro rfl; exact ho.elim
      · rintro rfl; exact ho.elim
      · by_cases e5 : f = 10
        · subst e5; exact Or.inr ho.1
        · exact Or.inl e5
    · rw [up_at, if_neg (by simp), up_at, if_neg (by simp), b1, er, hr]
      rfl
    · intro i q hi
      rw [er] at hi
      rw [up_at, if_neg (by simp), up_at, if_neg (by simp)]
      refine b2 i q ?_
      rw [hr]
      exact hi
    · intro q hq
      rw [er] at hq
      rw [up_at, if_neg (by rintro ⟨-, -, -, rfl⟩; exact hkt hq), up_at, if_neg (by simp)]
      exact b3 q (by rw [hr]; exact List.mem_cons_of_mem _ hq)
    · intro q hq
      injection hq with hq
      subst hq
      rw [up_at, if_pos ⟨rfl, rfl, rfl, rfl⟩]
    · intro hh
      cases hh
    · intro q hq
      have es : sg (z_susp (pr s) (cz s) (sv 71 s 0 1 a)) q = sg (sv 71 s 0 1 a) q := by
        unfold sg
        simp only [ea71]
      obtain ⟨s1, s2⟩ := sg_on hs hw
      rw [es, up_at, if_neg (by simp), up_at]
      by_cases eq : q = pr s
      · subst eq
        rw [if_pos ⟨rfl, rfl, rfl, rfl⟩, s1]
      · rw [if_neg (by simp [eq]), s2 q eq]
        exact h3 q hq
    · refine RRy_eq h4 (fun q b k' c' hq => ?_) (fun g b c' hg => ?_) (eo 1 (by decide)) (eo 2 (by decide)) (eo 3 (by decide))
      · rw [up_at, if_neg, up_at, if_neg]
        · rintro ⟨rfl, -, -, -⟩
          simp at hq
        · rintro ⟨rfl, -, -, -⟩
          simp at hq
      · exact ea g b c' (by rintro rfl; simp at hg) (by rintro rfl; simp at hg) (Or.inl (by rintro rfl; simp at hg))
  · rw [if_neg e, if_neg e]
    refine rn_st (rn_ret ⟨rfl, ?_⟩)
    exact wr_13 hh hs
/-- a job is woken -/
theorem m_wakeJ {n k : Nat} {hd : Option Nat} {R : St} {a : AS} (h : RR n hd R a) (hk : k < 6) (hn : (hd.toList ++ al a 0).Nodup) (hb : ∀ p ∈ hd.toList ++ al a 0, p < 10) (hw : k ∉ hd.toList ++ al a 0) : Rn (F_X12_wake (nI k) R) (fun r D => r = 0 ∧ RR n hd D (z_wake k a)) := by
  obtain ⟨h1, h2, h3, h4⟩ := h
  have hw2 := hw
  rw [List.mem_append, not_or] at hw2
  have s0 : sg a k = -1 := by
    unfold sg
    rw [if_neg (by omega), if_neg (by omega), if_neg (by omega), if_neg (by omega)]
  exact m_wake (by omega) h1 h2 (fun q hq _ => h3 q hq) s0 h4 hw2.2 (fun hx => hw2.1 (by rw [hx]; simp)) (len10' hn hb (by omega) hw)
