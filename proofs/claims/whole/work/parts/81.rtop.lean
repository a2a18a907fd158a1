/-! The reference: ticks, devices done, bytes, the tape, jobs submitted -/
def SR (n p : Nat) (a : AS) : Prop :=
  (p < 6 → MJ n p a ∧ JS p a ∧ MN p a) ∧ (p = 6 → MS 6 a ∧ MG n a) ∧ (p = 7 → MS 7 a ∧ MR a) ∧ (p = 8 → MS 8 a ∧ MP a) ∧
  (p = 9 → MS 9 a ∧ ∃ L m ms, TR L a ∧ MC a ∧ av a 68 0 0 = nI m ∧ 0 < m ∧ m ≤ 8 ∧ av a 69 0 0 = nI ms ∧ ms < 2 ^ 29)
/-- what the end of a tick wants of the state behind the step -/
def EB (p : Nat) (b : AS) : Prop := (al b 0).Nodup ∧ (∀ q ∈ al b 0, q < 10) ∧ ((al b 0).head? = some p → ∃ u q, av b 7 0 0 = nI u ∧ av b 2 0 0 = nI q ∧ u < q ∧ q < 1000) ∧ (p ∉ al b 0 → av b 7 0 0 = 0)
theorem m_oneTick {n : Nat} {R : St} {a : AS} (h : RR n none R a) (hn : n ≤ 12) (hb : ∀ p ∈ al a 0, p < 10) (hl10 : (al a 0).length ≤ 10) (hS : ∀ p t, al a 0 = p :: t → SR n p (z_t5 a) ∧ EB p (z_step n p (z_t5 a))) : Rn (F_X12_oneTick R) (fun r D => r = 0 ∧ RR n none D (z_tick1 n a)) := by
  unfold F_X12_oneTick
  rw [rr_5 h]
  refine rn_st ?_
  have hD : RR n none (up R 50 0 5 0 (av a 5 0 0 + 1)) (z_t5 a) := wr_5 h
  generalize up R 50 0 5 0 (av a 5 0 0 + 1) = D at hD
  have d6 : D 50 0 6 0 = nI (al a 0).length := hD.2.1.1.1
  have e0 : (0 : Int32).toNatClampNeg = 0 := rfl
  rw [d6, e0]
  cases hl : al a 0 with
  | nil =>
    unfold z_tick1
    rw [hl]
    exact rn_pos rfl (rn_ret ⟨rfl, hD⟩)
  | cons p t =>
    have hp : p < 10 := hb p (by rw [hl]; simp)
    obtain ⟨⟨s1, s2, s3, s4, s5⟩, b1, b2, b3, b4⟩ := hS p t hl
    have d108 : D 108 0 0 0 = nI p := hD.2.1.1.2 0 p (by show (al a 0)[0]? = some p; rw [hl]; rfl)
    rw [hl] at hl10
    have hz : z_tick1 n a = z_endt p (z_step n p (z_t5 a)) := by
      unfold z_tick1
      rw [hl]
    rw [d108, hz]
    refine rn_neg (nI_ne0 (by simp) (by omega)) (rn_gd rfl ?_)
    have fin : ∀ {o : Option (Int32 × St)}, Rn o (fun r D => r = 0 ∧ RRo n p D (z_step n p (z_t5 a))) → Rn (bd2 o (fun _ D19 => F_X12_oneTick_82 (nI p) D19)) (fun r D => r = 0 ∧ RR n none D (z_endt p (z_step n p (z_t5 a)))) := by
      intro o ho
      refine rn_bd ho ?_
      rintro _ E ⟨-, hE⟩
      exact m_t82 hp hE b1 b2 b3 b4
    by_cases c : p < 6
    · obtain ⟨x1, x2, x3⟩ := s1 c
      refine rn_neg (nI_ge (b := 6) c (by decide)) (fin ?_)
      rw [zsj _ c]
      exact m_job hD hn c x1 x2 x3
    · refine rn_pos (nI_le (a := 6) (by omega) (by omega)) ?_
      have hc : p = 6 ∨ p = 7 ∨ p = 8 ∨ p = 9 := by omega
      rcases hc with rfl | rfl | rfl | rfl
      · refine rn_pos rfl (fin ?_)
        rw [zs6]
        exact m_segs hD hn (s2 rfl).1 (s2 rfl).2
      · refine rn_neg (by decide) (rn_pos rfl (fin ?_))
        rw [zs7]
        exact m_reading hD hn (s3 rfl).1 (s3 rfl).2
      · refine rn_neg (by decide) (rn_neg (by decide) (rn_pos rfl (fin ?_)))
        rw [zs8]
        exact m_printing hD (s4 rfl).1 (s4 rfl).2
      · refine rn_neg (by decide) (rn_neg (by decide) (rn_neg (by decide) (fin ?_)))
        rw [zs9]
        obtain ⟨y1, L, m, ms, y2, y3, y4, y5, y6, y7, y8⟩ := s5 rfl
        exact m_cons hD hn y2 y3 y1 y4 y5 y6 y7 y8
theorem m_tick15 {n : Nat} (hn : n ≤ 12) {I : AS → Prop} (hI : ∀ a, I a → (∀ p ∈ al a 0, p < 10) ∧ (al a 0).length ≤ 10 ∧ ∀ p t, al a 0 = p :: t → SR n p (z_t5 a) ∧ EB p (z_step n p (z_t5 a))) : ∀ m fu i a R, (∀ j, j < m → I (z_ticks n j a)) → m < fu → RR n none R a → i + m < 2 ^ 30 → Rn (F_X12_tick_15 fu (nI (i + m)) (nI i) R) (fun r D => r = av (z_ticks n m a) 5 0 0 ∧ RR n none D (z_ticks n m a)) := by
  intro m
  induction m with
  | zero =>
    intro fu i a R hJ hf h hi
    obtain ⟨fu, rfl⟩ : ∃ g, fu = g + 1 := ⟨fu - 1, by omega⟩
    unfold F_X12_tick_15
    rw [Nat.add_zero, rr_5 h]
    exact rn_pos (nI_le (Nat.le_refl _) (by omega)) (rn_ret ⟨rfl, h⟩)
  | succ m ih =>
    intro fu i a R hJ hf h hi
    obtain ⟨fu, rfl⟩ : ∃ g, fu = g + 1 := ⟨fu - 1, by omega⟩
    unfold F_X12_tick_15
    obtain ⟨i1, i2, i3⟩ := hI a (hJ 0 (by omega))
    refine rn_neg (nI_ge (by omega) (by omega)) (rn_bd (m_oneTick h hn i1 i2 i3) ?_)
    rintro _ D ⟨-, hD⟩
    rw [nI_1, show i + (m + 1) = i + 1 + m by omega]
    exact ih fu (i + 1) (z_tick1 n a) D (fun j hj => hJ (j + 1) (by omega)) (by omega) hD (by omega)
theorem m_tick {n : Nat} {x : Int32} (hn : n ≤ 12) {I : AS → Prop} (hI : ∀ a, I a → (∀ p ∈ al a 0, p < 10) ∧ (al a 0).length ≤ 10 ∧ ∀ p t, al a 0 = p :: t → SR n p (z_t5 a) ∧ EB p (z_step n p (z_t5 a))) {R : St} {a : AS} (h : RR n none R a) (hJ : ∀ j, j < 200 → I (z_ticks n j a)) : Rn (F_X12_tick x R) (fun r D => r = (z_tick n x a).1 ∧ RR n none D (z_tick n x a).2) := by
  unfold F_X12_tick F_X12_tick_11 z_tick
  refine rn_if (fun e => ?_) (fun e => rn_if (fun e2 => ?_) (fun e2 => ?_))
  · rw [if_pos (Or.inl e)]
    exact rn_ret ⟨rfl, h⟩
  · rw [if_neg (fun o => o.elim e (fun y => y e2))]
    obtain ⟨r, hr, rfl⟩ := le200 e e2
    rw [show (nI r).toNatClampNeg = r from nI_clamp (by omega)]
    have := m_tick15 hn hI r 1000 0 a R (fun j hj => hJ j (by omega)) (by omega) h (by omega)
    rw [Nat.zero_add] at this
    exact this
  · rw [if_pos (Or.inr e2)]
    exact rn_ret ⟨rfl, h⟩
/-- what a call outside of ticks wants of the processes -/
def MZ (a : AS) : Prop := (al a 0).Nodup ∧ (∀ p ∈ al a 0, p < 10) ∧ GSg a ∧ ∀ s, s < 7 → av a 71 s 0 = 1 → pr s ∉ al a 0
theorem m_vq {n s : Nat} {R : St} {a b : AS} (h : RR n none R b) (hQ : MZ a) (hs : s < 7) (e71 : ∀ s, av b 71 s 0 = av a 71 s 0) (el : al b 0 = al a 0) : Rn (F_X12_raise (nI s) R) (fun r D => r = 0 ∧ RR n none D (z_v s b)) := by
  obtain ⟨q1, q2, q3, q4⟩ := hQ
  refine m_v h (GSg_eq q3 e71) hs ?_ ?_ ?_
  · show (al b 0).Nodup; rw [el]; exact q1
  · show ∀ p ∈ al b 0, p < 10; rw [el]; exact q2
  · rw [e71]; show _ → pr s ∉ al b 0; rw [el]; exact q4 s hs
theorem wr_45z {n : Nat} {R : St} {a : AS} (h : RR n none R a) : RR n none (up R 50 0 45 0 0) (sv 45 0 0 0 a) := by
  obtain ⟨g1, g2, g3, g4, g5, g6, g7, g8, g9, g10, g11, g12⟩ := h
  refine ⟨wRd (f := 45) (i := 0) (j := 0) (x := 0) g1 ⟨rfl, rfl⟩, RRh_eq g2 ?_ ?_ ?_ ?_ rfl ?_, RRs_eq g3 ?_ ?_, ?_, RRt_eq g5 ?_ ?_ ?_ ?_, RRe_eq g6 ?_ ?_ ?_ ?_, RRg_eq g7 ?_ ?_ ?_ rfl ?_, RRa_eq g8 ?_ ?_ ?_ rfl ?_, RRc_eq g9 ?_ ?_ rfl, RRf_eq g10 ?_ ?_ ?_ ?_ ?_, ⟨fun hb => ?_, fun hb => ?_⟩, RRj_eq g12 ?_ ?_ ?_ ?_⟩
  case refine_32 =>
    rw [av_o (by decide)] at hb
    obtain ⟨c1, c2, c3⟩ := g11.1 hb
    simp [up_at, av_sv]
    exact ⟨c1, c2, c3⟩
  case refine_33 =>
    rw [av_s] at hb
    exact absurd hb (by decide)
  all_goals first
    | (simp [up_at]; done)
    | (simp [up_at]; exact g4)
    | (intro c; simp [up_at]; done)
    | (simp [av_sv]; done)
    | (intro c; simp [av_sv]; done)
