/-! The reference: an instruction is done, a frame is chosen, jobs are counted -/
theorem m_unpin {n k : Nat} {hd : Option Nat} {a : AS} (hn : n ≤ 12) : ∀ fu f D, n < fu + f → f ≤ n → RR n hd D (z_unpin f k a) → Rn (F_X12_unpin_2 fu (nI k) (nI f) D) (fun r E => r = 0 ∧ RR n hd E (z_unpin n k a)) := by
  intro fu
  induction fu with
  | zero => intro f D h1 h2; omega
  | succ fu ih =>
    intro f D h1 h2 h
    have hN : D 50 0 0 0 = nI n := h.2.2.2.1
    unfold F_X12_unpin_2
    rw [hN]
    by_cases e : f = n
    · subst e
      exact rn_pos (nI_le (Nat.le_refl _) (by omega)) (rn_ret ⟨rfl, h⟩)
    · have hf : f < n := by omega
      refine rn_neg (nI_ge hf (by omega)) (rn_gd (inb_nI (by omega) (by decide)) ?_)
      have e9 : av (z_unpin f k a) 39 f 0 = av a 39 f 0 := by rw [av_unpin, if_neg (by simp)]
      rw [nI_clamp (by omega), rr_39 h hf, e9]
      refine rn_if (fun e1 => ?_) (fun e1 => ?_)
      · refine rn_st ?_
        show Rn (F_X12_unpin_2 fu (nI k) (nI f + 1) _) _
        rw [nI_1]
        refine ih (f + 1) _ (by omega) (by omega) ?_
        have h2 := wr_43 (f := f) (x := 0) h
        have e3 : sv 43 f 0 0 (z_unpin f k a) = z_unpin (f + 1) k a := by
          refine as_ext (fun g b c => ?_) (fun q => rfl)
          rw [av_sv, av_unpin, av_unpin]
          by_cases c1 : g = 43 ∧ b = f ∧ c = 0
          · obtain ⟨rfl, rfl, rfl⟩ := c1
            rw [if_pos ⟨rfl, rfl, rfl⟩, if_pos ⟨rfl, rfl, by omega, e1⟩]
          · rw [if_neg c1]
            by_cases c2 : g = 43 ∧ c = 0 ∧ b < f ∧ av a 39 b 0 = nI k
            · rw [if_pos c2, if_pos ⟨c2.1, c2.2.1, by omega, c2.2.2.2⟩]
            · rw [if_neg c2, if_neg]
              rintro ⟨d1, d2, d3, d4⟩
              by_cases d5 : b = f
              · exact c1 ⟨d1, d5, d2⟩
              · exact c2 ⟨d1, d2, by omega, d4⟩
        rw [← e3]
        exact h2
      · show Rn (F_X12_unpin_2 fu (nI k) (nI f + 1) _) _
        rw [nI_1]
        refine ih (f + 1) _ (by omega) (by omega) ?_
        have e3 : z_unpin f k a = z_unpin (f + 1) k a := by
          refine as_ext (fun g b c => ?_) (fun q => rfl)
          rw [av_unpin, av_unpin]
          by_cases c2 : g = 43 ∧ c = 0 ∧ b < f ∧ av a 39 b 0 = nI k
          · rw [if_pos c2, if_pos ⟨c2.1, c2.2.1, by omega, c2.2.2.2⟩]
          · rw [if_neg c2, if_neg]
            rintro ⟨d1, d2, d3, d4⟩
            by_cases d5 : b = f
            · subst d5; exact e1 d4
            · exact c2 ⟨d1, d2, by omega, d4⟩
        rw [← e3]
        exact h
theorem m_finish {n k : Nat} {hd : Option Nat} {R : St} {a : AS} (h : RR n hd R a) (hn : n ≤ 12) (hk : k < 6) : Rn (F_X12_finish (nI k) R) (fun r E => r = 0 ∧ RR n hd E (z_comp n k (av a 18 k 0 + 1) a)) := by
  unfold F_X12_finish
  rw [nI_clamp (by omega), rr_17 h hk]
  refine rn_gd (inb_nI hk (by decide)) (rn_st (rn_st ?_))
  have h2 : RR n hd (up R 117 0 0 k (av a 17 k 0 + 1)) (sv 17 k 0 (av a 17 k 0 + 1) a) := wr_17 h hk
  rw [rr_18 h2 hk, av_sv, if_neg (by simp)]
  have h3 := wr_18 (x := av a 18 k 0 + 1) h2 hk
  refine rn_bd (P := fun r E => r = 0 ∧ RR n hd E (z_comp n k (av a 18 k 0 + 1) a)) ?_ ?_
  · refine m_unpin hn 1000 0 _ (by omega) (by omega) ?_
    rw [unpin0]
    exact h3
  · rintro r E ⟨-, hE⟩
    exact rn_ret ⟨rfl, hE⟩
theorem m_best {n : Nat} {hd : Option Nat} {R : St} {a : AS} (h : RR n hd R a) (hn : n ≤ 12) (hfr : ∀ f, f < n → ¬ av a 39 f 0 = -1) (hv : ∀ f, f < n → vJ (av a 39 f 0)) : ∀ fu f, n < fu + f → f ≤ n → Rn (F_X12_choose_32 fu (oI (z_best a f)) (nI f) R) (fun r D => r = oI (z_best a n) ∧ D = R) := by
  have hN : R 50 0 0 0 = nI n := h.2.2.2.1
  intro fu
  induction fu with
  | zero => intro f h1 h2; omega
  | succ fu ih =>
    intro f h1 h2
    unfold F_X12_choose_32
    rw [hN]
    by_cases e : f = n
    · subst e
      exact rn_pos (nI_le (Nat.le_refl _) (by omega)) (rn_ret ⟨rfl, rfl⟩)
    · have hf : f < n := by omega
      have key := ih (f + 1) (by omega) (by omega)
      refine rn_neg (nI_ge hf (by omega)) (rn_gd (inb_nI (by omega) (by decide)) ?_)
      rw [nI_clamp (by omega), rr_39 h hf, rr_41 h hf]
      unfold F_X12_choose_83 F_X12_choose_85
      rw [nI_1]
      rw [z_best] at key
      by_cases c1 : av a 39 f 0 = -2
      · refine rn_pos c1 ?_
        cases eb : z_best a f with
        | none => rw [eb] at key; simpa [c1] using key
        | some b => rw [eb] at key; simpa [c1] using key
      · refine rn_neg c1 ?_
        have hnn : ¬ av a 39 f 0 < 0 := by
          rcases hv f hf with h5 | h5 | ⟨j, hj, h5⟩
          · exact absurd h5 c1
          · exact absurd h5 (hfr f hf)
          · rw [h5]; exact nI_pos (by omega)
        rw [(h.2.2.2.2.2.2.2.2.2.1 f hf hnn).2]
        refine rn_if (fun c2 => ?_) (fun c2 => ?_)
        · cases eb : z_best a f with
          | none =>
            rw [eb] at key
            have key2 : Rn (F_X12_choose_32 fu (nI f) (nI (f + 1)) R) (fun r D => r = oI (z_best a n) ∧ D = R) := by simpa [c1, c2, oI] using key
            exact rn_pos rfl key2
          | some b =>
            rw [eb] at key
            have hbl := best_lt eb
            refine rn_neg (nI_nm (k := b) (by omega) (by decide)) (rn_gd (inb_nI (k := b) (by omega) (by decide)) ?_)
            have e4 : (oI (some b)).toNatClampNeg = b := nI_clamp (by omega)
            rw [e4, rr_41 h (by omega : b < n)]
            refine rn_if (fun c3 => ?_) (fun c3 => ?_)
            · simpa [c1, c2, c3] using key
            · have key2 : Rn (F_X12_choose_32 fu (nI f) (nI (f + 1)) R) (fun r D => r = oI (z_best a n) ∧ D = R) := by simpa [c1, c2, c3, oI] using key
              exact key2
        · cases eb : z_best a f with
          | none => rw [eb] at key; simpa [c1, c2] using key
          | some b => rw [eb] at key; simpa [c1, c2] using key
theorem m_choose {n : Nat} {hd : Option Nat} {R : St} {a : AS} (h : RR n hd R a) (hn : n ≤ 12) (hv : ∀ f, f < n → vJ (av a 39 f 0)) : F_X12_choose R = some (oI (z_choose n a), R) := by
  have hN : R 50 0 0 0 = nI n := h.2.2.2.1
  have key : ∀ fu f, n < fu + f → f ≤ n → (∀ g, g < f → ¬ av a 39 g 0 = -1) → Rn (F_X12_choose_2 fu (nI f) R) (fun r D => r = oI (z_choose n a) ∧ D = R) := by
    intro fu
    induction fu with
    | zero => intro f h1 h2; omega
    | succ fu ih =>
      intro f h1 h2 h3
      unfold F_X12_choose_2
      rw [hN]
      by_cases e : f = n
      · subst e
        refine rn_pos (nI_le (Nat.le_refl _) (by omega)) ?_
        have e2 : z_choose f a = z_best a f := by
          have : (List.range f).find? (fun f => decide (av a 39 f 0 = -1)) = none := by
            rw [List.find?_range_eq_none]
            intro i hi
            simp [h3 i hi]
          unfold z_choose
          rw [this]
        rw [e2]
        exact m_best h hn h3 hv 1000 0 (by omega) (by omega)
      · have hf : f < n := by omega
        refine rn_neg (nI_ge hf (by omega)) (rn_gd (inb_nI (by omega) (by decide)) ?_)
        rw [nI_clamp (by omega), rr_39 h hf]
        refine rn_if (fun e1 => ?_) (fun e1 => ?_)
        · have : (List.range n).find? (fun f => decide (av a 39 f 0 = -1)) = some f := by
            rw [List.find?_range_eq_some]
            exact ⟨by simp [e1], List.mem_range.mpr hf, fun j hj => by simp [h3 j hj]⟩
          refine rn_ret ⟨?_, rfl⟩
          unfold z_choose
          rw [this]
          rfl
        · rw [nI_1]
          refine ih (f + 1) (by omega) (by omega) (fun g hg => ?_)
          by_cases eg : g = f
          · subst eg; exact e1
          · exact h3 g (by omega)
  exact rn_eq (key 1000 0 (by omega) (by omega) (fun g hg => absurd hg (Nat.not_lt_zero g)))
theorem m_adm {n : Nat} {hd : Option Nat} {R : St} {a : AS} (h : RR n hd R a) : F_X12_admitted R = some (z_adm a 6, R) := by
  have key : ∀ fu k, 6 < fu + k → k ≤ 6 → Rn (F_X12_admitted_4 fu (z_adm a k) (nI k) R) (fun r D => r = z_adm a 6 ∧ D = R) := by
    intro fu
    induction fu with
    | zero => intro k h1 h2; omega
    | succ fu ih =>
      intro k h1 h2
      unfold F_X12_admitted_4
      by_cases e : k = 6
      · subst e
        exact rn_pos (show (6 : Int32) ≤ nI 6 by decide) (rn_ret ⟨rfl, rfl⟩)
      · have hk : k < 6 := by omega
        have key := ih (k + 1) (by omega) (by omega)
        rw [z_adm] at key
        rw [nI_clamp (by omega), rr_14 h hk]
        refine rn_neg (nI_ge (b := 6) hk (by decide)) (rn_gd (inb_nI hk (by decide)) (rn_if (fun e2 => ?_) (fun e2 => ?_)))
        · rw [if_pos e2] at key
          show Rn (F_X12_admitted_4 fu (z_adm a k + 1) (nI k + 1) R) _
          rw [nI_1]
          exact key
        · rw [if_neg e2] at key
          show Rn (F_X12_admitted_4 fu (z_adm a k + 0) (nI k + 1) R) _
          rw [nI_1, Int32.add_zero]
          exact key
  exact rn_eq (key 1000 0 (by omega) (by omega))
theorem b8 : ∀ y, y < 128 → ((nI y).toInt8.toInt32).toInt8.toInt32 = nI y ∧ (nI y).toInt8.toInt32 = nI y := by decide +kernel
theorem k_say {n m y : Nat} {x : Int32} {C : St} {a : AS} (h : RC n C a) (hm : av a 69 0 0 = nI m) (hm2 : m < 2 ^ 30) (hx : x = nI y) (hy : y < 128) : Rn (F_X1_say n x C) (fun r D => r = 0 ∧ RC n D (sv 69 0 0 (nI (m + 1)) (if m < 600 then sv 66 m 0 x a else a))) := by
  subst hx
  unfold F_X1_say F_X1_say_28
  rw [rc_69 h, hm, (b8 y hy).1]
  refine rn_neg (nI_pos (by omega)) ?_
  by_cases e : m < 600
  · rw [if_pos e, nI_clamp (by omega)]
    refine rn_neg (nI_ge (b := 600) e (by decide)) (rn_gd (inb_nI e (by decide)) (rn_st (rn_st (rn_ret ⟨rfl, ?_⟩))))
    have h2 : RC n (up C 27 0 0 m (nI y)) (sv 66 m 0 (nI y) a) := wc_66 h e
    rw [rc_69 h2, av_sv, if_neg (by simp), hm, nI_1]
    exact wc_69 h2
  · rw [if_neg e]
    refine rn_pos (nI_le (a := 600) (by omega) (by omega)) (rn_st (rn_ret ⟨rfl, ?_⟩))
    rw [nI_1]
    exact wc_69 h
