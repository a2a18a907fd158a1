/-! The reference: an instruction, a job's step -/
theorem i64_of (x : Int32) : x.toInt64.toInt = x.toInt := Int32.toInt_toInt64 x
theorem sum64 {ad : Nat} (had : ad < 256) (x : Int32) : ((nI ad).toInt64 + x.toInt64).toInt = (ad : Int) + x.toInt := by
  have h1 : ((nI ad).toInt64).toInt = (ad : Int) := by rw [i64_of, nI_toInt (by omega)]
  have h2 := i64_of x
  have h3 := Int32.le_toInt x
  have h4 := Int32.toInt_lt x
  rw [Int64.toInt_add, h1, h2]
  simp only [Int.bmod]
  split <;> omega
theorem sum32 {ad : Nat} (had : ad < 256) (x : Int32) : (nI ad + x).toInt = if (ad : Int) + x.toInt < 2 ^ 31 then (ad : Int) + x.toInt else (ad : Int) + x.toInt - 2 ^ 32 := by
  have h3 := Int32.le_toInt x
  have h4 := Int32.toInt_lt x
  rw [Int32.toInt_add, nI_toInt (by omega)]
  simp only [Int.bmod]
  split <;> split <;> omega
theorem addr64 {ad g : Nat} (had : ad < 256) (hg : g ≤ 8) (x : Int32) : (¬ lg_cmp ((nI ad).toInt64 + x.toInt64) 0 < 0 ∧ lg_cmp ((nI ad).toInt64 + x.toInt64) ((16 : Int64) * (nI g).toInt64) < 0) ↔ (¬ nI ad + x < 0 ∧ ¬ nI g * 16 ≤ nI ad + x) := by
  have h3 := Int32.le_toInt x
  have h4 := Int32.toInt_lt x
  have hs := sum64 had x
  have ht := sum32 had x
  have e16 : nI g * 16 = nI (16 * g) := by
    have := mul16 (s := g) (m := 0)
    rw [nI_0, Int32.add_zero] at this
    exact this
  have e64 : ((16 : Int64) * (nI g).toInt64).toInt = 16 * (g : Int) := by
    have : g = 0 ∨ g = 1 ∨ g = 2 ∨ g = 3 ∨ g = 4 ∨ g = 5 ∨ g = 6 ∨ g = 7 ∨ g = 8 := by omega
    rcases this with rfl | rfl | rfl | rfl | rfl | rfl | rfl | rfl | rfl <;> decide
  have z64 : (0 : Int64).toInt = 0 := by decide
  have z32 : (0 : Int32).toInt = 0 := by decide
  have t16 : (nI (16 * g)).toInt = 16 * (g : Int) := by rw [nI_toInt (by omega)]; omega
  rw [lg_cmp_lt, lg_cmp_lt, e16, Int64.lt_iff_toInt_lt, Int64.lt_iff_toInt_lt, Int32.lt_iff_toInt_lt, Int32.le_iff_toInt_le, hs, e64, z64, z32, t16, ht]
  split <;> omega
theorem to32 (x y : Int32) : (x.toInt64 + y.toInt64).toInt32 = x + y := by
  rw [Int64.toInt32_add, Int32.toInt32_toInt64, Int32.toInt32_toInt64]
theorem with_use {n k f g i : Nat} {kind : Int32} {a : AS} : z_with n k g i kind (z_use g (z_use f a)) = if kind = 2 ∨ kind = 12 then z_comp n k (av a 18 k 0 + 1) (sv 42 g 0 1 (sv 38 g i (av a 19 k 0) (z_use g (z_use f a)))) else z_cmp n k kind (av a 38 g i) (z_use g (z_use f a)) := by
  unfold z_with
  rw [vo_use (by decide), vo_use (by decide), vo_use (by decide), vo_use (by decide), vo_use (by decide), vo_use (by decide)]
theorem m_op {n k f g ad : Nat} {kind x : Int32} {t0 : Int64} {R : St} {a : AS} (h : RR n none R a) (hn : n ≤ 12) (hk : k < 6) (hM : MJ n k a) (hf : f < n) (hs : av a 22 k 0 = nI g) (hg : g ≤ 8) (had : ad < 256) (ht : t0 = x.toInt64) (hh : hop kind = true) : Rn (F_X12_instruction_159 (nI k) (nI f) kind t0 ((nI ad).toInt64) R) (fun r D => r = 0 ∧ RRo n k D (z_op n k f kind (nI ad + x) a)) := by
  subst ht
  have hM2 := hM
  have g6 := inb_nI hk (show 6 < 2 ^ 31 by decide)
  have ekk : (nI k).toNatClampNeg = k := nI_clamp (by omega)
  have eff : (nI f).toNatClampNeg = f := nI_clamp (by omega)
  have gf := inb_nI (show f < 12 by omega) (show 12 < 2 ^ 31 by decide)
  have key := addr64 had hg x
  have hu : RR n none (up R 141 0 0 f (av a 5 0 0)) (z_use f a) := wr_use h hf
  have trap : Rn (F_X12_instruction_186 (nI k) (nI f) R) (fun r D => r = 0 ∧ RRo n k D (z_trap k (z_use f a))) := by
    unfold F_X12_instruction_186
    rw [ekk, eff, rr_5 h]
    exact rn_gd gf (rn_st (rn_gd g6 (rn_st (rn_ret ⟨rfl, m_trap hu (MJ_use hM2)⟩))))
  unfold F_X12_instruction_159 z_op
  rw [to32, ekk, rr_22 h hk, hs]
  by_cases c : ¬ nI ad + x < 0 ∧ ¬ nI g * 16 ≤ nI ad + x
  · rw [if_pos c]
    obtain ⟨k1, k2⟩ := key.mpr c
    obtain ⟨m, em, hm⟩ := has_lt (a := a) (k := k) hs hg (by rw [hs]; exact c)
    rw [em]
    have hm128 : m < 128 := by omega
    obtain ⟨-, q2, q3⟩ := fmd16 m hm128
    have emm : (nI m).toNatClampNeg = m := nI_clamp (by omega)
    refine rn_neg k1 (rn_gd g6 (rn_pos k2 (rn_bdE (m_frameOf h hn (hM.2.2.2.2.2.2.2.2.2.2.2.2 (nI m / 16))) ?_)))
    cases hz : z_find n k (nI m / 16) a with
    | none =>
      refine rn_pos rfl (rn_bd (m_ask h hk hM2) ?_)
      rintro _ D ⟨-, hD⟩
      exact rn_ret ⟨rfl, hD⟩
    | some e =>
      have he := find_lt hz
      have hoi : oI (some e) = nI e := rfl
      have eee : (nI e).toNatClampNeg = e := nI_clamp (by omega)
      rw [hoi, eee, eff, rr_5 h]
      refine rn_neg (nI_nm (by omega) (by decide)) (rn_gd gf (rn_st (rn_gd (inb_nI (by omega) (by decide)) (rn_st ?_))))
      have hv := wr_use (f := e) hu he
      rw [use5] at hv
      rw [rr_5 hu, use5, q2, idx16]
      have hw := m_with (i := m % 16) (kind := kind) hv hn hk (MJ_use (MJ_use hM2)) he (by omega) rfl hh
      refine rn_bd hw ?_
      rintro _ D ⟨-, hD⟩
      refine rn_ret ⟨rfl, ?_⟩
      rw [with_use] at hD
      simp only
      rw [emm]
      exact hD
  · rw [if_neg c]
    by_cases k1 : lg_cmp ((nI ad).toInt64 + x.toInt64) 0 < 0
    · exact rn_pos k1 trap
    · refine rn_neg k1 (rn_gd g6 (rn_neg (fun k2 => c (key.mp ⟨k1, k2⟩)) trap))
theorem comp_place {n k : Nat} {x y : Int32} {a : AS} : sv 18 k 0 x (z_comp n k y a) = z_comp n k x a := by
  refine as_ext (fun g b c => ?_) (fun q => rfl)
  rw [av_sv, av_comp, av_comp]
  grind
theorem m_jump {n k : Nat} {x t0 : Int32} {R : St} {a : AS} {t : List Nat} (h : RR n none R a) (hn : n ≤ 12) (hk : k < 6) (hl : al a 0 = k :: t) : Rn (F_X12_without_148 (nI k) x t0 R) (fun r D => r = 0 ∧ RRo n k D (z_comp n k (if t0 = 0 then av a 18 k 0 + 1 else x) a)) := by
  unfold F_X12_without_148 F_X12_without_175 F_X12_without_274
  have g6 := inb_nI hk (show 6 < 2 ^ 31 by decide)
  have ekk : (nI k).toNatClampNeg = k := nI_clamp (by omega)
  rw [ekk]
  refine rn_bd (m_finish h hn hk) ?_
  rintro _ D ⟨-, hD⟩
  refine rn_if (fun e => ?_) (fun e => ?_)
  · rw [if_pos e, rr_18 hD hk]
    have e18 : av (z_comp n k (av a 18 k 0 + 1) a) 18 k 0 = av a 18 k 0 + 1 := by
      rw [av_comp, if_neg (by simp), if_pos ⟨rfl, rfl, rfl⟩]
    rw [e18]
    have hE := wr_18 (x := av a 18 k 0 + 1) hD hk
    rw [comp_place] at hE
    exact rn_gd g6 (rn_gd g6 (rn_st (rn_ret ⟨rfl, RRo_stay (t := t) hE hl⟩)))
  · rw [if_neg e]
    have hE := wr_18 (x := x) hD hk
    rw [comp_place] at hE
    exact rn_gd g6 (rn_st (rn_ret ⟨rfl, RRo_stay (t := t) hE hl⟩))
/-- what the reference wants of a job's numbers -/
def MN (k : Nat) (a : AS) : Prop := (av a 27 k 0 ≤ 0 ↔ av a 27 k 0 = 0) ∧ (av a 31 k 0 ≤ av a 32 k 0 ↔ av a 32 k 0 = av a 31 k 0) ∧ (av a 27 k 1 ≤ 0 ↔ av a 27 k 1 = 0) ∧ (¬ 0 < av a 27 k 2 ↔ av a 27 k 2 = 0) ∧ GV none a
theorem MN_use {k f : Nat} {a : AS} (h : MN k a) : MN k (z_use f a) := by
  have e : ∀ g, g ≠ 41 → ∀ b c, av (z_use f a) g b c = av a g b c := fun g hg b c => vo_use hg
  unfold MN
  rw [e 27 (by decide), e 27 (by decide), e 27 (by decide), e 31 (by decide), e 32 (by decide)]
  exact h
theorem m_ctl {n k : Nat} {kind x : Int32} {R : St} {a : AS} (h : RR n none R a) (hn : n ≤ 12) (hk : k < 6) (hM : MJ n k a) (hJ : JS k a) (hN : MN k a) (hx : ¬ x < 0) (hop0 : hop kind = false) : Rn (F_X12_without (nI k) kind x R) (fun r D => r = 0 ∧ RRo n k D (z_ctl n k kind x a)) := by
  have hM2 := hM
  have hop := hop_no hop0
  obtain ⟨⟨t, h1⟩, h2, -⟩ := hM
  obtain ⟨j1, j2, j3, ⟨ml, j4, j4'⟩, ⟨ms, j5, j5'⟩, -, -, j7, j8, j9⟩ := hJ
  obtain ⟨n1, n2, n3, n4, n5⟩ := hN
  unfold F_X12_without F_X12_without_257 F_X12_without_107 F_X12_without_128 F_X12_without_143 F_X12_without_147 z_ctl
  have g6 := inb_nI hk (show 6 < 2 ^ 31 by decide)
  have ekk : (nI k).toNatClampNeg = k := nI_clamp (by omega)
  rw [ekk, rr_19 h hk, rr_20 h hk]
  have f19 : ∀ y : Int32, Rn (bd2 (F_X12_finish (nI k) (up R 119 0 0 k y)) (fun _ D => F_X12_without_274 D)) (fun r D => r = 0 ∧ RRo n k D (z_comp n k (av a 18 k 0 + 1) (sv 19 k 0 y a))) := fun y => by
    refine rn_bd (m_finish (wr_19 (x := y) h hk) hn hk) ?_
    rintro _ D ⟨-, hD⟩
    rw [av_o (by decide)] at hD
    exact rn_ret ⟨rfl, RRo_stay (t := t) hD h1⟩
  refine rn_if (fun e => ?_) (fun e0 => rn_if (fun e => absurd (Or.inl e) hop) (fun e1 => rn_if (fun e => absurd (by simp [e]) hop) (fun e2 => rn_if (fun e => absurd (by simp [e]) hop) (fun e3 => rn_if (fun e => absurd (by simp [e]) hop) (fun e4 => rn_if (fun e => absurd (by simp [e]) hop) (fun e5 => rn_if (fun e => absurd (by simp [e]) hop) (fun e6 => rn_if (fun e => ?_) (fun e7 => rn_if (fun e => ?_) (fun e8 => rn_if (fun e => ?_) (fun e9 => rn_if (fun e => absurd (by simp [e]) hop) (fun e10 => rn_if (fun e => absurd (by simp [e]) hop) (fun e11 => rn_if (fun e => absurd (by simp [e]) hop) (fun e12 => rn_if (fun e => ?_) (fun e13 => rn_if (fun e => ?_) (fun e14 => rn_if (fun e => ?_) (fun e15 => rn_if (fun e => ?_) (fun e16 => rn_if (fun e => ?_) (fun e17 => rn_if (fun e => ?_) (fun e18 => ?_)))))))))))))))))))
  · rw [if_pos e]
    refine rn_bd (m_finish h hn hk) ?_
    rintro _ D ⟨-, hD⟩
    refine rn_gd g6 (rn_st (rn_ret ⟨rfl, ?_⟩))
    refine RRo_stay (t := t) (wr_16 hD ?_) h1
    rw [vo_comp (by decide) (by decide) (by decide), hM2.2.2.2.2.2.2.2.2.2.2.2.1]
    decide
  · refine rn_pos e ?_
    rw [if_neg e0, if_pos e]
    have := m_jump (x := x) (t0 := 1) h hn hk h1
    rw [if_neg (by decide)] at this
    exact this
  · refine rn_neg e7 (rn_pos e (rn_gd g6 (rn_if (fun c => ?_) (fun c => ?_))))
    · rw [if_neg e0, if_neg e7, if_pos e, if_neg (Int32.not_le.mpr c)]
      have := m_jump (x := x) (t0 := 1) h hn hk h1
      rw [if_neg (by decide)] at this
      exact this
    · refine rn_neg (by rw [e]; decide) ?_
      rw [if_neg e0, if_neg e7, if_pos e, if_pos (Int32.not_lt.mp c)]
      have := m_jump (x := x) (t0 := 0) h hn hk h1
      rw [if_pos rfl] at this
      exact this
  · refine rn_neg e7 (rn_neg e8 (rn_pos e (rn_gd g6 (rn_if (fun c => ?_) (fun c => ?_)))))
    · rw [if_neg e0, if_neg e7, if_neg e8, if_pos e, if_pos c]
      have := m_jump (x := x) (t0 := 1) h hn hk h1
      rw [if_neg (by decide)] at this
      exact this
    · rw [if_neg e0, if_neg e7, if_neg e8, if_pos e, if_neg c]
      have := m_jump (x := x) (t0 := 0) h hn hk h1
      rw [if_pos rfl] at this
      exact this
  · rw [if_neg e0, if_neg e7, if_neg e8, if_neg e9, if_pos e]
    refine rn_bd (m_read h hk hM2 n1 n2) ?_
    rintro _ D ⟨-, hD⟩
    exact rn_ret ⟨rfl, hD⟩
  · rw [if_neg e0, if_neg e7, if_neg e8, if_neg e9, if_neg e13, if_pos e]
    refine rn_bd (m_print h hn hk hM2 n3 n4 j4 j4') ?_
    rintro _ D ⟨-, hD⟩
    exact rn_ret ⟨rfl, hD⟩
  · rw [if_neg e0, if_neg e7, if_neg e8, if_neg e9, if_neg e13, if_neg e14, if_pos e]
    exact m_asks h hk hM2 j5 j5' (fun D => rfl)
  · rw [if_neg e0, if_neg e7, if_neg e8, if_neg e9, if_neg e13, if_neg e14, if_neg e15, if_pos e]
    refine rn_bd (m_get h hn hk hM2 hx j7.1) ?_
    rintro _ D ⟨-, hD⟩
    exact rn_ret ⟨rfl, hD⟩
  · rw [if_neg e0, if_neg e7, if_neg e8, if_neg e9, if_neg e13, if_neg e14, if_neg e15, if_neg e16, if_pos e]
    refine rn_bd (m_give h hn hk hM2 hx j7 n5 j9) ?_
    rintro _ D ⟨-, hD⟩
    exact rn_ret ⟨rfl, hD⟩
  · rw [if_neg e0, if_neg e7, if_neg e8, if_neg e9, if_neg e13, if_neg e14, if_neg e15, if_neg e16, if_neg e17, if_pos e]
    exact rn_gd g6 (rn_st (f19 x))
  · rw [if_neg e0, if_neg e7, if_neg e8, if_neg e9, if_neg e13, if_neg e14, if_neg e15, if_neg e16, if_neg e17, if_neg e18]
    exact rn_gd g6 (rn_st (f19 _))
theorem mod256 {w : Int32} (h : ¬ w < 0) : ∃ m, m < 256 ∧ w - w / 256 * 256 = nI m := by
  obtain ⟨u, hu, rfl⟩ := nI_of h
  have e : nI u / 256 = nI (u / 256) := pk_div (d := 256) hu (by decide) (by decide)
  have e2 : nI (u / 256) * 256 = nI (u / 256 * 256) := by
    have := mulN0 (u / 256) 256
    exact this
  refine ⟨u % 256, Nat.mod_lt _ (by decide), ?_⟩
  rw [e, e2, nI_sub (Nat.div_mul_le_self u 256)]
  congr 1
  have := Nat.div_add_mod u 256
  omega
theorem m_exec {n k f : Nat} {w : Int32} {R : St} {a : AS} (h : RR n none R a) (hn : n ≤ 12) (hk : k < 6) (hM : MJ n k a) (hJ : JS k a) (hN : MN k a) (hf : f < n) : Rn (if w < 0 then F_X12_instruction_73 (nI k) (nI f) R else (if w / 256 ≤ 19 then (if w / 256 = 11 then F_X12_instruction_105 (nI k) (nI f) w (w / 256) R else (if w / 256 = 12 then F_X12_instruction_105 (nI k) (nI f) w (w / 256) R else F_X12_instruction_110 (nI k) (nI f) w (w / 256) 0 R)) else F_X12_instruction_73 (nI k) (nI f) R)) (fun r D => r = 0 ∧ RRo n k D (z_exec n k f w a)) := by
  have g6 := inb_nI hk (show 6 < 2 ^ 31 by decide)
  have ekk : (nI k).toNatClampNeg = k := nI_clamp (by omega)
  have eff : (nI f).toNatClampNeg = f := nI_clamp (by omega)
  have gf := inb_nI (show f < 12 by omega) (show 12 < 2 ^ 31 by decide)
  have hu : RR n none (up R 141 0 0 f (av a 5 0 0)) (z_use f a) := wr_use h hf
  obtain ⟨sgm, hs, hg⟩ := hJ.2.2.2.2.2.1
  have trap : Rn (F_X12_instruction_73 (nI k) (nI f) R) (fun r D => r = 0 ∧ RRo n k D (z_trap k (z_use f a))) := by
    unfold F_X12_instruction_73
    rw [ekk, eff, rr_5 h]
    exact rn_gd gf (rn_st (rn_gd g6 (rn_st (rn_ret ⟨rfl, m_trap hu (MJ_use hM)⟩))))
  refine rn_if (fun e => ?_) (fun e => ?_)
  · have ez : z_exec n k f w a = z_trap k (z_use f a) := by unfold z_exec; rw [if_pos e]
    rw [ez]; exact trap
  · obtain ⟨ad, had, ead⟩ := mod256 e
    by_cases hh : hop (w / 256) = true
    · have ez : z_exec n k f w a = z_op n k f (w / 256) (if w / 256 = 11 ∨ w / 256 = 12 then (w - w / 256 * 256) + av a 20 k 0 else w - w / 256 * 256) a := by
        unfold z_exec
        rw [if_neg e, if_pos hh]
      have byx : (w / 256 = 11 ∨ w / 256 = 12) → Rn (F_X12_instruction_137 (nI k) (nI f) w (w / 256) 1 R) (fun r D => r = 0 ∧ RRo n k D (z_exec n k f w a)) := by
        intro hor
        unfold F_X12_instruction_137
        rw [ez, if_pos hor, ead, ekk, rr_20 h hk]
        exact rn_neg (by decide) (rn_gd g6 (m_op h hn hk hM hf hs hg had rfl hh))
      have nox : ¬ (w / 256 = 11 ∨ w / 256 = 12) → Rn (F_X12_instruction_137 (nI k) (nI f) w (w / 256) 0 R) (fun r D => r = 0 ∧ RRo n k D (z_exec n k f w a)) := by
        intro hor
        unfold F_X12_instruction_137
        rw [ez, if_neg hor, ead]
        have := m_op (kind := w / 256) (x := 0) h hn hk hM hf hs hg had rfl hh
        rw [Int32.add_zero] at this
        exact rn_pos rfl this
      unfold F_X12_instruction_105 F_X12_instruction_110 F_X12_instruction_125
      rcases hop_cases hh with e1 | e1 | e1 | e1 | e1 | e1 | e1 | e1 | e1
      · have hno : ¬ (w / 256 = 11 ∨ w / 256 = 12) := by rw [e1]; decide
        have := nox hno
        rw [e1] at this ⊢
        exact rn_pos (by decide) (rn_neg (by decide) (rn_neg (by decide) (rn_neg (by decide) (rn_pos (by decide) this))))
      · have hno : ¬ (w / 256 = 11 ∨ w / 256 = 12) := by rw [e1]; decide
        have := nox hno
        rw [e1] at this ⊢
        exact rn_pos (by decide) (rn_neg (by decide) (rn_neg (by decide) (rn_neg (by decide) (rn_pos (by decide) this))))
      · have hno : ¬ (w / 256 = 11 ∨ w / 256 = 12) := by rw [e1]; decide
        have := nox hno
        rw [e1] at this ⊢
        exact rn_pos (by decide) (rn_neg (by decide) (rn_neg (by decide) (rn_neg (by decide) (rn_pos (by decide) this))))
      · have hno : ¬ (w / 256 = 11 ∨ w / 256 = 12) := by rw [e1]; decide
        have := nox hno
        rw [e1] at this ⊢
        exact rn_pos (by decide) (rn_neg (by decide) (rn_neg (by decide) (rn_neg (by decide) (rn_pos (by decide) this))))
      · have hno : ¬ (w / 256 = 11 ∨ w / 256 = 12) := by rw [e1]; decide
        have := nox hno
        rw [e1] at this ⊢
        exact rn_pos (by decide) (rn_neg (by decide) (rn_neg (by decide) (rn_neg (by decide) (rn_pos (by decide) this))))
      · have hno : ¬ (w / 256 = 11 ∨ w / 256 = 12) := by rw [e1]; decide
        have := nox hno
        rw [e1] at this ⊢
        exact rn_pos (by decide) (rn_neg (by decide) (rn_neg (by decide) (rn_neg (by decide) (rn_pos (by decide) this))))
      · have hno : ¬ (w / 256 = 11 ∨ w / 256 = 12) := by rw [e1]; decide
        have := nox hno
        rw [e1] at this ⊢
        exact rn_pos (by decide) (rn_neg (by decide) (rn_neg (by decide) (rn_neg (by decide) (rn_neg (by decide) (rn_pos rfl this)))))
      · have := byx (Or.inl e1)
        rw [e1] at this ⊢
        exact rn_pos (by decide) (rn_pos rfl (rn_neg (by decide) (rn_neg (by decide) (rn_neg (by decide) (rn_neg (by decide) this)))))
      · have := byx (Or.inr e1)
        rw [e1] at this ⊢
        exact rn_pos (by decide) (rn_neg (by decide) (rn_pos rfl (rn_neg (by decide) (rn_neg (by decide) (rn_neg (by decide) (rn_neg (by decide) this))))))
    · have hf0 : hop (w / 256) = false := by simpa using hh
      have hno := hop_no hf0
      refine rn_if (fun e19 => ?_) (fun e19 => ?_)
      · have ez : z_exec n k f w a = z_ctl n k (w / 256) (w - w / 256 * 256) (z_use f a) := by
          unfold z_exec
          rw [if_neg e, if_neg hh, if_pos e19]
        rw [ez]
        have ct : Rn (F_X12_instruction_125 (nI k) (nI f) w (w / 256) 0 R) (fun r D => r = 0 ∧ RRo n k D (z_ctl n k (w / 256) (w - w / 256 * 256) (z_use f a))) := by
          unfold F_X12_instruction_125
          rw [eff, rr_5 h]
          refine rn_neg (fun y => hno (by simp [y])) (rn_pos rfl (rn_gd gf (rn_st ?_)))
          refine rn_bd (m_ctl hu hn hk (MJ_use hM) (JS_use hJ) (MN_use hN) (by rw [ead]; exact nI_pos (by omega)) hf0) ?_
          rintro _ D ⟨-, hD⟩
          exact rn_ret ⟨rfl, hD⟩
        unfold F_X12_instruction_110
        refine rn_neg (fun y => hno (by simp [y])) (rn_neg (fun y => hno (by simp [y])) (rn_if (fun _ => ct) (fun e1 => rn_if (fun e6 => ?_) (fun _ => ct))))
        exfalso
        have : hop (w / 256) = true := by
          unfold hop
          simp [e1, e6]
        exact hh this
      · have ez : z_exec n k f w a = z_trap k (z_use f a) := by
          unfold z_exec
          rw [if_neg e, if_neg hh, if_neg e19]
        rw [ez]; exact trap
theorem m_instr {n k : Nat} {R : St} {a : AS} (h : RR n none R a) (hn : n ≤ 12) (hk : k < 6) (hM : MJ n k a) (hJ : JS k a) (hN : MN k a) (c : ¬ av a 18 k 0 < 0 ∧ ¬ av a 22 k 0 * 16 ≤ av a 18 k 0) : Rn (F_X12_instruction (nI k) R) (fun r D => r = 0 ∧ RRo n k D (z_att n k a)) := by
  have g6 := inb_nI hk (show 6 < 2 ^ 31 by decide)
  have ekk : (nI k).toNatClampNeg = k := nI_clamp (by omega)
  obtain ⟨sgm, hs, hg⟩ := hJ.2.2.2.2.2.1
  obtain ⟨m, em, hm⟩ := has_lt hs hg c
  have hm128 : m < 128 := by omega
  obtain ⟨-, q2, q3⟩ := fmd16 m hm128
  unfold F_X12_instruction z_att
  rw [if_pos c, ekk, rr_18 h hk]
  refine rn_gd g6 (rn_bdE (m_frameOf h hn (hM.2.2.2.2.2.2.2.2.2.2.2.2 (av a 18 k 0 / 16))) ?_)
  cases hz : z_find n k (av a 18 k 0 / 16) a with
  | none =>
    rw [rr_18 h hk]
    refine rn_pos rfl (rn_bd (m_ask h hk hM) ?_)
    rintro _ D ⟨-, hD⟩
    exact rn_ret ⟨rfl, hD⟩
  | some f =>
    have hf := find_lt hz
    have hoi : oI (some f) = nI f := rfl
    rw [hoi, rr_18 h hk, em, q2, idx16, show (nI (16 * f + m % 16)).toNatClampNeg = 16 * f + m % 16 from nI_clamp (by omega), rr_38 h hf (by omega)]
    refine rn_neg (nI_nm (by omega) (by decide)) (rn_gd (inb_nI (by omega) (by decide)) ?_)
    simp only
    rw [show (nI m).toNatClampNeg = m from nI_clamp (by omega)]
    exact m_exec h hn hk hM hJ hN hf
theorem m_job {n k : Nat} {R : St} {a : AS} (h : RR n none R a) (hn : n ≤ 12) (hk : k < 6) (hM : MJ n k a) (hJ : JS k a) (hN : MN k a) : Rn (F_X12_jobStep (nI k) R) (fun r D => r = 0 ∧ RRo n k D (z_job n k a)) := by
  have g6 := inb_nI hk (show 6 < 2 ^ 31 by decide)
  have ekk : (nI k).toNatClampNeg = k := nI_clamp (by omega)
  have h14 := hM.2.2.2.2.2.2.2.2.2.2.2.1
  have hJ2 := hJ
  obtain ⟨j1, j2, j3, j4, ⟨ms, j5, j5'⟩, ⟨sgm, hs, hg⟩, ⟨o, jo, jo'⟩, j7, j8, j9⟩ := hJ
  have e116 : R 116 0 0 k = nI o := by
    have := (h.2.2.2.2.2.1 k hk).1
    rw [h14, if_neg (by decide), jo] at this
    exact this
  unfold F_X12_jobStep F_X12_jobStep_88 F_X12_jobStep_103 z_job
  rw [ekk, e116, rr_24 h hk, rr_17 h hk, rr_21 h hk, rr_18 h hk, rr_22 h hk, jo]
  refine rn_gd g6 (rn_if (fun e => ?_) (fun e => ?_))
  · have o0 : o = 0 := Classical.byContradiction fun hh => nI_nle (by omega) (by omega) e
    rw [if_pos (show nI o = 0 by rw [o0]; rfl)]
    refine rn_if (fun e2 => ?_) (fun e2 => ?_)
    · rw [if_pos e2]
      refine rn_if (fun e3 => ?_) (fun e3 => ?_)
      · rw [if_pos e3]
        have e16 : (16 : Int32) * av a 22 k 0 = av a 22 k 0 * 16 := Int32.mul_comm _ _
        rw [e16]
        have tr : ¬ (¬ av a 18 k 0 < 0 ∧ ¬ av a 22 k 0 * 16 ≤ av a 18 k 0) → Rn (gd (inb (nI k) 6) (st (up R 116 0 0 k (4 : Int32)) (fun D2 => some (0, D2)))) (fun r D => r = 0 ∧ RRo n k D (z_att n k a)) := by
          intro hno
          unfold z_att
          rw [if_neg hno]
          exact rn_gd g6 (rn_st (rn_ret ⟨rfl, m_trap h hM⟩))
        refine rn_if (fun e4 => tr (fun y => y.1 e4)) (fun e4 => rn_if (fun e5 => ?_) (fun e5 => tr (fun y => y.2 (Int32.not_lt.mp e5))))
        refine rn_bd (m_instr h hn hk hM hJ2 hN ⟨e4, Int32.not_le.mpr e5⟩) ?_
        rintro _ D ⟨-, hD⟩
        exact rn_ret ⟨rfl, hD⟩
      · rw [if_neg e3]
        exact rn_st (rn_ret ⟨rfl, m_trap h hM⟩)
    · rw [if_neg e2]
      exact rn_st (rn_ret ⟨rfl, m_trap h hM⟩)
  · rw [if_neg (fun y => e (by rw [y]; decide))]
    refine rn_bd (m_end h hn hk hM j5 j5' jo jo' (GW_ov j7 hk j8 j9) hN.2.2.2.2) ?_
    rintro _ D ⟨-, hD⟩
    exact rn_ret ⟨rfl, hD⟩
