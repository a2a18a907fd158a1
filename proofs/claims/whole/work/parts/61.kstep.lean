/-! The class: an instruction, a job's step -/
def hop (x : Int32) : Bool := (!decide (x < 1) && decide (x ≤ 6)) || (!decide (x < 10) && !decide (12 < x))
theorem k_hop {n : Nat} {x : Int32} {C : St} : F_X6_hasOperand n x C = some (if hop x = true then 1 else 0, C) := by
  unfold F_X6_hasOperand F_X6_hasOperand_11 F_X6_hasOperand_23 F_X6_hasOperand_27 F_X6_hasOperand_28 hop gd isb
  by_cases c1 : x < 1
  · by_cases c2 : x < 10
    · simp [c1, c2]
    · by_cases c3 : 12 < x
      · simp [c1, c2, c3]
      · simp [c1, c2, c3]
  · by_cases c4 : x ≤ 6
    · simp [c1, c4]
    · by_cases c2 : x < 10
      · simp [c1, c2, c4]
      · by_cases c3 : 12 < x
        · simp [c1, c2, c3, c4]
        · simp [c1, c2, c3, c4]
theorem hop_no {x : Int32} (h : hop x = false) : ¬ (x = 1 ∨ x = 2 ∨ x = 3 ∨ x = 4 ∨ x = 5 ∨ x = 6 ∨ x = 10 ∨ x = 11 ∨ x = 12) := by
  rintro (rfl | rfl | rfl | rfl | rfl | rfl | rfl | rfl | rfl) <;> exact absurd h (by decide)
noncomputable def z_exec (n k f : Nat) (w : Int32) (a : AS) : AS :=
  if w < 0 then z_trap k (z_use f a)
  else if hop (w / 256) = true then z_op n k f (w / 256) (if w / 256 = 11 ∨ w / 256 = 12 then (w - w / 256 * 256) + av a 20 k 0 else w - w / 256 * 256) a
  else if w / 256 ≤ 19 then z_ctl n k (w / 256) (w - w / 256 * 256) (z_use f a)
  else z_trap k (z_use f a)
noncomputable def z_att (n k : Nat) (a : AS) : AS :=
  if ¬ av a 18 k 0 < 0 ∧ ¬ av a 22 k 0 * 16 ≤ av a 18 k 0 then (match z_find n k (av a 18 k 0 / 16) a with
    | none => z_ask k (av a 18 k 0 / 16) a
    | some f => z_exec n k f (av a 38 f ((av a 18 k 0).toNatClampNeg % 16)) a)
  else z_trap k a
theorem k_a135 {n k f : Nat} {w : Int32} {C : St} {a : AS} (h : RC n C a) (hn : n ≤ 12) (hk : k < 6) (hf : f < n) (hJ : JS k a) (hw : w < 0 ∨ hop (w / 256) = false) : Rn (F_X6_attempt_135 n (nI k) (nI f) w (w / 256) (w - w / 256 * 256) C) (fun r D => r = 0 ∧ RC n D (z_exec n k f w a)) := by
  unfold F_X6_attempt_135 F_X6_attempt_158 F_X6_attempt_175 z_exec
  have g6 := inb_nI hk (show 6 < 2 ^ 31 by decide)
  rw [rc_5 h, show (nI f).toNatClampNeg = f from nI_clamp (by omega), show (nI k).toNatClampNeg = k from nI_clamp (by omega)]
  have hu : RC n (up C 14 f 6 0 (av a 5 0 0)) (z_use f a) := wc_41 h hf
  have trap : Rn (gd (inb (nI k) 6) (st (up (up C 14 f 6 0 (av a 5 0 0)) 6 k 8 0 (4 : Int32)) (fun D2 => some (0, D2)))) (fun r D => r = 0 ∧ RC n D (z_trap k (z_use f a))) := rn_gd g6 (rn_st (rn_ret ⟨rfl, wc_16 hu hk⟩))
  refine rn_gd (inb_nI hf (by omega)) (rn_st (rn_if (fun e => ?_) (fun e => ?_)))
  · rw [if_pos e]
    exact trap
  · have hh : hop (w / 256) = false := hw.resolve_left e
    rw [if_neg e, if_neg (show ¬ hop (w / 256) = true by rw [hh]; decide)]
    refine rn_if (fun e2 => ?_) (fun e2 => ?_)
    · rw [if_pos e2]
      refine rn_bd (k_ctl hu hn hk (JS_use hJ) (hop_no hh)) ?_
      rintro _ D ⟨-, hD⟩
      exact rn_ret ⟨rfl, hD⟩
    · rw [if_neg e2]
      exact trap
theorem k_att {n k : Nat} {C : St} {a : AS} (h : RC n C a) (hn : n ≤ 12) (hk : k < 6) (hJ : JS k a) : Rn (F_X6_attempt n (nI k) C) (fun r D => r = 0 ∧ RC n D (z_att n k a)) := by
  unfold F_X6_attempt z_att
  have g6 := inb_nI hk (show 6 < 2 ^ 31 by decide)
  have ekk : (nI k).toNatClampNeg = k := nI_clamp (by omega)
  obtain ⟨sgm, hs, hg⟩ := hJ.2.2.2.2.2.1
  rw [ekk, rc_18 h hk]
  refine rn_gd g6 (rn_bdE (k_has h hk) ?_)
  rw [rc_18 h hk]
  by_cases c : ¬ av a 18 k 0 < 0 ∧ ¬ av a 22 k 0 * 16 ≤ av a 18 k 0
  · rw [if_pos c, if_pos c]
    obtain ⟨m, em, hm⟩ := has_lt hs hg c
    refine rn_neg (by decide) (rn_bdE (k_find h hn hk) ?_)
    cases hz : z_find n k (av a 18 k 0 / 16) a with
    | none =>
      refine rn_pos (show oI none < 0 by decide) (rn_bd (k_ask h hk hJ.1) ?_)
      rintro _ D ⟨-, hD⟩
      exact rn_ret ⟨rfl, hD⟩
    | some f =>
      have hf := find_lt hz
      have hoi : oI (some f) = nI f := rfl
      rw [hoi, rc_18 h hk, em]
      simp only
      rw [show (nI m).toNatClampNeg = m from nI_clamp (by omega)]
      refine rn_neg (nI_pos (by omega)) (rn_gd (inb_nI hf (by omega)) (rn_bdE (k_read h hf (by omega) (by omega)) ?_))
      generalize av a 38 f (m % 16) = w
      refine rn_if (fun e => k_a135 h hn hk hf hJ (Or.inl e)) (fun e => rn_bdE k_hop ?_)
      by_cases e2 : hop (w / 256) = true
      · rw [if_pos e2]
        refine rn_neg (by decide) ?_
        unfold z_exec F_X6_attempt_102 F_X6_attempt_107 F_X6_attempt_131
        rw [if_neg e, if_pos e2, ekk, rc_20 h hk]
        have byx : ∀ x : Int32, Rn (bd2 (F_X6_attemptOperand n (nI k) (nI f) (w / 256) x C) (fun r1 D2 => some (0, D2))) (fun r D => r = 0 ∧ RC n D (z_op n k f (w / 256) x a)) := fun x => by
          refine rn_bd (k_op h hn hk hf hs hg hJ.1) ?_
          rintro _ D ⟨-, hD⟩
          exact rn_ret ⟨rfl, hD⟩
        refine rn_if (fun e3 => ?_) (fun e3 => rn_if (fun e4 => ?_) (fun e4 => ?_))
        · rw [if_pos (show w / 256 = 11 ∨ w / 256 = 12 from Or.inl e3)]
          exact rn_neg (by decide) (rn_gd g6 (byx _))
        · rw [if_pos (show w / 256 = 11 ∨ w / 256 = 12 from Or.inr e4)]
          exact rn_neg (by decide) (rn_gd g6 (byx _))
        · rw [if_neg (show ¬ (w / 256 = 11 ∨ w / 256 = 12) from fun o => o.elim e3 e4)]
          exact rn_pos rfl (byx _)
      · have e2 : hop (w / 256) = false := by simpa using e2
        rw [if_neg (show ¬ hop (w / 256) = true by rw [e2]; decide)]
        exact rn_pos rfl (k_a135 h hn hk hf hJ (Or.inr e2))
  · rw [if_neg c, if_neg c]
    exact rn_pos rfl (rn_st (rn_ret ⟨rfl, wc_16 h hk⟩))
noncomputable def z_job (n k : Nat) (a : AS) : AS :=
  if av a 16 k 0 = 0 then (if av a 24 k 0 = 0 then (if av a 17 k 0 < av a 21 k 0 then z_att n k a else sv 16 k 0 2 a) else sv 16 k 0 5 a) else z_end n k a
theorem k_job {n k : Nat} {C : St} {a : AS} (h : RC n C a) (hn : n ≤ 12) (hk : k < 6) (hJ : JS k a) : Rn (F_X6_step n (nI k) C) (fun r D => r = 0 ∧ RC n D (z_job n k a)) := by
  unfold F_X6_step F_X6_step_54 z_job
  have g6 := inb_nI hk (show 6 < 2 ^ 31 by decide)
  rw [show (nI k).toNatClampNeg = k from nI_clamp (by omega), rc_16 h hk, rc_24 h hk, rc_17 h hk, rc_21 h hk]
  refine rn_gd g6 (rn_if (fun e => ?_) (fun e => ?_))
  · rw [if_pos e]
    refine rn_if (fun e2 => ?_) (fun e2 => ?_)
    · rw [if_pos e2]
      refine rn_if (fun e3 => ?_) (fun e3 => ?_)
      · rw [if_pos e3]
        refine rn_bd (k_att h hn hk hJ) ?_
        rintro _ D ⟨-, hD⟩
        exact rn_ret ⟨rfl, hD⟩
      · rw [if_neg e3]
        exact rn_st (rn_ret ⟨rfl, wc_16 h hk⟩)
    · rw [if_neg e2]
      exact rn_st (rn_ret ⟨rfl, wc_16 h hk⟩)
  · rw [if_neg e]
    obtain ⟨j1, j2, j3, j4, ⟨ms, j5, j5'⟩, -, ⟨o, jo, jo'⟩, j7, j8, j9⟩ := hJ
    refine rn_bd (k_end h hn hk j5 j5' jo jo' (fun _ => GW_ov j7 hk j8 j9)) ?_
    rintro _ D ⟨-, hD⟩
    exact rn_ret ⟨rfl, hD⟩
