/-! The reference: the questions -/
theorem m_process {n : Nat} {x1 x2 : Int32} {R : St} {a : AS} (h : RR n none R a) (hN : (al a 0).Nodup) (hb : ∀ p ∈ al a 0, p < 10) (hc : ∀ p, 6 ≤ p → p < 10 → av a 10 p 0 = if sg a p = -1 then 0 else if sg a p = 1 ∨ sg a p = 3 ∨ sg a p = 5 then 8 else 7) : F_X12_process x1 x2 R = some (z_process x1 x2 a, R) := by
  refine rn_eq ?_
  unfold F_X12_process F_X12_process_19 F_X12_process_105 F_X12_process_112
  by_cases c : x1 < 0 ∨ (10 : Int32) ≤ x1
  · have hz : z_process x1 x2 a = -1 := if_pos c
    rw [hz]
    refine rn_if (fun _ => rn_ret ⟨rfl, rfl⟩) (fun e => rn_pos (c.resolve_left e) (rn_ret ⟨rfl, rfl⟩))
  · rw [not_or] at c
    obtain ⟨p, hp, rfl⟩ := lt10 c.1 c.2
    have hz : z_process (nI p) x2 a = if x2 = 0 then z_place p (al a 0) else if x2 = 1 then av a 10 p 0 else -1 := by
      unfold z_process
      rw [if_neg (fun o => o.elim c.1 c.2), show (nI p).toNatClampNeg = p from nI_clamp (by omega)]
    refine rn_neg c.1 (rn_neg c.2 ?_)
    by_cases e0 : x2 = 0
    · rw [if_pos e0] at hz
      rw [hz]
      refine rn_neg (by rw [e0]; decide) (rn_pos (by rw [e0]; decide) (rn_pos e0 ?_))
      have r6 : R 50 0 6 0 = nI (al a 0).length := h.2.1.1.1
      have l10 := len10 hN hb
      have key : ∀ fu i x3, (al a 0).length < fu + i → i ≤ (al a 0).length → (x3 = if ∃ j, j < i ∧ (al a 0)[j]? = some p then nI ((al a 0).idxOf p) else -1) → Rn (F_X12_process_30 fu (nI p) x3 (nI i) R) (fun r D => r = z_place p (al a 0) ∧ D = R) := by
        intro fu
        induction fu with
        | zero => intro i x3 y1 y2; omega
        | succ fu ih =>
          intro i x3 y1 y2 hx
          unfold F_X12_process_30 F_X12_process_53
          rw [r6]
          by_cases ei : i = (al a 0).length
          · refine rn_pos (nI_le (by omega) (by omega)) (rn_ret ⟨?_, rfl⟩)
            rw [hx]
            unfold z_place
            by_cases cm : p ∈ al a 0
            · rw [if_pos cm, if_pos]
              obtain ⟨j, hj, ej⟩ := List.getElem_of_mem cm
              exact ⟨j, by omega, by rw [List.getElem?_eq_getElem hj, ej]⟩
            · rw [if_neg cm, if_neg]
              rintro ⟨j, -, ej⟩
              exact cm (List.mem_of_getElem? ej)
          · have hi : i < (al a 0).length := by omega
            have hg : (al a 0)[i]? = some (al a 0)[i] := List.getElem?_eq_getElem hi
            have hq := hb _ (List.getElem_mem hi)
            have r108 : R 108 0 0 i = nI (al a 0)[i] := h.2.1.1.2 i _ hg
            rw [show (nI i).toNatClampNeg = i from nI_clamp (by omega), r108, nI_1]
            refine rn_neg (nI_ge hi (by omega)) (rn_gd (inb_nI (by omega) (by decide)) (rn_if (fun e => ih (i + 1) _ (by omega) (by omega) ?_) (fun e => ih (i + 1) _ (by omega) (by omega) ?_)))
            · have ep : (al a 0)[i] = p := (nI_eq (by omega) (by omega)).mp e
              rw [if_pos ⟨i, by omega, by rw [hg, ep]⟩, ← ep, hN.idxOf_getElem i hi]
            · rw [hx]
              by_cases cj : ∃ j, j < i ∧ (al a 0)[j]? = some p
              · rw [if_pos cj, if_pos]
                obtain ⟨j, y1, y2⟩ := cj
                exact ⟨j, by omega, y2⟩
              · rw [if_neg cj, if_neg]
                rintro ⟨j, z1, z2⟩
                by_cases ej : j = i
                · subst ej
                  rw [hg] at z2
                  injection z2 with z2
                  exact e (by rw [z2])
                · exact cj ⟨j, by omega, z2⟩
      refine key 1000 0 (-1) (by omega) (by omega) ?_
      rw [if_neg]
      rintro ⟨j, hj, -⟩
      omega
    · rw [if_neg e0] at hz
      by_cases e1 : x2 = 1
      · rw [if_pos e1] at hz
        rw [hz, show (nI p).toNatClampNeg = p from nI_clamp (by omega)]
        refine rn_neg (by rw [e1]; decide) (rn_pos (by rw [e1]; decide) (rn_neg e0 ?_))
        by_cases c6 : p < 6
        · rw [rr_10 h c6]
          exact rn_neg (nI_ge (b := 6) c6 (by decide)) (rn_gd (inb_nI hp (by decide)) (rn_ret ⟨rfl, rfl⟩))
        · have r111 : R 111 0 0 p = sg a p := h.2.2.1 p hp
          rw [r111, hc p (by omega) hp]
          refine rn_pos (nI_le (a := 6) (by omega) (by omega)) (rn_gd (inb_nI hp (by decide)) (rn_if (fun y => ?_) (fun y => rn_if (fun y1 => ?_) (fun y1 => rn_if (fun y3 => ?_) (fun y3 => rn_if (fun y5 => ?_) (fun y5 => ?_))))))
          · rw [if_pos y]; exact rn_ret ⟨rfl, rfl⟩
          · rw [if_neg y, if_pos (Or.inl y1)]; exact rn_ret ⟨rfl, rfl⟩
          · rw [if_neg y, if_pos (Or.inr (Or.inl y3))]; exact rn_ret ⟨rfl, rfl⟩
          · rw [if_neg y, if_pos (Or.inr (Or.inr y5))]; exact rn_ret ⟨rfl, rfl⟩
          · rw [if_neg y, if_neg (fun o => o.elim y1 (fun o => o.elim y3 y5))]; exact rn_ret ⟨rfl, rfl⟩
      · rw [if_neg e1] at hz
        rw [hz]
        refine rn_if (fun _ => rn_ret ⟨rfl, rfl⟩) (fun y => rn_neg ?_ (rn_ret ⟨rfl, rfl⟩))
        intro y2
        obtain ⟨j, hj, rfl⟩ := nI_of y
        have : j ≤ 1 := (nI_leI (b := 1) hj (by decide)).mp y2
        have hj2 : j = 0 ∨ j = 1 := by omega
        rcases hj2 with rfl | rfl
        · exact e0 rfl
        · exact e1 rfl
theorem m_jobq {n : Nat} {x1 x2 : Int32} {R : St} {a : AS} (h : RR n none R a) : F_X12_job x1 x2 R = some (z_jobq x1 x2 a, R) := by
  refine rn_eq ?_
  unfold F_X12_job F_X12_job_10 F_X12_job_122 F_X12_job_171
  by_cases c : x1 < 0 ∨ (6 : Int32) ≤ x1
  · have hz : z_jobq x1 x2 a = -1 := if_pos c
    rw [hz]
    refine rn_if (fun _ => rn_ret ⟨rfl, rfl⟩) (fun e => rn_neg (Int32.not_lt.mpr (c.resolve_left e)) (rn_ret ⟨rfl, rfl⟩))
  · rw [not_or] at c
    obtain ⟨k, hk, rfl⟩ := lt6 c.1 c.2
    have ekk : (nI k).toNatClampNeg = k := nI_clamp (by omega)
    have hz : z_jobq (nI k) x2 a = z_tell k x2 a := by
      unfold z_jobq
      rw [if_neg (fun o => o.elim c.1 c.2), ekk]
    have g6 := inb_nI hk (show 6 < 2 ^ 31 by decide)
    rw [hz]
    refine rn_neg c.1 (rn_pos (Int32.not_le.mp c.2) ?_)
    have e115 : R 115 0 0 k = if av a 14 k 0 = 3 then av a 16 k 0 else 0 := (h.2.2.2.2.2.1 k hk).2
    rw [ekk, rr_14 h hk, e115, rr_17 h hk, rr_18 h hk, rr_19 h hk, rr_20 h hk, rr_32 h hk, rr_36 h hk, rr_34 h hk, rr_24 h hk]
    unfold z_tell
    have hh : ∀ r (x : Int32), x2 = x → r < 3 → x = nI (6 + r) → Rn (gd (inb ((3 : Int32) * nI k + x2 - 6) 18) (some (R 127 0 0 ((3 : Int32) * nI k + x2 - 6).toNatClampNeg, R))) (fun y D => y = av a 27 k r ∧ D = R) := by
      intro r x e hr hx
      have ei : (3 : Int32) * nI k + x2 - 6 = nI (3 * k + r) := by
        rw [e, hx, show (3 : Int32) * nI k + nI (6 + r) = nI (3 * k + (6 + r)) from mulN 3 k (6 + r)]
        have : nI (3 * k + (6 + r)) - nI 6 = nI (3 * k + (6 + r) - 6) := nI_sub (by omega)
        rw [show (6 : Int32) = nI 6 from rfl, this]
        congr 1
        omega
      rw [ei, show (nI (3 * k + r)).toNatClampNeg = 3 * k + r from nI_clamp (by omega), rr_27 h hk hr]
      exact rn_gd (inb_nI (by omega) (by decide)) (rn_ret ⟨rfl, rfl⟩)
    refine rn_if (fun e => ?_) (fun e0 => ?_)
    · rw [if_pos e]; exact rn_gd g6 (rn_ret ⟨rfl, rfl⟩)
    rw [if_neg e0]
    refine rn_if (fun e => ?_) (fun e0 => ?_)
    · rw [if_pos e]; exact rn_gd g6 (rn_ret ⟨rfl, rfl⟩)
    rw [if_neg e0]
    refine rn_if (fun e => ?_) (fun e0 => ?_)
    · rw [if_pos e]; exact rn_gd g6 (rn_ret ⟨rfl, rfl⟩)
    rw [if_neg e0]
    refine rn_if (fun e => ?_) (fun e0 => ?_)
    · rw [if_pos e]; exact rn_gd g6 (rn_ret ⟨rfl, rfl⟩)
    rw [if_neg e0]
    refine rn_if (fun e => ?_) (fun e0 => ?_)
    · rw [if_pos e]; exact rn_gd g6 (rn_ret ⟨rfl, rfl⟩)
    rw [if_neg e0]
    refine rn_if (fun e => ?_) (fun e0 => ?_)
    · rw [if_pos e]; exact rn_gd g6 (rn_ret ⟨rfl, rfl⟩)
    rw [if_neg e0]
    refine rn_if (fun e => ?_) (fun e0 => ?_)
    · rw [if_pos e]; exact hh 0 6 e (by decide) rfl
    rw [if_neg e0]
    refine rn_if (fun e => ?_) (fun e0 => ?_)
    · rw [if_pos e]; exact hh 1 7 e (by decide) rfl
    rw [if_neg e0]
    refine rn_if (fun e => ?_) (fun e0 => ?_)
    · rw [if_pos e]; exact hh 2 8 e (by decide) rfl
    rw [if_neg e0]
    refine rn_if (fun e => ?_) (fun e0 => ?_)
    · rw [if_pos e]; exact rn_gd g6 (rn_ret ⟨rfl, rfl⟩)
    rw [if_neg e0]
    refine rn_if (fun e => ?_) (fun e0 => ?_)
    · rw [if_pos e]; exact rn_gd g6 (rn_ret ⟨rfl, rfl⟩)
    rw [if_neg e0]
    refine rn_if (fun e => ?_) (fun e0 => ?_)
    · rw [if_pos e]; exact rn_gd g6 (rn_ret ⟨rfl, rfl⟩)
    rw [if_neg e0]
    refine rn_if (fun e => ?_) (fun e0 => ?_)
    · rw [if_pos e]
      unfold z_bit
      refine rn_gd g6 (rn_if (fun y => ?_) (fun y => ?_))
      · rw [if_pos y]; exact rn_ret ⟨rfl, rfl⟩
      · rw [if_neg y]; exact rn_ret ⟨rfl, rfl⟩
    rw [if_neg e0]
    exact rn_ret ⟨rfl, rfl⟩
theorem m_paper {n pc : Nat} {x1 x2 : Int32} {R : St} {a : AS} (h : RR n none R a) (hP : PQ pc a) : F_X12_paper x1 x2 R = some (z_paper x1 x2 a, R) := by
  refine rn_eq ?_
  unfold F_X12_paper F_X12_paper_24 F_X12_paper_40
  by_cases c : x1 < 0 ∨ (6 : Int32) ≤ x1
  · have hz : z_paper x1 x2 a = 0 := if_pos c
    rw [hz]
    refine rn_if (fun _ => rn_ret ⟨rfl, rfl⟩) (fun e => rn_pos (c.resolve_left e) (rn_ret ⟨rfl, rfl⟩))
  · rw [not_or] at c
    obtain ⟨k, hk, rfl⟩ := lt6 c.1 c.2
    have ekk : (nI k).toNatClampNeg = k := nI_clamp (by omega)
    have hz : z_paper (nI k) x2 a = if x2 < 0 ∨ ¬ x2 < av a 36 k 0 then 0 else av a 35 k x2.toNatClampNeg := by
      unfold z_paper
      rw [if_neg (fun o => o.elim c.1 c.2), ekk]
    obtain ⟨p1, p2, p3⟩ := hP
    obtain ⟨q1, q2, q3, q4⟩ := p3 k hk
    rw [hz, ekk, rr_36 h hk]
    refine rn_neg c.1 (rn_neg c.2 (rn_if (fun e => ?_) (fun e => rn_gd (inb_nI hk (by decide)) (rn_if (fun e2 => ?_) (fun e2 => ?_)))))
    · rw [if_pos (Or.inl e)]; exact rn_ret ⟨rfl, rfl⟩
    · rw [if_neg (fun o => o.elim e (fun y => y e2))]
      obtain ⟨i, hi, rfl⟩ := nI_of e
      rw [q2] at e2
      have hi2 : i < nv a 36 k 0 := by
        have hlt : nv a 36 k 0 < 2 ^ 31 := by omega
        generalize nv a 36 k 0 = u at *
        exact (nI_ltI hi hlt).mp e2
      rw [show (5000 : Int32) * nI k + nI i = nI (5000 * k + i) from mulN 5000 k i, show (nI (5000 * k + i)).toNatClampNeg = 5000 * k + i from nI_clamp (by omega), rr_35 h hk (by omega), show (nI i).toNatClampNeg = i from nI_clamp hi]
      exact rn_gd (inb_nI (by omega) (by decide)) (rn_ret ⟨rfl, rfl⟩)
    · rw [if_pos (Or.inr e2)]; exact rn_ret ⟨rfl, rfl⟩
/-- what the reference's word wants -/
def WR (n : Nat) (a : AS) : Prop := (∀ k, k < 6 → (av a 14 k 0 = 0 ∨ av a 14 k 0 = 1 ∨ av a 14 k 0 = 2 ∨ av a 14 k 0 = 3) ∧ ∀ s f g, f < n → g < n → z_mt k s a f = true → z_mt k s a g = true → f = g) ∧ ∀ k, k < 6 → av a 45 0 0 = 1 → av a 49 0 0 = nI k → av a 23 k 0 = av a 51 0 0 → ¬ av a 14 k 0 = 3 → av a 14 k 0 = 2 ∧ z_find n k (av a 50 0 0) a = none ∧ av a 12 0 0 ≠ 0
theorem m_word {n : Nat} {x1 x2 : Int32} {R : St} {a : AS} (h : RR n none R a) (hn : n ≤ 12) (hW : WQ n a) (hV : WR n a) : F_X12_word x1 x2 R = some (z_word n x1 x2 a, R) := by
  refine rn_eq ?_
  unfold F_X12_word F_X12_word_47
  by_cases c : x1 < 0 ∨ (6 : Int32) ≤ x1
  · have hz : z_word n x1 x2 a = 0 := if_pos c
    rw [hz]
    refine rn_if (fun _ => rn_ret ⟨rfl, rfl⟩) (fun e => rn_pos (c.resolve_left e) (rn_ret ⟨rfl, rfl⟩))
  · rw [not_or] at c
    obtain ⟨k, hk, rfl⟩ := lt6 c.1 c.2
    have ekk : (nI k).toNatClampNeg = k := nI_clamp (by omega)
    have g6 := inb_nI hk (show 6 < 2 ^ 31 by decide)
    obtain ⟨v1, v2⟩ := hV.1 k hk
    have hz : z_word n (nI k) x2 a = if av a 14 k 0 = 0 ∨ av a 14 k 0 = 3 ∨ ¬ (¬ x2 < 0 ∧ ¬ av a 22 k 0 * 16 ≤ x2) then 0 else if z_holder n k (x2 / 16) a < 0 then av a 37 k x2.toNatClampNeg else av a 38 (z_holder n k (x2 / 16) a).toNatClampNeg (x2.toNatClampNeg % 16) := by
      unfold z_word
      rw [if_neg (fun o => o.elim c.1 c.2), ekk]
    rw [hz, ekk, rr_14 h hk]
    refine rn_neg c.1 (rn_neg c.2 (rn_gd g6 ?_))
    have body : ¬ av a 14 k 0 = 0 → ¬ av a 14 k 0 = 3 → Rn (F_X12_word_30 (nI k) x2 R) (fun r D => r = (if av a 14 k 0 = 0 ∨ av a 14 k 0 = 3 ∨ ¬ (¬ x2 < 0 ∧ ¬ av a 22 k 0 * 16 ≤ x2) then 0 else if z_holder n k (x2 / 16) a < 0 then av a 37 k x2.toNatClampNeg else av a 38 (z_holder n k (x2 / 16) a).toNatClampNeg (x2.toNatClampNeg % 16)) ∧ D = R) := by
      intro n0 n3
      unfold F_X12_word_30 F_X12_word_47
      have e16 : (16 : Int32) * av a 22 k 0 = av a 22 k 0 * 16 := Int32.mul_comm _ _
      rw [ekk, rr_22 h hk, e16]
      by_cases c3 : ¬ x2 < 0 ∧ ¬ av a 22 k 0 * 16 ≤ x2
      · rw [if_neg (show ¬ (av a 14 k 0 = 0 ∨ av a 14 k 0 = 3 ∨ ¬ (¬ x2 < 0 ∧ ¬ av a 22 k 0 * 16 ≤ x2)) from fun o => o.elim n0 (fun o => o.elim n3 (fun y => y c3)))]
        obtain ⟨g, hg, hg8⟩ := hW.2 k hk
        obtain ⟨m, rfl, hm⟩ := has_lt hg hg8 c3
        have hm128 : m < 128 := by omega
        obtain ⟨-, q2, q3⟩ := fmd16 m hm128
        refine rn_neg c3.1 (rn_gd g6 (rn_pos (Int32.not_le.mp c3.2) (rn_bdE (m_frameOf h hn (v2 (nI m / 16))) ?_)))
        have emm : (nI m).toNatClampNeg = m := nI_clamp (by omega)
        have drum : z_holder n k (nI m / 16) a < 0 → Rn (F_X12_word_88 (nI k) (nI m) (-1) R) (fun r D => r = (if z_holder n k (nI m / 16) a < 0 then av a 37 k (nI m).toNatClampNeg else av a 38 (z_holder n k (nI m / 16) a).toNatClampNeg ((nI m).toNatClampNeg % 16)) ∧ D = R) := by
          intro hh
          rw [if_pos hh, emm]
          unfold F_X12_word_88 F_X12_word_122
          rw [show (128 : Int32) * nI k + nI m = nI (128 * k + m) from mulN 128 k m, show (nI (128 * k + m)).toNatClampNeg = 128 * k + m from nI_clamp (by omega), rr_37 h hk hm128]
          exact rn_pos rfl (rn_gd (inb_nI (by omega) (by decide)) (rn_ret ⟨rfl, rfl⟩))
        have core : ∀ f, f < n → z_holder n k (nI m / 16) a = nI f → Rn (F_X12_word_88 (nI k) (nI m) (nI f) R) (fun r D => r = (if z_holder n k (nI m / 16) a < 0 then av a 37 k (nI m).toNatClampNeg else av a 38 (z_holder n k (nI m / 16) a).toNatClampNeg ((nI m).toNatClampNeg % 16)) ∧ D = R) := by
          intro f hf hh
          rw [hh, if_neg (nI_pos (by omega)), emm, show (nI f).toNatClampNeg = f from nI_clamp (by omega)]
          unfold F_X12_word_88 F_X12_word_122
          rw [q2, idx16, show (nI (16 * f + m % 16)).toNatClampNeg = 16 * f + m % 16 from nI_clamp (by omega), rr_38 h hf (by omega)]
          exact rn_neg (nI_nm (by omega) (by decide)) (rn_gd (inb_nI (by omega) (by decide)) (rn_ret ⟨rfl, rfl⟩))
        by_cases cw : av a 45 0 0 = 1 ∧ av a 49 0 0 = nI k ∧ (av a 23 k 0 = av a 51 0 0 ∧ ¬ av a 14 k 0 = 3) ∧ av a 50 0 0 = nI m / 16
        · obtain ⟨w1, w2, ⟨w3, w4⟩, w5⟩ := cw
          obtain ⟨u1, u2, u3⟩ := hV.2 k hk w1 w2 w3 w4
          rw [w5] at u2
          obtain ⟨-, f, hf, e46⟩ := hW.1 w1
          have hh : z_holder n k (nI m / 16) a = nI f := by
            unfold z_holder
            rw [if_pos ⟨w1, w2, ⟨w3, w4⟩, w5⟩, e46]
          obtain ⟨r49, r50, r51⟩ := h.2.2.2.2.2.2.2.2.2.2.1.2 w1
          obtain ⟨r46, -, -⟩ := h.2.2.2.2.2.2.2.2.2.2.1.1 u3
          rw [u2]
          refine rn_pos rfl ?_
          unfold F_X12_isWritten F_X12_isWritten_43 F_X12_isWritten_44
          rw [rr_45 h, r49, r51, ekk, rr_23 h hk, rr_14 h hk]
          refine rn_bdE (r := 1) (C := R) ?_ (rn_neg (by decide) ?_)
          · rw [if_pos w1, if_pos w2]
            unfold gd
            rw [if_pos g6, if_pos w3, if_pos u1]
            rfl
          · rw [r50, r46, e46]
            exact rn_pos w5 (core f hf hh)
        · have hh : z_holder n k (nI m / 16) a = oI (z_find n k (nI m / 16) a) := if_neg cw
          cases hzf : z_find n k (nI m / 16) a with
          | none =>
            rw [hzf] at hh
            refine rn_pos rfl ?_
            have hneg : z_holder n k (nI m / 16) a < 0 := by rw [hh]; decide
            unfold F_X12_isWritten F_X12_isWritten_43 F_X12_isWritten_44
            rw [rr_45 h]
            by_cases w1 : av a 45 0 0 = 1
            · obtain ⟨r49, r50, r51⟩ := h.2.2.2.2.2.2.2.2.2.2.1.2 w1
              rw [r49, r51, ekk, rr_23 h hk, rr_14 h hk]
              by_cases w2 : av a 49 0 0 = nI k
              · by_cases w3 : av a 23 k 0 = av a 51 0 0
                · by_cases w4 : av a 14 k 0 = 2
                  · refine rn_bdE (r := 1) (C := R) ?_ (rn_neg (by decide) ?_)
                    · rw [if_pos w1, if_pos w2]
                      unfold gd
                      rw [if_pos g6, if_pos w3, if_pos w4]
                      rfl
                    · rw [r50]
                      exact rn_neg (fun y => cw ⟨w1, w2, ⟨w3, by rw [w4]; decide⟩, y⟩) (drum hneg)
                  · refine rn_bdE (r := 0) (C := R) ?_ (rn_pos rfl (drum hneg))
                    rw [if_pos w1, if_pos w2]
                    unfold gd
                    rw [if_pos g6, if_pos w3, if_neg w4]
                    rfl
                · refine rn_bdE (r := 0) (C := R) ?_ (rn_pos rfl (drum hneg))
                  rw [if_pos w1, if_pos w2]
                  unfold gd
                  rw [if_pos g6, if_neg w3]
                  rfl
              · refine rn_bdE (r := 0) (C := R) ?_ (rn_pos rfl (drum hneg))
                rw [if_pos w1, if_neg w2]
                rfl
            · refine rn_bdE (r := 0) (C := R) ?_ (rn_pos rfl (drum hneg))
              rw [if_neg w1]
              rfl
          | some f =>
            rw [hzf] at hh
            have hf := find_lt hzf
            exact rn_neg (nI_nm (k := f) (by omega) (by decide)) (core f hf hh)
      · rw [if_pos (show av a 14 k 0 = 0 ∨ av a 14 k 0 = 3 ∨ ¬ (¬ x2 < 0 ∧ ¬ av a 22 k 0 * 16 ≤ x2) from Or.inr (Or.inr c3))]
        refine rn_if (fun _ => rn_ret ⟨rfl, rfl⟩) (fun y => rn_gd g6 (rn_neg (fun y2 => c3 ⟨y, Int32.not_le.mpr y2⟩) (rn_ret ⟨rfl, rfl⟩)))
    refine rn_if (fun e1 => body (by rw [e1]; decide) (by rw [e1]; decide)) (fun e1 => rn_if (fun e2 => body (by rw [e2]; decide) (by rw [e2]; decide)) (fun e2 => ?_))
    rcases v1 with y | y | y | y
    · rw [if_pos (Or.inl y)]; exact rn_ret ⟨rfl, rfl⟩
    · exact absurd y e1
    · exact absurd y e2
    · rw [if_pos (Or.inr (Or.inl y))]; exact rn_ret ⟨rfl, rfl⟩
theorem m_frame {n : Nat} {x1 x2 : Int32} {R : St} {a : AS} (h : RR n none R a) (hn : n ≤ 12) : F_X12_frame x1 x2 R = some (z_frame n x1 x2 a, R) := by
  refine rn_eq ?_
  have hN : R 50 0 0 0 = nI n := h.2.2.2.1
  unfold F_X12_frame F_X12_frame_21 F_X12_frame_109
  rw [hN]
  by_cases c : x1 < 0 ∨ ¬ x1 < nI n
  · have hz : z_frame n x1 x2 a = -1 := if_pos c
    rw [hz]
    refine rn_if (fun _ => rn_ret ⟨rfl, rfl⟩) (fun e => rn_pos (Int32.not_lt.mp (c.resolve_left e)) (rn_ret ⟨rfl, rfl⟩))
  · rw [not_or, Classical.not_not] at c
    obtain ⟨f, hf0, rfl⟩ := nI_of c.1
    have hf : f < n := (nI_ltI hf0 (by omega)).mp c.2
    have gf := inb_nI (show f < 12 by omega) (show 12 < 2 ^ 31 by decide)
    have eff : (nI f).toNatClampNeg = f := nI_clamp hf0
    have hz : z_frame n (nI f) x2 a = if x2 = 0 then av a 39 f 0 else if av a 39 f 0 < 0 then -1 else if x2 = 1 then av a 40 f 0 else if x2 = 2 then z_bit (av a 42 f 0) else if x2 = 3 then z_bit (av a 43 f 0) else if x2 = 4 then av a 41 f 0 else -1 := by
      unfold z_frame
      rw [if_neg (fun o => o.elim c.1 (fun y => y c.2)), eff]
    rw [eff, rr_39 h hf, rr_40 h hf, rr_41 h hf]
    refine rn_neg c.1 (rn_neg (Int32.not_le.mpr c.2) ?_)
    by_cases e0 : x2 = 0
    · rw [if_pos e0] at hz
      rw [hz]
      exact rn_neg (by rw [e0]; decide) (rn_pos (by rw [e0]; decide) (rn_pos e0 (rn_gd gf (rn_ret ⟨rfl, rfl⟩))))
    · rw [if_neg e0] at hz
      by_cases c9 : av a 39 f 0 < 0
      · rw [if_pos c9] at hz
        rw [hz]
        refine rn_if (fun _ => rn_ret ⟨rfl, rfl⟩) (fun _ => rn_if (fun _ => rn_neg e0 (rn_gd gf (rn_neg (Int32.not_le.mpr c9) (rn_ret ⟨rfl, rfl⟩)))) (fun _ => rn_ret ⟨rfl, rfl⟩))
      · rw [if_neg c9] at hz
        obtain ⟨f1, f2⟩ := h.2.2.2.2.2.2.2.2.2.1 f hf c9
        rw [f1, f2, hz]
        by_cases e4 : ¬ x2 < 0 ∧ x2 ≤ 4
        · refine rn_neg e4.1 (rn_pos e4.2 (rn_neg e0 (rn_gd gf (rn_pos (Int32.not_lt.mp c9) (rn_if (fun e1 => ?_) (fun e1 => rn_if (fun e2 => ?_) (fun e2 => rn_if (fun e3 => ?_) (fun e3 => ?_))))))))
          · rw [if_pos e1]; exact rn_ret ⟨rfl, rfl⟩
          · rw [if_neg e1, if_pos e2]
            unfold z_bit
            refine rn_if (fun y => ?_) (fun y => ?_)
            · rw [if_pos y]; exact rn_ret ⟨rfl, rfl⟩
            · rw [if_neg y]; exact rn_ret ⟨rfl, rfl⟩
          · rw [if_neg e1, if_neg e2, if_pos e3]
            unfold z_bit
            refine rn_if (fun y => ?_) (fun y => ?_)
            · rw [if_pos y]; exact rn_ret ⟨rfl, rfl⟩
            · rw [if_neg y]; exact rn_ret ⟨rfl, rfl⟩
          · have : x2 = 4 := by
              obtain ⟨j, hj, rfl⟩ := nI_of e4.1
              have : j ≤ 4 := (nI_leI (b := 4) hj (by decide)).mp e4.2
              have hj2 : j = 0 ∨ j = 1 ∨ j = 2 ∨ j = 3 ∨ j = 4 := by omega
              rcases hj2 with rfl | rfl | rfl | rfl | rfl
              · exact absurd rfl e0
              · exact absurd rfl e1
              · exact absurd rfl e2
              · exact absurd rfl e3
              · rfl
            rw [if_neg e1, if_neg e2, if_neg e3, if_pos this]; exact rn_ret ⟨rfl, rfl⟩
        · have ez : (if x2 = 1 then av a 40 f 0 else if x2 = 2 then z_bit (av a 42 f 0) else if x2 = 3 then z_bit (av a 43 f 0) else if x2 = 4 then av a 41 f 0 else -1) = -1 := by
            rw [if_neg (fun y => e4 (by rw [y]; decide)), if_neg (fun y => e4 (by rw [y]; decide)), if_neg (fun y => e4 (by rw [y]; decide)), if_neg (fun y => e4 (by rw [y]; decide))]
          rw [ez]
          refine rn_if (fun _ => rn_ret ⟨rfl, rfl⟩) (fun y => rn_neg (fun y2 => e4 ⟨y, y2⟩) (rn_ret ⟨rfl, rfl⟩))
theorem m_about {n : Nat} {x : Int32} {R : St} {a : AS} (h : RR n none R a) : F_X12_about x R = some (z_about x a, R) := by
  refine rn_eq ?_
  unfold F_X12_about F_X12_about_82 F_X12_about_95 F_X12_about_96 z_about
  rw [rr_5 h, rr_45 h, rr_52 h, rr_53 h, rr_69 h, rr_44 h, rr_68 h]
  have fr : ∀ r (y : Int32), x = y → r < 3 → y - 4 = nI r → Rn (gd (inb (x - 4) 3) (some (R 128 0 0 (x - 4).toNatClampNeg, R))) (fun z D => z = av a 28 r 0 ∧ D = R) := by
    intro r y e hr hy
    rw [e, hy, show (nI r).toNatClampNeg = r from nI_clamp (by omega), rr_28 h hr]
    exact rn_gd (inb_nI hr (by decide)) (rn_ret ⟨rfl, rfl⟩)
  have bit : ∀ y : Int32, Rn (if y = 0 then some ((0 : Int32), R) else some ((1 : Int32), R)) (fun z D => z = z_bit y ∧ D = R) := by
    intro y
    unfold z_bit
    refine rn_if (fun e => ?_) (fun e => ?_)
    · rw [if_pos e]; exact rn_ret ⟨rfl, rfl⟩
    · rw [if_neg e]; exact rn_ret ⟨rfl, rfl⟩
  refine rn_if (fun e => ?_) (fun e0 => ?_)
  · rw [if_pos e]; exact rn_ret ⟨rfl, rfl⟩
  rw [if_neg e0]
  refine rn_if (fun e => ?_) (fun e0 => ?_)
  · rw [if_pos e]; exact rn_ret ⟨rfl, rfl⟩
  rw [if_neg e0]
  refine rn_if (fun e => ?_) (fun e0 => ?_)
  · rw [if_pos e]; exact bit _
  rw [if_neg e0]
  refine rn_if (fun e => ?_) (fun e0 => ?_)
  · rw [if_pos e]; exact bit _
  rw [if_neg e0]
  refine rn_if (fun e => ?_) (fun e0 => ?_)
  · rw [if_pos e]; exact fr 0 4 e (by decide) (by decide)
  rw [if_neg e0]
  refine rn_if (fun e => ?_) (fun e0 => ?_)
  · rw [if_pos e]; exact fr 1 5 e (by decide) (by decide)
  rw [if_neg e0]
  refine rn_if (fun e => ?_) (fun e0 => ?_)
  · rw [if_pos e]; exact fr 2 6 e (by decide) (by decide)
  rw [if_neg e0]
  refine rn_if (fun e => ?_) (fun e0 => ?_)
  · rw [if_pos e]; exact rn_ret ⟨rfl, rfl⟩
  rw [if_neg e0]
  refine rn_if (fun e => ?_) (fun e0 => ?_)
  · rw [if_pos e]; exact rn_bdE (m_adm h) (rn_ret ⟨rfl, rfl⟩)
  rw [if_neg e0]
  refine rn_if (fun e => ?_) (fun e0 => ?_)
  · rw [if_pos e]; exact rn_ret ⟨rfl, rfl⟩
  rw [if_neg e0]
  refine rn_if (fun e => ?_) (fun e0 => ?_)
  · rw [if_pos e]; exact rn_ret ⟨rfl, rfl⟩
  rw [if_neg e0]
  exact rn_ret ⟨rfl, rfl⟩
theorem m_octet {n : Nat} {x : Int32} {R : St} {a : AS} (h : RR n none R a) : F_X12_octet x R = some (z_octet x a, R) := by
  refine rn_eq ?_
  unfold F_X12_octet F_X12_octet_19 F_X12_octet_29 z_octet
  rw [rr_69 h]
  refine rn_if (fun e => ?_) (fun e => rn_if (fun e2 => ?_) (fun e2 => rn_if (fun e3 => ?_) (fun e3 => ?_)))
  · rw [if_pos (Or.inl e)]; exact rn_ret ⟨rfl, rfl⟩
  · rw [if_pos (Or.inr (Or.inr e2))]; exact rn_ret ⟨rfl, rfl⟩
  · rw [if_neg (show ¬ (x < 0 ∨ av a 69 0 0 ≤ x ∨ (600 : Int32) ≤ x) from fun o => o.elim e (fun o => o.elim (Int32.not_le.mpr e3) e2))]
    obtain ⟨i, hi0, rfl⟩ := nI_of e
    have hi : i < 600 := Classical.byContradiction fun hh => e2 (nI_le (a := 600) (by omega) hi0)
    rw [show (nI i).toNatClampNeg = i from nI_clamp hi0, rr_66 h hi]
    exact rn_gd (inb_nI hi (by decide)) (rn_ret ⟨rfl, rfl⟩)
  · rw [if_pos (Or.inr (Or.inl (Int32.not_lt.mp e3)))]; exact rn_ret ⟨rfl, rfl⟩
