/-! The reference: the console -/
theorem m_admits {n k : Nat} {R : St} {a : AS} (h : RR n none R a) (hk : k < 6) (h2 : (al a 0).Nodup) (h3 : ∀ p ∈ al a 0, p < 10) (hka : av a 14 k 0 = 1 → k ∉ al a 0) : Rn (F_X12_admits (nI k) R) (fun r D => r = (z_admits n k a).1 ∧ RR n none D (z_admits n k a).2) := by
  unfold F_X12_admits F_X12_admits_25 z_admits
  have hN : R 50 0 0 0 = nI n := h.2.2.2.1
  rw [show (nI k).toNatClampNeg = k from nI_clamp (by omega), rr_14 h hk]
  refine rn_gd (inb_nI hk (by decide)) (rn_if (fun e => rn_bdE (m_adm h) ?_) (fun e => ?_))
  · rw [hN]
    refine rn_if (fun e2 => rn_st ?_) (fun e2 => ?_)
    · rw [if_pos ⟨e, e2⟩]
      have hD := wr_14 (x := 2) h hk (by rw [e]; decide) (by decide)
      refine rn_bd (m_wakeJ (hd := none) hD hk h2 h3 (hka e)) ?_
      rintro _ D ⟨-, hD⟩
      exact rn_ret ⟨rfl, hD⟩
    · rw [if_neg (fun y => e2 y.2)]
      exact rn_ret ⟨rfl, h⟩
  · rw [if_neg (fun y => e y.1)]
    exact rn_ret ⟨rfl, h⟩
theorem m_can37 {n k : Nat} {a : AS} (hk : k < 6) (hN : (al a 2).Nodup) (h6 : (al a 2).length ≤ 6) (hb : ∀ p ∈ al a 2, p < 6) (h2 : (al a 0).Nodup) (h3 : ∀ p ∈ al a 0, p < 10) (hka : k ∉ al a 0) :
    ∀ fu j L D, j < fu → RR n none D (sl 2 L a) → (L = (al a 2).erase k ∧ (∀ i, i < j → L[i]? ≠ some k) ∨ L = al a 2 ∧ (∀ i, j ≤ i → L[i]? ≠ some k)) → j ≤ L.length → Rn (F_X12_cancels_37 fu (nI k) (nI j - 1) D) (fun r D => r = 1 ∧ RR n none D (z_wake k (sl 2 ((al a 2).erase k) a))) := by
  intro fu
  induction fu with
  | zero => intro j L D h1; omega
  | succ fu ih =>
    intro j L D h1 hD hL hj
    have hLl : L.length ≤ 6 := by
      rcases hL with ⟨rfl, -⟩ | ⟨rfl, -⟩
      · exact Nat.le_trans List.length_erase_le h6
      · exact h6
    unfold F_X12_cancels_37 F_X12_cancels_56 F_X12_cancels_85
    cases j with
    | zero =>
      have eL : L = (al a 2).erase k := by
        rcases hL with ⟨e, -⟩ | ⟨e, hno⟩
        · exact e
        · have hm : k ∉ al a 2 := by
            intro hm
            obtain ⟨i, hi, ei⟩ := List.getElem_of_mem hm
            rw [e] at hno
            exact hno i (Nat.zero_le _) (by rw [List.getElem?_eq_getElem hi, ei])
          rw [List.erase_of_not_mem hm]
          exact e
      subst eL
      refine rn_pos (by decide) (rn_bd (m_wakeJ (hd := none) hD hk h2 h3 hka) ?_)
      rintro _ E ⟨-, hE⟩
      exact rn_ret ⟨rfl, hE⟩
    | succ j =>
      rw [nI_pred]
      have hjl : j < L.length := by omega
      have hget : L[j]? = some L[j] := List.getElem?_eq_getElem hjl
      have e159 : D 159 0 0 j = nI L[j] := hD.2.2.2.2.2.2.1.1.2 j _ (by rw [al_sl, if_pos rfl]; exact hget)
      have hsub : ∀ x ∈ L, x ∈ al a 2 := by
        rcases hL with ⟨e, -⟩ | ⟨e, -⟩
        · intro x hx
          rw [e] at hx
          exact List.mem_of_mem_erase hx
        · intro x hx
          rw [e] at hx
          exact hx
      have hmem : L[j] ∈ al a 2 := hsub _ (List.getElem_mem hjl)
      have hL6 := hb _ hmem
      have em : nI j + -1 = nI j - 1 := (Int32.sub_eq_add_neg _ _).symm
      rw [show (nI j).toNatClampNeg = j from nI_clamp (by omega), e159, em]
      refine rn_neg (nI_pos (by omega)) (rn_gd (inb_nI (by omega) (by decide)) (rn_if (fun e => ?_) (fun e => ?_)))
      · have ek : L[j] = k := (nI_eq (by omega) (by omega)).mp e
        rw [ek] at hget
        rcases hL with ⟨-, hno⟩ | ⟨eL, hno⟩
        · exact absurd hget (hno j (by omega))
        · subst eL
          have hl2 : al (sl 2 (al a 2) a) 2 = al a 2 := by rw [al_sl, if_pos rfl]
          refine rn_bd (m_leaveGets (i := j) hD (by rw [hl2]; exact h6) (by rw [hl2]; exact hjl)) ?_
          rintro _ E ⟨-, hE⟩
          rw [hl2] at hE
          have e5 : sl 2 ((al a 2).eraseIdx j) (sl 2 (al a 2) a) = sl 2 ((al a 2).erase k) a := by
            rw [erase_idx hN hget]
            refine as_ext (fun _ _ _ => rfl) (fun q => ?_)
            rw [al_sl, al_sl, al_sl]
            split <;> rfl
          rw [e5] at hE
          refine ih j ((al a 2).erase k) E (by omega) hE (Or.inl ⟨rfl, fun i hi hh => ?_⟩) ?_
          · have : k ∈ (al a 2).erase k := List.mem_of_getElem? hh
            exact (hN.mem_erase_iff.mp this).1 rfl
          · rw [List.length_erase_of_mem (List.mem_of_getElem? hget)]
            omega
      · refine ih j L D (by omega) hD ?_ (by omega)
        rcases hL with ⟨eL, hno⟩ | ⟨eL, hno⟩
        · exact Or.inl ⟨eL, fun i hi => hno i (by omega)⟩
        · refine Or.inr ⟨eL, fun i hi => ?_⟩
          by_cases ei : i = j
          · subst ei
            rw [hget]
            intro hh
            injection hh with hh
            exact e (by rw [hh])
          · exact hno i (by omega)
/-- what the reference wants of the console's jobs -/
def MC (a : AS) : Prop := (al a 0).Nodup ∧ (∀ p ∈ al a 0, p < 10) ∧ (al a 2).Nodup ∧ (al a 2).length ≤ 6 ∧ (∀ p ∈ al a 2, p < 6) ∧ ∀ k, k < 6 → (av a 14 k 0 = 1 → k ∉ al a 0) ∧ (av a 10 k 0 ≠ 0 → k ∉ al a 0) ∧ (av a 10 k 0 = 5 → k ∉ al a 2 ∧ av a 14 k 0 = 2)
theorem m_cancels {n k : Nat} {R : St} {a : AS} (h : RR n none R a) (hk : k < 6) (hC : MC a) : Rn (F_X12_cancels (nI k) R) (fun r D => r = (z_cancels k a).1 ∧ RR n none D (z_cancels k a).2) := by
  obtain ⟨c1, c2, c3, c4, c5, c6⟩ := hC
  obtain ⟨d1, d2, d3⟩ := c6 k hk
  unfold F_X12_cancels F_X12_cancels_85 z_cancels
  rw [show (nI k).toNatClampNeg = k from nI_clamp (by omega), rr_14 h hk]
  refine rn_gd (inb_nI hk (by decide)) (rn_if (fun e => rn_st ?_) (fun e => ?_))
  · rw [if_pos e]
    have hD := wr_24 (x := 1) h hk
    have e62 : up R 124 0 0 k 1 50 0 62 0 = nI (al a 2).length := hD.2.2.2.2.2.2.1.1.1
    rw [rr_10 hD hk, av_o (by decide), e62]
    refine rn_gd (inb_nI (by omega) (by decide)) (rn_if (fun e6 => ?_) (fun e6 => rn_if (fun e5 => ?_) (fun e5 => ?_)))
    · rw [if_pos (Or.inr e6)]
      have hs : sl 2 (al a 2) (sv 24 k 0 1 a) = sv 24 k 0 1 a := as_ext (fun _ _ _ => rfl) (fun q => by rw [al_sl, al_sv]; split <;> simp_all)
      refine m_can37 (a := sv 24 k 0 1 a) hk c3 c4 c5 c1 c2 (d2 (by rw [e6]; decide)) 1000 (al a 2).length (al a 2) _ (by omega) ?_ (Or.inr ⟨rfl, fun i hi => ?_⟩) (Nat.le_refl _)
      · rw [hs]; exact hD
      · rw [List.getElem?_eq_none hi]
        intro hh
        cases hh
    · rw [if_pos (Or.inl e5)]
      have hm := (d3 e5).1
      rw [List.erase_of_not_mem hm]
      have hs : sl 2 (al a 2) (sv 24 k 0 1 a) = sv 24 k 0 1 a := as_ext (fun _ _ _ => rfl) (fun q => by rw [al_sl, al_sv]; split <;> simp_all)
      rw [hs]
      refine rn_bd (m_wakeJ (hd := none) hD hk c1 c2 (d2 (by rw [e5]; decide))) ?_
      rintro _ E ⟨-, hE⟩
      exact rn_ret ⟨rfl, hE⟩
    · rw [if_neg (fun o => o.elim e5 e6)]
      exact rn_ret ⟨rfl, hD⟩
  · rw [if_neg e]
    exact rn_ret ⟨rfl, h⟩
/-- the first line as the reference has it -/
def TR (L : Nat) (a : AS) : Prop := L ≤ 20 ∧ av a 65 0 0 = nI L ∧ ∀ i, i < L → ∃ y, y < 128 ∧ av a 64 0 i = nI y
theorem tr65 {L : Nat} {a : AS} (h : TR L a) : nv a 65 0 0 = L := by
  unfold nv
  rw [h.2.1, nI_clamp (by have := h.1; omega)]
theorem tr_sign {L i : Nat} {a : AS} (h : TR L a) (hi : i < L) : z_sign a i = av a 64 0 i := by
  unfold z_sign
  rw [tr65 h, if_pos hi]
theorem rr_t0 {n i : Nat} {hd : Option Nat} {R : St} {a : AS} (h : RR n hd R a) (hi : i < 20) : R 164 0 0 i = av a 64 0 i := by
  have := rr_64 (i := 0) (j := i) h (by decide) hi
  rw [Nat.mul_zero, Nat.zero_add] at this
  exact this
theorem m_isDigit {x : Int32} {C : St} : F_X12_isDigit x C = some (if x < 48 ∨ 57 < x then 0 else 1, C) := by
  refine rn_eq ?_
  unfold F_X12_isDigit F_X12_isDigit_16 F_X12_isDigit_17
  refine rn_if (fun e => ?_) (fun e => rn_if (fun e2 => ?_) (fun e2 => ?_))
  · rw [if_pos (Or.inl e)]; exact rn_gd rfl (rn_ret ⟨rfl, rfl⟩)
  · rw [if_pos (Or.inr e2)]; exact rn_gd rfl (rn_ret ⟨rfl, rfl⟩)
  · rw [if_neg (fun o => o.elim e e2)]; exact rn_gd rfl (rn_ret ⟨rfl, rfl⟩)
theorem dig_byte : ∀ y, y < 128 → (nI y < 48 ∨ 57 < nI y → ((nI y - 48 < 0 ∨ (6 : Int32) ≤ nI y - 48))) ∧ (¬ (nI y < 48 ∨ 57 < nI y) → ¬ nI y - 48 = -1) := by decide +kernel
theorem m_rep54 {n L k : Nat} {x3 : Int32} {R : St} {a : AS} (h : RR n none R a) (hn : n ≤ 12) (hT : TR L a) (hk : k < 6) (hC : MC a) : ∀ m fu i v, i + m = L → m < fu → Rn (F_X12_replies_54 fu (nI k) (nI L) x3 v (nI i) R) (fun r D => match (if av a 10 k 0 = 5 then z_dsum a m i v else none) with
    | none => r = 0 ∧ RR n none D a
    | some v => r = 1 ∧ RR n none D (z_rep n k (if x3 = 0 then v else -v) a)) := by
  obtain ⟨c1, c2, c3, c4, c5, c6⟩ := hC
  obtain ⟨d1, d2, d3⟩ := c6 k hk
  have hT2 := hT
  obtain ⟨t1, t2, t3⟩ := hT
  have ekk : (nI k).toNatClampNeg = k := nI_clamp (by omega)
  have g6 := inb_nI hk (show 6 < 2 ^ 31 by decide)
  intro m
  induction m with
  | zero =>
    intro fu i v hi hf
    obtain ⟨fu, rfl⟩ : ∃ g, fu = g + 1 := ⟨fu - 1, by omega⟩
    unfold F_X12_replies_54 F_X12_replies_119 F_X12_replies_138
    rw [ekk, rr_14 h hk, rr_10 h hk]
    refine rn_pos (nI_le (by omega) (by omega)) (rn_gd g6 ?_)
    by_cases c : av a 10 k 0 = 5
    · have en : (if av a 10 k 0 = 5 then z_dsum a 0 i v else none) = some v := by
        rw [if_pos c]
        rfl
      rw [en]
      refine rn_pos (d3 c).2 (rn_gd (inb_nI (by omega) (by decide)) (rn_pos c ?_))
      have fin : ∀ x : Int32, Rn (gd (inb (nI k) 6) (st (up R 119 0 0 k x) (fun D2 => bd2 (F_X12_finish (nI k) D2) (fun r4 D5 => bd2 (F_X12_wake (nI k) D5) (fun r7 D8 => some ((1 : Int32), D8)))))) (fun r D => r = 1 ∧ RR n none D (z_rep n k x a)) := by
        intro x
        refine rn_gd g6 (rn_st (rn_bd (m_finish (wr_19 (x := x) h hk) hn hk) ?_))
        rintro _ D ⟨-, hD⟩
        rw [av_o (by decide)] at hD
        refine rn_bd (m_wakeJ (hd := none) hD hk c1 c2 (d2 (by rw [c]; decide))) ?_
        rintro _ E ⟨-, hE⟩
        exact rn_ret ⟨rfl, hE⟩
      refine rn_if (fun e => ?_) (fun e => ?_)
      · refine rn_mono (fin v) ?_
        intro r D hh
        simp only
        rw [if_pos e]
        exact hh
      · refine rn_mono (fin (-v)) ?_
        intro r D hh
        simp only
        rw [if_neg e]
        exact hh
    · have en : (if av a 10 k 0 = 5 then z_dsum a 0 i v else none) = none := if_neg c
      rw [en]
      refine rn_if (fun _ => rn_gd (inb_nI (by omega) (by decide)) (rn_neg c (rn_ret ⟨rfl, h⟩))) (fun _ => rn_ret ⟨rfl, h⟩)
  | succ m ih =>
    intro fu i v hi hf
    obtain ⟨fu, rfl⟩ : ∃ g, fu = g + 1 := ⟨fu - 1, by omega⟩
    obtain ⟨y, hy, ey⟩ := t3 i (by omega)
    have hs := tr_sign hT2 (show i < L by omega)
    unfold F_X12_replies_54
    rw [show (nI i).toNatClampNeg = i from nI_clamp (by omega), rr_t0 h (by omega)]
    refine rn_neg (nI_ge (by omega) (by omega)) (rn_gd (inb_nI (by omega) (by decide)) (rn_bdE m_isDigit ?_))
    by_cases c : av a 64 0 i < 48 ∨ 57 < av a 64 0 i
    · have ed : z_dig a i = -1 := by
        unfold z_dig
        rw [hs]
        rcases c with c | c
        · rw [if_pos c]
        · by_cases c' : av a 64 0 i < 48
          · rw [if_pos c']
          · rw [if_neg c', if_pos c]
      have en : (if av a 10 k 0 = 5 then z_dsum a (m + 1) i v else none) = none := by
        by_cases c5 : av a 10 k 0 = 5
        · rw [if_pos c5, z_dsum, if_pos ed]
        · rw [if_neg c5]
      rw [en, if_pos c]
      exact rn_pos rfl (rn_ret ⟨rfl, h⟩)
    · have ed : z_dig a i = av a 64 0 i - 48 := by
        unfold z_dig
        rw [not_or] at c
        rw [hs, if_neg c.1, if_neg c.2]
      have edn : ¬ z_dig a i = -1 := by
        rw [ed, ey]
        rw [ey] at c
        exact (dig_byte y hy).2 c
      have en : (if av a 10 k 0 = 5 then z_dsum a (m + 1) i v else none) = (if av a 10 k 0 = 5 then z_dsum a m (i + 1) (v * 10 + z_dig a i) else none) := by
        by_cases c5 : av a 10 k 0 = 5
        · rw [if_pos c5, if_pos c5, z_dsum, if_neg edn]
        · rw [if_neg c5, if_neg c5]
      have ev : (10 : Int32) * v + av a 64 0 i - 48 = v * 10 + z_dig a i := by
        rw [ed, Int32.mul_comm, Int32.sub_eq_add_neg, Int32.sub_eq_add_neg, Int32.add_assoc]
      rw [en, if_neg c, rr_t0 h (by omega), ev, nI_1]
      exact rn_neg (by decide) (ih fu (i + 1) _ (by omega) (by omega))
theorem m_replies {n L k : Nat} {R : St} {a : AS} (h : RR n none R a) (hn : n ≤ 12) (hT : TR L a) (hL : 3 < L) (h2 : av a 64 0 2 = 32) (hk : k < 6) (hC : MC a) : Rn (F_X12_replies (nI k) (nI L) R) (fun r D => r = (z_replies n k a).1 ∧ RR n none D (z_replies n k a).2) := by
  have e65 := tr65 hT
  have t1 := hT.1
  have e3 : (3 : Int32).toNatClampNeg = 3 := rfl
  have s2 : z_sign a 2 = 32 := by rw [tr_sign hT (by omega)]; exact h2
  have s3 : z_sign a 3 = av a 64 0 3 := tr_sign hT hL
  unfold F_X12_replies F_X12_replies_16 F_X12_replies_26 F_X12_replies_48
  rw [e3, rr_t0 h (by decide)]
  have key : ∀ s (x3 : Int32), s = z_start a → (x3 = 0 ↔ ¬ s = 4) → Rn (if nI L - nI s < 1 then some ((0 : Int32), R) else (if nI L - nI s ≤ 9 then F_X12_replies_54 1000 (nI k) (nI L) x3 0 (nI s) R else some ((0 : Int32), R))) (fun r D => r = (z_replies n k a).1 ∧ RR n none D (z_replies n k a).2) := by
    intro s x3 hs hx3
    have hs34 : s = 3 ∨ s = 4 := by
      rw [hs]
      unfold z_start
      split
      · exact Or.inr rfl
      · exact Or.inl rfl
    rw [nI_sub (show s ≤ L by omega)]
    unfold z_replies
    rw [← hs, e65]
    by_cases c1 : s < L
    · refine rn_neg (show ¬ nI (L - s) < nI 1 from nI_nlt (by omega) (by omega)) ?_
      by_cases c2 : L ≤ s + 9
      · refine rn_pos (show nI (L - s) ≤ nI 9 from nI_le (by omega) (by decide)) ?_
        refine rn_mono (m_rep54 h hn hT hk hC (L - s) 1000 s 0 (by omega) (by omega)) ?_
        intro r D hh
        by_cases c5 : av a 10 k 0 = 5
        · rw [if_pos ⟨s2, c1, c2, c5⟩]
          rw [if_pos c5] at hh
          revert hh
          cases z_dsum a (L - s) s 0 with
          | none => exact fun hh => hh
          | some v =>
            intro hh
            simp only at hh ⊢
            by_cases c4 : s = 4
            · rw [if_pos c4]
              rw [if_neg (fun y => (hx3.mp y) c4)] at hh
              exact hh
            · rw [if_neg c4]
              rw [if_pos (hx3.mpr c4)] at hh
              exact hh
        · rw [if_neg (fun y => c5 y.2.2.2)]
          rw [if_neg c5] at hh
          exact hh
      · rw [if_neg (show ¬ (z_sign a 2 = 32 ∧ s < L ∧ L ≤ s + 9 ∧ av a 10 k 0 = 5) from fun y => c2 y.2.2.1)]
        exact rn_neg (show ¬ nI (L - s) ≤ nI 9 from nI_ge (by omega) (by omega)) (rn_ret ⟨rfl, h⟩)
    · rw [if_neg (show ¬ (z_sign a 2 = 32 ∧ s < L ∧ L ≤ s + 9 ∧ av a 10 k 0 = 5) from fun y => c1 y.2.1)]
      exact rn_pos (show nI (L - s) < nI 1 from nI_lt (by omega) (by decide)) (rn_ret ⟨rfl, h⟩)
  refine rn_gd rfl (rn_if (fun e => rn_neg (by decide) ?_) (fun e => rn_pos rfl ?_))
  · exact key 4 1 (by unfold z_start; rw [s3, if_pos e]) ⟨fun y => absurd y (by decide), fun y => absurd rfl y⟩
  · exact key 3 0 (by unfold z_start; rw [s3, if_neg e]) ⟨fun _ => by decide, fun _ => rfl⟩
theorem m_obeys {n L : Nat} {R : St} {a : AS} (h : RR n none R a) (hn : n ≤ 12) (hT : TR L a) (hC : MC a) : Rn (F_X12_obeys R) (fun r D => r = (z_obeys n a).1 ∧ RR n none D (z_obeys n a).2) := by
  have e65 := tr65 hT
  have hT2 := hT
  obtain ⟨t1, t2, t3⟩ := hT
  have a165 : R 165 0 0 0 = nI L := by
    rw [rr_65 (i := 0) h (by decide)]; exact t2
  have e0 : (0 : Int32).toNatClampNeg = 0 := rfl
  have e1 : (1 : Int32).toNatClampNeg = 1 := rfl
  have e2 : (2 : Int32).toNatClampNeg = 2 := rfl
  unfold F_X12_obeys F_X12_obeys_25 F_X12_obeys_36 z_obeys
  rw [e0, e1, a165, rr_t0 h (by decide), rr_t0 h (by decide), e65]
  refine rn_gd rfl ?_
  by_cases c : 2 ≤ L
  · refine rn_pos (show nI 2 ≤ nI L from nI_le c (by omega)) (rn_gd rfl ?_)
    obtain ⟨y, hy, ey⟩ := t3 1 (by omega)
    have s1 : z_sign a 1 = av a 64 0 1 := tr_sign hT2 (by omega)
    have s0 : z_sign a 0 = av a 64 0 0 := tr_sign hT2 (by omega)
    by_cases cd : av a 64 0 1 < 48 ∨ 57 < av a 64 0 1
    · have ed : z_dig a 1 = -1 := by
        unfold z_dig
        rw [s1]
        rcases cd with cd | cd
        · rw [if_pos cd]
        · by_cases c' : av a 64 0 1 < 48
          · rw [if_pos c']
          · rw [if_neg c', if_pos cd]
      rw [ed, if_pos (Or.inl (by decide))]
      rw [ey] at cd ⊢
      rcases (dig_byte y hy).1 cd with x | x
      · exact rn_pos x (rn_ret ⟨rfl, h⟩)
      · refine rn_if (fun _ => rn_ret ⟨rfl, h⟩) (fun _ => rn_neg (Int32.not_lt.mpr x) (rn_ret ⟨rfl, h⟩))
    · have ed : z_dig a 1 = av a 64 0 1 - 48 := by
        unfold z_dig
        rw [not_or] at cd
        rw [s1, if_neg cd.1, if_neg cd.2]
      rw [ed]
      by_cases c6 : av a 64 0 1 - 48 < 0 ∨ (6 : Int32) ≤ av a 64 0 1 - 48
      · rw [if_pos c6]
        refine rn_if (fun _ => rn_ret ⟨rfl, h⟩) (fun e => rn_neg ?_ (rn_ret ⟨rfl, h⟩))
        exact Int32.not_lt.mpr (c6.resolve_left e)
      · rw [if_neg c6]
        rw [not_or] at c6
        obtain ⟨k, hk, ek⟩ := lt6 c6.1 c6.2
        rw [ek, show (nI k).toNatClampNeg = k from nI_clamp (by omega), s0]
        refine rn_neg (nI_pos (by omega)) (rn_pos (nI_lt (b := 6) hk (by decide)) (rn_gd rfl ?_))
        have e82 : ∀ (hA : ¬ (av a 64 0 0 = 65 ∧ L = 2)) (hC2 : ¬ (av a 64 0 0 = 67 ∧ L = 2)), Rn (F_X12_obeys_82 (nI L) (nI k) R) (fun r D => r = (if av a 64 0 0 = 65 then (if L = 2 then z_admits n k a else (0, a)) else if av a 64 0 0 = 67 then (if L = 2 then z_cancels k a else (0, a)) else if av a 64 0 0 = 82 then z_replies n k a else (0, a)).1 ∧ RR n none D (if av a 64 0 0 = 65 then (if L = 2 then z_admits n k a else (0, a)) else if av a 64 0 0 = 67 then (if L = 2 then z_cancels k a else (0, a)) else if av a 64 0 0 = 82 then z_replies n k a else (0, a)).2) := by
          intro hA hC2
          unfold F_X12_obeys_82 F_X12_obeys_122 F_X12_obeys_123
          rw [e0, e2, rr_t0 h (by decide), rr_t0 h (by decide)]
          by_cases c82 : av a 64 0 0 = 82
          · rw [if_neg (show ¬ av a 64 0 0 = 65 by rw [c82]; decide), if_neg (show ¬ av a 64 0 0 = 67 by rw [c82]; decide)]
            refine rn_gd rfl (rn_pos c82 ?_)
            rw [if_pos c82]
            by_cases c3 : L ≤ 3
            · have ez : z_replies n k a = (0, a) := by
                unfold z_replies
                rw [e65, if_neg]
                rintro ⟨-, x2, -⟩
                unfold z_start at x2
                split at x2 <;> omega
              rw [ez]
              exact rn_pos (show nI L ≤ nI 3 from nI_le c3 (by decide)) (rn_gd rfl (rn_ret ⟨rfl, h⟩))
            · refine rn_neg (show ¬ nI L ≤ nI 3 from nI_ge (by omega) (by omega)) (rn_gd rfl (rn_if (fun e5 => ?_) (fun e5 => ?_)))
              · refine rn_bd (m_replies h hn hT2 (by omega) e5 hk hC) ?_
                rintro _ D ⟨rfl, hD⟩
                rcases bool_replies (n := n) (k := k) (a := a) with e9 | e9
                · exact rn_pos e9 (rn_gd rfl (rn_ret ⟨e9.symm, hD⟩))
                · exact rn_neg (by rw [e9]; decide) (rn_gd rfl (rn_ret ⟨e9.symm, hD⟩))
              · have ez : z_replies n k a = (0, a) := by
                  unfold z_replies
                  rw [if_neg]
                  rintro ⟨x1, -⟩
                  rw [tr_sign hT2 (by omega)] at x1
                  exact e5 x1
                rw [ez]
                exact rn_gd rfl (rn_ret ⟨rfl, h⟩)
          · refine rn_gd rfl (rn_neg c82 ?_)
            have ez : (if av a 64 0 0 = 65 then (if L = 2 then z_admits n k a else (0, a)) else if av a 64 0 0 = 67 then (if L = 2 then z_cancels k a else (0, a)) else if av a 64 0 0 = 82 then z_replies n k a else (0, a)) = (0, a) := by
              by_cases x1 : av a 64 0 0 = 65
              · rw [if_pos x1, if_neg (fun y => hA ⟨x1, y⟩)]
              · rw [if_neg x1]
                by_cases x2 : av a 64 0 0 = 67
                · rw [if_pos x2, if_neg (fun y => hC2 ⟨x2, y⟩)]
                · rw [if_neg x2, if_neg c82]
            rw [ez]
            exact rn_gd rfl (rn_ret ⟨rfl, h⟩)
        have e60 : ∀ (hA : ¬ (av a 64 0 0 = 65 ∧ L = 2)), Rn (F_X12_obeys_60 (nI L) (nI k) R) (fun r D => r = (if av a 64 0 0 = 65 then (if L = 2 then z_admits n k a else (0, a)) else if av a 64 0 0 = 67 then (if L = 2 then z_cancels k a else (0, a)) else if av a 64 0 0 = 82 then z_replies n k a else (0, a)).1 ∧ RR n none D (if av a 64 0 0 = 65 then (if L = 2 then z_admits n k a else (0, a)) else if av a 64 0 0 = 67 then (if L = 2 then z_cancels k a else (0, a)) else if av a 64 0 0 = 82 then z_replies n k a else (0, a)).2) := by
          intro hA
          unfold F_X12_obeys_60
          rw [e0, rr_t0 h (by decide)]
          refine rn_gd rfl (rn_if (fun e67 => rn_if (fun eL => ?_) (fun eL => e82 hA (fun y => eL (by rw [y.2]; rfl)))) (fun e67 => e82 hA (fun y => e67 y.1)))
          have hL2 : L = 2 := (nI_eq (b := 2) (by omega) (by decide)).mp eL
          rw [if_neg (show ¬ av a 64 0 0 = 65 by rw [e67]; decide), if_pos e67, if_pos hL2]
          refine rn_bd (m_cancels h hk hC) ?_
          rintro _ D ⟨rfl, hD⟩
          exact rn_gd (isb_of bool_cancels) (rn_ret ⟨rfl, hD⟩)
        refine rn_if (fun e65' => rn_if (fun eL => ?_) (fun eL => e60 (fun y => eL (by rw [y.2]; rfl)))) (fun e65' => e60 (fun y => e65' y.1))
        have hL2 : L = 2 := (nI_eq (b := 2) (by omega) (by decide)).mp eL
        rw [if_pos e65', if_pos hL2]
        refine rn_bd (m_admits h hk hC.1 hC.2.1 (hC.2.2.2.2.2 k hk).1) ?_
        rintro _ D ⟨rfl, hD⟩
        exact rn_gd (isb_of bool_admits) (rn_ret ⟨rfl, hD⟩)
  · have ed : z_dig a 1 = -1 := by
      have es : z_sign a 1 = -1 := by
        unfold z_sign
        rw [e65, if_neg (show ¬ 1 < L by omega)]
      unfold z_dig
      rw [es, if_pos (by decide)]
    rw [ed, if_pos (show (-1 : Int32) < 0 ∨ (6 : Int32) ≤ -1 from Or.inl (by decide))]
    exact rn_neg (show ¬ nI 2 ≤ nI L from nI_ge (by omega) (by decide)) (rn_pos (by decide) (rn_ret ⟨rfl, h⟩))
