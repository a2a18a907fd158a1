/-! The reference: devices done, bytes, the tape -/
theorem td_succ' (m j s f : Nat) (a : AS) : sv 37 j (16 * s + m) (av (z_td m j s f a) 38 f m) (z_td m j s f a) = z_td (m + 1) j s f a := by
  have : av (z_td m j s f a) 38 f m = av a 38 f m := by rw [av_td, if_neg (by simp)]
  rw [this, td_succ]
theorem tc_succ' (m k s f : Nat) (a : AS) : sv 38 f m (av (z_tc m k s f a) 37 k (16 * s + m)) (z_tc m k s f a) = z_tc (m + 1) k s f a := by
  have : av (z_tc m k s f a) 37 k (16 * s + m) = av a 37 k (16 * s + m) := by rw [av_tc, if_neg (by simp)]
  rw [this, tc_succ]
/-- what the reference wants where the drum is done -/
def MD (n : Nat) (a : AS) : Prop := ¬ av a 45 0 0 = 0 → (av a 45 0 0 = 1 ∨ av a 45 0 0 = 2) ∧ av a 12 0 0 ≠ 0 ∧ (∃ f, f < n ∧ av a 46 0 0 = nI f) ∧ (∃ k s, k < 6 ∧ s < 8 ∧ av a 47 0 0 = nI k ∧ av a 29 k 0 = nI s) ∧ (av a 45 0 0 = 1 → ∃ j s, j < 6 ∧ s < 8 ∧ av a 49 0 0 = nI j ∧ av a 50 0 0 = nI s ∧ (av a 23 j 0 = av a 51 0 0 → av a 14 j 0 = 2 ∨ av a 14 j 0 = 3))
theorem m_dd132 {n : Nat} {R : St} {a b : AS} (h : RR n none R b) (hQ : MZ a) (e71 : ∀ s, av b 71 s 0 = av a 71 s 0) (el : al b 0 = al a 0) : Rn (F_X12_drumIsDone_132 R) (fun r D => r = 0 ∧ RR n none D (z_v 1 (sv 45 0 0 0 b))) := by
  unfold F_X12_drumIsDone_132
  refine rn_st (rn_bd (m_vq (s := 1) (wr_45z h) hQ (by decide) (fun s => by rw [av_o (by decide), e71]) el) ?_)
  rintro _ D ⟨-, hD⟩
  exact rn_ret ⟨rfl, hD⟩
theorem m_drum {n : Nat} {R : St} {a : AS} (h : RR n none R a) (hn : n ≤ 12) (hQ : MZ a) (hD : MD n a) (h45 : ¬ av a 45 0 0 = 0) : Rn (F_X12_drumIsDone R) (fun r D => r = 0 ∧ RR n none D (z_drum a)) := by
  obtain ⟨d1, d2, ⟨f, hf, e46⟩, ⟨k, s, hk, hs, e47, e29⟩, d5⟩ := hD h45
  have r45 := rr_45 h
  obtain ⟨m1, m2, m3⟩ := h.2.2.2.2.2.2.2.2.2.2.1.1 d2
  rw [e46] at m1
  rw [e47] at m2 m3
  rw [show (nI k).toNatClampNeg = k from nI_clamp (by omega), e29] at m3
  unfold F_X12_drumIsDone
  rcases d1 with d1 | d1
  · obtain ⟨j, s', hj, hs', e49, e50, hst⟩ := d5 d1
    obtain ⟨n1, n2, n3⟩ := h.2.2.2.2.2.2.2.2.2.2.1.2 d1
    rw [e49] at n1
    rw [e50] at n2
    rw [n1]
    refine rn_pos (nI_pos' (by omega)) ?_
    unfold F_X12_drumIsDone_16 F_X12_isWritten F_X12_isWritten_43 F_X12_isWritten_44
    rw [r45, d1, n1, show (nI j).toNatClampNeg = j from nI_clamp (by omega), rr_23 h hj, n3, rr_14 h hj]
    have ez : z_drum a = z_v 1 (sv 45 0 0 0 (if av a 23 j 0 = av a 51 0 0 ∧ ¬ av a 14 j 0 = 3 then z_td 16 j s' f a else a)) := by
      unfold z_drum
      rw [if_pos d1, e49, e50, e46, show (nI j).toNatClampNeg = j from nI_clamp (by omega), show (nI s').toNatClampNeg = s' from nI_clamp (by omega), show (nI f).toNatClampNeg = f from nI_clamp (by omega)]
    rw [ez]
    have no : ¬ (av a 23 j 0 = av a 51 0 0 ∧ ¬ av a 14 j 0 = 3) → Rn (F_X12_drumIsDone_73 R) (fun r D => r = 0 ∧ RR n none D (z_v 1 (sv 45 0 0 0 (if av a 23 j 0 = av a 51 0 0 ∧ ¬ av a 14 j 0 = 3 then z_td 16 j s' f a else a)))) := by
      intro hno
      rw [if_neg hno]
      unfold F_X12_drumIsDone_73
      rw [r45, d1]
      exact rn_neg (by decide) (m_dd132 h hQ (fun _ => rfl) rfl)
    have loop : ∀ fu m D, 16 < fu + m → m ≤ 16 → RR n none D (z_td m j s' f a) → Rn (F_X12_drumIsDone_24 fu (nI m) D) (fun r D => r = 0 ∧ RR n none D (z_v 1 (sv 45 0 0 0 (z_td 16 j s' f a)))) := by
      intro fu
      induction fu with
      | zero => intro m D x1 x2; omega
      | succ fu ih =>
        intro m D x1 x2 hR
        have t : ∀ g, g ≠ 37 → ∀ b c, av (z_td m j s' f a) g b c = av a g b c := fun g hg b c => by rw [av_td, if_neg (fun y => hg y.1)]
        unfold F_X12_drumIsDone_24
        by_cases e : m = 16
        · subst e
          refine rn_pos (show (16 : Int32) ≤ nI 16 by decide) ?_
          unfold F_X12_drumIsDone_73
          rw [rr_45 hR, t 45 (by decide), d1]
          exact rn_neg (by decide) (m_dd132 hR hQ (fun s => t 71 (by decide) s 0) rfl)
        · have hm : m < 16 := by omega
          obtain ⟨q1, -, -⟩ := hR.2.2.2.2.2.2.2.2.2.2.1.1 (by rw [t 12 (by decide)]; exact d2)
          obtain ⟨p1, p2, -⟩ := hR.2.2.2.2.2.2.2.2.2.2.1.2 (by rw [t 45 (by decide)]; exact d1)
          rw [t 46 (by decide), e46] at q1
          rw [t 49 (by decide), e49] at p1
          rw [t 50 (by decide), e50] at p2
          have i1 : (16 : Int32) * nI f + nI m = nI (16 * f + m) := mulN 16 f m
          have i2 : (128 : Int32) * nI j + (16 : Int32) * nI s' + nI m = nI (128 * j + (16 * s' + m)) := by
            rw [show (16 : Int32) * nI s' = nI (16 * s') from mulN0 16 s', show (128 : Int32) * nI j = nI (128 * j) from mulN0 128 j, nI_add, nI_add, Nat.add_assoc]
          rw [q1, p1, p2, i1, i2, show (nI (16 * f + m)).toNatClampNeg = 16 * f + m from nI_clamp (by omega), show (nI (128 * j + (16 * s' + m))).toNatClampNeg = 128 * j + (16 * s' + m) from nI_clamp (by omega), rr_38 hR hf hm, nI_1]
          refine rn_neg (nI_ge (b := 16) hm (by decide)) (rn_gd (inb_nI (by omega) (by decide)) (rn_gd (inb_nI (by omega) (by decide)) (rn_st (ih (m + 1) _ (by omega) (by omega) ?_))))
          rw [← td_succ']
          exact wr_37 hR hj (by omega)
    refine rn_bd (P := fun r D => r = (if av a 23 j 0 = av a 51 0 0 ∧ ¬ av a 14 j 0 = 3 then 1 else 0) ∧ D = R) (rn_pos rfl (rn_pos rfl (rn_gd (inb_nI hj (by decide)) (rn_if (fun e => rn_if (fun e2 => rn_gd rfl (rn_ret ⟨?_, rfl⟩)) (fun e2 => rn_gd rfl (rn_ret ⟨?_, rfl⟩))) (fun e => rn_gd rfl (rn_ret ⟨?_, rfl⟩)))))) ?_
    · rw [if_pos ⟨e, by rw [e2]; decide⟩]
    · rw [if_neg (fun y => y.2 ((hst e).resolve_left e2))]
    · rw [if_neg (fun y => e y.1)]
    · rintro r D ⟨rfl, rfl⟩
      by_cases c : av a 23 j 0 = av a 51 0 0 ∧ ¬ av a 14 j 0 = 3
      · rw [if_pos c, if_pos c]
        refine rn_neg (by decide) (loop 1000 0 D (by omega) (by omega) ?_)
        rw [td0]
        exact h
      · have := no c
        rw [if_neg c]
        exact rn_pos rfl this
  · have ez : z_drum a = z_v 1 (sv 45 0 0 0 (z_tc 16 k s f a)) := by
      unfold z_drum
      rw [if_neg (by rw [d1]; decide), e47, e46, show (nI k).toNatClampNeg = k from nI_clamp (by omega), e29, show (nI s).toNatClampNeg = s from nI_clamp (by omega), show (nI f).toNatClampNeg = f from nI_clamp (by omega)]
    rw [ez]
    have loop : ∀ fu m D, 16 < fu + m → m ≤ 16 → RR n none D (z_tc m k s f a) → Rn (F_X12_drumIsDone_83 fu (nI m) D) (fun r D => r = 0 ∧ RR n none D (z_v 1 (sv 45 0 0 0 (z_tc 16 k s f a)))) := by
      intro fu
      induction fu with
      | zero => intro m D x1 x2; omega
      | succ fu ih =>
        intro m D x1 x2 hR
        have t : ∀ g, g ≠ 38 → ∀ b c, av (z_tc m k s f a) g b c = av a g b c := fun g hg b c => by rw [av_tc, if_neg (fun y => hg y.1)]
        unfold F_X12_drumIsDone_83
        by_cases e : m = 16
        · subst e
          exact rn_pos (show (16 : Int32) ≤ nI 16 by decide) (m_dd132 hR hQ (fun s => t 71 (by decide) s 0) rfl)
        · have hm : m < 16 := by omega
          obtain ⟨q1, q2, q3⟩ := hR.2.2.2.2.2.2.2.2.2.2.1.1 (by rw [t 12 (by decide)]; exact d2)
          rw [t 46 (by decide), e46] at q1
          rw [t 47 (by decide), e47] at q2 q3
          rw [show (nI k).toNatClampNeg = k from nI_clamp (by omega), t 29 (by decide), e29] at q3
          have i1 : (16 : Int32) * nI f + nI m = nI (16 * f + m) := mulN 16 f m
          have i2 : (128 : Int32) * nI k + (16 : Int32) * nI s + nI m = nI (128 * k + (16 * s + m)) := by
            rw [show (16 : Int32) * nI s = nI (16 * s) from mulN0 16 s, show (128 : Int32) * nI k = nI (128 * k) from mulN0 128 k, nI_add, nI_add, Nat.add_assoc]
          rw [q1, q2, q3, i1, i2, show (nI (16 * f + m)).toNatClampNeg = 16 * f + m from nI_clamp (by omega), show (nI (128 * k + (16 * s + m))).toNatClampNeg = 128 * k + (16 * s + m) from nI_clamp (by omega), rr_37 hR hk (by omega), nI_1]
          refine rn_neg (nI_ge (b := 16) hm (by decide)) (rn_gd (inb_nI (by omega) (by decide)) (rn_gd (inb_nI (by omega) (by decide)) (rn_st (ih (m + 1) _ (by omega) (by omega) ?_))))
          rw [← tc_succ']
          exact wr_38 hR hf hm
    have all : ∀ x, Rn (F_X12_drumIsDone_16 x R) (fun r D => r = 0 ∧ RR n none D (z_v 1 (sv 45 0 0 0 (z_tc 16 k s f a)))) := by
      intro x
      unfold F_X12_drumIsDone_16 F_X12_isWritten F_X12_isWritten_43 F_X12_isWritten_44
      rw [r45, d1]
      refine rn_bdE (r := 0) (C := R) (by rw [if_neg (by decide)]; rfl) (rn_pos rfl ?_)
      unfold F_X12_drumIsDone_73
      rw [r45, d1]
      refine rn_pos rfl (loop 1000 0 R (by omega) (by omega) ?_)
      rw [tc0]
      exact h
    exact rn_if (fun _ => all _) (fun _ => all _)
theorem m_done {n : Nat} {x : Int32} {R : St} {a : AS} (h : RR n none R a) (hn : n ≤ 12) (hQ : MZ a) (hD : MD n a) : Rn (F_X12_done x R) (fun r D => r = (z_done x a).1 ∧ RR n none D (z_done x a).2) := by
  unfold F_X12_done F_X12_done_17 F_X12_done_41 F_X12_done_65
  rw [rr_45 h, rr_52 h, rr_53 h]
  by_cases e : x = 0
  · by_cases c : av a 45 0 0 = 0
    · have hz : z_done x a = (0, a) := by
        unfold z_done
        rw [if_pos e, if_pos c]
      rw [hz]
      refine rn_pos e (rn_pos (by rw [c]; decide) (rn_neg (by rw [e]; decide) (rn_neg (by rw [e]; decide) (rn_ret ⟨rfl, h⟩))))
    · have hz : z_done x a = (1, z_drum a) := by
        unfold z_done
        rw [if_pos e, if_neg c]
      rw [hz]
      have : ¬ av a 45 0 0 ≤ 0 := by
        rcases (hD c).1 with y | y <;> rw [y] <;> decide
      refine rn_pos e (rn_neg this (rn_bd (m_drum h hn hQ hD c) ?_))
      rintro _ D ⟨-, hD⟩
      exact rn_ret ⟨rfl, hD⟩
  · refine rn_neg e ?_
    by_cases e1 : x = 1
    · refine rn_pos e1 (rn_if (fun c => ?_) (fun c => ?_))
      · have hz : z_done x a = (0, a) := by
          unfold z_done
          rw [if_neg e, if_pos e1, if_pos c]
        rw [hz]
        exact rn_neg (by rw [e1]; decide) (rn_ret ⟨rfl, h⟩)
      · have hz : z_done x a = (1, z_rdone a) := by
          unfold z_done
          rw [if_neg e, if_pos e1, if_neg c]
        rw [hz]
        refine rn_st (rn_bd (m_vq (s := 3) (wr_52 (x := 0) h) hQ (by decide) (fun s => av_o (by decide)) rfl) ?_)
        rintro _ D ⟨-, hD⟩
        exact rn_ret ⟨rfl, hD⟩
    · refine rn_neg e1 (rn_if (fun e2 => rn_if (fun c => ?_) (fun c => ?_)) (fun e2 => ?_))
      · have hz : z_done x a = (0, a) := by
          unfold z_done
          rw [if_neg e, if_neg e1, if_pos e2, if_pos c]
        rw [hz]
        exact rn_ret ⟨rfl, h⟩
      · have hz : z_done x a = (1, z_pdone a) := by
          unfold z_done
          rw [if_neg e, if_neg e1, if_pos e2, if_neg c]
        rw [hz]
        refine rn_st (rn_bd (m_vq (s := 5) (wr_53 (x := 0) h) hQ (by decide) (fun s => av_o (by decide)) rfl) ?_)
        rintro _ D ⟨-, hD⟩
        exact rn_ret ⟨rfl, hD⟩
      · have hz : z_done x a = (0, a) := by
          unfold z_done
          rw [if_neg e, if_neg e1, if_neg e2]
        rw [hz]
        exact rn_ret ⟨rfl, h⟩
theorem m_type {n L m : Nat} {x : Int32} {R : St} {a : AS} (h : RR n none R a) (hQ : MZ a) (hT : TY L m a) : Rn (F_X12_type x R) (fun r D => r = (z_type x a).1 ∧ RR n none D (z_type x a).2) := by
  obtain ⟨t2, t3, t5, t6, t7⟩ := hT
  have n67 : nv a 67 0 0 = L := by unfold nv; rw [t5, nI_clamp (by omega)]
  have n68 : nv a 68 0 0 = m := by unfold nv; rw [t6, nI_clamp (by omega)]
  have hz : z_type x a = if x = 10 then (if nI m < 8 then (1, z_v 6 (z_nl L m a)) else (0, a)) else if x < 32 ∨ 126 < x ∨ 20 ≤ nI L then (0, a) else (1, sv 67 0 0 (nI L + 1) (sv 63 L 0 x a)) := by
    unfold z_type
    rw [n67, n68, t5, t6]
  unfold F_X12_type F_X12_type_110
  rw [rr_67 h, rr_68 h, t5, t6]
  by_cases c : x = 10
  · rw [if_pos c] at hz
    refine rn_pos c ?_
    by_cases c8 : m < 8
    · rw [if_pos (show nI m < 8 from nI_lt (b := 8) c8 (by decide))] at hz
      rw [hz]
      refine rn_neg (fun y => by have := (nI_eq (b := 8) (by omega) (by decide)).mp y; omega) ?_
      have key : ∀ fu i D, L < fu + i → i ≤ L → RR n none D (z_cpr i m a) → Rn (F_X12_type_19 fu (nI i) D) (fun r D => r = 1 ∧ RR n none D (z_v 6 (z_nl L m a))) := by
        intro fu
        induction fu with
        | zero => intro i D x1 x2; omega
        | succ fu ih =>
          intro i D x1 x2 hD
          have e : ∀ g, g ≠ 64 → ∀ b c, av (z_cpr i m a) g b c = av a g b c := fun g y1 b c => by rw [av_cpr, if_neg (fun z => y1 z.1)]
          unfold F_X12_type_19
          rw [rr_67 hD, rr_68 hD, e 67 (by decide), e 68 (by decide), t5, t6]
          by_cases ei : i = L
          · subst ei
            refine rn_pos (nI_le (Nat.le_refl _) (by omega)) (rn_gd (inb_nI c8 (by decide)) (rn_st ?_))
            rw [show (nI m).toNatClampNeg = m from nI_clamp (by omega)]
            have h65 := wr_65 (x := nI i) hD c8
            have e68 : av (sv 65 m 0 (nI i) (z_cpr i m a)) 68 0 0 = nI m := by rw [av_o (by decide), e 68 (by decide), t6]
            rw [rr_68 h65, e68, nI_1]
            refine rn_st (rn_st ?_)
            have hE := wr_67 (x := 0) (wr_68 (x := nI (m + 1)) h65)
            have ez : sv 67 0 0 0 (sv 68 0 0 (nI (m + 1)) (sv 65 m 0 (nI i) (z_cpr i m a))) = z_nl i m a := by
              unfold z_nl
              refine as_ext (fun g b c => ?_) (fun q => rfl)
              simp only [av_sv]
              by_cases y1 : g = 67 ∧ b = 0 ∧ c = 0
              · obtain ⟨rfl, rfl, rfl⟩ := y1
                simp
              · rw [if_neg y1, if_neg y1]
            rw [ez] at hE
            refine rn_bd (m_vq (s := 6) hE hQ (by decide) (fun s => ?_) rfl) ?_
            · rw [← ez, av_o (by decide), av_o (by decide), av_o (by decide), e 71 (by decide)]
            rintro _ G ⟨-, hG⟩
            exact rn_ret ⟨rfl, hG⟩
          · have hi : i < L := by omega
            rw [show (20 : Int32) * nI m + nI i = nI (20 * m + i) from mulN 20 m i, show (nI (20 * m + i)).toNatClampNeg = 20 * m + i from nI_clamp (by omega), show (nI i).toNatClampNeg = i from nI_clamp (by omega), rr_63 hD (by omega), e 63 (by decide), nI_1]
            refine rn_neg (nI_ge hi (by omega)) (rn_gd (inb_nI (by omega) (by decide)) (rn_gd (inb_nI (by omega) (by decide)) (rn_st (ih (i + 1) _ (by omega) (by omega) ?_))))
            rw [← cpr_succ]
            exact wr_64 hD c8 (by omega)
      refine key 1000 0 R (by omega) (by omega) ?_
      rw [cpr0]
      exact h
    · rw [if_neg (show ¬ nI m < 8 from nI_nlt (b := 8) (by omega) (by omega))] at hz
      rw [hz]
      have : m = 8 := by omega
      exact rn_pos (by rw [this]; rfl) (rn_ret ⟨rfl, h⟩)
  · rw [if_neg c] at hz
    refine rn_neg c ?_
    by_cases c2 : x < 32 ∨ 126 < x ∨ (20 : Int32) ≤ nI L
    · rw [if_pos c2] at hz
      rw [hz]
      refine rn_if (fun _ => rn_ret ⟨rfl, h⟩) (fun e1 => rn_if (fun _ => rn_ret ⟨rfl, h⟩) (fun e2 => rn_if (fun _ => rn_ret ⟨rfl, h⟩) (fun e3 => ?_)))
      have h20 := (c2.resolve_left e1).resolve_left e2
      have : L = 20 := by
        have := (nI_leI (a := 20) (by decide) (by omega)).mp h20
        omega
      exact absurd (by rw [this]; rfl) e3
    · rw [if_neg c2] at hz
      rw [hz]
      rw [not_or, not_or] at c2
      obtain ⟨c3, c4, c5⟩ := c2
      have hL : L < 20 := Classical.byContradiction fun hh => c5 (nI_le (a := 20) (by omega) (by omega))
      refine rn_neg c3 (rn_neg c4 (rn_neg (fun y => by have := (nI_eq (b := 20) (by omega) (by decide)).mp y; omega) (rn_gd (inb_nI hL (by decide)) (rn_st ?_))))
      rw [show (nI L).toNatClampNeg = L from nI_clamp (by omega)]
      have h2 := wr_63 (x := x) h hL
      rw [rr_67 h2, av_o (by decide), t5]
      exact rn_st (rn_ret ⟨rfl, wr_67 h2⟩)
theorem m_feed {n t : Nat} {x1 x2 x3 x4 : Int32} {R : St} {a : AS} (h : RR n none R a) (ht : av a 4 0 0 = nI t) (ht2 : t ≤ 200) : Rn (F_X12_feed x1 x2 x3 x4 R) (fun r D => r = (z_feed x1 x2 x3 x4 a).1 ∧ RR n none D (z_feed x1 x2 x3 x4 a).2) := by
  have n4 : nv a 4 0 0 = t := by unfold nv; rw [ht, nI_clamp (by omega)]
  have hz : z_feed x1 x2 x3 x4 a = if nI (t + 4) ≤ 200 then (nI (t + 4), sv 4 0 0 (nI (t + 4)) (sv 3 (t + 3) 0 x4 (sv 3 (t + 2) 0 x3 (sv 3 (t + 1) 0 x2 (sv 3 t 0 x1 a))))) else (-1, a) := by
    unfold z_feed
    rw [ht, n4, show nI t + 4 = nI (t + 4) from nI_add t 4]
  unfold F_X12_feed
  rw [rr_4 h, ht, show nI t + 4 = nI (t + 4) from nI_add t 4, hz]
  by_cases c : t + 4 ≤ 200
  · have c2 : nI (t + 4) ≤ (200 : Int32) := nI_le (b := 200) c (by decide)
    refine rn_pos c2 ?_
    rw [if_pos c2, show (nI t).toNatClampNeg = t from nI_clamp (by omega)]
    refine rn_gd (inb_nI (by omega) (by decide)) (rn_st ?_)
    have h1 := wr_3 (x := x1) h (show t < 200 by omega)
    rw [rr_4 h1, av_o (by decide), ht, show nI t + 1 = nI (t + 1) from nI_add t 1, show (nI (t + 1)).toNatClampNeg = t + 1 from nI_clamp (by omega)]
    refine rn_gd (inb_nI (by omega) (by decide)) (rn_st ?_)
    have h2 := wr_3 (x := x2) h1 (show t + 1 < 200 by omega)
    rw [rr_4 h2, av_o (by decide), av_o (by decide), ht, show nI t + 2 = nI (t + 2) from nI_add t 2, show (nI (t + 2)).toNatClampNeg = t + 2 from nI_clamp (by omega)]
    refine rn_gd (inb_nI (by omega) (by decide)) (rn_st ?_)
    have h3 := wr_3 (x := x3) h2 (show t + 2 < 200 by omega)
    rw [rr_4 h3, av_o (by decide), av_o (by decide), av_o (by decide), ht, show nI t + 3 = nI (t + 3) from nI_add t 3, show (nI (t + 3)).toNatClampNeg = t + 3 from nI_clamp (by omega)]
    refine rn_gd (inb_nI (by omega) (by decide)) (rn_st ?_)
    have h4 := wr_3 (x := x4) h3 (show t + 3 < 200 by omega)
    rw [rr_4 h4, av_o (by decide), av_o (by decide), av_o (by decide), av_o (by decide), ht, show nI t + 4 = nI (t + 4) from nI_add t 4]
    have h5 := wr_4 (x := nI (t + 4)) h4
    refine rn_st ?_
    rw [rr_4 h5, av_s]
    exact rn_ret ⟨rfl, h5⟩
  · have c2 : ¬ nI (t + 4) ≤ (200 : Int32) := nI_ge (a := 200) (by omega) (by omega)
    refine rn_neg c2 ?_
    rw [if_neg c2]
    exact rn_ret ⟨rfl, h⟩
