/-! The class: reader and printer -/
theorem wCa {n : Nat} {C : St} {a a' : AS} (h : RC n C a) (e : ∀ g b c, g ≠ 35 → av a' g b c = av a g b c) (el : ∀ q, al a' q = al a q) : RC n C a' := by
  obtain ⟨h1, h2, h3, h4, h5⟩ := h
  refine ⟨fun f i j ho => ?_, fun f hf => ?_, h3, ?_, fun q hq => ?_⟩
  · rw [e f i j (by rintro rfl; exact ho)]
    exact h1 f i j ho
  · rw [e 39 f 0 (by decide)]
    exact h2 f hf
  · rw [el]; exact h4
  · rw [el]; exact h5 q hq
theorem RC_lines {n k : Nat} {C D : St} {a a' : AS} (h : RC n C a) (e : ∀ q b t c, ¬ (q = 3 ∧ b = k + 2) → ¬ (q = 2 ∧ b = k + 2) → D q b t c = C q b t c) (ea : ∀ g b c, ¬ (g = 33 ∧ b = k) → ¬ (g = 34 ∧ b = k) → av a' g b c = av a g b c) (el : ∀ q, al a' q = al a q) (h33 : ∀ j, j < 24 → D 3 (k + 2) 0 j = av a' 33 k j) (h34 : D 2 (k + 2) 1 0 = av a' 34 k 0) : RC n D a' := by
  obtain ⟨h1, h2, h3, h4, h5⟩ := h
  refine ⟨fun f i j ho => ?_, fun f hf => ?_, ⟨fun t ht => ?_, fun t ht => ?_⟩, ⟨?_, ?_, ?_, fun b p hb => ?_⟩, fun q hq => ?_⟩
  · by_cases c1 : f = 33 ∧ i = k
    · obtain ⟨rfl, rfl⟩ := c1
      exact h33 j ho.2
    · by_cases c2 : f = 34 ∧ i = k
      · obtain ⟨rfl, rfl⟩ := c2
        obtain ⟨-, rfl⟩ := ho
        exact h34
      · rw [ea f i j c1 c2, ← h1 f i j ho]
        have e1 := nvC_ok ho
        unfold atC
        refine e _ _ _ _ ?_ ?_
        · intro hh
          have e2 : (nvC (adC f i j)).1 = 33 ∧ (nvC (adC f i j)).2.1 = k := by
            unfold nvC
            simp [hh.1, hh.2]
          rw [e1] at e2
          exact c1 e2
        · intro hh
          have e2 : (nvC (adC f i j)).1 = 34 ∧ (nvC (adC f i j)).2.1 = k := by
            unfold nvC
            simp [hh.1, hh.2]
          rw [e1] at e2
          exact c2 e2
  · rw [ea 39 f 0 (by simp) (by simp), e 14 f 1 0 (by simp) (by simp), e 14 f 3 0 (by simp) (by simp)]
    exact h2 f hf
  · rw [e 6 t 0 0 (by simp) (by simp)]; exact h3.1 t ht
  · rw [e 5 t 1 0 (by simp) (by simp), e 5 t 2 0 (by simp) (by simp)]; exact h3.2 t ht
  · rw [e 2 0 1 0 (by simp) (by simp), el]; exact h4.1
  · rw [el]; exact h4.2.1
  · rw [el]; exact h4.2.2.1
  · rw [el] at hb
    rw [e 3 0 0 b (by simp) (by simp)]; exact h4.2.2.2 b p hb
  · rw [el]
    obtain ⟨q1, q2, q3, q4, q5, q6⟩ := h5 q hq
    refine ⟨?_, q2, q3, fun b p hb => ?_, fun b hb hb2 => ?_, ?_⟩
    · rw [e 17 q 2 0 (by simp) (by simp)]; exact q1
    · rw [e 18 q 0 b (by simp) (by simp)]; exact q4 b p hb
    · rw [e 18 q 0 b (by simp) (by simp)]; exact q5 b hb hb2
    · rw [e 17 q 3 0 (by simp) (by simp)]; exact q6
def z_read (k : Nat) (a : AS) : AS := if av a 27 k 0 ≤ 0 ∨ av a 31 k 0 ≤ av a 32 k 0 then z_trap k a else z_v 2 (z_susp k 2 (sl 3 (al a 3 ++ [k]) a))
theorem k_rd {n k : Nat} {C : St} {a : AS} (h : RC n C a) (hk : k < 6) (hl : (al a 3).length < 10) : Rn (F_X3_read n (nI k) C) (fun r D => r = 0 ∧ RC n D (z_read k a)) := by
  unfold F_X3_read F_X3_read_15 z_read
  have trap : Rn (gd (inb (nI k) 6) (st (up C 6 (nI k).toNatClampNeg 8 0 (4 : Int32)) (fun D2 => some (0, D2)))) (fun r D => r = 0 ∧ RC n D (z_trap k a)) := by
    rw [nI_clamp (by omega)]
    exact rn_gd (inb_nI hk (by decide)) (rn_st (rn_ret ⟨rfl, wc_16 h hk⟩))
  refine rn_gd (inb_nI hk (by decide)) (rn_bdE (k_held (r := 0) h hk (by decide) rfl) (rn_if (fun e => ?_) (fun e => ?_)))
  · rw [if_pos (Or.inl e)]
    exact trap
  · refine rn_bdE (k_hasCard h hk) ?_
    by_cases e2 : av a 31 k 0 ≤ av a 32 k 0
    · rw [if_pos e2, if_pos (show av a 27 k 0 ≤ 0 ∨ av a 31 k 0 ≤ av a 32 k 0 from Or.inr e2)]
      exact rn_pos rfl trap
    · rw [if_neg e2, if_neg (show ¬ (av a 27 k 0 ≤ 0 ∨ av a 31 k 0 ≤ av a 32 k 0) from fun o => o.elim e e2)]
      refine rn_neg (by decide) (rn_bd (k_add (q := 2) h (by decide) hk hl) ?_)
      rintro _ D ⟨-, hD⟩
      rw [nI_clamp (by omega), k_num hD hk]
      refine rn_bd (k_susp hD (by omega)) ?_
      rintro _ E ⟨-, hE⟩
      refine rn_bd (k_v (s := 2) hE (by decide)) ?_
      rintro _ G ⟨-, hG⟩
      exact rn_ret ⟨rfl, hG⟩
/-- a card comes to job k, its card c -/
def z_card (n k c : Nat) (a : AS) : AS := sv 54 0 0 (-1) (z_wake k (z_comp n k (av a 18 k 0 + 1) (sv 19 k 0 (av a 30 k c) (sv 32 k 0 (nI (c + 1)) a))))
def z_take1 (k : Nat) (t : List Nat) (a : AS) : AS := sv 52 0 0 1 (sv 54 0 0 (nI k) (sl 3 t a))
def z_reading (n : Nat) (a : AS) : AS :=
  if av a 54 0 0 < 0 then (match al a 3 with
    | [] => a
    | k :: t => z_p 3 (z_take1 k t a))
  else z_p 2 (z_card n (av a 54 0 0).toNatClampNeg (av a 32 (av a 54 0 0).toNatClampNeg 0).toNatClampNeg a)
theorem k_reading {n : Nat} {C : St} {a : AS} (h : RC n C a) (hn : n ≤ 12) (h0 : av a 54 0 0 < 0 → al a 3 ≠ []) (h1 : ¬ av a 54 0 0 < 0 → ∃ k c, k < 6 ∧ c < 40 ∧ av a 54 0 0 = nI k ∧ av a 32 k 0 = nI c ∧ ¬ av a 31 k 0 ≤ av a 32 k 0) : Rn (F_X3_readingStep n C) (fun r D => r = 0 ∧ RC n D (z_reading n a)) := by
  unfold F_X3_readingStep F_X3_readingStep_117 z_reading
  rw [rc_54 h]
  refine rn_if (fun e => ?_) (fun e => ?_)
  · rw [if_pos e]
    refine rn_bdE (k_isEmpty (q := 2) h (by decide)) ?_
    cases hl : al a 3 with
    | nil => exact absurd hl (h0 e)
    | cons k t =>
      have hl2 : al a (2 + 1) = k :: t := hl
      have hk : k < 6 := (h.2.2.2.2 2 (by decide)).2.2.1 k (by rw [hl2]; simp)
      rw [if_neg (show ¬ k :: t = [] by simp)]
      refine rn_pos rfl (rn_bd (k_remove (q := 2) (i := 0) (p := k) h (by decide) (by rw [hl2]; rfl)) ?_)
      rintro _ D ⟨rfl, hD⟩
      rw [hl2] at hD
      have hD : RC n D (sl 3 t a) := hD
      refine rn_gd (okr_nI hk (by decide)) (rn_st (rn_st (rn_bd (k_p (s := 3) (wc_52 (x := 1) (wc_54 hD)) (by decide)) ?_)))
      rintro _ G ⟨-, hG⟩
      exact rn_ret ⟨rfl, hG⟩
  · rw [if_neg e]
    obtain ⟨k, c, hk, hc, e54, e32, hm⟩ := h1 e
    rw [e54, nI_clamp (by omega), e32, nI_clamp (by omega)]
    refine rn_gd (inb_nI hk (by decide)) (rn_bd (k_takeCard h hk e32 hc hm) ?_)
    rintro _ D ⟨rfl, hD⟩
    refine rn_st ?_
    have hE := wc_19 (x := av a 30 k c) hD hk
    rw [rc_54 hE, av_o (by decide), av_o (by decide), e54, nI_clamp (by omega), rc_18 hE hk, av_o (by decide), av_o (by decide)]
    refine rn_gd (inb_nI hk (by decide)) (rn_bd (k_comp hE hn hk) ?_)
    rintro _ G ⟨-, hG⟩
    rw [rc_54 hG, vo_comp (by decide) (by decide) (by decide), av_o (by decide), av_o (by decide), e54, nI_clamp (by omega), k_num hG hk]
    refine rn_gd (inb_nI hk (by decide)) (rn_bd (k_wake hG (by omega)) ?_)
    rintro _ J ⟨-, hJ⟩
    refine rn_st (rn_bd (k_p (s := 2) (wc_54 hJ) (by decide)) ?_)
    rintro _ L ⟨-, hL⟩
    exact rn_ret ⟨rfl, hL⟩
def z_rdone (a : AS) : AS := z_v 3 (sv 52 0 0 0 a)
theorem k_rdone {n : Nat} {C : St} {a : AS} (h : RC n C a) : Rn (F_X3_readerIsDone n C) (fun r D => if av a 52 0 0 = 0 then r = 0 ∧ RC n D a else r = 1 ∧ RC n D (z_rdone a)) := by
  unfold F_X3_readerIsDone
  rw [rc_52 h]
  refine rn_if (fun e => ?_) (fun e => ?_)
  · refine rn_ret ?_
    rw [if_pos e]
    exact ⟨rfl, h⟩
  · refine rn_st (rn_bd (k_v (s := 3) (wc_52 h) (by decide)) ?_)
    rintro _ G ⟨-, hG⟩
    refine rn_ret ?_
    rw [if_neg e]
    exact ⟨rfl, hG⟩
def z_pdone (a : AS) : AS := z_v 5 (sv 53 0 0 0 a)
theorem k_pdone {n : Nat} {C : St} {a : AS} (h : RC n C a) : Rn (F_X3_printerIsDone n C) (fun r D => if av a 53 0 0 = 0 then r = 0 ∧ RC n D a else r = 1 ∧ RC n D (z_pdone a)) := by
  unfold F_X3_printerIsDone
  rw [rc_53 h]
  refine rn_if (fun e => ?_) (fun e => ?_)
  · refine rn_ret ?_
    rw [if_pos e]
    exact ⟨rfl, h⟩
  · refine rn_st (rn_bd (k_v (s := 5) (wc_53 h) (by decide)) ?_)
    rintro _ G ⟨-, hG⟩
    refine rn_ret ?_
    rw [if_neg e]
    exact ⟨rfl, hG⟩
/-- a line is printed -/
def z_line (k : Nat) (a : AS) : AS := sv 34 k 0 (av a 34 k 0 + 1) (sv 33 k (av a 34 k 0).toNatClampNeg (av a 19 k 0) a)
def z_print (n k : Nat) (a : AS) : AS := if av a 27 k 1 ≤ 0 ∨ ¬ 0 < av a 27 k 2 then z_trap k a else if av a 34 k 0 < 4 * av a 27 k 2 then z_v 4 (z_comp n k (av a 18 k 0 + 1) (z_line k a)) else z_susp k 3 a
theorem rl_k (k : Nat) : rowLen (k + 2) = 24 := by
  unfold rowLen
  rw [if_neg (by omega), if_neg (by omega)]
theorem k_print {n k m : Nat} {C : St} {a : AS} (h : RC n C a) (hn : n ≤ 12) (hk : k < 6) (hm : av a 34 k 0 = nI m) (hm2 : av a 34 k 0 < 4 * av a 27 k 2 → m < 24) : Rn (F_X3_print n (nI k) C) (fun r D => r = 0 ∧ RC n D (z_print n k a)) := by
  unfold F_X3_print F_X3_print_16 F_X3_print_88 z_print
  have trap : Rn (gd (inb (nI k) 6) (st (up C 6 (nI k).toNatClampNeg 8 0 (4 : Int32)) (fun D2 => some (0, D2)))) (fun r D => r = 0 ∧ RC n D (z_trap k a)) := by
    rw [nI_clamp (by omega)]
    exact rn_gd (inb_nI hk (by decide)) (rn_st (rn_ret ⟨rfl, wc_16 h hk⟩))
  refine rn_gd (inb_nI hk (by decide)) (rn_bdE (k_held (r := 1) h hk (by decide) rfl) (rn_if (fun e => ?_) (fun e => ?_)))
  · rw [if_pos (Or.inl e)]
    exact trap
  · refine rn_bdE (k_held (r := 2) h hk (by decide) rfl) (rn_if (fun e2 => ?_) (fun e2 => ?_))
    · rw [if_neg (fun o => o.elim e (fun x => x e2))]
      rw [nI_clamp (by omega)]
      unfold F_X8_size
      refine rn_bdE rfl (rn_bdE (k_held (r := 2) h hk (by decide) rfl) ?_)
      rw [rc_34 h hk]
      refine rn_if (fun e3 => ?_) (fun e3 => ?_)
      · rw [if_pos e3]
        have hm3 := hm2 e3
        refine rn_bdE (k_append (i := k + 2) (m := m) (by rw [rc_34 h hk, hm]) (by rw [rl_k]; exact hm3)) ?_
        rw [rc_19 h hk]
        have h1 : RC n (up (up C 3 (k + 2) 0 m (av a 19 k 0)) 2 (k + 2) 1 0 (nI (m + 1))) (sv 34 k 0 (nI (m + 1)) (sv 33 k m (av a 19 k 0) a)) := wc_34 (wc_33 h hk hm3) hk
        have ez : z_line k a = sv 34 k 0 (nI (m + 1)) (sv 33 k m (av a 19 k 0) a) := by
          unfold z_line
          rw [hm, nI_1, nI_clamp (by omega)]
        rw [← ez] at h1
        have e18 : av (z_line k a) 18 k 0 = av a 18 k 0 := by
          unfold z_line
          rw [av_o (by decide), av_o (by decide)]
        rw [rc_18 h1 hk, e18]
        refine rn_bd (k_comp h1 hn hk) ?_
        rintro _ D ⟨-, hD⟩
        refine rn_bd (k_v (s := 4) hD (by decide)) ?_
        rintro _ G ⟨-, hG⟩
        exact rn_ret ⟨rfl, hG⟩
      · rw [if_neg e3, k_num h hk]
        refine rn_bd (k_susp h (by omega)) ?_
        rintro _ D ⟨-, hD⟩
        exact rn_ret ⟨rfl, hD⟩
    · rw [if_pos (Or.inr e2)]
      exact trap
/-- the first of m lines goes -/
def z_shift (k m : Nat) (a : AS) : AS := sv 34 k 0 (nI (m - 1)) (fun g b c => if g = 33 ∧ b = k ∧ c + 1 < m then a.1 33 k (c + 1) else a.1 g b c, a.2)
theorem av_shift (k m : Nat) (a : AS) (g b c : Nat) : av (z_shift k m a) g b c = if g = 34 ∧ b = k ∧ c = 0 then nI (m - 1) else if g = 33 ∧ b = k ∧ c + 1 < m then av a 33 k (c + 1) else av a g b c := rfl
def z_out (k : Nat) (a : AS) : AS := sv 36 k 0 (av a 36 k 0 + 1) (sv 72 0 0 (av a 72 0 0 + 1) (sv 77 (av a 72 0 0).toNatClampNeg 0 (av a 23 k 0) (sv 76 (av a 72 0 0).toNatClampNeg 0 (av a 33 k 0) (sv 35 k (av a 36 k 0).toNatClampNeg (av a 33 k 0) a))))
def z_put (k : Nat) (a : AS) : AS := z_shift k (av a 34 k 0).toNatClampNeg (z_out k a)
theorem k_put {n k m pc : Nat} {C : St} {a : AS} (h : RC n C a) (hk : k < 6) (hm : av a 34 k 0 = nI m) (hm0 : 0 < m) (hm2 : m ≤ 24) (hp : av a 72 0 0 = nI pc) (hp2 : pc < 512) : Rn (F_X3_putOnPaper n (nI k) C) (fun r D => r = 0 ∧ RC n D (z_put k a)) := by
  unfold F_X3_putOnPaper F_X3_putOnPaper_67
  have h0 : RC n C (sv 35 k (av a 36 k 0).toNatClampNeg (av a 33 k 0) a) := wCa h (fun g b c hg => av_o hg) (fun q => rfl)
  have c2 : C 2 (k + 2) 1 0 = nI m := by rw [rc_34 h hk, hm]
  have e33 : C 3 (k + 2) 0 0 = av a 33 k 0 := rc_33 h hk (by decide)
  rw [rc_72 h, hp, nI_clamp (by omega), nI_clamp (by omega)]
  refine rn_neg (nI_pos (by omega)) (rn_neg (nI_ge (b := 512) hp2 (by decide)) (rn_gd (inb_nI hk (by decide)) (rn_bdE (k_at (j := 0) c2 (by rw [rl_k]; exact hm2) (by decide)) ?_)))
  rw [if_pos hm0, e33]
  refine rn_gd (inb_nI hp2 (by decide)) (rn_st ?_)
  have h1 : RC n (up C 24 0 0 pc (av a 33 k 0)) _ := wc_76 (x := av a 33 k 0) h0 hp2
  rw [rc_72 h1, av_o (by decide), av_o (by decide), hp, nI_clamp (by omega), rc_23 h1 hk, av_o (by decide), av_o (by decide)]
  refine rn_gd (inb_nI hp2 (by decide)) (rn_st ?_)
  have h2 := wc_77 (x := av a 23 k 0) h1 hp2
  rw [rc_72 h2, av_o (by decide), av_o (by decide), av_o (by decide), hp]
  refine rn_st ?_
  have h3 := wc_72 (x := nI pc + 1) h2
  rw [rc_36 h3 hk, av_o (by decide), av_o (by decide), av_o (by decide), av_o (by decide)]
  refine rn_st ?_
  have h4 := wc_36 (x := av a 36 k 0 + 1) h3 hk
  have ez : z_out k a = sv 36 k 0 (av a 36 k 0 + 1) (sv 72 0 0 (nI pc + 1) (sv 77 pc 0 (av a 23 k 0) (sv 76 pc 0 (av a 33 k 0) (sv 35 k (av a 36 k 0).toNatClampNeg (av a 33 k 0) a)))) := by
    unfold z_out
    rw [hp, nI_clamp (by omega)]
  rw [← ez] at h4
  have e34 : av (z_out k a) 34 k 0 = nI m := by
    unfold z_out
    rw [av_o (by decide), av_o (by decide), av_o (by decide), av_o (by decide), av_o (by decide), hm]
  refine rn_gd (inb_nI hk (by decide)) ?_
  refine rn_bd (k_removeAt (i := k + 2) (i0 := 0) (m := m) (by rw [rl_k]; exact hm2) (by omega) hm0 (by rw [rc_34 h4 hk, e34])) ?_
  rintro _ E ⟨-, e1, e2, e3⟩
  refine rn_ret ⟨rfl, ?_⟩
  unfold z_put
  rw [hm, nI_clamp (by omega)]
  refine RC_lines (k := k) h4 (fun q b t c x1 x2 => e3 q b t c (fun hh => x1 ⟨hh.1, hh.2.1⟩) (fun hh => x2 ⟨hh.1, hh.2.1⟩)) (fun g b c x1 x2 => ?_) (fun q => rfl) (fun j hj => ?_) ?_
  · rw [av_shift, if_neg (fun hh => x2 ⟨hh.1, hh.2.1⟩), if_neg (fun hh => x1 ⟨hh.1, hh.2.1⟩)]
  · rw [e2 j, av_shift]
    by_cases c : j + 1 < m
    · simp only [c, Nat.zero_le, and_self, if_true, show ¬ (33 : Nat) = 34 by decide, false_and, if_false]
      exact rc_33 h4 hk (by omega)
    · simp only [c, and_false, if_false, show ¬ (33 : Nat) = 34 by decide, false_and]
      exact rc_33 h4 hk hj
  · rw [e1, av_shift, if_pos ⟨rfl, rfl, rfl⟩]
def z_wakeP (k : Nat) (a : AS) : AS := if av a 10 k 0 = 3 ∨ (av a 10 k 0 = 4 ∧ av a 34 k 0 = 0) then z_wake k a else a
theorem k_wakeP {n k : Nat} {C : St} {a : AS} (h : RC n C a) (hk : k < 6) : Rn (F_X3_wakePrinted n (nI k) C) (fun r D => r = 0 ∧ RC n D (z_wakeP k a)) := by
  unfold F_X3_wakePrinted F_X3_wakePrinted_31 F_X3_wakePrinted_32 F_X3_wakePrinted_42 F_X3_wakePrinted_53 F_X8_size
  rw [nI_clamp (by omega), k_num h hk]
  have wk : Rn (gd (inb (nI k) 6) (bd2 (F_X7_wake n (C 6 k 0 0) C) (fun _ D3 => some (0, D3)))) (fun r D => r = 0 ∧ RC n D (z_wake k a)) := by
    rw [k_num h hk]
    refine rn_gd (inb_nI hk (by decide)) (rn_bd (k_wake h (by omega)) ?_)
    rintro _ D ⟨-, hD⟩
    exact rn_ret ⟨rfl, hD⟩
  refine rn_gd (inb_nI hk (by decide)) (rn_bdE (k_cause h (by omega)) (rn_if (fun e => ?_) (fun e => ?_)))
  · refine rn_bdE rfl ?_
    rw [rc_34 h hk, e]
    refine rn_if (fun e2 => rn_neg (by decide) (rn_neg (by decide) ?_)) (fun e2 => rn_neg (by decide) (rn_pos rfl (rn_ret ⟨rfl, ?_⟩)))
    · unfold z_wakeP
      rw [if_pos (Or.inr ⟨e, e2⟩)]
      exact wk
    · unfold z_wakeP
      rw [if_neg]
      · exact h
      · rintro (o | o)
        · rw [e] at o; exact absurd o (by decide)
        · exact e2 o.2
  · refine rn_if (fun e2 => ?_) (fun e2 => rn_pos rfl (rn_ret ⟨rfl, ?_⟩))
    · unfold z_wakeP
      rw [if_pos (Or.inl e2)]
      exact wk
    · unfold z_wakeP
      rw [if_neg (fun o => o.elim e2 (fun x => e x.1))]
      exact h
def z_take2 (k : Nat) (a : AS) : AS := sv 53 0 0 1 (sv 55 0 0 (nI k) a)
def z_printing (a : AS) : AS :=
  if av a 55 0 0 < 0 then (match z_hold a with
    | none => a
    | some k => z_p 5 (z_take2 k a))
  else z_p 4 (sv 55 0 0 (-1) (z_wakeP (av a 55 0 0).toNatClampNeg (z_put (av a 55 0 0).toNatClampNeg a)))
theorem vo_put {k : Nat} {a : AS} {g b c : Nat} (h1 : g ≠ 33) (h2 : g ≠ 34) (h3 : g ≠ 35) (h4 : g ≠ 36) (h5 : g ≠ 72) (h6 : g ≠ 76) (h7 : g ≠ 77) : av (z_put k a) g b c = av a g b c := by
  unfold z_put z_out
  rw [av_shift, if_neg (fun h => h2 h.1), if_neg (fun h => h1 h.1), av_o h4, av_o h5, av_o h7, av_o h6, av_o h3]
theorem hold_lt {a : AS} {k : Nat} (h : z_hold a = some k) : k < 6 := by
  unfold z_hold at h
  exact List.mem_range.mp (List.find?_range_eq_some.mp h).2.1
theorem k_printing {n : Nat} {C : St} {a : AS} (h : RC n C a) (h0 : av a 55 0 0 < 0 → ∃ k, z_hold a = some k) (h1 : ¬ av a 55 0 0 < 0 → ∃ k m pc, k < 6 ∧ av a 55 0 0 = nI k ∧ av a 34 k 0 = nI m ∧ 0 < m ∧ m ≤ 24 ∧ av a 72 0 0 = nI pc ∧ pc < 512) : Rn (F_X3_printingStep n C) (fun r D => r = 0 ∧ RC n D (z_printing a)) := by
  unfold F_X3_printingStep F_X3_printingStep_76 z_printing
  rw [rc_55 h]
  refine rn_if (fun e => ?_) (fun e => ?_)
  · rw [if_pos e]
    obtain ⟨k, hk⟩ := h0 e
    have hk6 := hold_lt hk
    have hof : oI (some k) = nI k := rfl
    refine rn_bdE (k_hold h) ?_
    rw [hk, hof]
    refine rn_st ?_
    have h2 : RC n (up C 23 0 11 0 (nI k)) (sv 55 0 0 (nI k) a) := wc_55 h
    rw [rc_55 h2, av_s]
    refine rn_neg (nI_pos (by omega)) (rn_st (rn_bd (k_p (s := 5) (wc_53 h2) (by decide)) ?_))
    rintro _ D ⟨-, hD⟩
    exact rn_ret ⟨rfl, hD⟩
  · rw [if_neg e]
    obtain ⟨k, m, pc, hk, e55, hm, hm0, hm2, hp, hp2⟩ := h1 e
    rw [e55, nI_clamp (by omega)]
    refine rn_bd (k_put h hk hm hm0 hm2 hp hp2) ?_
    rintro _ D ⟨-, hD⟩
    rw [rc_55 hD, vo_put (by decide) (by decide) (by decide) (by decide) (by decide) (by decide) (by decide), e55]
    refine rn_bd (k_wakeP hD hk) ?_
    rintro _ E ⟨-, hE⟩
    refine rn_st (rn_bd (k_p (s := 4) (wc_55 hE) (by decide)) ?_)
    rintro _ G ⟨-, hG⟩
    exact rn_ret ⟨rfl, hG⟩
