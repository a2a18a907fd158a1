/-! The class: a job is submitted -/
def z_renew (k : Nat) (s : Int32) (a : AS) : AS := sv 34 k 0 0 (sv 29 k 0 0 (sv 24 k 0 0 (sv 36 k 0 0 (sv 32 k 0 0 (sv 20 k 0 0 (sv 19 k 0 0 (sv 18 k 0 0 (sv 17 k 0 0 (sv 16 k 0 0 (sv 14 k 0 1 (sv 23 k 0 s a)))))))))))
def z_h0 (m k : Nat) (a : AS) : AS := (fun g b c => if g = 27 ∧ b = k ∧ c < m then 0 else a.1 g b c, a.2)
theorem av_h0 (m k : Nat) (a : AS) (g b c : Nat) : av (z_h0 m k a) g b c = if g = 27 ∧ b = k ∧ c < m then 0 else av a g b c := rfl
theorem h0_succ (m k : Nat) (a : AS) : sv 27 k m 0 (z_h0 m k a) = z_h0 (m + 1) k a := by
  refine as_ext (fun g b c => ?_) (fun q => rfl)
  rw [av_sv, av_h0, av_h0]
  by_cases c1 : g = 27 ∧ b = k ∧ c = m
  · obtain ⟨rfl, rfl, rfl⟩ := c1
    rw [if_pos ⟨rfl, rfl, rfl⟩, if_pos ⟨rfl, rfl, by omega⟩]
  · rw [if_neg c1]
    by_cases c2 : g = 27 ∧ b = k ∧ c < m
    · rw [if_pos c2, if_pos ⟨c2.1, c2.2.1, by omega⟩]
    · rw [if_neg c2, if_neg]
      rintro ⟨d1, d2, d3⟩
      by_cases d5 : c = m
      · exact c1 ⟨d1, d2, d5⟩
      · exact c2 ⟨d1, d2, by omega⟩
theorem h0_0 (k : Nat) (a : AS) : z_h0 0 k a = a := as_ext (fun g b c => by rw [av_h0, if_neg (by omega)]) (fun q => rfl)
theorem k_renew {n k : Nat} {s : Int32} {C : St} {a : AS} (h : RC n C a) (hk : k < 6) : Rn (F_X5_renew n (nI k) s C) (fun r D => r = 0 ∧ RC n D (z_h0 3 k (z_renew k s a))) := by
  have ekk : (nI k).toNatClampNeg = k := nI_clamp (by omega)
  have g6 := inb_nI hk (show 6 < 2 ^ 31 by decide)
  have key : ∀ fu r D, 3 < fu + r → r ≤ 3 → RC n D (z_h0 r k (z_renew k s a)) → Rn (F_X5_renew_64 n fu (nI k) (nI r) D) (fun r D => r = 0 ∧ RC n D (z_h0 3 k (z_renew k s a))) := by
    intro fu
    induction fu with
    | zero => intro r D h1 h2; omega
    | succ fu ih =>
      intro r D h1 h2 hD
      unfold F_X5_renew_64
      rw [ekk]
      refine rn_gd g6 ?_
      by_cases e : r = 3
      · subst e
        exact rn_pos (show (3 : Int32) ≤ nI 3 by decide) (rn_ret ⟨rfl, hD⟩)
      · have hr : r < 3 := by omega
        rw [show (nI r).toNatClampNeg = r from nI_clamp (by omega), nI_1]
        refine rn_neg (nI_ge (b := 3) hr (by decide)) (rn_gd (inb_nI hr (by decide)) (rn_st (ih (r + 1) _ (by omega) (by omega) ?_)))
        rw [← h0_succ]
        exact wc_27 hD hk hr
  unfold F_X5_renew F_X8_clear
  rw [ekk]
  refine rn_gd g6 (rn_st (rn_st (rn_st (rn_st (rn_st (rn_st (rn_st (rn_st (rn_st (rn_st (rn_st ?_)))))))))))
  refine rn_bdE (r := 0) rfl ?_
  refine key 1000 0 _ (by omega) (by omega) ?_
  rw [h0_0]
  exact wc_34 (wc_29 (wc_24 (wc_36 (wc_32 (wc_20 (wc_19 (wc_18 (wc_17 (wc_16 (wc_14 (wc_23 h hk) hk) hk) hk) hk) hk) hk) hk) hk) hk) hk) hk
def z_claim (k : Nat) (x : Int32) (a : AS) : AS := sv 26 k 2 (x / 4) (sv 26 k 1 ((x / 2) - (x / 2) / 2 * 2) (sv 26 k 0 (x - x / 2 * 2) a))
theorem k_claim {n k : Nat} {x : Int32} {C : St} {a : AS} (h : RC n C a) (hk : k < 6) : Rn (F_X5_claim n (nI k) x C) (fun r D => r = 0 ∧ RC n D (z_claim k x a)) := by
  unfold F_X5_claim
  rw [show (nI k).toNatClampNeg = k from nI_clamp (by omega)]
  refine rn_gd (inb_nI hk (by decide)) (rn_gd rfl (rn_st (rn_gd rfl (rn_st (rn_gd rfl (rn_st (rn_ret ⟨rfl, ?_⟩)))))))
  exact wc_26 (j := 2) (wc_26 (j := 1) (wc_26 (j := 0) h hk (by decide)) hk (by decide)) hk (by decide)
def z_ld (m k p : Nat) (a : AS) : AS := (fun g b c => if g = 37 ∧ b = k ∧ c < m then (if c < p then a.1 3 c 0 else 0) else a.1 g b c, a.2)
theorem av_ld (m k p : Nat) (a : AS) (g b c : Nat) : av (z_ld m k p a) g b c = if g = 37 ∧ b = k ∧ c < m then (if c < p then av a 3 c 0 else 0) else av a g b c := rfl
theorem ld_succ (m k p : Nat) (a : AS) : sv 37 k m (if m < p then av a 3 m 0 else 0) (z_ld m k p a) = z_ld (m + 1) k p a := by
  refine as_ext (fun g b c => ?_) (fun q => rfl)
  rw [av_sv, av_ld, av_ld]
  grind
theorem ld0 (k p : Nat) (a : AS) : z_ld 0 k p a = a := as_ext (fun g b c => by rw [av_ld, if_neg (by omega)]) (fun q => rfl)
def z_lc (m k p : Nat) (a : AS) : AS := (fun g b c => if g = 30 ∧ b = k ∧ c < m then a.1 3 (p + c) 0 else a.1 g b c, a.2)
theorem av_lc (m k p : Nat) (a : AS) (g b c : Nat) : av (z_lc m k p a) g b c = if g = 30 ∧ b = k ∧ c < m then av a 3 (p + c) 0 else av a g b c := rfl
theorem lc_succ (m k p : Nat) (a : AS) : sv 30 k m (av a 3 (p + m) 0) (z_lc m k p a) = z_lc (m + 1) k p a := by
  refine as_ext (fun g b c => ?_) (fun q => rfl)
  rw [av_sv, av_lc, av_lc]
  by_cases c1 : g = 30 ∧ b = k ∧ c = m
  · obtain ⟨rfl, rfl, rfl⟩ := c1
    rw [if_pos ⟨rfl, rfl, rfl⟩, if_pos ⟨rfl, rfl, by omega⟩]
  · rw [if_neg c1]
    by_cases c2 : g = 30 ∧ b = k ∧ c < m
    · rw [if_pos c2, if_pos ⟨c2.1, c2.2.1, by omega⟩]
    · rw [if_neg c2, if_neg]
      rintro ⟨d1, d2, d3⟩
      by_cases d5 : c = m
      · exact c1 ⟨d1, d2, d5⟩
      · exact c2 ⟨d1, d2, by omega⟩
theorem lc0 (k p : Nat) (a : AS) : z_lc 0 k p a = a := as_ext (fun g b c => by rw [av_lc, if_neg (by omega)]) (fun q => rfl)
theorem k_tapeAt {n t i : Nat} {C : St} {a : AS} (h : RC n C a) (ht : av a 4 0 0 = nI t) (ht2 : t ≤ 200) (hi : i < t) : F_X8_at n 1 (nI i) C = some (av a 3 i 0, C) := by
  have e := k_at (n := n) (i := 1) (m := t) (j := i) (C := C) (by rw [rc_4 h, ht]) ht2 (by omega)
  rw [e, if_pos hi, rc_3 h (by omega)]
def z_load (k p c : Nat) (a : AS) : AS := z_lc c k p (sv 31 k 0 (nI c) (z_ld 128 k p a))
theorem k_load {n k p c t : Nat} {C : St} {a : AS} (h : RC n C a) (hk : k < 6) (ht : av a 4 0 0 = nI t) (ht2 : t ≤ 200) (hp : p ≤ 128) (hc : c ≤ 40) (hpc : p + c ≤ t) : Rn (F_X5_load n (nI k) (nI p) (nI c) C) (fun r D => r = 0 ∧ RC n D (z_load k p c a)) := by
  have ekk : (nI k).toNatClampNeg = k := nI_clamp (by omega)
  have g6 := inb_nI hk (show 6 < 2 ^ 31 by decide)
  have key2 : ∀ fu m D, c < fu + m → m ≤ c → RC n D (z_lc m k p (sv 31 k 0 (nI c) (z_ld 128 k p a))) → Rn (F_X5_load_59 n fu (nI k) (nI p) (nI m) D) (fun r D => r = 0 ∧ RC n D (z_load k p c a)) := by
    intro fu
    induction fu with
    | zero => intro m D h1 h2; omega
    | succ fu ih =>
      intro m D h1 h2 hD
      have e : ∀ g, g ≠ 30 → g ≠ 31 → g ≠ 37 → ∀ i j, av (z_lc m k p (sv 31 k 0 (nI c) (z_ld 128 k p a))) g i j = av a g i j := fun g x1 x2 x3 i j => by
        rw [av_lc, if_neg (fun y => x1 y.1), av_o x2, av_ld, if_neg (fun y => x3 y.1)]
      have e31 : av (z_lc m k p (sv 31 k 0 (nI c) (z_ld 128 k p a))) 31 k 0 = nI c := by rw [av_lc, if_neg (by simp), av_s]
      unfold F_X5_load_59 F_X5_load_99
      rw [ekk, rc_31 hD hk, e31, nI_add]
      refine rn_gd g6 ?_
      by_cases e1 : m = c
      · subst e1
        exact rn_pos (nI_le (Nat.le_refl _) (by omega)) (rn_ret ⟨rfl, hD⟩)
      · have hm : m < c := by omega
        refine rn_neg (nI_ge hm (by omega)) (rn_neg (nI_ge (b := 40) (by omega) (by decide)) (rn_bdE (k_tapeAt (t := t) hD (by rw [e 4 (by decide) (by decide) (by decide)]; exact ht) ht2 (by omega)) ?_))
        rw [show (nI m).toNatClampNeg = m from nI_clamp (by omega), nI_1]
        refine rn_gd (inb_nI (by omega) (by decide)) (rn_st (ih (m + 1) _ (by omega) (by omega) ?_))
        have := lc_succ m k p (sv 31 k 0 (nI c) (z_ld 128 k p a))
        rw [← this]
        have e3 : av (sv 31 k 0 (nI c) (z_ld 128 k p a)) 3 (p + m) 0 = av (z_lc m k p (sv 31 k 0 (nI c) (z_ld 128 k p a))) 3 (p + m) 0 := by rw [av_lc, if_neg (by simp)]
        rw [e3]
        exact wc_30 hD hk (by omega)
  have key : ∀ fu m D, 128 < fu + m → m ≤ 128 → RC n D (z_ld m k p a) → Rn (F_X5_load_3 n fu (nI k) (nI p) (nI c) (nI m) D) (fun r D => r = 0 ∧ RC n D (z_load k p c a)) := by
    intro fu
    induction fu with
    | zero => intro m D h1 h2; omega
    | succ fu ih =>
      intro m D h1 h2 hD
      have e : ∀ g, g ≠ 37 → ∀ i j, av (z_ld m k p a) g i j = av a g i j := fun g x3 i j => by rw [av_ld, if_neg (fun y => x3 y.1)]
      unfold F_X5_load_3 F_X5_load_35
      rw [ekk]
      refine rn_gd g6 ?_
      by_cases e1 : m = 128
      · subst e1
        have ew : F_X11_within n (nI c) 0 40 D = some (nI c, D) := by
          unfold F_X11_within F_J9_min_7cf53 F_J9_min_7cf53_10 F_J9_max_7cf53 F_J9_max_7cf53_10
          by_cases c40 : c = 40
          · subst c40
            rfl
          · rw [if_pos (show nI c < 40 from nI_lt (b := 40) (by omega) (by decide))]
            have hb : ∀ (q : Int32 → St → Option (Int32 × St)), bd2 (some (nI c, D)) q = q (nI c) D := fun q => rfl
            rw [hb]
            by_cases c0 : c = 0
            · subst c0
              rfl
            · rw [if_pos (show (0 : Int32) < nI c from nI_lt (a := 0) (by omega) (by omega))]
              rfl
        refine rn_pos (show (128 : Int32) ≤ nI 128 by decide) (rn_bdE ew (rn_st (key2 1000 0 _ (by omega) (by omega) ?_)))
        rw [lc0]
        exact wc_31 hD hk
      · have hm : m < 128 := by omega
        have emm : (nI m).toNatClampNeg = m := nI_clamp (by omega)
        refine rn_neg (nI_ge (b := 128) hm (by decide)) ?_
        have nx : Rn (gd (inb (nI k) 6) (gd (inb (nI m) 128) (st (up D 7 k 0 m (if m < p then av a 3 m 0 else 0)) (fun D3 => F_X5_load_3 n fu (nI k) (nI p) (nI c) (nI m + 1) D3)))) (fun r D => r = 0 ∧ RC n D (z_load k p c a)) := by
          rw [nI_1]
          refine rn_gd g6 (rn_gd (inb_nI hm (by decide)) (rn_st (ih (m + 1) _ (by omega) (by omega) ?_)))
          rw [← ld_succ]
          exact wc_37 hD hk hm
        rw [emm]
        by_cases cp : m < p
        · rw [if_pos cp] at nx
          refine rn_neg (nI_ge cp (by omega)) (rn_bdE (k_tapeAt (t := t) hD (by rw [e 4 (by decide)]; exact ht) ht2 (by omega)) ?_)
          rw [e 3 (by decide)]
          exact nx
        · rw [if_neg cp] at nx
          exact rn_pos (nI_le (by omega) (by omega)) nx
  unfold F_X5_load
  refine key 1000 0 C (by omega) (by omega) ?_
  rw [ld0]
  exact h
def z_vj (a : AS) (k : Nat) : Bool := decide (av a 14 k 0 = 0) || decide (av a 14 k 0 = 3)
def z_vacant (a : AS) : Option Nat := (List.range 6).find? (z_vj a)
theorem k_vacant {n : Nat} {C : St} {a : AS} (h : RC n C a) : F_X11_vacantJob n C = some (oI (z_vacant a), C) := by
  have key : ∀ fu k, 6 < fu + k → k ≤ 6 → (∀ g, g < k → z_vj a g = false) → Rn (F_X11_vacantJob_2 n fu (nI k) C) (fun r D => r = oI (z_vacant a) ∧ D = C) := by
    intro fu
    induction fu with
    | zero => intro k h1 h2; omega
    | succ fu ih =>
      intro k h1 h2 h3
      unfold F_X11_vacantJob_2 F_X11_vacantJob_36
      by_cases e : k = 6
      · subst e
        refine rn_pos (show (6 : Int32) ≤ nI 6 by decide) (rn_ret ⟨?_, rfl⟩)
        have : z_vacant a = none := by
          unfold z_vacant
          rw [List.find?_range_eq_none]
          intro i hi
          simp [h3 i hi]
        rw [this]
        rfl
      · have hk : k < 6 := by omega
        rw [show (nI k).toNatClampNeg = k from nI_clamp (by omega), rc_14 h hk, nI_1]
        have yes : z_vj a k = true → z_vacant a = some k := by
          intro hv
          unfold z_vacant
          rw [List.find?_range_eq_some]
          exact ⟨hv, List.mem_range.mpr hk, fun j hj => by simp [h3 j hj]⟩
        refine rn_neg (nI_ge (b := 6) hk (by decide)) (rn_gd (inb_nI hk (by decide)) (rn_if (fun e1 => rn_gd (inb_nI hk (by decide)) (rn_ret ⟨?_, rfl⟩)) (fun e1 => rn_if (fun e2 => rn_gd (inb_nI hk (by decide)) (rn_ret ⟨?_, rfl⟩)) (fun e2 => ?_))))
        · rw [yes (by unfold z_vj; simp [e1])]
          rfl
        · rw [yes (by unfold z_vj; simp [e2])]
          rfl
        · refine ih (k + 1) (by omega) (by omega) (fun g hg => ?_)
          by_cases eg : g = k
          · subst eg
            unfold z_vj
            simp [e1, e2]
          · exact h3 g (by omega)
  exact rn_eq (key 1000 0 (by omega) (by omega) (fun g hg => absurd hg (Nat.not_lt_zero g)))
def z_deck (x1 x2 x3 : Int32) (a : AS) : Bool := !decide (x3 < 1) && (!decide (8 < x3) && (!decide (x1 < 0) && (!decide (x3 * 16 < x1) && (!decide (x2 < 0) && (!decide (40 < x2) && !decide (av a 4 0 0 < x1 + x2))))))
theorem k_deck {n : Nat} {x1 x2 x3 : Int32} {C : St} {a : AS} (h : RC n C a) : F_X11_isDeck n x1 x2 x3 C = some (if z_deck x1 x2 x3 a = true then 1 else 0, C) := by
  refine rn_eq ?_
  unfold F_X11_isDeck F_X11_isDeck_50 F_X11_isDeck_51 F_X8_size z_deck
  have no : ∀ {b : Bool}, b = false → Rn (gd (isb 0) (some ((0 : Int32), C))) (fun r D => r = (if b = true then 1 else 0) ∧ D = C) := by
    rintro _ rfl
    exact rn_gd rfl (rn_ret ⟨rfl, rfl⟩)
  refine rn_if (fun e => no (by simp [e])) (fun e1 => rn_if (fun e => no (by simp [e])) (fun e2 => rn_if (fun e => no (by simp [e])) (fun e3 => rn_if (fun e => no (by simp [e])) (fun e4 => rn_if (fun e => no (by simp [e])) (fun e5 => rn_if (fun e => no (by simp [e])) (fun e6 => rn_bdE rfl ?_))))))
  rw [rc_4 h]
  refine rn_if (fun e => no (by simp [e])) (fun e7 => ?_)
  refine rn_gd rfl (rn_ret ⟨?_, rfl⟩)
  simp [e1, e2, e3, e4, e5, e6, e7]
def z_good (x1 x2 x3 x4 x5 : Int32) (a : AS) : Bool := z_deck x1 x2 x3 a && (!decide (x4 < 1) && (!decide (5000 < x4) && (!decide (x5 < 0) && !decide (av a 1 0 0 < x5 / 4))))
def z_sub (k p c : Nat) (x3 x4 x5 : Int32) (a : AS) : AS := z_load k p c (z_claim k x5 (sv 21 k 0 x4 (sv 22 k 0 x3 (z_h0 3 k (z_renew k (av a 25 0 0 + 1) (sv 25 0 0 (av a 25 0 0 + 1) a))))))
def z_submit (x1 x2 x3 x4 x5 : Int32) (a : AS) : Int32 × AS :=
  if z_good x1 x2 x3 x4 x5 a = true then (match z_vacant a with
    | none => (-1, sv 4 0 0 0 a)
    | some k => (nI k, sv 4 0 0 0 (z_sub k x1.toNatClampNeg x2.toNatClampNeg x3 x4 x5 a)))
  else (-1, sv 4 0 0 0 a)
theorem deck_n {x1 x2 x3 : Int32} {a : AS} {t : Nat} (ht : av a 4 0 0 = nI t) (ht2 : t ≤ 200) (h : z_deck x1 x2 x3 a = true) : ∃ p c g, x1 = nI p ∧ x2 = nI c ∧ x3 = nI g ∧ 1 ≤ g ∧ g ≤ 8 ∧ p ≤ 16 * g ∧ c ≤ 40 ∧ p + c ≤ t := by
  unfold z_deck at h
  simp only [Bool.and_eq_true, Bool.not_eq_true', decide_eq_false_iff_not] at h
  obtain ⟨e1, e2, e3, e4, e5, e6, e7⟩ := h
  have hx3 : ¬ x3 < 0 := fun hx => e1 (Int32.lt_of_lt_of_le hx (by decide))
  obtain ⟨g, hg, rfl⟩ := nI_of hx3
  obtain ⟨p, hp, rfl⟩ := nI_of e3
  obtain ⟨c, hc, rfl⟩ := nI_of e5
  have g1 : 1 ≤ g := Classical.byContradiction fun hh => e1 (show nI g < nI 1 from nI_lt (by omega) (by decide))
  have g8 : g ≤ 8 := Classical.byContradiction fun hh => e2 (show nI 8 < nI g from nI_lt (by omega) (by omega))
  have c40 : c ≤ 40 := Classical.byContradiction fun hh => e6 (show nI 40 < nI c from nI_lt (by omega) (by omega))
  have e16 : nI g * 16 = nI (16 * g) := by
    have := mul16 (s := g) (m := 0)
    rw [nI_0, Int32.add_zero] at this
    exact this
  rw [e16] at e4
  have p16 : p ≤ 16 * g := Classical.byContradiction fun hh => e4 (nI_lt (by omega) (by omega))
  rw [ht, nI_add] at e7
  refine ⟨p, c, g, rfl, rfl, rfl, g1, g8, p16, c40, Classical.byContradiction fun hh => e7 (nI_lt (by omega) (by omega))⟩
theorem k_submit {n t : Nat} {x1 x2 x3 x4 x5 : Int32} {C : St} {a : AS} (h : RC n C a) (ht : av a 4 0 0 = nI t) (ht2 : t ≤ 200) : Rn (F_X11_submit n x1 x2 x3 x4 x5 C) (fun r D => r = (z_submit x1 x2 x3 x4 x5 a).1 ∧ RC n D (z_submit x1 x2 x3 x4 x5 a).2) := by
  unfold F_X11_submit F_X11_submit_47 z_submit
  have no : Rn (F_X11_submit_63 n x1 x2 x3 x4 x5 (-1) C) (fun r D => r = -1 ∧ RC n D (sv 4 0 0 0 a)) := by
    unfold F_X11_submit_63 F_X11_submit_120 F_X11_submit_141 F_X8_clear
    exact rn_pos (by decide) (rn_bdE rfl (rn_pos (by decide) (rn_ret ⟨rfl, wc_4 h⟩)))
  have no2 : z_good x1 x2 x3 x4 x5 a = false → Rn (F_X11_submit_48 n x1 x2 x3 x4 x5 0 C) (fun r D => r = (if z_good x1 x2 x3 x4 x5 a = true then (match z_vacant a with
    | none => (-1, sv 4 0 0 0 a)
    | some k => (nI k, sv 4 0 0 0 (z_sub k x1.toNatClampNeg x2.toNatClampNeg x3 x4 x5 a)))
  else (-1, sv 4 0 0 0 a)).1 ∧ RC n D (if z_good x1 x2 x3 x4 x5 a = true then (match z_vacant a with
    | none => (-1, sv 4 0 0 0 a)
    | some k => (nI k, sv 4 0 0 0 (z_sub k x1.toNatClampNeg x2.toNatClampNeg x3 x4 x5 a)))
  else (-1, sv 4 0 0 0 a)).2) := by
    intro hg
    rw [if_neg (by rw [hg]; decide)]
    unfold F_X11_submit_48
    exact rn_pos rfl no
  refine rn_bdE (k_deck h) ?_
  by_cases hd : z_deck x1 x2 x3 a = true
  · rw [if_pos hd]
    rw [rc_1 h]
    refine rn_neg (by decide) (rn_if (fun e => no2 (by unfold z_good; simp [e])) (fun e1 => rn_if (fun e => no2 (by unfold z_good; simp [e])) (fun e2 => rn_if (fun e => no2 (by unfold z_good; simp [e])) (fun e3 => rn_if (fun e => no2 (by unfold z_good; simp [e])) (fun e4 => ?_)))))
    have hg : z_good x1 x2 x3 x4 x5 a = true := by unfold z_good; simp [hd, e1, e2, e3, e4]
    rw [if_pos hg]
    unfold F_X11_submit_48
    refine rn_neg (by decide) (rn_bdE (k_vacant h) ?_)
    cases hv : z_vacant a with
    | none => exact no
    | some k =>
      have hk : k < 6 := by
        unfold z_vacant at hv
        exact List.mem_range.mp (List.find?_range_eq_some.mp hv).2.1
      have hoi : oI (some k) = nI k := rfl
      obtain ⟨p, c, g, rfl, rfl, rfl, g1, g8, p16, c40, pct⟩ := deck_n ht ht2 hd
      rw [hoi]
      unfold F_X11_submit_63
      have ekk : (nI k).toNatClampNeg = k := nI_clamp (by omega)
      have g6 := inb_nI hk (show 6 < 2 ^ 31 by decide)
      rw [ekk, rc_25 h]
      refine rn_neg (nI_pos (by omega)) (rn_st ?_)
      have h25 := wc_25 (x := av a 25 0 0 + 1) h
      rw [rc_25 h25, av_s]
      refine rn_gd g6 (rn_bd (k_renew h25 hk) ?_)
      rintro _ D ⟨-, hD⟩
      refine rn_st (rn_st ?_)
      have h21 := wc_21 (x := x4) (wc_22 (x := nI g) hD hk) hk
      refine rn_bd (k_claim h21 hk) ?_
      rintro _ E ⟨-, hE⟩
      refine rn_bd (k_load (t := t) hE hk ?_ ht2 (by omega) c40 pct) ?_
      · unfold z_claim z_renew
        rw [av_o (by decide), av_o (by decide), av_o (by decide), av_o (by decide), av_o (by decide), av_h0, if_neg (by simp)]
        rw [av_o (by decide), av_o (by decide), av_o (by decide), av_o (by decide), av_o (by decide), av_o (by decide), av_o (by decide), av_o (by decide), av_o (by decide), av_o (by decide), av_o (by decide), av_o (by decide), av_o (by decide)]
        exact ht
      rintro _ G ⟨-, hG⟩
      unfold F_X11_submit_120 F_X11_submit_141 F_X8_clear
      refine rn_bdE rfl ?_
      have hJ := wc_4 (x := 0) hG
      rw [ekk]
      refine rn_neg (nI_pos (by omega)) (rn_gd g6 ?_)
      rw [k_num hJ hk]
      simp only
      rw [show (nI p).toNatClampNeg = p from nI_clamp (by omega), show (nI c).toNatClampNeg = c from nI_clamp (by omega)]
      exact rn_ret ⟨rfl, hJ⟩
  · have hg : z_good x1 x2 x3 x4 x5 a = false := by unfold z_good; simp [hd]
    rw [if_neg hd]
    exact rn_pos rfl (no2 hg)
