/-! The class: a byte typed, the tape -/
def z_cpr (L m : Nat) (a : AS) : AS := (fun g b c => if g = 64 ∧ b = m ∧ c < L then a.1 63 c 0 else a.1 g b c, a.2)
theorem av_cpr (L m : Nat) (a : AS) (g b c : Nat) : av (z_cpr L m a) g b c = if g = 64 ∧ b = m ∧ c < L then av a 63 c 0 else av a g b c := rfl
theorem cpr_succ (L m : Nat) (a : AS) : sv 64 m L (av a 63 L 0) (z_cpr L m a) = z_cpr (L + 1) m a := by
  refine as_ext (fun g b c => ?_) (fun q => rfl)
  rw [av_sv, av_cpr, av_cpr]
  by_cases c1 : g = 64 ∧ b = m ∧ c = L
  · obtain ⟨rfl, rfl, rfl⟩ := c1
    rw [if_pos ⟨rfl, rfl, rfl⟩, if_pos ⟨rfl, rfl, by omega⟩]
  · rw [if_neg c1]
    by_cases c2 : g = 64 ∧ b = m ∧ c < L
    · rw [if_pos c2, if_pos ⟨c2.1, c2.2.1, by omega⟩]
    · rw [if_neg c2, if_neg]
      rintro ⟨d1, d2, d3⟩
      by_cases d5 : c = L
      · exact c1 ⟨d1, d2, d5⟩
      · exact c2 ⟨d1, d2, by omega⟩
theorem cpr0 (m : Nat) (a : AS) : z_cpr 0 m a = a := as_ext (fun g b c => by rw [av_cpr, if_neg (by omega)]) (fun q => rfl)
def z_nl (L m : Nat) (a : AS) : AS := sv 68 0 0 (nI (m + 1)) (sv 67 0 0 0 (sv 65 m 0 (nI L) (z_cpr L m a)))
/-- the numbers of what is typed -/
def TY (L m : Nat) (a : AS) : Prop := L ≤ 20 ∧ m ≤ 8 ∧ av a 67 0 0 = nI L ∧ av a 68 0 0 = nI m ∧ ∀ i, i < L → ∃ y, y < 128 ∧ av a 63 i 0 = nI y
theorem k_al20 {n L m : Nat} {a : AS} (hT : TY L m a) (hm : m < 8) : ∀ fu i D, L < fu + i → i ≤ L → RC n D (z_cpr i m a) → Rn (F_X1_acceptLine_20 n fu (nI i) D) (fun r E => r = 1 ∧ RC n E (z_v 6 (z_nl L m a))) := by
  obtain ⟨t2, t3, t5, t6, t7⟩ := hT
  intro fu
  induction fu with
  | zero => intro i D h1 h2; omega
  | succ fu ih =>
    intro i D h1 h2 h
    have e : ∀ g, g ≠ 64 → ∀ b c, av (z_cpr i m a) g b c = av a g b c := fun g hg b c => by rw [av_cpr, if_neg (fun y => hg y.1)]
    unfold F_X1_acceptLine_20
    rw [rc_67 h, rc_68 h, e 67 (by decide), e 68 (by decide), t5, t6, show (nI m).toNatClampNeg = m from nI_clamp (by omega)]
    by_cases c : i = L
    · subst c
      refine rn_pos (nI_le (Nat.le_refl _) (by omega)) ?_
      unfold F_X1_acceptLine_57
      rw [rc_67 h, rc_68 h, e 67 (by decide), e 68 (by decide), t5, t6, show (nI m).toNatClampNeg = m from nI_clamp (by omega)]
      have h3 := wc_65 (x := nI i) h hm
      have h5 := wc_67 (x := 0) h3
      refine rn_gd (inb_nI hm (by decide)) (rn_st (rn_st (rn_st ?_)))
      have e68 : av (sv 67 0 0 0 (sv 65 m 0 (nI i) (z_cpr i m a))) 68 0 0 = nI m := by
        rw [av_o (by decide), av_o (by decide), e 68 (by decide), t6]
      rw [rc_68 h5, e68, nI_1]
      refine rn_bd (k_v (s := 6) (wc_68 h5) (by decide)) ?_
      rintro _ E ⟨-, hE⟩
      exact rn_ret ⟨rfl, hE⟩
    · have hi : i < L := by omega
      obtain ⟨y, hy, ey⟩ := t7 i hi
      rw [show (nI i).toNatClampNeg = i from nI_clamp (by omega), rc_63 h (by omega), e 63 (by decide), ey, (b8 y hy).2, nI_1]
      refine rn_neg (nI_ge hi (by omega)) (rn_neg (nI_ge (b := 20) (by omega) (by decide)) (rn_gd (inb_nI hm (by decide)) (rn_gd (inb_nI (by omega) (by decide)) (rn_st (ih (i + 1) _ (by omega) (by omega) ?_)))))
      rw [← cpr_succ, ey]
      exact wc_64 h hm (by omega)
noncomputable def z_type (x : Int32) (a : AS) : Int32 × AS :=
  if x = 10 then (if av a 68 0 0 < 8 then (1, z_v 6 (z_nl (nv a 67 0 0) (nv a 68 0 0) a)) else (0, a))
  else if x < 32 ∨ 126 < x ∨ 20 ≤ av a 67 0 0 then (0, a)
  else (1, sv 67 0 0 (av a 67 0 0 + 1) (sv 63 (nv a 67 0 0) 0 x a))
theorem k_type {n L m : Nat} {x : Int32} {C : St} {a : AS} (hR : RC n C a) (hT : TY L m a) : Rn (F_X11_type n x C) (fun r D => r = (z_type x a).1 ∧ RC n D (z_type x a).2) := by
  have hT2 := hT
  obtain ⟨t2, t3, t5, t6, t7⟩ := hT
  have n67 : nv a 67 0 0 = L := by unfold nv; rw [t5, nI_clamp (by omega)]
  have n68 : nv a 68 0 0 = m := by unfold nv; rw [t6, nI_clamp (by omega)]
  have hz : z_type x a = if x = 10 then (if nI m < 8 then (1, z_v 6 (z_nl L m a)) else (0, a)) else if x < 32 ∨ 126 < x ∨ 20 ≤ nI L then (0, a) else (1, sv 67 0 0 (nI L + 1) (sv 63 L 0 x a)) := by
    unfold z_type
    rw [n67, n68, t5, t6]
  unfold F_X11_type F_X1_accept F_X1_accept_43
  have no : Rn (F_X1_accept_44 n x 0 C) (fun r D => r = 0 ∧ RC n D a) := by
    unfold F_X1_accept_44 F_X1_accept_70
    exact rn_pos rfl (rn_gd rfl (rn_ret ⟨rfl, hR⟩))
  have fin : ∀ {o : Option (Int32 × St)} {y : Int32} {b : AS}, (y = 0 ∨ y = 1) → Rn o (fun r D => r = y ∧ RC n D b) → Rn (bd2 o (fun r1 D2 => gd (isb r1) (some (r1, D2)))) (fun r D => r = y ∧ RC n D b) := by
    intro o y b hy ho
    refine rn_bd ho ?_
    rintro _ D ⟨rfl, hD⟩
    exact rn_gd (isb_of hy) (rn_ret ⟨rfl, hD⟩)
  rw [rc_67 hR, t5]
  by_cases c : x = 10
  · rw [if_pos c] at hz
    by_cases c8 : m < 8
    · rw [if_pos (show nI m < 8 from nI_lt (b := 8) c8 (by decide))] at hz
      rw [hz]
      refine fin (Or.inr rfl) (rn_pos c (fin (Or.inr rfl) ?_))
      unfold F_X1_acceptLine
      rw [rc_68 hR, t6]
      refine rn_neg (nI_pos (by omega)) (rn_pos (nI_lt (b := 8) c8 (by decide)) ?_)
      refine k_al20 hT2 c8 1000 0 C (by omega) (by omega) ?_
      rw [cpr0]
      exact hR
    · rw [if_neg (show ¬ nI m < 8 from nI_nlt (b := 8) (by omega) (by omega))] at hz
      rw [hz]
      refine fin (Or.inl rfl) (rn_pos c (fin (Or.inl rfl) ?_))
      unfold F_X1_acceptLine F_X1_acceptLine_16
      rw [rc_68 hR, t6]
      exact rn_neg (nI_pos (by omega)) (rn_neg (nI_nlt (b := 8) (by omega) (by omega)) (rn_ret ⟨rfl, hR⟩))
  · rw [if_neg c] at hz
    by_cases c2 : x < 32 ∨ 126 < x ∨ (20 : Int32) ≤ nI L
    · rw [if_pos c2] at hz
      rw [hz]
      refine fin (Or.inl rfl) (rn_neg c (rn_if (fun _ => no) (fun e1 => rn_if (fun _ => no) (fun e2 => rn_if (fun _ => no) (fun e3 => rn_if (fun _ => no) (fun e4 => ?_))))))
      exact absurd c2 (fun o => o.elim e1 (fun o => o.elim e2 e4))
    · rw [if_neg c2] at hz
      rw [hz]
      rw [not_or, not_or] at c2
      obtain ⟨c3, c4, c5⟩ := c2
      have hL : L < 20 := Classical.byContradiction fun hh => c5 (nI_le (a := 20) (by omega) (by omega))
      refine fin (Or.inr rfl) (rn_neg c (rn_neg c3 (rn_neg c4 (rn_neg (nI_pos (by omega)) (rn_neg c5 ?_)))))
      unfold F_X1_accept_44 F_X1_accept_70
      obtain ⟨y, hy, rfl⟩ : ∃ y, y < 128 ∧ x = nI y := by
        have hx0 : ¬ x < 0 := by
          intro hx
          exact c3 (Int32.lt_trans hx (by decide))
        obtain ⟨y, hy, e⟩ := nI_of hx0
        refine ⟨y, ?_, e⟩
        rw [e] at c4
        refine Classical.byContradiction fun hh => c4 (show nI 126 < nI y from nI_lt (by omega) hy)
      rw [rc_67 hR, t5, show (nI L).toNatClampNeg = L from nI_clamp (by omega), (b8 y hy).1]
      refine rn_neg (by decide) (rn_gd (inb_nI hL (by decide)) (rn_st ?_))
      have h2 := wc_63 (x := nI y) hR hL
      rw [rc_67 h2, av_o (by decide), t5]
      exact rn_st (rn_gd rfl (rn_ret ⟨rfl, wc_67 h2⟩))
def z_feed (x1 x2 x3 x4 : Int32) (a : AS) : Int32 × AS :=
  if av a 4 0 0 + 4 ≤ 200 then (av a 4 0 0 + 4, sv 4 0 0 (av a 4 0 0 + 4) (sv 3 (nv a 4 0 0 + 3) 0 x4 (sv 3 (nv a 4 0 0 + 2) 0 x3 (sv 3 (nv a 4 0 0 + 1) 0 x2 (sv 3 (nv a 4 0 0) 0 x1 a))))) else (-1, a)
theorem k_tapeadd {n t : Nat} {x : Int32} {C : St} {a : AS} (h : RC n C a) (ht : av a 4 0 0 = nI t) (ht2 : t < 200) : Rn (F_X8_append n 1 x C) (fun r D => r = 0 ∧ RC n D (sv 4 0 0 (nI (t + 1)) (sv 3 t 0 x a))) := by
  have e := k_append (n := n) (i := 1) (m := t) (x := x) (C := C) (by rw [rc_4 h, ht]) (show t < rowLen 1 from ht2)
  rw [e]
  exact rn_ret ⟨rfl, wc_4 (wc_3 h ht2)⟩
theorem k_feed {n t : Nat} {x1 x2 x3 x4 : Int32} {C : St} {a : AS} (h : RC n C a) (ht : av a 4 0 0 = nI t) (ht2 : t ≤ 200) : Rn (F_X11_feed n x1 x2 x3 x4 C) (fun r D => r = (z_feed x1 x2 x3 x4 a).1 ∧ RC n D (z_feed x1 x2 x3 x4 a).2) := by
  unfold F_X11_feed F_X8_size z_feed
  have n4 : nv a 4 0 0 = t := by unfold nv; rw [ht, nI_clamp (by omega)]
  refine rn_bdE rfl ?_
  rw [rc_4 h, ht, n4, show nI t + 4 = nI (t + 4) from nI_add t 4]
  by_cases c : t + 4 ≤ 200
  · have c2 : nI (t + 4) ≤ (200 : Int32) := nI_le (b := 200) c (by decide)
    refine rn_pos c2 ?_
    rw [if_pos c2]
    refine (rn_bd (k_tapeadd h ht (by omega)) ?_)
    rintro _ D ⟨-, hD⟩
    refine rn_bd (k_tapeadd hD av_s (by omega)) ?_
    rintro _ E ⟨-, hE⟩
    refine rn_bd (k_tapeadd hE av_s (by omega)) ?_
    rintro _ G ⟨-, hG⟩
    refine rn_bd (k_tapeadd hG av_s (by omega)) ?_
    rintro _ J ⟨-, hJ⟩
    refine rn_bdE rfl ?_
    rw [rc_4 hJ, av_s]
    refine rn_ret ⟨rfl, ?_⟩
    have ee : sv 4 0 0 (nI (t + 1 + 1 + 1 + 1)) (sv 3 (t + 1 + 1 + 1) 0 x4 (sv 4 0 0 (nI (t + 1 + 1 + 1)) (sv 3 (t + 1 + 1) 0 x3 (sv 4 0 0 (nI (t + 1 + 1)) (sv 3 (t + 1) 0 x2 (sv 4 0 0 (nI (t + 1)) (sv 3 t 0 x1 a))))))) = sv 4 0 0 (nI (t + 4)) (sv 3 (t + 3) 0 x4 (sv 3 (t + 2) 0 x3 (sv 3 (t + 1) 0 x2 (sv 3 t 0 x1 a)))) := by
      refine as_ext (fun g b c => ?_) (fun q => rfl)
      by_cases c4 : g = 4 ∧ b = 0 ∧ c = 0
      · obtain ⟨rfl, rfl, rfl⟩ := c4
        rw [av_s, av_s]
      · simp only [av_sv, if_neg c4]
    rw [ee] at hJ
    exact hJ
  · have c2 : ¬ nI (t + 4) ≤ (200 : Int32) := nI_ge (a := 200) (by omega) (by omega)
    refine rn_neg c2 ?_
    rw [if_neg c2]
    exact rn_ret ⟨rfl, h⟩
noncomputable def z_done (x : Int32) (a : AS) : Int32 × AS :=
  if x = 0 then (if av a 45 0 0 = 0 then (0, a) else (1, z_drum a))
  else if x = 1 then (if av a 52 0 0 = 0 then (0, a) else (1, z_rdone a))
  else if x = 2 then (if av a 53 0 0 = 0 then (0, a) else (1, z_pdone a))
  else (0, a)
/-- what the drum's end wants -/
def DR (n : Nat) (a : AS) : Prop := ¬ av a 45 0 0 = 0 → (∃ f, f < n ∧ av a 46 0 0 = nI f) ∧ (av a 45 0 0 = 1 → ∃ j s, j < 6 ∧ s < 8 ∧ av a 49 0 0 = nI j ∧ av a 50 0 0 = nI s) ∧ (¬ av a 45 0 0 = 1 → ∃ k s, k < 6 ∧ s < 8 ∧ av a 47 0 0 = nI k ∧ av a 29 k 0 = nI s)
theorem k_done {n : Nat} {x : Int32} {C : St} {a : AS} (h : RC n C a) (hn : n ≤ 12) (hD : DR n a) : Rn (F_X11_done n x C) (fun r D => r = (z_done x a).1 ∧ RC n D (z_done x a).2) := by
  unfold F_X11_done z_done
  refine rn_if (fun e => ?_) (fun e => rn_if (fun e2 => ?_) (fun e2 => rn_if (fun e3 => ?_) (fun e3 => ?_)))
  · rw [if_pos e]
    by_cases c : av a 45 0 0 = 0
    · rw [if_pos c]
      unfold F_X10_drumIsDone
      rw [rc_45 h, if_pos c]
      exact rn_bdE rfl (rn_gd rfl (rn_ret ⟨rfl, h⟩))
    · rw [if_neg c]
      obtain ⟨⟨f, hf, e46⟩, h1, h2⟩ := hD c
      refine rn_bd (k_drum h hn c hf e46 h1 h2) ?_
      rintro _ D ⟨rfl, hD⟩
      exact rn_gd rfl (rn_ret ⟨rfl, hD⟩)
  · rw [if_neg e, if_pos e2]
    refine rn_bd (k_rdone h) ?_
    intro r D hD
    by_cases c : av a 52 0 0 = 0
    · rw [if_pos c] at hD ⊢
      obtain ⟨rfl, hD⟩ := hD
      exact rn_gd rfl (rn_ret ⟨rfl, hD⟩)
    · rw [if_neg c] at hD ⊢
      obtain ⟨rfl, hD⟩ := hD
      exact rn_gd rfl (rn_ret ⟨rfl, hD⟩)
  · rw [if_neg e, if_neg e2, if_pos e3]
    refine rn_bd (k_pdone h) ?_
    intro r D hD
    by_cases c : av a 53 0 0 = 0
    · rw [if_pos c] at hD ⊢
      obtain ⟨rfl, hD⟩ := hD
      exact rn_gd rfl (rn_ret ⟨rfl, hD⟩)
    · rw [if_neg c] at hD ⊢
      obtain ⟨rfl, hD⟩ := hD
      exact rn_gd rfl (rn_ret ⟨rfl, hD⟩)
  · rw [if_neg e, if_neg e2, if_neg e3]
    exact rn_ret ⟨rfl, h⟩
