/-! The class: the bank -/
def nv (a : AS) (f i j : Nat) : Nat := (av a f i j).toNatClampNeg
def BK (a : AS) : Prop := (∀ k r, k < 6 → r < 3 → av a 27 k r = nI (nv a 27 k r) ∧ av a 26 k r = nI (nv a 26 k r) ∧ nv a 27 k r ≤ nv a 26 k r ∧ nv a 26 k r < 1000) ∧ ∀ r, r < 3 → av a 28 r 0 = nI (nv a 28 r 0) ∧ nv a 28 r 0 < 1000
def smn (a : AS) (l : List Nat) (r : Nat) : Nat → Nat
  | 0 => nv a 28 r 0
  | m + 1 => smn a l r m + if m ∈ l then nv a 27 m r else 0
def fits (a : AS) (l : List Nat) (k : Nat) : Prop := ∀ r, r < 3 → nv a 26 k r - nv a 27 k r ≤ smn a l r 6
def okS (a : AS) : List Nat → Prop
  | [] => True
  | k :: l => okS a l ∧ k < 6 ∧ av a 14 k 0 = 2 ∧ k ∉ l ∧ fits a l k
def z_safe (a : AS) : Prop := ∃ l, okS a l ∧ ∀ k, k < 6 → av a 14 k 0 = 2 → k ∈ l
def cu (a : AS) (l : List Nat) : Nat → Nat
  | 0 => 0
  | m + 1 => cu a l m + if av a 14 m 0 = 2 ∧ m ∉ l then 1 else 0
theorem smn_cons {a : AS} {l : List Nat} {k r : Nat} (hk : k ∉ l) : ∀ m, smn a (k :: l) r m = smn a l r m + if k < m then nv a 27 k r else 0 := by
  intro m
  induction m with
  | zero => simp [smn]
  | succ m ih =>
    simp only [smn]
    rw [ih]
    simp only [List.mem_cons]
    grind
theorem cu_cons {a : AS} {l : List Nat} {k : Nat} (hk : k ∉ l) (h2 : av a 14 k 0 = 2) : ∀ m, cu a l m = cu a (k :: l) m + if k < m then 1 else 0 := by
  intro m
  induction m with
  | zero => simp [cu]
  | succ m ih =>
    simp only [cu]
    rw [ih]
    simp only [List.mem_cons]
    grind
theorem cu_0 {a : AS} {l : List Nat} : ∀ {m}, cu a l m = 0 → ∀ k, k < m → av a 14 k 0 = 2 → k ∈ l := by
  intro m
  induction m with
  | zero => intro _ k hk; omega
  | succ m ih =>
    intro h k hk h2
    simp only [cu] at h
    by_cases e : k = m
    · subst e
      by_cases e2 : k ∈ l
      · exact e2
      · rw [if_pos ⟨h2, e2⟩] at h; omega
    · exact ih (by omega) k (by omega) h2
theorem cu_z {a : AS} {l : List Nat} : ∀ {m}, (∀ k, k < m → av a 14 k 0 = 2 → k ∈ l) → cu a l m = 0 := by
  intro m
  induction m with
  | zero => intro _; rfl
  | succ m ih =>
    intro h
    simp only [cu]
    rw [ih (fun k hk => h k (by omega)), if_neg (fun e => e.2 (h m (by omega) e.1))]
theorem cu_le {a : AS} {l : List Nat} : ∀ m, cu a l m ≤ m := by
  intro m
  induction m with
  | zero => simp [cu]
  | succ m ih =>
    simp only [cu]
    split <;> omega
theorem smn_mono {a : AS} {l t : List Nat} {r : Nat} (h : ∀ k, k ∈ t → k ∈ l) : ∀ m, smn a t r m ≤ smn a l r m := by
  intro m
  induction m with
  | zero => exact Nat.le_refl _
  | succ m ih =>
    simp only [smn]
    by_cases e : m ∈ t
    · rw [if_pos e, if_pos (h m e)]; omega
    · rw [if_neg e]; split <;> omega
theorem smn_lt {a : AS} (hB : BK a) {l : List Nat} {r : Nat} (hr : r < 3) : ∀ m, m ≤ 6 → smn a l r m ≤ 1000 + m * 1000 := by
  intro m
  induction m with
  | zero => intro _; simp only [smn]; have := (hB.2 r hr).2; omega
  | succ m ih =>
    intro hm
    have h1 := ih (by omega)
    obtain ⟨-, -, h3, h4⟩ := hB.1 m r (by omega) hr
    simp only [smn]
    clear hB ih
    generalize smn a l r m = u at *
    generalize nv a 27 m r = v at *
    generalize nv a 26 m r = x at *
    by_cases c : m ∈ l
    · rw [if_pos c]; omega
    · rw [if_neg c, Nat.add_zero, Nat.succ_mul]
      exact Nat.le_trans h1 (by rw [← Nat.add_assoc]; exact Nat.le_add_right _ _)
def closedS (a : AS) (l : List Nat) : Prop := ∀ k, k < 6 → av a 14 k 0 = 2 → k ∉ l → ¬ fits a l k
theorem safe_no {a : AS} {l : List Nat} (hc : closedS a l) (h : ¬ cu a l 6 = 0) : ¬ z_safe a := by
  rintro ⟨l2, h2, h3⟩
  have key : ∀ t, okS a t → ∀ k, k ∈ t → k ∈ l := by
    intro t
    induction t with
    | nil => intro _ k hk; cases hk
    | cons j t ih =>
      rintro ⟨o1, o2, o3, o4, o5⟩ k hk
      have ih := ih o1
      rcases List.mem_cons.mp hk with rfl | hk
      · refine Classical.byContradiction fun hn => hc k o2 o3 hn (fun r hr => Nat.le_trans (o5 r hr) (smn_mono ih 6))
      · exact ih k hk
  exact h (cu_z (fun k hk h14 => key l2 h2 k (h3 k hk h14)))
theorem okS_nd {a : AS} : ∀ {l : List Nat}, okS a l → l.Nodup ∧ ∀ k ∈ l, k < 6 := by
  intro l
  induction l with
  | nil => intro _; exact ⟨List.nodup_nil, fun k hk => by cases hk⟩
  | cons j t ih =>
    rintro ⟨o1, o2, o3, o4, o5⟩
    obtain ⟨i1, i2⟩ := ih o1
    refine ⟨List.nodup_cons.mpr ⟨o4, i1⟩, fun k hk => ?_⟩
    rcases List.mem_cons.mp hk with rfl | hk
    · exact o2
    · exact i2 k hk
theorem len6 {l : List Nat} (hn : l.Nodup) (h : ∀ p ∈ l, p < 6) : l.length ≤ 6 := by
  have := hn.length_le_of_subset (l₂ := List.range 6) (fun p hp => List.mem_range.mpr (h p hp))
  simpa using this
theorem len6' {l : List Nat} {p : Nat} (hn : l.Nodup) (h : ∀ p ∈ l, p < 6) (hp : p < 6) (hq : p ∉ l) : l.length < 6 := by
  have h2 : (p :: l).Nodup := List.nodup_cons.mpr ⟨hq, hn⟩
  have := len6 h2 (fun x hx => by
    rcases List.mem_cons.mp hx with rfl | hx
    · exact hp
    · exact h x hx)
  simp only [List.length_cons] at this
  omega
theorem RC_room {n : Nat} {C D : St} {a : AS} (h : RC n C a) (e : ∀ q b t c, q ≠ 21 → q ≠ 22 → D q b t c = C q b t c) : RC n D a := by
  obtain ⟨h1, h2, h3, h4, h5⟩ := h
  refine ⟨fun f i j ho => ?_, fun f hf => ?_, ⟨fun t ht => ?_, fun t ht => ?_⟩, ⟨?_, h4.2.1, h4.2.2.1, fun b p hb => ?_⟩, fun q hq => ?_⟩
  · rw [← h1 f i j ho]
    have e1 := nvC_ok ho
    have e2 := okC_lt ho
    unfold atC
    refine e _ _ _ _ ?_ ?_
    · intro hh
      have : (nvC (adC f i j)).1 = 80 := by
        unfold nvC
        simp [hh]
      rw [e1] at this
      simp only at this
      omega
    · intro hh
      have : (nvC (adC f i j)).1 = 80 := by
        unfold nvC
        simp [hh]
      rw [e1] at this
      simp only at this
      omega
  · rw [e 14 f 1 0 (by decide) (by decide), e 14 f 3 0 (by decide) (by decide)]
    exact h2 f hf
  · rw [e 6 t 0 0 (by decide) (by decide)]; exact h3.1 t ht
  · rw [e 5 t 1 0 (by decide) (by decide), e 5 t 2 0 (by decide) (by decide)]; exact h3.2 t ht
  · rw [e 2 0 1 0 (by decide) (by decide)]; exact h4.1
  · rw [e 3 0 0 b (by decide) (by decide)]; exact h4.2.2.2 b p hb
  · obtain ⟨q1, q2, q3, q4, q5, q6⟩ := h5 q hq
    refine ⟨?_, q2, q3, fun b p hb => ?_, fun b hb hb2 => ?_, ?_⟩
    · rw [e 17 q 2 0 (by decide) (by decide)]; exact q1
    · rw [e 18 q 0 b (by decide) (by decide)]; exact q4 b p hb
    · rw [e 18 q 0 b (by decide) (by decide)]; exact q5 b hb hb2
    · rw [e 17 q 3 0 (by decide) (by decide)]; exact q6
theorem nI_sub {c h : Nat} (hh : h ≤ c) : nI c - nI h = nI (c - h) := by
  have : nI c = nI (c - h) + nI h := by rw [nI_add, Nat.sub_add_cancel hh]
  rw [this, Int32.add_sub_cancel]
/-- the class within allCanEnd -/
def IB (n : Nat) (a : AS) (l : List Nat) (D : St) : Prop := RC n D a ∧ (∀ k, k < 6 → D 22 0 0 k = if av a 14 k 0 = 2 ∧ k ∉ l then 0 else 1) ∧ (∀ r, r < 3 → D 21 0 0 r = nI (smn a l r 6)) ∧ okS a l
noncomputable def fitB (a : AS) (l : List Nat) (k : Nat) : Bool := @decide (fits a l k) (Classical.propDecidable _)
theorem k_fit {n k : Nat} {a : AS} {l : List Nat} {D : St} (hB : BK a) (h : RC n D a) (h21 : ∀ r, r < 3 → D 21 0 0 r = nI (smn a l r 6)) (hk : k < 6) : F_X0_hasRoomFor n (nI k) D = some (if fitB a l k = true then 1 else 0, D) := by
  have key : ∀ fu r, 3 < fu + r → r ≤ 3 → (∀ q, q < r → nv a 26 k q - nv a 27 k q ≤ smn a l q 6) → Rn (F_X0_hasRoomFor_2 n fu (nI k) (nI r) D) (fun x E => x = (if fitB a l k = true then 1 else 0) ∧ E = D) := by
    intro fu
    induction fu with
    | zero => intro r h1 h2; omega
    | succ fu ih =>
      intro r h1 h2 h3
      unfold F_X0_hasRoomFor_2
      by_cases e : r = 3
      · subst e
        refine rn_pos (show (3 : Int32) ≤ nI 3 by decide) (rn_ret ⟨?_, rfl⟩)
        have : fitB a l k = true := by
          unfold fitB
          rw [@decide_eq_true_iff _ (Classical.propDecidable _)]
          exact h3
        rw [if_pos this]
      · have hr : r < 3 := by omega
        obtain ⟨b1, b2, b3, b4⟩ := hB.1 k r hk hr
        have b5 := smn_lt hB (l := l) hr 6 (by omega)
        rw [nI_clamp (by omega), nI_clamp (by omega), rc_26 h hk hr, rc_27 h hk hr, h21 r hr, b1, b2, nI_sub b3, nI_1]
        refine rn_neg (nI_ge (b := 3) hr (by decide)) (rn_gd (inb_nI hk (by decide)) (rn_gd (inb_nI hr (by decide)) (rn_if (fun e2 => ?_) (fun e2 => ?_))))
        · refine ih (r + 1) (by omega) (by omega) (fun q hq => ?_)
          by_cases eq : q = r
          · subst eq
            exact (nI_leI (by omega) (by omega)).mp e2
          · exact h3 q (by omega)
        · refine rn_ret ⟨?_, rfl⟩
          have : ¬ fitB a l k = true := by
            unfold fitB
            rw [@decide_eq_true_iff _ (Classical.propDecidable _)]
            intro hf
            exact e2 ((nI_leI (by omega) (by omega)).mpr (hf r hr))
          rw [if_neg this]
  exact rn_eq (key 1000 0 (by omega) (by omega) (fun q hq => absurd hq (Nat.not_lt_zero q)))
theorem k_addRoom {n k : Nat} {a : AS} {l : List Nat} {D : St} (hB : BK a) (h : RC n D a) (h21 : ∀ r, r < 3 → D 21 0 0 r = nI (smn a l r 6)) (hk : k < 6) (hkl : k ∉ l) : Rn (F_X0_addToRoom n (nI k) D) (fun _ E => (∀ r, r < 3 → E 21 0 0 r = nI (smn a (k :: l) r 6)) ∧ ∀ q b t c, q ≠ 21 → E q b t c = D q b t c) := by
  have key : ∀ fu r E, 3 < fu + r → r ≤ 3 → RC n E a → (∀ q, q < 3 → E 21 0 0 q = if q < r then nI (smn a (k :: l) q 6) else nI (smn a l q 6)) → (∀ q b t c, q ≠ 21 → E q b t c = D q b t c) → Rn (F_X0_addToRoom_2 n fu (nI k) (nI r) E) (fun _ E => (∀ r, r < 3 → E 21 0 0 r = nI (smn a (k :: l) r 6)) ∧ ∀ q b t c, q ≠ 21 → E q b t c = D q b t c) := by
    intro fu
    induction fu with
    | zero => intro r E h1 h2; omega
    | succ fu ih =>
      intro r E h1 h2 hE h3 h4
      unfold F_X0_addToRoom_2
      by_cases e : r = 3
      · subst e
        refine rn_pos (show (3 : Int32) ≤ nI 3 by decide) (rn_ret ⟨fun q hq => ?_, h4⟩)
        rw [h3 q hq, if_pos hq]
      · have hr : r < 3 := by omega
        obtain ⟨b1, b2, b3, b4⟩ := hB.1 k r hk hr
        rw [nI_clamp (by omega), nI_clamp (by omega), rc_27 hE hk hr, h3 r hr, if_neg (show ¬ r < r by omega), b1, nI_add, nI_1]
        refine rn_neg (nI_ge (b := 3) hr (by decide)) (rn_gd (inb_nI hr (by decide)) (rn_gd (inb_nI hk (by decide)) (rn_st ?_)))
        refine ih (r + 1) _ (by omega) (by omega) (RC_room hE (fun q b t c x1 _ => by rw [up_at, if_neg (fun y => x1 y.1)])) (fun q hq => ?_) (fun q b t c x1 => by rw [up_at, if_neg (fun y => x1 y.1)]; exact h4 q b t c x1)
        rw [up_at]
        by_cases eq : q = r
        · subst eq
          rw [if_pos ⟨rfl, rfl, rfl, rfl⟩, if_pos (by omega), smn_cons hkl, if_pos hk]
        · rw [if_neg (by simp [eq]), h3 q hq]
          by_cases e5 : q < r
          · rw [if_pos e5, if_pos (by omega)]
          · rw [if_neg e5, if_neg (by omega)]
  exact key 1000 0 D (by omega) (by omega) h (fun q hq => by rw [if_neg (by omega)]; exact h21 q hq) (fun _ _ _ _ _ => rfl)
theorem k_ace105 {n : Nat} {a : AS} {l0 : List Nat} {k93 : Int32 → Int32 → St → Option (Int32 × St)} {x2 : Int32} {Q : Int32 → St → Prop} (hB : BK a)
    (hK : ∀ l D, IB n a l D → (closedS a l ∨ l0.length < l.length) → Rn (k93 (nI (cu a l 6)) (x2 + 1) D) Q) :
    ∀ fu j l D, 6 < fu + j → j ≤ 6 → IB n a l D → ((l = l0 ∧ ∀ k, k < j → av a 14 k 0 = 2 → k ∉ l → ¬ fits a l k) ∨ l0.length < l.length) → Rn (F_X0_allCanEnd_105 n k93 fu (nI (cu a l 6)) x2 (nI j) D) Q := by
  intro fu
  induction fu with
  | zero => intro j l D h1 h2; omega
  | succ fu ih =>
    intro j l D h1 h2 hI hp
    unfold F_X0_allCanEnd_105 F_X0_allCanEnd_168 F_X0_allCanEnd_162
    by_cases e : j = 6
    · subst e
      refine rn_pos (show (6 : Int32) ≤ nI 6 by decide) (hK l D hI ?_)
      rcases hp with ⟨-, hp⟩ | hp
      · exact Or.inl (fun k hk => hp k hk)
      · exact Or.inr hp
    · have hj : j < 6 := by omega
      obtain ⟨i1, i2, i3, i4⟩ := hI
      rw [nI_clamp (by omega), i2 j hj, nI_1]
      refine rn_neg (nI_ge (b := 6) hj (by decide)) (rn_neg (nI_ge (b := 6) hj (by decide)) (rn_gd (inb_nI hj (by decide)) ?_))
      by_cases c : av a 14 j 0 = 2 ∧ j ∉ l
      · rw [if_pos c]
        refine rn_pos rfl (rn_bdE (k_fit hB i1 i3 hj) ?_)
        by_cases c2 : fitB a l j = true
        · have hfit : fits a l j := by
            unfold fitB at c2
            exact (@decide_eq_true_iff _ (Classical.propDecidable _)).mp c2
          rw [if_pos c2]
          refine rn_neg (by decide) (rn_st ?_)
          have hD1 : RC n (up D 22 0 0 j 1) a := RC_room i1 (fun q b t c _ x2 => by rw [up_at, if_neg (fun y => x2 y.1)])
          refine rn_bd (k_addRoom (l := l) hB hD1 (fun r hr => by rw [up_at, if_neg (by simp)]; exact i3 r hr) hj c.2) ?_
          rintro _ E ⟨e1, e2⟩
          have ec : nI (cu a l 6) + -1 = nI (cu a (j :: l) 6) := by
            rw [cu_cons c.2 c.1 6, if_pos hj, ← nI_1]
            rw [Int32.add_assoc]
            have : (1 : Int32) + -1 = 0 := by decide
            rw [this, Int32.add_zero]
          rw [ec]
          refine ih (j + 1) (j :: l) E (by omega) (by omega) ⟨RC_room hD1 (fun q b t c x1 _ => e2 q b t c x1), fun k hk => ?_, e1, i4, hj, c.1, c.2, hfit⟩ (Or.inr ?_)
          · rw [e2 22 0 0 k (by decide), up_at]
            by_cases ek : k = j
            · subst ek
              rw [if_pos ⟨rfl, rfl, rfl, rfl⟩, if_neg (by simp)]
            · rw [if_neg (by simp [ek]), i2 k hk]
              by_cases c5 : av a 14 k 0 = 2 ∧ k ∉ l
              · rw [if_pos c5, if_pos ⟨c5.1, by simp [ek, c5.2]⟩]
              · rw [if_neg c5, if_neg (fun y => c5 ⟨y.1, fun z => y.2 (List.mem_cons_of_mem _ z)⟩)]
          · rcases hp with ⟨rfl, -⟩ | hp
            · simp
            · simp only [List.length_cons]; omega
        · rw [if_neg c2]
          refine rn_pos rfl (ih (j + 1) l D (by omega) (by omega) ⟨i1, i2, i3, i4⟩ ?_)
          rcases hp with ⟨hp1, hp⟩ | hp
          · refine Or.inl ⟨hp1, fun k hk h14 hkl => ?_⟩
            by_cases ek : k = j
            · subst ek
              unfold fitB at c2
              rwa [@decide_eq_true_iff _ (Classical.propDecidable _)] at c2
            · exact hp k (by omega) h14 hkl
          · exact Or.inr hp
      · rw [if_neg c]
        refine rn_neg (by decide) (ih (j + 1) l D (by omega) (by omega) ⟨i1, i2, i3, i4⟩ ?_)
        rcases hp with ⟨hp1, hp⟩ | hp
        · refine Or.inl ⟨hp1, fun k hk h14 hkl => ?_⟩
          by_cases ek : k = j
          · subst ek
            exact absurd ⟨h14, hkl⟩ c
          · exact hp k (by omega) h14 hkl
        · exact Or.inr hp
noncomputable def safeB (a : AS) : Bool := @decide (z_safe a) (Classical.propDecidable _)
theorem safe_T {a : AS} (h : z_safe a) : safeB a = true := by
  unfold safeB
  exact (@decide_eq_true_iff _ (Classical.propDecidable _)).mpr h
theorem safe_F {a : AS} (h : ¬ z_safe a) : safeB a = false := by
  unfold safeB
  exact (@decide_eq_false_iff_not _ (Classical.propDecidable _)).mpr h
theorem k_ace93 {n : Nat} {a : AS} (hB : BK a) : ∀ fu i l D, 6 < fu + i → i ≤ 6 → IB n a l D → (closedS a l ∨ i ≤ l.length) → Rn (F_X0_allCanEnd_93 n fu (nI (cu a l 6)) (nI i) D) (fun r E => r = (if safeB a = true then 1 else 0) ∧ RC n E a) := by
  intro fu
  induction fu with
  | zero => intro i l D h1 h2; omega
  | succ fu ih =>
    intro i l D h1 h2 hI hp
    have c6 := cu_le (a := a) (l := l) 6
    unfold F_X0_allCanEnd_93 F_X0_allCanEnd_174 F_X0_allCanEnd_183
    have fin : (i = 6 ∨ cu a l 6 = 0) → Rn (if nI (cu a l 6) = 0 then gd (isb 1) (some ((1 : Int32), D)) else gd (isb 0) (some ((0 : Int32), D))) (fun r E => r = (if safeB a = true then 1 else 0) ∧ RC n E a) := by
      intro hor
      refine rn_if (fun e => rn_gd rfl (rn_ret ⟨?_, hI.1⟩)) (fun e => rn_gd rfl (rn_ret ⟨?_, hI.1⟩))
      · have h0 : cu a l 6 = 0 := Classical.byContradiction fun h => nI_ne0 (by omega) (by omega) e
        rw [if_pos (safe_T ⟨l, hI.2.2.2, cu_0 h0⟩)]
      · have h0 : ¬ cu a l 6 = 0 := fun h => e (by rw [h]; rfl)
        have i6 : i = 6 := hor.resolve_right h0
        have hc : closedS a l := by
          rcases hp with hp | hp
          · exact hp
          · exfalso
            obtain ⟨n1, n2⟩ := okS_nd hI.2.2.2
            refine h0 (cu_z (fun k hk _ => Classical.byContradiction fun hn => ?_))
            have := len6' n1 n2 hk hn
            omega
        rw [safe_F (safe_no hc h0)]
        rfl
    by_cases e : i = 6
    · subst e
      exact rn_pos (show (6 : Int32) ≤ nI 6 by decide) (fin (Or.inl rfl))
    · refine rn_neg (nI_ge (b := 6) (by omega : i < 6) (by decide)) (rn_if (fun e2 => ?_) (fun e2 => ?_))
      · refine fin (Or.inr (Classical.byContradiction fun h => nI_nle (by omega) (by omega) e2))
      · refine k_ace105 (l0 := l) hB (fun l2 D2 hI2 hp2 => ?_) 1000 0 l D (by omega) (by omega) hI (Or.inl ⟨rfl, fun k hk => absurd hk (Nat.not_lt_zero k)⟩)
        rw [nI_1]
        refine ih (i + 1) l2 D2 (by omega) (by omega) hI2 ?_
        rcases hp2 with hp2 | hp2
        · exact Or.inl hp2
        · rcases hp with hp | hp
          · by_cases hl : closedS a l2
            · exact Or.inl hl
            · refine Or.inr ?_
              exfalso
              exact hl (by
                have : l2.length ≤ l.length := by
                  have key : ∀ t, okS a t → ∀ k, k ∈ t → k ∈ l := by
                    intro t
                    induction t with
                    | nil => intro _ k hk; cases hk
                    | cons j t ih =>
                      rintro ⟨o1, o2, o3, o4, o5⟩ k hk
                      have ih := ih o1
                      rcases List.mem_cons.mp hk with rfl | hk
                      · exact Classical.byContradiction fun hn => hp k o2 o3 hn (fun r hr => Nat.le_trans (o5 r hr) (smn_mono ih 6))
                      · exact ih k hk
                  exact (okS_nd hI2.2.2.2).1.length_le_of_subset (key l2 hI2.2.2.2)
                omega)
          · exact Or.inr (by omega)
