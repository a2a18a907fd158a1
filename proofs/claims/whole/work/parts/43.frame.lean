/-! The class: frames, core, and the jobs' small methods -/
theorem up_comm (C : St) {q i k j q2 i2 k2 j2 : Nat} (x y : Int32) (h : ¬ (q = q2 ∧ i = i2 ∧ k = k2 ∧ j = j2)) : up (up C q i k j x) q2 i2 k2 j2 y = up (up C q2 i2 k2 j2 y) q i k j x := by
  funext a b c d
  simp only [up_at]
  by_cases h1 : a = q ∧ b = i ∧ c = k ∧ d = j
  · by_cases h2 : a = q2 ∧ b = i2 ∧ c = k2 ∧ d = j2
    · exact absurd ⟨h1.1.symm.trans h2.1, h1.2.1.symm.trans h2.2.1, h1.2.2.1.symm.trans h2.2.2.1, h1.2.2.2.symm.trans h2.2.2.2⟩ h
    · rw [if_neg h2, if_pos h1, if_pos h1]
  · by_cases h2 : a = q2 ∧ b = i2 ∧ c = k2 ∧ d = j2
    · rw [if_pos h2, if_neg h1, if_pos h2]
    · rw [if_neg h2, if_neg h1, if_neg h1, if_neg h2]
theorem nI_nm {k : Nat} (h : k < 2 ^ 31) {x : Int32} (hx : x < 0) : ¬ nI k = x := fun e => nI_pos h (by rw [e]; exact hx)
def vJ (x : Int32) : Prop := x = -2 ∨ x = -1 ∨ ∃ k, k < 6 ∧ x = nI k
/-- a write of owner and busy -/
theorem wc_39 {n f : Nat} {C : St} {a : AS} {x : Int32} (h : RC n C a) (hx : vJ x) : RC n (up (up C 14 f 1 0 (owO x)) 14 f 3 0 (owB x)) (sv 39 f 0 x a) := by
  obtain ⟨h1, h2, h3, h4, h5⟩ := h
  have e : ∀ q b k c, ¬ (q = 14) → up (up C 14 f 1 0 (owO x)) 14 f 3 0 (owB x) q b k c = C q b k c := by
    intro q b k c hq
    rw [up_at, if_neg (fun hh => hq hh.1), up_at, if_neg (fun hh => hq hh.1)]
  refine ⟨?_, ?_, ?_, ?_, ?_⟩
  · have := wCo (y := (14, f, 3, 0)) (x := owB x) (wCo (y := (14, f, 1, 0)) (x := owO x) h1 rfl) rfl
    intro g b c ho
    rw [av_sv, if_neg]
    · exact this g b c ho
    · rintro ⟨rfl, -, -⟩
      exact ho.elim
  · intro g hg
    rw [av_sv]
    by_cases eg : g = f
    · subst eg
      rw [if_pos ⟨rfl, rfl, rfl⟩]
      refine ⟨⟨?_, ?_⟩, hx⟩
      · rw [up_at, if_neg (by simp), up_at, if_pos ⟨rfl, rfl, rfl, rfl⟩]
      · rw [up_at, if_pos ⟨rfl, rfl, rfl, rfl⟩]
    · rw [if_neg (by simp [eg]), up_at, if_neg (by simp [eg]), up_at, if_neg (by simp [eg]), up_at, if_neg (by simp [eg]), up_at, if_neg (by simp [eg])]
      exact h2 g hg
  · refine ⟨fun k hk => ?_, fun t ht => ?_⟩
    · rw [e 6 k 0 0 (by decide)]; exact h3.1 k hk
    · rw [e 5 t 1 0 (by decide), e 5 t 2 0 (by decide)]; exact h3.2 t ht
  · refine ⟨?_, h4.2.1, h4.2.2.1, fun b p hb => ?_⟩
    · rw [e 2 0 1 0 (by decide)]; exact h4.1
    · rw [e 3 0 0 b (by decide)]; exact h4.2.2.2 b p hb
  · intro q hq
    obtain ⟨q1, q2, q3, q4, q5, q6⟩ := h5 q hq
    refine ⟨?_, q2, q3, fun b p hb => ?_, fun b hb hb2 => ?_, ?_⟩
    · rw [e 17 q 2 0 (by decide)]; exact q1
    · rw [e 18 q 0 b (by decide)]; exact q4 b p hb
    · rw [e 18 q 0 b (by decide)]; exact q5 b hb hb2
    · rw [e 17 q 3 0 (by decide)]; exact q6
theorem up_same {C : St} {q i k j : Nat} {x y : Int32} (h : C q i k j = x) : up C q i k j y = up (up C q i k j x) q i k j y := by
  funext a b c d
  simp only [up_at]
  by_cases h1 : a = q ∧ b = i ∧ c = k ∧ d = j
  · rw [if_pos h1, if_pos h1]
  · rw [if_neg h1, if_neg h1, if_neg h1]
theorem wc_busy {n f : Nat} {C : St} {a : AS} (h : RC n C a) (hf : f < n) (hx : av a 39 f 0 = -1) : RC n (up C 14 f 3 0 1) (sv 39 f 0 (-2) a) := by
  have e : C 14 f 1 0 = -1 := by
    rw [((h.2.1 f hf).1).1, hx]; rfl
  have := wc_39 (f := f) (x := -2) h (Or.inl rfl)
  have e2 : up C 14 f 1 0 (owO (-2)) = C := by
    funext a b c d
    rw [up_at]
    split
    · rename_i hh
      rw [hh.1, hh.2.1, hh.2.2.1, hh.2.2.2, e]
      rfl
    · rfl
  rw [e2] at this
  exact this
def z_vacate (f : Nat) (a : AS) : AS := sv 43 f 0 0 (sv 42 f 0 0 (sv 39 f 0 (-1) a))
theorem k_vacate {n f : Nat} {C : St} {a : AS} (h : RC n C a) (hf : f < n) (hn : n < 2 ^ 31) : Rn (F_X4_vacate n (nI f) C) (fun r D => r = 0 ∧ RC n D (z_vacate f a)) := by
  unfold F_X4_vacate
  rw [nI_clamp (by omega)]
  refine rn_gd (inb_nI hf hn) (rn_st (rn_st (rn_st (rn_st (rn_ret ⟨rfl, ?_⟩)))))
  exact wc_43 (wc_42 (wc_39 (x := -1) h (Or.inr (Or.inl rfl))) hf) hf
def z_occupy (f k : Nat) (s t : Int32) (a : AS) : AS := sv 41 f 0 t (sv 43 f 0 1 (sv 42 f 0 0 (sv 40 f 0 s (sv 39 f 0 (nI k) a))))
theorem k_occupy {n f k : Nat} {s t : Int32} {C : St} {a : AS} (h : RC n C a) (hf : f < n) (hn : n < 2 ^ 31) (hk : k < 6) : Rn (F_X4_occupy n (nI f) (nI k) s t C) (fun r D => r = 0 ∧ RC n D (z_occupy f k s t a)) := by
  unfold F_X4_occupy
  rw [nI_clamp (by omega)]
  refine rn_gd (inb_nI hf hn) (rn_st (rn_st (rn_st (rn_st (rn_st (rn_st (rn_ret ⟨rfl, ?_⟩)))))))
  have h1 := wc_39 (f := f) (x := nI k) h (Or.inr (Or.inr ⟨k, hk, rfl⟩))
  have e1 : owO (nI k) = nI k := by unfold owO; rw [if_neg (nI_pos (by omega))]
  have e2 : owB (nI k) = 0 := by unfold owB; rw [if_neg (nI_nm (by omega) (by decide))]
  rw [e1, e2] at h1
  have h2 := wc_40 (x := s) h1 hf
  rw [up_comm _ _ _ (by simp)] at h2
  exact wc_41 (wc_43 (wc_42 h2 hf) hf) hf
theorem rcf {n f : Nat} {C : St} {a : AS} (h : RC n C a) (hf : f < n) : (av a 39 f 0 = -2 ∧ C 14 f 3 0 = 1 ∧ C 14 f 1 0 = -1) ∨ (av a 39 f 0 = -1 ∧ C 14 f 3 0 = 0 ∧ C 14 f 1 0 = -1) ∨ ∃ k, k < 6 ∧ av a 39 f 0 = nI k ∧ C 14 f 3 0 = 0 ∧ C 14 f 1 0 = nI k := by
  obtain ⟨⟨h1, h2⟩, h3⟩ := h.2.1 f hf
  rw [h1, h2]
  rcases h3 with h3 | h3 | ⟨k, hk, h3⟩
  · left; rw [h3]; exact ⟨rfl, rfl, rfl⟩
  · right; left; rw [h3]; exact ⟨rfl, rfl, rfl⟩
  · right; right
    refine ⟨k, hk, h3, ?_, ?_⟩
    · rw [h3]; unfold owB; rw [if_neg (nI_nm (by omega) (by decide))]
    · rw [h3]; unfold owO; rw [if_neg (nI_pos (by omega))]
theorem rn_eq {o : Option (Int32 × St)} {x : Int32} {C : St} (h : Rn o (fun r D => r = x ∧ D = C)) : o = some (x, C) := by
  obtain ⟨r, D, e, rfl, rfl⟩ := h
  exact e
theorem k_isOf {n f k : Nat} {C : St} {a : AS} (h : RC n C a) (hf : f < n) (hn : n < 2 ^ 31) (hk : k < 6) : F_X4_isOf n (nI f) (nI k) C = some (if av a 39 f 0 = nI k then 1 else 0, C) := by
  have hkk := okr_nI hk (by decide)
  refine rn_eq ?_
  unfold F_X4_isOf
  rw [nI_clamp (by omega)]
  refine rn_gd (inb_nI hf hn) ?_
  rcases rcf h hf with ⟨e1, e2, e3⟩ | ⟨e1, e2, e3⟩ | ⟨j, hj, e1, e2, e3⟩
  · have hne : ¬ (-2 : Int32) = nI k := fun e => nI_nm (k := k) (x := -2) (by omega) (by decide) e.symm
    rw [e1, e2]
    exact rn_neg (by decide) (rn_gd rfl (rn_ret ⟨by rw [if_neg hne], rfl⟩))
  · have hne : ¬ (-1 : Int32) = nI k := fun e => nI_nm (k := k) (x := -1) (by omega) (by decide) e.symm
    rw [e1, e2, e3]
    exact rn_pos rfl (rn_gd rfl (rn_gd hkk (rn_neg hne (rn_gd rfl (rn_ret ⟨by rw [if_neg hne], rfl⟩)))))
  · rw [e1, e2, e3]
    refine rn_pos rfl (rn_gd (okr_nI hj (by decide)) (rn_gd hkk (rn_if (fun e => ?_) (fun e => ?_))))
    · exact rn_gd rfl (rn_ret ⟨by rw [if_pos e], rfl⟩)
    · exact rn_gd rfl (rn_ret ⟨by rw [if_neg e], rfl⟩)
theorem k_isFree {n f : Nat} {C : St} {a : AS} (h : RC n C a) (hf : f < n) (hn : n < 2 ^ 31) : F_X4_isFree n (nI f) C = some (if av a 39 f 0 = -1 then 1 else 0, C) := by
  unfold F_X4_isFree F_X4_isFree_18 F_X4_isFree_19 gd
  rw [inb_nI hf hn, nI_clamp (by omega)]
  rcases rcf h hf with ⟨e1, e2, e3⟩ | ⟨e1, e2, e3⟩ | ⟨j, hj, e1, e2, e3⟩
  · rw [e1, e2]; rfl
  · rw [e1, e2, e3]; rfl
  · rw [e1, e2, e3, if_neg (nI_nm (k := j) (by omega) (by decide)), if_pos rfl, if_neg (nI_pos (by omega))]
    rfl
def oI : Option Nat → Int32
  | none => -1
  | some f => nI f
def z_mt (k : Nat) (s : Int32) (a : AS) (f : Nat) : Bool := decide (av a 39 f 0 = nI k) && decide (av a 40 f 0 = s)
def z_find (n k : Nat) (s : Int32) (a : AS) : Option Nat := (List.range n).find? (z_mt k s a)
theorem k_find12 {n k : Nat} {s : Int32} {C : St} {a : AS} (h : RC n C a) (hn : n ≤ 12) (hk : k < 6) : ∀ fu f, n < fu + f → f ≤ n → (∀ g, g < f → z_mt k s a g = false) → F_X2_find_12 n fu (nI k) s (nI n) (nI f) C = some (oI (z_find n k s a), C) := by
  intro fu
  induction fu with
  | zero => intro f h1 h2; omega
  | succ fu ih =>
    intro f h1 h2 h3
    unfold F_X2_find_12
    by_cases e : f = n
    · subst e
      rw [if_pos (nI_le (Nat.le_refl _) (by omega))]
      have : z_find f k s a = none := by
        unfold z_find
        rw [List.find?_range_eq_none]
        intro i hi
        rw [h3 i hi]; rfl
      rw [this]
      rfl
    · have hf : f < n := by omega
      rw [if_neg (nI_ge hf (by omega)), k_isOf h hf (by omega) hk]
      unfold gd bd2
      rw [inb_nI hf (by omega)]
      simp only [Option.bind_some, if_true]
      by_cases e1 : av a 39 f 0 = nI k
      · rw [if_pos e1, if_neg (by decide), nI_clamp (by omega), rc_40 h hf]
        by_cases e2 : av a 40 f 0 = s
        · rw [if_pos e2]
          have : z_find n k s a = some f := by
            unfold z_find
            rw [List.find?_range_eq_some]
            refine ⟨?_, List.mem_range.mpr hf, fun j hj => by rw [h3 j hj]; rfl⟩
            unfold z_mt
            simp [e1, e2]
          rw [this]
          rfl
        · rw [if_neg e2]
          show F_X2_find_12 n fu (nI k) s (nI n) (nI f + 1) C = _
          rw [nI_1]
          refine ih (f + 1) (by omega) (by omega) (fun g hg => ?_)
          by_cases eg : g = f
          · subst eg; unfold z_mt; simp [e2]
          · exact h3 g (by omega)
      · rw [if_neg e1, if_pos rfl]
        show F_X2_find_12 n fu (nI k) s (nI n) (nI f + 1) C = _
        rw [nI_1]
        refine ih (f + 1) (by omega) (by omega) (fun g hg => ?_)
        by_cases eg : g = f
        · subst eg; unfold z_mt; simp [e1]
        · exact h3 g (by omega)
theorem k_find {n k : Nat} {s : Int32} {C : St} {a : AS} (h : RC n C a) (hn : n ≤ 12) (hk : k < 6) : F_X2_find n (nI k) s C = some (oI (z_find n k s a), C) :=
  k_find12 h hn hk 1000 0 (by omega) (by omega) (fun g hg => absurd hg (Nat.not_lt_zero g))
def z_cl (a : AS) (f : Nat) : Prop := av a 39 f 0 = -2 ∨ ¬ av a 43 f 0 = 0
def z_best (a : AS) : Nat → Option Nat
  | 0 => none
  | m + 1 => match z_best a m with
    | none => if av a 39 m 0 = -2 ∨ ¬ av a 43 m 0 = 0 then none else some m
    | some b => if av a 39 m 0 = -2 ∨ ¬ av a 43 m 0 = 0 then some b else if av a 41 b 0 ≤ av a 41 m 0 then some b else some m
theorem best_lt {a : AS} : ∀ {m b : Nat}, z_best a m = some b → b < m := by
  intro m
  induction m with
  | zero => intro b h; cases h
  | succ m ih =>
    intro b h
    unfold z_best at h
    cases e : z_best a m with
    | none =>
      rw [e] at h
      simp only at h
      split at h
      · cases h
      · injection h with h; omega
    | some c =>
      rw [e] at h
      simp only at h
      have := ih e
      split at h
      · injection h with h; omega
      · split at h
        · injection h with h; omega
        · injection h with h; omega
def z_choose (n : Nat) (a : AS) : Option Nat := match (List.range n).find? (fun f => decide (av a 39 f 0 = -1)) with
  | some f => some f
  | none => z_best a n
theorem k_choose13 {n : Nat} {C : St} {a : AS} (h : RC n C a) (hn : n ≤ 12) : ∀ fu f, n < fu + f → f ≤ n → (∀ g, g < f → ¬ av a 39 g 0 = -1) → F_X2_choose_13 n fu (oI (z_best a f)) (nI n) (nI f) C = some (oI (z_choose n a), C) := by
  intro fu
  induction fu with
  | zero => intro f h1 h2; omega
  | succ fu ih =>
    intro f h1 h2 h3
    unfold F_X2_choose_13
    by_cases e : f = n
    · subst e
      rw [if_pos (nI_le (Nat.le_refl _) (by omega))]
      have : (List.range f).find? (fun f => decide (av a 39 f 0 = -1)) = none := by
        rw [List.find?_range_eq_none]
        intro i hi
        simp [h3 i hi]
      unfold z_choose
      rw [this]
    · have hf : f < n := by omega
      rw [if_neg (nI_ge hf (by omega)), k_isFree h hf (by omega)]
      unfold gd bd2
      rw [inb_nI hf (by omega)]
      simp only [Option.bind_some, if_true]
      by_cases e1 : av a 39 f 0 = -1
      · rw [if_pos e1, if_neg (by decide)]
        have : (List.range n).find? (fun f => decide (av a 39 f 0 = -1)) = some f := by
          rw [List.find?_range_eq_some]
          exact ⟨by simp [e1], List.mem_range.mpr hf, fun j hj => by simp [h3 j hj]⟩
        unfold z_choose
        rw [this]
        rfl
      · rw [if_neg e1, if_pos rfl, nI_clamp (by omega), rc_43 h hf]
        have key := ih (f + 1) (by omega) (by omega) (fun g hg => by
          by_cases eg : g = f
          · subst eg; exact e1
          · exact h3 g (by omega))
        unfold F_X2_choose_56 F_X2_choose_57 F_X2_choose_80 F_X2_choose_83 gd
        rw [nI_1]
        have hb : C 14 f 3 0 = 0 ↔ ¬ av a 39 f 0 = -2 := by
          rcases rcf h hf with ⟨e1, e2, e3⟩ | ⟨e1, e2, e3⟩ | ⟨j, hj, e1, e2, e3⟩
          · rw [e1, e2]; decide
          · rw [e1, e2]; decide
          · rw [e1, e2]; simp [nI_nm (k := j) (x := -2) (by omega) (by decide)]
        simp only [hb]
        cases eb : z_best a f with
        | none =>
          have e5 : z_best a (f + 1) = if av a 39 f 0 = -2 ∨ ¬ av a 43 f 0 = 0 then none else some f := by
            rw [z_best, eb]
          by_cases c1 : av a 39 f 0 = -2
          · rw [if_pos (Or.inl c1)] at e5
            rw [e5] at key
            simpa [c1] using key
          · by_cases c2 : av a 43 f 0 = 0
            · rw [if_neg (by simp [c1, c2])] at e5
              rw [e5] at key
              have : oI none < 0 := by decide
              simpa [c1, c2, this, oI] using key
            · rw [if_pos (Or.inr c2)] at e5
              rw [e5] at key
              simpa [c1, c2] using key
        | some b =>
          have e5 : z_best a (f + 1) = if av a 39 f 0 = -2 ∨ ¬ av a 43 f 0 = 0 then some b else if av a 41 b 0 ≤ av a 41 f 0 then some b else some f := by
            rw [z_best, eb]
          have hbl := best_lt eb
          have hb2 : ¬ oI (some b) < 0 := nI_pos (by omega)
          have hb3 : inb (oI (some b)) n = true := inb_nI (by omega) (by omega)
          have hb4 : (oI (some b)).toNatClampNeg = b := nI_clamp (by omega)
          by_cases c1 : av a 39 f 0 = -2
          · rw [if_pos (Or.inl c1)] at e5
            rw [e5] at key
            simpa [c1] using key
          · by_cases c2 : av a 43 f 0 = 0
            · rw [if_neg (by simp [c1, c2])] at e5
              by_cases c3 : av a 41 b 0 ≤ av a 41 f 0
              · rw [if_pos c3] at e5
                rw [e5] at key
                simpa [c1, c2, hb2, hb3, hb4, inb_nI hf (by omega : n < 2 ^ 31), nI_clamp (by omega : f < 2 ^ 31), rc_41 h hf, rc_41 h (by omega : b < n), c3] using key
              · rw [if_neg c3] at e5
                rw [e5] at key
                show _ = _
                simp [c1, c2, hb2, hb3, hb4, inb_nI hf (by omega : n < 2 ^ 31), nI_clamp (by omega : f < 2 ^ 31), rc_41 h hf, rc_41 h (by omega : b < n), c3]
                exact key
            · rw [if_pos (Or.inr c2)] at e5
              rw [e5] at key
              simpa [c1, c2] using key
theorem k_choose {n : Nat} {C : St} {a : AS} (h : RC n C a) (hn : n ≤ 12) : F_X2_choose n C = some (oI (z_choose n a), C) :=
  k_choose13 h hn 1000 0 (by omega) (by omega) (fun g hg => absurd hg (Nat.not_lt_zero g))
def z_unpin (m k : Nat) (a : AS) : AS := (fun g b c => if g = 43 ∧ c = 0 ∧ b < m ∧ a.1 39 b 0 = nI k then 0 else a.1 g b c, a.2)
def z_comp (n k : Nat) (nx : Int32) (a : AS) : AS := z_unpin n k (sv 18 k 0 nx (sv 17 k 0 (av a 17 k 0 + 1) a))
theorem av_unpin (m k : Nat) (a : AS) (g b c : Nat) : av (z_unpin m k a) g b c = if g = 43 ∧ c = 0 ∧ b < m ∧ av a 39 b 0 = nI k then 0 else av a g b c := rfl
theorem al_unpin (m k : Nat) (a : AS) (q : Nat) : al (z_unpin m k a) q = al a q := rfl
theorem k_comp27 {n k : Nat} {a : AS} (hn : n ≤ 12) (hk : k < 6) : ∀ fu f D, n < fu + f → f ≤ n → RC n D (z_unpin f k a) → Rn (F_X2_complete_27 n fu (nI k) (nI n) (nI f) D) (fun r E => r = 0 ∧ RC n E (z_unpin n k a)) := by
  intro fu
  induction fu with
  | zero => intro f D h1 h2; omega
  | succ fu ih =>
    intro f D h1 h2 h
    unfold F_X2_complete_27
    by_cases e : f = n
    · subst e
      exact rn_pos (nI_le (Nat.le_refl _) (by omega)) (rn_ret ⟨rfl, h⟩)
    · have hf : f < n := by omega
      refine rn_neg (nI_ge hf (by omega)) (rn_gd (inb_nI hf (by omega)) ?_)
      refine rn_bdE (k_isOf h hf (by omega) hk) ?_
      have e9 : av (z_unpin f k a) 39 f 0 = av a 39 f 0 := by rw [av_unpin, if_neg (by simp)]
      rw [e9]
      by_cases e1 : av a 39 f 0 = nI k
      · rw [if_pos e1]
        refine rn_neg (by decide) (rn_st ?_)
        show Rn (F_X2_complete_27 n fu (nI k) (nI n) (nI f + 1) _) _
        rw [nI_1, nI_clamp (by omega)]
        refine ih (f + 1) _ (by omega) (by omega) ?_
        have h2 := wc_43 (x := 0) h hf
        have e3 : sv 43 f 0 0 (z_unpin f k a) = z_unpin (f + 1) k a := by
          refine as_ext (fun g b c => ?_) (fun q => rfl)
          rw [av_sv, av_unpin, av_unpin]
          by_cases c1 : g = 43 ∧ b = f ∧ c = 0
          · obtain ⟨rfl, rfl, rfl⟩ := c1
            rw [if_pos ⟨rfl, rfl, rfl⟩, if_pos ⟨rfl, rfl, by omega, e1⟩]
          · rw [if_neg c1]
            by_cases c2 : g = 43 ∧ c = 0 ∧ b < f ∧ av a 39 b 0 = nI k
            · rw [if_pos c2, if_pos ⟨c2.1, c2.2.1, by omega, c2.2.2.2⟩]
            · rw [if_neg c2, if_neg]
              rintro ⟨d1, d2, d3, d4⟩
              by_cases d5 : b = f
              · exact c1 ⟨d1, d5, d2⟩
              · exact c2 ⟨d1, d2, by omega, d4⟩
        rw [← e3]
        exact h2
      · rw [if_neg e1]
        refine rn_pos rfl ?_
        show Rn (F_X2_complete_27 n fu (nI k) (nI n) (nI f + 1) _) _
        rw [nI_1]
        refine ih (f + 1) _ (by omega) (by omega) ?_
        have e3 : z_unpin f k a = z_unpin (f + 1) k a := by
          refine as_ext (fun g b c => ?_) (fun q => rfl)
          rw [av_unpin, av_unpin]
          by_cases c2 : g = 43 ∧ c = 0 ∧ b < f ∧ av a 39 b 0 = nI k
          · rw [if_pos c2, if_pos ⟨c2.1, c2.2.1, by omega, c2.2.2.2⟩]
          · rw [if_neg c2, if_neg]
            rintro ⟨d1, d2, d3, d4⟩
            by_cases d5 : b = f
            · subst d5; exact e1 d4
            · exact c2 ⟨d1, d2, by omega, d4⟩
        rw [← e3]
        exact h
theorem unpin0 (k : Nat) (a : AS) : z_unpin 0 k a = a := as_ext (fun g b c => by rw [av_unpin, if_neg (by simp)]) (fun q => rfl)
theorem k_comp {n k : Nat} {x : Int32} {C : St} {a : AS} (h : RC n C a) (hn : n ≤ 12) (hk : k < 6) : Rn (F_X2_complete n (nI k) x C) (fun r E => r = 0 ∧ RC n E (z_comp n k x a)) := by
  unfold F_X2_complete
  rw [nI_clamp (by omega), rc_17 h hk]
  refine rn_gd (inb_nI hk (by decide)) (rn_st (rn_st ?_))
  refine k_comp27 hn hk 1000 0 _ (by omega) (by omega) ?_
  rw [unpin0]
  exact wc_18 (wc_17 h hk) hk
def z_vac (m k : Nat) (a : AS) : AS := (fun g b c => if c = 0 ∧ b < m ∧ a.1 39 b 0 = nI k then (if g = 39 then -1 else if g = 42 ∨ g = 43 then 0 else a.1 g b c) else a.1 g b c, a.2)
theorem av_vac (m k : Nat) (a : AS) (g b c : Nat) : av (z_vac m k a) g b c = if c = 0 ∧ b < m ∧ av a 39 b 0 = nI k then (if g = 39 then -1 else if g = 42 ∨ g = 43 then 0 else av a g b c) else av a g b c := rfl
theorem k_vac11 {n k : Nat} {a : AS} (hn : n ≤ 12) (hk : k < 6) : ∀ fu f D, n < fu + f → f ≤ n → RC n D (z_vac f k a) → Rn (F_X2_vacateAll_11 n fu (nI k) (nI n) (nI f) D) (fun r E => r = 0 ∧ RC n E (z_vac n k a)) := by
  intro fu
  induction fu with
  | zero => intro f D h1 h2; omega
  | succ fu ih =>
    intro f D h1 h2 h
    unfold F_X2_vacateAll_11
    by_cases e : f = n
    · subst e
      exact rn_pos (nI_le (Nat.le_refl _) (by omega)) (rn_ret ⟨rfl, h⟩)
    · have hf : f < n := by omega
      refine rn_neg (nI_ge hf (by omega)) (rn_gd (inb_nI hf (by omega)) ?_)
      refine rn_bdE (k_isOf h hf (by omega) hk) ?_
      have e9 : av (z_vac f k a) 39 f 0 = av a 39 f 0 := by rw [av_vac, if_neg (by simp)]
      rw [e9]
      by_cases e1 : av a 39 f 0 = nI k
      · rw [if_pos e1]
        refine rn_neg (by decide) (rn_bd (k_vacate h hf (by omega)) ?_)
        rintro _ E ⟨-, hE⟩
        show Rn (F_X2_vacateAll_11 n fu (nI k) (nI n) (nI f + 1) _) _
        rw [nI_1]
        refine ih (f + 1) _ (by omega) (by omega) ?_
        have e3 : z_vacate f (z_vac f k a) = z_vac (f + 1) k a := by
          refine as_ext (fun g b c => ?_) (fun q => rfl)
          unfold z_vacate
          rw [av_sv, av_sv, av_sv, av_vac, av_vac]
          by_cases c1 : b = f ∧ c = 0
          · obtain ⟨rfl, rfl⟩ := c1
            rw [if_pos (c := 0 = 0 ∧ b < b + 1 ∧ av a 39 b 0 = nI k) ⟨rfl, by omega, e1⟩, if_neg (c := 0 = 0 ∧ b < b ∧ av a 39 b 0 = nI k) (by simp)]
            by_cases g1 : g = 39
            · simp [g1]
            · by_cases g2 : g = 42
              · simp [g2]
              · by_cases g3 : g = 43
                · simp [g3]
                · simp [g1, g2, g3]
          · rw [if_neg (fun hh => c1 ⟨hh.2.1, hh.2.2⟩), if_neg (fun hh => c1 ⟨hh.2.1, hh.2.2⟩), if_neg (fun hh => c1 ⟨hh.2.1, hh.2.2⟩)]
            by_cases c2 : c = 0 ∧ b < f ∧ av a 39 b 0 = nI k
            · rw [if_pos c2, if_pos (show c = 0 ∧ b < f + 1 ∧ av a 39 b 0 = nI k from ⟨c2.1, by omega, c2.2.2⟩)]
            · rw [if_neg c2, if_neg]
              rintro ⟨d1, d2, d3⟩
              by_cases d5 : b = f
              · exact c1 ⟨d5, d1⟩
              · exact c2 ⟨d1, by omega, d3⟩
        rw [← e3]
        exact hE
      · rw [if_neg e1]
        refine rn_pos rfl ?_
        show Rn (F_X2_vacateAll_11 n fu (nI k) (nI n) (nI f + 1) _) _
        rw [nI_1]
        refine ih (f + 1) _ (by omega) (by omega) ?_
        have e3 : z_vac f k a = z_vac (f + 1) k a := by
          refine as_ext (fun g b c => ?_) (fun q => rfl)
          rw [av_vac, av_vac]
          by_cases c2 : c = 0 ∧ b < f ∧ av a 39 b 0 = nI k
          · rw [if_pos c2, if_pos (show c = 0 ∧ b < f + 1 ∧ av a 39 b 0 = nI k from ⟨c2.1, by omega, c2.2.2⟩)]
          · rw [if_neg c2, if_neg]
            rintro ⟨d1, d2, d3⟩
            by_cases d5 : b = f
            · subst d5; exact e1 d3
            · exact c2 ⟨d1, by omega, d3⟩
        rw [← e3]
        exact h
theorem k_vacAll {n k : Nat} {C : St} {a : AS} (h : RC n C a) (hn : n ≤ 12) (hk : k < 6) : Rn (F_X2_vacateAll n (nI k) C) (fun r E => r = 0 ∧ RC n E (z_vac n k a)) := by
  refine k_vac11 hn hk 1000 0 _ (by omega) (by omega) ?_
  have : z_vac 0 k a = a := as_ext (fun g b c => by rw [av_vac, if_neg (by simp)]) (fun q => rfl)
  rw [this]
  exact h
theorem fmd16 : ∀ m, m < 128 → 0 ≤ (nI m ^^^ 16) ∧ nI m - nI m / 16 * 16 = nI (m % 16) ∧ nI m / 16 = nI (m / 16) := by decide +kernel
theorem fmd8 : ∀ m, m < 16 → 0 ≤ (nI m ^^^ 8) ∧ nI m - nI m / 8 * 8 = nI (m % 8) := by decide +kernel
theorem k_fm16 {m : Nat} {C : St} (h : m < 128) : F_J9_floorMod_7cf53 (nI m) 16 C = some (nI (m % 16), C) := by
  obtain ⟨h1, h2, -⟩ := fmd16 m h
  unfold F_J9_floorMod_7cf53 F_J9_floorMod_7cf53_18 gd
  rw [if_pos h1, h2]
  rfl
theorem k_fm8 {m : Nat} {C : St} (h : m < 16) : F_J9_floorMod_7cf53 (nI m) 8 C = some (nI (m % 8), C) := by
  obtain ⟨h1, h2⟩ := fmd8 m h
  unfold F_J9_floorMod_7cf53 F_J9_floorMod_7cf53_18 gd
  rw [if_pos h1, h2]
  rfl
theorem k_read {n f m : Nat} {C : St} {a : AS} (h : RC n C a) (hf : f < n) (hn : n < 2 ^ 31) (hm : m < 128) : F_X4_read n (nI f) (nI m) C = some (av a 38 f (m % 16), C) := by
  have h16 : m % 16 < 16 := Nat.mod_lt _ (by decide)
  unfold F_X4_read F_X4_read_29 F_X4_read_30
  rw [k_fm16 hm]
  unfold bd2 gd
  simp only [Option.bind_some]
  rw [if_neg (nI_pos (by omega)), inb_nI hf hn, if_pos rfl, if_neg (show ¬ (16 : Int32) ≤ nI (m % 16) from nI_ge (b := 16) h16 (by decide)), inb_nI h16 (by decide), nI_clamp (by omega), nI_clamp (by omega), rc_38 h hf h16]
  rfl
theorem k_write {n f m : Nat} {x : Int32} {C : St} {a : AS} (h : RC n C a) (hf : f < n) (hn : n < 2 ^ 31) (hm : m < 128) : Rn (F_X4_write n (nI f) (nI m) x C) (fun r D => r = 0 ∧ RC n D (sv 38 f (m % 16) x a)) := by
  have h16 : m % 16 < 16 := Nat.mod_lt _ (by decide)
  unfold F_X4_write
  refine rn_bdE (k_fm16 hm) ?_
  refine rn_neg (nI_pos (by omega)) (rn_gd (inb_nI hf hn) (rn_neg (nI_ge (b := 16) h16 (by decide)) (rn_gd (inb_nI h16 (by decide)) (rn_st (rn_ret ⟨rfl, ?_⟩)))))
  rw [nI_clamp (by omega), nI_clamp (by omega)]
  exact wc_38 h hf h16
