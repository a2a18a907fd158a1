/-! The class: rows, the ready row, processes, signals -/
theorem rn_bdE {o : Option (Int32 × St)} {k : Int32 → St → Option (Int32 × St)} {Q : Int32 → St → Prop} {r : Int32} {C : St} (h : o = some (r, C)) (hk : Rn (k r C) Q) : Rn (bd2 o k) Q := by
  rw [h]; exact hk
theorem len10 {l : List Nat} (hn : l.Nodup) (h : ∀ p ∈ l, p < 10) : l.length ≤ 10 := by
  have := hn.length_le_of_subset (l₂ := List.range 10) (fun p hp => List.mem_range.mpr (h p hp))
  simpa using this
theorem len10' {l : List Nat} {p : Nat} (hn : l.Nodup) (h : ∀ p ∈ l, p < 10) (hp : p < 10) (hq : p ∉ l) : l.length < 10 := by
  have h2 : (p :: l).Nodup := List.nodup_cons.mpr ⟨hq, hn⟩
  have := len10 h2 (fun x hx => by
    rcases List.mem_cons.mp hx with rfl | hx
    · exact hp
    · exact h x hx)
  simp only [List.length_cons] at this
  omega
theorem RC_ready {n : Nat} {C D : St} {a : AS} {l : List Nat} (h : RC n C a) (e : ∀ q b k c, ¬ (q = 3 ∧ b = 0) → ¬ (q = 2 ∧ b = 0) → D q b k c = C q b k c) (hr : RCr D l) : RC n D (sl 0 l a) := by
  obtain ⟨h1, h2, h3, h4, h5⟩ := h
  refine ⟨?_, ?_, ?_, ?_, ?_⟩
  · intro f i j ho
    have e1 := nvC_ok ho
    have e2 := okC_lt ho
    have e3 : atC D (adC f i j) = atC C (adC f i j) := by
      unfold atC
      refine e _ _ _ _ ?_ ?_
      · intro hh
        have : (nvC (adC f i j)).1 = 80 := by
          unfold nvC
          simp [hh.1, hh.2]
        rw [e1] at this
        simp only at this
        omega
      · intro hh
        have : (nvC (adC f i j)).1 = 80 := by
          unfold nvC
          simp [hh.1, hh.2]
        rw [e1] at this
        simp only at this
        omega
    rw [e3, av_sl]
    exact h1 f i j ho
  · intro f hf
    rw [av_sl, e 14 f 1 0 (by simp) (by simp), e 14 f 3 0 (by simp) (by simp)]
    exact h2 f hf
  · refine ⟨fun k hk => ?_, fun t ht => ?_⟩
    · rw [e 6 k 0 0 (by simp) (by simp)]; exact h3.1 k hk
    · rw [e 5 t 1 0 (by simp) (by simp), e 5 t 2 0 (by simp) (by simp)]; exact h3.2 t ht
  · rw [al_sl, if_pos rfl]; exact hr
  · intro q hq
    rw [al_sl, if_neg (by omega)]
    obtain ⟨q1, q2, q3, q4, q5, q6⟩ := h5 q hq
    refine ⟨?_, q2, q3, fun b p hb => ?_, fun b hb hb2 => ?_, ?_⟩
    · rw [e 17 q 2 0 (by simp) (by simp)]; exact q1
    · rw [e 18 q 0 b (by simp) (by simp)]; exact q4 b p hb
    · rw [e 18 q 0 b (by simp) (by simp)]; exact q5 b hb hb2
    · rw [e 17 q 3 0 (by simp) (by simp)]; exact q6
theorem RC_list {n : Nat} {C D : St} {a : AS} {l : List Nat} {r : Nat} (h : RC n C a) (e : ∀ q b k c, ¬ (q = 17 ∧ b = r) → ¬ (q = 18 ∧ b = r) → D q b k c = C q b k c) (hr : RCq D r l) : RC n D (sl (r + 1) l a) := by
  obtain ⟨h1, h2, h3, h4, h5⟩ := h
  refine ⟨?_, ?_, ?_, ?_, ?_⟩
  · intro f i j ho
    have e1 := nvC_ok ho
    have e2 := okC_lt ho
    have e3 : atC D (adC f i j) = atC C (adC f i j) := by
      unfold atC
      refine e _ _ _ _ ?_ ?_
      · intro hh
        have : (nvC (adC f i j)).1 = 80 := by
          unfold nvC
          simp [hh.1]
        rw [e1] at this
        simp only at this
        omega
      · intro hh
        have : (nvC (adC f i j)).1 = 80 := by
          unfold nvC
          simp [hh.1]
        rw [e1] at this
        simp only at this
        omega
    rw [e3, av_sl]
    exact h1 f i j ho
  · intro f hf
    rw [av_sl, e 14 f 1 0 (by simp) (by simp), e 14 f 3 0 (by simp) (by simp)]
    exact h2 f hf
  · refine ⟨fun k hk => ?_, fun t ht => ?_⟩
    · rw [e 6 k 0 0 (by simp) (by simp)]; exact h3.1 k hk
    · rw [e 5 t 1 0 (by simp) (by simp), e 5 t 2 0 (by simp) (by simp)]; exact h3.2 t ht
  · rw [al_sl, if_neg (by omega)]
    refine ⟨?_, h4.2.1, h4.2.2.1, fun b p hb => ?_⟩
    · rw [e 2 0 1 0 (by simp) (by simp)]; exact h4.1
    · rw [e 3 0 0 b (by simp) (by simp)]; exact h4.2.2.2 b p hb
  · intro q hq
    rw [al_sl]
    by_cases hqr : q = r
    · subst hqr
      rw [if_pos rfl]
      exact hr
    · rw [if_neg (by omega)]
      obtain ⟨q1, q2, q3, q4, q5, q6⟩ := h5 q hq
      refine ⟨?_, q2, q3, fun b p hb => ?_, fun b hb hb2 => ?_, ?_⟩
      · rw [e 17 q 2 0 (by simp [hqr]) (by simp)]; exact q1
      · rw [e 18 q 0 b (by simp) (by simp [hqr])]; exact q4 b p hb
      · rw [e 18 q 0 b (by simp) (by simp [hqr])]; exact q5 b hb hb2
      · rw [e 17 q 3 0 (by simp [hqr]) (by simp)]; exact q6
theorem rowLen_lt (i : Nat) : rowLen i < 2 ^ 31 := by
  unfold rowLen
  split
  · decide
  · split <;> decide
theorem k_append {n i m : Nat} {C : St} {x : Int32} (hs : C 2 i 1 0 = nI m) (hm : m < rowLen i) : F_X8_append n i x C = some (0, up (up C 3 i 0 m x) 2 i 1 0 (nI (m + 1))) := by
  have h1 := rowLen_lt i
  unfold F_X8_append F_X8_append_39 st gd
  rw [hs, if_neg (nI_pos (by omega)), if_neg (nI_ge hm h1), if_pos (inb_nI hm h1), nI_clamp (by omega)]
  have e : up C 3 i 0 m x 2 i 1 0 = nI m := by
    rw [up_at, if_neg (by simp), hs]
  simp only [e, nI_1]
theorem k_at {n i m j : Nat} {C : St} (hs : C 2 i 1 0 = nI m) (hm : m ≤ rowLen i) (hj : j < 2 ^ 31) : F_X8_at n i (nI j) C = some (if j < m then C 3 i 0 j else -1, C) := by
  have h1 := rowLen_lt i
  unfold F_X8_at F_X8_at_30 F_X8_at_31 gd
  rw [hs, if_neg (nI_pos hj)]
  by_cases e : j < m
  · rw [if_neg (nI_ge e (by omega)), if_neg (nI_ge (by omega : j < rowLen i) h1), if_pos (inb_nI (by omega) h1), nI_clamp hj, if_pos e]
  · rw [if_pos (nI_le (by omega) hj), if_neg e]
theorem k_place2 {n p : Nat} {C : St} {l : List Nat} (h : RCr C l) (hp : p < 10) : ∀ fu i, l.length < fu + i → (∀ j, j < i → l[j]? ≠ some p) → i ≤ l.length → Rn (F_X8_placeOf_2 n 0 fu (nI p) (nI i) C) (fun r D => D = C ∧ ((p ∉ l ∧ r = -1) ∨ ∃ i, l[i]? = some p ∧ r = nI i)) := by
  intro fu
  induction fu with
  | zero => intro i h1 h2 h3; omega
  | succ fu ih =>
    intro i h1 h2 h3
    have hl := len10 h.2.1 h.2.2.1
    unfold F_X8_placeOf_2
    rw [h.1]
    by_cases e : i = l.length
    · subst e
      refine rn_pos (nI_le (Nat.le_refl _) (by omega)) (rn_ret ⟨rfl, Or.inl ⟨fun hm => ?_, rfl⟩⟩)
      obtain ⟨j, hj, e⟩ := List.getElem_of_mem hm
      exact h2 j hj (by rw [List.getElem?_eq_getElem hj, e])
    · have hi : i < l.length := by omega
      have h10 : i < rowLen 0 := by show i < 10; omega
      refine rn_neg (nI_ge hi (by omega)) (rn_neg (nI_ge h10 (by decide)) (rn_gd (inb_nI h10 (by decide)) ?_))
      have hg : l[i]? = some l[i] := List.getElem?_eq_getElem hi
      rw [nI_clamp (by omega), h.2.2.2 i _ hg]
      have hb := h.2.2.1 l[i] (List.getElem_mem hi)
      refine rn_if (fun e2 => rn_ret ⟨rfl, Or.inr ⟨i, ?_, rfl⟩⟩) (fun e2 => ?_)
      · rw [hg, (nI_eq (by omega) (by omega)).mp e2]
      · rw [nI_1]
        refine ih (i + 1) (by omega) (fun j hj => ?_) (by omega)
        by_cases ej : j = i
        · subst ej
          rw [hg]
          intro e3
          injection e3 with e3
          exact e2 (by rw [e3])
        · exact h2 j (by omega)
theorem k_placeOf {n p : Nat} {C : St} {l : List Nat} (h : RCr C l) (hp : p < 10) : Rn (F_X8_placeOf n 0 (nI p) C) (fun r D => D = C ∧ ((p ∉ l ∧ r = -1) ∨ ∃ i, l[i]? = some p ∧ r = nI i)) := by
  have hl := len10 h.2.1 h.2.2.1
  exact k_place2 h hp 1000 0 (by omega) (fun j hj => absurd hj (Nat.not_lt_zero j)) (Nat.zero_le _)
/-- the shift of a row's values from a place on -/
theorem k_rem17 {n i m i0 : Nat} {C : St} (hm : m ≤ rowLen i) (hm2 : m < 500) (h0 : i0 < m) : ∀ fu j D, m < fu + j → i0 < j → j ≤ m → D 2 i 1 0 = nI m → (∀ t, D 3 i 0 t = if i0 ≤ t ∧ t + 1 < j then C 3 i 0 (t + 1) else C 3 i 0 t) → (∀ q b k c, ¬ (q = 3 ∧ b = i ∧ k = 0) → D q b k c = C q b k c) →
    Rn (F_X8_removeAt_17 n i fu (nI j) D) (fun r E => r = 0 ∧ E 2 i 1 0 = nI (m - 1) ∧ (∀ t, E 3 i 0 t = if i0 ≤ t ∧ t + 1 < m then C 3 i 0 (t + 1) else C 3 i 0 t) ∧ ∀ q b k c, ¬ (q = 3 ∧ b = i ∧ k = 0) → ¬ (q = 2 ∧ b = i ∧ k = 1 ∧ c = 0) → E q b k c = C q b k c) := by
  have hr := rowLen_lt i
  intro fu
  induction fu with
  | zero => intro j D h1 h2 h3; omega
  | succ fu ih =>
    intro j D h1 h2 h3 hs hv he
    unfold F_X8_removeAt_17
    rw [hs]
    by_cases e : j = m
    · subst e
      refine rn_pos (nI_le (Nat.le_refl _) (by omega)) (rn_st (rn_ret ⟨rfl, ?_, fun t => ?_, fun q b k c h4 h5 => ?_⟩))
      · rw [up_at, if_pos ⟨rfl, rfl, rfl, rfl⟩, hs]
        obtain ⟨m', rfl⟩ : ∃ m', j = m' + 1 := ⟨j - 1, by omega⟩
        rw [nI_pred]
        rfl
      · rw [up_at, if_neg (by simp), hv t]
      · rw [up_at, if_neg h5, he q b k c h4]
    · obtain ⟨j', rfl⟩ : ∃ j', j = j' + 1 := ⟨j - 1, by omega⟩
      refine rn_neg (nI_ge (by omega) (by omega)) (rn_neg (nI_ge (by omega : j' + 1 < rowLen i) hr) (rn_gd (inb_nI (by omega) hr) ?_))
      rw [nI_pred, nI_clamp (by omega), nI_clamp (by omega), nI_1]
      refine rn_gd (inb_nI (by omega) hr) (rn_st (ih (j' + 1 + 1) _ (by omega) (by omega) (by omega) ?_ ?_ ?_))
      · rw [up_at, if_neg (by simp), hs]
      · intro t
        rw [up_at]
        by_cases et : t = j'
        · subst et
          rw [if_pos ⟨rfl, rfl, rfl, rfl⟩, if_pos ⟨by omega, by omega⟩, hv]
          rw [if_neg (by omega)]
        · rw [if_neg (by simp [et]), hv]
          by_cases e1 : i0 ≤ t ∧ t + 1 < j' + 1
          · rw [if_pos e1, if_pos ⟨e1.1, by omega⟩]
          · rw [if_neg e1, if_neg (by omega)]
      · intro q b k c h4
        rw [up_at, if_neg (fun h => h4 ⟨h.1, h.2.1, h.2.2.1⟩)]
        exact he q b k c h4
theorem k_removeAt {n i m i0 : Nat} {C : St} (hm : m ≤ rowLen i) (hm2 : m < 500) (h0 : i0 < m) (hs : C 2 i 1 0 = nI m) :
    Rn (F_X8_removeAt n i (nI i0) C) (fun r E => r = 0 ∧ E 2 i 1 0 = nI (m - 1) ∧ (∀ t, E 3 i 0 t = if i0 ≤ t ∧ t + 1 < m then C 3 i 0 (t + 1) else C 3 i 0 t) ∧ ∀ q b k c, ¬ (q = 3 ∧ b = i ∧ k = 0) → ¬ (q = 2 ∧ b = i ∧ k = 1 ∧ c = 0) → E q b k c = C q b k c) := by
  unfold F_X8_removeAt
  refine rn_neg (nI_pos (by omega)) ?_
  rw [hs]
  refine rn_pos (nI_lt h0 (by omega)) ?_
  rw [nI_1]
  refine k_rem17 hm hm2 h0 1000 (i0 + 1) C (by omega) (by omega) (by omega) hs (fun t => ?_) (fun _ _ _ _ _ => rfl)
  rw [if_neg (by omega)]
def z_leave (p : Nat) (a : AS) : AS := sv 7 0 0 0 (sl 0 ((al a 0).erase p) a)
def z_susp (p : Nat) (c : Int32) (a : AS) : AS := z_leave p (sv 10 p 0 c a)
def z_wake (p : Nat) (a : AS) : AS := if p ∈ al a 0 then sv 10 p 0 0 a else sl 0 (al a 0 ++ [p]) (sv 10 p 0 0 a)
def z_v (s : Nat) (a : AS) : AS := if av a 71 s 0 = 0 then sv 13 s 0 (av a 13 s 0 + 1) a else z_wake (pr s) (sv 71 s 0 0 a)
def z_p (s : Nat) (a : AS) : AS := if av a 13 s 0 ≤ 0 then z_susp (pr s) (cz s) (sv 71 s 0 1 a) else sv 13 s 0 (av a 13 s 0 - 1) a
theorem erase_idx {l : List Nat} {p i : Nat} (hn : l.Nodup) (h : l[i]? = some p) : l.erase p = l.eraseIdx i := by
  obtain ⟨hi, e⟩ := List.getElem?_eq_some_iff.mp h
  refine List.erase_eq_eraseIdx_of_idxOf ?_
  rw [← e]
  exact hn.idxOf_getElem i hi
theorem k_leave {n p : Nat} {C : St} {a : AS} (h : RC n C a) (hp : p < 10) : Rn (F_X7_leave n (nI p) C) (fun r D => r = 0 ∧ RC n D (z_leave p a)) := by
  unfold F_X7_leave
  have hr := h.2.2.2.1
  have hl := len10 hr.2.1 hr.2.2.1
  refine rn_bd (k_placeOf hr hp) ?_
  rintro r D ⟨rfl, hcase⟩
  rcases hcase with ⟨hm, rfl⟩ | ⟨i, hi, rfl⟩
  · refine rn_bd (P := fun r E => r = 0 ∧ E = D) ?_ ?_
    · unfold F_X8_removeAt
      exact rn_pos (by decide) (rn_ret ⟨rfl, rfl⟩)
    · rintro _ E ⟨-, rfl⟩
      refine rn_st (rn_ret ⟨rfl, ?_⟩)
      unfold z_leave
      rw [List.erase_of_not_mem hm]
      have e : sl 0 (al a 0) a = a := as_ext (fun _ _ _ => rfl) (fun q => by rw [al_sl]; split <;> simp_all)
      rw [e]
      exact wc_7 h
  · obtain ⟨hi1, hi2⟩ := List.getElem?_eq_some_iff.mp hi
    refine rn_bd (k_removeAt (m := (al a 0).length) hl (by omega) hi1 hr.1) ?_
    rintro _ E ⟨-, e1, e2, e3⟩
    refine rn_st (rn_ret ⟨rfl, ?_⟩)
    unfold z_leave
    rw [erase_idx hr.2.1 hi]
    refine wc_7 (RC_ready h (fun q b k c h4 h5 => e3 q b k c (fun hh => h4 ⟨hh.1, hh.2.1⟩) (fun hh => h5 ⟨hh.1, hh.2.1⟩)) ⟨?_, hr.2.1.eraseIdx i, fun q hq => hr.2.2.1 q (List.mem_of_mem_eraseIdx hq), fun t q ht => ?_⟩)
    · rw [e1, List.length_eraseIdx_of_lt hi1]
    · rw [e2 t]
      rw [List.getElem?_eraseIdx] at ht
      by_cases et : t < i
      · rw [if_pos et] at ht
        rw [if_neg (by omega)]
        exact hr.2.2.2 t q ht
      · rw [if_neg et] at ht
        obtain ⟨h6, -⟩ := List.getElem?_eq_some_iff.mp ht
        rw [if_pos ⟨by omega, by omega⟩]
        exact hr.2.2.2 (t + 1) q ht
theorem k_susp {n p : Nat} {c : Int32} {C : St} {a : AS} (h : RC n C a) (hp : p < 10) : Rn (F_X7_suspend n (nI p) c C) (fun r D => r = 0 ∧ RC n D (z_susp p c a)) := by
  unfold F_X7_suspend
  refine rn_neg (nI_pos (by omega)) (rn_neg (nI_ge (b := 10) hp (by decide)) (rn_gd (inb_nI hp (by decide)) (rn_st ?_)))
  rw [nI_clamp (by omega)]
  refine rn_bd (k_leave (wc_10 h hp) hp) ?_
  rintro r D ⟨-, hD⟩
  exact rn_ret ⟨rfl, hD⟩
theorem k_wake {n p : Nat} {C : St} {a : AS} (h : RC n C a) (hp : p < 10) : Rn (F_X7_wake n (nI p) C) (fun r D => r = 0 ∧ RC n D (z_wake p a)) := by
  unfold F_X7_wake
  refine rn_neg (nI_pos (by omega)) (rn_neg (nI_ge (b := 10) hp (by decide)) (rn_gd (inb_nI hp (by decide)) (rn_st ?_)))
  rw [nI_clamp (by omega)]
  have h2 : RC n (up C 4 0 0 p 0) (sv 10 p 0 0 a) := wc_10 h hp
  have hr : RCr (up C 4 0 0 p 0) (al a 0) := h2.2.2.2.1
  refine rn_bd (k_placeOf hr hp) ?_
  rintro r D ⟨rfl, hcase⟩
  unfold z_wake
  rcases hcase with ⟨hm, rfl⟩ | ⟨i, hi, rfl⟩
  · rw [if_neg hm]
    refine rn_pos rfl ?_
    have hl := len10' hr.2.1 hr.2.2.1 hp hm
    refine rn_bdE (k_append hr.1 (show (al a 0).length < rowLen 0 from hl)) (rn_ret ⟨rfl, RC_ready h2 (fun q b k c h4 h5 => ?_) ⟨?_, ?_, fun q hq => ?_, fun t q ht => ?_⟩⟩)
    · rw [up_at, if_neg (fun hh => h5 ⟨hh.1, hh.2.1⟩), up_at, if_neg (fun hh => h4 ⟨hh.1, hh.2.1⟩)]
    · rw [up_at, if_pos ⟨rfl, rfl, rfl, rfl⟩, List.length_append]
      rfl
    · rw [List.nodup_append]
      refine ⟨hr.2.1, by simp, ?_⟩
      intro x hx y hy
      rw [List.mem_singleton] at hy
      subst hy
      intro e
      subst e
      exact hm hx
    · rcases List.mem_append.mp hq with hq | hq
      · exact hr.2.2.1 q hq
      · rw [List.mem_singleton] at hq
        omega
    · rw [up_at, if_neg (by simp), up_at]
      by_cases et : t = (al a 0).length
      · subst et
        rw [List.getElem?_append_right (Nat.le_refl _)] at ht
        simp at ht
        rw [if_pos ⟨rfl, rfl, rfl, rfl⟩, ht]
      · rw [if_neg (by simp [et])]
        obtain ⟨h6, -⟩ := List.getElem?_eq_some_iff.mp ht
        rw [List.length_append, List.length_singleton] at h6
        rw [List.getElem?_append_left (by omega)] at ht
        exact hr.2.2.2 t q ht
  · rw [if_pos (List.mem_of_getElem? hi)]
    refine rn_neg ?_ (rn_ret ⟨rfl, h2⟩)
    obtain ⟨h6, -⟩ := List.getElem?_eq_some_iff.mp hi
    have hl := len10 hr.2.1 hr.2.2.1
    intro e
    have : nI i < 0 := by rw [e]; decide
    exact nI_pos (by omega) this
theorem pr_lt (s : Nat) : pr s < 10 := by
  unfold pr
  split
  · decide
  · split
    · decide
    · split <;> decide
theorem k_v {n s : Nat} {C : St} {a : AS} (h : RC n C a) (hs : s < 7) : Rn (F_X9_v n s C) (fun r D => r = 0 ∧ RC n D (z_v s a)) := by
  unfold F_X9_v z_v
  rw [rc_71 h hs]
  by_cases e : av a 71 s 0 = 0
  · rw [if_pos e, if_pos e, rc_13 h hs]
    exact rn_st (rn_ret ⟨rfl, wc_13 h hs⟩)
  · rw [if_neg e, if_neg e]
    refine rn_st ?_
    have h2 : RC n (up C 5 s 3 0 0) (sv 71 s 0 0 a) := wc_71 h hs
    rw [(h2.2.2.1.2 s hs).1]
    refine rn_bd (k_wake h2 (pr_lt s)) ?_
    rintro r D ⟨-, hD⟩
    exact rn_ret ⟨rfl, hD⟩
theorem k_p {n s : Nat} {C : St} {a : AS} (h : RC n C a) (hs : s < 7) : Rn (F_X9_p n s C) (fun r D => r = 0 ∧ RC n D (z_p s a)) := by
  unfold F_X9_p z_p
  rw [rc_13 h hs]
  by_cases e : av a 13 s 0 ≤ 0
  · rw [if_pos e, if_pos e]
    refine rn_st ?_
    have h2 : RC n (up C 5 s 3 0 1) (sv 71 s 0 1 a) := wc_71 h hs
    rw [(h2.2.2.1.2 s hs).1, (h2.2.2.1.2 s hs).2]
    refine rn_bd (k_susp h2 (pr_lt s)) ?_
    rintro r D ⟨-, hD⟩
    exact rn_ret ⟨rfl, hD⟩
  · rw [if_neg e, if_neg e]
    exact rn_st (rn_ret ⟨rfl, wc_13 h hs⟩)
