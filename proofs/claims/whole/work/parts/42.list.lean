/-! The class: its three lists of jobs -/
theorem setA_at (C : St) (q i : Nat) (f : Nat → Int32) (a b c d : Nat) : setA C q i f a b c d = if a = q ∧ b = i ∧ c = 0 then f d else C a b c d := by
  unfold setA setO
  by_cases h : a = q ∧ b = i
  · obtain ⟨rfl, rfl⟩ := h
    by_cases h2 : c = 0
    · simp [h2]
    · simp [h2]
  · rw [if_neg h, if_neg (fun h2 => h ⟨h2.1, h2.2.1⟩)]
theorem q_size {n q : Nat} {C : St} {a : AS} (h : RC n C a) (hq : q < 3) : C 17 q 2 0 = nI (al a (q + 1)).length := (h.2.2.2.2 q hq).1
theorem k_size {n q : Nat} {C : St} {a : AS} (h : RC n C a) (hq : q < 3) : F_Jx4a65c_size_8abf5 q C = some (nI (al a (q + 1)).length, C) := by
  unfold F_Jx4a65c_size_8abf5
  rw [q_size h hq]
theorem k_isEmpty {n q : Nat} {C : St} {a : AS} (h : RC n C a) (hq : q < 3) : F_Jx4a65c_isEmpty_aae02 q C = some (if al a (q + 1) = [] then 1 else 0, C) := by
  unfold F_Jx4a65c_isEmpty_aae02 F_Jx4a65c_isEmpty_aae02_12
  rw [q_size h hq]
  have hl := (h.2.2.2.2 q hq).2.1
  cases e : al a (q + 1) with
  | nil => rfl
  | cons x t =>
    rw [e] at hl
    rw [if_neg (nI_ne0 (by simp) (by omega)), if_neg (by simp)]
    rfl
theorem k_add {n q k : Nat} {C : St} {a : AS} (h : RC n C a) (hq : q < 3) (hk : k < 6) (hl : (al a (q + 1)).length < 10) : Rn (F_Jx4a65c_add_9ea2d q (nI k) C) (fun r D => r = 1 ∧ RC n D (sl (q + 1) (al a (q + 1) ++ [k]) a)) := by
  obtain ⟨q1, q2, q3, q4, q5, q6⟩ := h.2.2.2.2 q hq
  unfold F_Jx4a65c_add_9ea2d
  have hok : al_ok q C = true := by
    unfold al_ok
    rcases q6 with q6 | ⟨q6, q7⟩
    · simp [q6]
    · rw [q7] at q1 q5
      have : ∀ j, j < 10 → C 18 q 0 j = -1 := fun j hj => q5 j (Nat.zero_le _) hj
      simp [q6, q1, nI_0]
      exact this
  rw [q1, nI_clamp (by omega), nI_1]
  refine rn_gd (inb_nI hk (by decide)) (rn_gd hok (rn_gd (inb_nI hl (by decide)) (rn_ret ⟨rfl, RC_list h (fun x b k c h4 h5 => ?_) ⟨?_, ?_, ?_, ?_, ?_, ?_⟩⟩)))
  · rw [up_at, if_neg (fun hh => h4 ⟨hh.1, hh.2.1⟩), up_at, if_neg (fun hh => h5 ⟨hh.1, hh.2.1⟩), up_at, if_neg (fun hh => h4 ⟨hh.1, hh.2.1⟩), up_at, if_neg (fun hh => h4 ⟨hh.1, hh.2.1⟩)]
  · rw [up_at, if_pos ⟨rfl, rfl, rfl, rfl⟩, List.length_append]
    rfl
  · rw [List.length_append, List.length_singleton]; omega
  · intro p hp
    rcases List.mem_append.mp hp with hp | hp
    · exact q3 p hp
    · rw [List.mem_singleton] at hp; omega
  · intro i p hi
    rw [up_at, if_neg (by simp), up_at]
    by_cases et : i = (al a (q + 1)).length
    · subst et
      rw [List.getElem?_append_right (Nat.le_refl _)] at hi
      simp at hi
      rw [if_pos ⟨rfl, rfl, rfl, rfl⟩, hi]
    · rw [if_neg (by simp [et]), up_at, if_neg (by simp), up_at, if_neg (by simp)]
      obtain ⟨h6, -⟩ := List.getElem?_eq_some_iff.mp hi
      rw [List.length_append, List.length_singleton] at h6
      rw [List.getElem?_append_left (by omega)] at hi
      exact q4 i p hi
  · intro i hi hi2
    rw [List.length_append, List.length_singleton] at hi
    rw [up_at, if_neg (by simp), up_at, if_neg (by simp; omega), up_at, if_neg (by simp), up_at, if_neg (by simp)]
    exact q5 i (by omega) hi2
  · left
    rw [up_at, if_neg (by simp), up_at, if_neg (by simp), up_at, if_pos ⟨rfl, rfl, rfl, rfl⟩]
theorem k_chk {i m : Nat} {C : St} (hi : i < m) (hm : m < 2 ^ 31) : F_J15_checkIndex_7cf53 (nI i) (nI m) C = some (nI i, C) := by
  unfold F_J15_checkIndex_7cf53 F_J3_checkIndex_8e157
  rw [if_neg (nI_pos (by omega)), if_pos (nI_lt hi hm)]
  rfl
theorem q_cap {n q i p : Nat} {C : St} {a : AS} (h : RC n C a) (hq : q < 3) (hi : (al a (q + 1))[i]? = some p) : C 17 q 3 0 = 1 := by
  rcases (h.2.2.2.2 q hq).2.2.2.2.2 with h6 | ⟨-, h7⟩
  · exact h6
  · rw [h7] at hi
    cases hi
theorem k_get {n q i p : Nat} {C : St} {a : AS} (h : RC n C a) (hq : q < 3) (hi : (al a (q + 1))[i]? = some p) : F_Jx4a65c_get_915e3 q (nI i) C = some (nI p, C) := by
  have hc := q_cap h hq hi
  obtain ⟨q1, q2, q3, q4, q5, q6⟩ := h.2.2.2.2 q hq
  obtain ⟨h6, -⟩ := List.getElem?_eq_some_iff.mp hi
  unfold F_Jx4a65c_get_915e3 F_Jx4a65c_elementData_915e3
  rw [q1, k_chk h6 (by omega)]
  unfold bd2 gd
  simp only [Option.bind_some]
  have hd : decide (¬ C 17 q 3 0 = 0) = true := decide_eq_true (by rw [hc]; decide)
  rw [hd, inb_nI (by omega : i < 10) (by decide), nI_clamp (by omega), q4 i p hi]
  rfl
theorem k_rm34 {q m : Nat} {D : St} (hc : D 17 q 3 0 = 1) (hm : m < 10) : F_Jx4a65c_fastRemove_b59b0_34 q (nI m) D = some (0, up (up D 17 q 2 0 (nI m)) 18 q 0 m (-1)) := by
  unfold F_Jx4a65c_fastRemove_b59b0_34 st gd
  have e : up D 17 q 2 0 (nI m) 17 q 3 0 = 1 := by
    rw [up_at, if_neg (by simp), hc]
  simp only [e, inb_nI hm (by decide), nI_clamp (by omega : m < 2 ^ 31)]
  rfl
theorem k_remove {n q i p : Nat} {C : St} {a : AS} (h : RC n C a) (hq : q < 3) (hi : (al a (q + 1))[i]? = some p) : Rn (F_Jx4a65c_remove_915e3 q (nI i) C) (fun r D => r = nI p ∧ RC n D (sl (q + 1) ((al a (q + 1)).eraseIdx i) a)) := by
  have hc := q_cap h hq hi
  obtain ⟨q1, q2, q3, q4, q5, q6⟩ := h.2.2.2.2 q hq
  obtain ⟨h6, -⟩ := List.getElem?_eq_some_iff.mp hi
  unfold F_Jx4a65c_remove_915e3
  rw [q1]
  refine rn_bdE (k_chk h6 (by omega)) ?_
  refine rn_gd (by rw [hc]; decide) (rn_gd (inb_nI (by omega) (by decide)) ?_)
  rw [nI_clamp (by omega), q4 i p hi]
  generalize hl : al a (q + 1) = l at *
  refine rn_bd (P := fun _ D => D 17 q 2 0 = nI (l.length - 1) ∧ D 17 q 3 0 = 1 ∧ (∀ t, t < 10 → D 18 q 0 t = if t = l.length - 1 then -1 else if i ≤ t ∧ t < l.length - 1 then C 18 q 0 (t + 1) else C 18 q 0 t) ∧ ∀ x b k c, ¬ (x = 17 ∧ b = q) → ¬ (x = 18 ∧ b = q) → D x b k c = C x b k c) ?_ ?_
  · unfold F_Jx4a65c_fastRemove_b59b0
    refine rn_st ?_
    have e1 : ∀ v, up C 17 q 0 0 v 17 q 2 0 = nI l.length := fun v => by rw [up_at, if_neg (by simp), q1]
    have e2 : ∀ v, up C 17 q 0 0 v 17 q 3 0 = 1 := fun v => by rw [up_at, if_neg (by simp), hc]
    obtain ⟨m, hm⟩ : ∃ m, l.length = m + 1 := ⟨l.length - 1, by omega⟩
    rw [e1, hm, nI_pred]
    simp only [Nat.add_sub_cancel]
    by_cases ei : m = i
    · subst ei
      refine rn_pos (nI_le (Nat.le_refl _) (by omega)) ?_
      rw [k_rm34 (e2 _) (by omega)]
      refine rn_ret ⟨?_, ?_, fun t ht => ?_, fun x b k c h4 h5 => ?_⟩
      · rw [up_at, if_neg (by simp), up_at, if_pos ⟨rfl, rfl, rfl, rfl⟩]
      · rw [up_at, if_neg (by simp), up_at, if_neg (by simp), up_at, if_neg (by simp), hc]
      · rw [up_at]
        by_cases et : t = m
        · rw [if_pos ⟨rfl, rfl, rfl, et⟩, if_pos et]
        · rw [if_neg (by simp [et]), if_neg et, if_neg (by omega), up_at, if_neg (by simp), up_at, if_neg (by simp)]
      · rw [up_at, if_neg (fun hh => h5 ⟨hh.1, hh.2.1⟩), up_at, if_neg (fun hh => h4 ⟨hh.1, hh.2.1⟩), up_at, if_neg (fun hh => h4 ⟨hh.1, hh.2.1⟩)]
    · have hlt : i < m := by omega
      refine rn_neg (nI_ge hlt (by omega)) (rn_gd (by rw [e2]; decide) ?_)
      rw [nI_1, pk_sub (Nat.le_of_lt hlt), nI_clamp (by omega), nI_clamp (by omega), nI_clamp (by omega)]
      refine rn_gd ?_ (rn_st ?_)
      · have : okAll (up C 17 q 0 0 (C 17 q 0 0 + 1)) q = true := by
          unfold okAll
          rw [List.all_eq_true]
          intro j hj
          rw [List.mem_range] at hj
          rw [up_at, if_neg (by simp)]
          by_cases ej : j < l.length
          · have hg : l[j]? = some l[j] := List.getElem?_eq_getElem ej
            rw [q4 j _ hg]
            exact okr_nI (q3 _ (List.getElem_mem ej)) (by decide)
          · rw [q5 j (by omega) hj]
            rfl
        simp [this, nI_pos (by omega : i + 1 < 2 ^ 31), nI_pos (by omega : i < 2 ^ 31), nI_pos (by omega : m - i < 2 ^ 31)]
        omega
      · rw [k_rm34 (by rw [setA_at, if_neg (by simp)]; exact e2 _) (by omega)]
        refine rn_ret ⟨?_, ?_, fun t ht => ?_, fun x b k c h4 h5 => ?_⟩
        · rw [up_at, if_neg (by simp), up_at, if_pos ⟨rfl, rfl, rfl, rfl⟩]
        · rw [up_at, if_neg (by simp), up_at, if_neg (by simp), setA_at, if_neg (by simp), up_at, if_neg (by simp), hc]
        · rw [up_at]
          by_cases et : t = m
          · rw [if_pos ⟨rfl, rfl, rfl, et⟩, if_pos et]
          · rw [if_neg (by simp [et]), if_neg et, up_at, if_neg (by simp), setA_at, if_pos ⟨rfl, rfl, rfl⟩]
            unfold va_cpy
            by_cases e5 : i ≤ t ∧ t < m
            · rw [if_pos ⟨e5.1, by omega⟩, if_pos e5, up_at, if_neg (by simp)]
              congr 1
              omega
            · rw [if_neg (by omega), if_neg e5, up_at, if_neg (by simp)]
        · rw [up_at, if_neg (fun hh => h5 ⟨hh.1, hh.2.1⟩), up_at, if_neg (fun hh => h4 ⟨hh.1, hh.2.1⟩), setA_at, if_neg (fun hh => h5 ⟨hh.1, hh.2.1⟩), up_at, if_neg (fun hh => h4 ⟨hh.1, hh.2.1⟩)]
  · rintro _ D ⟨d1, d2, d3, d4⟩
    refine rn_ret ⟨rfl, RC_list h d4 ⟨?_, ?_, fun x hx => q3 x (List.mem_of_mem_eraseIdx hx), fun t x ht => ?_, fun t ht ht2 => ?_, Or.inl d2⟩⟩
    · rw [d1, List.length_eraseIdx_of_lt h6]
    · rw [List.length_eraseIdx_of_lt h6]; omega
    · have hlt : t < (l.eraseIdx i).length := (List.getElem?_eq_some_iff.mp ht).1
      rw [List.length_eraseIdx_of_lt h6] at hlt
      rw [d3 t (by omega), if_neg (by omega)]
      rw [List.getElem?_eraseIdx] at ht
      by_cases et : t < i
      · rw [if_pos et] at ht
        rw [if_neg (by omega)]
        exact q4 t x ht
      · rw [if_neg et] at ht
        rw [if_pos ⟨by omega, hlt⟩]
        exact q4 (t + 1) x ht
    · rw [List.length_eraseIdx_of_lt h6] at ht
      rw [d3 t ht2]
      by_cases et : t = l.length - 1
      · rw [if_pos et]
      · rw [if_neg et, if_neg (by omega)]
        exact q5 t (by omega) ht2
