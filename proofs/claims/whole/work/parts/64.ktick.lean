/-! The class: ticks -/
noncomputable def z_step (n p : Nat) (a : AS) : AS := if p < 6 then z_job n p a else if p = 6 then z_segs n a else if p = 7 then z_reading n a else if p = 8 then z_printing a else z_cons n a
/-- what the step of process p wants -/
def SF (n p : Nat) (a : AS) : Prop :=
  (p < 6 → JS p a) ∧
  (p = 6 → (av a 12 0 0 = 2 → ∃ f k, f < n ∧ k < 6 ∧ av a 46 0 0 = nI f ∧ av a 47 0 0 = nI k) ∧ (¬ av a 12 0 0 = 1 → ¬ av a 12 0 0 = 2 → ∃ f k t, f < n ∧ z_choose n a = some f ∧ al a 1 = k :: t)) ∧
  (p = 7 → (av a 54 0 0 < 0 → al a 3 ≠ []) ∧ (¬ av a 54 0 0 < 0 → ∃ k c, k < 6 ∧ c < 40 ∧ av a 54 0 0 = nI k ∧ av a 32 k 0 = nI c ∧ ¬ av a 31 k 0 ≤ av a 32 k 0)) ∧
  (p = 8 → (av a 55 0 0 < 0 → ∃ k, z_hold a = some k) ∧ (¬ av a 55 0 0 < 0 → ∃ k m pc, k < 6 ∧ av a 55 0 0 = nI k ∧ av a 34 k 0 = nI m ∧ 0 < m ∧ m ≤ 24 ∧ av a 72 0 0 = nI pc ∧ pc < 512)) ∧
  (p = 9 → ∃ L m t, TX L a ∧ (al a 2).Nodup ∧ BY a ∧ av a 68 0 0 = nI t ∧ 0 < t ∧ t ≤ 8 ∧ av a 69 0 0 = nI m ∧ m < 2 ^ 29)
theorem k_head {n : Nat} {C : St} {a : AS} (h : RC n C a) : F_X8_at n 0 0 C = some (oI (al a 0).head?, C) := by
  have hr := h.2.2.2.1
  have hl := len10 hr.2.1 hr.2.2.1
  have e := k_at (n := n) (i := 0) (m := (al a 0).length) (j := 0) (C := C) hr.1 hl (by decide)
  have e0 : nI 0 = (0 : Int32) := rfl
  rw [e0] at e
  rw [e]
  cases hh : al a 0 with
  | nil => rfl
  | cons p t =>
    rw [if_pos (by simp), hr.2.2.2 0 p (by rw [hh]; rfl)]
    rfl
def z_endt (p : Nat) (a : AS) : AS := if (al a 0).head? = some p then (if av a 7 0 0 + 1 < av a 2 0 0 then sv 7 0 0 (av a 7 0 0 + 1) a else sl 0 ((al a 0).erase p ++ [p]) (sv 7 0 0 0 a)) else a
theorem k_endt {n p : Nat} {C : St} {a : AS} (h : RC n C a) (hp : p < 10) : Rn (F_X7_end n (nI p) C) (fun r D => r = 0 ∧ RC n D (z_endt p a)) := by
  unfold F_X7_end F_X7_end_17 F_X7_end_52 z_endt
  refine rn_neg (nI_nm (by omega) (by decide)) (rn_bdE (k_head h) ?_)
  by_cases c : (al a 0).head? = some p
  · rw [if_pos c, c]
    refine rn_pos rfl (rn_st ?_)
    rw [rc_7 h]
    have h2 := wc_7 (x := av a 7 0 0 + 1) h
    rw [rc_7 h2, av_s, rc_2 h2, av_o (by decide)]
    refine rn_if (fun e => ?_) (fun e => ?_)
    · rw [if_pos e]
      exact rn_ret ⟨rfl, h2⟩
    · rw [if_neg e]
      refine rn_bd (k_leave h2 hp) ?_
      rintro _ D ⟨-, hD⟩
      have el : al (z_leave p (sv 7 0 0 (av a 7 0 0 + 1) a)) 0 = (al a 0).erase p := by rw [al_leave, if_pos rfl]; rfl
      have hr := hD.2.2.2.1
      rw [el] at hr
      have hr0 := h.2.2.2.1
      have hm : p ∉ (al a 0).erase p := fun hm => (hr0.2.1.mem_erase_iff.mp hm).1 rfl
      have hl := len10' hr.2.1 hr.2.2.1 hp hm
      refine rn_bdE (k_append hr.1 (show ((al a 0).erase p).length < rowLen 0 from hl)) (rn_ret ⟨rfl, ?_⟩)
      have ez : sl 0 ((al a 0).erase p ++ [p]) (sv 7 0 0 0 a) = sl 0 ((al a 0).erase p ++ [p]) (z_leave p (sv 7 0 0 (av a 7 0 0 + 1) a)) := by
        refine as_ext (fun g b c => ?_) (fun q => ?_)
        · rw [av_sl, av_sl, av_leave, av_sv, av_sv]
          by_cases c7 : g = 7 ∧ b = 0 ∧ c = 0
          · rw [if_pos c7, if_pos c7]
          · rw [if_neg c7, if_neg c7, if_neg c7]
        · rw [al_sl, al_sl]
          by_cases c0 : q = 0
          · rw [if_pos c0, if_pos c0]
          · rw [if_neg c0, if_neg c0, lo_leave c0]
            rfl
      rw [ez]
      refine RC_ready hD (fun q b k c h4 h5 => ?_) ⟨?_, ?_, fun q hq => ?_, fun t q ht => ?_⟩
      · rw [up_at, if_neg (fun hh => h5 ⟨hh.1, hh.2.1⟩), up_at, if_neg (fun hh => h4 ⟨hh.1, hh.2.1⟩)]
      · rw [up_at, if_pos ⟨rfl, rfl, rfl, rfl⟩, List.length_append]
        rfl
      · rw [List.nodup_append]
        refine ⟨hr.2.1, by simp, ?_⟩
        intro x hx y hy
        rw [List.mem_singleton] at hy
        subst hy
        intro e
        subst e
        exact hm hx
      · rcases List.mem_append.mp hq with hq | hq
        · exact hr.2.2.1 q hq
        · rw [List.mem_singleton] at hq
          omega
      · rw [up_at, if_neg (by simp), up_at]
        by_cases et : t = ((al a 0).erase p).length
        · subst et
          rw [List.getElem?_append_right (Nat.le_refl _)] at ht
          simp at ht
          rw [if_pos ⟨rfl, rfl, rfl, rfl⟩, ht]
        · rw [if_neg (by simp [et])]
          obtain ⟨h6, -⟩ := List.getElem?_eq_some_iff.mp ht
          rw [List.length_append, List.length_singleton] at h6
          rw [List.getElem?_append_left (by omega)] at ht
          exact hr.2.2.2 t q ht
  · rw [if_neg c]
    refine rn_neg ?_ (rn_ret ⟨rfl, h⟩)
    intro e
    cases hh : (al a 0).head? with
    | none =>
      rw [hh] at e
      exact nI_nm (k := p) (by omega) (show (-1 : Int32) < 0 by decide) e.symm
    | some q =>
      rw [hh] at e
      have hq : q ∈ al a 0 := List.mem_of_mem_head? hh
      have hq10 := h.2.2.2.1.2.2.1 q hq
      have : q = p := (nI_eq (by omega) (by omega)).mp e
      exact c (by rw [hh, this])
theorem zs6 (n : Nat) (a : AS) : z_step n 6 a = z_segs n a := by
  unfold z_step
  rw [if_neg (by decide), if_pos rfl]
theorem zs7 (n : Nat) (a : AS) : z_step n 7 a = z_reading n a := by
  unfold z_step
  rw [if_neg (by decide), if_neg (by decide), if_pos rfl]
theorem zs8 (n : Nat) (a : AS) : z_step n 8 a = z_printing a := by
  unfold z_step
  rw [if_neg (by decide), if_neg (by decide), if_neg (by decide), if_pos rfl]
theorem zs9 (n : Nat) (a : AS) : z_step n 9 a = z_cons n a := by
  unfold z_step
  rw [if_neg (by decide), if_neg (by decide), if_neg (by decide), if_neg (by decide)]
theorem zsj {n p : Nat} (a : AS) (h : p < 6) : z_step n p a = z_job n p a := by
  unfold z_step
  rw [if_pos h]
theorem k_step {n p : Nat} {C : St} {a : AS} (h : RC n C a) (hn : n ≤ 12) (hp : p < 10) (hS : SF n p a) : Rn (bd2 (F_X11_jobAt n (nI p) C) (fun r5 D6 => if r5 < 0 then F_X11_systemStep n (nI p) D6 else F_X6_step n r5 D6)) (fun _ D => RC n D (z_step n p a)) := by
  obtain ⟨s1, s2, s3, s4, s5⟩ := hS
  refine rn_bdE k_jobAt ?_
  by_cases c : p < 6
  · have hj : ¬ (nI p < 0 ∨ (6 : Int32) ≤ nI p) := fun o => o.elim (nI_pos (by omega)) (nI_ge (b := 6) c (by decide))
    rw [if_neg hj, zsj a c]
    refine rn_neg (nI_pos (by omega)) (rn_mono (k_job h hn c (s1 c)) ?_)
    rintro _ D ⟨-, hD⟩
    exact hD
  · have hj : nI p < 0 ∨ (6 : Int32) ≤ nI p := Or.inr (nI_le (a := 6) (by omega) (by omega))
    rw [if_pos hj]
    refine rn_pos (by decide) ?_
    unfold F_X11_systemStep F_X11_systemStep_72
    have hc : p = 6 ∨ p = 7 ∨ p = 8 ∨ p = 9 := by omega
    rcases hc with rfl | rfl | rfl | rfl
    · rw [zs6]
      refine rn_pos rfl (rn_bd (k_segs h hn (s2 rfl).1 (s2 rfl).2) ?_)
      rintro _ D ⟨-, hD⟩
      exact rn_ret hD
    · rw [zs7]
      refine rn_neg (by decide) (rn_pos rfl (rn_bd (k_reading h hn (s3 rfl).1 (s3 rfl).2) ?_))
      rintro _ D ⟨-, hD⟩
      exact rn_ret hD
    · rw [zs8]
      refine rn_neg (by decide) (rn_neg (by decide) (rn_pos rfl (rn_bd (k_printing h (s4 rfl).1 (s4 rfl).2) ?_)))
      rintro _ D ⟨-, hD⟩
      exact rn_ret hD
    · rw [zs9]
      obtain ⟨L, m, t, t1, t2, t3, t4, t5, t6, t7, t8⟩ := s5 rfl
      refine rn_neg (by decide) (rn_neg (by decide) (rn_neg (by decide) (rn_pos rfl (rn_bd (k_cons h hn t1 t2 t3 t4 t5 t6 t7 t8) ?_))))
      rintro _ D ⟨-, hD⟩
      exact rn_ret hD
def z_t5 (a : AS) : AS := sv 5 0 0 (av a 5 0 0 + 1) a
noncomputable def z_tick1 (n : Nat) (a : AS) : AS := match al a 0 with
  | [] => z_t5 a
  | p :: _ => z_endt p (z_step n p (z_t5 a))
noncomputable def z_ticks (n : Nat) : Nat → AS → AS
  | 0, a => a
  | m + 1, a => z_ticks n m (z_tick1 n a)
theorem k_tick15 {n : Nat} (hn : n ≤ 12) {I : AS → Prop} (hF : ∀ a p t, I a → al a 0 = p :: t → SF n p (z_t5 a)) : ∀ m fu i a C, (∀ j, j < m → I (z_ticks n j a)) → m < fu → RC n C a → i + m < 2 ^ 30 → Rn (F_X11_tick_15 n fu (nI (i + m)) (nI i) C) (fun r D => r = av (z_ticks n m a) 5 0 0 ∧ RC n D (z_ticks n m a)) := by
  intro m
  induction m with
  | zero =>
    intro fu i a C hI hf h hi
    obtain ⟨fu, rfl⟩ : ∃ g, fu = g + 1 := ⟨fu - 1, by omega⟩
    unfold F_X11_tick_15
    rw [Nat.add_zero, rc_5 h]
    exact rn_pos (nI_le (Nat.le_refl _) (by omega)) (rn_ret ⟨rfl, h⟩)
  | succ m ih =>
    intro fu i a C hI hf h hi
    obtain ⟨fu, rfl⟩ : ∃ g, fu = g + 1 := ⟨fu - 1, by omega⟩
    unfold F_X11_tick_15
    have hIa : I a := hI 0 (by omega)
    refine rn_neg (nI_ge (by omega) (by omega)) ?_
    unfold F_X7_begin F_X11_tick_60
    have h5 : RC n (up C 1 0 3 0 (C 1 0 3 0 + 1)) (z_t5 a) := by
      rw [rc_5 h]
      exact wc_5 h
    have hb : bd2 (st (up C 1 0 3 0 (C 1 0 3 0 + 1)) (fun D1 => bd2 (F_X8_at n 0 (0 : Int32) D1) (fun r3 D4 => some (r3, D4)))) = bd2 (some (oI (al a 0).head?, up C 1 0 3 0 (C 1 0 3 0 + 1)) : Option (Int32 × St)) (α := Int32 × St) := by
      congr 1
      show bd2 (F_X8_at n 0 0 (up C 1 0 3 0 (C 1 0 3 0 + 1))) (fun r3 D4 => some (r3, D4)) = _
      rw [k_head h5]
      rfl
    rw [hb]
    refine rn_bdE rfl ?_
    have nxt : ∀ D, RC n D (z_tick1 n a) → Rn (F_X11_tick_15 n fu (nI (i + (m + 1))) (nI i + 1) D) (fun r D => r = av (z_ticks n (m + 1) a) 5 0 0 ∧ RC n D (z_ticks n (m + 1) a)) := by
      intro D hD
      rw [nI_1, show i + (m + 1) = i + 1 + m by omega]
      exact ih fu (i + 1) (z_tick1 n a) D (fun j hj => hI (j + 1) (by omega)) (by omega) hD (by omega)
    cases hh : al a 0 with
    | nil =>
      have e1 : oI (([] : List Nat).head?) = -1 := rfl
      rw [e1]
      refine rn_bdE k_jobAt (rn_pos (by decide) ?_)
      unfold F_X11_systemStep F_X11_systemStep_72
      refine rn_bdE (r := 0) (C := up C 1 0 3 0 (C 1 0 3 0 + 1)) (by
        rw [if_neg (by decide), if_neg (by decide), if_neg (by decide), if_neg (by decide)]) ?_
      unfold F_X7_end F_X7_end_17
      refine rn_bdE (if_pos rfl) (nxt _ ?_)
      unfold z_tick1
      rw [hh]
      exact h5
    | cons p t =>
      have e1 : oI ((p :: t).head?) = nI p := rfl
      rw [e1]
      have hp : p < 10 := h.2.2.2.1.2.2.1 p (by rw [hh]; simp)
      obtain ⟨r, D, hs, hD⟩ := k_step h5 hn hp (hF a p t hIa hh)
      have fin : Rn (bd2 (F_X7_end n (nI p) D) (fun r1 D2 => F_X11_tick_15 n fu (nI (i + (m + 1))) (nI i + 1) D2)) (fun r D => r = av (z_ticks n (m + 1) a) 5 0 0 ∧ RC n D (z_ticks n (m + 1) a)) := by
        refine rn_bd (k_endt hD hp) ?_
        rintro _ E ⟨-, hE⟩
        refine nxt E ?_
        unfold z_tick1
        rw [hh]
        exact hE
      revert hs
      rw [k_jobAt]
      show (if _ then _ else _) = _ → Rn (if _ then _ else _) _
      by_cases c : (if nI p < 0 ∨ (6 : Int32) ≤ nI p then (-1 : Int32) else nI p) < 0
      · rw [if_pos c, if_pos c]
        intro hs
        exact rn_bdE hs fin
      · rw [if_neg c, if_neg c]
        intro hs
        exact rn_bdE hs fin
noncomputable def z_tick (n : Nat) (x : Int32) (a : AS) : Int32 × AS := if x < 0 ∨ ¬ x ≤ 200 then (-1, a) else (av (z_ticks n x.toNatClampNeg a) 5 0 0, z_ticks n x.toNatClampNeg a)
theorem le200 {x : Int32} (h1 : ¬ x < 0) (h2 : x ≤ 200) : ∃ r, r ≤ 200 ∧ x = nI r := by
  obtain ⟨r, hr, e⟩ := nI_of h1
  refine ⟨r, ?_, e⟩
  subst e
  exact (nI_leI (b := 200) hr (by decide)).mp h2
theorem k_tick {n : Nat} {x : Int32} (hn : n ≤ 12) {I : AS → Prop} (hF : ∀ a p t, I a → al a 0 = p :: t → SF n p (z_t5 a)) {C : St} {a : AS} (h : RC n C a) (hI : ∀ j, j < 200 → I (z_ticks n j a)) : Rn (F_X11_tick n x C) (fun r D => r = (z_tick n x a).1 ∧ RC n D (z_tick n x a).2) := by
  unfold F_X11_tick F_X11_tick_11 z_tick
  refine rn_if (fun e => ?_) (fun e => rn_if (fun e2 => ?_) (fun e2 => ?_))
  · rw [if_pos (Or.inl e)]
    exact rn_ret ⟨rfl, h⟩
  · rw [if_neg (fun o => o.elim e (fun y => y e2))]
    obtain ⟨r, hr, rfl⟩ := le200 e e2
    rw [show (nI r).toNatClampNeg = r from nI_clamp (by omega)]
    have := k_tick15 hn hF r 1000 0 a C (fun j hj => hI j (by omega)) (by omega) h (by omega)
    rw [Nat.zero_add] at this
    exact this
  · rw [if_pos (Or.inr e2)]
    exact rn_ret ⟨rfl, h⟩
