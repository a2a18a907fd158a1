/-! The class: the store -/
def z_trap (k : Nat) (a : AS) : AS := sv 16 k 0 4 a
def z_ask (k : Nat) (s : Int32) (a : AS) : AS := z_v 0 (z_susp k 1 (sl 1 (al a 1 ++ [k]) (sv 29 k 0 s a)))
theorem k_ask {n k : Nat} {s : Int32} {C : St} {a : AS} (h : RC n C a) (hk : k < 6) (hl : (al a 1).length < 10) : Rn (F_X10_ask n (nI k) s C) (fun r D => r = 0 ∧ RC n D (z_ask k s a)) := by
  unfold F_X10_ask
  rw [nI_clamp (by omega)]
  refine rn_gd (inb_nI hk (by decide)) (rn_st (rn_bd (k_add (q := 0) (wc_29 h hk) (by decide) hk hl) ?_))
  rintro _ D ⟨-, hD⟩
  rw [k_num hD hk]
  refine rn_bd (k_susp hD (by omega)) ?_
  rintro _ E ⟨-, hE⟩
  refine rn_bd (k_v hE (by decide)) ?_
  rintro _ G ⟨-, hG⟩
  exact rn_ret ⟨rfl, hG⟩
def z_begin (d : Int32) (a : AS) : AS := sv 12 0 0 d (sv 45 0 0 d a)
theorem k_begin {n : Nat} {d : Int32} {C : St} {a : AS} (h : RC n C a) : Rn (F_X10_begin n d C) (fun r D => r = 0 ∧ RC n D (z_begin d a)) := by
  unfold F_X10_begin
  exact rn_st (rn_st (rn_ret ⟨rfl, wc_12 (wc_45 h)⟩))
def z_bring (f k : Nat) (a : AS) : AS := sv 47 0 0 (-1) (sv 46 0 0 (-1) (z_wake k (sv 44 0 0 (av a 44 0 0 + 1) (z_occupy f k (av a 29 k 0) (av a 5 0 0) (sv 12 0 0 0 a)))))
theorem vo_occ {f k : Nat} {s t : Int32} {a : AS} {g b c : Nat} (h1 : g ≠ 39) (h2 : g ≠ 40) (h3 : g ≠ 41) (h4 : g ≠ 42) (h5 : g ≠ 43) : av (z_occupy f k s t a) g b c = av a g b c := by
  unfold z_occupy
  rw [av_o h3, av_o h5, av_o h4, av_o h2, av_o h1]
theorem k_bring {n f k : Nat} {C : St} {a : AS} (h : RC n C a) (hn : n ≤ 12) (hf : f < n) (hk : k < 6) (h46 : av a 46 0 0 = nI f) (h47 : av a 47 0 0 = nI k) : Rn (F_X10_bring n C) (fun r D => r = 0 ∧ RC n D (z_bring f k a)) := by
  unfold F_X10_bring F_X10_bring_68
  refine rn_st ?_
  have h1 : RC n (up C 16 0 6 0 0) (sv 12 0 0 0 a) := wc_12 h
  rw [rc_46 h1, rc_47 h1, av_o (by decide), av_o (by decide), h46, h47, nI_clamp (by omega), rc_29 h1 hk, rc_5 h1, av_o (by decide), av_o (by decide)]
  refine rn_neg (nI_pos (by omega)) (rn_neg (nI_pos (by omega)) (rn_gd (inb_nI hk (by decide)) (rn_gd (inb_nI hf (by omega)) (rn_bd (k_occupy h1 hf (by omega) hk) ?_))))
  rintro _ D ⟨-, hD⟩
  refine rn_st ?_
  rw [rc_44 hD, vo_occ (by decide) (by decide) (by decide) (by decide) (by decide), av_o (by decide)]
  have hE := wc_44 (x := av a 44 0 0 + 1) hD
  rw [rc_47 hE, av_o (by decide), vo_occ (by decide) (by decide) (by decide) (by decide) (by decide), av_o (by decide), h47, nI_clamp (by omega), k_num hE hk]
  refine rn_gd (inb_nI hk (by decide)) (rn_bd (k_wake hE (by omega)) ?_)
  rintro _ G ⟨-, hG⟩
  exact rn_st (rn_st (rn_ret ⟨rfl, wc_47 (wc_46 hG)⟩))
theorem wc_busy2 {n f : Nat} {C : St} {a : AS} (h : RC n C (z_vacate f a)) (hf : f < n) : RC n (up C 14 f 3 0 1) (sv 39 f 0 (-2) (z_vacate f a)) := by
  refine wc_busy h hf ?_
  unfold z_vacate
  rw [av_o (by decide), av_o (by decide), av_s]
theorem k_t90 {n f : Nat} {x : Int32} {C : St} {a : AS} (h : RC n C a) (hn : n ≤ 12) (hf : f < n) : Rn (F_X10_takeFirst_90 n (nI f) x C) (fun r D => r = 0 ∧ RC n D (z_begin (if x = 0 then 2 else 1) (sv 39 f 0 (-2) (z_vacate f a)))) := by
  unfold F_X10_takeFirst_90 F_X10_takeFirst_109
  rw [nI_clamp (by omega)]
  refine rn_gd (inb_nI hf (by omega)) (rn_bd (k_vacate h hf (by omega)) ?_)
  rintro _ D ⟨-, hD⟩
  refine rn_st ?_
  have hE := wc_busy2 hD hf
  refine rn_if (fun e => ?_) (fun e => ?_)
  · rw [if_pos e]
    refine rn_bd (k_begin hE) ?_
    rintro _ G ⟨-, hG⟩
    exact rn_ret ⟨rfl, hG⟩
  · rw [if_neg e]
    refine rn_bd (k_begin hE) ?_
    rintro _ G ⟨-, hG⟩
    exact rn_ret ⟨rfl, hG⟩
def z_take (f k : Nat) (t : List Nat) (a : AS) : AS :=
  if av a 39 f 0 < 0 ∨ av a 42 f 0 = 0 then z_begin 2 (sv 39 f 0 (-2) (z_vacate f (sv 46 0 0 (nI f) (sv 47 0 0 (nI k) (sl 1 t a)))))
  else z_begin 1 (sv 39 f 0 (-2) (z_vacate f (sv 50 0 0 (av a 40 f 0) (sv 51 0 0 (av a 23 (av a 39 f 0).toNatClampNeg 0) (sv 49 0 0 (av a 39 f 0) (sv 46 0 0 (nI f) (sv 47 0 0 (nI k) (sl 1 t a))))))))
theorem k_take {n f k : Nat} {t : List Nat} {C : St} {a : AS} (h : RC n C a) (hn : n ≤ 12) (hc : z_choose n a = some f) (hf : f < n) (hl : al a 1 = k :: t) : Rn (F_X10_takeFirst n C) (fun r D => r = 0 ∧ RC n D (z_take f k t a)) := by
  have hl0 : al a (0 + 1) = k :: t := hl
  have hk : k < 6 := (h.2.2.2.2 0 (by decide)).2.2.1 k (by rw [hl0]; simp)
  have hof : oI (some f) = nI f := rfl
  unfold F_X10_takeFirst
  refine rn_bdE (k_choose h hn) (rn_bdE (k_isEmpty h (q := 0) (by decide)) ?_)
  rw [hl0, hc, hof, if_neg (show ¬ k :: t = [] by simp)]
  refine rn_pos rfl (rn_neg (nI_pos (by omega)) ?_)
  refine rn_bd (k_remove (q := 0) (i := 0) (p := k) h (by decide) (by rw [hl0]; rfl)) ?_
  rintro _ D ⟨rfl, hD⟩
  rw [hl0] at hD
  have hD : RC n D (sl 1 t a) := hD
  refine rn_gd (okr_nI hk (by decide)) (rn_st (rn_st (rn_gd (inb_nI hf (by omega)) ?_)))
  rw [nI_clamp (by omega)]
  have hE : RC n (up (up D 16 0 8 0 (nI k)) 16 0 7 0 (nI f)) (sv 46 0 0 (nI f) (sv 47 0 0 (nI k) (sl 1 t a))) := wc_46 (wc_47 hD)
  generalize up (up D 16 0 8 0 (nI k)) 16 0 7 0 (nI f) = E at hE
  have e39 : av (sv 46 0 0 (nI f) (sv 47 0 0 (nI k) (sl 1 t a))) 39 f 0 = av a 39 f 0 := by rw [av_o (by decide), av_o (by decide), av_sl]
  have e42 : av (sv 46 0 0 (nI f) (sv 47 0 0 (nI k) (sl 1 t a))) 42 f 0 = av a 42 f 0 := by rw [av_o (by decide), av_o (by decide), av_sl]
  unfold F_X10_takeFirst_63 F_X10_takeFirst_64
  unfold z_take
  have two : Rn (F_X10_takeFirst_90 n (nI f) 0 E) (fun r D => r = 0 ∧ RC n D (z_begin 2 (sv 39 f 0 (-2) (z_vacate f (sv 46 0 0 (nI f) (sv 47 0 0 (nI k) (sl 1 t a))))))) := k_t90 hE hn hf
  rw [if_pos rfl]
  have hcase := rcf hE hf
  rw [e39] at hcase
  rw [rc_42 hE hf, e42]
  rcases hcase with ⟨c1, -, c3⟩ | ⟨c1, -, c3⟩ | ⟨j, hj, c1, -, c3⟩
  · rw [c3, c1, if_pos (Or.inl (by decide))]
    exact rn_pos (by decide) two
  · rw [c3, c1, if_pos (Or.inl (by decide))]
    exact rn_pos (by decide) two
  · rw [c3]
    refine rn_neg (nI_pos (by omega)) (rn_if (fun e => ?_) (fun e => ?_))
    · rw [if_pos (Or.inr e)]
      exact two
    · have hno : ¬ (av a 39 f 0 < 0 ∨ av a 42 f 0 = 0) := by
        rw [c1]
        exact fun o => o.elim (nI_pos (by omega)) e
      rw [if_neg hno]
      refine rn_neg (by decide) (rn_st (rn_gd (inb_nI hj (by decide)) (rn_st (rn_gd (inb_nI hf (by omega)) (rn_st ?_)))))
      have h49 : RC n (up E 16 0 9 0 (nI j)) (sv 49 0 0 (nI j) (sv 46 0 0 (nI f) (sv 47 0 0 (nI k) (sl 1 t a)))) := wc_49 hE
      have e23 : av (sv 49 0 0 (nI j) (sv 46 0 0 (nI f) (sv 47 0 0 (nI k) (sl 1 t a)))) 23 j 0 = av a 23 j 0 := by rw [av_o (by decide), av_o (by decide), av_o (by decide), av_sl]
      rw [nI_clamp (by omega), nI_clamp (by omega), rc_23 h49 hj, e23]
      have h51 := wc_51 (x := av a 23 j 0) h49
      have e40 : av (sv 51 0 0 (av a 23 j 0) (sv 49 0 0 (nI j) (sv 46 0 0 (nI f) (sv 47 0 0 (nI k) (sl 1 t a))))) 40 f 0 = av a 40 f 0 := by rw [av_o (by decide), av_o (by decide), av_o (by decide), av_o (by decide), av_sl]
      rw [rc_40 h51 hf, e40]
      have h50 := wc_50 (x := av a 40 f 0) h51
      have := k_t90 (x := 1) h50 hn hf
      rw [if_neg (by decide)] at this
      rw [c1, nI_clamp (by omega)]
      exact this
def z_segs (n : Nat) (a : AS) : AS :=
  if av a 12 0 0 = 1 then z_p 1 (z_begin 2 a)
  else if av a 12 0 0 = 2 then z_p 0 (z_bring (av a 46 0 0).toNatClampNeg (av a 47 0 0).toNatClampNeg a)
  else match z_choose n a, al a 1 with
    | some f, k :: t => z_p 1 (z_take f k t a)
    | _, _ => a
theorem k_s35 {n : Nat} {C : St} {a : AS} (h : RC n C a) : Rn (F_X10_step_35 n C) (fun r D => r = 0 ∧ RC n D (if av a 12 0 0 = 0 then z_p 0 a else z_p 1 a)) := by
  unfold F_X10_step_35 F_X10_step_59
  rw [rc_12 h]
  refine rn_if (fun e => ?_) (fun e => ?_)
  · rw [if_pos e]
    refine rn_bd (k_p h (by decide)) ?_
    rintro _ G ⟨-, hG⟩
    exact rn_ret ⟨rfl, hG⟩
  · rw [if_neg e]
    refine rn_bd (k_p h (by decide)) ?_
    rintro _ G ⟨-, hG⟩
    exact rn_ret ⟨rfl, hG⟩
theorem take12 (f k : Nat) (t : List Nat) (a : AS) : ¬ av (z_take f k t a) 12 0 0 = 0 := by
  unfold z_take
  split
  · unfold z_begin; rw [av_s]; decide
  · unfold z_begin; rw [av_s]; decide
theorem bring12 (f k : Nat) (a : AS) : av (z_bring f k a) 12 0 0 = 0 := by
  unfold z_bring
  rw [av_o (by decide), av_o (by decide), vo_wake (by decide), av_o (by decide), vo_occ (by decide) (by decide) (by decide) (by decide) (by decide), av_s]
theorem k_segs {n : Nat} {C : St} {a : AS} (h : RC n C a) (hn : n ≤ 12) (h2 : av a 12 0 0 = 2 → ∃ f k, f < n ∧ k < 6 ∧ av a 46 0 0 = nI f ∧ av a 47 0 0 = nI k) (h0 : ¬ av a 12 0 0 = 1 → ¬ av a 12 0 0 = 2 → ∃ f k t, f < n ∧ z_choose n a = some f ∧ al a 1 = k :: t) : Rn (F_X10_step n C) (fun r D => r = 0 ∧ RC n D (z_segs n a)) := by
  unfold F_X10_step z_segs
  rw [rc_12 h]
  refine rn_if (fun e => ?_) (fun e => rn_if (fun e2 => ?_) (fun e2 => ?_))
  · rw [if_pos e]
    refine rn_bd (k_begin h) ?_
    rintro _ D ⟨-, hD⟩
    have := k_s35 hD
    rw [if_neg (by unfold z_begin; rw [av_s]; decide)] at this
    exact this
  · rw [if_neg e, if_pos e2]
    obtain ⟨f, k, hf, hk, e46, e47⟩ := h2 e2
    rw [e46, e47, nI_clamp (by omega), nI_clamp (by omega)]
    refine rn_bd (k_bring h hn hf hk e46 e47) ?_
    rintro _ D ⟨-, hD⟩
    have := k_s35 hD
    rw [if_pos (bring12 f k a)] at this
    exact this
  · rw [if_neg e, if_neg e2]
    obtain ⟨f, k, t, hf, hc, hl⟩ := h0 e e2
    rw [hc, hl]
    refine rn_bd (k_take h hn hc hf hl) ?_
    rintro _ D ⟨-, hD⟩
    have := k_s35 hD
    rw [if_neg (take12 f k t a)] at this
    exact this
def z_td (m j s f : Nat) (a : AS) : AS := (fun g b c => if g = 37 ∧ b = j ∧ 16 * s ≤ c ∧ c < 16 * s + m then a.1 38 f (c - 16 * s) else a.1 g b c, a.2)
theorem av_td (m j s f : Nat) (a : AS) (g b c : Nat) : av (z_td m j s f a) g b c = if g = 37 ∧ b = j ∧ 16 * s ≤ c ∧ c < 16 * s + m then av a 38 f (c - 16 * s) else av a g b c := rfl
theorem td_succ (m j s f : Nat) (a : AS) : sv 37 j (16 * s + m) (av a 38 f m) (z_td m j s f a) = z_td (m + 1) j s f a := by
  refine as_ext (fun g b c => ?_) (fun q => rfl)
  rw [av_sv, av_td, av_td]
  by_cases c1 : g = 37 ∧ b = j ∧ c = 16 * s + m
  · obtain ⟨rfl, rfl, rfl⟩ := c1
    rw [if_pos ⟨rfl, rfl, rfl⟩, if_pos ⟨rfl, rfl, by omega, by omega⟩]
    congr 1
    omega
  · rw [if_neg c1]
    by_cases c2 : g = 37 ∧ b = j ∧ 16 * s ≤ c ∧ c < 16 * s + m
    · rw [if_pos c2, if_pos ⟨c2.1, c2.2.1, c2.2.2.1, by omega⟩]
    · rw [if_neg c2, if_neg]
      rintro ⟨d1, d2, d3, d4⟩
      by_cases d5 : c = 16 * s + m
      · exact c1 ⟨d1, d2, d5⟩
      · exact c2 ⟨d1, d2, d3, by omega⟩
theorem td0 (j s f : Nat) (a : AS) : z_td 0 j s f a = a := as_ext (fun g b c => by rw [av_td, if_neg (by omega)]) (fun q => rfl)
theorem mul16 {s : Nat} {m : Nat} : nI s * 16 + nI m = nI (16 * s + m) := by
  have : (16 : Int32) = nI 16 := rfl
  unfold nI at *
  rw [this, ← Int32.ofNat_mul, ← Int32.ofNat_add, Nat.mul_comm]
theorem k_td {n f j s : Nat} {a : AS} (hn : n ≤ 12) (hf : f < n) (hj : j < 6) (hs : s < 8) (h46 : av a 46 0 0 = nI f) (h49 : av a 49 0 0 = nI j) (h50 : av a 50 0 0 = nI s) : ∀ fu m D, 16 < fu + m → m ≤ 16 → RC n D (z_td m j s f a) → Rn (F_X10_moveToDrum_31 n fu (nI m) D) (fun r E => r = 0 ∧ RC n E (z_td 16 j s f a)) := by
  intro fu
  induction fu with
  | zero => intro m D h1 h2; omega
  | succ fu ih =>
    intro m D h1 h2 h
    unfold F_X10_moveToDrum_31
    by_cases e : m = 16
    · subst e
      exact rn_pos (show (16 : Int32) ≤ nI 16 by decide) (rn_ret ⟨rfl, h⟩)
    · have hm : m < 16 := by omega
      have t : ∀ g, g ≠ 37 → ∀ b c, av (z_td m j s f a) g b c = av a g b c := fun g hg b c => by rw [av_td, if_neg (fun h => hg h.1)]
      rw [rc_46 h, rc_49 h, rc_50 h, t 46 (by decide), t 49 (by decide), t 50 (by decide), h46, h49, h50, mul16]
      refine rn_neg (nI_ge (b := 16) hm (by decide)) (rn_gd (inb_nI hf (by omega)) (rn_bdE (k_read h hf (by omega) (by omega)) (rn_gd (inb_nI hj (by decide)) (rn_bd (k_putOnDrum h hj (by omega)) ?_))))
      rintro _ E ⟨-, hE⟩
      rw [nI_1]
      refine ih (m + 1) E (by omega) (by omega) ?_
      rw [t 38 (by decide), Nat.mod_eq_of_lt hm, td_succ] at hE
      exact hE
def z_tc (m k s f : Nat) (a : AS) : AS := (fun g b c => if g = 38 ∧ b = f ∧ c < m then a.1 37 k (16 * s + c) else a.1 g b c, a.2)
theorem av_tc (m k s f : Nat) (a : AS) (g b c : Nat) : av (z_tc m k s f a) g b c = if g = 38 ∧ b = f ∧ c < m then av a 37 k (16 * s + c) else av a g b c := rfl
theorem tc_succ (m k s f : Nat) (a : AS) : sv 38 f m (av a 37 k (16 * s + m)) (z_tc m k s f a) = z_tc (m + 1) k s f a := by
  refine as_ext (fun g b c => ?_) (fun q => rfl)
  rw [av_sv, av_tc, av_tc]
  by_cases c1 : g = 38 ∧ b = f ∧ c = m
  · obtain ⟨rfl, rfl, rfl⟩ := c1
    rw [if_pos ⟨rfl, rfl, rfl⟩, if_pos ⟨rfl, rfl, by omega⟩]
  · rw [if_neg c1]
    by_cases c2 : g = 38 ∧ b = f ∧ c < m
    · rw [if_pos c2, if_pos ⟨c2.1, c2.2.1, by omega⟩]
    · rw [if_neg c2, if_neg]
      rintro ⟨d1, d2, d3⟩
      by_cases d5 : c = m
      · exact c1 ⟨d1, d2, d5⟩
      · exact c2 ⟨d1, d2, by omega⟩
theorem tc0 (k s f : Nat) (a : AS) : z_tc 0 k s f a = a := as_ext (fun g b c => by rw [av_tc, if_neg (by omega)]) (fun q => rfl)
theorem k_tc {n f k s : Nat} {a : AS} (hn : n ≤ 12) (hf : f < n) (hk : k < 6) (hs : s < 8) (h46 : av a 46 0 0 = nI f) (h47 : av a 47 0 0 = nI k) (h29 : av a 29 k 0 = nI s) : ∀ fu m D, 16 < fu + m → m ≤ 16 → RC n D (z_tc m k s f a) → Rn (F_X10_moveToCore_17 n fu (nI m) D) (fun r E => r = 0 ∧ RC n E (z_tc 16 k s f a)) := by
  intro fu
  induction fu with
  | zero => intro m D h1 h2; omega
  | succ fu ih =>
    intro m D h1 h2 h
    unfold F_X10_moveToCore_17
    by_cases e : m = 16
    · subst e
      exact rn_pos (show (16 : Int32) ≤ nI 16 by decide) (rn_ret ⟨rfl, h⟩)
    · have hm : m < 16 := by omega
      have t : ∀ g, g ≠ 38 → ∀ b c, av (z_tc m k s f a) g b c = av a g b c := fun g hg b c => by rw [av_tc, if_neg (fun h => hg h.1)]
      rw [rc_46 h, rc_47 h, t 46 (by decide), t 47 (by decide), h46, h47, nI_clamp (by omega), rc_29 h hk, t 29 (by decide), h29, mul16]
      refine rn_neg (nI_ge (b := 16) hm (by decide)) (rn_gd (inb_nI hk (by decide)) (rn_bdE (k_onDrum h hk (by omega)) (rn_gd (inb_nI hf (by omega)) (rn_bd (k_write h hf (by omega) (by omega)) ?_))))
      rintro _ E ⟨-, hE⟩
      rw [nI_1]
      refine ih (m + 1) E (by omega) (by omega) ?_
      rw [t 37 (by decide), Nat.mod_eq_of_lt hm, tc_succ] at hE
      exact hE
/-- the drum is done -/
def z_wr (j : Nat) (a : AS) : Prop := av a 23 j 0 = av a 51 0 0 ∧ ¬ av a 14 j 0 = 3
noncomputable def z_drum (a : AS) : AS := z_v 1 (sv 45 0 0 0 (
  if av a 45 0 0 = 1 then (if av a 23 (av a 49 0 0).toNatClampNeg 0 = av a 51 0 0 ∧ ¬ av a 14 (av a 49 0 0).toNatClampNeg 0 = 3 then z_td 16 (av a 49 0 0).toNatClampNeg (av a 50 0 0).toNatClampNeg (av a 46 0 0).toNatClampNeg a else a)
  else z_tc 16 (av a 47 0 0).toNatClampNeg (av a 29 (av a 47 0 0).toNatClampNeg 0).toNatClampNeg (av a 46 0 0).toNatClampNeg a))
theorem k_dd28 {n : Nat} {C : St} {a : AS} (h : RC n C a) : Rn (F_X10_drumIsDone_28 n C) (fun r D => r = 1 ∧ RC n D (z_v 1 (sv 45 0 0 0 a))) := by
  unfold F_X10_drumIsDone_28
  refine rn_st (rn_bd (k_v (s := 1) (wc_45 h) (by decide)) ?_)
  rintro _ G ⟨-, hG⟩
  exact rn_ret ⟨rfl, hG⟩
theorem k_drum {n f : Nat} {C : St} {a : AS} (h : RC n C a) (hn : n ≤ 12) (hd : ¬ av a 45 0 0 = 0) (hf : f < n) (h46 : av a 46 0 0 = nI f)
    (h1 : av a 45 0 0 = 1 → ∃ j s, j < 6 ∧ s < 8 ∧ av a 49 0 0 = nI j ∧ av a 50 0 0 = nI s)
    (h2 : ¬ av a 45 0 0 = 1 → ∃ k s, k < 6 ∧ s < 8 ∧ av a 47 0 0 = nI k ∧ av a 29 k 0 = nI s) : Rn (F_X10_drumIsDone n C) (fun r D => r = 1 ∧ RC n D (z_drum a)) := by
  unfold F_X10_drumIsDone z_drum
  rw [rc_45 h]
  refine rn_neg hd (rn_if (fun e => ?_) (fun e => ?_))
  · rw [if_pos e]
    obtain ⟨j, s, hj, hs, e49, e50⟩ := h1 e
    unfold F_X10_moveToDrum F_X10_moveToDrum_28
    rw [rc_46 h, rc_49 h, rc_51 h, h46, e49, e50, nI_clamp (by omega), nI_clamp (by omega), nI_clamp (by omega)]
    refine rn_bd (P := fun r D => r = 0 ∧ RC n D (if av a 23 j 0 = av a 51 0 0 ∧ ¬ av a 14 j 0 = 3 then z_td 16 j s f a else a)) (rn_neg (nI_pos (by omega)) (rn_neg (nI_pos (by omega)) (rn_gd (inb_nI hj (by decide)) (rn_bdE (k_isAsOf h hj) ?_)))) ?_
    · by_cases c : av a 23 j 0 = av a 51 0 0 ∧ ¬ av a 14 j 0 = 3
      · rw [if_pos c, if_pos c]
        refine rn_neg (by decide) (k_td hn hf hj hs h46 e49 e50 1000 0 C (by omega) (by omega) ?_)
        rw [td0]
        exact h
      · rw [if_neg c, if_neg c]
        exact rn_pos rfl (rn_ret ⟨rfl, h⟩)
    · rintro _ D ⟨-, hD⟩
      exact k_dd28 hD
  · rw [if_neg e]
    obtain ⟨k, s, hk, hs, e47, e29⟩ := h2 e
    unfold F_X10_moveToCore F_X10_moveToCore_14
    rw [rc_46 h, rc_47 h, h46, e47, nI_clamp (by omega), nI_clamp (by omega), e29, nI_clamp (by omega)]
    refine rn_bd (P := fun r D => r = 0 ∧ RC n D (z_tc 16 k s f a)) (rn_neg (nI_pos (by omega)) (rn_neg (nI_pos (by omega)) (k_tc hn hf hk hs h46 e47 e29 1000 0 C (by omega) (by omega) ?_))) ?_
    · rw [tc0]
      exact h
    · rintro _ D ⟨-, hD⟩
      exact k_dd28 hD
