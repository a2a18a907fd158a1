/-! The class: what is said, and the steps of jobs -/
def z_say (x : Int32) (a : AS) : AS := sv 69 0 0 (av a 69 0 0 + 1) (if (av a 69 0 0).toNatClampNeg < 600 then sv 66 (av a 69 0 0).toNatClampNeg 0 x a else a)
theorem say_eq {m : Nat} {x : Int32} {a : AS} (hm : av a 69 0 0 = nI m) (hm2 : m < 2 ^ 30) : z_say x a = sv 69 0 0 (nI (m + 1)) (if m < 600 then sv 66 m 0 x a else a) := by
  unfold z_say
  rw [hm, nI_clamp (by omega), nI_1]
theorem say69 {m : Nat} {x : Int32} {a : AS} (hm : av a 69 0 0 = nI m) : av (z_say x a) 69 0 0 = nI (m + 1) := by
  unfold z_say
  rw [av_s, hm, nI_1]
theorem vo_say {x : Int32} {a : AS} {g b c : Nat} (h1 : g ≠ 69) (h2 : g ≠ 66) : av (z_say x a) g b c = av a g b c := by
  unfold z_say
  rw [av_o h1]
  split
  · rw [av_o h2]
  · rfl
theorem lo_say {x : Int32} {a : AS} {q : Nat} : al (z_say x a) q = al a q := by
  unfold z_say
  rw [al_sv]
  split
  · rw [al_sv]
  · rfl
theorem k_sayz {n m y : Nat} {x : Int32} {C : St} {a : AS} (h : RC n C a) (hm : av a 69 0 0 = nI m) (hm2 : m < 2 ^ 30) (hx : x = nI y) (hy : y < 128) : Rn (F_X1_say n x C) (fun r D => r = 0 ∧ RC n D (z_say x a)) := by
  rw [say_eq hm hm2]
  exact k_say h hm hm2 hx hy
theorem add48 (k : Nat) : (48 : Int32) + nI k = nI (48 + k) := nI_add 48 k
def z_asks (k : Nat) (a : AS) : AS := z_susp k 5 (z_say 10 (z_say 63 (z_say (48 + nI k) a)))
theorem k_asks {n k m : Nat} {C : St} {a : AS} (h : RC n C a) (hk : k < 6) (hm : av a 69 0 0 = nI m) (hm2 : m < 2 ^ 29) : Rn (F_X1_ask n (nI k) C) (fun r D => r = 0 ∧ RC n D (z_asks k a)) := by
  unfold F_X1_ask
  rw [nI_clamp (by omega), k_num h hk]
  refine rn_gd (inb_nI hk (by decide)) (rn_bd (k_sayz h hm (by omega) (add48 k) (by omega)) ?_)
  rintro _ D ⟨-, hD⟩
  refine rn_bd (k_sayz (y := 63) hD (say69 hm) (by omega) rfl (by decide)) ?_
  rintro _ E ⟨-, hE⟩
  refine rn_bd (k_sayz (y := 10) hE (say69 (say69 hm)) (by omega) rfl (by decide)) ?_
  rintro _ G ⟨-, hG⟩
  rw [k_num hG hk]
  refine rn_bd (k_susp hG (by omega)) ?_
  rintro _ J ⟨-, hJ⟩
  exact rn_ret ⟨rfl, hJ⟩
def z_over (k : Nat) (a : AS) : AS := z_say 10 (z_say (48 + av a 16 k 0) (z_say 61 (z_say (48 + nI k) a)))
theorem k_over {n k m o : Nat} {C : St} {a : AS} (h : RC n C a) (hk : k < 6) (hm : av a 69 0 0 = nI m) (hm2 : m < 2 ^ 29) (ho : av a 16 k 0 = nI o) (ho2 : o < 10) : Rn (F_X1_sayOver n (nI k) C) (fun r D => r = 0 ∧ RC n D (z_over k a)) := by
  unfold F_X1_sayOver z_over
  rw [nI_clamp (by omega), k_num h hk]
  refine rn_gd (inb_nI hk (by decide)) (rn_bd (k_sayz h hm (by omega) (add48 k) (by omega)) ?_)
  rintro _ D ⟨-, hD⟩
  refine rn_bd (k_sayz (y := 61) hD (say69 hm) (by omega) rfl (by decide)) ?_
  rintro _ E ⟨-, hE⟩
  rw [rc_16 hE hk, vo_say (by decide) (by decide), vo_say (by decide) (by decide), ho, add48]
  refine rn_bd (k_sayz (y := 48 + o) hE (say69 (say69 hm)) (by omega) rfl (by omega)) ?_
  rintro _ G ⟨-, hG⟩
  refine rn_bd (k_sayz (y := 10) hG (say69 (say69 (say69 hm))) (by omega) rfl (by decide)) ?_
  rintro _ J ⟨-, hJ⟩
  exact rn_ret ⟨rfl, hJ⟩
/-- a job is over, before those who wait are looked at -/
def z_ov (n k : Nat) (a : AS) : AS := z_over k (z_leave k (sv 14 k 0 3 (z_gab 3 k (z_vac n k a))))
noncomputable def z_end (n k : Nat) (a : AS) : AS := if av a 34 k 0 ≤ 0 then z_gtw n [] (al a 2) (z_ov n k a) else z_susp k 4 a
theorem vo_vac {n k : Nat} {a : AS} {g b c : Nat} (h1 : g ≠ 39) (h2 : g ≠ 42) (h3 : g ≠ 43) : av (z_vac n k a) g b c = av a g b c := by
  rw [av_vac]
  simp [h1, h2, h3]
theorem vo_gab {n k : Nat} {a : AS} {g b c : Nat} (h1 : g ≠ 28) : av (z_gab n k a) g b c = av a g b c := by
  rw [av_gab, if_neg (fun h => h1 h.1)]
theorem vo_over {k : Nat} {a : AS} {g b c : Nat} (h1 : g ≠ 69) (h2 : g ≠ 66) : av (z_over k a) g b c = av a g b c := by
  unfold z_over
  rw [vo_say h1 h2, vo_say h1 h2, vo_say h1 h2, vo_say h1 h2]
theorem lo_over {k : Nat} {a : AS} {q : Nat} : al (z_over k a) q = al a q := by
  unfold z_over
  rw [lo_say, lo_say, lo_say, lo_say]
theorem lo_ov {n k : Nat} {a : AS} {q : Nat} (h : q ≠ 0) : al (z_ov n k a) q = al a q := by
  unfold z_ov
  rw [lo_over, lo_leave h]
  rfl
theorem k_end {n k m o : Nat} {C : St} {a : AS} (h : RC n C a) (hn : n ≤ 12) (hk : k < 6) (hm : av a 69 0 0 = nI m) (hm2 : m < 2 ^ 29) (ho : av a 16 k 0 = nI o) (ho2 : o < 10) (hG : av a 34 k 0 ≤ 0 → GW (z_ov n k a)) : Rn (F_X6_end n (nI k) C) (fun r D => r = 0 ∧ RC n D (z_end n k a)) := by
  unfold F_X6_end z_end F_X8_size
  rw [nI_clamp (by omega), rc_34 h hk]
  refine rn_gd (inb_nI hk (by decide)) (rn_bdE rfl (rn_if (fun e => ?_) (fun e => ?_)))
  · rw [if_pos e]
    refine rn_bd (k_vacAll h hn hk) ?_
    rintro _ D ⟨-, hD⟩
    refine rn_bd (k_gab hD hk) ?_
    rintro _ E ⟨-, hE⟩
    refine rn_st ?_
    have hF := wc_14 (x := 3) hE hk
    rw [k_num hF hk]
    refine rn_bd (k_leave hF (by omega)) ?_
    rintro _ G ⟨-, hG2⟩
    refine rn_bd (k_over (m := m) (o := o) hG2 hk ?_ hm2 ?_ ho2) ?_
    · rw [vo_leave (by decide), av_o (by decide), vo_gab (by decide), vo_vac (by decide) (by decide) (by decide)]; exact hm
    · rw [vo_leave (by decide), av_o (by decide), vo_gab (by decide), vo_vac (by decide) (by decide) (by decide)]; exact ho
    rintro _ J ⟨-, hJ⟩
    have hJ : RC n J (z_ov n k a) := hJ
    refine rn_bd (k_gtw hJ hn (hG e)) ?_
    rintro _ L ⟨-, hL⟩
    rw [lo_ov (by decide)] at hL
    exact rn_ret ⟨rfl, hL⟩
  · rw [if_neg e, k_num h hk]
    refine rn_bd (k_susp h (by omega)) ?_
    rintro _ D ⟨-, hD⟩
    exact rn_ret ⟨rfl, hD⟩
def z_use (f : Nat) (a : AS) : AS := sv 41 f 0 (av a 5 0 0) a
theorem has_lt {k g : Nat} {x : Int32} {a : AS} (hs : av a 22 k 0 = nI g) (hg : g ≤ 8) (h : ¬ x < 0 ∧ ¬ av a 22 k 0 * 16 ≤ x) : ∃ m, x = nI m ∧ m < 16 * g := by
  obtain ⟨m, hm, e⟩ := nI_of h.1
  refine ⟨m, e, ?_⟩
  have e16 : av a 22 k 0 * 16 = nI (16 * g) := by
    rw [hs]
    have := mul16 (s := g) (m := 0)
    rw [nI_0, Int32.add_zero] at this
    exact this
  rw [e16, e] at h
  refine Classical.byContradiction fun hh => h.2 (nI_le (by omega) hm)
def z_cmp (n k : Nat) (kind v : Int32) (a : AS) : AS :=
  if kind = 3 then z_comp n k (av a 18 k 0 + 1) (sv 19 k 0 (av a 19 k 0 + v) a)
  else if kind = 4 then z_comp n k (av a 18 k 0 + 1) (sv 19 k 0 (av a 19 k 0 - v) a)
  else if kind = 5 then z_comp n k (av a 18 k 0 + 1) (sv 19 k 0 (av a 19 k 0 * v) a)
  else if kind = 6 then (if v = 0 then z_trap k a else z_comp n k (av a 18 k 0 + 1) (sv 19 k 0 (av a 19 k 0 / v) a))
  else if kind = 10 then z_comp n k (av a 18 k 0 + 1) (sv 20 k 0 v a)
  else z_comp n k (av a 18 k 0 + 1) (sv 19 k 0 v a)
theorem k_c123 {n k : Nat} {C : St} {a b : AS} (h : RC n C b) (hn : n ≤ 12) (hk : k < 6) (e : av b 18 k 0 = av a 18 k 0) : Rn (F_X6_compute_123 n (nI k) C) (fun r D => r = 0 ∧ RC n D (z_comp n k (av a 18 k 0 + 1) b)) := by
  unfold F_X6_compute_123
  rw [nI_clamp (by omega), rc_18 h hk, e]
  refine rn_gd (inb_nI hk (by decide)) (rn_bd (k_comp h hn hk) ?_)
  rintro _ D ⟨-, hD⟩
  exact rn_ret ⟨rfl, hD⟩
theorem k_cmp {n k : Nat} {kind v : Int32} {C : St} {a : AS} (h : RC n C a) (hn : n ≤ 12) (hk : k < 6) : Rn (F_X6_compute n (nI k) kind v C) (fun r D => r = 0 ∧ RC n D (z_cmp n k kind v a)) := by
  unfold F_X6_compute F_X6_compute_118 z_cmp
  rw [nI_clamp (by omega), rc_19 h hk]
  have w19 : ∀ x, Rn (F_X6_compute_123 n (nI k) (up C 6 k 13 0 x)) (fun r D => r = 0 ∧ RC n D (z_comp n k (av a 18 k 0 + 1) (sv 19 k 0 x a))) := fun x => k_c123 (wc_19 h hk) hn hk (av_o (by decide))
  have g6 := inb_nI hk (show 6 < 2 ^ 31 by decide)
  refine rn_if (fun e => ?_) (fun e3 => rn_if (fun e => ?_) (fun e4 => rn_if (fun e => ?_) (fun e5 => rn_if (fun e => ?_) (fun e6 => rn_if (fun e => ?_) (fun e7 => rn_if (fun e => ?_) (fun e8 => rn_if (fun e => ?_) (fun e9 => rn_if (fun e => ?_) (fun e10 => ?_))))))))
  · rw [if_pos e]; exact rn_gd g6 (rn_st (w19 _))
  · rw [if_neg e3, if_pos e]; exact rn_gd g6 (rn_st (w19 _))
  · rw [if_neg e3, if_neg e4, if_pos e]; exact rn_gd g6 (rn_st (w19 _))
  · rw [if_neg e3, if_neg e4, if_neg e5, if_pos e]
    refine rn_if (fun e0 => ?_) (fun e0 => ?_)
    · rw [if_pos e0]
      exact rn_gd g6 (rn_st (rn_ret ⟨rfl, wc_16 h hk⟩))
    · rw [if_neg e0]
      exact rn_gd g6 (rn_gd (by simp [e0]) (rn_st (w19 _)))
  · rw [if_neg e3, if_neg e4, if_neg e5, if_neg e6, if_neg (by rw [e]; decide)]; exact rn_gd g6 (rn_st (w19 _))
  · rw [if_neg e3, if_neg e4, if_neg e5, if_neg e6, if_neg (by rw [e]; decide)]; exact rn_gd g6 (rn_st (w19 _))
  · rw [if_neg e3, if_neg e4, if_neg e5, if_neg e6, if_neg (by rw [e]; decide)]; exact rn_gd g6 (rn_st (w19 _))
  · rw [if_neg e3, if_neg e4, if_neg e5, if_neg e6, if_pos e]
    exact rn_gd g6 (rn_st (k_c123 (wc_20 h hk) hn hk (av_o (by decide))))
  · rw [if_neg e3, if_neg e4, if_neg e5, if_neg e6, if_neg e10]; exact rn_gd g6 (rn_st (w19 _))
def z_op (n k f : Nat) (kind x : Int32) (a : AS) : AS :=
  if ¬ x < 0 ∧ ¬ av a 22 k 0 * 16 ≤ x then (match z_find n k (x / 16) a with
    | none => z_ask k (x / 16) a
    | some g => if kind = 2 ∨ kind = 12 then z_comp n k (av a 18 k 0 + 1) (sv 42 g 0 1 (sv 38 g (x.toNatClampNeg % 16) (av a 19 k 0) (z_use g (z_use f a)))) else z_cmp n k kind (av a 38 g (x.toNatClampNeg % 16)) (z_use g (z_use f a)))
  else z_trap k (z_use f a)
theorem find_lt {n k f : Nat} {s : Int32} {a : AS} (h : z_find n k s a = some f) : f < n := by
  unfold z_find at h
  exact List.mem_range.mp (List.find?_range_eq_some.mp h).2.1
theorem use5 {f : Nat} {a : AS} : av (z_use f a) 5 0 0 = av a 5 0 0 := by unfold z_use; rw [av_o (by decide)]
theorem vo_use {f : Nat} {a : AS} {g b c : Nat} (h : g ≠ 41) : av (z_use f a) g b c = av a g b c := by unfold z_use; rw [av_o h]
theorem k_op {n k f g : Nat} {kind x : Int32} {C : St} {a : AS} (h : RC n C a) (hn : n ≤ 12) (hk : k < 6) (hf : f < n) (hs : av a 22 k 0 = nI g) (hg : g ≤ 8) (hl : (al a 1).length < 10) : Rn (F_X6_attemptOperand n (nI k) (nI f) kind x C) (fun r D => r = 0 ∧ RC n D (z_op n k f kind x a)) := by
  unfold F_X6_attemptOperand F_X6_attemptOperand_95 F_X6_attemptOperand_142 z_op
  have g6 := inb_nI hk (show 6 < 2 ^ 31 by decide)
  have gf := inb_nI hf (show n < 2 ^ 31 by omega)
  have ekk : (nI k).toNatClampNeg = k := nI_clamp (by omega)
  have eff : (nI f).toNatClampNeg = f := nI_clamp (by omega)
  rw [ekk, eff]
  refine rn_gd g6 (rn_bdE (k_has h hk) ?_)
  rw [rc_5 h]
  have hu : RC n (up C 14 f 6 0 (av a 5 0 0)) (z_use f a) := wc_41 h hf
  by_cases c : ¬ x < 0 ∧ ¬ av a 22 k 0 * 16 ≤ x
  · rw [if_pos c, if_pos c]
    obtain ⟨m, rfl, hm⟩ := has_lt hs hg c
    refine rn_neg (by decide) (rn_bdE (k_find h hn hk) ?_)
    cases hz : z_find n k (nI m / 16) a with
    | none =>
      refine rn_pos (show oI none < 0 by decide) (rn_bd (k_ask h hk hl) ?_)
      rintro _ D ⟨-, hD⟩
      exact rn_ret ⟨rfl, hD⟩
    | some e =>
      have he := find_lt hz
      have hoi : oI (some e) = nI e := rfl
      have ge := inb_nI he (show n < 2 ^ 31 by omega)
      have eee : (nI e).toNatClampNeg = e := nI_clamp (by omega)
      rw [hoi, eee]
      refine rn_neg (nI_pos (by omega)) (rn_gd gf (rn_st (rn_gd ge (rn_st ?_))))
      rw [rc_5 h, rc_5 hu, use5]
      have hv : RC n (up (up C 14 f 6 0 (av a 5 0 0)) 14 e 6 0 (av a 5 0 0)) (z_use e (z_use f a)) := by
        have := wc_41 (x := av a 5 0 0) hu he
        unfold z_use at this ⊢
        rw [av_o (by decide)]
        exact this
      generalize up (up C 14 f 6 0 (av a 5 0 0)) 14 e 6 0 (av a 5 0 0) = E at hv
      have emm : (nI m).toNatClampNeg = m := nI_clamp (by omega)
      simp only
      rw [emm]
      have st2 : Rn (gd (inb (nI k) 6) (gd (inb (nI e) n) (bd2 (F_X4_write n (nI e) (nI m) (E 6 k 13 0) E) (fun r2 D3 => st (up D3 14 e 4 0 (1 : Int32)) (fun D6 => bd2 (F_X2_complete n (nI k) ((D6 6 k 12 0) + (1 : Int32)) D6) (fun r8 D9 => some (0, D9))))))) (fun r D => r = 0 ∧ RC n D (z_comp n k (av a 18 k 0 + 1) (sv 42 e 0 1 (sv 38 e (m % 16) (av a 19 k 0) (z_use e (z_use f a)))))) := by
        rw [rc_19 hv hk, vo_use (by decide), vo_use (by decide)]
        refine rn_gd g6 (rn_gd ge (rn_bd (k_write hv he (by omega) (by omega)) ?_))
        rintro _ D ⟨-, hD⟩
        refine rn_st ?_
        have hE := wc_42 (x := 1) hD he
        rw [rc_18 hE hk, av_o (by decide), av_o (by decide), vo_use (by decide), vo_use (by decide)]
        refine rn_bd (k_comp hE hn hk) ?_
        rintro _ G ⟨-, hG⟩
        exact rn_ret ⟨rfl, hG⟩
      refine rn_if (fun e2 => ?_) (fun e2 => rn_if (fun e12 => ?_) (fun e12 => ?_))
      · rw [if_pos (Or.inl e2)]
        exact st2
      · rw [if_pos (Or.inr e12)]
        exact st2
      · rw [if_neg (fun o => o.elim e2 e12)]
        refine rn_bdE (k_read hv he (by omega) (by omega)) ?_
        rw [vo_use (by decide), vo_use (by decide)]
        refine rn_bd (k_cmp hv hn hk) ?_
        rintro _ D ⟨-, hD⟩
        exact rn_ret ⟨rfl, hD⟩
  · rw [if_neg c, if_neg c]
    exact rn_pos rfl (rn_gd gf (rn_st (rn_st (rn_ret ⟨rfl, wc_16 hu hk⟩))))
noncomputable def z_give (n k : Nat) (x : Int32) (a : AS) : AS := if (z_tb n k x a).1 = 0 then (z_tb n k x a).2 else z_gtw n [] (al (z_tb n k x a).2 2) (z_tb n k x a).2
noncomputable def z_ctl (n k : Nat) (kind x : Int32) (a : AS) : AS :=
  if kind = 0 then sv 16 k 0 1 (z_comp n k (av a 18 k 0 + 1) a)
  else if kind = 7 then z_comp n k x a
  else if kind = 8 then z_comp n k (if 0 ≤ av a 19 k 0 then av a 18 k 0 + 1 else x) a
  else if kind = 9 then z_comp n k (if av a 19 k 0 = 0 then x else av a 18 k 0 + 1) a
  else if kind = 13 then z_read k a
  else if kind = 14 then z_print n k a
  else if kind = 15 then z_asks k a
  else if kind = 16 then z_get n k x a
  else if kind = 17 then z_give n k x a
  else if kind = 18 then z_comp n k (av a 18 k 0 + 1) (sv 19 k 0 x a)
  else z_comp n k (av a 18 k 0 + 1) (sv 19 k 0 (av a 20 k 0) a)
/-- what a job's step wants of the state -/
def JS (k : Nat) (a : AS) : Prop := (al a 1).length < 10 ∧ (al a 2).length < 10 ∧ (al a 3).length < 10 ∧ (∃ m, av a 34 k 0 = nI m ∧ (av a 34 k 0 < 4 * av a 27 k 2 → m < 24)) ∧ (∃ m, av a 69 0 0 = nI m ∧ m < 2 ^ 29) ∧ (∃ g, av a 22 k 0 = nI g ∧ g ≤ 8) ∧ (∃ o, av a 16 k 0 = nI o ∧ o < 10) ∧ GW a ∧ k ∉ al a 2 ∧ ∀ r, r < 3 → nv a 28 r 0 + nv a 27 k r < 1000
theorem GW_eq {a b : AS} (h : GW a) (e : ∀ g, g = 26 ∨ g = 27 ∨ g = 28 ∨ g = 29 → ∀ i j, av b g i j = av a g i j) (el : al b 2 = al a 2) : GW b := by
  have en : ∀ g, g = 26 ∨ g = 27 ∨ g = 28 ∨ g = 29 → ∀ i j, nv b g i j = nv a g i j := fun g hg i j => by unfold nv; rw [e g hg]
  refine ⟨⟨fun k r hk hr => ?_, fun r hr => ?_⟩, ?_, fun k hk => ?_⟩
  · rw [e 27 (by decide), e 26 (by decide), en 27 (by decide), en 26 (by decide)]
    exact h.1.1 k r hk hr
  · rw [e 28 (by decide), en 28 (by decide)]
    exact h.1.2 r hr
  · rw [el]; exact h.2.1
  · rw [el] at hk
    rw [en 29 (by decide), en 27 (by decide), en 26 (by decide), e 29 (by decide)]
    exact h.2.2 k hk
theorem JS_use {k f : Nat} {a : AS} (h : JS k a) : JS k (z_use f a) := by
  have e : ∀ g, g ≠ 41 → ∀ b c, av (z_use f a) g b c = av a g b c := fun g hg b c => vo_use hg
  have e2 : ∀ g, g ≠ 41 → ∀ b c, nv (z_use f a) g b c = nv a g b c := fun g hg b c => by unfold nv; rw [vo_use hg]
  unfold JS
  rw [e 34 (by decide), e 27 (by decide), e 69 (by decide), e 22 (by decide), e 16 (by decide)]
  refine ⟨h.1, h.2.1, h.2.2.1, h.2.2.2.1, h.2.2.2.2.1, h.2.2.2.2.2.1, h.2.2.2.2.2.2.1, GW_eq h.2.2.2.2.2.2.2.1 (fun g hg i j => e g (by omega) i j) rfl, h.2.2.2.2.2.2.2.2.1, fun r hr => ?_⟩
  rw [e2 28 (by decide), e2 27 (by decide)]
  exact h.2.2.2.2.2.2.2.2.2 r hr
/-- free more of one, held less of it by one who does not wait -/
theorem GW_less {k : Nat} {a b : AS} (h : GW a) (hkl : k ∉ al a 2) (e26 : ∀ i j, av b 26 i j = av a 26 i j) (e29 : ∀ i j, av b 29 i j = av a 29 i j) (el : al b 2 = al a 2)
    (e27 : ∀ i j, i ≠ k → av b 27 i j = av a 27 i j) (e27k : ∀ r, r < 3 → ∃ m, av b 27 k r = nI m ∧ m ≤ nv a 27 k r) (e28 : ∀ r, r < 3 → ∃ m, av b 28 r 0 = nI m ∧ m < 1000) : GW b := by
  have n26 : ∀ i j, nv b 26 i j = nv a 26 i j := fun i j => by unfold nv; rw [e26]
  have n29 : ∀ i j, nv b 29 i j = nv a 29 i j := fun i j => by unfold nv; rw [e29]
  refine ⟨⟨fun i r hi hr => ?_, fun r hr => ?_⟩, ?_, fun i hi => ?_⟩
  · obtain ⟨b1, b2, b3, b4⟩ := h.1.1 i r hi hr
    rw [n26, e26]
    by_cases c : i = k
    · subst c
      obtain ⟨m, h1, h2⟩ := e27k r hr
      have : nv b 27 i r = m := by unfold nv; rw [h1, nI_clamp (by omega)]
      rw [this]
      exact ⟨h1, b2, by omega, b4⟩
    · have : nv b 27 i r = nv a 27 i r := by unfold nv; rw [e27 i r c]
      rw [this, e27 i r c]
      exact ⟨b1, b2, b3, b4⟩
  · obtain ⟨m, h1, h2⟩ := e28 r hr
    have : nv b 28 r 0 = m := by unfold nv; rw [h1, nI_clamp (by omega)]
    rw [this]
    exact ⟨h1, h2⟩
  · rw [el]; exact h.2.1
  · rw [el] at hi
    have hik : i ≠ k := fun e => hkl (e ▸ hi)
    have : nv b 27 i (nv b 29 i 0) = nv a 27 i (nv b 29 i 0) := by unfold nv; rw [e27 i _ hik]
    rw [this, n29, n26, e29]
    exact h.2.2 i hi
theorem GW_tb {n k : Nat} {x : Int32} {a : AS} (h : GW a) (hk : k < 6) (hkl : k ∉ al a 2) (hfr : ∀ r, r < 3 → nv a 28 r 0 + nv a 27 k r < 1000) : (z_tb n k x a).1 ≠ 0 → GW (z_tb n k x a).2 := by
  unfold z_tb
  by_cases c1 : x < 0 ∨ (3 : Int32) ≤ x
  · rw [if_pos c1]; exact fun y => absurd rfl y
  · rw [if_neg c1]
    by_cases c2 : 0 < av a 27 k x.toNatClampNeg
    · rw [if_pos c2]
      by_cases c3 : ¬ x = 0 ∧ ¬ av a 34 k 0 ≤ 0
      · rw [if_pos c3]; exact fun y => absurd rfl y
      · rw [if_neg c3]
        intro _
        rw [not_or] at c1
        obtain ⟨r, hr, rfl⟩ := lt3 c1.1 (Int32.not_le.mp c1.2)
        rw [nI_clamp (by omega)] at c2 ⊢
        obtain ⟨b1, b2, b3, b4⟩ := h.1.1 k r hk hr
        rw [b1] at c2
        have hpos : 0 < nv a 27 k r := by
          refine Nat.pos_of_ne_zero fun hz => ?_
          rw [hz] at c2
          exact absurd c2 (by decide)
        refine GW_less h hkl (fun i j => ?_) (fun i j => ?_) rfl (fun i j hi => ?_) (fun q hq => ?_) (fun q hq => ?_)
        · rw [vo_comp (by decide) (by decide) (by decide), vo_move (by decide) (by decide)]
        · rw [vo_comp (by decide) (by decide) (by decide), vo_move (by decide) (by decide)]
        · rw [vo_comp (by decide) (by decide) (by decide)]
          unfold z_move
          rw [av_sv, if_neg (fun y => hi y.2.1), av_o (by decide)]
        · rw [vo_comp (by decide) (by decide) (by decide)]
          unfold z_move
          rw [av_sv]
          by_cases c : q = r
          · subst c
            rw [if_pos ⟨rfl, rfl, rfl⟩, b1]
            obtain ⟨m, hm⟩ : ∃ m, nv a 27 k q = m + 1 := ⟨nv a 27 k q - 1, by omega⟩
            refine ⟨m, ?_, by omega⟩
            rw [hm]
            have := nI_pred m
            rw [Int32.sub_eq_add_neg] at this
            exact this
          · rw [if_neg (fun y => c y.2.2), av_o (by decide)]
            exact ⟨nv a 27 k q, (h.1.1 k q hk hq).1, Nat.le_refl _⟩
        · rw [vo_comp (by decide) (by decide) (by decide)]
          unfold z_move
          rw [av_o (by decide), av_sv]
          by_cases c : q = r
          · subst c
            rw [if_pos ⟨rfl, rfl, rfl⟩, (h.1.2 q hq).1]
            refine ⟨nv a 28 q 0 + 1, ?_, ?_⟩
            · rw [Int32.sub_eq_add_neg]
              exact nI_1 _
            · have := hfr q hq
              omega
          · rw [if_neg (fun y => c y.2.1)]
            exact ⟨nv a 28 q 0, h.1.2 q hq⟩
    · rw [if_neg c2]; exact fun y => absurd rfl y
theorem GW_ov {n k : Nat} {a : AS} (h : GW a) (hk : k < 6) (hkl : k ∉ al a 2) (hfr : ∀ r, r < 3 → nv a 28 r 0 + nv a 27 k r < 1000) : GW (z_ov n k a) := by
  have e : ∀ g, g ≠ 69 → g ≠ 66 → g ≠ 7 → g ≠ 14 → g ≠ 39 → g ≠ 42 → g ≠ 43 → g ≠ 28 → ∀ b c, av (z_ov n k a) g b c = av a g b c := fun g x1 x2 x3 x4 x5 x6 x7 x8 b c => by
    unfold z_ov
    rw [vo_over x1 x2, vo_leave x3, av_o x4, vo_gab x8, vo_vac x5 x6 x7]
  refine GW_less h hkl (fun i j => ?_) (fun i j => ?_) (lo_ov (by decide)) (fun i j hi => ?_) (fun q hq => ?_) (fun q hq => ?_)
  · exact e 26 (by decide) (by decide) (by decide) (by decide) (by decide) (by decide) (by decide) (by decide) i j
  · exact e 29 (by decide) (by decide) (by decide) (by decide) (by decide) (by decide) (by decide) (by decide) i j
  · exact e 27 (by decide) (by decide) (by decide) (by decide) (by decide) (by decide) (by decide) (by decide) i j
  · rw [e 27 (by decide) (by decide) (by decide) (by decide) (by decide) (by decide) (by decide) (by decide)]
    exact ⟨nv a 27 k q, (h.1.1 k q hk hq).1, Nat.le_refl _⟩
  · unfold z_ov
    rw [vo_over (by decide) (by decide), vo_leave (by decide), av_o (by decide), av_gab, if_pos ⟨rfl, rfl, hq⟩, vo_vac (by decide) (by decide) (by decide), vo_vac (by decide) (by decide) (by decide), (h.1.2 q hq).1, (h.1.1 k q hk hq).1, nI_add]
    exact ⟨_, rfl, hfr q hq⟩
theorem k_ctl {n k : Nat} {kind x : Int32} {C : St} {a : AS} (h : RC n C a) (hn : n ≤ 12) (hk : k < 6) (hJ : JS k a) (hop : ¬ (kind = 1 ∨ kind = 2 ∨ kind = 3 ∨ kind = 4 ∨ kind = 5 ∨ kind = 6 ∨ kind = 10 ∨ kind = 11 ∨ kind = 12)) : Rn (F_X6_control n (nI k) kind x C) (fun r D => r = 0 ∧ RC n D (z_ctl n k kind x a)) := by
  obtain ⟨j1, j2, j3, ⟨ml, j4, j4'⟩, ⟨ms, j5, j5'⟩, -, -, j7, j8, j9⟩ := hJ
  have j6 := j7.1
  have hW := GW_tb (n := n) (x := x) j7 hk j8 j9
  unfold F_X6_control F_X6_control_281 F_X6_control_148 F_X6_control_172 F_X6_control_263 z_ctl
  have g6 := inb_nI hk (show 6 < 2 ^ 31 by decide)
  have ekk : (nI k).toNatClampNeg = k := nI_clamp (by omega)
  rw [ekk, rc_18 h hk, rc_19 h hk, rc_20 h hk]
  have cp : ∀ (y : Int32) (b : AS) (D : St), RC n D b → Rn (bd2 (F_X2_complete n (nI k) y D) (fun r2 D5 => some (0, D5))) (fun r D => r = 0 ∧ RC n D (z_comp n k y b)) := fun y b D hb => by
    refine rn_bd (k_comp hb hn hk) ?_
    rintro _ E ⟨-, hE⟩
    exact rn_ret ⟨rfl, hE⟩
  refine rn_gd g6 (rn_if (fun e => ?_) (fun e0 => rn_if (fun e => absurd (Or.inl e) hop) (fun e1 => rn_if (fun e => absurd (by simp [e]) hop) (fun e2 => rn_if (fun e => absurd (by simp [e]) hop) (fun e3 => rn_if (fun e => absurd (by simp [e]) hop) (fun e4 => rn_if (fun e => absurd (by simp [e]) hop) (fun e5 => rn_if (fun e => absurd (by simp [e]) hop) (fun e6 => rn_if (fun e => ?_) (fun e7 => rn_if (fun e => ?_) (fun e8 => rn_if (fun e => ?_) (fun e9 => rn_if (fun e => absurd (by simp [e]) hop) (fun e10 => rn_if (fun e => absurd (by simp [e]) hop) (fun e11 => rn_if (fun e => absurd (by simp [e]) hop) (fun e12 => rn_if (fun e => ?_) (fun e13 => rn_if (fun e => ?_) (fun e14 => rn_if (fun e => ?_) (fun e15 => rn_if (fun e => ?_) (fun e16 => rn_if (fun e => ?_) (fun e17 => rn_if (fun e => ?_) (fun e18 => ?_))))))))))))))))))))
  · rw [if_pos e]
    refine rn_bd (k_comp h hn hk) ?_
    rintro _ E ⟨-, hE⟩
    exact rn_st (rn_ret ⟨rfl, wc_16 hE hk⟩)
  · rw [if_neg e0, if_pos e]
    exact cp x a C h
  · rw [if_neg e0, if_neg e7, if_pos e]
    refine rn_if (fun c => ?_) (fun c => ?_)
    · rw [if_pos c]; exact cp _ a C h
    · rw [if_neg c]; exact cp _ a C h
  · rw [if_neg e0, if_neg e7, if_neg e8, if_pos e]
    refine rn_if (fun c => ?_) (fun c => ?_)
    · rw [if_pos c]; exact cp _ a C h
    · rw [if_neg c]; exact cp _ a C h
  · rw [if_neg e0, if_neg e7, if_neg e8, if_neg e9, if_pos e]
    refine rn_bd (k_rd h hk j3) ?_
    rintro _ E ⟨-, hE⟩
    exact rn_ret ⟨rfl, hE⟩
  · rw [if_neg e0, if_neg e7, if_neg e8, if_neg e9, if_neg e13, if_pos e]
    refine rn_bd (k_print h hn hk j4 j4') ?_
    rintro _ E ⟨-, hE⟩
    exact rn_ret ⟨rfl, hE⟩
  · rw [if_neg e0, if_neg e7, if_neg e8, if_neg e9, if_neg e13, if_neg e14, if_pos e]
    refine rn_bd (k_asks h hk j5 j5') ?_
    rintro _ E ⟨-, hE⟩
    exact rn_ret ⟨rfl, hE⟩
  · rw [if_neg e0, if_neg e7, if_neg e8, if_neg e9, if_neg e13, if_neg e14, if_neg e15, if_pos e]
    refine rn_bd (k_get' h hn hk j2 (fun r hr c1 c2 => BK_move j6 hk hr c2 ((lt_nv j6 hk hr).mp c1))) ?_
    rintro _ E ⟨-, hE⟩
    exact rn_ret ⟨rfl, hE⟩
  · rw [if_neg e0, if_neg e7, if_neg e8, if_neg e9, if_neg e13, if_neg e14, if_neg e15, if_neg e16, if_pos e]
    unfold z_give
    refine rn_bd (k_tb h hn hk) ?_
    rintro _ E ⟨rfl, hE⟩
    refine rn_if (fun c => ?_) (fun c => ?_)
    · rw [if_pos c]
      exact rn_ret ⟨rfl, hE⟩
    · rw [if_neg c]
      refine rn_bd (k_gtw hE hn (hW c)) ?_
      rintro _ G ⟨-, hG⟩
      exact rn_ret ⟨rfl, hG⟩
  · rw [if_neg e0, if_neg e7, if_neg e8, if_neg e9, if_neg e13, if_neg e14, if_neg e15, if_neg e16, if_neg e17, if_pos e]
    exact rn_st (cp _ _ _ (wc_19 h hk))
  · rw [if_neg e0, if_neg e7, if_neg e8, if_neg e9, if_neg e13, if_neg e14, if_neg e15, if_neg e16, if_neg e17, if_neg e18]
    exact rn_gd g6 (rn_st (cp _ _ _ (wc_19 h hk)))
