/-! The class: the jobs' small methods, the bank's small methods -/
theorem k_held {n k r : Nat} {x : Int32} {C : St} {a : AS} (h : RC n C a) (hk : k < 6) (hr : r < 3) (hx : x = nI r) : F_X5_held n (nI k) x C = some (av a 27 k r, C) := by
  subst hx
  refine rn_eq ?_
  unfold F_X5_held
  rw [nI_clamp (by omega), nI_clamp (by omega)]
  exact rn_neg (nI_pos (by omega)) (rn_gd (inb_nI hk (by decide)) (rn_neg (nI_ge (b := 3) hr (by decide)) (rn_gd (inb_nI hr (by decide)) (rn_ret ⟨rc_27 h hk hr, rfl⟩))))
theorem k_claimed {n k r : Nat} {x : Int32} {C : St} {a : AS} (h : RC n C a) (hk : k < 6) (hr : r < 3) (hx : x = nI r) : F_X5_claimed n (nI k) x C = some (av a 26 k r, C) := by
  subst hx
  refine rn_eq ?_
  unfold F_X5_claimed
  rw [nI_clamp (by omega), nI_clamp (by omega)]
  exact rn_neg (nI_pos (by omega)) (rn_gd (inb_nI hk (by decide)) (rn_neg (nI_ge (b := 3) hr (by decide)) (rn_gd (inb_nI hr (by decide)) (rn_ret ⟨rc_26 h hk hr, rfl⟩))))
theorem k_hasCard {n k : Nat} {C : St} {a : AS} (h : RC n C a) (hk : k < 6) : F_X5_hasCard n (nI k) C = some (if av a 31 k 0 ≤ av a 32 k 0 then 0 else 1, C) := by
  unfold F_X5_hasCard F_X5_hasCard_16 gd
  rw [inb_nI hk (by decide), nI_clamp (by omega), rc_31 h hk, rc_32 h hk]
  by_cases e : av a 31 k 0 ≤ av a 32 k 0
  · simp only [if_pos e]; rfl
  · simp only [if_neg e]; rfl
theorem k_takeCard {n k c : Nat} {C : St} {a : AS} (h : RC n C a) (hk : k < 6) (hc : av a 32 k 0 = nI c) (hc2 : c < 40) (hm : ¬ av a 31 k 0 ≤ av a 32 k 0) : Rn (F_X5_takeCard n (nI k) C) (fun r D => r = av a 30 k c ∧ RC n D (sv 32 k 0 (nI (c + 1)) a)) := by
  unfold F_X5_takeCard
  rw [nI_clamp (by omega), rc_31 h hk, rc_32 h hk]
  have h2 : RC n (up C 6 k 16 0 (av a 32 k 0 + 1)) (sv 32 k 0 (av a 32 k 0 + 1) a) := wc_32 h hk
  rw [hc, nI_1] at h2
  refine rn_gd (inb_nI hk (by decide)) (rn_neg (by rw [hc]; exact nI_pos (by omega)) (rn_neg hm (rn_pos (by rw [hc]; exact nI_lt hc2 (by decide)) (rn_st ?_))))
  rw [hc, nI_1]
  have e : up C 6 k 16 0 (nI (c + 1)) 6 k 16 0 = nI (c + 1) := by rw [up_at, if_pos ⟨rfl, rfl, rfl, rfl⟩]
  rw [e, nI_pred, nI_clamp (by omega)]
  refine rn_gd (inb_nI hc2 (by decide)) (rn_ret ⟨?_, h2⟩)
  rw [rc_30 h2 hk hc2, av_sv, if_neg (by simp)]
def z_has (k : Nat) (x : Int32) (a : AS) : Prop := ¬ x < 0 ∧ ¬ av a 22 k 0 * 16 ≤ x
theorem k_has {n k : Nat} {x : Int32} {C : St} {a : AS} (h : RC n C a) (hk : k < 6) : F_X5_has n (nI k) x C = some (if ¬ x < 0 ∧ ¬ av a 22 k 0 * 16 ≤ x then 1 else 0, C) := by
  refine rn_eq ?_
  unfold F_X5_has
  rw [nI_clamp (by omega), rc_22 h hk]
  refine rn_if (fun e => rn_gd rfl (rn_ret ⟨by rw [if_neg (fun hh => hh.1 e)], rfl⟩)) (fun e => rn_gd (inb_nI hk (by decide)) (rn_if (fun e2 => rn_gd rfl (rn_ret ⟨by rw [if_neg (fun hh => hh.2 e2)], rfl⟩)) (fun e2 => rn_gd rfl (rn_ret ⟨by rw [if_pos ⟨e, e2⟩], rfl⟩))))
theorem k_isAsOf {n k : Nat} {x : Int32} {C : St} {a : AS} (h : RC n C a) (hk : k < 6) : F_X5_isAsOf n (nI k) x C = some (if av a 23 k 0 = x ∧ ¬ av a 14 k 0 = 3 then 1 else 0, C) := by
  refine rn_eq ?_
  unfold F_X5_isAsOf
  rw [nI_clamp (by omega), rc_23 h hk, rc_14 h hk]
  refine rn_gd (inb_nI hk (by decide)) (rn_if (fun e => rn_if (fun e2 => rn_gd rfl (rn_ret ⟨by rw [if_neg (fun hh => hh.2 e2)], rfl⟩)) (fun e2 => rn_gd rfl (rn_ret ⟨by rw [if_pos ⟨e, e2⟩], rfl⟩))) (fun e => rn_gd rfl (rn_ret ⟨by rw [if_neg (fun hh => e hh.1)], rfl⟩)))
theorem k_onDrum {n k m : Nat} {C : St} {a : AS} (h : RC n C a) (hk : k < 6) (hm : m < 128) : F_X5_onDrum n (nI k) (nI m) C = some (av a 37 k m, C) := by
  refine rn_eq ?_
  unfold F_X5_onDrum
  rw [nI_clamp (by omega), nI_clamp (by omega)]
  exact rn_neg (nI_pos (by omega)) (rn_gd (inb_nI hk (by decide)) (rn_neg (nI_ge (b := 128) hm (by decide)) (rn_gd (inb_nI hm (by decide)) (rn_ret ⟨rc_37 h hk hm, rfl⟩))))
theorem k_putOnDrum {n k m : Nat} {x : Int32} {C : St} {a : AS} (h : RC n C a) (hk : k < 6) (hm : m < 128) : Rn (F_X5_putOnDrum n (nI k) (nI m) x C) (fun r D => r = 0 ∧ RC n D (sv 37 k m x a)) := by
  unfold F_X5_putOnDrum
  rw [nI_clamp (by omega), nI_clamp (by omega)]
  exact rn_neg (nI_pos (by omega)) (rn_gd (inb_nI hk (by decide)) (rn_neg (nI_ge (b := 128) hm (by decide)) (rn_gd (inb_nI hm (by decide)) (rn_st (rn_ret ⟨rfl, wc_37 h hk hm⟩)))))
theorem k_cause {n p : Nat} {C : St} {a : AS} (h : RC n C a) (hp : p < 10) : F_X7_causeOf n (nI p) C = some (av a 10 p 0, C) := by
  refine rn_eq ?_
  unfold F_X7_causeOf
  rw [nI_clamp (by omega)]
  exact rn_neg (nI_pos (by omega)) (rn_neg (nI_ge (b := 10) hp (by decide)) (rn_gd (inb_nI hp (by decide)) (rn_ret ⟨rc_10 h hp, rfl⟩)))
theorem k_num {n k : Nat} {C : St} {a : AS} (h : RC n C a) (hk : k < 6) : C 6 k 0 0 = nI k := h.2.2.1.1 k hk
theorem k_freeOf {n r : Nat} {x : Int32} {C : St} {a : AS} (h : RC n C a) (hr : r < 3) (hx : x = nI r) : F_X0_freeOf n x C = some (av a 28 r 0, C) := by
  subst hx
  refine rn_eq ?_
  unfold F_X0_freeOf
  rw [nI_clamp (by omega)]
  exact rn_neg (nI_pos (by omega)) (rn_neg (nI_ge (b := 3) hr (by decide)) (rn_gd (inb_nI hr (by decide)) (rn_ret ⟨rc_28 h hr, rfl⟩)))
def z_move (k r : Nat) (d : Int32) (a : AS) : AS := sv 27 k r (av a 27 k r + d) (sv 28 r 0 (av a 28 r 0 - d) a)
theorem k_move {n k r : Nat} {x d : Int32} {C : St} {a : AS} (h : RC n C a) (hk : k < 6) (hr : r < 3) (hx : x = nI r) : Rn (F_X0_move n (nI k) x d C) (fun r' D => r' = 0 ∧ RC n D (z_move k r d a)) := by
  subst hx
  unfold F_X0_move
  rw [nI_clamp (by omega), nI_clamp (by omega), rc_28 h hr]
  refine rn_neg (nI_pos (by omega)) (rn_neg (nI_ge (b := 3) hr (by decide)) (rn_gd (inb_nI hk (by decide)) (rn_neg (nI_ge (b := 3) hr (by decide)) (rn_gd (inb_nI hr (by decide)) (rn_st (rn_st (rn_ret ⟨rfl, ?_⟩)))))))
  have h2 : RC n (up C 20 0 0 r (av a 28 r 0 - d)) (sv 28 r 0 (av a 28 r 0 - d) a) := wc_28 h hr
  have e := rc_27 h2 hk hr
  rw [av_sv, if_neg (by simp)] at e
  rw [e]
  exact wc_27 h2 hk hr
def z_adm (a : AS) : Nat → Int32
  | 0 => 0
  | m + 1 => if av a 14 m 0 = 2 then z_adm a m + 1 else z_adm a m
theorem k_adm13 {n : Nat} {C : St} {a : AS} (h : RC n C a) : ∀ fu k, 6 < fu + k → k ≤ 6 → F_X0_admitted_13 n fu (z_adm a k) 6 (nI k) C = some (z_adm a 6, C) := by
  intro fu
  induction fu with
  | zero => intro k h1 h2; omega
  | succ fu ih =>
    intro k h1 h2
    refine rn_eq ?_
    unfold F_X0_admitted_13
    by_cases e : k = 6
    · subst e
      exact rn_pos (show (6 : Int32) ≤ nI 6 by decide) (rn_ret ⟨rfl, rfl⟩)
    · have hk : k < 6 := by omega
      rw [nI_clamp (by omega), rc_14 h hk]
      have key := ih (k + 1) (by omega) (by omega)
      rw [z_adm] at key
      refine rn_neg (nI_ge (b := 6) hk (by decide)) (rn_gd (inb_nI hk (by decide)) (rn_if (fun e2 => ?_) (fun e2 => ?_)))
      · rw [if_pos e2] at key
        show Rn (F_X0_admitted_13 n fu (z_adm a k + 1) 6 (nI k + 1) C) _
        rw [nI_1, key]
        exact rn_ret ⟨rfl, rfl⟩
      · rw [if_neg e2] at key
        show Rn (F_X0_admitted_13 n fu (z_adm a k) 6 (nI k + 1) C) _
        rw [nI_1, key]
        exact rn_ret ⟨rfl, rfl⟩
theorem k_adm {n : Nat} {C : St} {a : AS} (h : RC n C a) : F_X0_admitted n C = some (z_adm a 6, C) := k_adm13 h 1000 0 (by omega) (by omega)
def z_ph (a : AS) (k : Nat) : Bool := decide (av a 14 k 0 = 2) && !decide (av a 27 k 1 ≤ 0)
def z_hold (a : AS) : Option Nat := (List.range 6).find? (z_ph a)
theorem k_hold10 {n : Nat} {C : St} {a : AS} (h : RC n C a) : ∀ fu k, 6 < fu + k → k ≤ 6 → (∀ g, g < k → z_ph a g = false) → F_X0_holderOfPrinter_10 n fu 6 (nI k) C = some (oI (z_hold a), C) := by
  intro fu
  induction fu with
  | zero => intro k h1 h2; omega
  | succ fu ih =>
    intro k h1 h2 h3
    refine rn_eq ?_
    unfold F_X0_holderOfPrinter_10
    by_cases e : k = 6
    · subst e
      have : z_hold a = none := by
        unfold z_hold
        rw [List.find?_range_eq_none]
        intro i hi
        rw [h3 i hi]; rfl
      rw [this]
      exact rn_pos (show (6 : Int32) ≤ nI 6 by decide) (rn_ret ⟨rfl, rfl⟩)
    · have hk : k < 6 := by omega
      rw [nI_clamp (by omega), rc_14 h hk]
      have key := fun (hz : z_ph a k = false) => ih (k + 1) (by omega) (by omega) (fun g hg => by
        by_cases eg : g = k
        · subst eg; exact hz
        · exact h3 g (by omega))
      refine rn_neg (nI_ge (b := 6) hk (by decide)) (rn_gd (inb_nI hk (by decide)) (rn_if (fun e2 => rn_bdE (k_held h hk (r := 1) (by decide) rfl) (rn_if (fun e3 => ?_) (fun e3 => ?_))) (fun e2 => ?_)))
      · show Rn (F_X0_holderOfPrinter_10 n fu 6 (nI k + 1) C) _
        rw [nI_1, key (by unfold z_ph; simp [e3])]
        exact rn_ret ⟨rfl, rfl⟩
      · have : z_hold a = some k := by
          unfold z_hold
          rw [List.find?_range_eq_some]
          exact ⟨by unfold z_ph; simp [e2, e3], List.mem_range.mpr hk, fun j hj => by rw [h3 j hj]; rfl⟩
        rw [this]
        exact rn_ret ⟨rfl, rfl⟩
      · show Rn (F_X0_holderOfPrinter_10 n fu 6 (nI k + 1) C) _
        rw [nI_1, key (by unfold z_ph; simp [e2])]
        exact rn_ret ⟨rfl, rfl⟩
theorem k_hold {n : Nat} {C : St} {a : AS} (h : RC n C a) : F_X0_holderOfPrinter n C = some (oI (z_hold a), C) := k_hold10 h 1000 0 (by omega) (by omega) (fun g hg => absurd hg (Nat.not_lt_zero g))
def z_gab (m k : Nat) (a : AS) : AS := (fun g b c => if g = 28 ∧ c = 0 ∧ b < m then a.1 28 b 0 + a.1 27 k b else a.1 g b c, a.2)
theorem av_gab (m k : Nat) (a : AS) (g b c : Nat) : av (z_gab m k a) g b c = if g = 28 ∧ c = 0 ∧ b < m then av a 28 b 0 + av a 27 k b else av a g b c := rfl
theorem k_gab2 {n k : Nat} {a : AS} (hk : k < 6) : ∀ fu r D, 3 < fu + r → r ≤ 3 → RC n D (z_gab r k a) → Rn (F_X0_giveAllBack_2 n fu (nI k) (nI r) D) (fun r' E => r' = 0 ∧ RC n E (z_gab 3 k a)) := by
  intro fu
  induction fu with
  | zero => intro r D h1 h2; omega
  | succ fu ih =>
    intro r D h1 h2 h
    unfold F_X0_giveAllBack_2
    by_cases e : r = 3
    · subst e
      exact rn_pos (show (3 : Int32) ≤ nI 3 by decide) (rn_ret ⟨rfl, h⟩)
    · have hr : r < 3 := by omega
      refine rn_neg (nI_ge (b := 3) hr (by decide)) (rn_neg (nI_ge (b := 3) hr (by decide)) (rn_gd (inb_nI hr (by decide)) (rn_gd (inb_nI hk (by decide)) ?_)))
      refine rn_bdE (k_held h hk hr rfl) ?_
      rw [nI_clamp (by omega), nI_1, rc_28 h hr, av_gab, if_neg (by omega), av_gab, if_neg (by simp)]
      refine rn_st (ih (r + 1) _ (by omega) (by omega) ?_)
      have h2 := wc_28 (x := av a 28 r 0 + av a 27 k r) h hr
      have e3 : sv 28 r 0 (av a 28 r 0 + av a 27 k r) (z_gab r k a) = z_gab (r + 1) k a := by
        refine as_ext (fun g b c => ?_) (fun q => rfl)
        rw [av_sv, av_gab, av_gab]
        by_cases c1 : g = 28 ∧ b = r ∧ c = 0
        · obtain ⟨rfl, rfl, rfl⟩ := c1
          rw [if_pos ⟨rfl, rfl, rfl⟩, if_pos ⟨rfl, rfl, by omega⟩]
        · rw [if_neg c1]
          by_cases c2 : g = 28 ∧ c = 0 ∧ b < r
          · rw [if_pos c2, if_pos ⟨c2.1, c2.2.1, by omega⟩]
          · rw [if_neg c2, if_neg]
            rintro ⟨d1, d2, d3⟩
            by_cases d5 : b = r
            · exact c1 ⟨d1, d5, d2⟩
            · exact c2 ⟨d1, d2, by omega⟩
      rw [← e3]
      exact h2
theorem k_gab {n k : Nat} {C : St} {a : AS} (h : RC n C a) (hk : k < 6) : Rn (F_X0_giveAllBack n (nI k) C) (fun r E => r = 0 ∧ RC n E (z_gab 3 k a)) := by
  refine k_gab2 hk 1000 0 _ (by omega) (by omega) ?_
  have : z_gab 0 k a = a := as_ext (fun g b c => by rw [av_gab, if_neg (by simp)]) (fun q => rfl)
  rw [this]
  exact h
