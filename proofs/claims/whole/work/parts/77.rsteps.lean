/-! The reference: the steps of segments, reader, printer -/
/-- what the step of process p, 6 to 9, wants -/
def MS (p : Nat) (a : AS) : Prop := (∃ t, al a 0 = p :: t) ∧ (al a 0).Nodup ∧ (∀ q ∈ al a 0, q < 10) ∧ sg a p = -1
theorem m_pO {n s p : Nat} {nx x1 x2 : Int32} {R : St} {a : AS} (hx1 : x1 = nI p) (hx2 : x2 = nI s) (h : RR n none (up R 112 0 0 p nx) a) (hs : s < 7) (hp : p = pr s) (hM : MS p a) : Rn (F_X12_waitFor x1 x2 nx R) (fun r D => r = 0 ∧ RRo n p D (z_p s a)) := by
  obtain ⟨⟨t, h1⟩, h2, h3, h4⟩ := hM
  refine rn_mono (m_p hx1 hx2 h hs hp h1 h2 h4) ?_
  rintro r D ⟨e, hD⟩
  refine ⟨e, ?_⟩
  unfold z_ph2 at hD
  by_cases c : av a 13 s 0 ≤ 0
  · rw [if_pos c] at hD
    rw [← hp] at hD
    refine Or.inr ⟨hD, ?_⟩
    rw [al_p, if_pos c, if_pos rfl, ← hp, h1, er_hd]
    rw [h1] at h2
    exact (List.nodup_cons.mp h2).1
  · rw [if_neg c] at hD
    refine Or.inl ⟨hD, ?_⟩
    rw [al_p, if_neg c, h1]
    rfl
theorem best_ext {a b : AS} (e : ∀ g i j, av b g i j = av a g i j) : ∀ m, z_best b m = z_best a m := by
  intro m
  induction m with
  | zero => rfl
  | succ m ih => simp only [z_best, ih, e]
theorem choose_ext {n : Nat} {a b : AS} (e : ∀ g i j, av b g i j = av a g i j) : z_choose n b = z_choose n a := by
  unfold z_choose
  simp only [e, best_ext e]
theorem sg_eq {a b : AS} (e : ∀ s, av b 71 s 0 = av a 71 s 0) (p : Nat) : sg b p = sg a p := by
  unfold sg
  simp only [e]
theorem MS_eq {p : Nat} {a b : AS} (h : MS p a) (e : ∀ s, av b 71 s 0 = av a 71 s 0) (el : al b 0 = al a 0) : MS p b := by
  unfold MS
  rw [el, sg_eq e]
  exact h
theorem m_seg32 {R : St} {m : Nat} {Q : Int32 → St → Prop} (hm : m ≤ 6)
    (hK : ∀ D, D 50 0 60 0 = nI m → (∀ t, D 156 0 0 t = if t + 1 < m then R 156 0 0 (t + 1) else R 156 0 0 t) → (∀ t, D 157 0 0 t = if t + 1 < m then R 157 0 0 (t + 1) else R 157 0 0 t) → (∀ q b k c, q ≠ 156 → q ≠ 157 → D q b k c = R q b k c) → Rn (st (up D 50 0 60 0 ((D 50 0 60 0) - (1 : Int32))) (fun D2 => bd2 (F_X12_choose  D2) (fun r4 D5 => st (up D5 50 0 46 0 r4) (fun D7 => gd (inb (D7 50 0 46 0) 12) (st (up D7 50 0 49 0 (D7 139 0 0 (D7 50 0 46 0).toNatClampNeg)) (fun D10 => gd (inb (D10 50 0 46 0) 12) (st (up D10 50 0 50 0 (D10 140 0 0 (D10 50 0 46 0).toNatClampNeg)) (fun D13 => if (D13 50 0 49 0) < 0 then (F_X12_segmentsStep_141  D13) else (gd (inb (D13 50 0 46 0) 12) (if (D13 142 0 0 (D13 50 0 46 0).toNatClampNeg) = 0 then (F_X12_segmentsStep_141  D13) else (F_X12_segmentsStep_142 (1 : Int32) D13))))))))))) Q) :
    ∀ fu j D, m < fu + j → 0 < j → j ≤ m → D 50 0 60 0 = nI m → (∀ t, D 156 0 0 t = if t + 1 < j then R 156 0 0 (t + 1) else R 156 0 0 t) → (∀ t, D 157 0 0 t = if t + 1 < j then R 157 0 0 (t + 1) else R 157 0 0 t) → (∀ q b k c, q ≠ 156 → q ≠ 157 → D q b k c = R q b k c) → Rn (F_X12_segmentsStep_32 fu (nI j) D) Q := by
  intro fu
  induction fu with
  | zero => intro j D h1 h2 h3; omega
  | succ fu ih =>
    intro j D h1 h2 h3 hs hv hw he
    unfold F_X12_segmentsStep_32
    by_cases e : j = m
    · subst e
      refine rn_pos (by rw [hs]; exact nI_le (Nat.le_refl _) (by omega)) ?_
      exact hK D hs hv hw he
    · obtain ⟨j', rfl⟩ : ∃ j', j = j' + 1 := ⟨j - 1, by omega⟩
      refine rn_neg (by rw [hs]; exact nI_ge (by omega) (by omega)) ?_
      rw [nI_pred, nI_clamp (by omega), nI_clamp (by omega), nI_1]
      refine rn_gd (inb_nI (by omega) (by decide)) (rn_gd (inb_nI (by omega) (by decide)) (rn_st (rn_st (ih (j' + 1 + 1) _ (by omega) (by omega) (by omega) ?_ ?_ ?_ ?_))))
      · rw [up_at, if_neg (by simp), up_at, if_neg (by simp), hs]
      · intro t
        rw [up_at, if_neg (by simp), up_at]
        by_cases et : t = j'
        · subst et
          rw [if_pos ⟨rfl, rfl, rfl, rfl⟩, if_pos (by omega), hv, if_neg (by omega)]
        · rw [if_neg (by simp [et]), hv]
          by_cases e1 : t + 1 < j' + 1
          · rw [if_pos e1, if_pos (by omega)]
          · rw [if_neg e1, if_neg (by omega)]
      · intro t
        rw [up_at]
        by_cases et : t = j'
        · subst et
          rw [if_pos ⟨rfl, rfl, rfl, rfl⟩, if_pos (by omega), up_at, if_neg (by simp), hw, if_neg (by omega)]
        · rw [if_neg (by simp [et]), up_at, if_neg (by simp), hw]
          by_cases e1 : t + 1 < j' + 1
          · rw [if_pos e1, if_pos (by omega)]
          · rw [if_neg e1, if_neg (by omega)]
      · intro q b k c h4 h5
        rw [up_at, if_neg (fun h => h5 h.1), up_at, if_neg (fun h => h4 h.1)]
        exact he q b k c h4 h5
theorem bring_eq (f k : Nat) (a : AS) : z_bring f k a = sv 47 0 0 (-1) (sv 46 0 0 (-1) (sv 12 0 0 0 (z_wake k (sv 44 0 0 (av a 44 0 0 + 1) (z_occupy f k (av a 29 k 0) (av a 5 0 0) a))))) := by
  refine as_ext (fun g b c => ?_) (fun q => ?_)
  · unfold z_bring z_occupy
    simp only [av_sv, av_wake]
    by_cases c12 : g = 12
    · subst c12
      simp
    · simp [c12]
  · unfold z_bring z_occupy
    simp only [al_sv, al_wake]
    rfl
/-- what the reference wants of the segments' process -/
def MG (n : Nat) (a : AS) : Prop := (av a 12 0 0 = 0 ∨ av a 12 0 0 = 1 ∨ av a 12 0 0 = 2) ∧ (av a 12 0 0 = 0 → ∃ f k t, f < n ∧ k < 6 ∧ z_choose n a = some f ∧ al a 1 = k :: t ∧ t.length < 6) ∧ (av a 12 0 0 = 2 → ∃ f k, f < n ∧ k < 6 ∧ av a 46 0 0 = nI f ∧ av a 47 0 0 = nI k ∧ k ∉ al a 0) ∧ ¬ (av a 12 0 0 = 2 ∧ av a 45 0 0 = 1) ∧ ∀ f, f < n → vJ (av a 39 f 0)
theorem m_segs {n : Nat} {R : St} {a : AS} (h : RR n none R a) (hn : n ≤ 12) (hM : MS 6 a) (hG : MG n a) : Rn (F_X12_segmentsStep R) (fun r D => r = 0 ∧ RRo n 6 D (z_segs n a)) := by
  obtain ⟨q0, q1, q2, q3, q4⟩ := hG
  have e112 : R 112 0 0 6 = av a 12 0 0 := h.2.2.2.2.1.1
  have e6 : (6 : Int32).toNatClampNeg = 6 := rfl
  have e0 : (0 : Int32).toNatClampNeg = 0 := rfl
  unfold F_X12_segmentsStep z_segs
  rw [e6, e0, e112]
  refine rn_gd rfl (rn_if (fun e => ?_) (fun e => rn_if (fun e1 => ?_) (fun e1 => ?_)))
  · obtain ⟨f, k, t, hf, hk, hc, hl, ht⟩ := q1 e
    rw [if_neg (by rw [e]; decide), if_neg (by rw [e]; decide), hc, hl]
    have a156 : R 156 0 0 0 = nI k := h.2.2.2.2.2.2.2.1.1.2 0 k (by rw [hl]; rfl)
    have a157 : R 157 0 0 0 = av a 29 k 0 := h.2.2.2.2.2.2.2.1.2 0 k (by rw [hl]; rfl)
    have a60 : R 50 0 60 0 = nI (t.length + 1) := by
      have := h.2.2.2.2.2.2.2.1.1.1
      rw [hl] at this
      exact this
    rw [a156]
    refine rn_gd rfl (rn_st (rn_st ?_))
    have b157 : up R 50 0 47 0 (nI k) 157 0 0 0 = av a 29 k 0 := by rw [up_at, if_neg (by simp), a157]
    rw [b157]
    refine m_seg32 (m := t.length + 1) (R := up (up R 50 0 47 0 (nI k)) 50 0 48 0 (av a 29 k 0)) (by omega) ?_ 1000 1 _ (by omega) (by omega) (by omega) (by rw [up_at, if_neg (by simp), up_at, if_neg (by simp), a60]) (fun t => by rw [if_neg (by omega)]) (fun t => by rw [if_neg (by omega)]) (fun _ _ _ _ _ _ => rfl)
    intro D d60 d156 d157 dd
    rw [d60, nI_pred]
    refine rn_st ?_
    have hD : RR n none (up D 50 0 60 0 (nI t.length)) (sl 1 t a) := by
      refine wr_pop1 h hl e ?_ (fun i hi => ?_) (fun i hi => ?_) (fun q b kk c x1 x2 x3 x4 x5 => ?_)
      · rw [up_at, if_pos ⟨rfl, rfl, rfl, rfl⟩]
      · rw [up_at, if_neg (by simp), d156, if_pos (by omega), up_at, if_neg (by simp), up_at, if_neg (by simp)]
      · rw [up_at, if_neg (by simp), d157, if_pos (by omega), up_at, if_neg (by simp), up_at, if_neg (by simp)]
      · rw [up_at, if_neg (fun y => x3 ⟨y.1, y.2.2.1⟩), dd q b kk c (fun y => x1 ⟨y, trivial⟩) (fun y => x2 ⟨y, trivial⟩), up_at, if_neg (fun y => x5 ⟨y.1, y.2.2.1⟩), up_at, if_neg (fun y => x4 ⟨y.1, y.2.2.1⟩)]
    have d47 : up D 50 0 60 0 (nI t.length) 50 0 47 0 = nI k := by
      rw [up_at, if_neg (by simp), dd _ _ _ _ (by decide) (by decide), up_at, if_neg (by simp), up_at, if_pos ⟨rfl, rfl, rfl, rfl⟩]
    have d48 : up D 50 0 60 0 (nI t.length) 50 0 48 0 = av (sl 1 t a) 29 k 0 := by
      rw [up_at, if_neg (by simp), dd _ _ _ _ (by decide) (by decide), up_at, if_pos ⟨rfl, rfl, rfl, rfl⟩, av_sl]
    generalize up D 50 0 60 0 (nI t.length) = E at hD d47 d48
    have hof : oI (some f) = nI f := rfl
    refine rn_bdE (m_choose hD hn q4) ?_
    rw [choose_ext (n := n) (a := a) (b := sl 1 t a) (fun g i j => rfl), hc, hof]
    refine rn_st ?_
    have s46 : ∀ X : St, up X 50 0 46 0 (nI f) 50 0 46 0 = nI f := fun X => by rw [up_at, if_pos ⟨rfl, rfl, rfl, rfl⟩]
    have ecf : (nI f).toNatClampNeg = f := nI_clamp (by omega)
    have gf := inb_nI (show f < 12 by omega) (show 12 < 2 ^ 31 by decide)
    have v39 : up E 50 0 46 0 (nI f) 139 0 0 f = av (sl 1 t a) 39 f 0 := by rw [up_at, if_neg (by simp), rr_39 hD hf]
    rw [s46, ecf, v39]
    refine rn_gd gf (rn_st ?_)
    have r46 : ∀ y, up (up E 50 0 46 0 (nI f)) 50 0 49 0 y 50 0 46 0 = nI f := fun y => by rw [up_at, if_neg (by simp), s46]
    have v40 : ∀ y, up (up E 50 0 46 0 (nI f)) 50 0 49 0 y 140 0 0 f = av (sl 1 t a) 40 f 0 := fun y => by rw [up_at, if_neg (by simp), up_at, if_neg (by simp), rr_40 hD hf]
    rw [r46, ecf, v40]
    refine rn_gd gf (rn_st ?_)
    have r49 : ∀ y z, up (up (up E 50 0 46 0 (nI f)) 50 0 49 0 y) 50 0 50 0 z 50 0 49 0 = y := fun y z => by rw [up_at, if_neg (by simp), up_at, if_pos ⟨rfl, rfl, rfl, rfl⟩]
    have s46' : ∀ y z, up (up (up E 50 0 46 0 (nI f)) 50 0 49 0 y) 50 0 50 0 z 50 0 46 0 = nI f := fun y z => by rw [up_at, if_neg (by simp), r46]
    have v142 : ∀ y z, up (up (up E 50 0 46 0 (nI f)) 50 0 49 0 y) 50 0 50 0 z 142 0 0 f = E 142 0 0 f := fun y z => by rw [up_at, if_neg (by simp), up_at, if_neg (by simp), up_at, if_neg (by simp)]
    have v123 : ∀ y z j, up (up (up E 50 0 46 0 (nI f)) 50 0 49 0 y) 50 0 50 0 z 123 0 0 j = E 123 0 0 j := fun y z j => by rw [up_at, if_neg (by simp), up_at, if_neg (by simp), up_at, if_neg (by simp)]
    unfold F_X12_segmentsStep_141 F_X12_segmentsStep_142 F_X12_segmentsStep_161 F_X12_segmentsStep_185 F_X12_segmentsStep_314
    have tail : ∀ (d y z x : Int32) (b : AS), RR n none (up (up (up (up (up (up (up E 50 0 46 0 (nI f)) 50 0 49 0 y) 50 0 50 0 z) 50 0 51 0 x) 139 0 0 f (-2)) 50 0 45 0 d) 112 0 0 6 d) b → MS 6 b → Rn (st (up (up (up (up (up (up E 50 0 46 0 (nI f)) 50 0 49 0 y) 50 0 50 0 z) 50 0 51 0 x) 139 0 0 f (-2)) 50 0 45 0 d) (fun D1 => bd2 (F_X12_waitFor (6 : Int32) (1 : Int32) (D1 50 0 45 0) D1) (fun r3 D4 => some (0, D4)))) (fun r D => r = 0 ∧ RRo n 6 D (z_p 1 b)) := by
      intro d y z x b hb hMb
      refine rn_st ?_
      have e45 : ∀ X : St, up X 50 0 45 0 d 50 0 45 0 = d := fun X => by rw [up_at, if_pos ⟨rfl, rfl, rfl, rfl⟩]
      rw [e45]
      refine rn_bd (m_pO (s := 1) (p := 6) rfl rfl hb (by decide) rfl hMb) ?_
      rintro _ G ⟨-, hG⟩
      exact rn_ret ⟨rfl, hG⟩
    have t46 : ∀ y z x, up (up (up (up E 50 0 46 0 (nI f)) 50 0 49 0 y) 50 0 50 0 z) 50 0 51 0 x 50 0 46 0 = nI f := fun y z x => by rw [up_at, if_neg (by simp), s46']
    have two : (av a 39 f 0 < 0 ∨ av a 42 f 0 = 0) → Rn (if (0 : Int32) = 0 then (st (up (up (up (up E 50 0 46 0 (nI f)) 50 0 49 0 (av (sl 1 t a) 39 f 0)) 50 0 50 0 (av (sl 1 t a) 40 f 0)) 50 0 51 0 0) (fun D1 => gd (inb (D1 50 0 46 0) 12) (st (up D1 139 0 0 (D1 50 0 46 0).toNatClampNeg (-2 : Int32)) (fun D4 => if (0 : Int32) = 0 then (st (up D4 50 0 45 0 (2 : Int32)) (fun D1 => bd2 (F_X12_waitFor (6 : Int32) (1 : Int32) (D1 50 0 45 0) D1) (fun r3 D4 => some (0, D4)))) else (st (up D4 50 0 45 0 (1 : Int32)) (fun D1 => bd2 (F_X12_waitFor (6 : Int32) (1 : Int32) (D1 50 0 45 0) D1) (fun r3 D4 => some (0, D4)))))))) else (gd (inb (up (up (up E 50 0 46 0 (nI f)) 50 0 49 0 (av (sl 1 t a) 39 f 0)) 50 0 50 0 (av (sl 1 t a) 40 f 0) 50 0 49 0) 6) (st (up (up (up (up E 50 0 46 0 (nI f)) 50 0 49 0 (av (sl 1 t a) 39 f 0)) 50 0 50 0 (av (sl 1 t a) 40 f 0)) 50 0 51 0 (up (up (up E 50 0 46 0 (nI f)) 50 0 49 0 (av (sl 1 t a) 39 f 0)) 50 0 50 0 (av (sl 1 t a) 40 f 0) 123 0 0 (up (up (up E 50 0 46 0 (nI f)) 50 0 49 0 (av (sl 1 t a) 39 f 0)) 50 0 50 0 (av (sl 1 t a) 40 f 0) 50 0 49 0).toNatClampNeg)) (fun D1 => gd (inb (D1 50 0 46 0) 12) (st (up D1 139 0 0 (D1 50 0 46 0).toNatClampNeg (-2 : Int32)) (fun D4 => if (0 : Int32) = 0 then (st (up D4 50 0 45 0 (2 : Int32)) (fun D1 => bd2 (F_X12_waitFor (6 : Int32) (1 : Int32) (D1 50 0 45 0) D1) (fun r3 D4 => some (0, D4)))) else (st (up D4 50 0 45 0 (1 : Int32)) (fun D1 => bd2 (F_X12_waitFor (6 : Int32) (1 : Int32) (D1 50 0 45 0) D1) (fun r3 D4 => some (0, D4))))))))) ) (fun r D => r = 0 ∧ RRo n 6 D (z_p 1 (z_take f k t a))) := by
      intro hor
      have ez : z_take f k t a = z_begin 2 (sv 39 f 0 (-2) (z_vacate f (sv 46 0 0 (nI f) (sv 47 0 0 (nI k) (sl 1 t a))))) := by
        unfold z_take
        rw [if_pos hor]
      rw [ez]
      refine rn_pos rfl (rn_st ?_)
      rw [t46, ecf]
      refine rn_gd gf (rn_st (rn_pos rfl ?_))
      exact tail 2 _ _ _ _ (wr_take2 hD hf hk d47 d48) (MS_eq hM (fun s => by unfold z_begin z_vacate; simp [av_sv, av_sl]) rfl)
    rw [r49, s46', ecf, v142]
    by_cases c1 : av a 39 f 0 < 0
    · refine rn_pos c1 ?_
      have := two (Or.inl c1)
      rw [r49] at this
      exact this
    · have nn : ¬ av (sl 1 t a) 39 f 0 < 0 := c1
      refine rn_neg nn (rn_gd gf ?_)
      have e142 : E 142 0 0 f = av a 42 f 0 := (hD.2.2.2.2.2.2.2.2.2.1 f hf nn).1
      rw [e142]
      refine rn_if (fun c2 => ?_) (fun c2 => ?_)
      · have := two (Or.inr c2)
        rw [r49] at this
        exact this
      · obtain ⟨j, hj, ej⟩ : ∃ j, j < 6 ∧ av a 39 f 0 = nI j := by
          rcases q4 f hf with h5 | h5 | h5
          · rw [h5] at c1; exact absurd (by decide) c1
          · rw [h5] at c1; exact absurd (by decide) c1
          · exact h5
        have ej2 : av (sl 1 t a) 39 f 0 = nI j := ej
        have ez : z_take f k t a = z_begin 1 (sv 39 f 0 (-2) (z_vacate f (sv 50 0 0 (av (sl 1 t a) 40 f 0) (sv 51 0 0 (av a 23 j 0) (sv 49 0 0 (av (sl 1 t a) 39 f 0) (sv 46 0 0 (nI f) (sv 47 0 0 (nI k) (sl 1 t a)))))))) := by
          unfold z_take
          rw [if_neg (fun o => o.elim c1 c2), ej, show (nI j).toNatClampNeg = j from nI_clamp (by omega)]
          rw [ej2]
          rfl
        show Rn _ (fun r D => r = 0 ∧ RRo n 6 D (z_p 1 (z_take f k t a)))
        rw [ez]
        refine rn_neg (by decide) ?_
        rw [ej2, show (nI j).toNatClampNeg = j from nI_clamp (by omega), v123, rr_23 hD hj]
        refine rn_gd (inb_nI hj (by decide)) (rn_st ?_)
        rw [t46, ecf]
        refine rn_gd gf (rn_st (rn_neg (by decide) ?_))
        have hw := wr_take1 (x := av a 23 j 0) hD hf hk d47 d48
        rw [ej2] at hw
        exact tail 1 _ _ _ _ hw (MS_eq hM (fun s => by unfold z_begin z_vacate; simp [av_sv, av_sl]) rfl)
  · rw [if_pos e1]
    refine rn_st (rn_bd (m_pO (s := 1) (p := 6) rfl rfl (wr_begin2 h e) (by decide) rfl (MS_eq hM (fun s => by unfold z_begin; simp [av_sv]) rfl)) ?_)
    rintro _ G ⟨-, hG⟩
    exact rn_ret ⟨rfl, hG⟩
  · have e2 : av a 12 0 0 = 2 := (q0.resolve_left e).resolve_left e1
    rw [if_neg e1, if_pos e2]
    obtain ⟨f, k, hf, hk, e46, e47, hka⟩ := q2 e2
    obtain ⟨m1, m2, m3⟩ := h.2.2.2.2.2.2.2.2.2.2.1.1 e
    have ecf : (nI f).toNatClampNeg = f := nI_clamp (by omega)
    have eck : (nI k).toNatClampNeg = k := nI_clamp (by omega)
    rw [e46] at m1
    rw [e47] at m2 m3
    rw [eck] at m3
    have gf := inb_nI (show f < 12 by omega) (show 12 < 2 ^ 31 by decide)
    have hO := wr_occ (k := k) (s := av a 29 k 0) (tk := av a 5 0 0) h hf
    have h44 := wr_44 (x := av a 44 0 0 + 1) hO
    have k46 : ∀ X : St, X 50 0 46 0 = nI f → ∀ y, up X 139 0 0 f y 50 0 46 0 = nI f ∧ up X 140 0 0 f y 50 0 46 0 = nI f ∧ up X 142 0 0 f y 50 0 46 0 = nI f ∧ up X 143 0 0 f y 50 0 46 0 = nI f := fun X hX y => ⟨by rw [up_at, if_neg (by simp), hX], by rw [up_at, if_neg (by simp), hX], by rw [up_at, if_neg (by simp), hX], by rw [up_at, if_neg (by simp), hX]⟩
    rw [m1, m2, ecf]
    refine rn_gd gf (rn_st ?_)
    have x1 := (k46 R m1 (nI k)).1
    have x48 : up R 139 0 0 f (nI k) 50 0 48 0 = av a 29 k 0 := by rw [up_at, if_neg (by simp), m3]
    rw [x1, ecf, x48]
    refine rn_gd gf (rn_st ?_)
    have x2 := (k46 _ x1 (av a 29 k 0)).2.1
    rw [x2, ecf]
    refine rn_gd gf (rn_st ?_)
    have x3 := (k46 _ x2 0).2.2.1
    rw [x3, ecf]
    refine rn_gd gf (rn_st ?_)
    have x4 := (k46 _ x3 1).2.2.2
    have x5 : up (up (up (up R 139 0 0 f (nI k)) 140 0 0 f (av a 29 k 0)) 142 0 0 f 0) 143 0 0 f 1 50 0 5 0 = av a 5 0 0 := by
      rw [up_at, if_neg (by simp), up_at, if_neg (by simp), up_at, if_neg (by simp), up_at, if_neg (by simp), rr_5 h]
    rw [x4, ecf, x5]
    refine rn_gd gf (rn_st ?_)
    have x44 : up (up (up (up (up R 139 0 0 f (nI k)) 140 0 0 f (av a 29 k 0)) 142 0 0 f 0) 143 0 0 f 1) 141 0 0 f (av a 5 0 0) 50 0 44 0 = av a 44 0 0 := by
      rw [rr_44 hO, vo_occ (by decide) (by decide) (by decide) (by decide) (by decide)]
    rw [x44]
    refine rn_st ?_
    have x47 : up (up (up (up (up (up R 139 0 0 f (nI k)) 140 0 0 f (av a 29 k 0)) 142 0 0 f 0) 143 0 0 f 1) 141 0 0 f (av a 5 0 0)) 50 0 44 0 (av a 44 0 0 + 1) 50 0 47 0 = nI k := by
      rw [up_at, if_neg (by simp), up_at, if_neg (by simp), up_at, if_neg (by simp), up_at, if_neg (by simp), up_at, if_neg (by simp), up_at, if_neg (by simp), m2]
    rw [x47]
    refine rn_bd (m_wakeJ (hd := none) h44 hk hM.2.1 hM.2.2.1 hka) ?_
    rintro _ G ⟨-, hG⟩
    have h45 : ¬ av (z_wake k (sv 44 0 0 (av a 44 0 0 + 1) (z_occupy f k (av a 29 k 0) (av a 5 0 0) a))) 45 0 0 = 1 := by
      rw [vo_wake (by decide), av_o (by decide), vo_occ (by decide) (by decide) (by decide) (by decide) (by decide)]
      exact fun y => q3 ⟨e2, y⟩
    have hU := wr_unst hG h45
    rw [← bring_eq] at hU
    obtain ⟨⟨t, hl⟩, hn2, hb2, hs2⟩ := hM
    have el : al (z_bring f k a) 0 = al a 0 ++ [k] := by
      rw [bring_eq]
      show al (z_wake k (sv 44 0 0 (av a 44 0 0 + 1) (z_occupy f k (av a 29 k 0) (av a 5 0 0) a))) 0 = _
      rw [al_wake, if_pos rfl]
      show (if k ∈ al a 0 then _ else _) = _
      rw [if_neg hka]
      rfl
    have hMb : MS 6 (z_bring f k a) := by
      refine ⟨⟨t ++ [k], by rw [el, hl]; rfl⟩, ?_, fun q hq => ?_, ?_⟩
      · rw [el, List.nodup_append]
        refine ⟨hn2, by simp, fun x hx y hy => ?_⟩
        rw [List.mem_singleton] at hy
        subst hy
        exact fun e => hka (e ▸ hx)
      · rw [el] at hq
        rcases List.mem_append.mp hq with hq | hq
        · exact hb2 q hq
        · rw [List.mem_singleton] at hq; omega
      · rw [sg_eq (a := a) (fun s => ?_)]
        · exact hs2
        · rw [bring_eq, av_o (by decide), av_o (by decide), av_o (by decide), vo_wake (by decide), av_o (by decide), vo_occ (by decide) (by decide) (by decide) (by decide) (by decide)]
    rw [e46, e47, ecf, eck]
    refine rn_bd (m_pO (s := 0) (p := 6) rfl rfl hU (by decide) rfl hMb) ?_
    rintro _ J ⟨-, hJ⟩
    exact rn_ret ⟨rfl, hJ⟩
