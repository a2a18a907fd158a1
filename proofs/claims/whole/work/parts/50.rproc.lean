/-! The reference: processes and signals -/
theorem RRy_eq {n : Nat} {R D : St} {a a' : AS} (h : RRy n R a) (e : ∀ q b k c, (q = 50 ∧ k ∈ [0, 46, 47, 48, 49, 50, 51, 54, 55, 60, 61, 62]) ∨ q ∈ [112, 115, 116, 129, 142, 143, 156, 157, 158, 159] → D q b k c = R q b k c)
    (ea : ∀ g b c, g ∈ [12, 54, 55, 14, 16, 29, 39, 42, 43, 46, 47, 45, 49, 50, 51] → av a' g b c = av a g b c) (el1 : al a' 1 = al a 1) (el2 : al a' 2 = al a 2) (el3 : al a' 3 = al a 3) : RRy n D a' := by
  obtain ⟨g4, g5, g6, g7, g8, g9, g10, g11, g12⟩ := h
  refine ⟨?_, ?_, ?_, ?_, ?_, ?_, ?_, ?_, ?_⟩
  · rw [e 50 0 0 0 (by decide)]; exact g4
  · refine ⟨?_, ?_, ?_⟩
    · rw [e 112 0 0 6 (by decide), ea 12 _ _ (by decide)]; exact g5.1
    · rw [e 112 0 0 7 (by decide), ea 54 _ _ (by decide)]; exact g5.2.1
    · rw [e 112 0 0 8 (by decide), ea 55 _ _ (by decide)]; exact g5.2.2
  · intro k hk
    rw [e 116 0 0 k (by simp), e 115 0 0 k (by simp), ea 14 _ _ (by decide), ea 16 _ _ (by decide)]
    exact g6 k hk
  · refine ⟨⟨?_, fun b p hb => ?_⟩, fun k hk => ?_⟩
    · rw [e 50 0 62 0 (by decide), el2]; exact g7.1.1
    · rw [el2] at hb; rw [e 159 0 0 b (by simp)]; exact g7.1.2 b p hb
    · rw [el2] at hk; rw [e 129 0 0 k (by simp), ea 29 _ _ (by decide)]; exact g7.2 k hk
  · refine ⟨⟨?_, fun b p hb => ?_⟩, fun b p hb => ?_⟩
    · rw [e 50 0 60 0 (by decide), el1]; exact g8.1.1
    · rw [el1] at hb; rw [e 156 0 0 b (by simp)]; exact g8.1.2 b p hb
    · rw [el1] at hb; rw [e 157 0 0 b (by simp), ea 29 _ _ (by decide)]; exact g8.2 b p hb
  · refine ⟨?_, fun b p hb => ?_⟩
    · rw [e 50 0 61 0 (by decide), el3]; exact g9.1
    · rw [el3] at hb; rw [e 158 0 0 b (by simp)]; exact g9.2 b p hb
  · intro b hb hn
    rw [ea 39 _ _ (by decide)] at hn
    rw [e 142 0 0 b (by simp), e 143 0 0 b (by simp), ea 42 _ _ (by decide), ea 43 _ _ (by decide)]
    exact g10 b hb hn
  · refine ⟨fun hb => ?_, fun hb => ?_⟩
    · rw [ea 12 _ _ (by decide)] at hb
      rw [e 50 0 46 0 (by decide), e 50 0 47 0 (by decide), e 50 0 48 0 (by decide), ea 46 _ _ (by decide), ea 47 _ _ (by decide), ea 29 _ _ (by decide)]
      exact g11.1 hb
    · rw [ea 45 _ _ (by decide)] at hb
      rw [e 50 0 49 0 (by decide), e 50 0 50 0 (by decide), e 50 0 51 0 (by decide), ea 49 _ _ (by decide), ea 50 _ _ (by decide), ea 51 _ _ (by decide)]
      exact g11.2 hb
  · refine ⟨fun hb => ?_, fun hb => ?_⟩
    · rw [ea 54 _ _ (by decide)] at hb ⊢
      rw [e 50 0 54 0 (by decide)]
      exact g12.1 hb
    · rw [ea 55 _ _ (by decide)] at hb ⊢
      rw [e 50 0 55 0 (by decide)]
      exact g12.2 hb
theorem wRn {n : Nat} {C : St} {a : AS} {y : Nat × Nat × Nat × Nat} {x : Int32} (h : RRd n C a) (hy : ∀ f i j, okR n f i j → adR f i j ≠ y) : RRd n (upA C y x) a := by
  intro g b c hg
  rw [atC_upA, if_neg (hy g b c hg)]
  exact h g b c hg
theorem r110 {n p : Nat} {R : St} {a : AS} {x : Int32} (h : RRd n R a) (hp : p < 10) : RRd n (up R 110 0 0 p x) (sv 10 p 0 x a) := by
  by_cases h6 : p < 6
  · exact wRd (f := 10) (i := p) (j := 0) h ⟨h6, rfl⟩
  · have h2 : RRd n (upA R (110, 0, 0, p) x) a := wRn h (fun f i j ho e => by
      have e1 := nvR_ok ho
      rw [e] at e1
      have e2 : nvR (110, 0, 0, p) = (10, p, 0) := rfl
      rw [e2] at e1
      simp only [Prod.mk.injEq] at e1
      obtain ⟨rfl, rfl, rfl⟩ := e1
      exact h6 ho.1)
    refine wRa h2 (fun f i j ho => ?_)
    rw [av_sv, if_neg]
    rintro ⟨rfl, rfl, rfl⟩
    exact h6 ho.1
theorem m_wake {n p : Nat} {hd : Option Nat} {R : St} {a : AS} (hp : p < 10) (h1 : RRd n R a) (h2 : RRh hd R a) (h3 : ∀ q, q < 10 → q ≠ p → R 111 0 0 q = sg a q) (h3' : sg a p = -1) (h4 : RRy n R a) (hm : p ∉ al a 0) (hh : hd ≠ some p) (hl : (hd.toList ++ al a 0).length < 10) :
    Rn (F_X12_wake (nI p) R) (fun r D => r = 0 ∧ RR n hd D (z_wake p a)) := by
  obtain ⟨⟨b1, b2⟩, b3, b4, b5⟩ := h2
  unfold F_X12_wake
  rw [nI_clamp (by omega)]
  refine rn_gd (inb_nI hp (by decide)) (rn_st (rn_st (rn_st ?_)))
  have e6 : ∀ x y z, up (up (up R 110 0 0 p x) 111 0 0 p y) 109 0 0 p z 50 0 6 0 = nI (hd.toList ++ al a 0).length := fun x y z => by
    rw [up_at, if_neg (by simp), up_at, if_neg (by simp), up_at, if_neg (by simp), b1]
  rw [e6, nI_clamp (by omega)]
  refine rn_gd (inb_nI hl (by decide)) (rn_st (rn_st (rn_ret ⟨rfl, ?_⟩)))
  have e7 : ∀ x y z w, up (up (up (up R 110 0 0 p x) 111 0 0 p y) 109 0 0 p z) 108 0 0 (hd.toList ++ al a 0).length w 50 0 6 0 = nI (hd.toList ++ al a 0).length := fun x y z w => by
    rw [up_at, if_neg (by simp), e6]
  rw [e7, nI_1]
  generalize hD : up (up (up (up (up R 110 0 0 p 0) 111 0 0 p (-1)) 109 0 0 p 0) 108 0 0 (hd.toList ++ al a 0).length (nI p)) 50 0 6 0 (nI ((hd.toList ++ al a 0).length + 1)) = D
  have eD : ∀ q b k c, D q b k c = if q = 50 ∧ b = 0 ∧ k = 6 ∧ c = 0 then nI ((hd.toList ++ al a 0).length + 1) else if q = 108 ∧ b = 0 ∧ k = 0 ∧ c = (hd.toList ++ al a 0).length then nI p else if q = 109 ∧ b = 0 ∧ k = 0 ∧ c = p then 0 else if q = 111 ∧ b = 0 ∧ k = 0 ∧ c = p then -1 else if q = 110 ∧ b = 0 ∧ k = 0 ∧ c = p then 0 else R q b k c := by
    intro q b k c
    rw [← hD]
    simp only [up_at]
  unfold z_wake
  rw [if_neg hm]
  refine ⟨?_, ⟨⟨?_, ?_⟩, ?_, ?_, ?_⟩, ?_, ?_⟩
  · have w1 := r110 (x := 0) h1 hp
    have w2 := wRo (y := (111, 0, 0, p)) (x := -1) w1 rfl
    have w3 := wRo (y := (109, 0, 0, p)) (x := 0) w2 rfl
    have w4 := wRo (y := (108, 0, 0, (hd.toList ++ al a 0).length)) (x := nI p) w3 rfl
    have w5 := wRo (y := (50, 0, 6, 0)) (x := nI ((hd.toList ++ al a 0).length + 1)) w4 rfl
    have e : upA (upA (upA (upA (up R 110 0 0 p 0) (111, 0, 0, p) (-1)) (109, 0, 0, p) 0) (108, 0, 0, (hd.toList ++ al a 0).length) (nI p)) (50, 0, 6, 0) (nI ((hd.toList ++ al a 0).length + 1)) = D := hD
    rw [e] at w5
    exact w5
  · rw [eD, if_pos ⟨rfl, rfl, rfl, rfl⟩, al_sl, if_pos rfl]
    congr 1
    simp only [List.length_append, List.length_singleton]
    omega
  · intro i q hi
    rw [al_sl, if_pos rfl, ← List.append_assoc] at hi
    rw [eD, if_neg (by simp)]
    by_cases ei : i = (hd.toList ++ al a 0).length
    · subst ei
      rw [List.getElem?_append_right (Nat.le_refl _)] at hi
      simp at hi
      rw [if_pos ⟨rfl, rfl, rfl, rfl⟩, hi]
    · rw [if_neg (by simp only [true_and]; exact ei), if_neg (by simp), if_neg (by simp), if_neg (by simp)]
      obtain ⟨h6, -⟩ := List.getElem?_eq_some_iff.mp hi
      rw [List.length_append, List.length_singleton] at h6
      rw [List.getElem?_append_left (by omega)] at hi
      exact b2 i q hi
  · intro q hq
    rw [al_sl, if_pos rfl] at hq
    rw [eD, if_neg (by simp), if_neg (by simp)]
    by_cases eq : q = p
    · rw [if_pos ⟨rfl, rfl, rfl, eq⟩]
    · rw [if_neg (by simp [eq]), if_neg (by simp), if_neg (by simp)]
      rcases List.mem_append.mp hq with hq | hq
      · exact b3 q hq
      · rw [List.mem_singleton] at hq
        exact absurd hq eq
  · intro q hq
    rw [eD, if_neg (by simp), if_neg (by simp), if_neg (by
      rintro ⟨-, -, -, rfl⟩
      exact hh hq), if_neg (by simp), if_neg (by simp)]
    exact b4 q hq
  · intro hn
    rw [eD, if_neg (by simp), if_neg (by simp), if_neg (by simp), if_neg (by simp), if_neg (by simp), av_sl, av_sv, if_neg (by simp)]
    exact b5 hn
  · intro q hq
    have es : sg (sl 0 (al a 0 ++ [p]) (sv 10 p 0 0 a)) q = sg a q := by
      unfold sg
      simp only [av_sl, av_sv]
      simp
    rw [es, eD, if_neg (by simp), if_neg (by simp), if_neg (by simp)]
    by_cases eq : q = p
    · subst eq
      rw [if_pos ⟨rfl, rfl, rfl, rfl⟩, h3']
    · rw [if_neg (by simp [eq]), if_neg (by simp)]
      exact h3 q hq eq
  · refine RRy_eq h4 (fun q b k c hq => ?_) (fun g b c hg => ?_) rfl rfl rfl
    · rw [eD]
      rcases hq with ⟨rfl, hk⟩ | hq
      · rw [if_neg (by rintro ⟨-, -, rfl, -⟩; simp at hk), if_neg (by simp), if_neg (by simp), if_neg (by simp), if_neg (by simp)]
      · simp only [List.mem_cons, List.not_mem_nil, or_false] at hq
        rw [if_neg (by omega), if_neg (by omega), if_neg (by omega), if_neg (by omega), if_neg (by omega)]
    · rw [av_sl, av_sv, if_neg]
      rintro ⟨rfl, -, -⟩
      simp at hg
