/-! THE INVARIANT, group 4: the lines, the printer -/
def LT (a : AS) : Nat := nv a 34 0 0 + nv a 34 1 0 + nv a 34 2 0 + nv a 34 3 0 + nv a 34 4 0 + nv a 34 5 0
theorem LT_one {a b : AS} {k : Nat} (hk : k < 6) (e : ∀ j, j < 6 → j ≠ k → nv b 34 j 0 = nv a 34 j 0) : LT b + nv a 34 k 0 = LT a + nv b 34 k 0 := by
  unfold LT
  have e0 := e 0 (by decide)
  have e1 := e 1 (by decide)
  have e2 := e 2 (by decide)
  have e3 := e 3 (by decide)
  have e4 := e 4 (by decide)
  have e5 := e 5 (by decide)
  have hc : k = 0 ∨ k = 1 ∨ k = 2 ∨ k = 3 ∨ k = 4 ∨ k = 5 := by omega
  rcases hc with rfl | rfl | rfl | rfl | rfl | rfl <;> simp at e0 e1 e2 e3 e4 e5 <;> omega
theorem LT_eq {a b : AS} (e : ∀ j, j < 6 → nv b 34 j 0 = nv a 34 j 0) : LT b = LT a := by
  unfold LT
  rw [e 0 (by decide), e 1 (by decide), e 2 (by decide), e 3 (by decide), e 4 (by decide), e 5 (by decide)]
theorem LT_some {a : AS} (h : 0 < LT a) : ∃ k, k < 6 ∧ 0 < nv a 34 k 0 := by
  refine Classical.byContradiction fun y => ?_
  have z : ∀ k, k < 6 → nv a 34 k 0 = 0 := fun k hk => Nat.eq_zero_of_not_pos (fun x => y ⟨k, hk, x⟩)
  unfold LT at h
  rw [z 0 (by decide), z 1 (by decide), z 2 (by decide), z 3 (by decide), z 4 (by decide), z 5 (by decide)] at h
  omega
theorem LT_le {a : AS} (h : ∀ k, k < 6 → nv a 34 k 0 ≤ 24) : LT a ≤ 144 := by
  unfold LT
  have z0 := h 0 (by decide)
  have z1 := h 1 (by decide)
  have z2 := h 2 (by decide)
  have z3 := h 3 (by decide)
  have z4 := h 4 (by decide)
  have z5 := h 5 (by decide)
  omega
def G4 (a : AS) : Prop :=
  (∀ k, k < 6 → av a 34 k 0 = nI (nv a 34 k 0) ∧ nv a 34 k 0 ≤ 24 ∧ (0 < nv a 34 k 0 → av a 14 k 0 = 2 ∧ ¬ av a 27 k 1 ≤ 0)) ∧
  (¬ av a 55 0 0 < 0 → ∃ k, k < 6 ∧ av a 55 0 0 = nI k ∧ 0 < nv a 34 k 0) ∧
  (∃ c, av a 13 4 0 = nI c ∧ LT a = c + if av a 71 4 0 = 0 then 1 else 0) ∧ av a 13 5 0 = 0 ∧
  (av a 53 0 0 = if av a 71 5 0 = 1 then 1 else 0) ∧ (av a 71 5 0 = 1 → ¬ av a 55 0 0 < 0) ∧ (av a 71 4 0 = 1 → av a 55 0 0 < 0)
theorem G4_eq {a b : AS} (h : G4 a) (e34 : ∀ k, k < 6 → av b 34 k 0 = av a 34 k 0) (e55 : av b 55 0 0 = av a 55 0 0) (e53 : av b 53 0 0 = av a 53 0 0) (e71 : ∀ s, s = 4 ∨ s = 5 → av b 71 s 0 = av a 71 s 0) (e13 : ∀ s, s = 4 ∨ s = 5 → av b 13 s 0 = av a 13 s 0) (eh : ∀ k, k < 6 → 0 < nv a 34 k 0 → av a 14 k 0 = 2 → ¬ av a 27 k 1 ≤ 0 → av b 14 k 0 = 2 ∧ ¬ av b 27 k 1 ≤ 0) : G4 b := by
  obtain ⟨h1, h2, h3, h4, h5, h6, h7⟩ := h
  unfold G4
  rw [e55, e53, e71 4 (by decide), e71 5 (by decide), e13 4 (by decide), e13 5 (by decide), LT_eq (a := a) (b := b) (fun j hj => nve (e34 j hj))]
  refine ⟨fun k hk => ?_, fun y => ?_, h3, h4, h5, h6, h7⟩
  · obtain ⟨q1, q2, q3⟩ := h1 k hk
    rw [e34 k hk, nve (e34 k hk)]
    exact ⟨q1, q2, fun y => eh k hk y (q3 y).1 (q3 y).2⟩
  · obtain ⟨k, q1, q2, q3⟩ := h2 y
    exact ⟨k, q1, q2, by rw [nve (e34 k q1)]; exact q3⟩
theorem pos_le {m : Nat} (h : m ≤ 6) {x : Int32} (e : x = nI m) : (¬ x ≤ 0 ↔ 0 < m) := by
  have e0 : (0 : Int32) = nI 0 := rfl
  rw [e, e0, nI_leI (by omega) (by omega)]
  omega
theorem one_hold {a : AS} (hB : GB a) {j k : Nat} (hj : j < 6) (hk : k < 6) (j14 : av a 14 j 0 = 2) (k14 : av a 14 k 0 = 2) (j27 : ¬ av a 27 j 1 ≤ 0) (k27 : ¬ av a 27 k 1 ≤ 0) : j = k ∧ av a 27 k 1 = 1 := by
  obtain ⟨pg, h1, h2, h3, h4, h5, h6⟩ := hB
  obtain ⟨f1, f2⟩ := h5 1 (by decide)
  obtain ⟨k1, k2, k3, k4⟩ := h4 k 1 hk (by decide)
  obtain ⟨j1, j2, j3, j4⟩ := h4 j 1 hj (by decide)
  have t1 : tt pg 1 = 1 := rfl
  rw [t1] at f2 k4 j4
  have pk := (pos_le (by omega) k1).mp k27
  have pj := (pos_le (by omega) j1).mp j27
  refine ⟨Classical.byContradiction fun y => ?_, ?_⟩
  · have := hv_two (a := a) (r := 1) hj hk y
    have e1 : hv a j 1 = nv a 27 j 1 := if_pos j14
    have e2 : hv a k 1 = nv a 27 k 1 := if_pos k14
    omega
  · rw [k1, show nv a 27 k 1 = 1 by omega]
    rfl
theorem hold_of {a : AS} (hB : GB a) {k : Nat} (hk : k < 6) (k14 : av a 14 k 0 = 2) (k27 : ¬ av a 27 k 1 ≤ 0) : z_hold a = some k ∧ ∀ j, j < 6 → ((av a 14 j 0 = 2 ∧ av a 27 j 1 = 1) ↔ j = k) := by
  refine ⟨?_, fun j hj => ⟨fun y => (one_hold hB hj hk y.1 k14 (by rw [y.2]; decide) k27).1, fun y => ?_⟩⟩
  · unfold z_hold
    rw [List.find?_range_eq_some]
    refine ⟨?_, List.mem_range.mpr hk, fun j hj => ?_⟩
    · unfold z_ph
      simp [k14, k27]
    · unfold z_ph
      by_cases c : av a 14 j 0 = 2
      · by_cases c2 : av a 27 j 1 ≤ 0
        · simp [c2]
        · have := (one_hold hB (by omega) hk c k14 c2 k27).1
          omega
      · simp [c]
  · subst y
    exact ⟨k14, (one_hold hB hk hk k14 k14 k27 k27).2⟩
theorem four6 {m : Nat} (h : m ≤ 6) : (4 : Int32) * nI m = nI (4 * m) := by
  have hc : m = 0 ∨ m = 1 ∨ m = 2 ∨ m = 3 ∨ m = 4 ∨ m = 5 ∨ m = 6 := by omega
  rcases hc with rfl | rfl | rfl | rfl | rfl | rfl | rfl <;> rfl
theorem G4_print {n k : Nat} {x : Int32} {a : AS} (h : G4 a) (hA : GA a) (hB : GB a) (hk : k < 6) (h14 : av a 14 k 0 = 2) (h27 : ¬ av a 27 k 1 ≤ 0) (hlt : av a 34 k 0 < 4 * av a 27 k 2) : G4 (z_v 4 (z_comp n k x (z_line k a))) := by
  obtain ⟨h1, h2, h3, h4, h5, h6, h7⟩ := h
  obtain ⟨l1, l2, l3⟩ := h1 k hk
  have n01 : ¬ (0 : Int32) = 1 := by decide
  have hm : nv a 34 k 0 < 24 := by
    obtain ⟨pg, -, p2, p3, p4, -⟩ := hB
    obtain ⟨k1, k2, k3, k4⟩ := p4 k 2 hk (by decide)
    have t := tt_le (r := 2) p2 p3
    have e4 : (4 : Int32) * nI (nv a 27 k 2) = nI (4 * nv a 27 k 2) := four6 (by omega)
    rw [l1, k1, e4] at hlt
    have := (nI_ltI (by omega) (by omega)).mp hlt
    omega
  generalize hZ : z_comp n k x (z_line k a) = Z
  have o : ∀ g, g ≠ 33 → g ≠ 34 → g ≠ 43 → g ≠ 18 → g ≠ 17 → ∀ i j, av Z g i j = av a g i j := fun g x1 x2 x3 x4 x5 i j => by
    rw [← hZ, vo_comp x3 x4 x5]; unfold z_line; rw [av_o x2, av_o x1]
  have o34 : ∀ j, av Z 34 j 0 = if j = k then nI (nv a 34 k 0 + 1) else av a 34 j 0 := fun j => by
    rw [← hZ, vo_comp (by decide) (by decide) (by decide)]
    unfold z_line
    rw [av_sv]
    by_cases c : j = k
    · rw [if_pos ⟨rfl, c, rfl⟩, if_pos c, l1, nI_1]
    · rw [if_neg (fun y => c y.2.1), if_neg c, av_o (by decide)]
  generalize hY : z_v 4 Z = Y
  have o2 : ∀ g, g ≠ 13 → g ≠ 10 → g ≠ 71 → ∀ i j, av Y g i j = av Z g i j := fun g x1 x2 x3 i j => by rw [← hY, vo_v x1 x2 x3]
  have y34 : ∀ j, av Y 34 j 0 = if j = k then nI (nv a 34 k 0 + 1) else av a 34 j 0 := fun j => by rw [o2 34 (by decide) (by decide) (by decide), o34]
  have n34 : ∀ j, nv Y 34 j 0 = if j = k then nv a 34 k 0 + 1 else nv a 34 j 0 := fun j => by
    by_cases e : j = k
    · rw [if_pos e]; exact nvI (by rw [y34, if_pos e]) (by omega)
    · rw [if_neg e]; exact nve (by rw [y34, if_neg e])
  have y55 : av Y 55 0 0 = av a 55 0 0 := by rw [o2 55 (by decide) (by decide) (by decide), o 55 (by decide) (by decide) (by decide) (by decide) (by decide)]
  have y53 : av Y 53 0 0 = av a 53 0 0 := by rw [o2 53 (by decide) (by decide) (by decide), o 53 (by decide) (by decide) (by decide) (by decide) (by decide)]
  have y14 : ∀ j, av Y 14 j 0 = av a 14 j 0 := fun j => by rw [o2 14 (by decide) (by decide) (by decide), o 14 (by decide) (by decide) (by decide) (by decide) (by decide)]
  have y27 : ∀ j, av Y 27 j 1 = av a 27 j 1 := fun j => by rw [o2 27 (by decide) (by decide) (by decide), o 27 (by decide) (by decide) (by decide) (by decide) (by decide)]
  have y714 : av Y 71 4 0 = 0 := by rw [← hY, v71, if_pos rfl]
  have y715 : av Y 71 5 0 = av a 71 5 0 := by rw [← hY, v71, if_neg (by decide), o 71 (by decide) (by decide) (by decide) (by decide) (by decide)]
  have y134 : av Y 13 4 0 = if av a 71 4 0 = 0 then av a 13 4 0 + 1 else av a 13 4 0 := by
    rw [← hY, v13, o 71 (by decide) (by decide) (by decide) (by decide) (by decide), o 13 (by decide) (by decide) (by decide) (by decide) (by decide)]
    by_cases c : av a 71 4 0 = 0
    · rw [if_pos ⟨c, rfl⟩, if_pos c]
    · rw [if_neg (fun y => c y.1), if_neg c]
  have y135 : av Y 13 5 0 = 0 := by rw [← hY, v13, if_neg (fun y => absurd y.2 (by decide)), o 13 (by decide) (by decide) (by decide) (by decide) (by decide), h4]
  have hL := LT_one (a := a) (b := Y) hk (fun j _ hj => by rw [n34, if_neg hj])
  rw [n34, if_pos rfl] at hL
  obtain ⟨c, c1, c2⟩ := h3
  have hLT := LT_le (fun k hk => (h1 k hk).2.1)
  unfold G4
  rw [y55, y53, y714, y715, y134, y135]
  refine ⟨fun j hj => ?_, fun y => ?_, ?_, rfl, h5, h6, fun y => absurd y n01⟩
  · obtain ⟨q1, q2, q3⟩ := h1 j hj
    rw [y34, n34, y14, y27]
    by_cases e : j = k
    · rw [if_pos e, if_pos e]
      exact ⟨rfl, by omega, fun _ => by rw [e]; exact ⟨h14, h27⟩⟩
    · rw [if_neg e, if_neg e]
      exact ⟨q1, q2, q3⟩
  · obtain ⟨j, q1, q2, q3⟩ := h2 y
    refine ⟨j, q1, q2, ?_⟩
    rw [n34]
    split
    · omega
    · exact q3
  · rw [if_pos rfl]
    by_cases w : av a 71 4 0 = 0
    · rw [if_pos w] at c2 ⊢
      refine ⟨c + 1, ?_, by omega⟩
      rw [c1, nI_1]
    · rw [if_neg w] at c2 ⊢
      exact ⟨c, c1, by omega⟩
theorem G4_take {k : Nat} {a : AS} (h : G4 a) (h71 : av a 71 4 0 = 0) (h715 : av a 71 5 0 = 0) (hk : k < 6) (hl : 0 < nv a 34 k 0) : G4 (z_p 5 (z_take2 k a)) := by
  obtain ⟨h1, h2, h3, h4, h5, h6, h7⟩ := h
  have n01 : ¬ (0 : Int32) = 1 := by decide
  have o : ∀ g, g ≠ 53 → g ≠ 55 → ∀ i j, av (z_take2 k a) g i j = av a g i j := fun g x1 x2 i j => by unfold z_take2; rw [av_o x1, av_o x2]
  have c13 : av (z_take2 k a) 13 5 0 ≤ 0 := by rw [o 13 (by decide) (by decide), h4]; decide
  generalize hY : z_p 5 (z_take2 k a) = Y
  have o2 : ∀ g, g ≠ 13 → g ≠ 10 → g ≠ 71 → g ≠ 7 → g ≠ 53 → g ≠ 55 → ∀ i j, av Y g i j = av a g i j := fun g x1 x2 x3 x4 x5 x6 i j => by rw [← hY, vo_p x1 x2 x3 x4, o g x5 x6]
  have y34 : ∀ j, av Y 34 j 0 = av a 34 j 0 := fun j => o2 34 (by decide) (by decide) (by decide) (by decide) (by decide) (by decide) j 0
  have y14 : ∀ j, av Y 14 j 0 = av a 14 j 0 := fun j => o2 14 (by decide) (by decide) (by decide) (by decide) (by decide) (by decide) j 0
  have y27 : ∀ j, av Y 27 j 1 = av a 27 j 1 := fun j => o2 27 (by decide) (by decide) (by decide) (by decide) (by decide) (by decide) j 1
  have y55 : av Y 55 0 0 = nI k := by rw [← hY, vo_p (by decide) (by decide) (by decide) (by decide)]; unfold z_take2; rw [av_o (by decide), av_s]
  have y53 : av Y 53 0 0 = 1 := by rw [← hY, vo_p (by decide) (by decide) (by decide) (by decide)]; unfold z_take2; rw [av_s]
  have y714 : av Y 71 4 0 = 0 := by rw [← hY, p71, if_neg (fun y => absurd y.2 (by decide)), o 71 (by decide) (by decide), h71]
  have y715 : av Y 71 5 0 = 1 := by rw [← hY, p71, if_pos ⟨c13, rfl⟩]
  have y13 : ∀ s, av Y 13 s 0 = av a 13 s 0 := fun s => by rw [← hY, p13, if_neg (fun y => y.1 c13), o 13 (by decide) (by decide)]
  rw [h71] at h3
  unfold G4
  rw [y55, y53, y714, y715, y13, y13, LT_eq (a := a) (b := Y) (fun j _ => nve (y34 j))]
  refine ⟨fun j hj => ?_, fun _ => ⟨k, hk, rfl, by rw [nve (y34 k)]; exact hl⟩, h3, h4, by rw [if_pos rfl], fun _ => nI_pos (by omega), fun y => absurd y n01⟩
  rw [y34, nve (y34 j), y14, y27]
  exact h1 j hj
theorem G4_done {a : AS} (h : G4 a) (hA : GA a) (h53 : ¬ av a 53 0 0 = 0) : G4 (z_pdone a) := by
  obtain ⟨h1, h2, h3, h4, h5, h6, h7⟩ := h
  have n01 : ¬ (0 : Int32) = 1 := by decide
  have w1 : av a 71 5 0 = 1 := Classical.byContradiction fun y => h53 (by rw [h5, if_neg y])
  have w0 : av a 71 4 0 = 0 := (hA.2.2.1.1 4 (by decide)).resolve_right (fun y => hA.2.2.1.2.2.2 ⟨y, w1⟩)
  have n55 := h6 w1
  have o : ∀ g, g ≠ 53 → ∀ i j, av (sv 53 0 0 0 a) g i j = av a g i j := fun g x i j => av_o x
  generalize hY : z_pdone a = Y
  unfold z_pdone at hY
  have o2 : ∀ g, g ≠ 13 → g ≠ 10 → g ≠ 71 → g ≠ 53 → ∀ i j, av Y g i j = av a g i j := fun g x1 x2 x3 x5 i j => by rw [← hY, vo_v x1 x2 x3, o g x5]
  have y34 : ∀ j, av Y 34 j 0 = av a 34 j 0 := fun j => o2 34 (by decide) (by decide) (by decide) (by decide) j 0
  have y14 : ∀ j, av Y 14 j 0 = av a 14 j 0 := fun j => o2 14 (by decide) (by decide) (by decide) (by decide) j 0
  have y27 : ∀ j, av Y 27 j 1 = av a 27 j 1 := fun j => o2 27 (by decide) (by decide) (by decide) (by decide) j 1
  have y55 : av Y 55 0 0 = av a 55 0 0 := o2 55 (by decide) (by decide) (by decide) (by decide) 0 0
  have y53 : av Y 53 0 0 = 0 := by rw [← hY, vo_v (by decide) (by decide) (by decide), av_s]
  have y714 : av Y 71 4 0 = 0 := by rw [← hY, v71, if_neg (by decide), o 71 (by decide), w0]
  have y715 : av Y 71 5 0 = 0 := by rw [← hY, v71, if_pos rfl]
  have hne : ¬ av (sv 53 0 0 0 a) 71 5 0 = 0 := by rw [o 71 (by decide), w1]; decide
  have y13 : ∀ s, av Y 13 s 0 = av a 13 s 0 := fun s => by rw [← hY, v13, if_neg (fun y => hne y.1), o 13 (by decide)]
  rw [w0] at h3
  unfold G4
  rw [y55, y53, y714, y715, y13, y13, LT_eq (a := a) (b := Y) (fun j _ => nve (y34 j))]
  refine ⟨fun j hj => ?_, fun y => ?_, h3, h4, by rw [if_neg n01], fun y => absurd y n01, fun y => absurd y n01⟩
  · rw [y34, nve (y34 j), y14, y27]
    exact h1 j hj
  · obtain ⟨k, q1, q2, q3⟩ := h2 y
    exact ⟨k, q1, q2, by rw [nve (y34 k)]; exact q3⟩
theorem vo_wakeP {k : Nat} {a : AS} {g b c : Nat} (h : g ≠ 10) : av (z_wakeP k a) g b c = av a g b c := by
  unfold z_wakeP
  split
  · exact vo_wake h
  · rfl
theorem G4_put {k : Nat} {a : AS} (h : G4 a) (h71 : av a 71 4 0 = 0) (h715 : av a 71 5 0 = 0) (hk : k < 6) (hl : 0 < nv a 34 k 0) : G4 (z_p 4 (sv 55 0 0 (-1) (z_wakeP k (z_put k a)))) := by
  obtain ⟨h1, h2, h3, h4, h5, h6, h7⟩ := h
  obtain ⟨l1, l2, l3⟩ := h1 k hk
  have n01 : ¬ (0 : Int32) = 1 := by decide
  have neg1 : (-1 : Int32) < 0 := by decide
  obtain ⟨m, hm⟩ : ∃ m, nv a 34 k 0 = m + 1 := ⟨nv a 34 k 0 - 1, by omega⟩
  generalize hZ : sv 55 0 0 (-1) (z_wakeP k (z_put k a)) = Z
  have o : ∀ g, g ≠ 10 → g ≠ 33 → g ≠ 34 → g ≠ 35 → g ≠ 36 → g ≠ 72 → g ≠ 76 → g ≠ 77 → g ≠ 55 → ∀ i j, av Z g i j = av a g i j := fun g x0 x1 x2 x3 x4 x5 x6 x7 x8 i j => by
    rw [← hZ, av_o x8, vo_wakeP x0, vo_put x1 x2 x3 x4 x5 x6 x7]
  have o34 : ∀ j, av Z 34 j 0 = if j = k then nI m else av a 34 j 0 := fun j => by
    rw [← hZ, av_o (by decide), vo_wakeP (by decide)]
    unfold z_put
    rw [← nv, hm, av_shift]
    by_cases c : j = k
    · rw [if_pos ⟨rfl, c, rfl⟩, if_pos c]
      rfl
    · rw [if_neg (fun y => c y.2.1), if_neg (fun y => c y.2.1), if_neg c]
      unfold z_out
      rw [av_o (by decide), av_o (by decide), av_o (by decide), av_o (by decide), av_o (by decide)]
  have o13 : ∀ s, av Z 13 s 0 = av a 13 s 0 := fun s => o 13 (by decide) (by decide) (by decide) (by decide) (by decide) (by decide) (by decide) (by decide) (by decide) s 0
  have o71 : ∀ s, av Z 71 s 0 = av a 71 s 0 := fun s => o 71 (by decide) (by decide) (by decide) (by decide) (by decide) (by decide) (by decide) (by decide) (by decide) s 0
  generalize hY : z_p 4 Z = Y
  have o2 : ∀ g, g ≠ 13 → g ≠ 10 → g ≠ 71 → g ≠ 7 → ∀ i j, av Y g i j = av Z g i j := fun g x1 x2 x3 x4 i j => by rw [← hY, vo_p x1 x2 x3 x4]
  have y34 : ∀ j, av Y 34 j 0 = if j = k then nI m else av a 34 j 0 := fun j => by rw [o2 34 (by decide) (by decide) (by decide) (by decide), o34]
  have n34 : ∀ j, nv Y 34 j 0 = if j = k then m else nv a 34 j 0 := fun j => by
    by_cases e : j = k
    · rw [if_pos e]; exact nvI (by rw [y34, if_pos e]) (by omega)
    · rw [if_neg e]; exact nve (by rw [y34, if_neg e])
  have y55 : av Y 55 0 0 = -1 := by rw [o2 55 (by decide) (by decide) (by decide) (by decide), ← hZ, av_s]
  have y53 : av Y 53 0 0 = av a 53 0 0 := by rw [o2 53 (by decide) (by decide) (by decide) (by decide), o 53 (by decide) (by decide) (by decide) (by decide) (by decide) (by decide) (by decide) (by decide) (by decide)]
  have y14 : ∀ j, av Y 14 j 0 = av a 14 j 0 := fun j => by rw [o2 14 (by decide) (by decide) (by decide) (by decide), o 14 (by decide) (by decide) (by decide) (by decide) (by decide) (by decide) (by decide) (by decide) (by decide)]
  have y27 : ∀ j, av Y 27 j 1 = av a 27 j 1 := fun j => by rw [o2 27 (by decide) (by decide) (by decide) (by decide), o 27 (by decide) (by decide) (by decide) (by decide) (by decide) (by decide) (by decide) (by decide) (by decide)]
  obtain ⟨c, c1, c2⟩ := h3
  rw [if_pos h71] at c2
  have y714 : av Y 71 4 0 = if nI c ≤ 0 then 1 else 0 := by
    rw [← hY, p71, o13, o71, h71, c1]
    by_cases y : nI c ≤ 0
    · rw [if_pos ⟨y, rfl⟩, if_pos y]
    · rw [if_neg (fun z => y z.1), if_neg y]
  have y715 : av Y 71 5 0 = 0 := by rw [← hY, p71, if_neg (fun y => absurd y.2 (by decide)), o71, h715]
  have y134 : av Y 13 4 0 = if nI c ≤ 0 then nI c else nI c - 1 := by
    rw [← hY, p13, o13, c1]
    by_cases y : nI c ≤ 0
    · rw [if_neg (fun z => z.1 y), if_pos y]
    · rw [if_pos ⟨y, rfl⟩, if_neg y]
  have y135 : av Y 13 5 0 = 0 := by rw [← hY, p13, if_neg (fun y => absurd y.2 (by decide)), o13, h4]
  have hL := LT_one (a := a) (b := Y) hk (fun j _ hj => by rw [n34, if_neg hj])
  rw [n34, if_pos rfl] at hL
  have hLT := LT_le (fun k hk => (h1 k hk).2.1)
  rw [h715] at h5
  unfold G4
  rw [y55, y53, y714, y715, y134, y135]
  refine ⟨fun j hj => ?_, fun y => absurd neg1 y, ?_, rfl, h5, fun y => absurd y n01, fun _ => neg1⟩
  · obtain ⟨q1, q2, q3⟩ := h1 j hj
    rw [y34, n34, y14, y27]
    by_cases e : j = k
    · rw [if_pos e, if_pos e]
      exact ⟨rfl, by omega, fun _ => by rw [e]; exact l3 hl⟩
    · rw [if_neg e, if_neg e]
      exact ⟨q1, q2, q3⟩
  · by_cases y : c = 0
    · have hle : nI c ≤ 0 := by rw [y]; decide
      refine ⟨0, ?_, ?_⟩
      · rw [if_pos hle, y]
      · simp only [if_pos hle]
        rw [if_neg (show ¬ (1 : Int32) = 0 by decide)]
        omega
    · have hle : ¬ nI c ≤ 0 := nI_nle (by omega) (by omega)
      obtain ⟨c', rfl⟩ : ∃ c', c = c' + 1 := ⟨c - 1, by omega⟩
      refine ⟨c', ?_, ?_⟩
      · rw [if_neg hle, nI_pred]
      · simp only [if_neg hle]
        rw [if_pos trivial]
        omega
