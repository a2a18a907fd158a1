/-! the whole invariant: submit -/
theorem GI_sub {n c k p cc : Nat} {x3 x4 x5 : Int32} {g m : Nat} {a : AS} (h0 : GI n c a) (hn : n ≤ 12) (hc : c < 2 ^ 30) (hk : k < 6) (h14 : av a 14 k 0 = 0 ∨ av a 14 k 0 = 3) (hg : x3 = nI g) (hg8 : g ≤ 8) (hcc : cc ≤ 40) (hm : x5 = nI m) (hm28 : m < 28) (hm4 : ∀ pg, av a 1 0 0 = nI pg → pg ≤ 6 → m / 4 ≤ pg) : GI n (c + 1) (sv 4 0 0 0 (z_sub k p cc x3 x4 x5 a)) := by
  have h : GI n (c + 1) a := GI_more h0 (Nat.le_succ c)
  have hA : GA a := h 0 (by decide)
  have h1 : G1 a := h 1 (by decide)
  have h3 : G3 a := h 2 (by decide)
  have hB : GB a := h 3 (by decide)
  have h2 : G2 a := h 4 (by decide)
  have h4 : G4 a := h 5 (by decide)
  have h5 : G5 a := h 6 (by decide)
  have h6 : G6 a := h 7 (by decide)
  have hS : GS c a := h0 10 (by decide)
  have hP : GPa c a := h0 11 (by decide)
  have hF : GF n a := h 13 (by decide)
  have hN : GN n a := h 14 (by decide)
  have n142 : ¬ av a 14 k 0 = 2 := by rcases h14 with e | e <;> rw [e] <;> decide
  obtain ⟨q2, q3, q4⟩ := idle_of h hk n142
  have n01 : ¬ (1 : Int32) = 0 := by decide
  have h45 : av a 45 0 0 = 1 → ¬ av a 12 0 0 = 0 := fun y => by rw [h1.2.2.2.2.2.2.2.2.1 (by rw [y]; exact n01), y]; exact n01
  have k2 : k ∉ al a 2 := fun y => by
    have := (h2.2 k y).2.1
    rw [q2] at this
    exact absurd this (by decide)
  have k3 : k ∉ al a 3 := fun y => by
    have := (h3.2.1 k y).2
    rw [q2] at this
    exact absurd this (by decide)
  have k54 : ¬ av a 54 0 0 = nI k := fun y => by
    obtain ⟨j, j1, j2, j3, j4⟩ := h3.2.2.1 (by rw [y]; exact nI_pos (by omega))
    obtain rfl : j = k := nI_inj (by omega) (by omega) (by rw [← j2, y])
    rw [q2] at j3
    exact absurd j3 (by decide)
  have k34 : av a 34 k 0 = 0 := by
    obtain ⟨l1, l2, l3⟩ := h4.1 k hk
    have : nv a 34 k 0 = 0 := Nat.eq_zero_of_not_pos (fun y => n142 (l3 y).1)
    rw [l1, this]; rfl
  obtain ⟨s14, s16, s22, s23, s31, s32, s34, s36⟩ := sub_k (k := k) (p := p) (c := cc) (x3 := x3) (x4 := x4) (x5 := x5) (a := a)
  obtain ⟨t0, t1, t2⟩ := sub_26 (k := k) (p := p) (c := cc) (x3 := x3) (x4 := x4) (x5 := x5) (a := a)
  generalize hY : sv 4 0 0 0 (z_sub k p cc x3 x4 x5 a) = Y
  have y : ∀ g, g ≠ 4 → ∀ i j, av Y g i j = av (z_sub k p cc x3 x4 x5 a) g i j := fun g x i j => by rw [← hY, av_o x]
  have o : ∀ g, g ∉ [4, 14, 16, 17, 18, 19, 20, 21, 22, 23, 24, 25, 26, 27, 29, 30, 31, 32, 34, 36, 37] → ∀ i j, av Y g i j = av a g i j := fun g hg i j => by
    rw [y g (by simp at hg; omega), sub_g (by simp at hg ⊢; omega)]
  have yl : ∀ q, q ∉ ([] : List Nat) → al Y q = al a q := fun q _ => by rw [← hY]; rfl
  have yo : ∀ g i j, i ≠ k → g ≠ 4 → g ≠ 25 → av Y g i j = av a g i j := fun g i j hi x1 x2 => by rw [y g x1, sub_o hi x2]
  have yk : ∀ g (v : Int32), g ≠ 4 → g ≠ 25 → av (z_sub k p cc x3 x4 x5 a) g k 0 = v → ∀ j, av Y g j 0 = if j = k then v else av a g j 0 := fun g v x1 x2 e j => by
    by_cases hj : j = k
    · rw [if_pos hj, hj, y g x1, e]
    · rw [if_neg hj, yo g j 0 hj x1 x2]
  have y14 := yk 14 1 (by decide) (by decide) s14
  have y25 : av Y 25 0 0 = av a 25 0 0 + 1 := by rw [y 25 (by decide), sub_25]
  have y23 := yk 23 (av a 25 0 0 + 1) (by decide) (by decide) s23
  have e34 : ∀ j, av Y 34 j 0 = av a 34 j 0 := fun j => by
    rw [yk 34 0 (by decide) (by decide) s34]
    by_cases e : j = k
    · rw [if_pos e, e, k34]
    · rw [if_neg e]
  have ek : ∀ q, q = 14 ∨ q = 23 ∨ q = 29 ∨ q = 37 → ∀ i j, i ≠ k → av Y q i j = av a q i j := fun q hq i j hi => yo q i j hi (by omega) (by omega)
  have gF : GF n Y := GF_job (k := k) hF q3 n142 (fun q hq i j => o q (by simp; omega) i j) (yl 1 (by decide)) ek (fun _ _ x3 => by
    obtain ⟨S, z1, z2, z3, ⟨s, z4, z5⟩, z6⟩ := hS
    rw [y23, if_pos rfl, z1, nI_1, z4] at x3
    have := nI_inj (by omega) (by omega) x3
    omega) hk
  have ew := wd_job (k := k) hF gF hn h45 (fun q hq i j => o q (by simp; omega) i j) (fun q hq => ek q (by omega))
  have ea := AK_eq (o 12 (by decide) 0 0) (o 47 (by decide) 0 0) (yl 1 (by decide))
  obtain ⟨c1, c2, c3⟩ := cl28 m hm28
  refine GI_step h [4, 14, 16, 17, 18, 19, 20, 21, 22, 23, 24, 25, 26, 27, 29, 30, 31, 32, 34, 36, 37] [] o yl (c15 ?_ ?_ ?_ ?_ ?_ ?_ ?_ ?_ ?_ ?_ ?_ ?_ ?_ ?_ ?_)
  all_goals first | exact fun y => absurd y (by decide) | skip
  · refine fun _ => GA_eq (GA_14 (k := k) (x := 1) hA hk n142 (by decide)) (fun g hg i j => ?_) (yl 0 (by decide))
    rcases hg with rfl | rfl | rfl
    · rw [o 10 (by decide), av_o (by decide)]
    · by_cases e : i = k ∧ j = 0
      · rw [e.1, e.2, y14, if_pos rfl, av_s]
      · rw [av_sv, if_neg (fun w => e w.2)]
        by_cases e2 : i = k
        · have hj : ¬ j = 0 := fun w => e ⟨e2, w⟩
          rw [y 14 (by decide)]
          unfold z_sub z_load z_claim z_renew
          simp [av_lc, av_ld, av_h0, av_sv, hj]
        · exact yo 14 i j e2 (by decide) (by decide)
    · rw [o 71 (by decide), av_o (by decide)]
  · refine fun _ => GB_sub hB hk n142 (o 1 (by decide) 0 0) (fun r => o 28 (by decide) r 0) y14 (fun j r hr => ?_) (fun j r hj => yo 26 j r hj (by decide) (by decide)) (fun pg r e1 e2 e3 hr => ?_)
    · by_cases e : j = k
      · rw [if_pos e, e, y 27 (by decide), sub_27 hr]
      · rw [if_neg e, yo 27 j r e (by decide) (by decide)]
    · have hp := hm4 pg e1 e2
      have hc : r = 0 ∨ r = 1 ∨ r = 2 := by omega
      rcases hc with rfl | rfl | rfl
      · exact ⟨m % 2, by rw [y 26 (by decide), t0, hm, c1], by unfold tt; rw [if_neg (by decide)]; omega⟩
      · exact ⟨m / 2 % 2, by rw [y 26 (by decide), t1, hm, c2], by unfold tt; rw [if_neg (by decide)]; omega⟩
      · exact ⟨m / 4, by rw [y 26 (by decide), t2, hm, c3], by unfold tt; rw [if_pos rfl]; exact hp⟩
  · exact fun _ => G2_eq h2 (yl 2 (by decide)) (fun j hj w => by rw [o 10 (by decide)]; exact w) (fun j hj => yo 29 j 0 (fun (e : j = k) => k2 (e ▸ hj)) (by decide) (by decide)) (fun j hj r _ => yo 27 j r (fun (e : j = k) => k2 (e ▸ hj)) (by decide) (by decide)) (fun j hj r _ => yo 26 j r (fun (e : j = k) => k2 (e ▸ hj)) (by decide) (by decide))
  · refine fun _ => G4_eq h4 (fun j _ => e34 j) (o 55 (by decide) 0 0) (o 53 (by decide) 0 0) (fun s _ => o 71 (by decide) s 0) (fun s _ => o 13 (by decide) s 0) (fun j _ _ x1 x2 => ?_)
    have e : j ≠ k := fun e => n142 (e ▸ x1)
    rw [y14, if_neg e, yo 27 j 1 e (by decide) (by decide)]
    exact ⟨x1, x2⟩
  · refine fun _ => G5_one (k := k) h5 (fun q hq j hj => yo q j 0 hj (by omega) (by omega)) ⟨⟨0, by rw [y 16 (by decide), s16]; rfl, by decide⟩, fun _ => by rw [y 16 (by decide), s16], g, by rw [y 22 (by decide), s22, hg], hg8⟩
  · exact fun _ => G6_sub (k := k) (c := cc) h6 hcc (fun q hq j hj => yo q j 0 hj (by omega) (by omega)) (by rw [y 31 (by decide), s31]) (by rw [y 32 (by decide), s32]) (yl 3 (by decide)) (o 54 (by decide) 0 0) k54 k3
  · exact fun _ => ⟨0, by rw [← hY, av_s]; rfl, by decide⟩
  · exact fun _ => GS_sub hS hc hk (o 51 (by decide) 0 0) y25 y23 y14
  · exact fun _ => GPa_sub (k := k) hP hS hc (fun q hq i j => o q (by simp; omega) i j) y25 y23 y14 (yk 36 0 (by decide) (by decide) s36)
  · exact fun _ => gF
  · refine fun _ => GN_new (k := k) hN (fun j _ hj => yo 18 j 0 hj (by decide) (by decide)) (fun j _ hj => yo 20 j 0 hj (by decide) (by decide)) ew (fun f hf w => ?_) (fun w => q3 ((ea k).mp w)) (fun j s _ hj _ w v => ⟨(ea j).mp w, by rw [← yo 29 j 0 hj (by decide) (by decide)]; exact v⟩) ?_
    · rw [o 43 (by decide)] at w
      exact ⟨w, q4 f hf, fun j s v => (ow_eq (o 39 (by decide)) (o 40 (by decide)) f j s).mpr v⟩
    · have := adn_14 (a := a) (b := Y) y14 (Or.inl (by decide)) 6
      have := hN.2.2
      omega
