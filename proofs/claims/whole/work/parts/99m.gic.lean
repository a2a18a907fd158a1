/-! the whole invariant: taking a job in; a line of the operator is done -/
theorem GN_new {n k : Nat} {a b : AS} (h : GN n a) (e18 : ∀ j, j < 6 → j ≠ k → av b 18 j 0 = av a 18 j 0) (e20 : ∀ j, j < 6 → j ≠ k → av b 20 j 0 = av a 20 j 0) (ew : ∀ j s i, j < 6 → j ≠ k → s < 8 → i < 16 → wd n j s i b = wd n j s i a) (e43 : ∀ f, f < n → ¬ av b 43 f 0 = 0 → ¬ av a 43 f 0 = 0 ∧ ¬ av a 39 f 0 = nI k ∧ ∀ j s, ow a f j s → ow b f j s) (hk : ¬ AK b k) (hA : ∀ j s, j < 6 → j ≠ k → s < 8 → AK b j → av b 29 j 0 = nI s → AK a j ∧ av a 29 j 0 = nI s) (e14 : 2 * adn b 6 ≤ n) : GN n b := by
  obtain ⟨h1, h2, h3⟩ := h
  have hnd : ∀ j s, j < 6 → j ≠ k → nd n a j s → nd n b j s := fun j s hj hn y => nd_eq y (e18 j hj hn) (e20 j hj hn) (fun s i hs hi => ew j s i hj hn hs hi)
  refine ⟨fun f hf y => ?_, fun j hj y s hs z => ?_, e14⟩
  · obtain ⟨y1, y3, y2⟩ := e43 f hf y
    obtain ⟨j, s, q1, q2, q3, q4⟩ := h1 f hf y1
    have hn : j ≠ k := fun c => y3 (by rw [q3.1, c])
    exact ⟨j, s, q1, q2, y2 j s q3, hnd j s q1 hn q4⟩
  · have hn : j ≠ k := fun c => hk (c ▸ y)
    obtain ⟨z1, z2⟩ := hA j s hj hn hs y z
    exact hnd j s hj hn (h2 j hj z1 s hs z2)
theorem idle_of {n c k : Nat} {a : AS} (h : GI n c a) (hk : k < 6) (h14 : ¬ av a 14 k 0 = 2) : av a 10 k 0 = 0 ∧ ¬ AK a k ∧ ∀ f, f < n → ¬ av a 39 f 0 = nI k := by
  have hA : GA a := h 0 (by decide)
  have h1 : G1 a := h 1 (by decide)
  have hF : GF n a := h 13 (by decide)
  have q2 := (hA.2.2.2.2.1 k hk).2 h14
  refine ⟨q2, fun y => ?_, fun f hf y => ?_⟩
  · rcases y with y | y
    · have := (h1.2.1 k y).2
      rw [q2] at this
      exact absurd this (by decide)
    · obtain ⟨j, j1, j2, j3, j4⟩ := h1.2.2.2.1 y.1
      obtain rfl : j = k := nI_inj (by omega) (by omega) (by rw [← j2, y.2])
      rw [q2] at j3
      exact absurd j3 (by decide)
  · rcases hF.1 f hf with w | w | ⟨j, s, w1, w2, w3, w4⟩
    · rw [w] at y
      exact nI_pos (n := k) (by omega) (by rw [← y]; decide)
    · rw [w.1] at y
      exact nI_pos (n := k) (by omega) (by rw [← y]; decide)
    · obtain rfl : j = k := nI_inj (by omega) (by omega) (by rw [← w3.1, y])
      exact h14 w4
theorem two7 {m : Nat} (h : m ≤ 6) : (2 : Int32) * (nI m + 1) = nI (2 * (m + 1)) := by
  have hc : m = 0 ∨ m = 1 ∨ m = 2 ∨ m = 3 ∨ m = 4 ∨ m = 5 ∨ m = 6 := by omega
  rcases hc with rfl | rfl | rfl | rfl | rfl | rfl | rfl <;> rfl
theorem GI_admit {n c k : Nat} {a : AS} (h : GI n c a) (hn : n ≤ 12) (hk : k < 6) (h14 : av a 14 k 0 = 1) (had : 2 * (z_adm a 6 + 1) ≤ nI n) : GI n c (z_wake k (sv 14 k 0 2 a)) := by
  have hA : GA a := h 0 (by decide)
  have h1 : G1 a := h 1 (by decide)
  have h3 : G3 a := h 2 (by decide)
  have hB : GB a := h 3 (by decide)
  have h2 : G2 a := h 4 (by decide)
  have h4 : G4 a := h 5 (by decide)
  have h5 : G5 a := h 6 (by decide)
  have h6 : G6 a := h 7 (by decide)
  have h8 : G8 a := h 8 (by decide)
  have hS : GS c a := h 10 (by decide)
  have hP : GPa c a := h 11 (by decide)
  have hX : GX a := h 12 (by decide)
  have hF : GF n a := h 13 (by decide)
  have hN : GN n a := h 14 (by decide)
  have n12 : ¬ av a 14 k 0 = 2 := by rw [h14]; decide
  obtain ⟨q2, q3, q4⟩ := idle_of h hk n12
  have n01 : ¬ (1 : Int32) = 0 := by decide
  have h45 : av a 45 0 0 = 1 → ¬ av a 12 0 0 = 0 := fun y => by rw [h1.2.2.2.2.2.2.2.2.1 (by rw [y]; exact n01), y]; exact n01
  have gA : GA (z_wake k (sv 14 k 0 2 a)) := GA_admit hA hk h14
  have y10 : ∀ j, av (z_wake k (sv 14 k 0 2 a)) 10 j 0 = if j = k then 0 else av a 10 j 0 := fun j => by rw [w10, av_o (by decide)]
  have y14 : ∀ j, av (z_wake k (sv 14 k 0 2 a)) 14 j 0 = if j = k then 2 else av a 14 j 0 := fun j => by rw [vo_wake (by decide), sv_k]
  have y14b : ∀ i j, i ≠ k → av (z_wake k (sv 14 k 0 2 a)) 14 i j = av a 14 i j := fun i j hi => by rw [vo_wake (by decide), av_sv, if_neg (fun y => hi y.2.1)]
  generalize hY : z_wake k (sv 14 k 0 2 a) = Y at gA y10 y14 y14b ⊢
  have o : ∀ g, g ∉ [10, 14] → ∀ i j, av Y g i j = av a g i j := fun g hg i j => by simp at hg; rw [← hY, vo_wake (by omega), av_o (by omega)]
  have y71 : ∀ i, i ≠ 99 → av Y 71 i 0 = av a 71 i 0 := fun i _ => o 71 (by decide) i 0
  have y13 : ∀ i, i ≠ 99 → av Y 13 i 0 = av a 13 i 0 := fun i _ => o 13 (by decide) i 0
  have yl : ∀ q, q ∉ [0] → al Y q = al a q := fun q hq => by simp at hq; rw [← hY, lo_wake hq]; rfl
  have e10 : ∀ y : Int32, ¬ y = 0 → ∀ j, j < 6 → av a 10 j 0 = y → av Y 10 j 0 = y := fun y hy j hj e => by
    rw [y10, if_neg]
    · exact e
    · rintro rfl
      rw [q2] at e
      exact hy e.symm
  have h0 : ∀ j, ¬ av Y 14 j 0 = 0 → ¬ av a 14 j 0 = 0 := fun j y => by
    rw [y14] at y
    by_cases e : j = k
    · rw [e, h14]; exact n01
    · rw [if_neg e] at y; exact y
  have h0' : ∀ j, av Y 14 j 0 = 0 → av a 14 j 0 = 0 := fun j y => by
    rw [y14] at y
    by_cases e : j = k
    · rw [if_pos e] at y; exact absurd y (by decide)
    · rw [if_neg e] at y; exact y
  have ek : ∀ q, q = 14 ∨ q = 23 ∨ q = 29 ∨ q = 37 → ∀ i j, i ≠ k → av Y q i j = av a q i j := fun q hq i j hi => by
    rcases hq with rfl | rfl | rfl | rfl
    · exact y14b i j hi
    · exact o 23 (by decide) i j
    · exact o 29 (by decide) i j
    · exact o 37 (by decide) i j
  have gF : GF n Y := GF_job (k := k) hF q3 n12 (fun q hq i j => o q (by simp; omega) i j) (yl 1 (by decide)) ek (fun x1 x2 x3 => by
    rw [o 23 (by decide)] at x3
    obtain ⟨j, s, j1, j2, j3, j4, j5⟩ := hF.2.2.2.2.1 x1
    obtain rfl : j = k := nI_inj (by omega) (by omega) (by rw [← j3, x2])
    have := (j5 x3).1
    rw [h14] at this
    exact absurd this (by decide)) hk
  have ew := wd_job (k := k) hF gF hn h45 (fun q hq i j => o q (by simp; omega) i j) (fun q hq => ek q (by omega))
  have ea := AK_eq (o 12 (by decide) 0 0) (o 47 (by decide) 0 0) (yl 1 (by decide))
  have gN : GN n Y := by
    refine GN_new (k := k) hN (fun j _ _ => o 18 (by decide) j 0) (fun j _ _ => o 20 (by decide) j 0) ew (fun f hf y => ?_) (fun y => q3 ((ea k).mp y)) (fun j s _ _ _ y w => ⟨(ea j).mp y, by rw [← o 29 (by decide) j 0]; exact w⟩) ?_
    · rw [o 43 (by decide)] at y
      exact ⟨y, q4 f hf, fun j s w => (ow_eq (o 39 (by decide)) (o 40 (by decide)) f j s).mpr w⟩
    · have h6 := adn_le (a := a) 6
      rw [z_adm_nI, two7 h6, nI_leI (by omega) (by omega)] at had
      have := (adn_admit y14 6).1
      omega
  refine GI_step h [10, 14] [0] o yl (c15 ?_ ?_ ?_ ?_ ?_ ?_ ?_ ?_ ?_ ?_ ?_ ?_ ?_ ?_ ?_)
  all_goals first | exact fun y => absurd y (by decide) | skip
  · exact fun _ => gA
  · exact fun _ => G1_eq h1 (o 12 (by decide) 0 0) (o 47 (by decide) 0 0) (o 45 (by decide) 0 0) (fun s hs => y71 s (by omega)) (fun s hs => y13 s (by omega)) (yl 1 (by decide)) (e10 1 (by decide))
  · exact fun _ => G3_eq h3 (o 54 (by decide) 0 0) (o 52 (by decide) 0 0) (fun s hs => y71 s (by omega)) (fun s hs => y13 s (by omega)) (yl 3 (by decide)) (e10 2 (by decide))
  · exact fun _ => GB_admit hB hk h14 (fun g hg i j => o g (by simp; omega) i j) y14
  · exact fun _ => G2_eq h2 (yl 2 (by decide)) (fun j hj y => e10 6 (by decide) j (h2.2 j hj).1 y) (fun j hj => o 29 (by decide) j 0) (fun j _ r _ => o 27 (by decide) j r) (fun j _ r _ => o 26 (by decide) j r)
  · exact fun _ => G4_eq h4 (fun j _ => o 34 (by decide) j 0) (o 55 (by decide) 0 0) (o 53 (by decide) 0 0) (fun s hs => y71 s (by omega)) (fun s hs => y13 s (by omega)) (fun j _ _ x1 x2 => by rw [y14, o 27 (by decide)]; exact ⟨by split; rfl; exact x1, x2⟩)
  · exact fun _ => G5_14 (k := k) (x := 2) h5 hk (by decide) (fun g hg i j => o g (by simp; omega) i j) y14
  · exact fun _ => GS_eq hS (Nat.le_refl _) (fun g hg i j => o g (by simp; omega) i j) (fun j _ => h0 j)
  · exact fun _ => GPa_eq hP (Nat.le_refl _) (fun g hg i j => o g (by simp; omega) i j) (fun j _ => h0' j) (by rw [o 55 (by decide), o 71 (by decide)]; exact Nat.le_add_right _ _)
  · exact fun _ => gF
  · exact fun _ => gN
theorem GI_admits {n c k : Nat} {a : AS} (h : GI n c a) (hn : n ≤ 12) (hk : k < 6) : GI n c (z_admits n k a).2 := by
  unfold z_admits
  split
  · rename_i cc
    exact GI_admit h hn hk cc.1 cc.2
  · exact h
theorem dig_lt {a : AS} (h : ¬ (z_dig a 1 < 0 ∨ (6 : Int32) ≤ z_dig a 1)) : (z_dig a 1).toNatClampNeg < 6 := by
  rw [not_or] at h
  obtain ⟨k, hk, e⟩ := lt6 h.1 h.2
  rw [e, nI_clamp (by omega)]
  exact hk
theorem GI_obeys {n c : Nat} {a : AS} (h : GI n c a) (hn : n ≤ 12) : GI n c (z_obeys n a).2 := by
  unfold z_obeys
  split
  · exact h
  · rename_i cc
    have hd := dig_lt cc
    split
    · split
      · exact GI_admits h hn hd
      · exact h
    · split
      · split
        · exact GI_cancels h hd
        · exact h
      · split
        · exact GI_replies h hd
        · exact h
theorem GI_said {n c : Nat} {a : AS} (h : GI n c a) (hn : n ≤ 12) : GI n c (z_said n a) := by
  unfold z_said
  split
  · exact GI_say (GI_say (GI_obeys h hn))
  · exact GI_obeys h hn
