/-! the whole invariant: the call done -/
theorem GI_drum {n c : Nat} {a : AS} (h : GI n c a) (hn : n ≤ 12) (h45 : ¬ av a 45 0 0 = 0) : GI n c (z_drum a) := by
  have h1 : G1 a := h 1 (by decide)
  have hF : GF n a := h 13 (by decide)
  have h12 : ¬ av a 12 0 0 = 0 := by rw [h1.2.2.2.2.2.2.2.2.1 h45]; exact h45
  obtain ⟨f, f1, f2, f3⟩ := hF.2.2.2.1 h12
  have ef : (av a 46 0 0).toNatClampNeg = f := by rw [f2, nI_clamp (by omega)]
  unfold z_drum
  split
  · rename_i e
    obtain ⟨j, s, j1, j2, j3, j4, j5⟩ := hF.2.2.2.2.1 e
    have ej : (av a 49 0 0).toNatClampNeg = j := by rw [j3, nI_clamp (by omega)]
    have es : (av a 50 0 0).toNatClampNeg = s := by rw [j4, nI_clamp (by omega)]
    rw [ef, ej, es]
    have hw : ∀ k t, k < 6 → t < 8 → wri a k t → k = j ∧ t = s ∧ (av a 23 j 0 = av a 51 0 0 ∧ ¬ av a 14 j 0 = 3) := fun k t hk ht y => by
      obtain ⟨y1, y2, y3, y4⟩ := y
      obtain rfl : k = j := nI_inj (by omega) (by omega) (by rw [← y2, j3])
      exact ⟨rfl, nI_inj (by omega) (by omega) (by rw [← y4, j4]), y3⟩
    split
    · rename_i cc
      refine GI_td h hn e f1 f2 (fun g hg i i' => ?_) (fun q => rfl) (fun k t i hk ht hi y => ?_) (fun k t i hk ht hi y => ?_)
      · show (if g = 37 ∧ i = j ∧ 16 * s ≤ i' ∧ i' < 16 * s + 16 then av a 38 f (i' - 16 * s) else av a g i i') = av a g i i'
        rw [if_neg (fun w => hg w.1)]
      · show (if 37 = 37 ∧ k = j ∧ 16 * s ≤ 16 * t + i ∧ 16 * t + i < 16 * s + 16 then av a 38 f (16 * t + i - 16 * s) else av a 37 k (16 * t + i)) = _
        rw [if_neg]
        rintro ⟨-, rfl, x1, x2⟩
        have ets : t = s := by omega
        exact y ⟨e, j3, cc, by rw [ets]; exact j4⟩
      · show (if 37 = 37 ∧ k = j ∧ 16 * s ≤ 16 * t + i ∧ 16 * t + i < 16 * s + 16 then av a 38 f (16 * t + i - 16 * s) else av a 37 k (16 * t + i)) = _
        obtain ⟨rfl, rfl, -⟩ := hw k t hk ht y
        rw [if_pos ⟨rfl, rfl, by omega, by omega⟩]
        congr 1
        omega
    · rename_i cc
      exact GI_td h hn e f1 f2 (fun g hg i i' => rfl) (fun q => rfl) (fun k t i hk ht hi y => rfl) (fun k t i hk ht hi y => absurd (hw k t hk ht y).2.2 cc)
  · rename_i e
    obtain ⟨k, k1, k2, k3, k4⟩ := h1.2.2.2.1 h12
    obtain ⟨s, s1, s2, s3⟩ := hF.2.2.1 k k1 (Or.inr ⟨h12, k2⟩)
    have ek : (av a 47 0 0).toNatClampNeg = k := by rw [k2, nI_clamp (by omega)]
    have es : (av a 29 k 0).toNatClampNeg = s := by rw [s2, nI_clamp (by omega)]
    rw [ef, ek, es]
    refine GI_tc h hn h45 e f1 f2 (fun g hg i i' => ?_) (fun q => rfl) (fun g i hg => ?_) (fun k' t i hk' ht hi y1 y2 => ?_)
    · show (if g = 38 ∧ i = f ∧ i' < 16 then av a 37 k (16 * s + i') else av a g i i') = _
      rw [if_neg (fun w => hg w.1)]
    · show (if 38 = 38 ∧ g = f ∧ i < 16 then av a 37 k (16 * s + i) else av a 38 g i) = _
      rw [if_neg (fun w => hg w.2.1)]
    · show (if 38 = 38 ∧ f = f ∧ i < 16 then av a 37 k (16 * s + i) else av a 38 f i) = _
      rw [if_pos ⟨rfl, rfl, hi⟩]
      obtain rfl : k' = k := nI_inj (by omega) (by omega) (by rw [← y1, k2])
      obtain rfl : t = s := nI_inj (by omega) (by omega) (by rw [← y2, s2])
      rfl
theorem GI_done {n c : Nat} {x : Int32} {a : AS} (h : GI n c a) (hn : n ≤ 12) : GI n (c + 1) (z_done x a).2 := by
  have h' : GI n (c + 1) a := GI_more h (Nat.le_succ c)
  unfold z_done
  split
  · split
    · exact h'
    · rename_i e
      exact GI_drum h' hn e
  · split
    · split
      · exact h'
      · rename_i e
        exact GI_rdone h e
    · split
      · split
        · exact h'
        · rename_i e
          exact GI_pdone h e
      · exact h'
