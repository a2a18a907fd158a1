/-! the whole invariant: submit, the fields -/
theorem cl28 : ∀ m, m < 28 → (nI m - nI m / 2 * 2 = nI (m % 2)) ∧ (nI m / 2 - nI m / 2 / 2 * 2 = nI (m / 2 % 2)) ∧ nI m / 4 = nI (m / 4) := by decide +kernel
theorem sub_o {k p c : Nat} {x3 x4 x5 : Int32} {a : AS} {g i j : Nat} (hi : i ≠ k) (h1 : g ≠ 25) : av (z_sub k p c x3 x4 x5 a) g i j = av a g i j := by
  unfold z_sub z_load z_claim z_renew
  rw [av_lc, if_neg (fun y => hi y.2.1), av_sv, if_neg (fun y => hi y.2.1), av_ld, if_neg (fun y => hi y.2.1), av_sv, if_neg (fun y => hi y.2.1), av_sv, if_neg (fun y => hi y.2.1), av_sv, if_neg (fun y => hi y.2.1), av_sv, if_neg (fun y => hi y.2.1), av_sv, if_neg (fun y => hi y.2.1), av_h0, if_neg (fun y => hi y.2.1)]
  rw [av_sv, if_neg (fun y => hi y.2.1), av_sv, if_neg (fun y => hi y.2.1), av_sv, if_neg (fun y => hi y.2.1), av_sv, if_neg (fun y => hi y.2.1), av_sv, if_neg (fun y => hi y.2.1), av_sv, if_neg (fun y => hi y.2.1), av_sv, if_neg (fun y => hi y.2.1), av_sv, if_neg (fun y => hi y.2.1), av_sv, if_neg (fun y => hi y.2.1), av_sv, if_neg (fun y => hi y.2.1), av_sv, if_neg (fun y => hi y.2.1), av_sv, if_neg (fun y => hi y.2.1), av_o h1]
theorem sub_g {k p c : Nat} {x3 x4 x5 : Int32} {a : AS} {g : Nat} (h : g ∉ [14, 16, 17, 18, 19, 20, 21, 22, 23, 24, 25, 26, 27, 29, 30, 31, 32, 34, 36, 37]) (i j : Nat) : av (z_sub k p c x3 x4 x5 a) g i j = av a g i j := by
  simp at h
  unfold z_sub z_load z_claim z_renew
  rw [av_lc, if_neg (fun y => by omega), av_o (by omega), av_ld, if_neg (fun y => by omega), av_o (by omega), av_o (by omega), av_o (by omega), av_o (by omega), av_o (by omega), av_h0, if_neg (fun y => by omega), av_o (by omega), av_o (by omega), av_o (by omega), av_o (by omega), av_o (by omega), av_o (by omega), av_o (by omega), av_o (by omega), av_o (by omega), av_o (by omega), av_o (by omega), av_o (by omega), av_o (by omega)]
theorem sub_l {k p c : Nat} {x3 x4 x5 : Int32} {a : AS} (q : Nat) : al (z_sub k p c x3 x4 x5 a) q = al a q := rfl
theorem sub_k {k p c : Nat} {x3 x4 x5 : Int32} {a : AS} : av (z_sub k p c x3 x4 x5 a) 14 k 0 = 1 ∧ av (z_sub k p c x3 x4 x5 a) 16 k 0 = 0 ∧ av (z_sub k p c x3 x4 x5 a) 22 k 0 = x3 ∧ av (z_sub k p c x3 x4 x5 a) 23 k 0 = av a 25 0 0 + 1 ∧ av (z_sub k p c x3 x4 x5 a) 31 k 0 = nI c ∧ av (z_sub k p c x3 x4 x5 a) 32 k 0 = 0 ∧ av (z_sub k p c x3 x4 x5 a) 34 k 0 = 0 ∧ av (z_sub k p c x3 x4 x5 a) 36 k 0 = 0 := by
  unfold z_sub z_load z_claim z_renew
  refine ⟨?_, ?_, ?_, ?_, ?_, ?_, ?_, ?_⟩ <;> simp [av_lc, av_ld, av_h0, av_sv]
theorem sub_27 {k p c : Nat} {x3 x4 x5 : Int32} {a : AS} {r : Nat} (hr : r < 3) : av (z_sub k p c x3 x4 x5 a) 27 k r = 0 := by
  unfold z_sub z_load z_claim z_renew
  simp [av_lc, av_ld, av_h0, av_sv, hr]
theorem sub_26 {k p c : Nat} {x3 x4 x5 : Int32} {a : AS} : av (z_sub k p c x3 x4 x5 a) 26 k 0 = x5 - x5 / 2 * 2 ∧ av (z_sub k p c x3 x4 x5 a) 26 k 1 = x5 / 2 - x5 / 2 / 2 * 2 ∧ av (z_sub k p c x3 x4 x5 a) 26 k 2 = x5 / 4 := by
  unfold z_sub z_load z_claim z_renew
  refine ⟨?_, ?_, ?_⟩ <;> simp [av_lc, av_ld, av_h0, av_sv]
theorem sub_25 {k p c : Nat} {x3 x4 x5 : Int32} {a : AS} : av (z_sub k p c x3 x4 x5 a) 25 0 0 = av a 25 0 0 + 1 := by
  unfold z_sub z_load z_claim z_renew
  simp [av_lc, av_ld, av_h0, av_sv]
