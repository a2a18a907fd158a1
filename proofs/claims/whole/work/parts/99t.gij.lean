/-! the whole invariant: submit, the fields -/
theorem cl28 : ∀ m, m < 28 → (nI m - nI m / 2 * 2 = nI (m % 2)) ∧ (nI m / 2 - nI m / 2 / 2 * 2 = nI (m / 2 % 2)) ∧ nI m / 4 = nI (m / 4) := by decide +kernel
theorem sub_o {k p c : Nat} {x3 x4 x5 : Int32} {a : AS} {g i j : Nat} (hi : i ≠ k) (h1 : g ≠ 25) : av (z_sub k p c x3 x4 x5 a) g i j = av a g i j := by
  unfold z_sub z_load z_claim z_renew
  rw [av_lc, if_neg (fun y => hi y.2.1), av_sv, if_neg (fun y => hi y.2.1), av_ld, if_neg (fun y => hi y.2.1), av_sv, if_neg (fun y => hi y.2.1), av_sv, if_neg (fun y => hi y.2.1), av_sv, if_neg (fun y => hi y.2.1), av_sv, if_neg (fun y => hi y.2.1), av_sv, if_neg (fun y => hi y.2.1), av_h0, if_neg (fun y => hi y.2.1)]
  rw [av_sv, if_neg (fun y => hi y.2.1), av_sv, if_neg (fun y => hi y.2.1), av_sv, if_neg (fun y => hi y.2.1), av_sv, if_neg (fun y => hi y.2.1), av_sv, if_neg (fun y => hi y.2.1), av_sv, if_neg (fun y => hi y.2.1), av_sv, if_neg (fun y => hi y.2.1), av_sv, if_neg (fun y => hi y.2.1), av_sv, if_neg (fun y => hi y.2.1), av_sv, if_neg (fun y => hi y.2.1), av_sv, if_neg (fun y => hi y.2.1), av_sv, if_neg (fun y => hi y.2.1), av_o h1]
theorem sub_g {k p c : Nat} {x3 x4 x5 : Int32} {a : AS} {g : Nat} (h : g ∉ [14, 16, 17, 18, 19, 20, 21, 22, 23, 24, 25, 26, 27, 29, 30, 31, 32, 34, 36, 37]) (i j : Nat) : av (z_sub k p c x3 x4 x5 a) g i j = av a g i j := by
  simp at h
  unfold z_sub z_load z_claim z_renew
  rw [av_lc, if_neg (fun y => by omega), av_o (by omega), av_ld, if_neg (fun y => by omega), av_o (by omega), av_o (by omega), av_o (by omega), av_o (by omega), av_o (by omega), av_h0, if_neg (fun y => by omega), av_o (by omega), av_o (by omega), av_o (by omega), av_o (by omega), av_o (by omega), av_o (by omega), av_o (by omega), av_o (by omega), av_o (by omega), av_o (by omega), av_o (by omega), av_o (by omega), av_o (by omega)]
theorem sub_l {k p c : Nat} {x3 x4 x5 : Int32} {a : AS} (q : Nat) : al (z_sub k p c x3 x4 x5 a) q = al a q := rfl
