/-! the whole invariant: submit, either way -/
theorem vac_of {a : AS} {k : Nat} (h : z_vacant a = some k) : k < 6 ∧ (av a 14 k 0 = 0 ∨ av a 14 k 0 = 3) := by
  unfold z_vacant at h
  obtain ⟨h1, h2, -⟩ := List.find?_range_eq_some.mp h
  refine ⟨List.mem_range.mp h2, ?_⟩
  unfold z_vj at h1
  simpa using h1
theorem GI_submit {n c : Nat} {x1 x2 x3 x4 x5 : Int32} {a : AS} (h : GI n c a) (hn : n ≤ 12) (hc : c < 2 ^ 30) : GI n (c + 1) (z_submit x1 x2 x3 x4 x5 a).2 := by
  have h9 : G9 a := h 9 (by decide)
  have hB : GB a := h 3 (by decide)
  obtain ⟨t, ht, ht2⟩ := h9
  have no : GI n (c + 1) (sv 4 0 0 0 a) := by
    refine GI_step (GI_more h (Nat.le_succ c)) [4] [] (fun g hg i j => av_o (by simpa using hg)) (fun q _ => rfl) (c15 ?_ ?_ ?_ ?_ ?_ ?_ ?_ ?_ ?_ ?_ ?_ ?_ ?_ ?_ ?_)
    all_goals first | exact fun y => absurd y (by decide) | skip
    exact fun _ => ⟨0, by rw [av_s]; rfl, by decide⟩
  unfold z_submit
  by_cases hg : z_good x1 x2 x3 x4 x5 a = true
  · rw [if_pos hg]
    cases hv : z_vacant a with
    | none => exact no
    | some k =>
      obtain ⟨hk, h14⟩ := vac_of hv
      unfold z_good at hg
      simp only [Bool.and_eq_true, Bool.not_eq_true', decide_eq_false_iff_not] at hg
      obtain ⟨hd, e1, e2, e3, e4⟩ := hg
      obtain ⟨p, cc, g, rfl, rfl, rfl, g1, g8, p16, c40, pct⟩ := deck_n ht ht2 hd
      obtain ⟨u, hu0, rfl⟩ := nI_of e3
      obtain ⟨pg, b1, b2, b3, -⟩ := hB
      have e5 : nI u / 4 = nI (u / 4) := pk_div (d := 4) hu0 (by decide) (by decide)
      rw [e5, b1] at e4
      have hu4 : u / 4 ≤ pg := Classical.byContradiction fun hh => e4 (nI_lt (by omega) (by omega))
      show GI n (c + 1) (sv 4 0 0 0 (z_sub k (nI p).toNatClampNeg (nI cc).toNatClampNeg (nI g) x4 (nI u) a))
      rw [show (nI p).toNatClampNeg = p from nI_clamp (by omega), show (nI cc).toNatClampNeg = cc from nI_clamp (by omega)]
      refine GI_sub (g := g) (m := u) h hn hc hk h14 rfl g8 c40 rfl (by omega) (fun pg' y1 y2 => ?_)
      rw [b1] at y1
      obtain rfl : pg = pg' := nI_inj (by omega) (by omega) y1
      exact hu4
  · rw [if_neg hg]
    exact no
