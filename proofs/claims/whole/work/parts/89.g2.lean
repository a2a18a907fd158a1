/-! THE INVARIANT, group 2: the row of those who wait for a resource -/
def G2 (a : AS) : Prop := (al a 2).Nodup ∧ ∀ k ∈ al a 2, k < 6 ∧ av a 10 k 0 = 6 ∧ nv a 29 k 0 < 3 ∧ av a 29 k 0 = nI (nv a 29 k 0) ∧ nv a 27 k (nv a 29 k 0) < nv a 26 k (nv a 29 k 0)
theorem G2_gw {a : AS} (hB : GB a) (h : G2 a) : GW a := ⟨GB_bk hB, h.1, fun k hk => by
  obtain ⟨q1, q2, q3, q4, q5⟩ := h.2 k hk
  exact ⟨q1, q3, q4, q5⟩⟩
theorem G2_sub {a b : AS} (h : G2 a) (hs : (al b 2).Nodup) (hm : ∀ k ∈ al b 2, k ∈ al a 2) (e10 : ∀ k ∈ al b 2, av b 10 k 0 = av a 10 k 0) (e29 : ∀ k ∈ al b 2, av b 29 k 0 = av a 29 k 0) (e27 : ∀ k ∈ al b 2, ∀ r, r < 3 → av b 27 k r = av a 27 k r) (e26 : ∀ k ∈ al b 2, ∀ r, r < 3 → av b 26 k r = av a 26 k r) : G2 b := by
  refine ⟨hs, fun k hk => ?_⟩
  obtain ⟨q1, q2, q3, q4, q5⟩ := h.2 k (hm k hk)
  have n29 := nve (e29 k hk)
  rw [n29, e10 k hk, e29 k hk, nve (e27 k hk _ q3), nve (e26 k hk _ q3)]
  exact ⟨q1, q2, q3, q4, q5⟩
theorem G2_eq {a b : AS} (h : G2 a) (el : al b 2 = al a 2) (e10 : ∀ k ∈ al a 2, av a 10 k 0 = 6 → av b 10 k 0 = 6) (e29 : ∀ k ∈ al a 2, av b 29 k 0 = av a 29 k 0) (e27 : ∀ k ∈ al a 2, ∀ r, r < 3 → av b 27 k r = av a 27 k r) (e26 : ∀ k ∈ al a 2, ∀ r, r < 3 → av b 26 k r = av a 26 k r) : G2 b := by
  refine G2_sub h (by rw [el]; exact h.1) (fun k hk => by rw [el] at hk; exact hk) (fun k hk => ?_) (fun k hk => ?_) (fun k hk => ?_) (fun k hk => ?_) <;> rw [el] at hk
  · rw [(h.2 k hk).2.1, e10 k hk (h.2 k hk).2.1]
  · exact e29 k hk
  · exact e27 k hk
  · exact e26 k hk
theorem gtw_ind {n : Nat} (P : AS → Prop) (hP : ∀ pre k t a, P a → al a 2 = pre ++ k :: t → z_gr k (nv a 29 k 0) a = true → P (z_have n k (nv a 29 k 0) (pre ++ t) a)) : ∀ rest pre a, P a → al a 2 = pre ++ rest → P (z_gtw n pre rest a) := by
  intro rest
  induction rest with
  | nil => intro pre a h _; exact h
  | cons k t ih =>
    intro pre a h hl
    unfold z_gtw
    by_cases c : z_gr k (nv a 29 k 0) a = true
    · rw [if_pos c]
      exact ih pre _ (hP pre k t a h hl c) (by rw [lo_have (by decide), if_pos rfl])
    · rw [if_neg c]
      exact ih (pre ++ [k]) a h (by rw [hl]; simp)
theorem nd_mid {pre t : List Nat} {k : Nat} (h : (pre ++ k :: t).Nodup) : (pre ++ t).Nodup ∧ k ∉ pre ++ t := by
  rw [List.nodup_append] at h
  obtain ⟨n1, n2, n3⟩ := h
  rw [List.nodup_cons] at n2
  refine ⟨List.nodup_append.mpr ⟨n1, n2.2, fun x hx y hy => n3 x hx y (List.mem_cons_of_mem _ hy)⟩, fun hm => ?_⟩
  rcases List.mem_append.mp hm with hm | hm
  · exact n3 k hm k List.mem_cons_self rfl
  · exact n2.1 hm
theorem mem_mid {pre t : List Nat} {j k : Nat} (h : j ∈ pre ++ t) : j ∈ pre ++ k :: t := by
  rcases List.mem_append.mp h with hm | hm
  · exact List.mem_append_left _ hm
  · exact List.mem_append_right _ (List.mem_cons_of_mem _ hm)
theorem vk_have {n k r j : Nat} {l : List Nat} {a : AS} (hj : j ≠ k) {g c : Nat} (h : g = 10 ∨ g = 26 ∨ g = 27 ∨ g = 29) : av (z_have n k r l a) g j c = av a g j c := by
  rcases h with rfl | rfl | rfl | rfl
  · unfold z_have
    rw [av_wake, if_neg (fun y => hj y.2.1), vo_comp (by decide) (by decide) (by decide), av_sl, vo_move (by decide) (by decide)]
  · rw [vo_have (by decide) (by decide) (by decide) (by decide), vo_move (by decide) (by decide)]
  · rw [vo_have (by decide) (by decide) (by decide) (by decide)]
    unfold z_move
    rw [av_sv, if_neg (fun y => hj y.2.1), av_o (by decide)]
  · rw [vo_have (by decide) (by decide) (by decide) (by decide), vo_move (by decide) (by decide)]
theorem G2_have {n k : Nat} {pre t : List Nat} {a : AS} (h : G2 a) (hl : al a 2 = pre ++ k :: t) : G2 (z_have n k (nv a 29 k 0) (pre ++ t) a) := by
  have hN := h.1
  rw [hl] at hN
  have hnd := nd_mid hN
  have el : al (z_have n k (nv a 29 k 0) (pre ++ t) a) 2 = pre ++ t := by rw [lo_have (by decide), if_pos rfl]
  have hne : ∀ j ∈ pre ++ t, j ≠ k := fun j hj e => hnd.2 (e ▸ hj)
  refine G2_sub h ?_ (fun j hj => ?_) (fun j hj => ?_) (fun j hj => ?_) (fun j hj r hr => ?_) (fun j hj r hr => ?_)
  · rw [el]; exact hnd.1
  · rw [el] at hj; rw [hl]; exact mem_mid hj
  · rw [el] at hj; exact vk_have (hne j hj) (by decide)
  · rw [el] at hj; exact vk_have (hne j hj) (by decide)
  · rw [el] at hj; exact vk_have (hne j hj) (by decide)
  · rw [el] at hj; exact vk_have (hne j hj) (by decide)
theorem GB_have {n k : Nat} {pre t : List Nat} {a : AS} (hB : GB a) (h : G2 a) (h14 : av a 14 k 0 = 2) (hl : al a 2 = pre ++ k :: t) (hg : z_gr k (nv a 29 k 0) a = true) : GB (z_have n k (nv a 29 k 0) (pre ++ t) a) := by
  have hk : k ∈ al a 2 := by rw [hl]; simp
  obtain ⟨q1, q2, q3, q4, q5⟩ := h.2 k hk
  exact GB_in hB q1 q3 h14 (gr_free hg) q5 (fun g hgg i j => vo_have (by omega) (by omega) (by omega) (by omega))
theorem G2_wait {k r : Nat} {a : AS} (h : G2 a) (hB : GB a) (hk : k < 6) (hr : r < 3) (h10 : av a 10 k 0 = 0) (hlt : av a 27 k r < av a 26 k r) : G2 (z_susp k 6 (sl 2 (al a 2 ++ [k]) (sv 29 k 0 (nI r) a))) := by
  have hkl : k ∉ al a 2 := fun y => by
    have := (h.2 k y).2.1
    rw [h10] at this
    exact absurd this (by decide)
  generalize hZ : z_susp k 6 (sl 2 (al a 2 ++ [k]) (sv 29 k 0 (nI r) a)) = Z
  have el : al Z 2 = al a 2 ++ [k] := by rw [← hZ, lo_susp (by decide)]; rfl
  have e10 : ∀ j, av Z 10 j 0 = if j = k then 6 else av a 10 j 0 := fun j => by rw [← hZ, s10, av_sl, av_o (by decide)]
  have e29 : ∀ j, av Z 29 j 0 = if j = k then nI r else av a 29 j 0 := fun j => by
    rw [← hZ, vo_susp (by decide) (by decide), av_sl, av_sv]
    by_cases c : j = k
    · rw [if_pos ⟨rfl, c, rfl⟩, if_pos c]
    · rw [if_neg (fun y => c y.2.1), if_neg c]
  have e27 : ∀ j q, av Z 27 j q = av a 27 j q := fun j q => by rw [← hZ, vo_susp (by decide) (by decide), av_sl, av_o (by decide)]
  have e26 : ∀ j q, av Z 26 j q = av a 26 j q := fun j q => by rw [← hZ, vo_susp (by decide) (by decide), av_sl, av_o (by decide)]
  refine ⟨by rw [el]; exact nd_app h.1 hkl, fun j hj => ?_⟩
  rw [el, List.mem_append, List.mem_singleton] at hj
  by_cases c : j = k
  · subst c
    have n29 : nv Z 29 j 0 = r := nvI (by rw [e29, if_pos rfl]) (by omega)
    rw [n29, e10, if_pos rfl, e29, if_pos rfl, nve (e27 j r), nve (e26 j r)]
    exact ⟨hk, rfl, hr, rfl, (lt_nv (GB_bk hB) hk hr).mp hlt⟩
  · have hja := hj.resolve_right c
    obtain ⟨q1, q2, q3, q4, q5⟩ := h.2 j hja
    have n29 : nv Z 29 j 0 = nv a 29 j 0 := nve (by rw [e29, if_neg c])
    rw [n29, e10, if_neg c, e29, if_neg c, nve (e27 j _), nve (e26 j _)]
    exact ⟨q1, q2, q3, q4, q5⟩
