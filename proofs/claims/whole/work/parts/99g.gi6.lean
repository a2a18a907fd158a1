/-! the whole invariant: the step of a job -/
theorem GI_trap {n c k : Nat} {a : AS} (h : GI n c a) (hk : k < 6) (hm : k ∈ al a 0) : GI n c (z_trap k a) :=
  GI_out (o := 4) h hk (run_of h hk hm).1 (by decide)
theorem GI_c {n c k : Nat} {x : Int32} {a : AS} (h : GI n c a) (hk : k < 6) (hm : k ∈ al a 0) : GI n c (z_comp n k x a) := GI_comp h (run_of h hk hm).2.2.1
theorem GI_c19 {n c k : Nat} {x y : Int32} {a : AS} (h : GI n c a) (hk : k < 6) (hm : k ∈ al a 0) : GI n c (z_comp n k x (sv 19 k 0 y a)) := GI_c (GI_19 h) hk hm
theorem al_sayz {x : Int32} {a : AS} (q : Nat) : al (z_say x a) q = al a q := by unfold z_say; split <;> rfl
theorem GI_cmp {n c k : Nat} {kind v : Int32} {a : AS} (h : GI n c a) (hk : k < 6) (hm : k ∈ al a 0) : GI n c (z_cmp n k kind v a) := by
  unfold z_cmp
  split
  · exact GI_c19 h hk hm
  · split
    · exact GI_c19 h hk hm
    · split
      · exact GI_c19 h hk hm
      · split
        · split
          · exact GI_trap h hk hm
          · exact GI_c19 h hk hm
        · split
          · exact GI_comp20 h (run_of h hk hm).2.2.1
          · exact GI_c19 h hk hm
theorem find_none {n k s : Nat} {a : AS} (h : z_find n k (nI s) a = none) : ∀ f, f < n → ¬ ow a f k s := fun f hf y => by
  unfold z_find at h
  rw [List.find?_eq_none] at h
  exact h f (List.mem_range.mpr hf) (ow_mt y)
theorem find_ow {n k s f : Nat} {a : AS} (hF : GF n a) (hk : k < 6) (h : z_find n k (nI s) a = some f) (hs : s < 8) : f < n ∧ ow a f k s := by
  have hf := find_lt h
  unfold z_find at h
  obtain ⟨t, t1, t2, t3⟩ := mt_ow hF hf hk (List.find?_some h)
  obtain rfl : s = t := nI_inj (by omega) (by omega) t2
  exact ⟨hf, t3⟩
theorem GI_op {n c k f : Nat} {kind x : Int32} {a : AS} (h : GI n c a) (hn : n ≤ 12) (hk : k < 6) (hm : k ∈ al a 0) (hnd : ∀ m, m < 128 → x = nI m → nd n a k (m / 16)) : GI n c (z_op n k f kind x a) := by
  have h5 : G5 a := h 6 (by decide)
  have hF : GF n a := h 13 (by decide)
  obtain ⟨g, hg1, hg2⟩ := (h5 k hk).2.2
  unfold z_op
  split
  · rename_i cc
    obtain ⟨m, rfl, hm2⟩ := has_lt hg1 hg2 cc
    have hd := (fmd16 m (by omega)).2.2
    rw [hd]
    cases hz : z_find n k (nI (m / 16)) a with
    | none => exact GI_ask h hk hm (by omega) (find_none hz) (hnd m (by omega) rfl)
    | some e =>
      obtain ⟨he, ho⟩ := find_ow hF hk hz (by omega)
      have h2 : GI n c (z_use e (z_use f a)) := GI_use (GI_use h)
      simp only
      split
      · exact GI_store h2 hn hk hm he ⟨by rw [vo_use (by decide), vo_use (by decide)]; exact ho.1, by rw [vo_use (by decide), vo_use (by decide)]; exact ho.2⟩
      · exact GI_cmp h2 hk hm
  · exact GI_trap (GI_use h) hk hm
theorem GI_get {n c k : Nat} {x : Int32} {a : AS} (h : GI n c a) (hk : k < 6) (hm : k ∈ al a 0) : GI n c (z_get n k x a) := by
  obtain ⟨q1, q2, q3, q4, q5⟩ := run_of h hk hm
  unfold z_get
  split
  · exact GI_trap h hk hm
  · rename_i c1
    rw [not_or] at c1
    obtain ⟨r, hr, rfl⟩ := lt3 c1.1 (Classical.not_not.mp c1.2)
    rw [show (nI r).toNatClampNeg = r from nI_clamp (by omega)]
    split
    · rename_i c2
      split
      · rename_i c3
        exact GI_c (GI_in h hk hr q1 q4 (gr_free c3) c2) hk hm
      · exact GI_wait h hk hm hr c2
    · exact GI_out (o := 3) h hk q1 (by decide)
theorem GI_give {n c k : Nat} {x : Int32} {a : AS} (h : GI n c a) (hk : k < 6) (hm : k ∈ al a 0) : GI n c (z_give n k x a) := by
  obtain ⟨q1, q2, q3, q4, q5⟩ := run_of h hk hm
  have key : GI n c (z_tb n k x a).2 := by
    unfold z_tb
    split
    · exact GI_trap h hk hm
    · rename_i c1
      rw [not_or] at c1
      obtain ⟨r, hr, rfl⟩ : ∃ r, r < 3 ∧ x = nI r := by
        obtain ⟨r, hr, e⟩ := nI_of c1.1
        refine ⟨r, Classical.byContradiction fun y => c1.2 ?_, e⟩
        rw [e]
        exact nI_le (a := 3) (by omega) hr
      rw [show (nI r).toNatClampNeg = r from nI_clamp (by omega)]
      split
      · rename_i c2
        split
        · exact GI_susp h hk hm (by decide)
        · rename_i c3
          refine GI_c (GI_back h hk hr q1 q4 c2 (fun y => ?_)) hk hm
          refine Classical.byContradiction fun z => c3 ⟨fun e => y ?_, z⟩
          exact nI_inj (by omega) (by decide) e
      · exact GI_trap h hk hm
  unfold z_give
  split
  · exact key
  · exact GI_gtw key
theorem GI_ctl {n c k : Nat} {kind x : Int32} {a : AS} (h : GI n c a) (hk : k < 6) (hm : k ∈ al a 0) : GI n c (z_ctl n k kind x a) := by
  obtain ⟨q1, q2, q3, q4, q5⟩ := run_of h hk hm
  unfold z_ctl
  split
  · have h' : GI n c (z_comp n k (av a 18 k 0 + 1) a) := GI_c h hk hm
    exact GI_out (o := 1) h' hk (run_of h' hk hm).1 (by decide)
  · split
    · exact GI_c h hk hm
    · split
      · exact GI_c h hk hm
      · split
        · exact GI_c h hk hm
        · split
          · unfold z_read
            split
            · exact GI_trap h hk hm
            · rename_i c1
              exact GI_read h hk hm (fun y => c1 (Or.inr y))
          · split
            · unfold z_print
              split
              · exact GI_trap h hk hm
              · rename_i c1
                split
                · rename_i c2
                  exact GI_print h hk hm (fun y => c1 (Or.inl y)) c2
                · exact GI_susp h hk hm (by decide)
            · split
              · unfold z_asks
                refine GI_susp (GI_say (GI_say (GI_say h))) hk ?_ (by decide)
                rw [al_sayz, al_sayz, al_sayz]; exact hm
              · split
                · exact GI_get h hk hm
                · split
                  · exact GI_give h hk hm
                  · split
                    · exact GI_c19 h hk hm
                    · exact GI_c19 h hk hm
theorem GI_end {n c k : Nat} {a : AS} (h : GI n c a) (hn : n ≤ 12) (hk : k < 6) (hm : k ∈ al a 0) : GI n c (z_end n k a) := by
  unfold z_end
  split
  · rename_i c1
    have h' := GI_ov h hn hk hm c1
    have e2 : al (z_ov n k a) 2 = al a 2 := by
      unfold z_ov z_over
      rw [al_sayz, al_sayz, al_sayz, al_sayz]
      rfl
    have := GI_gtw h'
    rw [e2] at this
    exact this
  · exact GI_susp h hk hm (by decide)
theorem GI_att {n c k : Nat} {a : AS} (h : GI n c a) (hn : n ≤ 12) (hk : k < 6) (hm : k ∈ al a 0) : GI n c (z_att n k a) := by
  have h5 : G5 a := h 6 (by decide)
  have hF : GF n a := h 13 (by decide)
  obtain ⟨g, hg1, hg2⟩ := (h5 k hk).2.2
  unfold z_att
  split
  · rename_i cc
    obtain ⟨m, em, hm2⟩ := has_lt hg1 hg2 cc
    have hd := (fmd16 m (by omega)).2.2
    rw [em, hd, show (nI m).toNatClampNeg = m from nI_clamp (by omega)]
    cases hz : z_find n k (nI (m / 16)) a with
    | none => exact GI_ask h hk hm (by omega) (find_none hz) ⟨m, by omega, em, Or.inl rfl⟩
    | some f =>
      obtain ⟨hf, ho⟩ := find_ow hF hk hz (by omega)
      have hw : wd n k (m / 16) (m % 16) a = av a 38 f (m % 16) := wd_core hF hn hk (by omega) hf ho
      simp only
      unfold z_exec
      split
      · exact GI_trap (GI_use h) hk hm
      · split
        · rename_i _ c2
          refine GI_op h hn hk hm (fun y hy e => ⟨m, by omega, em, Or.inr ⟨by rw [hw]; exact c2, y, hy, ?_, rfl⟩⟩)
          rw [hw]
          exact e
        · split
          · exact GI_ctl (GI_use h) hk hm
          · exact GI_trap (GI_use h) hk hm
  · exact GI_trap h hk hm
theorem GI_job {n c k : Nat} {a : AS} (h : GI n c a) (hn : n ≤ 12) (hk : k < 6) (hm : k ∈ al a 0) : GI n c (z_job n k a) := by
  obtain ⟨q1, q2, q3, q4, q5⟩ := run_of h hk hm
  unfold z_job
  split
  · split
    · split
      · exact GI_att h hn hk hm
      · exact GI_out (o := 2) h hk q1 (by decide)
    · exact GI_out (o := 5) h hk q1 (by decide)
  · exact GI_end h hn hk hm
