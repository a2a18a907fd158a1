/-! what the calls want of the invariant -/
theorem I10_01 : ¬ (1 : Int32) = 0 := by decide
theorem GA_mz {a : AS} (h : GA a) : MZ a := by
  refine ⟨h.1.1, h.1.2, h.2.2.1, fun s hs e => ?_⟩
  obtain ⟨g6, g7, g8, g9⟩ := h.2.2.2.1
  have no : ∀ x : Int32, x = 1 → ¬ x = 0 := fun x y z => I10_01 (by rw [← y, z])
  have hc : s = 0 ∨ s = 1 ∨ s = 2 ∨ s = 3 ∨ s = 4 ∨ s = 5 ∨ s = 6 := by omega
  rcases hc with rfl | rfl | rfl | rfl | rfl | rfl | rfl
  · exact fun (y : 6 ∈ al a 0) => no _ e (g6.mp y).1
  · exact fun (y : 6 ∈ al a 0) => no _ e (g6.mp y).2
  · exact fun (y : 7 ∈ al a 0) => no _ e (g7.mp y).1
  · exact fun (y : 7 ∈ al a 0) => no _ e (g7.mp y).2
  · exact fun (y : 8 ∈ al a 0) => no _ e (g8.mp y).1
  · exact fun (y : 8 ∈ al a 0) => no _ e (g8.mp y).2
  · exact fun (y : 9 ∈ al a 0) => no _ e (g9.mp y)
theorem GI_md {n c : Nat} {a : AS} (h : GI n c a) : MD n a := by
  have h1 : G1 a := h 1 (by decide)
  have hF : GF n a := h 13 (by decide)
  intro h45
  have e12 := h1.2.2.2.2.2.2.2.2.1 h45
  have h12 : ¬ av a 12 0 0 = 0 := by rw [e12]; exact h45
  obtain ⟨f, f1, f2, f3⟩ := hF.2.2.2.1 h12
  obtain ⟨k, k1, k2, k3, k4⟩ := h1.2.2.2.1 h12
  obtain ⟨s, s1, s2, s3⟩ := hF.2.2.1 k k1 (Or.inr ⟨h12, k2⟩)
  refine ⟨h1.2.2.2.2.2.2.1.resolve_left h45, h12, ⟨f, f1, f2⟩, ⟨k, s, k1, s1, k2, s2⟩, fun y => ?_⟩
  obtain ⟨j, s, j1, j2, j3, j4, j5⟩ := hF.2.2.2.2.1 y
  exact ⟨j, s, j1, j2, j3, j4, fun z => (j5 z).1⟩
theorem GI_dr {n c : Nat} {a : AS} (h : GI n c a) : DR n a := by
  intro h45
  obtain ⟨d1, d2, d3, d4, d5⟩ := GI_md h h45
  refine ⟨d3, fun y => ?_, fun _ => d4⟩
  obtain ⟨j, s, j1, j2, j3, j4, j5⟩ := d5 y
  exact ⟨j, s, j1, j2, j3, j4⟩
theorem GI_wq {n c : Nat} {a : AS} (h : GI n c a) : WQ n a := by
  have h5 : G5 a := h 6 (by decide)
  refine ⟨fun y => ?_, fun k hk => (h5 k hk).2.2⟩
  obtain ⟨d1, d2, d3, d4, d5⟩ := GI_md h (by rw [y]; exact I10_01)
  obtain ⟨j, s, j1, j2, j3, j4, j5⟩ := d5 y
  exact ⟨by rw [j3]; exact okr_nI j1 (by decide), d3⟩
theorem GI_wr {n c : Nat} {a : AS} (h : GI n c a) : WR n a := by
  have hA : GA a := h 0 (by decide)
  have hF : GF n a := h 13 (by decide)
  refine ⟨fun k hk => ⟨(hA.2.2.2.2.1 k hk).1, mt_one hF hk⟩, fun k hk h45 h49 h23 h14 => ?_⟩
  obtain ⟨d1, d2, d3, d4, d5⟩ := GI_md h (by rw [h45]; exact I10_01)
  obtain ⟨j, s, j1, j2, j3, j4, j5⟩ := hF.2.2.2.2.1 h45
  obtain rfl : j = k := nI_inj (by omega) (by omega) (by rw [← j3, h49])
  obtain ⟨q1, q2⟩ := j5 h23
  refine ⟨q1.resolve_right h14, ?_, d2⟩
  rw [j4]
  exact find_no hF hk (q2 h14) j2
theorem GI_vac {n c : Nat} {a : AS} (h : GI n c a) : ∀ k, z_vacant a = some k → (av a 14 k 0 = 3 ∨ (¬ av a 14 k 0 = 3 ∧ av a 16 k 0 = 0)) ∧ k ∉ al a 1 ∧ k ∉ al a 2 ∧ (av a 12 0 0 ≠ 0 → (av a 47 0 0).toNatClampNeg ≠ k) ∧ av a 34 k 0 = 0 := by
  intro k hv
  have h1 : G1 a := h 1 (by decide)
  have h2 : G2 a := h 4 (by decide)
  have h4 : G4 a := h 5 (by decide)
  have h5 : G5 a := h 6 (by decide)
  obtain ⟨hk, h14⟩ := vac_of hv
  have n142 : ¬ av a 14 k 0 = 2 := by rcases h14 with e | e <;> rw [e] <;> decide
  obtain ⟨q2, q3, q4⟩ := idle_of h hk n142
  refine ⟨?_, fun y => q3 (Or.inl y), fun y => ?_, fun y z => ?_, ?_⟩
  · rcases h14 with e | e
    · exact Or.inr ⟨by rw [e]; decide, (h5 k hk).2.1 e⟩
    · exact Or.inl e
  · have := (h2.2 k y).2.1
    rw [q2] at this
    exact absurd this (by decide)
  · obtain ⟨j, j1, j2, j3, j4⟩ := h1.2.2.2.1 y
    rw [j2, nI_clamp (by omega)] at z
    exact q3 (Or.inr ⟨y, by rw [j2, z]⟩)
  · obtain ⟨l1, l2, l3⟩ := h4.1 k hk
    have : nv a 34 k 0 = 0 := Nat.eq_zero_of_not_pos (fun y => n142 (l3 y).1)
    rw [l1, this]; rfl
/-! what the steps want of the invariant -/
theorem GI_js {n c k t : Nat} {a : AS} (h : GI n c a) (hk : k < 6) (hm : k ∈ al a 0) (h7 : ∃ m, av a 69 0 0 = nI m ∧ m < 2 ^ 29) : JS k a := by
  have h1 : G1 a := h 1 (by decide)
  have h3 : G3 a := h 2 (by decide)
  have hB : GB a := h 3 (by decide)
  have h2 : G2 a := h 4 (by decide)
  have h4 : G4 a := h 5 (by decide)
  have h5 : G5 a := h 6 (by decide)
  obtain ⟨q1, q2, q3, q4, q5⟩ := run_of h hk hm
  have l1 := len6 h1.1 (fun p hp => (h1.2.1 p hp).1)
  have l2 := len6 h2.1 (fun p hp => (h2.2 p hp).1)
  have l3 := len6 h3.1 (fun p hp => (h3.2.1 p hp).1)
  obtain ⟨e34, m24, -⟩ := h4.1 k hk
  refine ⟨by omega, by omega, by omega, ⟨nv a 34 k 0, e34, fun y => ?_⟩, h7, (h5 k hk).2.2, (h5 k hk).1, G2_gw hB h2, q4, fun r hr => ?_⟩
  · obtain ⟨pg, -, p2, p3, p4, -⟩ := hB
    obtain ⟨k1, k2, k3, k4⟩ := p4 k 2 hk (by decide)
    have t := tt_le (r := 2) p2 p3
    have e4 : (4 : Int32) * nI (nv a 27 k 2) = nI (4 * nv a 27 k 2) := four6 (by omega)
    rw [e34, k1, e4] at y
    have := (nI_ltI (by omega) (by omega)).mp y
    omega
  · obtain ⟨pg, -, p2, p3, p4, p5, -⟩ := hB
    obtain ⟨k1, k2, k3, k4⟩ := p4 k r hk hr
    have t := tt_le (r := r) p2 p3
    have := (p5 r hr).2
    omega
theorem GI_mj {n c k : Nat} {t : List Nat} {a : AS} (h : GI n c a) (hk : k < 6) (hl : al a 0 = k :: t) : MJ n k a := by
  have hA : GA a := h 0 (by decide)
  have h1 : G1 a := h 1 (by decide)
  have h3 : G3 a := h 2 (by decide)
  have h2 : G2 a := h 4 (by decide)
  have hF : GF n a := h 13 (by decide)
  have hm : k ∈ al a 0 := by rw [hl]; exact List.mem_cons_self
  obtain ⟨q1, q2, q3, q4, q5⟩ := run_of h hk hm
  have z := GA_mz hA
  have q6 : k ∉ al a 1 := fun y => q3 (Or.inl y)
  refine ⟨⟨t, hl⟩, z.1, z.2.1, z.2.2.1, z.2.2.2, q6, q4, len6' h1.1 (fun p hp => (h1.2.1 p hp).1) hk q6, len6' h2.1 (fun p hp => (h2.2 p hp).1) hk q4, len6' h3.1 (fun p hp => (h3.2.1 p hp).1) hk q5, fun y w => ?_, q1, mt_one hF hk⟩
  obtain ⟨j, j1, j2, j3, j4⟩ := h1.2.2.2.1 y
  rw [j2, nI_clamp (by omega)] at w
  exact q3 (Or.inr ⟨y, by rw [j2, w]⟩)
theorem le0_iff {m : Nat} (h : m < 2 ^ 31) {x : Int32} (e : x = nI m) : (x ≤ 0 ↔ x = 0) := by
  subst e
  constructor
  · intro y
    have := (nI_leI (b := 0) h (by decide)).mp y
    rw [show m = 0 by omega]
    rfl
  · intro y
    rw [y]
    decide
theorem GI_off {n c : Nat} {a : AS} (h : GI n c a) {k : Nat} (hk : k < 6) (h10 : ¬ av a 10 k 0 = 0) : k ∉ al a 0 := fun y => by
  have hA : GA a := h 0 (by decide)
  exact h10 ((hA.2.1 k hk).mp y).2
theorem GI_on {n c : Nat} {a : AS} (h : GI n c a) {k : Nat} (hk : k < 6) (h10 : ¬ av a 10 k 0 = 0) : av a 14 k 0 = 2 := by
  have hA : GA a := h 0 (by decide)
  exact Classical.byContradiction fun y => h10 ((hA.2.2.2.2.1 k hk).2 y)
theorem GI_gv {n c : Nat} {a : AS} (h : GI n c a) : GV none a := by
  have hA : GA a := h 0 (by decide)
  have h2 : G2 a := h 4 (by decide)
  refine ⟨hA.1.1, hA.1.2, fun j hj => GI_off h (h2.2 j hj).1 ?_⟩
  rw [(h2.2 j hj).2.1]
  decide
theorem GI_mn {n c k : Nat} {a : AS} (h : GI n c a) (hk : k < 6) : MN k a := by
  have hB : GB a := h 3 (by decide)
  have h6 : G6 a := h 7 (by decide)
  obtain ⟨pg, -, p2, p3, p4, -⟩ := hB
  have b : ∀ r, r < 3 → nv a 27 k r < 2 ^ 31 := fun r hr => by
    obtain ⟨k1, k2, k3, k4⟩ := p4 k r hk hr
    have t := tt_le (r := r) p2 p3
    omega
  refine ⟨le0_iff (b 0 (by decide)) (p4 k 0 hk (by decide)).1, ?_, le0_iff (b 1 (by decide)) (p4 k 1 hk (by decide)).1, ?_, GI_gv h⟩
  · obtain ⟨c, m, e1, e2, e3, e4, -⟩ := h6 k hk
    rw [e1, e3]
    constructor
    · intro y
      have := (nI_leI (by omega) (by omega)).mp y
      rw [show c = m by omega]
    · intro y
      rw [y]
      exact Int32.le_refl _
  · rw [← le0_iff (b 2 (by decide)) (p4 k 2 hk (by decide)).1]
    exact Int32.not_lt
theorem GI_ms {n c p : Nat} {t : List Nat} {a : AS} (h : GI n c a) (hp : 6 ≤ p) (hl : al a 0 = p :: t) : MS p a := by
  have hA : GA a := h 0 (by decide)
  have hm : p ∈ al a 0 := by rw [hl]; exact List.mem_cons_self
  have n01 : ¬ (0 : Int32) = 1 := by decide
  refine ⟨⟨t, hl⟩, hA.1.1, hA.1.2, ?_⟩
  have hp2 := hA.1.2 p hm
  obtain ⟨g6, g7, g8, g9⟩ := hA.2.2.2.1
  have hc : p = 6 ∨ p = 7 ∨ p = 8 ∨ p = 9 := by omega
  rcases hc with rfl | rfl | rfl | rfl
  · obtain ⟨e1, e2⟩ := g6.mp hm
    unfold sg
    rw [if_pos rfl, e1, e2, if_neg n01, if_neg n01]
  · obtain ⟨e1, e2⟩ := g7.mp hm
    unfold sg
    rw [if_neg (by decide), if_pos rfl, e1, e2, if_neg n01, if_neg n01]
  · obtain ⟨e1, e2⟩ := g8.mp hm
    unfold sg
    rw [if_neg (by decide), if_neg (by decide), if_pos rfl, e1, e2, if_neg n01, if_neg n01]
  · have e1 := g9.mp hm
    unfold sg
    rw [if_neg (by decide), if_neg (by decide), if_neg (by decide), if_pos rfl, e1, if_neg n01]
/-- process 6 -/
theorem GI_6 {n c : Nat} {a : AS} (h : GI n c a) (hm : 6 ∈ al a 0) : (av a 12 0 0 = 0 → ∃ f k t, f < n ∧ k < 6 ∧ z_choose n a = some f ∧ al a 1 = k :: t ∧ t.length < 6) ∧ (av a 12 0 0 = 2 → ∃ f k, f < n ∧ k < 6 ∧ av a 46 0 0 = nI f ∧ av a 47 0 0 = nI k ∧ k ∉ al a 0) := by
  have hA : GA a := h 0 (by decide)
  have h1 : G1 a := h 1 (by decide)
  have hF : GF n a := h 13 (by decide)
  have hN : GN n a := h 14 (by decide)
  refine ⟨fun e => ?_, fun e => ?_⟩
  · obtain ⟨cc, e1, e2⟩ := h1.2.2.2.2.1
    rw [if_pos ⟨e, (hA.2.2.2.1.1.mp hm).1⟩] at e2
    cases hl : al a 1 with
    | nil => rw [hl] at e2; simp at e2
    | cons k t =>
      have hkm : k ∈ al a 1 := by rw [hl]; exact List.mem_cons_self
      obtain ⟨k1, k2⟩ := h1.2.1 k hkm
      have k14 := GI_on h k1 (by rw [k2]; exact I10_01)
      obtain ⟨f, f1, f2⟩ := choose_some hF hN k1 k14 (Or.inl hkm) e
      have l1 := len6 h1.1 (fun p hp => (h1.2.1 p hp).1)
      rw [hl, List.length_cons] at l1
      exact ⟨f, k, t, f1, k1, f2, rfl, by omega⟩
  · have h12 : ¬ av a 12 0 0 = 0 := by rw [e]; decide
    obtain ⟨f, f1, f2, f3⟩ := hF.2.2.2.1 h12
    obtain ⟨k, k1, k2, k3, k4⟩ := h1.2.2.2.1 h12
    exact ⟨f, k, f1, k1, f2, k2, GI_off h k1 (by rw [k3]; exact I10_01)⟩
/-- process 7 -/
theorem GI_7 {n c : Nat} {a : AS} (h : GI n c a) (hm : 7 ∈ al a 0) : (av a 54 0 0 < 0 → ∃ k t, k < 6 ∧ al a 3 = k :: t ∧ t.length < 6) ∧ (¬ av a 54 0 0 < 0 → ∃ k c, k < 6 ∧ c < 40 ∧ av a 54 0 0 = nI k ∧ av a 32 k 0 = nI c ∧ k ∉ al a 0 ∧ ¬ av a 31 k 0 ≤ av a 32 k 0) := by
  have hA : GA a := h 0 (by decide)
  have h3 : G3 a := h 2 (by decide)
  have h6 : G6 a := h 7 (by decide)
  refine ⟨fun e => ?_, fun e => ?_⟩
  · obtain ⟨cc, e1, e2⟩ := h3.2.2.2.1
    rw [if_pos ⟨e, (hA.2.2.2.1.2.1.mp hm).1⟩] at e2
    cases hl : al a 3 with
    | nil => rw [hl] at e2; simp at e2
    | cons k t =>
      have hkm : k ∈ al a 3 := by rw [hl]; exact List.mem_cons_self
      have l1 := len6 h3.1 (fun p hp => (h3.2.1 p hp).1)
      rw [hl, List.length_cons] at l1
      exact ⟨k, t, (h3.2.1 k hkm).1, rfl, by omega⟩
  · obtain ⟨k, k1, k2, k3, k4⟩ := h3.2.2.1 e
    obtain ⟨cc, m, e1, e2, e3, e4, e5⟩ := h6 k k1
    have e6 := e5 (Or.inr k2)
    refine ⟨k, cc, k1, by omega, k2, e3, GI_off h k1 (by rw [k3]; decide), fun y => ?_⟩
    rw [e1, e3] at y
    have := (nI_leI (by omega) (by omega)).mp y
    omega
/-- process 8 -/
theorem GI_8 {n c : Nat} {a : AS} (h : GI n c a) (hc : c ≤ 512) (hm : 8 ∈ al a 0) : (av a 55 0 0 < 0 → ∃ k, k < 6 ∧ z_hold a = some k ∧ ∀ j, j < 6 → ((av a 14 j 0 = 2 ∧ av a 27 j 1 = 1) ↔ j = k)) ∧ (¬ av a 55 0 0 < 0 → ∃ k m pm pc, k < 6 ∧ av a 55 0 0 = nI k ∧ av a 34 k 0 = nI m ∧ 0 < m ∧ m ≤ 24 ∧ av a 36 k 0 = nI pm ∧ pm < 5000 ∧ av a 72 0 0 = nI pc ∧ pc < 512) := by
  have hA : GA a := h 0 (by decide)
  have hB : GB a := h 3 (by decide)
  have h4 : G4 a := h 5 (by decide)
  have hP : GPa c a := h 11 (by decide)
  obtain ⟨s4, s5⟩ := hA.2.2.2.1.2.2.1.mp hm
  refine ⟨fun e => ?_, fun e => ?_⟩
  · obtain ⟨cc, e1, e2⟩ := h4.2.2.1
    rw [if_pos s4] at e2
    obtain ⟨k, k1, k2⟩ := LT_some (a := a) (by omega)
    obtain ⟨l1, l2, l3⟩ := h4.1 k k1
    obtain ⟨w1, w2⟩ := hold_of hB k1 (l3 k2).1 (l3 k2).2
    exact ⟨k, k1, w1, w2⟩
  · obtain ⟨k, k1, k2, k3⟩ := h4.2.1 e
    obtain ⟨l1, l2, l3⟩ := h4.1 k k1
    obtain ⟨pc, p1, p2, p3, p4⟩ := hP
    rw [if_pos ⟨e, s5⟩] at p2
    have := pcn_le (a := a) (s := av a 23 k 0) pc
    exact ⟨k, nv a 34 k 0, _, pc, k1, k2, l1, k3, l2, (p4 k k1).2.1, by omega, p1, by omega⟩
theorem GI_mc {n c : Nat} {a : AS} (h : GI n c a) : MC a := by
  have hA : GA a := h 0 (by decide)
  have h2 : G2 a := h 4 (by decide)
  refine ⟨hA.1.1, hA.1.2, h2.1, len6 h2.1 (fun p hp => (h2.2 p hp).1), fun p hp => (h2.2 p hp).1, fun k hk => ⟨fun e y => ?_, fun e => GI_off h hk e, fun e => ⟨fun y => ?_, GI_on h hk (by rw [e]; decide)⟩⟩⟩
  · have := ((hA.2.1 k hk).mp y).1
    rw [e] at this
    exact absurd this (by decide)
  · have := (h2.2 k y).2.1
    rw [e] at this
    exact absurd this (by decide)
