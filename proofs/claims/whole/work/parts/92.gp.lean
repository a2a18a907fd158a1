/-! THE INVARIANT, groups S and P: serials, paper -/
def GS (c : Nat) (a : AS) : Prop := ∃ S, av a 25 0 0 = nI S ∧ S ≤ c ∧ (∀ k, k < 6 → ∃ s, av a 23 k 0 = nI s ∧ s ≤ S ∧ (¬ av a 14 k 0 = 0 → 0 < s)) ∧ (∃ s, av a 51 0 0 = nI s ∧ s ≤ S) ∧ ∀ j k, j < 6 → k < 6 → j ≠ k → ¬ av a 14 j 0 = 0 → ¬ av a 23 j 0 = av a 23 k 0
theorem GS_eq {c c' : Nat} {a b : AS} (h : GS c a) (hc : c ≤ c') (e : ∀ g, g = 23 ∨ g = 25 ∨ g = 51 → ∀ i j, av b g i j = av a g i j) (e14 : ∀ k, k < 6 → ¬ av b 14 k 0 = 0 → ¬ av a 14 k 0 = 0) : GS c' b := by
  obtain ⟨S, h1, h2, h3, h4, h5⟩ := h
  refine ⟨S, by rw [e 25 (by decide)]; exact h1, by omega, fun k hk => ?_, by rw [e 51 (by decide)]; exact h4, fun j k hj hk hn y => ?_⟩
  · obtain ⟨s, q1, q2, q3⟩ := h3 k hk
    exact ⟨s, by rw [e 23 (by decide)]; exact q1, q2, fun y => q3 (e14 k hk y)⟩
  · rw [e 23 (by decide), e 23 (by decide)]
    exact h5 j k hj hk hn (e14 j hj y)
theorem GS_take {c : Nat} {a b : AS} {j : Nat} (h : GS c a) (hj : j < 6) (e : ∀ g, g = 14 ∨ g = 23 ∨ g = 25 → ∀ i j, av b g i j = av a g i j) (e51 : av b 51 0 0 = av a 23 j 0) : GS c b := by
  obtain ⟨S, h1, h2, h3, h4, h5⟩ := h
  refine ⟨S, by rw [e 25 (by decide)]; exact h1, h2, fun k hk => ?_, ?_, fun j k hj hk hn y => ?_⟩
  · rw [e 23 (by decide), e 14 (by decide)]; exact h3 k hk
  · obtain ⟨s, q1, q2, q3⟩ := h3 j hj
    exact ⟨s, by rw [e51]; exact q1, q2⟩
  · rw [e 14 (by decide)] at y
    rw [e 23 (by decide), e 23 (by decide)]
    exact h5 j k hj hk hn y
theorem GS_sub {c : Nat} {a b : AS} {k : Nat} (h : GS c a) (hc : c < 2 ^ 30) (hk : k < 6) (e51 : av b 51 0 0 = av a 51 0 0) (e25 : av b 25 0 0 = av a 25 0 0 + 1) (e23 : ∀ j, av b 23 j 0 = if j = k then av a 25 0 0 + 1 else av a 23 j 0) (e14 : ∀ j, av b 14 j 0 = if j = k then 1 else av a 14 j 0) : GS (c + 1) b := by
  obtain ⟨S, h1, h2, h3, h4, h5⟩ := h
  rw [h1, nI_1] at e25 e23
  refine ⟨S + 1, e25, by omega, fun j hj => ?_, ?_, fun i j hi hj hn y => ?_⟩
  · obtain ⟨s, q1, q2, q3⟩ := h3 j hj
    rw [e23, e14]
    by_cases e : j = k
    · rw [if_pos e, if_pos e]
      exact ⟨S + 1, rfl, by omega, fun _ => by omega⟩
    · rw [if_neg e, if_neg e]
      exact ⟨s, q1, by omega, q3⟩
  · obtain ⟨s, q1, q2⟩ := h4
    exact ⟨s, by rw [e51]; exact q1, by omega⟩
  · obtain ⟨s, q1, q2, q3⟩ := h3 j hj
    obtain ⟨s', q1', q2', q3'⟩ := h3 i hi
    rw [e14] at y
    rw [e23, e23]
    by_cases e : i = k
    · rw [if_pos e, if_neg (fun z => hn (e.trans z.symm)), q1]
      intro z
      have := nI_inj (by omega) (by omega) z
      omega
    · rw [if_neg e] at y ⊢
      by_cases e2 : j = k
      · rw [if_pos e2, q1']
        intro z
        have := nI_inj (by omega) (by omega) z
        omega
      · rw [if_neg e2]
        exact h5 i j hi hj hn y
theorem pcn_eq {a b : AS} {s : Int32} : ∀ m, (∀ q, q < m → av b 77 q 0 = av a 77 q 0) → pcn b s m = pcn a s m := by
  intro m
  induction m with
  | zero => intro _; rfl
  | succ m ih =>
    intro h
    simp only [pcn]
    rw [ih (fun q hq => h q (by omega)), h m (by omega)]
theorem pcn_0 {a : AS} {s : Int32} : ∀ m, (∀ q, q < m → ¬ av a 77 q 0 = s) → pcn a s m = 0 := by
  intro m
  induction m with
  | zero => intro _; rfl
  | succ m ih =>
    intro h
    simp only [pcn]
    rw [ih (fun q hq => h q (by omega)), if_neg (h m (by omega))]
def GPa (c : Nat) (a : AS) : Prop := ∃ pc, av a 72 0 0 = nI pc ∧ (pc + if ¬ av a 55 0 0 < 0 ∧ av a 71 5 0 = 0 then 1 else 0) ≤ c ∧
  (∀ q, q < pc → ∃ s, av a 77 q 0 = nI s ∧ s ≤ nv a 25 0 0) ∧
  ∀ k, k < 6 → (av a 14 k 0 = 0 → av a 36 k 0 = 0) ∧ av a 36 k 0 = nI (pcn a (av a 23 k 0) pc) ∧ ∀ i, i < pcn a (av a 23 k 0) pc → ∃ q, q < pc ∧ av a 77 q 0 = av a 23 k 0 ∧ av a 76 q 0 = av a 35 k i ∧ pcn a (av a 23 k 0) q = i
theorem GPa_pq {c : Nat} {a : AS} (h : GPa c a) (hc : c ≤ 512) : ∃ pc, PQ pc a := by
  obtain ⟨pc, h1, h2, h3, h4⟩ := h
  refine ⟨pc, h1, by omega, fun k hk => ?_⟩
  obtain ⟨q1, q2, q3⟩ := h4 k hk
  have hle := pcn_le (a := a) (s := av a 23 k 0) pc
  have e : nv a 36 k 0 = pcn a (av a 23 k 0) pc := nvI q2 (by omega)
  rw [e]
  exact ⟨q1, q2, by omega, q3⟩
theorem GPa_eq {c c' : Nat} {a b : AS} (h : GPa c a) (hc : c ≤ c') (e : ∀ g, g = 23 ∨ g = 25 ∨ g = 35 ∨ g = 36 ∨ g = 72 ∨ g = 76 ∨ g = 77 → ∀ i j, av b g i j = av a g i j) (e14 : ∀ k, k < 6 → av b 14 k 0 = 0 → av a 14 k 0 = 0) (eI : (if ¬ av b 55 0 0 < 0 ∧ av b 71 5 0 = 0 then 1 else 0) ≤ (if ¬ av a 55 0 0 < 0 ∧ av a 71 5 0 = 0 then 1 else 0) + (c' - c)) : GPa c' b := by
  obtain ⟨pc, h1, h2, h3, h4⟩ := h
  refine ⟨pc, by rw [e 72 (by decide)]; exact h1, by omega, fun q hq => ?_, fun k hk => ?_⟩
  · rw [e 77 (by decide), nve (e 25 (by decide) 0 0)]
    exact h3 q hq
  · obtain ⟨q1, q2, q3⟩ := h4 k hk
    have ep : ∀ s m, pcn b s m = pcn a s m := fun s m => pcn_eq m (fun q _ => e 77 (by decide) q 0)
    rw [e 36 (by decide), e 23 (by decide), ep]
    refine ⟨fun y => q1 (e14 k hk y), q2, fun i hi => ?_⟩
    obtain ⟨q, x1, x2, x3, x4⟩ := q3 i hi
    exact ⟨q, x1, by rw [e 77 (by decide)]; exact x2, by rw [e 76 (by decide), e 35 (by decide)]; exact x3, by rw [ep]; exact x4⟩
theorem GPa_sub {c : Nat} {a b : AS} {k : Nat} (h : GPa c a) (hS : GS c a) (hc : c < 2 ^ 30) (e : ∀ g, g = 35 ∨ g = 55 ∨ g = 71 ∨ g = 72 ∨ g = 76 ∨ g = 77 → ∀ i j, av b g i j = av a g i j) (e25 : av b 25 0 0 = av a 25 0 0 + 1) (e23 : ∀ j, av b 23 j 0 = if j = k then av a 25 0 0 + 1 else av a 23 j 0) (e14 : ∀ j, av b 14 j 0 = if j = k then 1 else av a 14 j 0) (e36 : ∀ j, av b 36 j 0 = if j = k then 0 else av a 36 j 0) : GPa (c + 1) b := by
  obtain ⟨S, s1, s2, -⟩ := hS
  have n25 : nv a 25 0 0 = S := nvI s1 (by omega)
  obtain ⟨pc, h1, h2, h3, h4⟩ := h
  rw [s1, nI_1] at e25 e23
  have m25 : nv b 25 0 0 = S + 1 := nvI e25 (by omega)
  have e77 := e 77 (by decide)
  have ep : ∀ s m, pcn b s m = pcn a s m := fun s m => pcn_eq m (fun q _ => e77 q 0)
  refine ⟨pc, by rw [e 72 (by decide)]; exact h1, ?_, fun q hq => ?_, fun j hj => ?_⟩
  · rw [e 55 (by decide), e 71 (by decide)]; omega
  · obtain ⟨s, q1, q2⟩ := h3 q hq
    exact ⟨s, by rw [e77]; exact q1, by omega⟩
  · obtain ⟨q1, q2, q3⟩ := h4 j hj
    rw [e14, e36, e23, ep]
    by_cases x : j = k
    · rw [if_pos x, if_pos x, if_pos x]
      have z : pcn a (nI (S + 1)) pc = 0 := pcn_0 pc (fun q hq y => by
        obtain ⟨s, q1, q2⟩ := h3 q hq
        rw [q1] at y
        have := nI_inj (by omega) (by omega) y
        omega)
      rw [z]
      exact ⟨fun _ => rfl, rfl, fun i hi => absurd hi (by omega)⟩
    · rw [if_neg x, if_neg x, if_neg x]
      refine ⟨q1, q2, fun i hi => ?_⟩
      obtain ⟨q, x1, x2, x3, x4⟩ := q3 i hi
      exact ⟨q, x1, by rw [e77]; exact x2, by rw [e 76 (by decide), e 35 (by decide)]; exact x3, by rw [ep]; exact x4⟩
theorem GPa_put {c : Nat} {a b : AS} {k pc : Nat} {x : Int32} (h : GPa c a) (hS : GS c a) (hc : c ≤ 512) (hk : k < 6) (h14 : av a 14 k 0 = 2) (hI : ¬ av a 55 0 0 < 0 ∧ av a 71 5 0 = 0) (hp : av a 72 0 0 = nI pc) (hp2 : pc < 2 ^ 31)
    (e : ∀ g, g = 14 ∨ g = 23 ∨ g = 25 → ∀ i j, av b g i j = av a g i j) (e55 : av b 55 0 0 < 0)
    (e72 : av b 72 0 0 = nI (pc + 1)) (e77 : ∀ q, av b 77 q 0 = if q = pc then av a 23 k 0 else av a 77 q 0) (e76 : ∀ q, av b 76 q 0 = if q = pc then x else av a 76 q 0)
    (e36 : ∀ j, av b 36 j 0 = if j = k then av a 36 k 0 + 1 else av a 36 j 0) (e35 : ∀ j i, av b 35 j i = if j = k ∧ i = nv a 36 k 0 then x else av a 35 j i) : GPa c b := by
  obtain ⟨S, s1, s2, s3, s4, s5⟩ := hS
  have n25 : nv a 25 0 0 = S := nvI s1 (by omega)
  have m25 : nv b 25 0 0 = S := by rw [nve (e 25 (by decide) 0 0), n25]
  obtain ⟨pc', h1, h2, h3, h4⟩ := h
  rw [if_pos hI] at h2
  obtain rfl : pc' = pc := nI_inj (by omega) hp2 (by rw [← h1, hp])
  have e23 := e 23 (by decide)
  have e14 := e 14 (by decide)
  have ep : ∀ s m, m ≤ pc' → pcn b s m = pcn a s m := fun s m hm => pcn_eq m (fun q hq => by rw [e77, if_neg (by omega)])
  have ep1 : ∀ s, pcn b s (pc' + 1) = pcn a s pc' + if av a 23 k 0 = s then 1 else 0 := fun s => by
    simp only [pcn]
    rw [ep s pc' (by omega), e77, if_pos rfl]
  refine ⟨pc' + 1, e72, ?_, fun q hq => ?_, fun j hj => ?_⟩
  · rw [if_neg (fun y => y.1 e55)]; omega
  · rw [m25, e77]
    by_cases y : q = pc'
    · rw [if_pos y]
      obtain ⟨s, q1, q2, q3⟩ := s3 k hk
      exact ⟨s, q1, q2⟩
    · rw [if_neg y]
      obtain ⟨s, q1, q2⟩ := h3 q (by omega)
      exact ⟨s, q1, by omega⟩
  · obtain ⟨q1, q2, q3⟩ := h4 j hj
    have hle := pcn_le (a := a) (s := av a 23 j 0) pc'
    rw [e14, e36, e23, ep1]
    by_cases y : j = k
    · subst y
      have n36 : nv a 36 j 0 = pcn a (av a 23 j 0) pc' := nvI q2 (by omega)
      rw [if_pos rfl, if_pos rfl]
      refine ⟨fun z => ?_, by rw [q2, nI_1], fun i hi => ?_⟩
      · rw [h14] at z
        exact absurd z (by decide)
      · by_cases z : i = pcn a (av a 23 j 0) pc'
        · exact ⟨pc', by omega, by rw [e77, if_pos rfl], by rw [e76, if_pos rfl, e35, if_pos ⟨rfl, by rw [n36]; exact z⟩], by rw [ep _ _ (by omega)]; exact z.symm⟩
        · obtain ⟨q, x1, x2, x3, x4⟩ := q3 i (by omega)
          exact ⟨q, by omega, by rw [e77, if_neg (by omega)]; exact x2, by rw [e76, if_neg (by omega), e35, if_neg (fun w => z (by rw [w.2, n36]))]; exact x3, by rw [ep _ _ (by omega)]; exact x4⟩
    · have hne : ¬ av a 23 k 0 = av a 23 j 0 := s5 k j hk hj (fun w => y w.symm) (by rw [h14]; decide)
      rw [if_neg y, if_neg hne]
      refine ⟨q1, q2, fun i hi => ?_⟩
      obtain ⟨q, x1, x2, x3, x4⟩ := q3 i hi
      exact ⟨q, by omega, by rw [e77, if_neg (by omega)]; exact x2, by rw [e76, if_neg (by omega), e35, if_neg (fun w => y w.1)]; exact x3, by rw [ep _ _ (by omega)]; exact x4⟩
