/-! THE STARTING STATE, both sides -/
def c4 : Nat → Int32 := upd (upd (upd (upd (fun _ => 0) ((6 : Int32).toNatClampNeg) (7 : Int32)) ((7 : Int32).toNatClampNeg) (7 : Int32)) ((8 : Int32).toNatClampNeg) (7 : Int32)) ((9 : Int32).toNatClampNeg) (7 : Int32)
def c20 (pg : Int32) : Nat → Int32 := upd (upd (upd (fun _ => 0) 0 (1 : Int32)) 1 (1 : Int32)) 2 pg
def m109 : Nat → Int32 := upd (upd (upd (upd (upd (upd (upd (upd (upd (upd (fun _ => 0) 0 (1 : Int32)) 1 (1 : Int32)) 2 (1 : Int32)) 3 (1 : Int32)) 4 (1 : Int32)) 5 (1 : Int32)) 6 (1 : Int32)) 7 (1 : Int32)) 8 (1 : Int32)) 9 (1 : Int32)
def m111 : Nat → Int32 := upd (upd (upd (upd (upd (upd (upd (upd (upd (upd (upd (upd (upd (upd (fun _ => 0) 0 (-1 : Int32)) 1 (-1 : Int32)) 2 (-1 : Int32)) 3 (-1 : Int32)) 4 (-1 : Int32)) 5 (-1 : Int32)) 6 (-1 : Int32)) 7 (-1 : Int32)) 8 (-1 : Int32)) 9 (-1 : Int32)) 6 (0 : Int32)) 7 (2 : Int32)) 8 (4 : Int32)) 9 (6 : Int32)
def m139 : Nat → Int32 := upd (upd (upd (upd (upd (upd (upd (upd (upd (upd (upd (upd (fun _ => 0) 0 (-1 : Int32)) 1 (-1 : Int32)) 2 (-1 : Int32)) 3 (-1 : Int32)) 4 (-1 : Int32)) 5 (-1 : Int32)) 6 (-1 : Int32)) 7 (-1 : Int32)) 8 (-1 : Int32)) 9 (-1 : Int32)) 10 (-1 : Int32)) 11 (-1 : Int32)
def c5 (i k : Nat) : Int32 := match k with
  | 1 => (match i with | 0 => 6 | 1 => 6 | 2 => 7 | 3 => 7 | 4 => 8 | 5 => 8 | _ => 9)
  | 2 => (match i with | 0 => 7 | 1 => 8 | 2 => 7 | 3 => 8 | 4 => 7 | 5 => 8 | _ => 7)
  | 3 => (match i with | 0 => 1 | 1 => 0 | 2 => 1 | 3 => 0 | 4 => 1 | 5 => 0 | _ => 1)
  | _ => 0
def C0 (pg qm : Int32) : St := fun q i k j => match q with
  | 1 => (match k with | 2 => qm | _ => 0)
  | 4 => c4 j
  | 5 => c5 i k
  | 6 => (match k with | 0 => (match i with | 0 => 0 | 1 => 1 | 2 => 2 | 3 => 3 | 4 => 4 | _ => 5) | _ => 0)
  | 14 => (match k with | 1 => -1 | _ => 0)
  | 16 => (match k with | 7 => -1 | 8 => -1 | 9 => -1 | _ => 0)
  | 18 => -1
  | 19 => (match k with | 3 => pg | _ => 0)
  | 20 => c20 pg j
  | 23 => (match k with | 10 => -1 | 11 => -1 | _ => 0)
  | _ => 0
def R0s (nn pg qm : Int32) : St := fun q _ k j => match q with
  | 50 => (match k with | 0 => nn | 1 => pg | 2 => qm | _ => 0)
  | 109 => m109 j
  | 111 => m111 j
  | 128 => c20 pg j
  | 139 => m139 j
  | _ => 0
def a0 (pg qm : Int32) : AS := (fun f i _ => match f with
  | 1 => pg
  | 2 => qm
  | 10 => (if 6 ≤ i ∧ i < 10 then 7 else 0)
  | 28 => c20 pg i
  | 39 => -1
  | 46 => -1
  | 47 => -1
  | 49 => -1
  | 54 => -1
  | 55 => -1
  | 71 => (if i % 2 = 0 then 1 else 0)
  | _ => 0, fun _ => [])
theorem c4_at : ∀ i, i < 10 → c4 i = if 6 ≤ i ∧ i < 10 then 7 else 0 := by decide +kernel
theorem c5_3 : ∀ i, i < 7 → c5 i 3 = if i % 2 = 0 then 1 else 0 := by decide +kernel
theorem c5_k : ∀ s, s < 7 → c5 s 1 = nI (pr s) ∧ c5 s 2 = cz s := by decide +kernel
theorem m139_at : ∀ i, i < 12 → m139 i = -1 := by decide +kernel
theorem i6_at (pg qm : Int32) : ∀ k, k < 6 → C0 pg qm 6 k 0 0 = nI k := by
  intro k hk
  have hc : k = 0 ∨ k = 1 ∨ k = 2 ∨ k = 3 ∨ k = 4 ∨ k = 5 := by omega
  rcases hc with rfl | rfl | rfl | rfl | rfl | rfl <;> rfl
theorem m111_0 : ∀ p, p < 10 → m111 p = sg (a0 0 0) p := by decide +kernel
theorem m111_at (pg qm : Int32) : ∀ p, p < 10 → m111 p = sg (a0 pg qm) p := m111_0
set_option maxHeartbeats 4000000 in
theorem RC_0 (n : Nat) (pg qm : Int32) : RC n (C0 pg qm) (a0 pg qm) := by
  refine ⟨fun f i j h => ?_, fun f hf => ⟨⟨rfl, rfl⟩, Or.inr (Or.inl rfl)⟩, ⟨i6_at pg qm, fun s hs => c5_k s hs⟩, ⟨rfl, List.nodup_nil, fun p hp => absurd hp List.not_mem_nil, fun i p h => by simp [al, a0] at h⟩, fun q _ => ⟨rfl, Nat.zero_le _, fun p hp => absurd hp List.not_mem_nil, fun i p h => by simp [al, a0] at h, fun _ _ _ => rfl, Or.inr ⟨rfl, rfl⟩⟩⟩
  unfold okC at h
  split at h
  case h_7 => exact c4_at i h.1
  case h_55 => exact c5_3 i h.1
  all_goals first | exact h.elim | rfl | skip
set_option maxHeartbeats 4000000 in
theorem RR_0 {n : Nat} (hn : n ≤ 12) (pg qm : Int32) : RR n none (R0s (nI n) pg qm) (a0 pg qm) := by
  refine ⟨fun f i j h => ?_, ⟨⟨rfl, fun i p h => by simp [al, a0] at h⟩, fun p hp => absurd hp List.not_mem_nil, fun p hp => (by cases hp), fun _ => rfl⟩, fun p hp => m111_at pg qm p hp, rfl, ⟨rfl, rfl, rfl⟩, fun k hk => ⟨rfl, rfl⟩, ⟨⟨rfl, fun i p h => by simp [al, a0] at h⟩, fun p hp => absurd hp List.not_mem_nil⟩, ⟨⟨rfl, fun i p h => by simp [al, a0] at h⟩, fun i p h => by simp [al, a0] at h⟩, ⟨rfl, fun i p h => by simp [al, a0] at h⟩, fun f hf h => absurd (show (-1 : Int32) < 0 by decide) h, ⟨fun h => absurd rfl h, fun h => absurd (show (0 : Int32) = 1 from h) (by decide)⟩, ⟨fun h => absurd (show (-1 : Int32) < 0 by decide) h, fun h => absurd (show (-1 : Int32) < 0 by decide) h⟩⟩
  unfold okR at h
  split at h
  case h_6 =>
    show (0 : Int32) = if 6 ≤ i ∧ i < 10 then 7 else 0
    rw [if_neg (by omega)]
  case h_30 => exact m139_at i (by omega)
  all_goals first | exact h.elim | rfl | skip
theorem GI_0 {n : Nat} {p q : Nat} (hn : n ≤ 12) (hp : 1 ≤ p) (hp6 : p ≤ 6) (hq : 1 ≤ q) (hq9 : q ≤ 9) : GI n 0 (a0 (nI p) (nI q)) := by
  have n01 : ¬ (0 : Int32) = 1 := by decide
  have e10 : ∀ k, k < 6 → av (a0 (nI p) (nI q)) 10 k 0 = 0 := fun k hk => by
    show (if 6 ≤ k ∧ k < 10 then (7 : Int32) else 0) = 0
    rw [if_neg (by omega)]
  have e14 : ∀ k, av (a0 (nI p) (nI q)) 14 k 0 = 0 := fun _ => rfl
  have e71 : ∀ s, s < 7 → av (a0 (nI p) (nI q)) 71 s 0 = if s % 2 = 0 then 1 else 0 := fun s hs => rfl
  have mem : ∀ x r, ¬ x ∈ al (a0 (nI p) (nI q)) r := fun x r h => absurd h List.not_mem_nil
  have v0 : ∀ f i j, av (a0 (nI p) (nI q)) f i j = 0 → nv (a0 (nI p) (nI q)) f i j = 0 := fun f i j e => by unfold nv; rw [e]; rfl
  have hh : ∀ r, hs (a0 (nI p) (nI q)) r = 0 := fun r => by
    unfold hs hv
    rw [e14, e14, e14, e14, e14, e14]
    rfl
  refine c15 ?_ ?_ ?_ ?_ ?_ ?_ ?_ ?_ ?_ ?_ ?_ ?_ ?_ ?_ ?_
  · show GA _
    refine ⟨⟨List.nodup_nil, fun x hx => absurd hx List.not_mem_nil⟩, fun k hk => ⟨fun h => absurd h (mem k 0), fun h => absurd (show (0 : Int32) = 2 from h.1) (by decide)⟩, ⟨fun s hs => ?_, fun h => absurd (show (0 : Int32) = 1 from h.2) (by decide), fun h => absurd (show (0 : Int32) = 1 from h.2) (by decide), fun h => absurd (show (0 : Int32) = 1 from h.2) (by decide)⟩, ⟨⟨fun h => absurd h (mem 6 0), fun h => absurd (show (1 : Int32) = 0 from h.1) (by decide)⟩, ⟨fun h => absurd h (mem 7 0), fun h => absurd (show (1 : Int32) = 0 from h.1) (by decide)⟩, ⟨fun h => absurd h (mem 8 0), fun h => absurd (show (1 : Int32) = 0 from h.1) (by decide)⟩, ⟨fun h => absurd h (mem 9 0), fun h => absurd (show (1 : Int32) = 0 from h) (by decide)⟩⟩, fun k hk => ⟨Or.inl rfl, fun _ => e10 k hk⟩, fun x h1 h2 => ?_⟩
    · rw [e71 s hs]
      split
      · exact Or.inr rfl
      · exact Or.inl rfl
    · rw [← m111_at (nI p) (nI q) x h2]
      show (if 6 ≤ x ∧ x < 10 then (7 : Int32) else 0) = _
      have hc : x = 6 ∨ x = 7 ∨ x = 8 ∨ x = 9 := by omega
      rcases hc with rfl | rfl | rfl | rfl <;> decide
  · show G1 _
    exact ⟨List.nodup_nil, fun k hk => absurd hk (mem k 1), Or.inl rfl, fun h => absurd rfl h, ⟨0, rfl, by
      show 0 = 0 + if (0 : Int32) = 0 ∧ (1 : Int32) = 0 then 1 else 0
      rw [if_neg (fun h => absurd h.2 (by decide))]⟩, rfl, Or.inl rfl, ⟨fun h => absurd rfl h, fun h => absurd (show (0 : Int32) = 1 from h) (by decide)⟩, fun h => absurd rfl h, fun _ => rfl⟩
  · show G3 _
    have m1 : av (a0 (nI p) (nI q)) 54 0 0 < 0 := show (-1 : Int32) < 0 by decide
    exact ⟨List.nodup_nil, fun k hk => absurd hk (mem k 3), fun h => absurd m1 h, ⟨0, rfl, by
      show 0 = 0 + if (-1 : Int32) < 0 ∧ (1 : Int32) = 0 then 1 else 0
      rw [if_neg (fun h => absurd h.2 (by decide))]⟩, rfl, by
      show (0 : Int32) = if (0 : Int32) = 1 then 1 else 0
      decide, fun h => absurd (show (0 : Int32) = 1 from h) (by decide), fun _ => m1⟩
  · show GB _
    refine ⟨p, rfl, hp, hp6, fun k r hk hr => ?_, fun r hr => ?_, fun k hk h => absurd (show (0 : Int32) = 1 from h) (by decide)⟩
    · rw [v0 27 k r rfl, v0 26 k r rfl]
      exact ⟨rfl, rfl, Nat.le_refl _, Nat.zero_le _⟩
    · rw [hh r]
      have hc : r = 0 ∨ r = 1 ∨ r = 2 := by omega
      rcases hc with rfl | rfl | rfl
      · exact ⟨rfl, rfl⟩
      · exact ⟨rfl, rfl⟩
      · have e : av (a0 (nI p) (nI q)) 28 2 0 = nI p := rfl
        rw [nvI e (by omega)]
        exact ⟨rfl, by unfold tt; rw [if_pos rfl]; rfl⟩
  · show G2 _
    exact ⟨List.nodup_nil, fun k hk => absurd hk (mem k 2)⟩
  · show G4 _
    have m1 : av (a0 (nI p) (nI q)) 55 0 0 < 0 := show (-1 : Int32) < 0 by decide
    have z : ∀ k, nv (a0 (nI p) (nI q)) 34 k 0 = 0 := fun k => v0 34 k 0 rfl
    refine ⟨fun k hk => ⟨by rw [z k]; rfl, by rw [z k]; omega, fun h => by rw [z k] at h; omega⟩, fun h => absurd m1 h, ⟨0, rfl, ?_⟩, rfl, by
      show (0 : Int32) = if (0 : Int32) = 1 then 1 else 0
      decide, fun h => absurd (show (0 : Int32) = 1 from h) (by decide), fun _ => m1⟩
    unfold LT
    rw [z, z, z, z, z, z]
    show 0 = 0 + if (1 : Int32) = 0 then 1 else 0
    decide
  · show G5 _
    exact fun k hk => ⟨⟨0, rfl, by decide⟩, fun _ => rfl, 0, rfl, by decide⟩
  · show G6 _
    refine fun k hk => ⟨0, 0, rfl, by decide, rfl, Nat.le_refl _, fun h => ?_⟩
    rcases h with h | h
    · exact absurd h (mem k 3)
    · exact absurd (show (-1 : Int32) < 0 by decide) (by rw [show (-1 : Int32) = nI k from h]; exact nI_pos (by omega))
  · show G8 _
    exact ⟨0, q, rfl, rfl, by omega, by omega⟩
  · show G9 _
    exact ⟨0, rfl, by decide⟩
  · show GS 0 _
    exact ⟨0, rfl, Nat.le_refl _, fun k hk => ⟨0, rfl, Nat.le_refl _, fun h => absurd rfl h⟩, ⟨0, rfl, Nat.le_refl _⟩, fun j k hj hk hjk h => absurd rfl h⟩
  · show GPa 0 _
    refine ⟨0, rfl, ?_, fun r hr => absurd hr (Nat.not_lt_zero r), fun k hk => ⟨fun _ => rfl, rfl, fun i hi => absurd hi (Nat.not_lt_zero i)⟩⟩
    rw [if_neg (fun h => h.1 (show (-1 : Int32) < 0 by decide))]
    exact Nat.le_refl _
  · show GX _
    refine ⟨0, 0, by decide, by decide, rfl, rfl, fun i hi => absurd hi (Nat.not_lt_zero i), ⟨0, rfl, ?_⟩, fun r hr => absurd hr (Nat.not_lt_zero r), fun r hr i hi => ⟨0, by decide, rfl⟩⟩
    show 0 = 0 + if (1 : Int32) = 0 then 1 else 0
    decide
  · show GF n _
    have no : ∀ f k s, k < 6 → ¬ ow (a0 (nI p) (nI q)) f k s := fun f k s hk h => absurd (show (-1 : Int32) < 0 by decide) (by rw [show (-1 : Int32) = nI k from h.1]; exact nI_pos (by omega))
    refine ⟨fun f hf => Or.inl rfl, fun f g k s hf hg hk h => absurd h (no f k s hk), fun k hk h => ?_, fun h => absurd rfl h, fun h => absurd (show (0 : Int32) = 1 from h) (by decide), fun f k s hf hk hs h => absurd h (no f k s hk), fun h => absurd (show (0 : Int32) = 2 from h) (by decide)⟩
    rcases h with h | h
    · exact absurd h (mem k 1)
    · exact absurd rfl h.1
  · show GN n _
    refine ⟨fun f hf h => absurd rfl h, fun k hk h => ?_, ?_⟩
    · rcases h with h | h
      · exact absurd h (mem k 1)
      · exact absurd rfl h.1
    · have : ∀ m, adn (a0 (nI p) (nI q)) m = 0 := fun m => by
        induction m with
        | zero => rfl
        | succ m ih =>
          show adn _ m + (if av (a0 (nI p) (nI q)) 14 m 0 = 2 then 1 else 0) = 0
          rw [ih, e14, if_neg (by decide)]
      rw [this]
      omega
theorem Inv_0 {n p q : Nat} (hn : n ≤ 12) (hp : 1 ≤ p) (hp6 : p ≤ 6) (hq : 1 ≤ q) (hq9 : q ≤ 9) : Inv n 0 (C0 (nI p) (nI q)) (R0s (nI n) (nI p) (nI q)) :=
  ⟨a0 (nI p) (nI q), RC_0 n _ _, RR_0 hn _ _, GI_0 hn hp hp6 hq hq9, 0, Nat.le_refl _, rfl, 0, rfl, Nat.le_refl _⟩
/-! the three numbers of the constructors -/
theorem btw_nI {a b : Nat} (hab : a ≤ b) (hb : b < 2 ^ 31) (x : Int32) : ∃ r, a ≤ r ∧ r ≤ b ∧ btw x (nI a) (nI b) = nI r := by
  unfold btw
  by_cases h1 : x < nI a
  · exact ⟨a, Nat.le_refl _, hab, by rw [if_pos h1]⟩
  · rw [if_neg h1]
    by_cases h2 : nI b < x
    · exact ⟨b, hab, Nat.le_refl _, by rw [if_pos h2]⟩
    · rw [if_neg h2]
      have hx : ¬ x < 0 := fun y => h1 (Int32.lt_of_lt_of_le y (show nI 0 ≤ nI a from (nI_leI (by omega) (by omega)).mpr (Nat.zero_le _)))
      obtain ⟨r, hr, rfl⟩ := nI_of hx
      exact ⟨r, (nI_leI (by omega) hr).mp (Int32.not_lt.mp h1), (nI_leI hr hb).mp (Int32.not_lt.mp h2), rfl⟩
theorem wth_btw {a b : Nat} (hab : a < b) (hb : b < 2 ^ 31) (x : Int32) : wth x (nI a) (nI b) = btw x (nI a) (nI b) := by
  have hlt : nI a < nI b := nI_lt hab hb
  unfold wth btw
  by_cases h1 : x < nI b
  · rw [if_pos h1]
    by_cases h2 : nI a < x
    · rw [if_pos h2, if_neg (fun y => Int32.lt_irrefl (Int32.lt_trans h2 y)), if_neg (fun y => Int32.lt_irrefl (Int32.lt_trans h1 y))]
    · rw [if_neg h2]
      by_cases h3 : x < nI a
      · rw [if_pos h3]
      · rw [if_neg h3, if_neg (fun y => Int32.lt_irrefl (Int32.lt_trans h1 y))]
        exact Int32.le_antisymm (Int32.not_lt.mp h3) (Int32.not_lt.mp h2)
  · rw [if_neg h1, if_pos hlt, if_neg (fun y => h1 (Int32.lt_trans y hlt))]
    by_cases h3 : nI b < x
    · rw [if_pos h3]
    · rw [if_neg h3]
      exact Int32.le_antisymm (Int32.not_lt.mp h1) (Int32.not_lt.mp h3)
