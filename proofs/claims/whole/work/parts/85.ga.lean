/-! THE INVARIANT, group A: who is ready, who waits -/
def GA (a : AS) : Prop :=
  ((al a 0).Nodup ∧ ∀ p ∈ al a 0, p < 10) ∧
  (∀ k, k < 6 → (k ∈ al a 0 ↔ (av a 14 k 0 = 2 ∧ av a 10 k 0 = 0))) ∧
  GSg a ∧
  ((6 ∈ al a 0 ↔ (av a 71 0 0 = 0 ∧ av a 71 1 0 = 0)) ∧ (7 ∈ al a 0 ↔ (av a 71 2 0 = 0 ∧ av a 71 3 0 = 0)) ∧ (8 ∈ al a 0 ↔ (av a 71 4 0 = 0 ∧ av a 71 5 0 = 0)) ∧ (9 ∈ al a 0 ↔ av a 71 6 0 = 0)) ∧
  (∀ k, k < 6 → (av a 14 k 0 = 0 ∨ av a 14 k 0 = 1 ∨ av a 14 k 0 = 2 ∨ av a 14 k 0 = 3) ∧ (¬ av a 14 k 0 = 2 → av a 10 k 0 = 0)) ∧
  (∀ p, 6 ≤ p → p < 10 → av a 10 p 0 = if sg a p = -1 then 0 else if sg a p = 1 ∨ sg a p = 3 ∨ sg a p = 5 then 8 else 7)
theorem GA_eq {a b : AS} (h : GA a) (e : ∀ g, g = 10 ∨ g = 14 ∨ g = 71 → ∀ i j, av b g i j = av a g i j) (el : al b 0 = al a 0) : GA b := by
  obtain ⟨h1, h2, h3, h4, h5, h6⟩ := h
  have e10 := e 10 (by decide)
  have e14 := e 14 (by decide)
  have e71 := e 71 (by decide)
  refine ⟨?_, ?_, GSg_eq h3 (fun s => e71 s 0), ?_, ?_, ?_⟩
  · rw [el]; exact h1
  · intro k hk; rw [el, e14, e10]; exact h2 k hk
  · rw [el, e71, e71, e71, e71, e71, e71, e71]; exact h4
  · intro k hk; rw [e14, e10]; exact h5 k hk
  · intro p hp hp2; rw [e10, sg_eq (fun s => e71 s 0)]; exact h6 p hp hp2
theorem nd_app {l : List Nat} {p : Nat} (h : l.Nodup) (hp : p ∉ l) : (l ++ [p]).Nodup := by
  rw [List.nodup_append]
  refine ⟨h, by simp, fun x hx y hy => ?_⟩
  rw [List.mem_singleton] at hy
  subst hy
  exact fun e => hp (e ▸ hx)
theorem GA_susp {k : Nat} {c : Int32} {a : AS} (h : GA a) (hk : k < 6) (hm : k ∈ al a 0) (hc : ¬ c = 0) : GA (z_susp k c a) := by
  obtain ⟨h1, h2, h3, h4, h5, h6⟩ := h
  have e14 : ∀ i, av (z_susp k c a) 14 i 0 = av a 14 i 0 := fun i => vo_susp (by decide) (by decide)
  have e71 : ∀ i, av (z_susp k c a) 71 i 0 = av a 71 i 0 := fun i => vo_susp (by decide) (by decide)
  have e10 : ∀ i, av (z_susp k c a) 10 i 0 = if i = k then c else av a 10 i 0 := fun i => by
    rw [av_susp, if_neg (by simp)]
    by_cases e : i = k
    · rw [if_pos ⟨rfl, e, rfl⟩, if_pos e]
    · rw [if_neg (by simp [e]), if_neg e]
  have el : al (z_susp k c a) 0 = (al a 0).erase k := by rw [al_susp, if_pos rfl]
  have hmem : ∀ p, p ∈ (al a 0).erase k ↔ p ≠ k ∧ p ∈ al a 0 := fun p => h1.1.mem_erase_iff
  have h14 := ((h2 k hk).mp hm).1
  refine ⟨⟨?_, fun p hp => ?_⟩, fun j hj => ?_, GSg_eq h3 e71, ?_, fun j hj => ?_, fun p hp hp2 => ?_⟩
  · rw [el]; exact h1.1.erase k
  · rw [el, hmem] at hp; exact h1.2 p hp.2
  · rw [el, hmem, e14, e10, h2 j hj]
    by_cases e : j = k
    · subst e
      rw [if_pos rfl]
      exact ⟨fun y => absurd rfl y.1, fun y => absurd y.2 hc⟩
    · rw [if_neg e]
      exact ⟨fun y => y.2, fun y => ⟨e, y⟩⟩
  · rw [el, hmem, hmem, hmem, hmem, e71, e71, e71, e71, e71, e71, e71]
    have n6 : (6 : Nat) ≠ k := by omega
    have n7 : (7 : Nat) ≠ k := by omega
    have n8 : (8 : Nat) ≠ k := by omega
    have n9 : (9 : Nat) ≠ k := by omega
    simp only [n6, n7, n8, n9, ne_eq, not_false_eq_true, true_and]
    exact h4
  · rw [e14, e10]
    refine ⟨(h5 j hj).1, fun y => ?_⟩
    by_cases e : j = k
    · subst e
      exact absurd h14 y
    · rw [if_neg e]; exact (h5 j hj).2 y
  · rw [e10, if_neg (by omega), sg_eq e71]
    exact h6 p hp hp2
theorem GA_wake {k : Nat} {a : AS} (h : GA a) (hk : k < 6) (h14 : av a 14 k 0 = 2) : GA (z_wake k a) := by
  obtain ⟨h1, h2, h3, h4, h5, h6⟩ := h
  have e14 : ∀ i, av (z_wake k a) 14 i 0 = av a 14 i 0 := fun i => vo_wake (by decide)
  have e71 : ∀ i, av (z_wake k a) 71 i 0 = av a 71 i 0 := fun i => vo_wake (by decide)
  have e10 : ∀ i, av (z_wake k a) 10 i 0 = if i = k then 0 else av a 10 i 0 := fun i => by
    rw [av_wake]
    by_cases e : i = k
    · rw [if_pos ⟨rfl, e, rfl⟩, if_pos e]
    · rw [if_neg (by simp [e]), if_neg e]
  have hmem : ∀ p, p ∈ al (z_wake k a) 0 ↔ p = k ∨ p ∈ al a 0 := fun p => by
    rw [al_wake, if_pos rfl]
    by_cases e : k ∈ al a 0
    · rw [if_pos e]
      exact ⟨Or.inr, fun o => o.elim (fun y => y ▸ e) id⟩
    · rw [if_neg e, List.mem_append, List.mem_singleton]
      exact ⟨fun o => o.elim Or.inr Or.inl, fun o => o.elim Or.inr Or.inl⟩
  refine ⟨⟨?_, fun p hp => ?_⟩, fun j hj => ?_, GSg_eq h3 e71, ?_, fun j hj => ?_, fun p hp hp2 => ?_⟩
  · rw [al_wake, if_pos rfl]
    by_cases e : k ∈ al a 0
    · rw [if_pos e]; exact h1.1
    · rw [if_neg e]; exact nd_app h1.1 e
  · rcases (hmem p).mp hp with rfl | y
    · omega
    · exact h1.2 p y
  · rw [hmem, e14, e10]
    by_cases e : j = k
    · subst e
      rw [if_pos rfl]
      exact ⟨fun _ => ⟨h14, rfl⟩, fun _ => Or.inl rfl⟩
    · rw [if_neg e, h2 j hj]
      exact ⟨fun o => o.resolve_left e, Or.inr⟩
  · rw [hmem, hmem, hmem, hmem, e71, e71, e71, e71, e71, e71, e71]
    have n6 : ¬ (6 : Nat) = k := by omega
    have n7 : ¬ (7 : Nat) = k := by omega
    have n8 : ¬ (8 : Nat) = k := by omega
    have n9 : ¬ (9 : Nat) = k := by omega
    simp only [n6, n7, n8, n9, false_or]
    exact h4
  · rw [e14, e10]
    refine ⟨(h5 j hj).1, fun y => ?_⟩
    by_cases e : j = k
    · rw [if_pos e]
    · rw [if_neg e]; exact (h5 j hj).2 y
  · rw [e10, if_neg (by omega), sg_eq e71]
    exact h6 p hp hp2
theorem pr_cases {s : Nat} (hs : s < 7) : 6 ≤ pr s ∧ pr s < 10 := ⟨by unfold pr; split; omega; split; omega; split <;> omega, pr_lt s⟩
theorem GA_v {s : Nat} {a : AS} (h : GA a) (hs : s < 7) : GA (z_v s a) := by
  by_cases c : av a 71 s 0 = 0
  · refine GA_eq h (fun g hg i j => ?_) ?_
    · rw [av_v, if_pos c, if_neg]
      rintro ⟨rfl, -⟩
      omega
    · rw [al_v, if_pos c]
  · obtain ⟨h1, h2, h3, h4, h5, h6⟩ := h
    have c1 : av a 71 s 0 = 1 := (h3.1 s hs).resolve_left c
    have e14 : ∀ i, av (z_v s a) 14 i 0 = av a 14 i 0 := fun i => vo_v (by decide) (by decide) (by decide)
    have e71 : ∀ i, av (z_v s a) 71 i 0 = if i = s then 0 else av a 71 i 0 := fun i => by
      rw [av_v, if_neg c, if_neg (by simp)]
      by_cases e : i = s
      · rw [if_pos ⟨rfl, e, rfl⟩, if_pos e]
      · rw [if_neg (by simp [e]), if_neg e]
    have e10 : ∀ i, av (z_v s a) 10 i 0 = if i = pr s then 0 else av a 10 i 0 := fun i => by
      rw [av_v, if_neg c]
      by_cases e : i = pr s
      · rw [if_pos ⟨rfl, e, rfl⟩, if_pos e]
      · rw [if_neg (by simp [e]), if_neg (by simp), if_neg e]
    have hps := pr_cases hs
    have hmem : ∀ p, p ∈ al (z_v s a) 0 ↔ p = pr s ∨ p ∈ al a 0 := fun p => by
      rw [al_v, if_neg c, if_pos rfl]
      by_cases e : pr s ∈ al a 0
      · rw [if_pos e]
        exact ⟨Or.inr, fun o => o.elim (fun y => y ▸ e) id⟩
      · rw [if_neg e, List.mem_append, List.mem_singleton]
        exact ⟨fun o => o.elim Or.inr Or.inl, fun o => o.elim Or.inr Or.inl⟩
    obtain ⟨so1, so2⟩ := sg_off h3 hs c1
    have esg : ∀ q, sg (z_v s a) q = sg (sv 71 s 0 0 a) q := fun q => sg_eq (fun i => by
      rw [e71, av_sv]
      by_cases e : i = s
      · rw [if_pos e, if_pos ⟨rfl, e, rfl⟩]
      · rw [if_neg e, if_neg (by simp [e])]) q
    refine ⟨⟨?_, fun p hp => ?_⟩, fun j hj => ?_, ?_, ?_, fun j hj => ?_, fun p hp hp2 => ?_⟩
    · rw [al_v, if_neg c, if_pos rfl]
      by_cases e : pr s ∈ al a 0
      · rw [if_pos e]; exact h1.1
      · rw [if_neg e]; exact nd_app h1.1 e
    · rcases (hmem p).mp hp with rfl | y
      · exact hps.2
      · exact h1.2 p y
    · rw [hmem, e14, e10, if_neg (by omega), h2 j hj]
      exact ⟨fun o => o.resolve_left (by omega), Or.inr⟩
    · obtain ⟨g1, g2, g3, g4⟩ := h3
      refine ⟨fun i hi => ?_, ?_, ?_, ?_⟩
      · rw [e71]
        split
        · exact Or.inl rfl
        · exact g1 i hi
      · rw [e71, e71]; grind
      · rw [e71, e71]; grind
      · rw [e71, e71]; grind
    · rw [hmem, hmem, hmem, hmem]
      simp only [e71]
      obtain ⟨g1, g2, g3, g4⟩ := h3
      obtain ⟨k1, k2, k3, k4⟩ := h4
      have z0 := g1 0 (by decide)
      have z1 := g1 1 (by decide)
      have z2 := g1 2 (by decide)
      have z3 := g1 3 (by decide)
      have z4 := g1 4 (by decide)
      have z5 := g1 5 (by decide)
      have z6 := g1 6 (by decide)
      have d01 : ¬ (1 : Int32) = 0 := by decide
      rcases lt7 hs with rfl | rfl | rfl | rfl | rfl | rfl | rfl <;> simp [pr] <;> grind
    · rw [e14, e10, if_neg (by omega)]
      exact h5 j hj
    · rw [e10, esg]
      by_cases e : p = pr s
      · subst e
        rw [if_pos rfl, so1, if_pos rfl]
      · rw [if_neg e, so2 p e]
        exact h6 p hp hp2
theorem GA_p {s : Nat} {a : AS} (h : GA a) (hs : s < 7) (hm : pr s ∈ al a 0) : GA (z_p s a) := by
  by_cases c : av a 13 s 0 ≤ 0
  · obtain ⟨h1, h2, h3, h4, h5, h6⟩ := h
    have e14 : ∀ i, av (z_p s a) 14 i 0 = av a 14 i 0 := fun i => vo_p (by decide) (by decide) (by decide) (by decide)
    have e71 : ∀ i, av (z_p s a) 71 i 0 = if i = s then 1 else av a 71 i 0 := fun i => by
      rw [av_p, if_pos c, if_neg (by simp), if_neg (by simp)]
      by_cases e : i = s
      · rw [if_pos ⟨rfl, e, rfl⟩, if_pos e]
      · rw [if_neg (by simp [e]), if_neg e]
    have e10 : ∀ i, av (z_p s a) 10 i 0 = if i = pr s then cz s else av a 10 i 0 := fun i => by
      rw [av_p, if_pos c, if_neg (by simp)]
      by_cases e : i = pr s
      · rw [if_pos ⟨rfl, e, rfl⟩, if_pos e]
      · rw [if_neg (by simp [e]), if_neg (by simp), if_neg e]
    have hps := pr_cases hs
    have el : al (z_p s a) 0 = (al a 0).erase (pr s) := by rw [al_p, if_pos c, if_pos rfl]
    have hmem : ∀ p, p ∈ (al a 0).erase (pr s) ↔ p ≠ pr s ∧ p ∈ al a 0 := fun p => h1.1.mem_erase_iff
    obtain ⟨g1, g2, g3, g4⟩ := h3
    obtain ⟨k1, k2, k3, k4⟩ := h4
    have d01 : ¬ (1 : Int32) = 0 := by decide
    have hsg : sg a (pr s) = -1 := by
      have d : ∀ x : Int32, x = 0 → ¬ x = 1 := fun x hx => by rw [hx]; decide
      rcases lt7 hs with rfl | rfl | rfl | rfl | rfl | rfl | rfl <;> simp only [pr] at hm <;> simp at hm
      · have := k1.mp hm; simp [sg, pr, this.1, this.2]
      · have := k1.mp hm; simp [sg, pr, this.1, this.2]
      · have := k2.mp hm; simp [sg, pr, this.1, this.2]
      · have := k2.mp hm; simp [sg, pr, this.1, this.2]
      · have := k3.mp hm; simp [sg, pr, this.1, this.2]
      · have := k3.mp hm; simp [sg, pr, this.1, this.2]
      · have := k4.mp hm; simp [sg, pr, this]
    obtain ⟨so1, so2⟩ := sg_on hs hsg
    have esg : ∀ q, sg (z_p s a) q = sg (sv 71 s 0 1 a) q := fun q => sg_eq (fun i => by
      rw [e71, av_sv]
      by_cases e : i = s
      · rw [if_pos e, if_pos ⟨rfl, e, rfl⟩]
      · rw [if_neg e, if_neg (by simp [e])]) q
    refine ⟨⟨?_, fun p hp => ?_⟩, fun j hj => ?_, ⟨fun i hi => ?_, ?_, ?_, ?_⟩, ?_, fun j hj => ?_, fun p hp hp2 => ?_⟩
    · rw [el]; exact h1.1.erase _
    · rw [el, hmem] at hp; exact h1.2 p hp.2
    · rw [el, hmem, e14, e10, if_neg (by omega), h2 j hj]
      exact ⟨fun y => y.2, fun y => ⟨by omega, y⟩⟩
    · rw [e71]
      split
      · exact Or.inr rfl
      · exact g1 i hi
    · simp only [e71]
      rcases lt7 hs with rfl | rfl | rfl | rfl | rfl | rfl | rfl <;> simp [pr] at hm ⊢ <;> grind
    · simp only [e71]
      rcases lt7 hs with rfl | rfl | rfl | rfl | rfl | rfl | rfl <;> simp [pr] at hm ⊢ <;> grind
    · simp only [e71]
      rcases lt7 hs with rfl | rfl | rfl | rfl | rfl | rfl | rfl <;> simp [pr] at hm ⊢ <;> grind
    · rw [el, hmem, hmem, hmem, hmem]
      simp only [e71]
      rcases lt7 hs with rfl | rfl | rfl | rfl | rfl | rfl | rfl <;> simp [pr] at hm ⊢ <;> grind
    · rw [e14, e10, if_neg (by omega)]
      exact h5 j hj
    · rw [e10, esg]
      by_cases e : p = pr s
      · subst e
        rw [if_pos rfl, so1]
        rcases lt7 hs with rfl | rfl | rfl | rfl | rfl | rfl | rfl <;> decide
      · rw [if_neg e, so2 p e]
        exact h6 p hp hp2
  · refine GA_eq h (fun g hg i j => ?_) ?_
    · rw [av_p, if_neg c, if_neg]
      rintro ⟨rfl, -⟩
      omega
    · rw [al_p, if_neg c]
/-- a job is over: it leaves -/
theorem GA_over {k : Nat} {a : AS} (h : GA a) (hk : k < 6) (hm : k ∈ al a 0) : GA (z_leave k (sv 14 k 0 3 a)) := by
  obtain ⟨h1, h2, h3, h4, h5, h6⟩ := h
  have e14 : ∀ i, av (z_leave k (sv 14 k 0 3 a)) 14 i 0 = if i = k then 3 else av a 14 i 0 := fun i => by
    rw [vo_leave (by decide), av_sv]
    by_cases e : i = k
    · rw [if_pos ⟨rfl, e, rfl⟩, if_pos e]
    · rw [if_neg (by simp [e]), if_neg e]
  have e71 : ∀ i, av (z_leave k (sv 14 k 0 3 a)) 71 i 0 = av a 71 i 0 := fun i => by rw [vo_leave (by decide), av_o (by decide)]
  have e10 : ∀ i, av (z_leave k (sv 14 k 0 3 a)) 10 i 0 = av a 10 i 0 := fun i => by rw [vo_leave (by decide), av_o (by decide)]
  have el : al (z_leave k (sv 14 k 0 3 a)) 0 = (al a 0).erase k := by rw [al_leave, if_pos rfl]; rfl
  have hmem : ∀ p, p ∈ (al a 0).erase k ↔ p ≠ k ∧ p ∈ al a 0 := fun p => h1.1.mem_erase_iff
  have h10 := ((h2 k hk).mp hm).2
  have d23 : ¬ (3 : Int32) = 2 := by decide
  refine ⟨⟨?_, fun p hp => ?_⟩, fun j hj => ?_, GSg_eq h3 e71, ?_, fun j hj => ?_, fun p hp hp2 => ?_⟩
  · rw [el]; exact h1.1.erase k
  · rw [el, hmem] at hp; exact h1.2 p hp.2
  · rw [el, hmem, e14, e10]
    by_cases e : j = k
    · subst e
      rw [if_pos rfl]
      exact ⟨fun y => absurd rfl y.1, fun y => absurd y.1 d23⟩
    · rw [if_neg e, h2 j hj]
      exact ⟨fun y => y.2, fun y => ⟨e, y⟩⟩
  · rw [el, hmem, hmem, hmem, hmem, e71, e71, e71, e71, e71, e71, e71]
    have n6 : (6 : Nat) ≠ k := by omega
    have n7 : (7 : Nat) ≠ k := by omega
    have n8 : (8 : Nat) ≠ k := by omega
    have n9 : (9 : Nat) ≠ k := by omega
    simp only [n6, n7, n8, n9, ne_eq, not_false_eq_true, true_and]
    exact h4
  · rw [e14, e10]
    by_cases e : j = k
    · subst e
      rw [if_pos rfl]
      exact ⟨Or.inr (Or.inr (Or.inr rfl)), fun _ => h10⟩
    · rw [if_neg e]; exact h5 j hj
  · rw [e10, sg_eq e71]
    exact h6 p hp hp2
/-- the state of a job that does not run changes, to one that does not run -/
theorem GA_14 {k : Nat} {x : Int32} {a : AS} (h : GA a) (hk : k < 6) (h14 : ¬ av a 14 k 0 = 2) (hx : x = 0 ∨ x = 1 ∨ x = 3) : GA (sv 14 k 0 x a) := by
  obtain ⟨h1, h2, h3, h4, h5, h6⟩ := h
  have e14 : ∀ i, av (sv 14 k 0 x a) 14 i 0 = if i = k then x else av a 14 i 0 := fun i => by
    rw [av_sv]
    by_cases e : i = k
    · rw [if_pos ⟨rfl, e, rfl⟩, if_pos e]
    · rw [if_neg (by simp [e]), if_neg e]
  have e10 : ∀ i, av (sv 14 k 0 x a) 10 i 0 = av a 10 i 0 := fun i => av_o (by decide)
  have e71 : ∀ i, av (sv 14 k 0 x a) 71 i 0 = av a 71 i 0 := fun i => av_o (by decide)
  have hx2 : ¬ x = 2 := by rcases hx with rfl | rfl | rfl <;> decide
  refine ⟨h1, fun j hj => ?_, GSg_eq h3 e71, ?_, fun j hj => ?_, fun p hp hp2 => ?_⟩
  · rw [e14, e10]
    by_cases e : j = k
    · subst e
      rw [if_pos rfl]
      exact ⟨fun y => absurd ((h2 j hj).mp y).1 h14, fun y => absurd y.1 hx2⟩
    · rw [if_neg e]; exact h2 j hj
  · rw [e71, e71, e71, e71, e71, e71, e71]; exact h4
  · rw [e14, e10]
    by_cases e : j = k
    · subst e
      rw [if_pos rfl]
      refine ⟨?_, fun _ => (h5 j hj).2 h14⟩
      rcases hx with rfl | rfl | rfl
      · exact Or.inl rfl
      · exact Or.inr (Or.inl rfl)
      · exact Or.inr (Or.inr (Or.inr rfl))
    · rw [if_neg e]; exact h5 j hj
  · rw [e10, sg_eq e71]
    exact h6 p hp hp2
/-- a job is admitted -/
theorem GA_admit {k : Nat} {a : AS} (h : GA a) (hk : k < 6) (h14 : av a 14 k 0 = 1) : GA (z_wake k (sv 14 k 0 2 a)) := by
  obtain ⟨h1, h2, h3, h4, h5, h6⟩ := h
  have hka : k ∉ al a 0 := fun y => by
    have := ((h2 k hk).mp y).1
    rw [h14] at this
    exact absurd this (by decide)
  have e14 : ∀ i, av (z_wake k (sv 14 k 0 2 a)) 14 i 0 = if i = k then 2 else av a 14 i 0 := fun i => by
    rw [vo_wake (by decide), av_sv]
    by_cases e : i = k
    · rw [if_pos ⟨rfl, e, rfl⟩, if_pos e]
    · rw [if_neg (by simp [e]), if_neg e]
  have e71 : ∀ i, av (z_wake k (sv 14 k 0 2 a)) 71 i 0 = av a 71 i 0 := fun i => by rw [vo_wake (by decide), av_o (by decide)]
  have e10 : ∀ i, av (z_wake k (sv 14 k 0 2 a)) 10 i 0 = if i = k then 0 else av a 10 i 0 := fun i => by
    rw [av_wake]
    by_cases e : i = k
    · rw [if_pos ⟨rfl, e, rfl⟩, if_pos e]
    · rw [if_neg (by simp [e]), if_neg e, av_o (by decide)]
  have el : al (z_wake k (sv 14 k 0 2 a)) 0 = al a 0 ++ [k] := al0_wake (a := sv 14 k 0 2 a) hka
  have hmem : ∀ p, p ∈ al a 0 ++ [k] ↔ p = k ∨ p ∈ al a 0 := fun p => by
    rw [List.mem_append, List.mem_singleton]
    exact ⟨fun o => o.elim Or.inr Or.inl, fun o => o.elim Or.inr Or.inl⟩
  refine ⟨⟨?_, fun p hp => ?_⟩, fun j hj => ?_, GSg_eq h3 e71, ?_, fun j hj => ?_, fun p hp hp2 => ?_⟩
  · rw [el]; exact nd_app h1.1 hka
  · rw [el] at hp
    rcases (hmem p).mp hp with rfl | y
    · omega
    · exact h1.2 p y
  · rw [el, hmem, e14, e10]
    by_cases e : j = k
    · subst e
      rw [if_pos rfl, if_pos rfl]
      exact ⟨fun _ => ⟨rfl, rfl⟩, fun _ => Or.inl rfl⟩
    · rw [if_neg e, if_neg e, h2 j hj]
      exact ⟨fun o => o.resolve_left e, Or.inr⟩
  · rw [el, hmem, hmem, hmem, hmem, e71, e71, e71, e71, e71, e71, e71]
    have n6 : ¬ (6 : Nat) = k := by omega
    have n7 : ¬ (7 : Nat) = k := by omega
    have n8 : ¬ (8 : Nat) = k := by omega
    have n9 : ¬ (9 : Nat) = k := by omega
    simp only [n6, n7, n8, n9, false_or]
    exact h4
  · rw [e14, e10]
    by_cases e : j = k
    · rw [if_pos e, if_pos e]
      exact ⟨Or.inr (Or.inr (Or.inl rfl)), fun y => absurd rfl y⟩
    · rw [if_neg e, if_neg e]; exact h5 j hj
  · rw [e10, if_neg (by omega), sg_eq e71]
    exact h6 p hp hp2
