/-! THE INVARIANT, all groups -/
def GG (n c x : Nat) (a : AS) : Prop := match x with
  | 0 => GA a
  | 1 => G1 a
  | 2 => G3 a
  | 3 => GB a
  | 4 => G2 a
  | 5 => G4 a
  | 6 => G5 a
  | 7 => G6 a
  | 8 => G8 a
  | 9 => G9 a
  | 10 => GS c a
  | 11 => GPa c a
  | 12 => GX a
  | 13 => GF n a
  | 14 => GN n a
  | _ => True
def dp : Nat → List Nat
  | 0 => [10, 14, 71]
  | 1 => [10, 12, 13, 45, 47, 71]
  | 2 => [10, 13, 52, 54, 71]
  | 3 => [1, 14, 26, 27, 28]
  | 4 => [10, 26, 27, 29]
  | 5 => [13, 14, 27, 34, 53, 55, 71]
  | 6 => [14, 16, 22]
  | 7 => [31, 32, 54]
  | 8 => [2, 7]
  | 9 => [4]
  | 10 => [14, 23, 25, 51]
  | 11 => [14, 23, 25, 35, 36, 55, 71, 72, 76, 77]
  | 12 => [13, 63, 64, 65, 67, 68, 71]
  | 13 => [12, 14, 23, 29, 37, 38, 39, 40, 42, 45, 46, 47, 49, 50, 51]
  | 14 => [12, 14, 18, 20, 23, 29, 37, 38, 39, 40, 42, 43, 45, 46, 47, 49, 50, 51]
  | _ => []
def dr : Nat → List Nat
  | 0 => [0]
  | 1 => [1]
  | 2 => [3]
  | 4 => [2]
  | 7 => [3]
  | 13 => [1]
  | 14 => [1]
  | _ => []
theorem c15 {P : Nat → Prop} (h0 : P 0) (h1 : P 1) (h2 : P 2) (h3 : P 3) (h4 : P 4) (h5 : P 5) (h6 : P 6) (h7 : P 7) (h8 : P 8) (h9 : P 9) (h10 : P 10) (h11 : P 11) (h12 : P 12) (h13 : P 13) (h14 : P 14) : ∀ x, x < 15 → P x := by
  intro x hx
  have hc : x = 0 ∨ x = 1 ∨ x = 2 ∨ x = 3 ∨ x = 4 ∨ x = 5 ∨ x = 6 ∨ x = 7 ∨ x = 8 ∨ x = 9 ∨ x = 10 ∨ x = 11 ∨ x = 12 ∨ x = 13 ∨ x = 14 := by omega
  rcases hc with rfl | rfl | rfl | rfl | rfl | rfl | rfl | rfl | rfl | rfl | rfl | rfl | rfl | rfl | rfl <;> assumption
theorem GN_eq {n : Nat} {a b : AS} (h : GN n a) (e : ∀ g, fF g → ∀ i j, av b g i j = av a g i j) (e18 : ∀ i, av b 18 i 0 = av a 18 i 0) (e20 : ∀ i, av b 20 i 0 = av a 20 i 0) (e43 : ∀ f, av b 43 f 0 = av a 43 f 0) (e29 : ∀ j, av b 29 j 0 = av a 29 j 0) (el : al b 1 = al a 1) : GN n b := by
  have eo := ow_eq (e 39 (by unfold fF; decide)) (e 40 (by unfold fF; decide))
  have ea := AK_eq (e 12 (by unfold fF; decide) 0 0) (e 47 (by unfold fF; decide) 0 0) el
  refine GN_keep h (fun j _ => e18 j) (fun j _ => e20 j) (fun j s i _ _ _ => wd_eq e) (fun f hf y => ⟨by rw [← e43]; exact y, fun k s z => (eo f k s).mpr z⟩) (fun k s hk hs y z => h.2.1 k hk ((ea k).mp y) s hs (by rw [← e29]; exact z)) ?_
  rw [adn_eq (fun j => e 14 (by unfold fF; decide) j 0)]
  exact Nat.le_refl _
theorem GG_dep {n c : Nat} {a b : AS} : ∀ x, x < 15 → GG n c x a → (∀ g, g ∈ dp x → ∀ i j, av b g i j = av a g i j) → (∀ q, q ∈ dr x → al b q = al a q) → GG n c x b := by
  refine c15 ?_ ?_ ?_ ?_ ?_ ?_ ?_ ?_ ?_ ?_ ?_ ?_ ?_ ?_ ?_ <;> intro h e el
  · exact GA_eq h (fun g hg i j => e g (by simp only [dp, List.mem_cons, List.not_mem_nil]; omega) i j) (el 0 (by decide))
  · exact G1_eq h (e 12 (by decide) 0 0) (e 47 (by decide) 0 0) (e 45 (by decide) 0 0) (fun s _ => e 71 (by decide) s 0) (fun s _ => e 13 (by decide) s 0) (el 1 (by decide)) (fun k _ y => by rw [e 10 (by decide)]; exact y)
  · exact G3_eq h (e 54 (by decide) 0 0) (e 52 (by decide) 0 0) (fun s _ => e 71 (by decide) s 0) (fun s _ => e 13 (by decide) s 0) (el 3 (by decide)) (fun k _ y => by rw [e 10 (by decide)]; exact y)
  · exact GB_eq h (fun g hg i j => e g (by simp only [dp, List.mem_cons, List.not_mem_nil]; omega) i j)
  · exact G2_eq h (el 2 (by decide)) (fun k _ y => by rw [e 10 (by decide)]; exact y) (fun k _ => e 29 (by decide) k 0) (fun k _ r _ => e 27 (by decide) k r) (fun k _ r _ => e 26 (by decide) k r)
  · exact G4_eq h (fun k _ => e 34 (by decide) k 0) (e 55 (by decide) 0 0) (e 53 (by decide) 0 0) (fun s _ => e 71 (by decide) s 0) (fun s _ => e 13 (by decide) s 0) (fun k _ _ y1 y2 => by rw [e 14 (by decide), e 27 (by decide)]; exact ⟨y1, y2⟩)
  · exact G5_eq h (fun g hg i j => e g (by simp only [dp, List.mem_cons, List.not_mem_nil]; omega) i j)
  · exact G6_eq h (fun g hg i j => e g (by simp only [dp, List.mem_cons, List.not_mem_nil]; omega) i j) (el 3 (by decide))
  · exact G8_eq h (e 2 (by decide) 0 0) (Or.inl (e 7 (by decide) 0 0))
  · obtain ⟨t, h1, h2⟩ := h
    exact ⟨t, by rw [e 4 (by decide)]; exact h1, h2⟩
  · exact GS_eq h (Nat.le_refl _) (fun g hg i j => e g (by simp only [dp, List.mem_cons, List.not_mem_nil]; omega) i j) (fun k _ y => by rw [← e 14 (by decide) k 0]; exact y)
  · exact GPa_eq h (Nat.le_refl _) (fun g hg i j => e g (by simp only [dp, List.mem_cons, List.not_mem_nil]; omega) i j) (fun k _ y => by rw [← e 14 (by decide) k 0]; exact y) (by rw [e 55 (by decide), e 71 (by decide)]; exact Nat.le_add_right _ _)
  · exact GX_eq h (fun g hg i j => e g (by simp only [dp, List.mem_cons, List.not_mem_nil]; omega) i j) (e 13 (by decide) 6 0) (e 71 (by decide) 6 0)
  · exact GF_eq h (fun g hg i j => e g (by unfold fF at hg; simp only [dp, List.mem_cons, List.not_mem_nil]; omega) i j) (el 1 (by decide)) (fun j _ _ => e 29 (by decide) j 0)
  · exact GN_eq h (fun g hg i j => e g (by unfold fF at hg; simp only [dp, List.mem_cons, List.not_mem_nil]; omega) i j) (fun i => e 18 (by decide) i 0) (fun i => e 20 (by decide) i 0) (fun f => e 43 (by decide) f 0) (fun j => e 29 (by decide) j 0) (el 1 (by decide))
def GI (n c : Nat) (a : AS) : Prop := ∀ x, x < 15 → GG n c x a
def tch (W V : List Nat) (x : Nat) : Bool := (dp x).any (fun g => W.contains g) || (dr x).any (fun q => V.contains q)
theorem GI_step {n c : Nat} {a b : AS} (h : GI n c a) (W V : List Nat) (hW : ∀ g, g ∉ W → ∀ i j, av b g i j = av a g i j) (hV : ∀ q, q ∉ V → al b q = al a q) (hx : ∀ x, x < 15 → tch W V x = true → GG n c x b) : GI n c b := by
  intro x hxl
  by_cases t : tch W V x = true
  · exact hx x hxl t
  · unfold tch at t
    rw [Bool.or_eq_true, not_or] at t
    refine GG_dep x hxl (h x hxl) (fun g hg => hW g (fun y => t.1 ?_)) (fun q hq => hV q (fun y => t.2 ?_))
    · rw [List.any_eq_true]
      exact ⟨g, hg, by simpa using y⟩
    · rw [List.any_eq_true]
      exact ⟨q, hq, by simpa using y⟩
/-- only what no group speaks of, or only numbers of group 5 -/
theorem GI_same {n c : Nat} {a b : AS} (h : GI n c a) (W V : List Nat) (hW : ∀ g, g ∉ W → ∀ i j, av b g i j = av a g i j) (hV : ∀ q, q ∉ V → al b q = al a q) (ht : ∀ x, x < 15 → tch W V x = false) : GI n c b :=
  GI_step h W V hW hV (fun x hx y => absurd y (by rw [ht x hx]; decide))
theorem GI_use {n c f : Nat} {a : AS} (h : GI n c a) : GI n c (z_use f a) :=
  GI_same h [41] [] (fun g hg i j => vo_use (by simpa using hg)) (fun q _ => rfl) (by decide)
theorem GI_t5 {n c : Nat} {a : AS} (h : GI n c a) : GI n c (z_t5 a) :=
  GI_same h [5] [] (fun g hg i j => av_o (by simpa using hg)) (fun q _ => rfl) (by decide)
theorem GI_say {n c : Nat} {x : Int32} {a : AS} (h : GI n c a) : GI n c (z_say x a) :=
  GI_same h [66, 69] [] (fun g hg i j => vo_say (by simp at hg; omega) (by simp at hg; omega)) (fun q _ => by unfold z_say; split <;> rfl) (by decide)
theorem GI_out {n c k o : Nat} {a : AS} (h : GI n c a) (hk : k < 6) (h14 : av a 14 k 0 = 2) (ho : o < 10) : GI n c (sv 16 k 0 (nI o) a) := by
  have h5 : G5 a := h 6 (by decide)
  refine GI_step h [16] [] (fun g hg i j => av_o (by simpa using hg)) (fun q _ => rfl) (c15 ?_ ?_ ?_ ?_ ?_ ?_ ?_ ?_ ?_ ?_ ?_ ?_ ?_ ?_ ?_)
  all_goals first | exact fun y => absurd y (by decide) | skip
  exact fun _ => G5_out (k := k) (o := o) h5 hk h14 ho (fun g hg i j => av_o (by omega)) (fun j => sv_k)
