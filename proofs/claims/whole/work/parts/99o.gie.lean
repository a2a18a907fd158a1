/-! the whole invariant: a tick -/
theorem GA_perm {a b : AS} (h : GA a) (e : ∀ g, g = 10 ∨ g = 14 ∨ g = 71 → ∀ i j, av b g i j = av a g i j) (hn : (al b 0).Nodup) (hm : ∀ p, p ∈ al b 0 ↔ p ∈ al a 0) : GA b := by
  obtain ⟨h1, h2, h3, h4, h5, h6⟩ := h
  have e10 := e 10 (by decide)
  have e14 := e 14 (by decide)
  have e71 := e 71 (by decide)
  refine ⟨⟨hn, fun p hp => h1.2 p ((hm p).mp hp)⟩, ?_, GSg_eq h3 (fun s => e71 s 0), ?_, ?_, ?_⟩
  · intro k hk; rw [hm, e14, e10]; exact h2 k hk
  · rw [hm, hm, hm, hm, e71, e71, e71, e71, e71, e71, e71]; exact h4
  · intro k hk; rw [e14, e10]; exact h5 k hk
  · intro p hp hp2; rw [e10, sg_eq (fun s => e71 s 0)]; exact h6 p hp hp2
theorem GI_endt {n c p : Nat} {a : AS} (h : GI n c a) : GI n c (z_endt p a) := by
  have hA : GA a := h 0 (by decide)
  have h8 : G8 a := h 8 (by decide)
  have g8 : G8 (z_endt p a) := G8_endt h8
  have o : ∀ g, g ∉ [7] → ∀ i j, av (z_endt p a) g i j = av a g i j := fun g hg i j => by
    simp at hg
    unfold z_endt
    split
    · split
      · exact av_o hg
      · rw [av_sl, av_o hg]
    · rfl
  have yl : ∀ q, q ∉ [0] → al (z_endt p a) q = al a q := fun q hq => by
    simp at hq
    unfold z_endt
    split
    · split
      · rfl
      · rw [al_sl, if_neg hq]; rfl
    · rfl
  have gA : GA (z_endt p a) := by
    refine GA_perm hA (fun g hg i j => o g (by simp; omega) i j) ?_ ?_
    · unfold z_endt
      split
      · split
        · exact hA.1.1
        · rw [al_sl, if_pos rfl]
          exact nd_app (hA.1.1.erase p) (fun y => (hA.1.1.mem_erase_iff.mp y).1 rfl)
      · exact hA.1.1
    · intro q
      unfold z_endt
      split
      · rename_i hh
        have hp : p ∈ al a 0 := List.mem_of_mem_head? hh
        split
        · exact Iff.rfl
        · rw [al_sl, if_pos rfl, List.mem_append, List.mem_singleton, hA.1.1.mem_erase_iff]
          refine ⟨fun y => y.elim (fun y => y.2) (fun y => y ▸ hp), fun y => ?_⟩
          by_cases e : q = p
          · exact Or.inr e
          · exact Or.inl ⟨e, y⟩
      · exact Iff.rfl
  refine GI_step h [7] [0] o yl (c15 ?_ ?_ ?_ ?_ ?_ ?_ ?_ ?_ ?_ ?_ ?_ ?_ ?_ ?_ ?_)
  all_goals first | exact fun y => absurd y (by decide) | skip
  · exact fun _ => gA
  · exact fun _ => g8
theorem GI_tick1 {n c : Nat} {a : AS} (h : GI n c a) (hn : n ≤ 12) (hc : c ≤ 512) : GI n c (z_tick1 n a) := by
  unfold z_tick1
  split
  · exact GI_t5 h
  · rename_i p t hl
    refine GI_endt (GI_pstep (GI_t5 h) hn hc ?_)
    show p ∈ al a 0
    rw [hl]; exact List.mem_cons_self
theorem GI_ticks {n c : Nat} (hn : n ≤ 12) (hc : c ≤ 512) : ∀ m a, GI n c a → GI n c (z_ticks n m a) := by
  intro m
  induction m with
  | zero => intro a h; exact h
  | succ m ih => intro a h; exact ih _ (GI_tick1 h hn hc)
theorem GI_more {n c c' : Nat} {a : AS} (h : GI n c a) (hc : c ≤ c') : GI n c' a := by
  have hS : GS c a := h 10 (by decide)
  have hP : GPa c a := h 11 (by decide)
  refine c15 ?_ ?_ ?_ ?_ ?_ ?_ ?_ ?_ ?_ ?_ ?_ ?_ ?_ ?_ ?_
  · exact h 0 (by decide)
  · exact h 1 (by decide)
  · exact h 2 (by decide)
  · exact h 3 (by decide)
  · exact h 4 (by decide)
  · exact h 5 (by decide)
  · exact h 6 (by decide)
  · exact h 7 (by decide)
  · exact h 8 (by decide)
  · exact h 9 (by decide)
  · exact GS_eq hS hc (fun _ _ _ _ => rfl) (fun _ _ y => y)
  · exact GPa_eq hP hc (fun _ _ _ _ => rfl) (fun _ _ y => y) (Nat.le_add_right _ _)
  · exact h 12 (by decide)
  · exact h 13 (by decide)
  · exact h 14 (by decide)
