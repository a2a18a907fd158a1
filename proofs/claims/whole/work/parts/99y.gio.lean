/-! what the ticks want -/
def IT (n c : Nat) (a : AS) : Prop := GI n c a ∧ ∃ t, t < 2 ^ 25 ∧ G7 t a
theorem IT_sf {n c : Nat} (hc : c ≤ 512) : ∀ a p t, IT n c a → al a 0 = p :: t → SF n p (z_t5 a) := by
  intro a p t hI hl0
  obtain ⟨h0, u, hu, h7⟩ := hI
  have h : GI n c (z_t5 a) := GI_t5 h0
  have hl : al (z_t5 a) 0 = p :: t := hl0
  obtain ⟨-, ⟨ms, e69, hms⟩, -⟩ := PE_head (p := p) h7 (by rw [hl0]; exact List.mem_cons_self)
  have h69 : ∃ m, av (z_t5 a) 69 0 0 = nI m ∧ m < 2 ^ 29 := ⟨ms, e69, by omega⟩
  generalize z_t5 a = b at h hl h69
  have hm : p ∈ al b 0 := by rw [hl]; exact List.mem_cons_self
  have h1 : G1 b := h 1 (by decide)
  have h2 : G2 b := h 4 (by decide)
  refine ⟨fun e => GI_js (t := 0) h e hm h69, fun e => ?_, fun e => ?_, fun e => ?_, fun e => ?_⟩
  · subst e
    obtain ⟨w1, w2⟩ := GI_6 h hm
    refine ⟨fun y => ?_, fun y z => ?_⟩
    · obtain ⟨f, k, f1, k1, f2, k2, -⟩ := w2 y
      exact ⟨f, k, f1, k1, f2, k2⟩
    · obtain ⟨f, k, t, f1, k1, f2, k2, -⟩ := w1 (h1.2.2.1.resolve_right (fun o => o.elim y z))
      exact ⟨f, k, t, f1, f2, k2⟩
  · subst e
    obtain ⟨w1, w2⟩ := GI_7 h hm
    refine ⟨fun y => ?_, fun y => ?_⟩
    · obtain ⟨k, t, k1, k2, -⟩ := w1 y
      rw [k2]
      exact List.cons_ne_nil k t
    · obtain ⟨k, c, k1, k2, k3, k4, -, k5⟩ := w2 y
      exact ⟨k, c, k1, k2, k3, k4, k5⟩
  · subst e
    obtain ⟨w1, w2⟩ := GI_8 h hc hm
    refine ⟨fun y => ?_, fun y => ?_⟩
    · obtain ⟨k, -, k2, -⟩ := w1 y
      exact ⟨k, k2⟩
    · obtain ⟨k, m, pm, pc, q1, q2, q3, q4, q5, q6, q7, q8, q9⟩ := w2 y
      exact ⟨k, m, pc, q1, q2, q3, q4, q5, q8, q9⟩
  · subst e
    have hA : GA b := h 0 (by decide)
    have hX : GX b := h 12 (by decide)
    obtain ⟨L, m, x1, x2, x3, x4, x5, x6⟩ := GX_tx hX (hA.2.2.2.1.2.2.2.mp hm)
    obtain ⟨m9, y1, y2⟩ := h69
    exact ⟨L, m9, m, x1, h2.1, x6, x3, x4, x5, y1, y2⟩
theorem IT_sr {n c : Nat} (hn : n ≤ 12) (hc : c ≤ 512) : ∀ a, IT n c a → (∀ p ∈ al a 0, p < 10) ∧ (al a 0).length ≤ 10 ∧ ∀ p t, al a 0 = p :: t → SR n p (z_t5 a) ∧ EB p (z_step n p (z_t5 a)) := by
  intro a hI
  obtain ⟨h0, u, hu, h7⟩ := hI
  have hA0 : GA a := h0 0 (by decide)
  refine ⟨hA0.1.2, len10 hA0.1.1 hA0.1.2, fun p t hl0 => ?_⟩
  have h : GI n c (z_t5 a) := GI_t5 h0
  have hl : al (z_t5 a) 0 = p :: t := hl0
  have hP := PE_head (p := p) h7 (by rw [hl0]; exact List.mem_cons_self)
  have h69 : ∃ m, av (z_t5 a) 69 0 0 = nI m ∧ m < 2 ^ 29 := by
    obtain ⟨-, ⟨ms, e69, hms⟩, -⟩ := hP
    exact ⟨ms, e69, by omega⟩
  generalize z_t5 a = b at h hl h69 hP
  have hm : p ∈ al b 0 := by rw [hl]; exact List.mem_cons_self
  have h1 : G1 b := h 1 (by decide)
  have h2 : G2 b := h 4 (by decide)
  have hF : GF n b := h 13 (by decide)
  refine ⟨⟨fun e => ⟨GI_mj h e hl, GI_js (t := 0) h e hm h69, GI_mn h e⟩, fun e => ?_, fun e => ?_, fun e => ?_, fun e => ?_⟩, ?_⟩
  · subst e
    obtain ⟨w1, w2⟩ := GI_6 h hm
    refine ⟨GI_ms h (by decide) hl, h1.2.2.1, w1, w2, fun y => ?_, fun f hf => vJ_of hF hf⟩
    have := h1.2.2.2.2.2.2.2.2.1 (by rw [y.2]; exact I10_01)
    rw [y.1, y.2] at this
    exact absurd this (by decide)
  · subst e
    obtain ⟨w1, w2⟩ := GI_7 h hm
    refine ⟨GI_ms h (by decide) hl, w1, fun y => ?_⟩
    obtain ⟨k, c, k1, k2, k3, k4, k5, -⟩ := w2 y
    exact ⟨k, c, k1, k2, k3, k4, k5⟩
  · subst e
    obtain ⟨w1, w2⟩ := GI_8 h hc hm
    refine ⟨GI_ms h (by decide) hl, w1, fun y => ?_⟩
    obtain ⟨k, m, pm, pc, q1, q2, q3, q4, q5, q6, q7, q8, q9⟩ := w2 y
    exact ⟨k, m, pm, q1, q2, q3, q4, q5, q6, q7, fun z => GI_off h q1 z⟩
  · subst e
    have hA : GA b := h 0 (by decide)
    have hX : GX b := h 12 (by decide)
    obtain ⟨L, m, x1, x2, x3, x4, x5, x6⟩ := GX_tx hX (hA.2.2.2.1.2.2.2.mp hm)
    obtain ⟨m9, y1, y2⟩ := h69
    exact ⟨GI_ms h (by decide) hl, L, m, m9, x2, GI_mc h, x3, x4, x5, y1, y2⟩
  · have hS : GI n c (z_step n p b) := GI_pstep h hn hc hm
    have hE := PE_step (n := n) hP
    have hA : GA (z_step n p b) := hS 0 (by decide)
    have h8 : G8 (z_step n p b) := hS 8 (by decide)
    exact ⟨hA.1.1, hA.1.2, fun _ => h8, fun y => hE.2.2.resolve_left y⟩
theorem IT_tick1 {n c t : Nat} {a : AS} (hn : n ≤ 12) (hc : c ≤ 512) (h : GI n c a) (h7 : G7 t a) (ht : t + 200 < 2 ^ 25) : ∀ j, j < 200 → IT n c (z_ticks n j a) :=
  fun j hj => ⟨GI_ticks hn hc j a h, t + j, by omega, G7_ticks j t a h7⟩
