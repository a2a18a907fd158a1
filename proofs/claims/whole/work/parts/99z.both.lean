/-! THE TWO SIDES TOGETHER: every call -/
def Inv (n c : Nat) (C R : St) : Prop := ∃ a, RC n C a ∧ RR n none R a ∧ GI n c a ∧ ∃ t, t ≤ 200 * c ∧ G7 t a
def Both (n c : Nat) (o1 o2 : Option (Int32 × St)) : Prop := ∃ r C R, o1 = some (r, C) ∧ o2 = some (r, R) ∧ Inv n c C R
theorem both_of {n c : Nat} {o1 o2 : Option (Int32 × St)} {z : Int32 × AS} (h1 : Rn o1 (fun r D => r = z.1 ∧ RC n D z.2)) (h2 : Rn o2 (fun r D => r = z.1 ∧ RR n none D z.2)) (hG : GI n c z.2) (h7 : ∃ t, t ≤ 200 * c ∧ G7 t z.2) : Both n c o1 o2 := by
  obtain ⟨r1, C, e1, rfl, hC⟩ := h1
  obtain ⟨r2, R, e2, rfl, hR⟩ := h2
  exact ⟨_, C, R, e1, e2, z.2, hC, hR, hG, h7⟩
theorem both_q {n c : Nat} {C R : St} {z : Int32} {o1 o2 : Option (Int32 × St)} {a : AS} (hC : RC n C a) (hR : RR n none R a) (hG : GI n c a) (h7 : ∃ t, t ≤ 200 * c ∧ G7 t a) (h1 : o1 = some (z, C)) (h2 : o2 = some (z, R)) : Both n (c + 1) o1 o2 := by
  obtain ⟨t, ht, h7⟩ := h7
  exact ⟨z, C, R, h1, h2, a, hC, hR, GI_more hG (Nat.le_succ c), t, by omega, h7⟩
theorem g7_keep {c : Nat} {a b : AS} (h : ∃ t, t ≤ 200 * c ∧ G7 t a) (e : ∀ g, g = 5 ∨ g = 69 → av b g 0 0 = av a g 0 0) : ∃ t, t ≤ 200 * (c + 1) ∧ G7 t b := by
  obtain ⟨t, ht, h7⟩ := h
  exact ⟨t, by omega, G7_eq h7 e⟩
theorem b_feed {n c : Nat} {x1 x2 x3 x4 : Int32} {C R : St} (h : Inv n c C R) : Both n (c + 1) (F_X11_feed n x1 x2 x3 x4 C) (F_X12_feed x1 x2 x3 x4 R) := by
  obtain ⟨a, hC, hR, hG, h7⟩ := h
  have h9 : G9 a := hG 9 (by decide)
  obtain ⟨t, ht, ht2⟩ := h9
  refine both_of (k_feed hC ht ht2) (m_feed hR ht ht2) (GI_more (GI_feed hG) (Nat.le_succ c)) (g7_keep h7 (fun g hg => ?_))
  unfold z_feed
  split
  · show av (sv 4 0 0 _ (sv 3 _ 0 x4 (sv 3 _ 0 x3 (sv 3 _ 0 x2 (sv 3 _ 0 x1 a))))) g 0 0 = _
    rw [av_o (by omega), av_o (by omega), av_o (by omega), av_o (by omega), av_o (by omega)]
  · rfl
theorem b_submit {n c : Nat} {x1 x2 x3 x4 x5 : Int32} {C R : St} (hn : n ≤ 12) (hc : c < 512) (h : Inv n c C R) : Both n (c + 1) (F_X11_submit n x1 x2 x3 x4 x5 C) (F_X12_submit x1 x2 x3 x4 x5 R) := by
  obtain ⟨a, hC, hR, hG, h7⟩ := h
  have h9 : G9 a := hG 9 (by decide)
  have hB : GB a := hG 3 (by decide)
  obtain ⟨t, ht, ht2⟩ := h9
  obtain ⟨pg, b1, b2, b3, -⟩ := hB
  refine both_of (k_submit hC ht ht2) (m_submit hR ht ht2 b1 b3 (GI_vac hG)) (GI_submit hG hn (by omega)) (g7_keep h7 (fun g hg => ?_))
  unfold z_submit
  split
  · split
    · exact av_o (by omega)
    · show av (sv 4 0 0 0 (z_sub _ _ _ _ _ _ a)) g 0 0 = _
      rw [av_o (by omega), sub_g (by simp; omega)]
  · exact av_o (by omega)
theorem b_tick {n c : Nat} {x : Int32} {C R : St} (hn : n ≤ 12) (hc : c < 512) (h : Inv n c C R) : Both n (c + 1) (F_X11_tick n x C) (F_X12_tick x R) := by
  obtain ⟨a, hC, hR, hG, t, ht, h7⟩ := h
  have hI := IT_tick1 (n := n) hn (by omega) hG h7 (by omega)
  refine both_of (k_tick hn (I := IT n c) (IT_sf (by omega)) hC hI) (m_tick hn (I := IT n c) (IT_sr hn (by omega)) hR hI) ?_ ?_
  · unfold z_tick
    split
    · exact GI_more hG (Nat.le_succ c)
    · exact GI_more (GI_ticks hn (by omega) _ a hG) (Nat.le_succ c)
  · unfold z_tick
    by_cases e : x < 0 ∨ ¬ x ≤ 200
    · rw [if_pos e]
      exact ⟨t, by omega, h7⟩
    · rw [if_neg e]
      rw [not_or] at e
      obtain ⟨r, hr, rfl⟩ := le200 e.1 (Classical.not_not.mp e.2)
      refine ⟨t + r, by omega, ?_⟩
      rw [show (nI r).toNatClampNeg = r from nI_clamp (by omega)]
      exact G7_ticks r t a h7
theorem b_done {n c : Nat} {x : Int32} {C R : St} (hn : n ≤ 12) (h : Inv n c C R) : Both n (c + 1) (F_X11_done n x C) (F_X12_done x R) := by
  obtain ⟨a, hC, hR, hG, h7⟩ := h
  have hA : GA a := hG 0 (by decide)
  refine both_of (k_done hC hn (GI_dr hG)) (m_done hR hn (GA_mz hA) (GI_md hG)) (GI_done hG hn) (g7_keep h7 (fun g hg => ?_))
  have ed : av (z_drum a) g 0 0 = av a g 0 0 := by
    unfold z_drum
    rw [vo_v (by omega) (by omega) (by omega), av_o (by omega)]
    split
    · split
      · show (if g = 37 ∧ _ then _ else av a g 0 0) = _
        rw [if_neg (by omega)]
      · rfl
    · show (if g = 38 ∧ _ then _ else av a g 0 0) = _
      rw [if_neg (by omega)]
  have er : av (z_rdone a) g 0 0 = av a g 0 0 := by
    unfold z_rdone
    rw [vo_v (by omega) (by omega) (by omega), av_o (by omega)]
  have ep : av (z_pdone a) g 0 0 = av a g 0 0 := by
    unfold z_pdone
    rw [vo_v (by omega) (by omega) (by omega), av_o (by omega)]
  unfold z_done
  split
  · split
    · rfl
    · exact ed
  · split
    · split
      · rfl
      · exact er
    · split
      · split
        · rfl
        · exact ep
      · rfl
theorem b_type {n c : Nat} {x : Int32} {C R : St} (h : Inv n c C R) : Both n (c + 1) (F_X11_type n x C) (F_X12_type x R) := by
  obtain ⟨a, hC, hR, hG, h7⟩ := h
  have hA : GA a := hG 0 (by decide)
  have hX : GX a := hG 12 (by decide)
  obtain ⟨L, m, hT⟩ := GX_ty hX
  refine both_of (k_type hC hT) (m_type hR (GA_mz hA) hT) (GI_more (GI_type hG) (Nat.le_succ c)) (g7_keep h7 (fun g hg => ?_))
  unfold z_type
  split
  · split
    · show av (z_v 6 (z_nl _ _ a)) g 0 0 = _
      unfold z_nl
      rw [vo_v (by omega) (by omega) (by omega), av_o (by omega), av_o (by omega), av_o (by omega), av_cpr, if_neg (by omega)]
    · rfl
  · split
    · rfl
    · show av (sv 67 0 0 _ (sv 63 _ 0 x a)) g 0 0 = _
      rw [av_o (by omega), av_o (by omega)]
theorem b_process {n c : Nat} {x1 x2 : Int32} {C R : St} (h : Inv n c C R) : Both n (c + 1) (F_X11_process n x1 x2 C) (F_X12_process x1 x2 R) := by
  obtain ⟨a, hC, hR, hG, h7⟩ := h
  have hA : GA a := hG 0 (by decide)
  exact both_q hC hR hG h7 (k_process hC) (m_process hR hA.1.1 hA.1.2 hA.2.2.2.2.2)
theorem b_job {n c : Nat} {x1 x2 : Int32} {C R : St} (h : Inv n c C R) : Both n (c + 1) (F_X11_job n x1 x2 C) (F_X12_job x1 x2 R) := by
  obtain ⟨a, hC, hR, hG, h7⟩ := h
  exact both_q hC hR hG h7 (k_jobq hC) (m_jobq hR)
theorem b_paper {n c : Nat} {x1 x2 : Int32} {C R : St} (hc : c < 512) (h : Inv n c C R) : Both n (c + 1) (F_X11_paper n x1 x2 C) (F_X12_paper x1 x2 R) := by
  obtain ⟨a, hC, hR, hG, h7⟩ := h
  have hP : GPa c a := hG 11 (by decide)
  obtain ⟨pc, hQ⟩ := GPa_pq hP (by omega)
  exact both_q hC hR hG h7 (k_paper hC hQ) (m_paper hR hQ)
theorem b_word {n c : Nat} {x1 x2 : Int32} {C R : St} (hn : n ≤ 12) (h : Inv n c C R) : Both n (c + 1) (F_X11_word n x1 x2 C) (F_X12_word x1 x2 R) := by
  obtain ⟨a, hC, hR, hG, h7⟩ := h
  exact both_q hC hR hG h7 (k_word hC hn (GI_wq hG)) (m_word hR hn (GI_wq hG) (GI_wr hG))
theorem b_frame {n c : Nat} {x1 x2 : Int32} {C R : St} (hn : n ≤ 12) (h : Inv n c C R) : Both n (c + 1) (F_X11_frame n x1 x2 C) (F_X12_frame x1 x2 R) := by
  obtain ⟨a, hC, hR, hG, h7⟩ := h
  exact both_q hC hR hG h7 (k_frame hC hn) (m_frame hR hn)
theorem b_about {n c : Nat} {x : Int32} {C R : St} (h : Inv n c C R) : Both n (c + 1) (F_X11_about n x C) (F_X12_about x R) := by
  obtain ⟨a, hC, hR, hG, h7⟩ := h
  exact both_q hC hR hG h7 (k_about hC) (m_about hR)
theorem b_octet {n c : Nat} {x : Int32} {C R : St} (h : Inv n c C R) : Both n (c + 1) (F_X11_octet n x C) (F_X12_octet x R) := by
  obtain ⟨a, hC, hR, hG, h7⟩ := h
  exact both_q hC hR hG h7 (k_octet hC) (m_octet hR)
