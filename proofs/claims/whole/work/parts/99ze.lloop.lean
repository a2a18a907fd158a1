/-! the loop itself -/
theorem sub6_lt {L i : Nat} (hL : L ≤ 387) (hi : i < 1000) (h : L < i + 6) : Int32.ofNat L - 6 < nI i := by
  by_cases h6 : 6 ≤ L
  · rw [show Int32.ofNat L - 6 = nI (L - 6) from nI_sub h6]
    exact nI_lt (by omega) (by omega)
  · have hc : L = 0 ∨ L = 1 ∨ L = 2 ∨ L = 3 ∨ L = 4 ∨ L = 5 := by omega
    have h0 : (0 : Int32) ≤ nI i := (nI_leI (a := 0) (by decide) (by omega)).mpr (Nat.zero_le i)
    refine Int32.lt_of_lt_of_le ?_ h0
    rcases hc with rfl | rfl | rfl | rfl | rfl | rfl <;> decide
theorem and15 (x : Int32) : ∃ r, r < 16 ∧ x &&& 15 = nI r := by
  refine ⟨(x &&& 15).toBitVec.toNat, ?_, ?_⟩
  · rw [Int32.toBitVec_and, BitVec.toNat_and]
    exact Nat.lt_of_le_of_lt Nat.and_le_right (by decide)
  · refine Int32.toBitVec_inj.mp ?_
    show (x &&& 15).toBitVec = BitVec.ofNat 32 (x &&& 15).toBitVec.toNat
    rw [BitVec.ofNat_toNat, BitVec.setWidth_eq]
set_option maxHeartbeats 4000000 in
set_option maxRecDepth 100000 in
/-- at the head of the loop, n calls done -/
theorem law_loop {p : Program} {l : Launch} {e : Env} {s : State} {m : MethodId} {below : List Frame} {meth : Method} {c : Code} {g : GP} {b L : Nat} {xs : Nat → Int32} (hL : L ≤ 387) (hC : CX p s m #[Value.ref b] c code RL g) (hE : EZ g s s.heap) (hml : c.maxLocals = 4) (hX : va_X b L xs s s.heap) (hbl : b < s.heap.size) (hbA : ¬ gP g b) (hn12 : gn g ≤ 12) (hr : meth.sig.returnType = ret) (hlocks : meth.locks = false) (hgP : gP g = fun q : Nat => s.heap.size ≤ q) : ∀ (f n : Nat), n + f = 65 → ∀ (i : Nat), i = 3 + 6 * n → ∀ (ed : Nat → Nat) (C R : St) (H : Heap) (locs : List Loc) (ls : Array Slot), Inv (gn g) n C R → HW g ed C R H → va_S (gP g) s.heap H locs → lv_has ls 4 [(3, .int (nI i)), (2, .ref (gA g 50 0)), (1, .ref (gA g 0 0)), (0, .ref b)] → W p l e room_1 s m #[Value.ref b] below meth c H locs (lwK n) (lwS n) (lw_Z below #[Value.ref b] s) (F0 m 48 ls []) := by
  intro f
  induction f with
  | zero =>
    intro n hn i hi ed C R H locs ls hI hH hS hl
    refine lv_iload_n hC.1 hC.2.1 dL_law_48 rfl (lv_at hl 0 rfl) ?_
    refine lv_aload_n hC.1 hC.2.1 dL_law_49 rfl (lv_at hl 3 rfl) ?_
    refine va_slen hC.1 hC.2.1 hX hbl hbA hS dL_law_50 ?_
    refine lv_bipush (v := 6) hC.1 hC.2.1 dL_law_51 (by decide) ?_
    refine lv_isub hC.1 hC.2.1 dL_law_53 ?_
    refine lv_icmp_gt (tgt := 526) hC.1 hC.2.1 dL_law_54 (by decide) (fun _ => ?_) (fun h => absurd (sub6_lt hL (i := i) (by omega) (by omega)) h)
    refine lv_iconst (v := 1) hC.1 hC.2.1 dL_law_526 (by decide) ?_
    refine va_forget (fun q hq => by have := hS.2.2 q hq; rw [hgP] at this; exact this) ?_
    refine W.widen (k := 600000) (n := 7302250) (by unfold lwK; omega) (by unfold lwS; omega) ?_
    exact lw_ret hC.1 hC.2.1 hr hlocks dL_law_527
  | succ f ih =>
    intro n hn i hi ed C R H locs ls hI hH hS hl
    refine lv_iload_n hC.1 hC.2.1 dL_law_48 rfl (lv_at hl 0 rfl) ?_
    refine lv_aload_n hC.1 hC.2.1 dL_law_49 rfl (lv_at hl 3 rfl) ?_
    refine va_slen hC.1 hC.2.1 hX hbl hbA hS dL_law_50 ?_
    refine lv_bipush (v := 6) hC.1 hC.2.1 dL_law_51 (by decide) ?_
    refine lv_isub hC.1 hC.2.1 dL_law_53 ?_
    refine lv_icmp_gt (tgt := 526) hC.1 hC.2.1 dL_law_54 (by decide) (fun _ => ?_) (fun hle => ?_)
    · refine lv_iconst (v := 1) hC.1 hC.2.1 dL_law_526 (by decide) ?_
      refine va_forget (fun q hq => by have := hS.2.2 q hq; rw [hgP] at this; exact this) ?_
      refine W.widen (k := 600000) (n := 7302250) (by unfold lwK; omega) (by unfold lwS; omega) ?_
      exact lw_ret hC.1 hC.2.1 hr hlocks dL_law_527
    · have hiL : i + 6 ≤ L := Nat.not_lt.mp fun h => hle (sub6_lt hL (i := i) (by omega) (by omega))
      have hn64 : n < 64 := by omega
      have nx : ∀ (ed : Nat → Nat) (C R : St) (H : Heap) (locs : List Loc), Inv (gn g) (n + 1) C R → HW g ed C R H → va_S (gP g) s.heap H locs → W p l e room_1 s m #[Value.ref b] below meth c H locs (lwK (n + 1)) (lwS (n + 1)) (lw_Z below #[Value.ref b] s) (F0 m 520 ls []) := by
        intro ed C R H locs hI hH hS
        refine lv_iinc (v := nI (i + 6)) (lv' := [(3, .int (nI (i + 6))), (2, .ref (gA g 50 0)), (1, .ref (gA g 0 0)), (0, .ref b)]) hC.1 hC.2.1 dL_law_520 hl (k := 0) rfl (by rw [show Int32.ofInt 6 = nI 6 by decide]; exact nI_add i 6) (by decide) rfl (fun ls hl => ?_)
        refine lv_goto (tgt := 48) hC.1 hC.2.1 dL_law_523 (by decide) ?_
        exact ih (n + 1) (by omega) (i + 6) (by omega) ed C R H locs ls hI hH hS hl
      refine lv_aload_n hC.1 hC.2.1 dL_law_57 rfl (lv_at hl 3 rfl) ?_
      refine lv_iload_n hC.1 hC.2.1 dL_law_58 rfl (lv_at hl 0 rfl) ?_
      refine va_sld hC.1 hC.2.1 hX hbl hbA hS (vp_in_nI (show i < L by omega) (by omega)) dL_law_59 ?_
      refine lv_bipush (v := 15) hC.1 hC.2.1 dL_law_60 (by decide) ?_
      refine lv_iand hC.1 hC.2.1 dL_law_62 ?_
      obtain ⟨r, hr16, er⟩ := and15 (xs (nI i).toNatClampNeg)
      rw [er]
      have hti : (nI r).toInt = (r : Int) := nI_toInt (by omega)
      by_cases hout : 11 < r
      · refine lv_tableOut (tgt := 520) hC.1 hC.2.1 dL_law_63 (Or.inr (by rw [hti]; omega)) (by decide) ?_
        refine W.widen (k := lwK (n + 1)) (n := lwS (n + 1)) (by unfold lwK; omega) (by unfold lwS; omega) ?_
        obtain ⟨a, h1, h2, h3, t, h4, h5⟩ := hI
        exact nx ed C R H locs ⟨a, h1, h2, GI_more h3 (Nat.le_succ n), t, by omega, h5⟩ hH hS
      · have hc : r = 0 ∨ r = 1 ∨ r = 2 ∨ r = 3 ∨ r = 4 ∨ r = 5 ∨ r = 6 ∨ r = 7 ∨ r = 8 ∨ r = 9 ∨ r = 10 ∨ r = 11 := by omega
        rcases hc with rfl | rfl | rfl | rfl | rfl | rfl | rfl | rfl | rfl | rfl | rfl | rfl
        · exact lv_tableIn (off := 61) (tgt := 124) hC.1 hC.2.1 dL_law_63 (by decide) (by decide) (by decide +kernel) (by decide) (law_feed hL hC hE hml hX hbl hbA hn12 hn64 hiL hI hH hS hl nx)
        · exact lv_tableIn (off := 114) (tgt := 177) hC.1 hC.2.1 dL_law_63 (by decide) (by decide) (by decide +kernel) (by decide) (law_submit hL hC hE hml hX hbl hbA hn12 hn64 hiL hI hH hS hl nx)
        · exact lv_tableIn (off := 177) (tgt := 240) hC.1 hC.2.1 dL_law_63 (by decide) (by decide) (by decide +kernel) (by decide) (law_tick hL hC hE hml hX hbl hbA hn12 hn64 hiL hI hH hS hl nx)
        · exact lv_tableIn (off := 200) (tgt := 263) hC.1 hC.2.1 dL_law_63 (by decide) (by decide) (by decide +kernel) (by decide) (law_done hL hC hE hml hX hbl hbA hn12 hn64 hiL hI hH hS hl nx)
        · exact lv_tableIn (off := 223) (tgt := 286) hC.1 hC.2.1 dL_law_63 (by decide) (by decide) (by decide +kernel) (by decide) (law_type hL hC hE hml hX hbl hbA hn12 hn64 hiL hI hH hS hl nx)
        · exact lv_tableIn (off := 246) (tgt := 309) hC.1 hC.2.1 dL_law_63 (by decide) (by decide) (by decide +kernel) (by decide) (law_process hL hC hE hml hX hbl hbA hn12 hn64 hiL hI hH hS hl nx)
        · exact lv_tableIn (off := 279) (tgt := 342) hC.1 hC.2.1 dL_law_63 (by decide) (by decide) (by decide +kernel) (by decide) (law_job hL hC hE hml hX hbl hbA hn12 hn64 hiL hI hH hS hl nx)
        · exact lv_tableIn (off := 312) (tgt := 375) hC.1 hC.2.1 dL_law_63 (by decide) (by decide) (by decide +kernel) (by decide) (law_paper hL hC hE hml hX hbl hbA hn12 hn64 hiL hI hH hS hl nx)
        · exact lv_tableIn (off := 345) (tgt := 408) hC.1 hC.2.1 dL_law_63 (by decide) (by decide) (by decide +kernel) (by decide) (law_word hL hC hE hml hX hbl hbA hn12 hn64 hiL hI hH hS hl nx)
        · exact lv_tableIn (off := 378) (tgt := 441) hC.1 hC.2.1 dL_law_63 (by decide) (by decide) (by decide +kernel) (by decide) (law_frame hL hC hE hml hX hbl hbA hn12 hn64 hiL hI hH hS hl nx)
        · exact lv_tableIn (off := 411) (tgt := 474) hC.1 hC.2.1 dL_law_63 (by decide) (by decide) (by decide +kernel) (by decide) (law_about hL hC hE hml hX hbl hbA hn12 hn64 hiL hI hH hS hl nx)
        · exact lv_tableIn (off := 434) (tgt := 497) hC.1 hC.2.1 dL_law_63 (by decide) (by decide) (by decide +kernel) (by decide) (law_octet hL hC hE hml hX hbl hbA hn12 hn64 hiL hI hH hS hl nx)
