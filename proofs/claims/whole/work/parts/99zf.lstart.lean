set_option maxHeartbeats 8000000 in
set_option maxRecDepth 200000 in
/-- THE LAW, from its entry (by law.py) -/
theorem whole_start {p : Program} {e : Env} {s : State} {m : MethodId} {below : List Frame} {meth : Method} {c : Code} (l : Launch) {b L : Nat} {xs : Nat → Int32} (hL : L ≤ 387) (C0 : lw_At p s m meth c b L xs) : W p l e room_1 s m #[Value.ref b] below meth c s.heap [] 0 0 (lw_Z below #[Value.ref b] s) (entryFrame m ([Value.ref b] : List Value).toArray 4) := by
  obtain ⟨hx, hb, hr, hml, hown, hts, hX, hbl, hlocks, hgv⟩ := C0
  obtain ⟨g, hgP, hK, hE⟩ := law_env hts hgv
  have hA : ∀ q, s.heap.size ≤ q → gP g q := fun q h => by rw [hgP]; exact h
  have hbA : ¬ gP g b := by rw [hgP]; exact Nat.not_le.mpr hbl
  have hC : CX p s m #[Value.ref b] c code RL g := ⟨hx, hb, hown, fun w h => hts w (List.mem_filter.mp h).1, hK, hA, KN_start hts⟩
  have hAg : ∀ q, gP g q → gP g q := fun _ h => h
  have hS : va_S (gP g) s.heap s.heap [] := va_S.rf
  have hP : va_P (gD g) vwCl [] s.heap := fun k q h => by simp at h
  have hD : va_D (gP g) [] := ⟨fun i j p q h => by simp at h, fun k q h => by simp at h⟩
  obtain ⟨N, n4, n12, eN⟩ := btw_nI (a := 4) (b := 12) (by decide) (by decide) (cel L xs 0)
  obtain ⟨pg, p1, p6, ep⟩ := btw_nI (a := 1) (b := 6) (by decide) (by decide) (cel L xs 1)
  obtain ⟨qm, q1, q9, eq⟩ := btw_nI (a := 1) (b := 9) (by decide) (by decide) (cel L xs 2)
  have wN : wth (cel L xs 0) 4 12 = nI N := (wth_btw (a := 4) (b := 12) (by decide) (by decide) (cel L xs 0)).trans eN
  have wp : wth (cel L xs 1) 1 6 = nI pg := (wth_btw (a := 1) (b := 6) (by decide) (by decide) (cel L xs 1)).trans ep
  have wq : wth (cel L xs 2) 1 9 = nI qm := (wth_btw (a := 1) (b := 9) (by decide) (by decide) (cel L xs 2)).trans eq
  have eN : btw (cel L xs 0) 4 12 = nI N := eN
  have ep : btw (cel L xs 1) 1 6 = nI pg := ep
  have eq : btw (cel L xs 2) 1 9 = nI qm := eq
  obtain ⟨ls, he, hl⟩ := g_entry m (vs := [.ref b]) (n := 4) (List.forall_mem_cons.mpr ⟨rfl, (fun _ h => absurd h List.not_mem_nil)⟩) (Nat.le_of_ble_eq_true rfl)
  rw [he]
  have hl : lv_has ls 4 [(0, .ref b)] := hl
  refine va_new (ci := 12) (fs := [.null, .null, .null, .null, .null, .null, .null, .null, .null, .int 0]) (C := RX11) (T := TX11) (N := 10) hC.1 hC.2.1 hC.2.2.2.1 uw_X11 tyX11 tyX11_ok hC.2.2.1 (hC.2.2.2.1 _ wd_23) (hC.2.2.2.1 _ wd_24) (hC.2.2.2.1 _ wd_1) hC.2.2.2.2.1 hP hD hS hA rfl df_X11 (by show 0 + 1 ≤ 600000; omega) (by show 0 + 10 ≤ 7302250; omega) dL_law_0 (fun h0 H hP hD hS => ?_)
  have hP : va_P (gD g) vwCl ([(h0, .inr (12, [.null, .null, .null, .null, .null, .null, .null, .null, .null, .int 0]))] ++ []) H := hP
  have hD : va_D (gP g) ([(h0, .inr (12, [.null, .null, .null, .null, .null, .null, .null, .null, .null, .int 0]))] ++ []) := hD
  refine W.widen (k := 1) (n := 10) (by omega) (by omega) ?_
  refine lv_dup hC.1 hC.2.1 dL_law_3 rfl ?_
  refine lv_aload_n hC.1 hC.2.1 dL_law_4 rfl (lv_at hl 0 rfl) ?_
  refine lv_iconst (v := nI 0) hC.1 hC.2.1 dL_law_5 (by decide) ?_
  refine call_cell (k := 0) hL (by decide) hC hE hml hX hbl hbA hP hD hS hl.1 (Nat.le_of_ble_eq_true rfl) dL_law_6 ⟨by omega, by omega⟩ (fun H locs hP hD hS => ?_)
  refine lv_aload_n hC.1 hC.2.1 dL_law_9 rfl (lv_at hl 0 rfl) ?_
  refine lv_iconst (v := nI 1) hC.1 hC.2.1 dL_law_10 (by decide) ?_
  refine call_cell (k := 1) hL (by decide) hC hE hml hX hbl hbA hP hD hS hl.1 (Nat.le_of_ble_eq_true rfl) dL_law_11 ⟨by omega, by omega⟩ (fun H locs hP hD hS => ?_)
  refine lv_aload_n hC.1 hC.2.1 dL_law_14 rfl (lv_at hl 0 rfl) ?_
  refine lv_iconst (v := nI 2) hC.1 hC.2.1 dL_law_15 (by decide) ?_
  refine call_cell (k := 2) hL (by decide) hC hE hml hX hbl hbA hP hD hS hl.1 (Nat.le_of_ble_eq_true rfl) dL_law_16 ⟨by omega, by omega⟩ (fun H locs hP hD hS => ?_)
  refine tcallI (T := []) (As := [.int (cel L xs 0), .int (cel L xs 1), .int (cel L xs 2)]) (rest := [.ref h0]) (wr := []) hC hE hml hP hD hS hA hAg (l_X11_init h0 (cel L xs 0) (cel L xs 1) (cel L xs 2) N _ (by omega) wN) ⟨wd_25, wd_26, wd_1, wd_27⟩ rfl hd_X11_init rfl rfl ⟨Nat.le_of_ble_eq_true rfl, Nat.le_of_ble_eq_true rfl⟩ rfl hl.1 rfl (Nat.le_of_ble_eq_true rfl) dL_law_19 ⟨by show _ ≤ 600000; omega, by show _ ≤ 7302250; omega⟩ [0] [] rfl rfl (by decide) (by decide) (by decide) (fun W1 H locs hB1 hP hD hS => ?_)
  refine W.widen (k := 110) (n := 3800) (by omega) (by omega) ?_
  refine lv_astore_n (lv' := [(1, .ref h0), (0, .ref b)]) hC.1 hC.2.1 dL_law_22 rfl hl (by decide) rfl (fun ls hl => ?_)
  have hP : va_P (gD g) vwCl W1 H := by rw [List.nil_append, List.append_nil] at hP; exact hP
  have hD : va_D (gP g) W1 := by rw [List.nil_append, List.append_nil] at hD; exact hD
  refine va_new (ci := 13) (fs := [.int 0, .int 0, .int 0, .null, .int 0, .int 0, .int 0, .int 0, .null, .null, .null, .null, .null, .null, .null, .null, .null, .null, .null, .null, .null, .null, .null, .null, .null, .int 0, .null, .null, .null, .null, .null, .null, .null, .null, .null, .null, .null, .null, .null, .null, .null, .null, .null, .null, .int 0, .int 0, .int 0, .int 0, .int 0, .int 0, .int 0, .int 0, .int 0, .int 0, .int 0, .int 0, .null, .null, .null, .null, .int 0, .int 0, .int 0, .null, .null, .null, .null, .int 0, .int 0, .int 0, .null]) (C := RX12) (T := TX12) (N := 71) hC.1 hC.2.1 hC.2.2.2.1 uw_X12 tyX12 tyX12_ok hC.2.2.1 (hC.2.2.2.1 _ wd_1113) (hC.2.2.2.1 _ wd_1114) (hC.2.2.2.1 _ wd_17) hC.2.2.2.2.1 hP hD hS hA rfl df_X12 (by show 110 + 1 ≤ 600000; omega) (by show 3800 + 71 ≤ 7302250; omega) dL_law_23 (fun m0 H hP hD hS => ?_)
  have hP : va_P (gD g) vwCl ([(m0, .inr (13, [.int 0, .int 0, .int 0, .null, .int 0, .int 0, .int 0, .int 0, .null, .null, .null, .null, .null, .null, .null, .null, .null, .null, .null, .null, .null, .null, .null, .null, .null, .int 0, .null, .null, .null, .null, .null, .null, .null, .null, .null, .null, .null, .null, .null, .null, .null, .null, .null, .null, .int 0, .int 0, .int 0, .int 0, .int 0, .int 0, .int 0, .int 0, .int 0, .int 0, .int 0, .int 0, .null, .null, .null, .null, .int 0, .int 0, .int 0, .null, .null, .null, .null, .int 0, .int 0, .int 0, .null]))] ++ W1) H := va_P.swap (a := []) hP
  have hD : va_D (gP g) ([(m0, .inr (13, [.int 0, .int 0, .int 0, .null, .int 0, .int 0, .int 0, .int 0, .null, .null, .null, .null, .null, .null, .null, .null, .null, .null, .null, .null, .null, .null, .null, .null, .null, .int 0, .null, .null, .null, .null, .null, .null, .null, .null, .null, .null, .null, .null, .null, .null, .null, .null, .null, .null, .int 0, .int 0, .int 0, .int 0, .int 0, .int 0, .int 0, .int 0, .int 0, .int 0, .int 0, .int 0, .null, .null, .null, .null, .int 0, .int 0, .int 0, .null, .null, .null, .null, .int 0, .int 0, .int 0, .null]))] ++ W1) := va_D.swap (a := []) hD
  refine W.widen (k := 111) (n := 3871) (by omega) (by omega) ?_
  refine lv_dup hC.1 hC.2.1 dL_law_26 rfl ?_
  refine lv_aload_n hC.1 hC.2.1 dL_law_27 rfl (lv_at hl 1 rfl) ?_
  refine lv_iconst (v := nI 0) hC.1 hC.2.1 dL_law_28 (by decide) ?_
  refine call_cell (k := 0) hL (by decide) hC hE hml hX hbl hbA hP hD hS hl.1 (Nat.le_of_ble_eq_true rfl) dL_law_29 ⟨by omega, by omega⟩ (fun H locs hP hD hS => ?_)
  refine lv_aload_n hC.1 hC.2.1 dL_law_32 rfl (lv_at hl 1 rfl) ?_
  refine lv_iconst (v := nI 1) hC.1 hC.2.1 dL_law_33 (by decide) ?_
  refine call_cell (k := 1) hL (by decide) hC hE hml hX hbl hbA hP hD hS hl.1 (Nat.le_of_ble_eq_true rfl) dL_law_34 ⟨by omega, by omega⟩ (fun H locs hP hD hS => ?_)
  refine lv_aload_n hC.1 hC.2.1 dL_law_37 rfl (lv_at hl 1 rfl) ?_
  refine lv_iconst (v := nI 2) hC.1 hC.2.1 dL_law_38 (by decide) ?_
  refine call_cell (k := 2) hL (by decide) hC hE hml hX hbl hbA hP hD hS hl.1 (Nat.le_of_ble_eq_true rfl) dL_law_39 ⟨by omega, by omega⟩ (fun H locs hP hD hS => ?_)
  refine tcallI (T := W1) (As := [.int (cel L xs 0), .int (cel L xs 1), .int (cel L xs 2)]) (rest := [.ref m0]) (wr := []) hC hE hml hP hD hS hA hAg (l_X12_init m0 (cel L xs 0) (cel L xs 1) (cel L xs 2) _) ⟨wd_1115, wd_1116, wd_17, wd_1117⟩ rfl hd_X12_init rfl rfl ⟨Nat.le_of_ble_eq_true rfl, Nat.le_of_ble_eq_true rfl⟩ rfl hl.1 rfl (Nat.le_of_ble_eq_true rfl) dL_law_42 ⟨by show _ ≤ 600000; omega, by show _ ≤ 7302250; omega⟩ [0] [] rfl rfl (by decide) (by decide) (by decide) (fun W2 H locs hB2 hP hD hS => ?_)
  refine lv_astore_n (lv' := [(2, .ref m0), (1, .ref h0), (0, .ref b)]) hC.1 hC.2.1 dL_law_45 rfl hl (by decide) rfl (fun ls hl => ?_)
  refine lv_iconst (v := nI 3) hC.1 hC.2.1 dL_law_46 (by decide) ?_
  refine lv_istore_n (lv' := [(3, .int (nI 3)), (2, .ref m0), (1, .ref h0), (0, .ref b)]) hC.1 hC.2.1 dL_law_47 rfl hl (by decide) rfl (fun ls hl => ?_)
  refine W.widen (k := lwK 0) (n := lwS 0) (by unfold lwK; omega) (by unfold lwS; omega) ?_
  have hP : va_P (gD g) vwCl (W2 ++ W1) H := by rw [List.nil_append] at hP; exact hP
  have hD : va_D (gP g) (W2 ++ W1) := by rw [List.nil_append] at hD; exact hD
  obtain ⟨A, eA0, eA50, hH⟩ := hw_both (x1 := cel L xs 0) (x2 := cel L xs 1) (x3 := cel L xs 2) hB1 hB2 hP hD
  rw [wp, wq, eN, ep, eq] at hH
  rw [← eA0, ← eA50] at hl
  exact law_loop (g := (gD g, A, gc g, N, ge g, gP g)) hL hC hE hml hX hbl hbA n12 hr hlocks hgP 65 0 rfl 3 rfl _ _ _ H locs ls (Inv_0 n12 p1 p6 q1 q9) hH hS hl
