/-! THE LAW: its start, cell (by law.py) -/
theorem KN_start {s : State} {args : Array Value} (hts : ∀ w ∈ lw_tbl, w.before args s = true) : KN s := by
  intro w hw
  have h1 := hts w (List.mem_filter.mp hw).1
  have h2 := (List.mem_filter.mp hw).2
  cases w <;> first | (cases h2; done) | exact va_Nw.of rfl h1 | exact h1
theorem K_prim {s : State} {args : Array Value} {ty : FieldType} (h : (Cond.arrayClass ty).before args s = true) (hr : ∀ c, s.vm.findClass ("[" ++ ty.toString) = some c → va_RA s c ty) : ∃ c : ClassId, ArrOfT s c ty ∧ va_RA s c ty := by
  obtain ⟨c, k, comp, h1, h2, h3⟩ := Cond.arrayClass_spec h
  exact ⟨c, fun n z => ⟨fun k h => (by cases h), k, h2, comp, h3⟩, hr c h1⟩
theorem K_obj {s : State} {args : Array Value} {C : String} (h : (Cond.arrayOver (.object C)).before args s = true) : ∃ c : ClassId, ArrOfT s c (.object C) ∧ va_RA s c (.object C) := by
  obtain ⟨comp, c, k, h1, h2, h3, h4, h5⟩ := Cond.arrayOver_spec h
  exact ⟨c, fun n z => ⟨fun k h => (by cases h), k, h3, comp, h4⟩, k, comp, h3, h4, h1, h5⟩
theorem K_bytes {s : State} {args : Array Value} (h : (Cond.arrayOver (.array .byte)).before args s = true) : ∃ c : ClassId, ArrOfT s c (.array .byte) ∧ va_RA s c (.array .byte) := by
  obtain ⟨comp, c, k, h1, h3, h4, h5⟩ := Cond.arrayOver_specA h
  exact ⟨c, fun n z => ⟨fun k h => (by cases h), k, h3, comp, h4⟩, h5⟩
theorem law_env {s : State} {b : Nat} (hts : ∀ w ∈ lw_tbl, w.before #[Value.ref b] s = true) (hgv : (Jvm.Cond.and given_1 narrow_1).before #[Value.ref b] s = true) : ∃ g : GP, gP g = (fun q : Nat => s.heap.size ≤ q) ∧ KK g s ∧ EZ g s s.heap := by
  have hG : ∀ w ∈ lwG, w.before #[Value.ref b] s = true := fun w h => hts w (List.mem_filter.mp h).1
  obtain ⟨c0, i0, hk0⟩ := u_known (C := RJx4a65c) (T := TJx4a65c) (N := 3) (n := 3) hG uw_Jx4a65c (hG _ wd_251)
  obtain ⟨c1, i1, hk1⟩ := u_known (C := RX0) (T := TX0) (N := 8) (n := 8) hG uw_X0 (hG _ wd_361)
  obtain ⟨c2, i2, hk2⟩ := u_known (C := RX1) (T := TX1) (N := 12) (n := 12) hG uw_X1 (hG _ wd_455)
  obtain ⟨c3, i3, hk3⟩ := u_known (C := RX2) (T := TX2) (N := 1) (n := 1) hG uw_X2 (hG _ wd_193)
  obtain ⟨c4, i4, hk4⟩ := u_known (C := RX3) (T := TX3) (N := 15) (n := 15) hG uw_X3 (hG _ wd_396)
  obtain ⟨c5, i5, hk5⟩ := u_known (C := RX4) (T := TX4) (N := 7) (n := 7) hG uw_X4 (hG _ wd_201)
  obtain ⟨c6, i6, hk6⟩ := u_known (C := RX5) (T := TX5) (N := 20) (n := 20) hG uw_X5 (hG _ wd_83)
  obtain ⟨c7, i7, hk7⟩ := u_known (C := RX6) (T := TX6) (N := 6) (n := 6) hG uw_X6 (hG _ wd_506)
  obtain ⟨c8, i8, hk8⟩ := u_known (C := RX7) (T := TX7) (N := 5) (n := 5) hG uw_X7 (hG _ wd_32)
  obtain ⟨c9, i9, hk9⟩ := u_known (C := RX8) (T := TX8) (N := 2) (n := 2) hG uw_X8 (hG _ wd_47)
  obtain ⟨c10, i10, hk10⟩ := u_known (C := RX9) (T := TX9) (N := 5) (n := 5) hG uw_X9 (hG _ wd_277)
  obtain ⟨c11, i11, hk11⟩ := u_known (C := RX10) (T := TX10) (N := 13) (n := 13) hG uw_X10 (hG _ wd_245)
  obtain ⟨c12, i12, hk12⟩ := u_known (C := RX11) (T := TX11) (N := 10) (n := 10) hG uw_X11 (hG _ wd_24)
  obtain ⟨c13, i13, hk13⟩ := u_known (C := RX12) (T := TX12) (N := 71) (n := 71) hG uw_X12 (hG _ wd_1114)
  obtain ⟨a0, ha0⟩ := K_prim (hG _ wl_int) (fun c h => h)
  obtain ⟨a1, ha1⟩ := K_prim (hG _ wl_byte) (fun c h => h)
  obtain ⟨a2, ha2⟩ := K_prim (hG _ wl_bool) (fun c h => h)
  obtain ⟨a3, ha3⟩ := K_obj (hts (.arrayOver (.object "DrumLayers$Job")) (List.mem_of_getElem? (i := 152) (by decide +kernel)))
  obtain ⟨a4, ha4⟩ := K_obj (hts (.arrayOver (.object "DrumLayers$Frame")) (List.mem_of_getElem? (i := 270) (by decide +kernel)))
  obtain ⟨a5, ha5⟩ := K_obj (hts (.arrayOver (.object "java/lang/Object")) (List.mem_of_getElem? (i := 862) (by decide +kernel)))
  obtain ⟨a6, ha6⟩ := K_bytes (hts (.arrayOver (.array .byte)) (List.mem_of_getElem? (i := 531) (by decide +kernel)))
  have fl := flat_of_before _ hgv
  have hA : ∀ a : Nat, a < s.heap.size → ¬ (fun q : Nat => s.heap.size ≤ q) a := fun a h h2 => Nat.not_le.mpr h h2
  have harr : (Cond.arrayOf (.static "java/util/ArrayList" "DEFAULTCAPACITY_EMPTY_ELEMENTDATA" "[Ljava/lang/Object;") (.object "java/lang/Object")).before #[Value.ref b] s = true := fl _ (by decide +kernel)
  have hlen : (Cond.eq (.length (.static "java/util/ArrayList" "DEFAULTCAPACITY_EMPTY_ELEMENTDATA" "[Ljava/lang/Object;")) (.int 0)).before #[Value.ref b] s = true := fl _ (by decide +kernel)
  obtain ⟨t, ht, hT⟩ := va_Tof (N := 0) (f := fun _ => .null) (A := fun q : Nat => s.heap.size ≤ q) (by decide) harr (va_eqt hlen) (fun j hj => absurd hj (Nat.not_lt_zero j)) hA
  have hZ := va_Zref (A := fun q : Nat => s.heap.size ≤ q) (hts (.laysStatic "java/util/ArrayList" "DEFAULTCAPACITY_EMPTY_ELEMENTDATA" "[Ljava/lang/Object;") (List.mem_of_getElem? (i := 333) (by decide +kernel))) (hG _ wd_11) ht hA
  refine ⟨((fun k => match k with | 0 => c0 | 1 => c1 | 2 => c2 | 3 => c3 | 4 => c4 | 5 => c5 | 6 => c6 | 7 => c7 | 8 => c8 | 9 => c9 | 10 => c10 | 11 => c11 | 12 => c12 | _ => c13, fun k => match k with | 0 => i0 | 1 => i1 | 2 => i2 | 3 => i3 | 4 => i4 | 5 => i5 | 6 => i6 | 7 => i7 | 8 => i8 | 9 => i9 | 10 => i10 | 11 => i11 | 12 => i12 | _ => i13), fun _ _ => 0, fun k => match k with | 0 => a0 | 1 => a1 | 2 => a2 | 3 => a3 | 4 => a4 | 5 => a5 | _ => a6, 0, t, fun q : Nat => s.heap.size ≤ q), rfl, ⟨fun k q hq => ?_, fun k q hq => ?_⟩, hZ, hT⟩
  · match k, hq with
    | 0, hq => cases hq; exact hk0
    | 1, hq => cases hq; exact hk1
    | 2, hq => cases hq; exact hk2
    | 3, hq => cases hq; exact hk3
    | 4, hq => cases hq; exact hk4
    | 5, hq => cases hq; exact hk5
    | 6, hq => cases hq; exact hk6
    | 7, hq => cases hq; exact hk7
    | 8, hq => cases hq; exact hk8
    | 9, hq => cases hq; exact hk9
    | 10, hq => cases hq; exact hk10
    | 11, hq => cases hq; exact hk11
    | 12, hq => cases hq; exact hk12
    | 13, hq => cases hq; exact hk13
    | k + 14, hq => exact absurd hq (by simp [vwCl])
  · match k, hq with
    | 0, hq => cases hq; exact ha0
    | 1, hq => cases hq; exact ha1
    | 2, hq => cases hq; exact ha2
    | 3, hq => cases hq; exact ha3
    | 4, hq => cases hq; exact ha4
    | 5, hq => cases hq; exact ha5
    | 6, hq => cases hq; exact ha6
    | k + 7, hq => exact absurd hq (by simp [tyL])
/-! cell: one int of the script, or 0 -/
def PX (g : GP) (b L : Nat) (xs : Nat → Int32) (sz : Nat) (U : State) : Prop := PL g [] sz U ∧ va_X b L xs U U.heap ∧ b < sz
theorem PX_blind {g : GP} {b L : Nat} {xs : Nat → Int32} {sz : Nat} {av : List Value} : FrameBlind (va_Pc av (PX g b L xs sz)) := fun a U f mk h => ⟨h.1, (PL_blind (av := av) a U f mk ⟨h.1, h.2.1⟩).2, va_X.moved (u := U) (Vm.Alike.refl U.vm) h.2.2.1, h.2.2.2⟩
theorem hd_L_cell : yL_cell.cls ≠ "java/lang/invoke/MethodHandle" ∧ yL_cell.cls ≠ "java/lang/invoke/VarHandle" ∧ (parseMethodDescriptor yL_cell.desc).map (fun d => d.parameters.length) = some 2 := by decide +kernel
def cel (L : Nat) (xs : Nat → Int32) (k : Nat) : Int32 := if k < L then xs k else 0
set_option maxHeartbeats 4000000 in
set_option maxRecDepth 100000 in
theorem l_cell {l : Launch} {g : GP} (b L : Nat) (xs : Nat → Int32) (k sz : Nat) (hL : L ≤ 387) (hk : k < 387) : Met l yL_cell (Cond.code yL_cell cL_cell 2 (some .int) :: lwG) ({ frames := 0, cells := 0, slots := 0, locals := 0 } : Room) (va_Pc [.ref b, .int (nI k)] (PX g b L xs sz)) (QL (some (.int (cel L xs k))) (fun W1 => W1 = []) g [] sz) 0 0 (va_A [] sz) := by
  refine Met.ofW (cc := cL_cell) (maxL := 2) (ret := some .int) (by decide +kernel) rfl ?_
  intro p e s m args below meth c s₁ Bd hml hv
  obtain ⟨-, -, hX, hbl⟩ := id hv
  obtain ⟨ha, hsz, hC, hE, hr, hlk, hP, hD0, hnm⟩ := l_start (avs := [.ref b, .int (nI k)]) (g := g) (W0 := []) (sz := sz) Bd ⟨hv.1, hv.2.1⟩
  subst ha
  subst hsz
  have hC : CX p s m ([.ref b, .int (nI k)] : List Value).toArray c cL_cell RL g := hC
  have hD : va_D (va_A [] s.heap.size) [] := hD0.self (sz := s.heap.size)
  have hS : va_S (va_A [] s.heap.size) s.heap s.heap [] := va_S.rf
  have hbA : ¬ va_A [] s.heap.size b := fun h => by
    rcases h with ⟨k, e, h⟩ | h
    · simp at h
    · exact absurd h (Nat.not_le.mpr hbl)
  obtain ⟨ls, he, hl⟩ := g_entry m (vs := [.ref b, .int (nI k)]) (n := 2) (List.forall_mem_cons.mpr ⟨rfl, (List.forall_mem_cons.mpr ⟨rfl, (fun _ h => absurd h List.not_mem_nil)⟩)⟩) (Nat.le_of_ble_eq_true rfl)
  rw [he]
  have hl : lv_has ls 2 [(0, .ref b), (1, .int (nI k))] := hl
  refine lv_iload_n hC.1 hC.2.1 dL_cell_0 rfl (lv_at hl 1 rfl) ?_
  refine lv_aload_n hC.1 hC.2.1 dL_cell_1 rfl (lv_at hl 0 rfl) ?_
  refine va_slen hC.1 hC.2.1 hX hbl hbA hS dL_cell_2 ?_
  refine lv_icmp_ge (tgt := 12) hC.1 hC.2.1 dL_cell_3 (by decide) (fun hge => ?_) (fun hlt => ?_)
  · have h1 : L ≤ k := (nI_leI (by omega) (by omega)).mp hge
    refine lv_iconst (v := 0) hC.1 hC.2.1 dL_cell_12 (by decide) ?_
    have e0 : cel L xs k = 0 := if_neg (by omega)
    rw [e0]
    exact lret_i (x := 0) hC hr hlk hP hD hS rfl (Nat.le_refl _) (Nat.le_refl _) dL_cell_13
  · have h1 : k < L := Nat.not_le.mp fun h => hlt ((nI_leI (by omega) (by omega)).mpr h)
    refine lv_aload_n hC.1 hC.2.1 dL_cell_6 rfl (lv_at hl 0 rfl) ?_
    refine lv_iload_n hC.1 hC.2.1 dL_cell_7 rfl (lv_at hl 1 rfl) ?_
    refine va_sld hC.1 hC.2.1 hX hbl hbA hS (vp_in_nI h1 (by omega)) dL_cell_8 ?_
    refine lv_goto (tgt := 13) hC.1 hC.2.1 dL_cell_9 (by decide) ?_
    have e0 : cel L xs k = xs k := if_pos h1
    rw [show (nI k).toNatClampNeg = k from nI_clamp (by omega), e0]
    exact lret_i (x := xs k) hC hr hlk hP hD hS rfl (Nat.le_refl _) (Nat.le_refl _) dL_cell_13
section LCL
variable {p : Program} {l : Launch} {e : Env} {s : State} {m : MethodId} {args : Array Value} {below : List Frame} {meth : Method} {c : Code} {H : Heap} {locs : List Loc} {cells slots : Nat} {Q : State → Prop}
variable {pc : Nat} {ls : Array Slot} {rest : List Value} {g : GP} {ws : va_W}
/-- cell, called by the law -/
theorem call_cell {b L : Nat} {xs : Nat → Int32} {k : Nat} (hL : L ≤ 387) (hk : k < 387) (hC : CX p s m args c code RL g) (hE : EZ g s s.heap) (hml : c.maxLocals = 4) (hX : va_X b L xs s s.heap) (hbl : b < s.heap.size) (hbA : ¬ gP g b) (hP : va_P (gD g) vwCl ws H) (hD : va_D (gP g) ws) (hS : va_S (gP g) s.heap H locs) (hsize : ls.size = 4) (hW : (rest.map fun v => v.category).sum ≤ 8) (hdg : decode code pc = .ok (.invokestatic 9, 3)) (hf : cells ≤ 600000 ∧ slots ≤ 7302250)
    (kk : ∀ (H1 : Heap) (locs1 : List Loc), va_P (gD g) vwCl ws H1 → va_D (gP g) ws → va_S (gP g) s.heap H1 locs1 → W p l e room_1 s m args below meth c H1 locs1 cells slots Q (F0 m (pc + 3) ls (.int (cel L xs k) :: rest))) : W p l e room_1 s m args below meth c H locs cells slots Q (F0 m pc ls (.int (nI k) :: .ref b :: rest)) := by
  have hC0 := hC
  obtain ⟨hx, hb, hown, hts, hK, hA2⟩ := hC
  have hP0 : va_P (gD g) vwCl [] H := fun k q h => by simp at h
  have hD0 : va_D (gP g) [] := ⟨fun i j p q h => by simp at h, fun k q h => by simp at h⟩
  have hXH : va_X b L xs s H := hX.kept (hS.2.1 b hbl hbA)
  refine t_after (ws := []) (wr := []) (T := ws) (As := [.ref b, .int (nI k)]) (vo := some (.int (cel L xs k))) (mc := 0) (ms := 0) (va_runS (Ts := lwG) (own := RL) (rest := rest) ⟨hx, hb, hml, hown, hts⟩ (l_cell (g := g) b L xs k H.size hL hk) ⟨callB_of 2 hts (g_ws wd_1112) rfl rfl rfl (hts _ wd_0) (hts _ wd_1110) hd_L_cell ⟨Nat.le_of_ble_eq_true rfl, Nat.le_of_ble_eq_true rfl⟩, hts _ wd_1111⟩ ⟨PX_blind, fun U hU hW => ⟨rfl, (l_pre (av := []) hC0 hE hP0 hD0 hS U hU hW).2, by rw [hU]; exact hXH.moved hW.alike, Nat.lt_of_lt_of_le hbl hS.1⟩⟩ rfl rfl hsize rfl (lv_room hW) hdg ⟨hf.1, hf.2⟩) hP hD hS hC0.2.2.2.2.2.1 [] [] rfl rfl rfl (fun _ h => by cases h) (fun W1 H1 locs1 hB hP1 hD1 hS1 => ?_)
  subst hB
  exact kk H1 locs1 hP1 hD1 hS1
end LCL
