theorem wd_9 : Cond.initialized RJxa1e45 ∈ lwG := lwG_of (List.mem_of_getElem? (i := 78) (by decide +kernel)) (by decide +kernel)
theorem wd_10 : Cond.initialized RJxc12de ∈ lwG := lwG_of (List.mem_of_getElem? (i := 79) (by decide +kernel)) (by decide +kernel)
theorem wd_29 : Cond.instanceMethod Lib.objectInit ∈ lwG := lwG_of (List.mem_of_getElem? (i := 98) (by decide +kernel)) (by decide +kernel)
theorem wd_30 : Cond.code Lib.objectInit ⟨#[0xb1]⟩ 1 none ∈ lwG := lwG_of (List.mem_of_getElem? (i := 99) (by decide +kernel)) (by decide +kernel)
theorem wd_45 : Cond.methodLink RX7 3 Lib.objectInit ∈ lwG := lwG_of (List.mem_of_getElem? (i := 114) (by decide +kernel)) (by decide +kernel)
theorem wd_46 : Cond.classLink RX7 9 RX8 ∈ lwG := lwG_of (List.mem_of_getElem? (i := 115) (by decide +kernel)) (by decide +kernel)
theorem wd_47 : Cond.instantiable RX8 2 ∈ lwG := lwG_of (List.mem_of_getElem? (i := 116) (by decide +kernel)) (by decide +kernel)
theorem wd_48 : Cond.methodLink RX7 11 yX8_init ∈ lwG := lwG_of (List.mem_of_getElem? (i := 117) (by decide +kernel)) (by decide +kernel)
theorem wd_49 : Cond.instanceMethod yX8_init ∈ lwG := lwG_of (List.mem_of_getElem? (i := 118) (by decide +kernel)) (by decide +kernel)
theorem wd_50 : Cond.code yX8_init cX8_init 2 none ∈ lwG := lwG_of (List.mem_of_getElem? (i := 119) (by decide +kernel)) (by decide +kernel)
theorem wd_51 : Cond.methodLink RX8 3 Lib.objectInit ∈ lwG := lwG_of (List.mem_of_getElem? (i := 120) (by decide +kernel)) (by decide +kernel)
theorem wd_60 : Cond.arrayClass .int ∈ lwG := lwG_of (List.mem_of_getElem? (i := 129) (by decide +kernel)) (by decide +kernel)
theorem wd_87 : Cond.methodLink RX5 3 Lib.objectInit ∈ lwG := lwG_of (List.mem_of_getElem? (i := 156) (by decide +kernel)) (by decide +kernel)
theorem wd_88 : Cond.classLink RX5 18 RX8 ∈ lwG := lwG_of (List.mem_of_getElem? (i := 157) (by decide +kernel)) (by decide +kernel)
theorem wd_89 : Cond.methodLink RX5 20 yX8_init ∈ lwG := lwG_of (List.mem_of_getElem? (i := 158) (by decide +kernel)) (by decide +kernel)
theorem wd_90 : Cond.fieldLink RX5 37 "DrumLayers$Job" "number" "I" ∈ lwG := lwG_of (List.mem_of_getElem? (i := 159) (by decide +kernel)) (by decide +kernel)
theorem wd_205 : Cond.methodLink RX4 3 Lib.objectInit ∈ lwG := lwG_of (List.mem_of_getElem? (i := 274) (by decide +kernel)) (by decide +kernel)
theorem wd_249 : Cond.methodLink RX10 3 Lib.objectInit ∈ lwG := lwG_of (List.mem_of_getElem? (i := 318) (by decide +kernel)) (by decide +kernel)
theorem wd_250 : Cond.classLink RX10 9 RJx4a65c ∈ lwG := lwG_of (List.mem_of_getElem? (i := 319) (by decide +kernel)) (by decide +kernel)
theorem wd_251 : Cond.instantiable RJx4a65c 3 ∈ lwG := lwG_of (List.mem_of_getElem? (i := 320) (by decide +kernel)) (by decide +kernel)
theorem wd_252 : Cond.methodLink RX10 11 yJx4a65c_init_da8c8 ∈ lwG := lwG_of (List.mem_of_getElem? (i := 321) (by decide +kernel)) (by decide +kernel)
theorem wd_253 : Cond.instanceMethod yJx4a65c_init_da8c8 ∈ lwG := lwG_of (List.mem_of_getElem? (i := 322) (by decide +kernel)) (by decide +kernel)
theorem wd_254 : Cond.code yJx4a65c_init_da8c8 cJx4a65c_init_da8c8 1 none ∈ lwG := lwG_of (List.mem_of_getElem? (i := 323) (by decide +kernel)) (by decide +kernel)
theorem wd_255 : Cond.methodLink RJx4a65c 1 yJxc12de_init_da8c8 ∈ lwG := lwG_of (List.mem_of_getElem? (i := 324) (by decide +kernel)) (by decide +kernel)
theorem wd_256 : Cond.instanceMethod yJxc12de_init_da8c8 ∈ lwG := lwG_of (List.mem_of_getElem? (i := 325) (by decide +kernel)) (by decide +kernel)
theorem wd_257 : Cond.code yJxc12de_init_da8c8 cJxc12de_init_da8c8 1 none ∈ lwG := lwG_of (List.mem_of_getElem? (i := 326) (by decide +kernel)) (by decide +kernel)
theorem wd_258 : Cond.methodLink RJxc12de 1 yJxa1e45_init_da8c8 ∈ lwG := lwG_of (List.mem_of_getElem? (i := 327) (by decide +kernel)) (by decide +kernel)
theorem wd_259 : Cond.instanceMethod yJxa1e45_init_da8c8 ∈ lwG := lwG_of (List.mem_of_getElem? (i := 328) (by decide +kernel)) (by decide +kernel)
theorem wd_260 : Cond.code yJxa1e45_init_da8c8 cJxa1e45_init_da8c8 1 none ∈ lwG := lwG_of (List.mem_of_getElem? (i := 329) (by decide +kernel)) (by decide +kernel)
theorem wd_261 : Cond.methodLink RJxa1e45 1 Lib.objectInit ∈ lwG := lwG_of (List.mem_of_getElem? (i := 330) (by decide +kernel)) (by decide +kernel)
theorem wd_266 : Cond.fieldLink RJxc12de 7 "java/util/AbstractList" "modCount" "I" ∈ lwG := lwG_of (List.mem_of_getElem? (i := 335) (by decide +kernel)) (by decide +kernel)
theorem wd_276 : Cond.classLink RX10 33 RX9 ∈ lwG := lwG_of (List.mem_of_getElem? (i := 345) (by decide +kernel)) (by decide +kernel)
theorem wd_277 : Cond.instantiable RX9 5 ∈ lwG := lwG_of (List.mem_of_getElem? (i := 346) (by decide +kernel)) (by decide +kernel)
theorem wd_278 : Cond.methodLink RX10 35 yX9_init ∈ lwG := lwG_of (List.mem_of_getElem? (i := 347) (by decide +kernel)) (by decide +kernel)
theorem wd_279 : Cond.instanceMethod yX9_init ∈ lwG := lwG_of (List.mem_of_getElem? (i := 348) (by decide +kernel)) (by decide +kernel)
theorem wd_280 : Cond.code yX9_init cX9_init 4 none ∈ lwG := lwG_of (List.mem_of_getElem? (i := 349) (by decide +kernel)) (by decide +kernel)
theorem wd_281 : Cond.methodLink RX9 1 Lib.objectInit ∈ lwG := lwG_of (List.mem_of_getElem? (i := 350) (by decide +kernel)) (by decide +kernel)
theorem wd_365 : Cond.methodLink RX0 3 Lib.objectInit ∈ lwG := lwG_of (List.mem_of_getElem? (i := 434) (by decide +kernel)) (by decide +kernel)
theorem wd_366 : Cond.classLink RX0 15 RJx4a65c ∈ lwG := lwG_of (List.mem_of_getElem? (i := 435) (by decide +kernel)) (by decide +kernel)
theorem wd_367 : Cond.methodLink RX0 17 yJx4a65c_init_da8c8 ∈ lwG := lwG_of (List.mem_of_getElem? (i := 436) (by decide +kernel)) (by decide +kernel)
theorem wd_371 : Cond.fieldLink RX0 41 "DrumLayers$Bank" "pages" "I" ∈ lwG := lwG_of (List.mem_of_getElem? (i := 440) (by decide +kernel)) (by decide +kernel)
theorem wd_394 : Cond.arrayClass .boolean ∈ lwG := lwG_of (List.mem_of_getElem? (i := 463) (by decide +kernel)) (by decide +kernel)
theorem wd_400 : Cond.methodLink RX3 3 Lib.objectInit ∈ lwG := lwG_of (List.mem_of_getElem? (i := 469) (by decide +kernel)) (by decide +kernel)
theorem wd_401 : Cond.classLink RX3 9 RJx4a65c ∈ lwG := lwG_of (List.mem_of_getElem? (i := 470) (by decide +kernel)) (by decide +kernel)
theorem wd_402 : Cond.methodLink RX3 11 yJx4a65c_init_da8c8 ∈ lwG := lwG_of (List.mem_of_getElem? (i := 471) (by decide +kernel)) (by decide +kernel)
theorem wd_403 : Cond.classLink RX3 37 RX9 ∈ lwG := lwG_of (List.mem_of_getElem? (i := 472) (by decide +kernel)) (by decide +kernel)
theorem wd_404 : Cond.methodLink RX3 39 yX9_init ∈ lwG := lwG_of (List.mem_of_getElem? (i := 473) (by decide +kernel)) (by decide +kernel)
theorem wd_513 : Cond.methodLink RX6 3 Lib.objectInit ∈ lwG := lwG_of (List.mem_of_getElem? (i := 582) (by decide +kernel)) (by decide +kernel)
theorem wm_40 : Cond.static Lib.Math.max.name ∈ lwG := lwG_of (List.mem_of_getElem? (i := 109) (by decide +kernel)) (by decide +kernel)
theorem wm_41 : Cond.code Lib.Math.max.name Lib.Math.max.code 2 (some .int) ∈ lwG := lwG_of (List.mem_of_getElem? (i := 110) (by decide +kernel)) (by decide +kernel)
theorem wm_52 : Cond.methodLink RX8 9 Lib.Math.max.name ∈ lwG := lwG_of (List.mem_of_getElem? (i := 121) (by decide +kernel)) (by decide +kernel)
theorem hd_Jx4a65c_init_da8c8 : yJx4a65c_init_da8c8.cls ≠ "java/lang/invoke/MethodHandle" ∧ yJx4a65c_init_da8c8.cls ≠ "java/lang/invoke/VarHandle" ∧ (parseMethodDescriptor yJx4a65c_init_da8c8.desc).map (fun d => d.parameters.length) = some 0 := by decide +kernel
theorem hd_Jxa1e45_init_da8c8 : yJxa1e45_init_da8c8.cls ≠ "java/lang/invoke/MethodHandle" ∧ yJxa1e45_init_da8c8.cls ≠ "java/lang/invoke/VarHandle" ∧ (parseMethodDescriptor yJxa1e45_init_da8c8.desc).map (fun d => d.parameters.length) = some 0 := by decide +kernel
theorem hd_Jxc12de_init_da8c8 : yJxc12de_init_da8c8.cls ≠ "java/lang/invoke/MethodHandle" ∧ yJxc12de_init_da8c8.cls ≠ "java/lang/invoke/VarHandle" ∧ (parseMethodDescriptor yJxc12de_init_da8c8.desc).map (fun d => d.parameters.length) = some 0 := by decide +kernel
theorem hd_X8_init : yX8_init.cls ≠ "java/lang/invoke/MethodHandle" ∧ yX8_init.cls ≠ "java/lang/invoke/VarHandle" ∧ (parseMethodDescriptor yX8_init.desc).map (fun d => d.parameters.length) = some 1 := by decide +kernel
theorem hd_X9_init : yX9_init.cls ≠ "java/lang/invoke/MethodHandle" ∧ yX9_init.cls ≠ "java/lang/invoke/VarHandle" ∧ (parseMethodDescriptor yX9_init.desc).map (fun d => d.parameters.length) = some 3 := by decide +kernel
theorem inb_nle {x : Int32} (h : inb x 10 = true) : ¬ (10 : Int32) ≤ x := fun h2 => by
  have h3 := inb_lt h
  obtain ⟨j, hj, rfl⟩ := nI_of (inb_n h)
  rw [nI_clamp hj] at h3
  exact nI_ge h3 (by decide) h2
theorem df_Jx4a65c : ∀ j, j < 3 → defaultValue (tyJx4a65c j) = vp_V [.int 0, .null, .int 0] j := by decide +kernel
theorem df_X8 : ∀ j, j < 2 → defaultValue (tyX8 j) = vp_V [.null, .int 0] j := by decide +kernel
theorem df_X9 : ∀ j, j < 5 → defaultValue (tyX9 j) = vp_V [.null, .int 0, .int 0, .int 0, .int 0] j := by decide +kernel
set_option maxHeartbeats 4000000 in
set_option maxRecDepth 100000 in
theorem l_placeOf0 {l : Launch} {g : GP} (h0 : Nat) (x1 : Int32) (rv : Nat) (f1 : Nat → Int32) (sz : Nat)  : Met l yX8_placeOf (Cond.code yX8_placeOf cX8_placeOf 3 (some .int) :: lwG) ({ frames := 0, cells := 0, slots := 0, locals := 0 } : Room) (va_Pc [.ref h0, .int x1] (PL g [(h0, .inr (9, [.ref rv, .int 0])), (rv, .inl (gc g 0, 10, .inl f1))] sz)) (QL (some (.int (-1 : Int32))) (fun W1 => W1 = [(h0, .inr (9, [.ref rv, .int 0])), (rv, .inl (gc g 0, 10, .inl f1))]) g [(h0, .inr (9, [.ref rv, .int 0])), (rv, .inl (gc g 0, 10, .inl f1))] sz) 0 0 (va_A [(h0, .inr (9, [.ref rv, .int 0])), (rv, .inl (gc g 0, 10, .inl f1))] sz) := by
  refine Met.ofW (cc := cX8_placeOf) (maxL := 3) (ret := (some .int)) (by decide +kernel) rfl ?_
  intro p e s m args below meth c s₁ Bd hml hv
  obtain ⟨ha, hsz, hC, hE, hr, hlk, hP, hD0, hnm⟩ := l_start Bd hv
  subst ha
  subst hsz
  have hC : CX p s m ([.ref h0, .int x1] : List Value).toArray c cX8_placeOf RX8 g := hC
  obtain ⟨A, hAd⟩ : ∃ A, A = va_A [(h0, .inr (9, [.ref rv, .int 0])), (rv, .inl (gc g 0, 10, .inl f1))] s.heap.size := ⟨_, rfl⟩
  have hAg : ∀ q, A q → gP g q := by rw [hAd]; exact A_gP hD0 hC.2.2.2.2.2.1
  have hA : ∀ q, s.heap.size ≤ q → A q := by rw [hAd]; exact fun q h => Or.inr h
  have hD : va_D A [(h0, .inr (9, [.ref rv, .int 0])), (rv, .inl (gc g 0, 10, .inl f1))] := by rw [hAd]; exact hD0.self (sz := s.heap.size)
  have hS : va_S A s.heap s.heap [] := va_S.rf
  obtain ⟨ls, he, hl⟩ := g_entry m (vs := [.ref h0, .int x1]) (n := 3) (List.forall_mem_cons.mpr ⟨rfl, (List.forall_mem_cons.mpr ⟨rfl, (fun _ h => absurd h List.not_mem_nil)⟩)⟩) (Nat.le_of_ble_eq_true rfl)
  rw [he]
  have hl : lv_has ls 3 [(0, .ref h0), (1, .int x1)] := hl
  refine lv_iconst (v := (0 : Int32)) hC.1 hC.2.1 dX8_placeOf_0 (by decide) ?_
  refine lv_istore_n (i := 2) (lv' := [(2, .int (0 : Int32)), (0, .ref h0), (1, .int x1)]) hC.1 hC.2.1 dX8_placeOf_1 rfl hl (by decide) rfl (fun ls hl => ?_)
  refine lv_iload_n hC.1 hC.2.1 dX8_placeOf_2 rfl (lv_at hl 0 rfl) ?_
  refine lv_aload_n hC.1 hC.2.1 dX8_placeOf_3 rfl (lv_at hl 1 rfl) ?_
  refine va_get (D := gD g) (ci := 9) (v := .int 0) (C := RX8) (T := TX8) (N := 2) hC.1 hC.2.1 hC.2.2.2.1 uw_X8 hC.2.2.1 hC.2.2.2.2.1 hP 0 rfl rfl 1 (by decide) (hC.2.2.2.1 _ wd_54) (fun _ h9 => h9) rfl dX8_placeOf_4 ?_
  refine lv_icmp_ge (tgt := 37) hC.1 hC.2.1 dX8_placeOf_7 (by decide) (fun _ => ?_) (fun hc => absurd (by decide) hc)
  refine lv_iconst (v := (-1 : Int32)) hC.1 hC.2.1 dX8_placeOf_37 (by decide) ?_
  subst hAd
  exact lret_i hC hr hlk hP hD hS rfl (Nat.le_of_ble_eq_true rfl) (Nat.le_of_ble_eq_true rfl) dX8_placeOf_38
set_option maxHeartbeats 4000000 in
set_option maxRecDepth 100000 in
theorem l_removeAt0 {l : Launch} {g : GP} (h0 : Nat) (rv : Nat) (f1 : Nat → Int32) (sz : Nat)  : Met l yX8_removeAt (Cond.code yX8_removeAt cX8_removeAt 3 none :: lwG) ({ frames := 0, cells := 0, slots := 0, locals := 0 } : Room) (va_Pc [.ref h0, .int (-1 : Int32)] (PL g [(h0, .inr (9, [.ref rv, .int 0])), (rv, .inl (gc g 0, 10, .inl f1))] sz)) (QL none (fun W1 => W1 = [(h0, .inr (9, [.ref rv, .int 0])), (rv, .inl (gc g 0, 10, .inl f1))]) g [(h0, .inr (9, [.ref rv, .int 0])), (rv, .inl (gc g 0, 10, .inl f1))] sz) 0 0 (va_A [(h0, .inr (9, [.ref rv, .int 0])), (rv, .inl (gc g 0, 10, .inl f1))] sz) := by
  refine Met.ofW (cc := cX8_removeAt) (maxL := 3) (ret := none) (by decide +kernel) rfl ?_
  intro p e s m args below meth c s₁ Bd hml hv
  obtain ⟨ha, hsz, hC, hE, hr, hlk, hP, hD0, hnm⟩ := l_start Bd hv
  subst ha
  subst hsz
  have hC : CX p s m ([.ref h0, .int (-1 : Int32)] : List Value).toArray c cX8_removeAt RX8 g := hC
  obtain ⟨A, hAd⟩ : ∃ A, A = va_A [(h0, .inr (9, [.ref rv, .int 0])), (rv, .inl (gc g 0, 10, .inl f1))] s.heap.size := ⟨_, rfl⟩
  have hAg : ∀ q, A q → gP g q := by rw [hAd]; exact A_gP hD0 hC.2.2.2.2.2.1
  have hA : ∀ q, s.heap.size ≤ q → A q := by rw [hAd]; exact fun q h => Or.inr h
  have hD : va_D A [(h0, .inr (9, [.ref rv, .int 0])), (rv, .inl (gc g 0, 10, .inl f1))] := by rw [hAd]; exact hD0.self (sz := s.heap.size)
  have hS : va_S A s.heap s.heap [] := va_S.rf
  obtain ⟨ls, he, hl⟩ := g_entry m (vs := [.ref h0, .int (-1 : Int32)]) (n := 3) (List.forall_mem_cons.mpr ⟨rfl, (List.forall_mem_cons.mpr ⟨rfl, (fun _ h => absurd h List.not_mem_nil)⟩)⟩) (Nat.le_of_ble_eq_true rfl)
  rw [he]
  have hl : lv_has ls 3 [(0, .ref h0), (1, .int (-1 : Int32))] := hl
  refine lv_iload_n hC.1 hC.2.1 dX8_removeAt_0 rfl (lv_at hl 1 rfl) ?_
  refine lv_if_lt (tgt := 12) hC.1 hC.2.1 dX8_removeAt_1 (by decide) (fun _ => ?_) (fun hc => absurd (by decide) hc)
  subst hAd
  exact lret_v hC hr hlk hP hD hS rfl (Nat.le_of_ble_eq_true rfl) (Nat.le_of_ble_eq_true rfl) dX8_removeAt_12
set_option maxHeartbeats 4000000 in
set_option maxRecDepth 100000 in
theorem l_leave0 {l : Launch} {g : GP} (h0 : Nat) (x1 : Int32) (rd : Nat) (ca : Nat) (qn : Int32) (rv : Nat) (f1 : Nat → Int32) (f2 : Nat → Int32) (sz : Nat)  : Met l yX7_leave (Cond.code yX7_leave cX7_leave 2 none :: lwG) ({ frames := 1, cells := 0, slots := 0, locals := 22 } : Room) (va_Pc [.ref h0, .int x1] (PL g [(h0, .inr (8, [.ref rd, .ref ca, .int qn, .int 0, .int 0])), (rd, .inr (9, [.ref rv, .int 0])), (rv, .inl (gc g 0, 10, .inl f1)), (ca, .inl (gc g 0, 10, .inl f2))] sz)) (QL none (fun W1 => W1 = [(h0, .inr (8, [.ref rd, .ref ca, .int qn, .int 0, .int (0 : Int32)])), (ca, .inl (gc g 0, 10, .inl f2)), (rd, .inr (9, [.ref rv, .int 0])), (rv, .inl (gc g 0, 10, .inl f1))]) g [(h0, .inr (8, [.ref rd, .ref ca, .int qn, .int 0, .int 0])), (rd, .inr (9, [.ref rv, .int 0])), (rv, .inl (gc g 0, 10, .inl f1)), (ca, .inl (gc g 0, 10, .inl f2))] sz) 0 0 (va_A [(h0, .inr (8, [.ref rd, .ref ca, .int qn, .int 0, .int 0])), (rd, .inr (9, [.ref rv, .int 0])), (rv, .inl (gc g 0, 10, .inl f1)), (ca, .inl (gc g 0, 10, .inl f2))] sz) := by
  refine Met.ofW (cc := cX7_leave) (maxL := 2) (ret := none) (by decide +kernel) rfl ?_
  intro p e s m args below meth c s₁ Bd hml hv
  obtain ⟨ha, hsz, hC, hE, hr, hlk, hP, hD0, hnm⟩ := l_start Bd hv
  subst ha
  subst hsz
  have hC : CX p s m ([.ref h0, .int x1] : List Value).toArray c cX7_leave RX7 g := hC
  obtain ⟨A, hAd⟩ : ∃ A, A = va_A [(h0, .inr (8, [.ref rd, .ref ca, .int qn, .int 0, .int 0])), (rd, .inr (9, [.ref rv, .int 0])), (rv, .inl (gc g 0, 10, .inl f1)), (ca, .inl (gc g 0, 10, .inl f2))] s.heap.size := ⟨_, rfl⟩
  have hAg : ∀ q, A q → gP g q := by rw [hAd]; exact A_gP hD0 hC.2.2.2.2.2.1
  have hA : ∀ q, s.heap.size ≤ q → A q := by rw [hAd]; exact fun q h => Or.inr h
  have hD : va_D A [(h0, .inr (8, [.ref rd, .ref ca, .int qn, .int 0, .int 0])), (rd, .inr (9, [.ref rv, .int 0])), (rv, .inl (gc g 0, 10, .inl f1)), (ca, .inl (gc g 0, 10, .inl f2))] := by rw [hAd]; exact hD0.self (sz := s.heap.size)
  have hS : va_S A s.heap s.heap [] := va_S.rf
  obtain ⟨ls, he, hl⟩ := g_entry m (vs := [.ref h0, .int x1]) (n := 2) (List.forall_mem_cons.mpr ⟨rfl, (List.forall_mem_cons.mpr ⟨rfl, (fun _ h => absurd h List.not_mem_nil)⟩)⟩) (Nat.le_of_ble_eq_true rfl)
  rw [he]
  have hl : lv_has ls 2 [(0, .ref h0), (1, .int x1)] := hl
  refine lv_aload_n hC.1 hC.2.1 dX7_leave_0 rfl (lv_at hl 0 rfl) ?_
  refine va_get (D := gD g) (ci := 8) (v := .ref rd) (C := RX7) (T := TX7) (N := 5) hC.1 hC.2.1 hC.2.2.2.1 uw_X7 hC.2.2.1 hC.2.2.2.2.1 hP 0 rfl rfl 0 (by decide) (hC.2.2.2.1 _ wd_61) (fun _ h9 => h9) rfl dX7_leave_1 ?_
  refine lv_aload_n hC.1 hC.2.1 dX7_leave_4 rfl (lv_at hl 0 rfl) ?_
  refine va_get (D := gD g) (ci := 8) (v := .ref rd) (C := RX7) (T := TX7) (N := 5) hC.1 hC.2.1 hC.2.2.2.1 uw_X7 hC.2.2.1 hC.2.2.2.2.1 hP 0 rfl rfl 0 (by decide) (hC.2.2.2.1 _ wd_61) (fun _ h9 => h9) rfl dX7_leave_5 ?_
  refine lv_iload_n hC.1 hC.2.1 dX7_leave_8 rfl (lv_at hl 1 rfl) ?_
  refine lcallV (As := [.int x1]) (rest := [.ref rd]) (wr := [(h0, .inr (8, [.ref rd, .ref ca, .int qn, .int 0, .int 0])), (ca, .inl (gc g 0, 10, .inl f2))]) (Cn := RX8) hC hE hml hP hD hS hA hAg (l_placeOf0 rd x1 rv f1 _ ) ⟨wd_310, wd_311, wd_312, wd_4, wd_313⟩ hd_X8_placeOf rfl rfl ⟨Nat.le_of_ble_eq_true rfl, Nat.le_of_ble_eq_true rfl⟩ (va_recv hC.2.2.2.2.1 hP (ci := 9) (q0 := 1) rfl rfl) rfl hl.1 rfl (Nat.le_of_ble_eq_true rfl) dX7_leave_9 ⟨Nat.le_of_ble_eq_true rfl, Nat.le_of_ble_eq_true rfl⟩ [1, 2] [0, 3] rfl rfl (by decide) (by decide) (by decide) (fun W1 H locs hB hP hD hS => ?_)
  subst hB
  have hP : va_P (gD g) vwCl [(h0, .inr (8, [.ref rd, .ref ca, .int qn, .int 0, .int 0])), (ca, .inl (gc g 0, 10, .inl f2)), (rd, .inr (9, [.ref rv, .int 0])), (rv, .inl (gc g 0, 10, .inl f1))] H := hP
  have hD : va_D A [(h0, .inr (8, [.ref rd, .ref ca, .int qn, .int 0, .int 0])), (ca, .inl (gc g 0, 10, .inl f2)), (rd, .inr (9, [.ref rv, .int 0])), (rv, .inl (gc g 0, 10, .inl f1))] := hD
  refine W.eq (g2 := F0 m 12 ls [.int (-1 : Int32), .ref rd]) rfl ?_
  refine lcallV (As := [.int (-1 : Int32)]) (rest := []) (wr := [(h0, .inr (8, [.ref rd, .ref ca, .int qn, .int 0, .int 0])), (ca, .inl (gc g 0, 10, .inl f2))]) (Cn := RX8) hC hE hml hP hD hS hA hAg (l_removeAt0 rd rv f1 _ ) ⟨wd_314, wd_315, wd_316, wd_4, wd_317⟩ hd_X8_removeAt rfl rfl ⟨Nat.le_of_ble_eq_true rfl, Nat.le_of_ble_eq_true rfl⟩ (va_recv hC.2.2.2.2.1 hP (ci := 9) (q0 := 2) rfl rfl) rfl hl.1 rfl (Nat.le_of_ble_eq_true rfl) dX7_leave_12 ⟨Nat.le_of_ble_eq_true rfl, Nat.le_of_ble_eq_true rfl⟩ [2, 3] [0, 1] rfl rfl (by decide) (by decide) (by decide) (fun W1 H locs hB hP hD hS => ?_)
  subst hB
  have hP : va_P (gD g) vwCl [(h0, .inr (8, [.ref rd, .ref ca, .int qn, .int 0, .int 0])), (ca, .inl (gc g 0, 10, .inl f2)), (rd, .inr (9, [.ref rv, .int 0])), (rv, .inl (gc g 0, 10, .inl f1))] H := hP
  have hD : va_D A [(h0, .inr (8, [.ref rd, .ref ca, .int qn, .int 0, .int 0])), (ca, .inl (gc g 0, 10, .inl f2)), (rd, .inr (9, [.ref rv, .int 0])), (rv, .inl (gc g 0, 10, .inl f1))] := hD
  refine W.eq (g2 := F0 m 15 ls []) rfl ?_
  refine lv_aload_n hC.1 hC.2.1 dX7_leave_15 rfl (lv_at hl 0 rfl) ?_
  refine lv_iconst (v := (0 : Int32)) hC.1 hC.2.1 dX7_leave_16 (by decide) ?_
  refine va_put (D := gD g) (ci := 8) (v := .int (0 : Int32)) (ty := .int) (C := RX7) (T := TX7) (N := 5) hC.1 hC.2.1 hC.2.2.2.1 uw_X7 tyX7 tyX7_ok nmX7 hC.2.2.1 hC.2.2.2.2.1 hP hD hS 0 rfl rfl 4 (by decide) (hC.2.2.2.1 _ wd_69) (fun _ h9 => h9) rfl (by decide +kernel) rfl rfl (Nat.le_of_ble_eq_true rfl) dX7_leave_17 (fun H locs hP hD hS => ?_)
  have hP : va_P (gD g) vwCl [(h0, .inr (8, [.ref rd, .ref ca, .int qn, .int 0, .int (0 : Int32)])), (ca, .inl (gc g 0, 10, .inl f2)), (rd, .inr (9, [.ref rv, .int 0])), (rv, .inl (gc g 0, 10, .inl f1))] H := hP
  have hD : va_D A [(h0, .inr (8, [.ref rd, .ref ca, .int qn, .int 0, .int (0 : Int32)])), (ca, .inl (gc g 0, 10, .inl f2)), (rd, .inr (9, [.ref rv, .int 0])), (rv, .inl (gc g 0, 10, .inl f1))] := hD
  subst hAd
  exact lret_v hC hr hlk hP hD hS rfl (Nat.le_of_ble_eq_true rfl) (Nat.le_of_ble_eq_true rfl) dX7_leave_20
set_option maxHeartbeats 4000000 in
set_option maxRecDepth 100000 in
theorem l_suspend0 {l : Launch} {g : GP} (h0 : Nat) (x1 : Int32) (x2 : Int32) (rd : Nat) (ca : Nat) (qn : Int32) (rv : Nat) (f1 : Nat → Int32) (f2 : Nat → Int32) (sz : Nat) (hp : inb x1 10 = true) : Met l yX7_suspend (Cond.code yX7_suspend cX7_suspend 3 none :: lwG) ({ frames := 2, cells := 0, slots := 0, locals := 43 } : Room) (va_Pc [.ref h0, .int x1, .int x2] (PL g [(h0, .inr (8, [.ref rd, .ref ca, .int qn, .int 0, .int 0])), (rd, .inr (9, [.ref rv, .int 0])), (rv, .inl (gc g 0, 10, .inl f1)), (ca, .inl (gc g 0, 10, .inl f2))] sz)) (QL none (fun W1 => W1 = [(h0, .inr (8, [.ref rd, .ref ca, .int qn, .int 0, .int (0 : Int32)])), (ca, .inl (gc g 0, 10, .inl (upd f2 (x1.toNatClampNeg) x2))), (rd, .inr (9, [.ref rv, .int 0])), (rv, .inl (gc g 0, 10, .inl f1))]) g [(h0, .inr (8, [.ref rd, .ref ca, .int qn, .int 0, .int 0])), (rd, .inr (9, [.ref rv, .int 0])), (rv, .inl (gc g 0, 10, .inl f1)), (ca, .inl (gc g 0, 10, .inl f2))] sz) 0 0 (va_A [(h0, .inr (8, [.ref rd, .ref ca, .int qn, .int 0, .int 0])), (rd, .inr (9, [.ref rv, .int 0])), (rv, .inl (gc g 0, 10, .inl f1)), (ca, .inl (gc g 0, 10, .inl f2))] sz) := by
  refine Met.ofW (cc := cX7_suspend) (maxL := 3) (ret := none) (by decide +kernel) rfl ?_
  intro p e s m args below meth c s₁ Bd hml hv
  obtain ⟨ha, hsz, hC, hE, hr, hlk, hP, hD0, hnm⟩ := l_start Bd hv
  subst ha
  subst hsz
  have hC : CX p s m ([.ref h0, .int x1, .int x2] : List Value).toArray c cX7_suspend RX7 g := hC
  obtain ⟨A, hAd⟩ : ∃ A, A = va_A [(h0, .inr (8, [.ref rd, .ref ca, .int qn, .int 0, .int 0])), (rd, .inr (9, [.ref rv, .int 0])), (rv, .inl (gc g 0, 10, .inl f1)), (ca, .inl (gc g 0, 10, .inl f2))] s.heap.size := ⟨_, rfl⟩
  have hAg : ∀ q, A q → gP g q := by rw [hAd]; exact A_gP hD0 hC.2.2.2.2.2.1
  have hA : ∀ q, s.heap.size ≤ q → A q := by rw [hAd]; exact fun q h => Or.inr h
  have hD : va_D A [(h0, .inr (8, [.ref rd, .ref ca, .int qn, .int 0, .int 0])), (rd, .inr (9, [.ref rv, .int 0])), (rv, .inl (gc g 0, 10, .inl f1)), (ca, .inl (gc g 0, 10, .inl f2))] := by rw [hAd]; exact hD0.self (sz := s.heap.size)
  have hS : va_S A s.heap s.heap [] := va_S.rf
  obtain ⟨ls, he, hl⟩ := g_entry m (vs := [.ref h0, .int x1, .int x2]) (n := 3) (List.forall_mem_cons.mpr ⟨rfl, (List.forall_mem_cons.mpr ⟨rfl, (List.forall_mem_cons.mpr ⟨rfl, (fun _ h => absurd h List.not_mem_nil)⟩)⟩)⟩) (Nat.le_of_ble_eq_true rfl)
  rw [he]
  have hl : lv_has ls 3 [(0, .ref h0), (1, .int x1), (2, .int x2)] := hl
  refine lv_iload_n hC.1 hC.2.1 dX7_suspend_0 rfl (lv_at hl 1 rfl) ?_
  refine lv_if_lt (tgt := 25) hC.1 hC.2.1 dX7_suspend_1 (by decide) (fun hc => absurd hc (inb_n hp)) (fun _ => ?_)
  refine lv_iload_n hC.1 hC.2.1 dX7_suspend_4 rfl (lv_at hl 1 rfl) ?_
  refine lv_aload_n hC.1 hC.2.1 dX7_suspend_5 rfl (lv_at hl 0 rfl) ?_
  refine va_get (D := gD g) (ci := 8) (v := .ref ca) (C := RX7) (T := TX7) (N := 5) hC.1 hC.2.1 hC.2.2.2.1 uw_X7 hC.2.2.1 hC.2.2.2.2.1 hP 0 rfl rfl 1 (by decide) (hC.2.2.2.1 _ wd_63) (fun _ h9 => h9) rfl dX7_suspend_6 ?_
  refine va_alen hC.1 hC.2.1 hC.2.2.2.2.1 hP 3 0 rfl rfl (v := (10 : Int32)) rfl dX7_suspend_9 ?_
  refine lv_icmp_ge (tgt := 25) hC.1 hC.2.1 dX7_suspend_10 (by decide) (fun hc => absurd hc (inb_nle hp)) (fun _ => ?_)
  refine lv_aload_n hC.1 hC.2.1 dX7_suspend_13 rfl (lv_at hl 0 rfl) ?_
  refine va_get (D := gD g) (ci := 8) (v := .ref ca) (C := RX7) (T := TX7) (N := 5) hC.1 hC.2.1 hC.2.2.2.1 uw_X7 hC.2.2.1 hC.2.2.2.2.1 hP 0 rfl rfl 1 (by decide) (hC.2.2.2.1 _ wd_63) (fun _ h9 => h9) rfl dX7_suspend_14 ?_
  refine lv_iload_n hC.1 hC.2.1 dX7_suspend_17 rfl (lv_at hl 1 rfl) ?_
  refine lv_iload_n hC.1 hC.2.1 dX7_suspend_18 rfl (lv_at hl 2 rfl) ?_
  refine va_iast hC.1 hC.2.1 hC.2.2.2.2.1 hP hD hS 3 0 rfl rfl (inb_in hp) dX7_suspend_19 (fun H locs hP hD hS => ?_)
  have hP : va_P (gD g) vwCl [(h0, .inr (8, [.ref rd, .ref ca, .int qn, .int 0, .int 0])), (rd, .inr (9, [.ref rv, .int 0])), (rv, .inl (gc g 0, 10, .inl f1)), (ca, .inl (gc g 0, 10, .inl (upd f2 (x1.toNatClampNeg) x2)))] H := hP
  have hD : va_D A [(h0, .inr (8, [.ref rd, .ref ca, .int qn, .int 0, .int 0])), (rd, .inr (9, [.ref rv, .int 0])), (rv, .inl (gc g 0, 10, .inl f1)), (ca, .inl (gc g 0, 10, .inl (upd f2 (x1.toNatClampNeg) x2)))] := hD
  refine lv_aload_n hC.1 hC.2.1 dX7_suspend_20 rfl (lv_at hl 0 rfl) ?_
  refine lv_iload_n hC.1 hC.2.1 dX7_suspend_21 rfl (lv_at hl 1 rfl) ?_
  refine lcallV (As := [.int x1]) (rest := []) (wr := []) (Cn := RX7) hC hE hml hP hD hS hA hAg (l_leave0 h0 x1 rd ca qn rv f1 (upd f2 (x1.toNatClampNeg) x2) _ ) ⟨wd_306, wd_307, wd_308, wd_2, wd_309⟩ hd_X7_leave rfl rfl ⟨Nat.le_of_ble_eq_true rfl, Nat.le_of_ble_eq_true rfl⟩ (va_recv hC.2.2.2.2.1 hP (ci := 8) (q0 := 0) rfl rfl) rfl hl.1 rfl (Nat.le_of_ble_eq_true rfl) dX7_suspend_22 ⟨Nat.le_of_ble_eq_true rfl, Nat.le_of_ble_eq_true rfl⟩ [0, 1, 2, 3] [] rfl rfl (by decide) (by decide) (by decide) (fun W1 H locs hB hP hD hS => ?_)
  subst hB
  have hP : va_P (gD g) vwCl [(h0, .inr (8, [.ref rd, .ref ca, .int qn, .int 0, .int (0 : Int32)])), (ca, .inl (gc g 0, 10, .inl (upd f2 (x1.toNatClampNeg) x2))), (rd, .inr (9, [.ref rv, .int 0])), (rv, .inl (gc g 0, 10, .inl f1))] H := hP
  have hD : va_D A [(h0, .inr (8, [.ref rd, .ref ca, .int qn, .int 0, .int (0 : Int32)])), (ca, .inl (gc g 0, 10, .inl (upd f2 (x1.toNatClampNeg) x2))), (rd, .inr (9, [.ref rv, .int 0])), (rv, .inl (gc g 0, 10, .inl f1))] := hD
  refine W.eq (g2 := F0 m 25 ls []) rfl ?_
  subst hAd
  exact lret_v hC hr hlk hP hD hS rfl (Nat.le_of_ble_eq_true rfl) (Nat.le_of_ble_eq_true rfl) dX7_suspend_25
set_option maxHeartbeats 4000000 in
set_option maxRecDepth 100000 in
theorem l_p0 {l : Launch} {g : GP} (h0 : Nat) (pr : Nat) (pn : Int32) (cs : Int32) (rd : Nat) (ca : Nat) (qn : Int32) (rv : Nat) (f1 : Nat → Int32) (f2 : Nat → Int32) (sz : Nat) (hp : inb pn 10 = true) : Met l yX9_p (Cond.code yX9_p cX9_p 1 none :: lwG) ({ frames := 3, cells := 0, slots := 0, locals := 65 } : Room) (va_Pc [.ref h0] (PL g [(h0, .inr (10, [.ref pr, .int pn, .int cs, .int 0, .int 0])), (pr, .inr (8, [.ref rd, .ref ca, .int qn, .int 0, .int 0])), (rd, .inr (9, [.ref rv, .int 0])), (rv, .inl (gc g 0, 10, .inl f1)), (ca, .inl (gc g 0, 10, .inl f2))] sz)) (QL none (fun W1 => W1 = [(h0, .inr (10, [.ref pr, .int pn, .int cs, .int (1 : Int32), .int 0])), (pr, .inr (8, [.ref rd, .ref ca, .int qn, .int 0, .int (0 : Int32)])), (ca, .inl (gc g 0, 10, .inl (upd f2 (pn.toNatClampNeg) cs))), (rd, .inr (9, [.ref rv, .int 0])), (rv, .inl (gc g 0, 10, .inl f1))]) g [(h0, .inr (10, [.ref pr, .int pn, .int cs, .int 0, .int 0])), (pr, .inr (8, [.ref rd, .ref ca, .int qn, .int 0, .int 0])), (rd, .inr (9, [.ref rv, .int 0])), (rv, .inl (gc g 0, 10, .inl f1)), (ca, .inl (gc g 0, 10, .inl f2))] sz) 0 0 (va_A [(h0, .inr (10, [.ref pr, .int pn, .int cs, .int 0, .int 0])), (pr, .inr (8, [.ref rd, .ref ca, .int qn, .int 0, .int 0])), (rd, .inr (9, [.ref rv, .int 0])), (rv, .inl (gc g 0, 10, .inl f1)), (ca, .inl (gc g 0, 10, .inl f2))] sz) := by
  refine Met.ofW (cc := cX9_p) (maxL := 1) (ret := none) (by decide +kernel) rfl ?_
  intro p e s m args below meth c s₁ Bd hml hv
  obtain ⟨ha, hsz, hC, hE, hr, hlk, hP, hD0, hnm⟩ := l_start Bd hv
  subst ha
  subst hsz
  have hC : CX p s m ([.ref h0] : List Value).toArray c cX9_p RX9 g := hC
  obtain ⟨A, hAd⟩ : ∃ A, A = va_A [(h0, .inr (10, [.ref pr, .int pn, .int cs, .int 0, .int 0])), (pr, .inr (8, [.ref rd, .ref ca, .int qn, .int 0, .int 0])), (rd, .inr (9, [.ref rv, .int 0])), (rv, .inl (gc g 0, 10, .inl f1)), (ca, .inl (gc g 0, 10, .inl f2))] s.heap.size := ⟨_, rfl⟩
  have hAg : ∀ q, A q → gP g q := by rw [hAd]; exact A_gP hD0 hC.2.2.2.2.2.1
  have hA : ∀ q, s.heap.size ≤ q → A q := by rw [hAd]; exact fun q h => Or.inr h
  have hD : va_D A [(h0, .inr (10, [.ref pr, .int pn, .int cs, .int 0, .int 0])), (pr, .inr (8, [.ref rd, .ref ca, .int qn, .int 0, .int 0])), (rd, .inr (9, [.ref rv, .int 0])), (rv, .inl (gc g 0, 10, .inl f1)), (ca, .inl (gc g 0, 10, .inl f2))] := by rw [hAd]; exact hD0.self (sz := s.heap.size)
  have hS : va_S A s.heap s.heap [] := va_S.rf
  obtain ⟨ls, he, hl⟩ := g_entry m (vs := [.ref h0]) (n := 1) (List.forall_mem_cons.mpr ⟨rfl, (fun _ h => absurd h List.not_mem_nil)⟩) (Nat.le_of_ble_eq_true rfl)
  rw [he]
  have hl : lv_has ls 1 [(0, .ref h0)] := hl
  refine lv_aload_n hC.1 hC.2.1 dX9_p_0 rfl (lv_at hl 0 rfl) ?_
  refine va_get (D := gD g) (ci := 10) (v := .int 0) (C := RX9) (T := TX9) (N := 5) hC.1 hC.2.1 hC.2.2.2.1 uw_X9 hC.2.2.1 hC.2.2.2.2.1 hP 0 rfl rfl 4 (by decide) (hC.2.2.2.1 _ wd_286) (fun _ h9 => h9) rfl dX9_p_1 ?_
  refine lv_if_le (tgt := 20) hC.1 hC.2.1 dX9_p_4 (by decide) (fun _ => ?_) (fun hc => absurd (by decide) hc)
  refine lv_aload_n hC.1 hC.2.1 dX9_p_20 rfl (lv_at hl 0 rfl) ?_
  refine lv_iconst (v := (1 : Int32)) hC.1 hC.2.1 dX9_p_21 (by decide) ?_
  refine va_put (D := gD g) (ci := 10) (v := .int (1 : Int32)) (ty := .boolean) (C := RX9) (T := TX9) (N := 5) hC.1 hC.2.1 hC.2.2.2.1 uw_X9 tyX9 tyX9_ok nmX9 hC.2.2.1 hC.2.2.2.2.1 hP hD hS 0 rfl rfl 3 (by decide) (hC.2.2.2.1 _ wd_285) (fun _ h9 => h9) rfl (by decide +kernel) (by decide) (by decide) (Nat.le_of_ble_eq_true rfl) dX9_p_22 (fun H locs hP hD hS => ?_)
  have hP : va_P (gD g) vwCl [(h0, .inr (10, [.ref pr, .int pn, .int cs, .int (1 : Int32), .int 0])), (pr, .inr (8, [.ref rd, .ref ca, .int qn, .int 0, .int 0])), (rd, .inr (9, [.ref rv, .int 0])), (rv, .inl (gc g 0, 10, .inl f1)), (ca, .inl (gc g 0, 10, .inl f2))] H := hP
  have hD : va_D A [(h0, .inr (10, [.ref pr, .int pn, .int cs, .int (1 : Int32), .int 0])), (pr, .inr (8, [.ref rd, .ref ca, .int qn, .int 0, .int 0])), (rd, .inr (9, [.ref rv, .int 0])), (rv, .inl (gc g 0, 10, .inl f1)), (ca, .inl (gc g 0, 10, .inl f2))] := hD
  refine lv_aload_n hC.1 hC.2.1 dX9_p_25 rfl (lv_at hl 0 rfl) ?_
  refine va_get (D := gD g) (ci := 10) (v := .ref pr) (C := RX9) (T := TX9) (N := 5) hC.1 hC.2.1 hC.2.2.2.1 uw_X9 hC.2.2.1 hC.2.2.2.2.1 hP 0 rfl rfl 0 (by decide) (hC.2.2.2.1 _ wd_282) (fun _ h9 => h9) rfl dX9_p_26 ?_
  refine lv_aload_n hC.1 hC.2.1 dX9_p_29 rfl (lv_at hl 0 rfl) ?_
  refine va_get (D := gD g) (ci := 10) (v := .int pn) (C := RX9) (T := TX9) (N := 5) hC.1 hC.2.1 hC.2.2.2.1 uw_X9 hC.2.2.1 hC.2.2.2.2.1 hP 0 rfl rfl 1 (by decide) (hC.2.2.2.1 _ wd_283) (fun _ h9 => h9) rfl dX9_p_30 ?_
  refine lv_aload_n hC.1 hC.2.1 dX9_p_33 rfl (lv_at hl 0 rfl) ?_
  refine va_get (D := gD g) (ci := 10) (v := .int cs) (C := RX9) (T := TX9) (N := 5) hC.1 hC.2.1 hC.2.2.2.1 uw_X9 hC.2.2.1 hC.2.2.2.2.1 hP 0 rfl rfl 2 (by decide) (hC.2.2.2.1 _ wd_284) (fun _ h9 => h9) rfl dX9_p_34 ?_
  refine lcallV (As := [.int pn, .int cs]) (rest := []) (wr := [(h0, .inr (10, [.ref pr, .int pn, .int cs, .int (1 : Int32), .int 0]))]) (Cn := RX7) hC hE hml hP hD hS hA hAg (l_suspend0 pr pn cs rd ca qn rv f1 f2 _ hp) ⟨wd_302, wd_303, wd_304, wd_2, wd_305⟩ hd_X7_suspend rfl rfl ⟨Nat.le_of_ble_eq_true rfl, Nat.le_of_ble_eq_true rfl⟩ (va_recv hC.2.2.2.2.1 hP (ci := 8) (q0 := 1) rfl rfl) rfl hl.1 rfl (Nat.le_of_ble_eq_true rfl) dX9_p_37 ⟨Nat.le_of_ble_eq_true rfl, Nat.le_of_ble_eq_true rfl⟩ [1, 2, 3, 4] [0] rfl rfl (by decide) (by decide) (by decide) (fun W1 H locs hB hP hD hS => ?_)
  subst hB
  have hP : va_P (gD g) vwCl [(h0, .inr (10, [.ref pr, .int pn, .int cs, .int (1 : Int32), .int 0])), (pr, .inr (8, [.ref rd, .ref ca, .int qn, .int 0, .int (0 : Int32)])), (ca, .inl (gc g 0, 10, .inl (upd f2 (pn.toNatClampNeg) cs))), (rd, .inr (9, [.ref rv, .int 0])), (rv, .inl (gc g 0, 10, .inl f1))] H := hP
  have hD : va_D A [(h0, .inr (10, [.ref pr, .int pn, .int cs, .int (1 : Int32), .int 0])), (pr, .inr (8, [.ref rd, .ref ca, .int qn, .int 0, .int (0 : Int32)])), (ca, .inl (gc g 0, 10, .inl (upd f2 (pn.toNatClampNeg) cs))), (rd, .inr (9, [.ref rv, .int 0])), (rv, .inl (gc g 0, 10, .inl f1))] := hD
  refine W.eq (g2 := F0 m 40 ls []) rfl ?_
  subst hAd
  exact lret_v hC hr hlk hP hD hS rfl (Nat.le_of_ble_eq_true rfl) (Nat.le_of_ble_eq_true rfl) dX9_p_40
set_option maxHeartbeats 4000000 in
set_option maxRecDepth 100000 in
theorem l_X8_init {l : Launch} {g : GP} (h0 : Nat) (N : Nat) (sz : Nat) (hN : N ≤ 1000) : Met l yX8_init (Cond.code yX8_init cX8_init 2 none :: lwG) ({ frames := 1, cells := 1, slots := N, locals := 14 } : Room) (va_Pc [.ref h0, .int (nI N)] (PL g [(h0, .inr (9, [.null, .int 0]))] sz)) (QL none (fun W1 => ∃ q1 : Nat, W1 = [(h0, .inr (9, [.ref q1, .int 0])), (q1, .inl (gc g 0, N, .inl (fun _ => 0)))]) g [(h0, .inr (9, [.null, .int 0]))] sz) 1 N (va_A [(h0, .inr (9, [.null, .int 0]))] sz) := by
  refine Met.ofW (cc := cX8_init) (maxL := 2) (ret := none) (by decide +kernel) rfl ?_
  intro p e s m args below meth c s₁ Bd hml hv
  obtain ⟨ha, hsz, hC, hE, hr, hlk, hP, hD0, hnm⟩ := l_start Bd hv
  subst ha
  subst hsz
  have hC : CX p s m ([.ref h0, .int (nI N)] : List Value).toArray c cX8_init RX8 g := hC
  obtain ⟨A, hAd⟩ : ∃ A, A = va_A [(h0, .inr (9, [.null, .int 0]))] s.heap.size := ⟨_, rfl⟩
  have hAg : ∀ q, A q → gP g q := by rw [hAd]; exact A_gP hD0 hC.2.2.2.2.2.1
  have hA : ∀ q, s.heap.size ≤ q → A q := by rw [hAd]; exact fun q h => Or.inr h
  have hD : va_D A [(h0, .inr (9, [.null, .int 0]))] := by rw [hAd]; exact hD0.self (sz := s.heap.size)
  have hS : va_S A s.heap s.heap [] := va_S.rf
  obtain ⟨ls, he, hl⟩ := g_entry m (vs := [.ref h0, .int (nI N)]) (n := 2) (List.forall_mem_cons.mpr ⟨rfl, (List.forall_mem_cons.mpr ⟨rfl, (fun _ h => absurd h List.not_mem_nil)⟩)⟩) (Nat.le_of_ble_eq_true rfl)
  rw [he]
  have hl : lv_has ls 2 [(0, .ref h0), (1, .int (nI N))] := hl
  refine lv_aload_n hC.1 hC.2.1 dX8_init_0 rfl (lv_at hl 0 rfl) ?_
  refine W.objInit hC.1 hC.2.1 hC.2.2.1 (hC.2.2.2.1 _ wd_51) (hC.2.2.2.1 _ wd_29) (hC.2.2.2.1 _ wd_30) rfl (by rw [hml]; exact hl.1) rfl dX8_init_1 (Nat.le_of_ble_eq_true rfl) (Nat.le_of_ble_eq_true rfl) ?_
  refine W.eq (g2 := F0 m 4 ls []) rfl ?_
  refine lv_aload_n hC.1 hC.2.1 dX8_init_4 rfl (lv_at hl 0 rfl) ?_
  refine lv_iload_n hC.1 hC.2.1 dX8_init_5 rfl (lv_at hl 1 rfl) ?_
  refine lv_iconst (v := (0 : Int32)) hC.1 hC.2.1 dX8_init_6 (by decide) ?_
  refine va_mmax hC.1 hC.2.1 (by rw [hml]; exact hl.1.symm) hC.2.2.1 (hC.2.2.2.1 _ wm_52) (hC.2.2.2.1 _ wm_40) (hC.2.2.2.1 _ wd_3) (hC.2.2.2.1 _ wm_41) (Nat.le_of_ble_eq_true rfl) (Nat.le_of_ble_eq_true rfl) (Nat.zero_le _) (Nat.zero_le _) dX8_init_7 ?_
  have hmx : (if nI N < 0 then (0 : Int32) else nI N) = nI N := if_neg (nI_pos (by omega))
  rw [hmx]
  refine nw_i (N := N) hC hP hD hS hA wd_60 (nI_pos (by omega)) (nI_clamp (by omega)) (by omega) (Nat.le_of_ble_eq_true rfl) (by show 0 + N ≤ N; omega) dX8_init_10 (fun q1 H hP hD hS => ?_)
  have hP : va_P (gD g) vwCl [(h0, .inr (9, [.null, .int 0])), (q1, .inl (gc g 0, N, .inl (fun _ => 0)))] H := hP
  have hD : va_D A [(h0, .inr (9, [.null, .int 0])), (q1, .inl (gc g 0, N, .inl (fun _ => 0)))] := hD
  refine va_putF (D := gD g) (ci := 9) (v := .ref q1) (ty := .array .int) (C := RX8) (T := TX8) (N := 2) hC.1 hC.2.1 hC.2.2.2.1 uw_X8 tyX8 tyX8_ok nmX8 hC.2.2.1 hC.2.2.2.2.1 hP hD hS 0 rfl rfl 0 (by decide) (hC.2.2.2.1 _ wd_53) (fun _ h9 => h9) rfl (hnm.trans rfl) rfl (by decide +kernel) rfl rfl (Nat.le_of_ble_eq_true rfl) dX8_init_12 (fun H locs hP hD hS => ?_)
  have hP : va_P (gD g) vwCl [(h0, .inr (9, [.ref q1, .int 0])), (q1, .inl (gc g 0, N, .inl (fun _ => 0)))] H := hP
  have hD : va_D A [(h0, .inr (9, [.ref q1, .int 0])), (q1, .inl (gc g 0, N, .inl (fun _ => 0)))] := hD
  subst hAd
  exact lret_v hC hr hlk hP hD hS ⟨q1, rfl⟩ (Nat.le_refl 1) (by omega) dX8_init_15
set_option maxHeartbeats 4000000 in
set_option maxRecDepth 100000 in
theorem l_X9_init {l : Launch} {g : GP} (h0 : Nat) (pr : Nat) (x2 : Int32) (x3 : Int32) (sz : Nat)  : Met l yX9_init (Cond.code yX9_init cX9_init 4 none :: lwG) ({ frames := 1, cells := 0, slots := 0, locals := 12 } : Room) (va_Pc [.ref h0, .ref pr, .int x2, .int x3] (PL g [(h0, .inr (10, [.null, .int 0, .int 0, .int 0, .int 0]))] sz)) (QL none (fun W1 => W1 = [(h0, .inr (10, [.ref pr, .int x2, .int x3, .int 0, .int 0]))]) g [(h0, .inr (10, [.null, .int 0, .int 0, .int 0, .int 0]))] sz) 0 0 (va_A [(h0, .inr (10, [.null, .int 0, .int 0, .int 0, .int 0]))] sz) := by
  refine Met.ofW (cc := cX9_init) (maxL := 4) (ret := none) (by decide +kernel) rfl ?_
  intro p e s m args below meth c s₁ Bd hml hv
  obtain ⟨ha, hsz, hC, hE, hr, hlk, hP, hD0, hnm⟩ := l_start Bd hv
  subst ha
  subst hsz
  have hC : CX p s m ([.ref h0, .ref pr, .int x2, .int x3] : List Value).toArray c cX9_init RX9 g := hC
  obtain ⟨A, hAd⟩ : ∃ A, A = va_A [(h0, .inr (10, [.null, .int 0, .int 0, .int 0, .int 0]))] s.heap.size := ⟨_, rfl⟩
  have hAg : ∀ q, A q → gP g q := by rw [hAd]; exact A_gP hD0 hC.2.2.2.2.2.1
  have hA : ∀ q, s.heap.size ≤ q → A q := by rw [hAd]; exact fun q h => Or.inr h
  have hD : va_D A [(h0, .inr (10, [.null, .int 0, .int 0, .int 0, .int 0]))] := by rw [hAd]; exact hD0.self (sz := s.heap.size)
  have hS : va_S A s.heap s.heap [] := va_S.rf
  obtain ⟨ls, he, hl⟩ := g_entry m (vs := [.ref h0, .ref pr, .int x2, .int x3]) (n := 4) (List.forall_mem_cons.mpr ⟨rfl, (List.forall_mem_cons.mpr ⟨rfl, (List.forall_mem_cons.mpr ⟨rfl, (List.forall_mem_cons.mpr ⟨rfl, (fun _ h => absurd h List.not_mem_nil)⟩)⟩)⟩)⟩) (Nat.le_of_ble_eq_true rfl)
  rw [he]
  have hl : lv_has ls 4 [(0, .ref h0), (1, .ref pr), (2, .int x2), (3, .int x3)] := hl
  refine lv_aload_n hC.1 hC.2.1 dX9_init_0 rfl (lv_at hl 0 rfl) ?_
  refine W.objInit hC.1 hC.2.1 hC.2.2.1 (hC.2.2.2.1 _ wd_281) (hC.2.2.2.1 _ wd_29) (hC.2.2.2.1 _ wd_30) rfl (by rw [hml]; exact hl.1) rfl dX9_init_1 (Nat.le_of_ble_eq_true rfl) (Nat.le_of_ble_eq_true rfl) ?_
  refine W.eq (g2 := F0 m 4 ls []) rfl ?_
  refine lv_aload_n hC.1 hC.2.1 dX9_init_4 rfl (lv_at hl 0 rfl) ?_
  refine lv_aload_n hC.1 hC.2.1 dX9_init_5 rfl (lv_at hl 1 rfl) ?_
  refine va_putF (D := gD g) (ci := 10) (v := .ref pr) (ty := .object "DrumLayers$Processor") (C := RX9) (T := TX9) (N := 5) hC.1 hC.2.1 hC.2.2.2.1 uw_X9 tyX9 tyX9_ok nmX9 hC.2.2.1 hC.2.2.2.2.1 hP hD hS 0 rfl rfl 0 (by decide) (hC.2.2.2.1 _ wd_282) (fun _ h9 => h9) rfl (hnm.trans rfl) rfl (by decide +kernel) rfl rfl (Nat.le_of_ble_eq_true rfl) dX9_init_6 (fun H locs hP hD hS => ?_)
  have hP : va_P (gD g) vwCl [(h0, .inr (10, [.ref pr, .int 0, .int 0, .int 0, .int 0]))] H := hP
  have hD : va_D A [(h0, .inr (10, [.ref pr, .int 0, .int 0, .int 0, .int 0]))] := hD
  refine lv_aload_n hC.1 hC.2.1 dX9_init_9 rfl (lv_at hl 0 rfl) ?_
  refine lv_iload_n hC.1 hC.2.1 dX9_init_10 rfl (lv_at hl 2 rfl) ?_
  refine va_putF (D := gD g) (ci := 10) (v := .int x2) (ty := .int) (C := RX9) (T := TX9) (N := 5) hC.1 hC.2.1 hC.2.2.2.1 uw_X9 tyX9 tyX9_ok nmX9 hC.2.2.1 hC.2.2.2.2.1 hP hD hS 0 rfl rfl 1 (by decide) (hC.2.2.2.1 _ wd_283) (fun _ h9 => h9) rfl (hnm.trans rfl) rfl (by decide +kernel) rfl rfl (Nat.le_of_ble_eq_true rfl) dX9_init_11 (fun H locs hP hD hS => ?_)
  have hP : va_P (gD g) vwCl [(h0, .inr (10, [.ref pr, .int x2, .int 0, .int 0, .int 0]))] H := hP
  have hD : va_D A [(h0, .inr (10, [.ref pr, .int x2, .int 0, .int 0, .int 0]))] := hD
  refine lv_aload_n hC.1 hC.2.1 dX9_init_14 rfl (lv_at hl 0 rfl) ?_
  refine lv_iload_n hC.1 hC.2.1 dX9_init_15 rfl (lv_at hl 3 rfl) ?_
  refine va_putF (D := gD g) (ci := 10) (v := .int x3) (ty := .int) (C := RX9) (T := TX9) (N := 5) hC.1 hC.2.1 hC.2.2.2.1 uw_X9 tyX9 tyX9_ok nmX9 hC.2.2.1 hC.2.2.2.2.1 hP hD hS 0 rfl rfl 2 (by decide) (hC.2.2.2.1 _ wd_284) (fun _ h9 => h9) rfl (hnm.trans rfl) rfl (by decide +kernel) rfl rfl (Nat.le_of_ble_eq_true rfl) dX9_init_16 (fun H locs hP hD hS => ?_)
  have hP : va_P (gD g) vwCl [(h0, .inr (10, [.ref pr, .int x2, .int x3, .int 0, .int 0]))] H := hP
  have hD : va_D A [(h0, .inr (10, [.ref pr, .int x2, .int x3, .int 0, .int 0]))] := hD
  subst hAd
  exact lret_v hC hr hlk hP hD hS rfl (Nat.le_of_ble_eq_true rfl) (Nat.le_of_ble_eq_true rfl) dX9_init_19
set_option maxHeartbeats 4000000 in
set_option maxRecDepth 100000 in
theorem l_X4_init {l : Launch} {g : GP} (h0 : Nat) (sz : Nat)  : Met l yX4_init (Cond.code yX4_init cX4_init 1 none :: lwG) ({ frames := 1, cells := 1, slots := 16, locals := 12 } : Room) (va_Pc [.ref h0] (PL g [(h0, .inr (5, [.null, .null, .int 0, .int 0, .int 0, .int 0, .int 0]))] sz)) (QL none (fun W1 => ∃ q1 : Nat, W1 = [(h0, .inr (5, [.ref q1, .null, .int 0, .int 0, .int 0, .int 0, .int 0])), (q1, .inl (gc g 0, 16, .inl (fun _ => 0)))]) g [(h0, .inr (5, [.null, .null, .int 0, .int 0, .int 0, .int 0, .int 0]))] sz) 1 16 (va_A [(h0, .inr (5, [.null, .null, .int 0, .int 0, .int 0, .int 0, .int 0]))] sz) := by
  refine Met.ofW (cc := cX4_init) (maxL := 1) (ret := none) (by decide +kernel) rfl ?_
  intro p e s m args below meth c s₁ Bd hml hv
  obtain ⟨ha, hsz, hC, hE, hr, hlk, hP, hD0, hnm⟩ := l_start Bd hv
  subst ha
  subst hsz
  have hC : CX p s m ([.ref h0] : List Value).toArray c cX4_init RX4 g := hC
  obtain ⟨A, hAd⟩ : ∃ A, A = va_A [(h0, .inr (5, [.null, .null, .int 0, .int 0, .int 0, .int 0, .int 0]))] s.heap.size := ⟨_, rfl⟩
  have hAg : ∀ q, A q → gP g q := by rw [hAd]; exact A_gP hD0 hC.2.2.2.2.2.1
  have hA : ∀ q, s.heap.size ≤ q → A q := by rw [hAd]; exact fun q h => Or.inr h
  have hD : va_D A [(h0, .inr (5, [.null, .null, .int 0, .int 0, .int 0, .int 0, .int 0]))] := by rw [hAd]; exact hD0.self (sz := s.heap.size)
  have hS : va_S A s.heap s.heap [] := va_S.rf
  obtain ⟨ls, he, hl⟩ := g_entry m (vs := [.ref h0]) (n := 1) (List.forall_mem_cons.mpr ⟨rfl, (fun _ h => absurd h List.not_mem_nil)⟩) (Nat.le_of_ble_eq_true rfl)
  rw [he]
  have hl : lv_has ls 1 [(0, .ref h0)] := hl
  refine lv_aload_n hC.1 hC.2.1 dX4_init_0 rfl (lv_at hl 0 rfl) ?_
  refine W.objInit hC.1 hC.2.1 hC.2.2.1 (hC.2.2.2.1 _ wd_205) (hC.2.2.2.1 _ wd_29) (hC.2.2.2.1 _ wd_30) rfl (by rw [hml]; exact hl.1) rfl dX4_init_1 (Nat.le_of_ble_eq_true rfl) (Nat.le_of_ble_eq_true rfl) ?_
  refine W.eq (g2 := F0 m 4 ls []) rfl ?_
  refine lv_aload_n hC.1 hC.2.1 dX4_init_4 rfl (lv_at hl 0 rfl) ?_
  refine lv_bipush (v := (16 : Int32)) hC.1 hC.2.1 dX4_init_5 (by decide) ?_
  refine nw_i (N := 16) hC hP hD hS hA wd_60 (by decide) (by decide) (by decide) (Nat.le_of_ble_eq_true rfl) (Nat.le_of_ble_eq_true rfl) dX4_init_7 (fun q1 H hP hD hS => ?_)
  have hP : va_P (gD g) vwCl [(h0, .inr (5, [.null, .null, .int 0, .int 0, .int 0, .int 0, .int 0])), (q1, .inl (gc g 0, 16, .inl (fun _ => 0)))] H := hP
  have hD : va_D A [(h0, .inr (5, [.null, .null, .int 0, .int 0, .int 0, .int 0, .int 0])), (q1, .inl (gc g 0, 16, .inl (fun _ => 0)))] := hD
  refine W.widen (k := 1) (n := 16) (Nat.le_of_ble_eq_true rfl) (Nat.le_of_ble_eq_true rfl) ?_
  refine va_putF (D := gD g) (ci := 5) (v := .ref q1) (ty := .array (.int)) (C := RX4) (T := TX4) (N := 7) hC.1 hC.2.1 hC.2.2.2.1 uw_X4 tyX4 tyX4_ok nmX4 hC.2.2.1 hC.2.2.2.2.1 hP hD hS 0 rfl rfl 0 (by decide) (hC.2.2.2.1 _ wd_206) (fun _ h9 => h9) rfl (hnm.trans rfl) rfl (by decide +kernel) rfl rfl (Nat.le_of_ble_eq_true rfl) dX4_init_9 (fun H locs hP hD hS => ?_)
  have hP : va_P (gD g) vwCl [(h0, .inr (5, [.ref q1, .null, .int 0, .int 0, .int 0, .int 0, .int 0])), (q1, .inl (gc g 0, 16, .inl (fun _ => 0)))] H := hP
  have hD : va_D A [(h0, .inr (5, [.ref q1, .null, .int 0, .int 0, .int 0, .int 0, .int 0])), (q1, .inl (gc g 0, 16, .inl (fun _ => 0)))] := hD
  subst hAd
  exact lret_v hC hr hlk hP hD hS ⟨q1, rfl⟩ (Nat.le_of_ble_eq_true rfl) (Nat.le_of_ble_eq_true rfl) dX4_init_12
set_option maxHeartbeats 4000000 in
set_option maxRecDepth 100000 in
theorem l_X6_init {l : Launch} {g : GP} (h0 : Nat) (a1 : Nat) (a2 : Nat) (a3 : Nat) (a4 : Nat) (a5 : Nat) (a6 : Nat) (sz : Nat)  : Met l yX6_init (Cond.code yX6_init cX6_init 7 none :: lwG) ({ frames := 1, cells := 0, slots := 0, locals := 12 } : Room) (va_Pc [.ref h0, .ref a1, .ref a2, .ref a3, .ref a4, .ref a5, .ref a6] (PL g [(h0, .inr (7, [.null, .null, .null, .null, .null, .null]))] sz)) (QL none (fun W1 => W1 = [(h0, .inr (7, [.ref a1, .ref a2, .ref a3, .ref a4, .ref a5, .ref a6]))]) g [(h0, .inr (7, [.null, .null, .null, .null, .null, .null]))] sz) 0 0 (va_A [(h0, .inr (7, [.null, .null, .null, .null, .null, .null]))] sz) := by
  refine Met.ofW (cc := cX6_init) (maxL := 7) (ret := none) (by decide +kernel) rfl ?_
  intro p e s m args below meth c s₁ Bd hml hv
  obtain ⟨ha, hsz, hC, hE, hr, hlk, hP, hD0, hnm⟩ := l_start Bd hv
  subst ha
  subst hsz
  have hC : CX p s m ([.ref h0, .ref a1, .ref a2, .ref a3, .ref a4, .ref a5, .ref a6] : List Value).toArray c cX6_init RX6 g := hC
  obtain ⟨A, hAd⟩ : ∃ A, A = va_A [(h0, .inr (7, [.null, .null, .null, .null, .null, .null]))] s.heap.size := ⟨_, rfl⟩
  have hAg : ∀ q, A q → gP g q := by rw [hAd]; exact A_gP hD0 hC.2.2.2.2.2.1
  have hA : ∀ q, s.heap.size ≤ q → A q := by rw [hAd]; exact fun q h => Or.inr h
  have hD : va_D A [(h0, .inr (7, [.null, .null, .null, .null, .null, .null]))] := by rw [hAd]; exact hD0.self (sz := s.heap.size)
  have hS : va_S A s.heap s.heap [] := va_S.rf
  obtain ⟨ls, he, hl⟩ := g_entry m (vs := [.ref h0, .ref a1, .ref a2, .ref a3, .ref a4, .ref a5, .ref a6]) (n := 7) (List.forall_mem_cons.mpr ⟨rfl, (List.forall_mem_cons.mpr ⟨rfl, (List.forall_mem_cons.mpr ⟨rfl, (List.forall_mem_cons.mpr ⟨rfl, (List.forall_mem_cons.mpr ⟨rfl, (List.forall_mem_cons.mpr ⟨rfl, (List.forall_mem_cons.mpr ⟨rfl, (fun _ h => absurd h List.not_mem_nil)⟩)⟩)⟩)⟩)⟩)⟩)⟩) (Nat.le_of_ble_eq_true rfl)
  rw [he]
  have hl : lv_has ls 7 [(0, .ref h0), (1, .ref a1), (2, .ref a2), (3, .ref a3), (4, .ref a4), (5, .ref a5), (6, .ref a6)] := hl
  refine lv_aload_n hC.1 hC.2.1 dX6_init_0 rfl (lv_at hl 0 rfl) ?_
  refine W.objInit hC.1 hC.2.1 hC.2.2.1 (hC.2.2.2.1 _ wd_513) (hC.2.2.2.1 _ wd_29) (hC.2.2.2.1 _ wd_30) rfl (by rw [hml]; exact hl.1) rfl dX6_init_1 (Nat.le_of_ble_eq_true rfl) (Nat.le_of_ble_eq_true rfl) ?_
  refine W.eq (g2 := F0 m 4 ls []) rfl ?_
  refine lv_aload_n hC.1 hC.2.1 dX6_init_4 rfl (lv_at hl 0 rfl) ?_
  refine lv_aload_n hC.1 hC.2.1 dX6_init_5 rfl (lv_at hl 1 rfl) ?_
  refine va_putF (D := gD g) (ci := 7) (v := .ref a1) (ty := .object "DrumLayers$Processor") (C := RX6) (T := TX6) (N := 6) hC.1 hC.2.1 hC.2.2.2.1 uw_X6 tyX6 tyX6_ok nmX6 hC.2.2.1 hC.2.2.2.2.1 hP hD hS 0 rfl rfl 0 (by decide) (hC.2.2.2.1 _ wd_514) (fun _ h9 => h9) rfl (hnm.trans rfl) rfl (by decide +kernel) rfl rfl (Nat.le_of_ble_eq_true rfl) dX6_init_6 (fun H locs hP hD hS => ?_)
  have hP : va_P (gD g) vwCl [(h0, .inr (7, [.ref a1, .null, .null, .null, .null, .null]))] H := hP
  have hD : va_D A [(h0, .inr (7, [.ref a1, .null, .null, .null, .null, .null]))] := hD
  refine lv_aload_n hC.1 hC.2.1 dX6_init_9 rfl (lv_at hl 0 rfl) ?_
  refine lv_aload_n hC.1 hC.2.1 dX6_init_10 rfl (lv_at hl 2 rfl) ?_
  refine va_putF (D := gD g) (ci := 7) (v := .ref a2) (ty := .object "DrumLayers$Core") (C := RX6) (T := TX6) (N := 6) hC.1 hC.2.1 hC.2.2.2.1 uw_X6 tyX6 tyX6_ok nmX6 hC.2.2.1 hC.2.2.2.2.1 hP hD hS 0 rfl rfl 1 (by decide) (hC.2.2.2.1 _ wd_515) (fun _ h9 => h9) rfl (hnm.trans rfl) rfl (by decide +kernel) rfl rfl (Nat.le_of_ble_eq_true rfl) dX6_init_11 (fun H locs hP hD hS => ?_)
  have hP : va_P (gD g) vwCl [(h0, .inr (7, [.ref a1, .ref a2, .null, .null, .null, .null]))] H := hP
  have hD : va_D A [(h0, .inr (7, [.ref a1, .ref a2, .null, .null, .null, .null]))] := hD
  refine lv_aload_n hC.1 hC.2.1 dX6_init_14 rfl (lv_at hl 0 rfl) ?_
  refine lv_aload_n hC.1 hC.2.1 dX6_init_15 rfl (lv_at hl 3 rfl) ?_
  refine va_putF (D := gD g) (ci := 7) (v := .ref a3) (ty := .object "DrumLayers$Store") (C := RX6) (T := TX6) (N := 6) hC.1 hC.2.1 hC.2.2.2.1 uw_X6 tyX6 tyX6_ok nmX6 hC.2.2.1 hC.2.2.2.2.1 hP hD hS 0 rfl rfl 2 (by decide) (hC.2.2.2.1 _ wd_516) (fun _ h9 => h9) rfl (hnm.trans rfl) rfl (by decide +kernel) rfl rfl (Nat.le_of_ble_eq_true rfl) dX6_init_16 (fun H locs hP hD hS => ?_)
  have hP : va_P (gD g) vwCl [(h0, .inr (7, [.ref a1, .ref a2, .ref a3, .null, .null, .null]))] H := hP
  have hD : va_D A [(h0, .inr (7, [.ref a1, .ref a2, .ref a3, .null, .null, .null]))] := hD
  refine lv_aload_n hC.1 hC.2.1 dX6_init_19 rfl (lv_at hl 0 rfl) ?_
  refine lv_aload hC.1 hC.2.1 dX6_init_20 (lv_at hl 4 rfl) ?_
  refine va_putF (D := gD g) (ci := 7) (v := .ref a4) (ty := .object "DrumLayers$Bank") (C := RX6) (T := TX6) (N := 6) hC.1 hC.2.1 hC.2.2.2.1 uw_X6 tyX6 tyX6_ok nmX6 hC.2.2.1 hC.2.2.2.2.1 hP hD hS 0 rfl rfl 3 (by decide) (hC.2.2.2.1 _ wd_517) (fun _ h9 => h9) rfl (hnm.trans rfl) rfl (by decide +kernel) rfl rfl (Nat.le_of_ble_eq_true rfl) dX6_init_22 (fun H locs hP hD hS => ?_)
  have hP : va_P (gD g) vwCl [(h0, .inr (7, [.ref a1, .ref a2, .ref a3, .ref a4, .null, .null]))] H := hP
  have hD : va_D A [(h0, .inr (7, [.ref a1, .ref a2, .ref a3, .ref a4, .null, .null]))] := hD
  refine lv_aload_n hC.1 hC.2.1 dX6_init_25 rfl (lv_at hl 0 rfl) ?_
  refine lv_aload hC.1 hC.2.1 dX6_init_26 (lv_at hl 5 rfl) ?_
  refine va_putF (D := gD g) (ci := 7) (v := .ref a5) (ty := .object "DrumLayers$Devices") (C := RX6) (T := TX6) (N := 6) hC.1 hC.2.1 hC.2.2.2.1 uw_X6 tyX6 tyX6_ok nmX6 hC.2.2.1 hC.2.2.2.2.1 hP hD hS 0 rfl rfl 4 (by decide) (hC.2.2.2.1 _ wd_518) (fun _ h9 => h9) rfl (hnm.trans rfl) rfl (by decide +kernel) rfl rfl (Nat.le_of_ble_eq_true rfl) dX6_init_28 (fun H locs hP hD hS => ?_)
  have hP : va_P (gD g) vwCl [(h0, .inr (7, [.ref a1, .ref a2, .ref a3, .ref a4, .ref a5, .null]))] H := hP
  have hD : va_D A [(h0, .inr (7, [.ref a1, .ref a2, .ref a3, .ref a4, .ref a5, .null]))] := hD
  refine lv_aload_n hC.1 hC.2.1 dX6_init_31 rfl (lv_at hl 0 rfl) ?_
  refine lv_aload hC.1 hC.2.1 dX6_init_32 (lv_at hl 6 rfl) ?_
  refine va_putF (D := gD g) (ci := 7) (v := .ref a6) (ty := .object "DrumLayers$Console") (C := RX6) (T := TX6) (N := 6) hC.1 hC.2.1 hC.2.2.2.1 uw_X6 tyX6 tyX6_ok nmX6 hC.2.2.1 hC.2.2.2.2.1 hP hD hS 0 rfl rfl 5 (by decide) (hC.2.2.2.1 _ wd_519) (fun _ h9 => h9) rfl (hnm.trans rfl) rfl (by decide +kernel) rfl rfl (Nat.le_of_ble_eq_true rfl) dX6_init_34 (fun H locs hP hD hS => ?_)
  have hP : va_P (gD g) vwCl [(h0, .inr (7, [.ref a1, .ref a2, .ref a3, .ref a4, .ref a5, .ref a6]))] H := hP
  have hD : va_D A [(h0, .inr (7, [.ref a1, .ref a2, .ref a3, .ref a4, .ref a5, .ref a6]))] := hD
  subst hAd
  exact lret_v hC hr hlk hP hD hS rfl (Nat.le_of_ble_eq_true rfl) (Nat.le_of_ble_eq_true rfl) dX6_init_37
set_option maxHeartbeats 4000000 in
set_option maxRecDepth 100000 in
theorem l_X7_init {l : Launch} {g : GP} (h0 : Nat) (x1 : Int32) (sz : Nat)  : Met l yX7_init (Cond.code yX7_init cX7_init 2 none :: lwG) ({ frames := 2, cells := 3, slots := 22, locals := 35 } : Room) (va_Pc [.ref h0, .int x1] (PL g [(h0, .inr (8, [.null, .null, .int 0, .int 0, .int 0]))] sz)) (QL none (fun W1 => ∃ q1 q2 q3 : Nat, W1 = [(h0, .inr (8, [.ref q1, .ref q3, .int x1, .int 0, .int 0])), (q1, .inr (9, [.ref q2, .int 0])), (q2, .inl (gc g 0, 10, .inl (fun _ => 0))), (q3, .inl (gc g 0, 10, .inl (fun _ => 0)))]) g [(h0, .inr (8, [.null, .null, .int 0, .int 0, .int 0]))] sz) 3 22 (va_A [(h0, .inr (8, [.null, .null, .int 0, .int 0, .int 0]))] sz) := by
  refine Met.ofW (cc := cX7_init) (maxL := 2) (ret := none) (by decide +kernel) rfl ?_
  intro p e s m args below meth c s₁ Bd hml hv
  obtain ⟨ha, hsz, hC, hE, hr, hlk, hP, hD0, hnm⟩ := l_start Bd hv
  subst ha
  subst hsz
  have hC : CX p s m ([.ref h0, .int x1] : List Value).toArray c cX7_init RX7 g := hC
  obtain ⟨A, hAd⟩ : ∃ A, A = va_A [(h0, .inr (8, [.null, .null, .int 0, .int 0, .int 0]))] s.heap.size := ⟨_, rfl⟩
  have hAg : ∀ q, A q → gP g q := by rw [hAd]; exact A_gP hD0 hC.2.2.2.2.2.1
  have hA : ∀ q, s.heap.size ≤ q → A q := by rw [hAd]; exact fun q h => Or.inr h
  have hD : va_D A [(h0, .inr (8, [.null, .null, .int 0, .int 0, .int 0]))] := by rw [hAd]; exact hD0.self (sz := s.heap.size)
  have hS : va_S A s.heap s.heap [] := va_S.rf
  obtain ⟨ls, he, hl⟩ := g_entry m (vs := [.ref h0, .int x1]) (n := 2) (List.forall_mem_cons.mpr ⟨rfl, (List.forall_mem_cons.mpr ⟨rfl, (fun _ h => absurd h List.not_mem_nil)⟩)⟩) (Nat.le_of_ble_eq_true rfl)
  rw [he]
  have hl : lv_has ls 2 [(0, .ref h0), (1, .int x1)] := hl
  refine lv_aload_n hC.1 hC.2.1 dX7_init_0 rfl (lv_at hl 0 rfl) ?_
  refine W.objInit hC.1 hC.2.1 hC.2.2.1 (hC.2.2.2.1 _ wd_45) (hC.2.2.2.1 _ wd_29) (hC.2.2.2.1 _ wd_30) rfl (by rw [hml]; exact hl.1) rfl dX7_init_1 (Nat.le_of_ble_eq_true rfl) (Nat.le_of_ble_eq_true rfl) ?_
  refine W.eq (g2 := F0 m 4 ls []) rfl ?_
  refine lv_aload_n hC.1 hC.2.1 dX7_init_4 rfl (lv_at hl 0 rfl) ?_
  refine va_new (ci := 9) (fs := [.null, .int 0]) (C := RX8) (T := TX8) (N := 2) hC.1 hC.2.1 hC.2.2.2.1 uw_X8 tyX8 tyX8_ok hC.2.2.1 (hC.2.2.2.1 _ wd_46) (hC.2.2.2.1 _ wd_47) (hC.2.2.2.1 _ wd_4) hC.2.2.2.2.1 hP hD hS hA rfl df_X8 (Nat.le_of_ble_eq_true rfl) (Nat.le_of_ble_eq_true rfl) dX7_init_5 (fun q1 H hP hD hS => ?_)
  have hP : va_P (gD g) vwCl [(h0, .inr (8, [.null, .null, .int 0, .int 0, .int 0])), (q1, .inr (9, [.null, .int 0]))] H := hP
  have hD : va_D A [(h0, .inr (8, [.null, .null, .int 0, .int 0, .int 0])), (q1, .inr (9, [.null, .int 0]))] := hD
  refine W.widen (k := 1) (n := 2) (Nat.le_of_ble_eq_true rfl) (Nat.le_of_ble_eq_true rfl) ?_
  refine lv_dup hC.1 hC.2.1 dX7_init_8 rfl ?_
  refine lv_bipush (v := (10 : Int32)) hC.1 hC.2.1 dX7_init_9 (by decide) ?_
  refine lcallI (As := [.int (nI 10)]) (rest := [.ref q1, .ref h0]) (wr := [(h0, .inr (8, [.null, .null, .int 0, .int 0, .int 0]))]) hC hE hml hP hD hS hA hAg (l_X8_init q1 10 _ (by decide)) ⟨wd_48, wd_49, wd_4, wd_50⟩ rfl hd_X8_init rfl rfl ⟨Nat.le_of_ble_eq_true rfl, Nat.le_of_ble_eq_true rfl⟩ rfl hl.1 rfl (Nat.le_of_ble_eq_true rfl) dX7_init_11 ⟨Nat.le_of_ble_eq_true rfl, Nat.le_of_ble_eq_true rfl⟩ [1] [0] rfl rfl (by decide) (by decide) (by decide) (fun W1 H locs hB hP hD hS => ?_)
  obtain ⟨q2, rfl⟩ := hB
  have hP : va_P (gD g) vwCl [(h0, .inr (8, [.null, .null, .int 0, .int 0, .int 0])), (q1, .inr (9, [.ref q2, .int 0])), (q2, .inl (gc g 0, 10, .inl (fun _ => 0)))] H := hP
  have hD : va_D A [(h0, .inr (8, [.null, .null, .int 0, .int 0, .int 0])), (q1, .inr (9, [.ref q2, .int 0])), (q2, .inl (gc g 0, 10, .inl (fun _ => 0)))] := hD
  refine W.widen (k := 2) (n := 12) (Nat.le_of_ble_eq_true rfl) (Nat.le_of_ble_eq_true rfl) ?_
  refine W.eq (g2 := F0 m 14 ls [.ref q1, .ref h0]) rfl ?_
  refine va_putF (D := gD g) (ci := 8) (v := .ref q1) (ty := .object "DrumLayers$Row") (C := RX7) (T := TX7) (N := 5) hC.1 hC.2.1 hC.2.2.2.1 uw_X7 tyX7 tyX7_ok nmX7 hC.2.2.1 hC.2.2.2.2.1 hP hD hS 0 rfl rfl 0 (by decide) (hC.2.2.2.1 _ wd_61) (fun _ h9 => h9) rfl (hnm.trans rfl) rfl (by decide +kernel) rfl rfl (Nat.le_of_ble_eq_true rfl) dX7_init_14 (fun H locs hP hD hS => ?_)
  have hP : va_P (gD g) vwCl [(h0, .inr (8, [.ref q1, .null, .int 0, .int 0, .int 0])), (q1, .inr (9, [.ref q2, .int 0])), (q2, .inl (gc g 0, 10, .inl (fun _ => 0)))] H := hP
  have hD : va_D A [(h0, .inr (8, [.ref q1, .null, .int 0, .int 0, .int 0])), (q1, .inr (9, [.ref q2, .int 0])), (q2, .inl (gc g 0, 10, .inl (fun _ => 0)))] := hD
  refine lv_aload_n hC.1 hC.2.1 dX7_init_17 rfl (lv_at hl 0 rfl) ?_
  refine lv_bipush (v := (10 : Int32)) hC.1 hC.2.1 dX7_init_18 (by decide) ?_
  refine nw_i (N := 10) hC hP hD hS hA wd_60 (by decide) (by decide) (by decide) (Nat.le_of_ble_eq_true rfl) (Nat.le_of_ble_eq_true rfl) dX7_init_20 (fun q3 H hP hD hS => ?_)
  have hP : va_P (gD g) vwCl [(h0, .inr (8, [.ref q1, .null, .int 0, .int 0, .int 0])), (q1, .inr (9, [.ref q2, .int 0])), (q2, .inl (gc g 0, 10, .inl (fun _ => 0))), (q3, .inl (gc g 0, 10, .inl (fun _ => 0)))] H := hP
  have hD : va_D A [(h0, .inr (8, [.ref q1, .null, .int 0, .int 0, .int 0])), (q1, .inr (9, [.ref q2, .int 0])), (q2, .inl (gc g 0, 10, .inl (fun _ => 0))), (q3, .inl (gc g 0, 10, .inl (fun _ => 0)))] := hD
  refine W.widen (k := 3) (n := 22) (Nat.le_of_ble_eq_true rfl) (Nat.le_of_ble_eq_true rfl) ?_
  refine va_putF (D := gD g) (ci := 8) (v := .ref q3) (ty := .array (.int)) (C := RX7) (T := TX7) (N := 5) hC.1 hC.2.1 hC.2.2.2.1 uw_X7 tyX7 tyX7_ok nmX7 hC.2.2.1 hC.2.2.2.2.1 hP hD hS 0 rfl rfl 1 (by decide) (hC.2.2.2.1 _ wd_63) (fun _ h9 => h9) rfl (hnm.trans rfl) rfl (by decide +kernel) rfl rfl (Nat.le_of_ble_eq_true rfl) dX7_init_22 (fun H locs hP hD hS => ?_)
  have hP : va_P (gD g) vwCl [(h0, .inr (8, [.ref q1, .ref q3, .int 0, .int 0, .int 0])), (q1, .inr (9, [.ref q2, .int 0])), (q2, .inl (gc g 0, 10, .inl (fun _ => 0))), (q3, .inl (gc g 0, 10, .inl (fun _ => 0)))] H := hP
  have hD : va_D A [(h0, .inr (8, [.ref q1, .ref q3, .int 0, .int 0, .int 0])), (q1, .inr (9, [.ref q2, .int 0])), (q2, .inl (gc g 0, 10, .inl (fun _ => 0))), (q3, .inl (gc g 0, 10, .inl (fun _ => 0)))] := hD
  refine lv_aload_n hC.1 hC.2.1 dX7_init_25 rfl (lv_at hl 0 rfl) ?_
  refine lv_iload_n hC.1 hC.2.1 dX7_init_26 rfl (lv_at hl 1 rfl) ?_
  refine va_putF (D := gD g) (ci := 8) (v := .int x1) (ty := .int) (C := RX7) (T := TX7) (N := 5) hC.1 hC.2.1 hC.2.2.2.1 uw_X7 tyX7 tyX7_ok nmX7 hC.2.2.1 hC.2.2.2.2.1 hP hD hS 0 rfl rfl 2 (by decide) (hC.2.2.2.1 _ wd_64) (fun _ h9 => h9) rfl (hnm.trans rfl) rfl (by decide +kernel) rfl rfl (Nat.le_of_ble_eq_true rfl) dX7_init_27 (fun H locs hP hD hS => ?_)
  have hP : va_P (gD g) vwCl [(h0, .inr (8, [.ref q1, .ref q3, .int x1, .int 0, .int 0])), (q1, .inr (9, [.ref q2, .int 0])), (q2, .inl (gc g 0, 10, .inl (fun _ => 0))), (q3, .inl (gc g 0, 10, .inl (fun _ => 0)))] H := hP
  have hD : va_D A [(h0, .inr (8, [.ref q1, .ref q3, .int x1, .int 0, .int 0])), (q1, .inr (9, [.ref q2, .int 0])), (q2, .inl (gc g 0, 10, .inl (fun _ => 0))), (q3, .inl (gc g 0, 10, .inl (fun _ => 0)))] := hD
  subst hAd
  exact lret_v hC hr hlk hP hD hS ⟨q1, q2, q3, rfl⟩ (Nat.le_of_ble_eq_true rfl) (Nat.le_of_ble_eq_true rfl) dX7_init_30
set_option maxHeartbeats 4000000 in
set_option maxRecDepth 100000 in
theorem l_X5_init {l : Launch} {g : GP} (h0 : Nat) (x1 : Int32) (sz : Nat)  : Met l yX5_init (Cond.code yX5_init cX5_init 2 none :: lwG) ({ frames := 2, cells := 6, slots := 200, locals := 35 } : Room) (va_Pc [.ref h0, .int x1] (PL g [(h0, .inr (6, [.int 0, .null, .null, .null, .null, .null, .int 0, .int 0, .int 0, .int 0, .int 0, .int 0, .int 0, .int 0, .int 0, .int 0, .int 0, .int 0, .int 0, .int 0]))] sz)) (QL none (fun W1 => ∃ q1 q2 q3 q4 q5 q6 : Nat, W1 = [(h0, .inr (6, [.int x1, .ref q1, .ref q2, .ref q3, .ref q5, .ref q6, .int 0, .int (0 : Int32), .int 0, .int 0, .int 0, .int 0, .int 0, .int 0, .int 0, .int 0, .int 0, .int 0, .int 0, .int 0])), (q1, .inl (gc g 0, 128, .inl (fun _ => 0))), (q2, .inl (gc g 0, 40, .inl (fun _ => 0))), (q3, .inr (9, [.ref q4, .int 0])), (q4, .inl (gc g 0, 24, .inl (fun _ => 0))), (q5, .inl (gc g 0, 3, .inl (fun _ => 0))), (q6, .inl (gc g 0, 3, .inl (fun _ => 0)))]) g [(h0, .inr (6, [.int 0, .null, .null, .null, .null, .null, .int 0, .int 0, .int 0, .int 0, .int 0, .int 0, .int 0, .int 0, .int 0, .int 0, .int 0, .int 0, .int 0, .int 0]))] sz) 6 200 (va_A [(h0, .inr (6, [.int 0, .null, .null, .null, .null, .null, .int 0, .int 0, .int 0, .int 0, .int 0, .int 0, .int 0, .int 0, .int 0, .int 0, .int 0, .int 0, .int 0, .int 0]))] sz) := by
  refine Met.ofW (cc := cX5_init) (maxL := 2) (ret := none) (by decide +kernel) rfl ?_
  intro p e s m args below meth c s₁ Bd hml hv
  obtain ⟨ha, hsz, hC, hE, hr, hlk, hP, hD0, hnm⟩ := l_start Bd hv
  subst ha
  subst hsz
  have hC : CX p s m ([.ref h0, .int x1] : List Value).toArray c cX5_init RX5 g := hC
  obtain ⟨A, hAd⟩ : ∃ A, A = va_A [(h0, .inr (6, [.int 0, .null, .null, .null, .null, .null, .int 0, .int 0, .int 0, .int 0, .int 0, .int 0, .int 0, .int 0, .int 0, .int 0, .int 0, .int 0, .int 0, .int 0]))] s.heap.size := ⟨_, rfl⟩
  have hAg : ∀ q, A q → gP g q := by rw [hAd]; exact A_gP hD0 hC.2.2.2.2.2.1
  have hA : ∀ q, s.heap.size ≤ q → A q := by rw [hAd]; exact fun q h => Or.inr h
  have hD : va_D A [(h0, .inr (6, [.int 0, .null, .null, .null, .null, .null, .int 0, .int 0, .int 0, .int 0, .int 0, .int 0, .int 0, .int 0, .int 0, .int 0, .int 0, .int 0, .int 0, .int 0]))] := by rw [hAd]; exact hD0.self (sz := s.heap.size)
  have hS : va_S A s.heap s.heap [] := va_S.rf
  obtain ⟨ls, he, hl⟩ := g_entry m (vs := [.ref h0, .int x1]) (n := 2) (List.forall_mem_cons.mpr ⟨rfl, (List.forall_mem_cons.mpr ⟨rfl, (fun _ h => absurd h List.not_mem_nil)⟩)⟩) (Nat.le_of_ble_eq_true rfl)
  rw [he]
  have hl : lv_has ls 2 [(0, .ref h0), (1, .int x1)] := hl
  refine lv_aload_n hC.1 hC.2.1 dX5_init_0 rfl (lv_at hl 0 rfl) ?_
  refine W.objInit hC.1 hC.2.1 hC.2.2.1 (hC.2.2.2.1 _ wd_87) (hC.2.2.2.1 _ wd_29) (hC.2.2.2.1 _ wd_30) rfl (by rw [hml]; exact hl.1) rfl dX5_init_1 (Nat.le_of_ble_eq_true rfl) (Nat.le_of_ble_eq_true rfl) ?_
  refine W.eq (g2 := F0 m 4 ls []) rfl ?_
  refine lv_aload_n hC.1 hC.2.1 dX5_init_4 rfl (lv_at hl 0 rfl) ?_
  refine lv_sipush (v := (128 : Int32)) hC.1 hC.2.1 dX5_init_5 (by decide) ?_
  refine nw_i (N := 128) hC hP hD hS hA wd_60 (by decide) (by decide) (by decide) (Nat.le_of_ble_eq_true rfl) (Nat.le_of_ble_eq_true rfl) dX5_init_8 (fun q1 H hP hD hS => ?_)
  have hP : va_P (gD g) vwCl [(h0, .inr (6, [.int 0, .null, .null, .null, .null, .null, .int 0, .int 0, .int 0, .int 0, .int 0, .int 0, .int 0, .int 0, .int 0, .int 0, .int 0, .int 0, .int 0, .int 0])), (q1, .inl (gc g 0, 128, .inl (fun _ => 0)))] H := hP
  have hD : va_D A [(h0, .inr (6, [.int 0, .null, .null, .null, .null, .null, .int 0, .int 0, .int 0, .int 0, .int 0, .int 0, .int 0, .int 0, .int 0, .int 0, .int 0, .int 0, .int 0, .int 0])), (q1, .inl (gc g 0, 128, .inl (fun _ => 0)))] := hD
  refine W.widen (k := 1) (n := 128) (Nat.le_of_ble_eq_true rfl) (Nat.le_of_ble_eq_true rfl) ?_
  refine va_putF (D := gD g) (ci := 6) (v := .ref q1) (ty := .array (.int)) (C := RX5) (T := TX5) (N := 20) hC.1 hC.2.1 hC.2.2.2.1 uw_X5 tyX5 tyX5_ok nmX5 hC.2.2.1 hC.2.2.2.2.1 hP hD hS 0 rfl rfl 1 (by decide) (hC.2.2.2.1 _ wd_98) (fun _ h9 => h9) rfl (hnm.trans rfl) rfl (by decide +kernel) rfl rfl (Nat.le_of_ble_eq_true rfl) dX5_init_10 (fun H locs hP hD hS => ?_)
  have hP : va_P (gD g) vwCl [(h0, .inr (6, [.int 0, .ref q1, .null, .null, .null, .null, .int 0, .int 0, .int 0, .int 0, .int 0, .int 0, .int 0, .int 0, .int 0, .int 0, .int 0, .int 0, .int 0, .int 0])), (q1, .inl (gc g 0, 128, .inl (fun _ => 0)))] H := hP
  have hD : va_D A [(h0, .inr (6, [.int 0, .ref q1, .null, .null, .null, .null, .int 0, .int 0, .int 0, .int 0, .int 0, .int 0, .int 0, .int 0, .int 0, .int 0, .int 0, .int 0, .int 0, .int 0])), (q1, .inl (gc g 0, 128, .inl (fun _ => 0)))] := hD
  refine lv_aload_n hC.1 hC.2.1 dX5_init_13 rfl (lv_at hl 0 rfl) ?_
  refine lv_bipush (v := (40 : Int32)) hC.1 hC.2.1 dX5_init_14 (by decide) ?_
  refine nw_i (N := 40) hC hP hD hS hA wd_60 (by decide) (by decide) (by decide) (Nat.le_of_ble_eq_true rfl) (Nat.le_of_ble_eq_true rfl) dX5_init_16 (fun q2 H hP hD hS => ?_)
  have hP : va_P (gD g) vwCl [(h0, .inr (6, [.int 0, .ref q1, .null, .null, .null, .null, .int 0, .int 0, .int 0, .int 0, .int 0, .int 0, .int 0, .int 0, .int 0, .int 0, .int 0, .int 0, .int 0, .int 0])), (q1, .inl (gc g 0, 128, .inl (fun _ => 0))), (q2, .inl (gc g 0, 40, .inl (fun _ => 0)))] H := hP
  have hD : va_D A [(h0, .inr (6, [.int 0, .ref q1, .null, .null, .null, .null, .int 0, .int 0, .int 0, .int 0, .int 0, .int 0, .int 0, .int 0, .int 0, .int 0, .int 0, .int 0, .int 0, .int 0])), (q1, .inl (gc g 0, 128, .inl (fun _ => 0))), (q2, .inl (gc g 0, 40, .inl (fun _ => 0)))] := hD
  refine W.widen (k := 2) (n := 168) (Nat.le_of_ble_eq_true rfl) (Nat.le_of_ble_eq_true rfl) ?_
  refine va_putF (D := gD g) (ci := 6) (v := .ref q2) (ty := .array (.int)) (C := RX5) (T := TX5) (N := 20) hC.1 hC.2.1 hC.2.2.2.1 uw_X5 tyX5 tyX5_ok nmX5 hC.2.2.1 hC.2.2.2.2.1 hP hD hS 0 rfl rfl 2 (by decide) (hC.2.2.2.1 _ wd_99) (fun _ h9 => h9) rfl (hnm.trans rfl) rfl (by decide +kernel) rfl rfl (Nat.le_of_ble_eq_true rfl) dX5_init_18 (fun H locs hP hD hS => ?_)
  have hP : va_P (gD g) vwCl [(h0, .inr (6, [.int 0, .ref q1, .ref q2, .null, .null, .null, .int 0, .int 0, .int 0, .int 0, .int 0, .int 0, .int 0, .int 0, .int 0, .int 0, .int 0, .int 0, .int 0, .int 0])), (q1, .inl (gc g 0, 128, .inl (fun _ => 0))), (q2, .inl (gc g 0, 40, .inl (fun _ => 0)))] H := hP
  have hD : va_D A [(h0, .inr (6, [.int 0, .ref q1, .ref q2, .null, .null, .null, .int 0, .int 0, .int 0, .int 0, .int 0, .int 0, .int 0, .int 0, .int 0, .int 0, .int 0, .int 0, .int 0, .int 0])), (q1, .inl (gc g 0, 128, .inl (fun _ => 0))), (q2, .inl (gc g 0, 40, .inl (fun _ => 0)))] := hD
  refine lv_aload_n hC.1 hC.2.1 dX5_init_21 rfl (lv_at hl 0 rfl) ?_
  refine va_new (ci := 9) (fs := [.null, .int 0]) (C := RX8) (T := TX8) (N := 2) hC.1 hC.2.1 hC.2.2.2.1 uw_X8 tyX8 tyX8_ok hC.2.2.1 (hC.2.2.2.1 _ wd_88) (hC.2.2.2.1 _ wd_47) (hC.2.2.2.1 _ wd_4) hC.2.2.2.2.1 hP hD hS hA rfl df_X8 (Nat.le_of_ble_eq_true rfl) (Nat.le_of_ble_eq_true rfl) dX5_init_22 (fun q3 H hP hD hS => ?_)
  have hP : va_P (gD g) vwCl [(h0, .inr (6, [.int 0, .ref q1, .ref q2, .null, .null, .null, .int 0, .int 0, .int 0, .int 0, .int 0, .int 0, .int 0, .int 0, .int 0, .int 0, .int 0, .int 0, .int 0, .int 0])), (q1, .inl (gc g 0, 128, .inl (fun _ => 0))), (q2, .inl (gc g 0, 40, .inl (fun _ => 0))), (q3, .inr (9, [.null, .int 0]))] H := hP
  have hD : va_D A [(h0, .inr (6, [.int 0, .ref q1, .ref q2, .null, .null, .null, .int 0, .int 0, .int 0, .int 0, .int 0, .int 0, .int 0, .int 0, .int 0, .int 0, .int 0, .int 0, .int 0, .int 0])), (q1, .inl (gc g 0, 128, .inl (fun _ => 0))), (q2, .inl (gc g 0, 40, .inl (fun _ => 0))), (q3, .inr (9, [.null, .int 0]))] := hD
  refine W.widen (k := 3) (n := 170) (Nat.le_of_ble_eq_true rfl) (Nat.le_of_ble_eq_true rfl) ?_
  refine lv_dup hC.1 hC.2.1 dX5_init_25 rfl ?_
  refine lv_bipush (v := (24 : Int32)) hC.1 hC.2.1 dX5_init_26 (by decide) ?_
  refine lcallI (As := [.int (nI 24)]) (rest := [.ref q3, .ref h0]) (wr := [(h0, .inr (6, [.int 0, .ref q1, .ref q2, .null, .null, .null, .int 0, .int 0, .int 0, .int 0, .int 0, .int 0, .int 0, .int 0, .int 0, .int 0, .int 0, .int 0, .int 0, .int 0])), (q1, .inl (gc g 0, 128, .inl (fun _ => 0))), (q2, .inl (gc g 0, 40, .inl (fun _ => 0)))]) hC hE hml hP hD hS hA hAg (l_X8_init q3 24 _ (by decide)) ⟨wd_89, wd_49, wd_4, wd_50⟩ rfl hd_X8_init rfl rfl ⟨Nat.le_of_ble_eq_true rfl, Nat.le_of_ble_eq_true rfl⟩ rfl hl.1 rfl (Nat.le_of_ble_eq_true rfl) dX5_init_28 ⟨Nat.le_of_ble_eq_true rfl, Nat.le_of_ble_eq_true rfl⟩ [3] [0, 1, 2] rfl rfl (by decide) (by decide) (by decide) (fun W1 H locs hB hP hD hS => ?_)
  obtain ⟨q4, rfl⟩ := hB
  have hP : va_P (gD g) vwCl [(h0, .inr (6, [.int 0, .ref q1, .ref q2, .null, .null, .null, .int 0, .int 0, .int 0, .int 0, .int 0, .int 0, .int 0, .int 0, .int 0, .int 0, .int 0, .int 0, .int 0, .int 0])), (q1, .inl (gc g 0, 128, .inl (fun _ => 0))), (q2, .inl (gc g 0, 40, .inl (fun _ => 0))), (q3, .inr (9, [.ref q4, .int 0])), (q4, .inl (gc g 0, 24, .inl (fun _ => 0)))] H := hP
  have hD : va_D A [(h0, .inr (6, [.int 0, .ref q1, .ref q2, .null, .null, .null, .int 0, .int 0, .int 0, .int 0, .int 0, .int 0, .int 0, .int 0, .int 0, .int 0, .int 0, .int 0, .int 0, .int 0])), (q1, .inl (gc g 0, 128, .inl (fun _ => 0))), (q2, .inl (gc g 0, 40, .inl (fun _ => 0))), (q3, .inr (9, [.ref q4, .int 0])), (q4, .inl (gc g 0, 24, .inl (fun _ => 0)))] := hD
  refine W.widen (k := 4) (n := 194) (Nat.le_of_ble_eq_true rfl) (Nat.le_of_ble_eq_true rfl) ?_
  refine W.eq (g2 := F0 m 31 ls [.ref q3, .ref h0]) rfl ?_
  refine va_putF (D := gD g) (ci := 6) (v := .ref q3) (ty := .object "DrumLayers$Row") (C := RX5) (T := TX5) (N := 20) hC.1 hC.2.1 hC.2.2.2.1 uw_X5 tyX5 tyX5_ok nmX5 hC.2.2.1 hC.2.2.2.2.1 hP hD hS 0 rfl rfl 3 (by decide) (hC.2.2.2.1 _ wd_100) (fun _ h9 => h9) rfl (hnm.trans rfl) rfl (by decide +kernel) rfl rfl (Nat.le_of_ble_eq_true rfl) dX5_init_31 (fun H locs hP hD hS => ?_)
  have hP : va_P (gD g) vwCl [(h0, .inr (6, [.int 0, .ref q1, .ref q2, .ref q3, .null, .null, .int 0, .int 0, .int 0, .int 0, .int 0, .int 0, .int 0, .int 0, .int 0, .int 0, .int 0, .int 0, .int 0, .int 0])), (q1, .inl (gc g 0, 128, .inl (fun _ => 0))), (q2, .inl (gc g 0, 40, .inl (fun _ => 0))), (q3, .inr (9, [.ref q4, .int 0])), (q4, .inl (gc g 0, 24, .inl (fun _ => 0)))] H := hP
  have hD : va_D A [(h0, .inr (6, [.int 0, .ref q1, .ref q2, .ref q3, .null, .null, .int 0, .int 0, .int 0, .int 0, .int 0, .int 0, .int 0, .int 0, .int 0, .int 0, .int 0, .int 0, .int 0, .int 0])), (q1, .inl (gc g 0, 128, .inl (fun _ => 0))), (q2, .inl (gc g 0, 40, .inl (fun _ => 0))), (q3, .inr (9, [.ref q4, .int 0])), (q4, .inl (gc g 0, 24, .inl (fun _ => 0)))] := hD
  refine lv_aload_n hC.1 hC.2.1 dX5_init_34 rfl (lv_at hl 0 rfl) ?_
  refine lv_iconst (v := (3 : Int32)) hC.1 hC.2.1 dX5_init_35 (by decide) ?_
  refine nw_i (N := 3) hC hP hD hS hA wd_60 (by decide) (by decide) (by decide) (Nat.le_of_ble_eq_true rfl) (Nat.le_of_ble_eq_true rfl) dX5_init_36 (fun q5 H hP hD hS => ?_)
  have hP : va_P (gD g) vwCl [(h0, .inr (6, [.int 0, .ref q1, .ref q2, .ref q3, .null, .null, .int 0, .int 0, .int 0, .int 0, .int 0, .int 0, .int 0, .int 0, .int 0, .int 0, .int 0, .int 0, .int 0, .int 0])), (q1, .inl (gc g 0, 128, .inl (fun _ => 0))), (q2, .inl (gc g 0, 40, .inl (fun _ => 0))), (q3, .inr (9, [.ref q4, .int 0])), (q4, .inl (gc g 0, 24, .inl (fun _ => 0))), (q5, .inl (gc g 0, 3, .inl (fun _ => 0)))] H := hP
  have hD : va_D A [(h0, .inr (6, [.int 0, .ref q1, .ref q2, .ref q3, .null, .null, .int 0, .int 0, .int 0, .int 0, .int 0, .int 0, .int 0, .int 0, .int 0, .int 0, .int 0, .int 0, .int 0, .int 0])), (q1, .inl (gc g 0, 128, .inl (fun _ => 0))), (q2, .inl (gc g 0, 40, .inl (fun _ => 0))), (q3, .inr (9, [.ref q4, .int 0])), (q4, .inl (gc g 0, 24, .inl (fun _ => 0))), (q5, .inl (gc g 0, 3, .inl (fun _ => 0)))] := hD
  refine W.widen (k := 5) (n := 197) (Nat.le_of_ble_eq_true rfl) (Nat.le_of_ble_eq_true rfl) ?_
  refine va_putF (D := gD g) (ci := 6) (v := .ref q5) (ty := .array (.int)) (C := RX5) (T := TX5) (N := 20) hC.1 hC.2.1 hC.2.2.2.1 uw_X5 tyX5 tyX5_ok nmX5 hC.2.2.1 hC.2.2.2.2.1 hP hD hS 0 rfl rfl 4 (by decide) (hC.2.2.2.1 _ wd_104) (fun _ h9 => h9) rfl (hnm.trans rfl) rfl (by decide +kernel) rfl rfl (Nat.le_of_ble_eq_true rfl) dX5_init_38 (fun H locs hP hD hS => ?_)
  have hP : va_P (gD g) vwCl [(h0, .inr (6, [.int 0, .ref q1, .ref q2, .ref q3, .ref q5, .null, .int 0, .int 0, .int 0, .int 0, .int 0, .int 0, .int 0, .int 0, .int 0, .int 0, .int 0, .int 0, .int 0, .int 0])), (q1, .inl (gc g 0, 128, .inl (fun _ => 0))), (q2, .inl (gc g 0, 40, .inl (fun _ => 0))), (q3, .inr (9, [.ref q4, .int 0])), (q4, .inl (gc g 0, 24, .inl (fun _ => 0))), (q5, .inl (gc g 0, 3, .inl (fun _ => 0)))] H := hP
  have hD : va_D A [(h0, .inr (6, [.int 0, .ref q1, .ref q2, .ref q3, .ref q5, .null, .int 0, .int 0, .int 0, .int 0, .int 0, .int 0, .int 0, .int 0, .int 0, .int 0, .int 0, .int 0, .int 0, .int 0])), (q1, .inl (gc g 0, 128, .inl (fun _ => 0))), (q2, .inl (gc g 0, 40, .inl (fun _ => 0))), (q3, .inr (9, [.ref q4, .int 0])), (q4, .inl (gc g 0, 24, .inl (fun _ => 0))), (q5, .inl (gc g 0, 3, .inl (fun _ => 0)))] := hD
  refine lv_aload_n hC.1 hC.2.1 dX5_init_41 rfl (lv_at hl 0 rfl) ?_
  refine lv_iconst (v := (3 : Int32)) hC.1 hC.2.1 dX5_init_42 (by decide) ?_
  refine nw_i (N := 3) hC hP hD hS hA wd_60 (by decide) (by decide) (by decide) (Nat.le_of_ble_eq_true rfl) (Nat.le_of_ble_eq_true rfl) dX5_init_43 (fun q6 H hP hD hS => ?_)
  have hP : va_P (gD g) vwCl [(h0, .inr (6, [.int 0, .ref q1, .ref q2, .ref q3, .ref q5, .null, .int 0, .int 0, .int 0, .int 0, .int 0, .int 0, .int 0, .int 0, .int 0, .int 0, .int 0, .int 0, .int 0, .int 0])), (q1, .inl (gc g 0, 128, .inl (fun _ => 0))), (q2, .inl (gc g 0, 40, .inl (fun _ => 0))), (q3, .inr (9, [.ref q4, .int 0])), (q4, .inl (gc g 0, 24, .inl (fun _ => 0))), (q5, .inl (gc g 0, 3, .inl (fun _ => 0))), (q6, .inl (gc g 0, 3, .inl (fun _ => 0)))] H := hP
  have hD : va_D A [(h0, .inr (6, [.int 0, .ref q1, .ref q2, .ref q3, .ref q5, .null, .int 0, .int 0, .int 0, .int 0, .int 0, .int 0, .int 0, .int 0, .int 0, .int 0, .int 0, .int 0, .int 0, .int 0])), (q1, .inl (gc g 0, 128, .inl (fun _ => 0))), (q2, .inl (gc g 0, 40, .inl (fun _ => 0))), (q3, .inr (9, [.ref q4, .int 0])), (q4, .inl (gc g 0, 24, .inl (fun _ => 0))), (q5, .inl (gc g 0, 3, .inl (fun _ => 0))), (q6, .inl (gc g 0, 3, .inl (fun _ => 0)))] := hD
  refine W.widen (k := 6) (n := 200) (Nat.le_of_ble_eq_true rfl) (Nat.le_of_ble_eq_true rfl) ?_
  refine va_putF (D := gD g) (ci := 6) (v := .ref q6) (ty := .array (.int)) (C := RX5) (T := TX5) (N := 20) hC.1 hC.2.1 hC.2.2.2.1 uw_X5 tyX5 tyX5_ok nmX5 hC.2.2.1 hC.2.2.2.2.1 hP hD hS 0 rfl rfl 5 (by decide) (hC.2.2.2.1 _ wd_106) (fun _ h9 => h9) rfl (hnm.trans rfl) rfl (by decide +kernel) rfl rfl (Nat.le_of_ble_eq_true rfl) dX5_init_45 (fun H locs hP hD hS => ?_)
  have hP : va_P (gD g) vwCl [(h0, .inr (6, [.int 0, .ref q1, .ref q2, .ref q3, .ref q5, .ref q6, .int 0, .int 0, .int 0, .int 0, .int 0, .int 0, .int 0, .int 0, .int 0, .int 0, .int 0, .int 0, .int 0, .int 0])), (q1, .inl (gc g 0, 128, .inl (fun _ => 0))), (q2, .inl (gc g 0, 40, .inl (fun _ => 0))), (q3, .inr (9, [.ref q4, .int 0])), (q4, .inl (gc g 0, 24, .inl (fun _ => 0))), (q5, .inl (gc g 0, 3, .inl (fun _ => 0))), (q6, .inl (gc g 0, 3, .inl (fun _ => 0)))] H := hP
  have hD : va_D A [(h0, .inr (6, [.int 0, .ref q1, .ref q2, .ref q3, .ref q5, .ref q6, .int 0, .int 0, .int 0, .int 0, .int 0, .int 0, .int 0, .int 0, .int 0, .int 0, .int 0, .int 0, .int 0, .int 0])), (q1, .inl (gc g 0, 128, .inl (fun _ => 0))), (q2, .inl (gc g 0, 40, .inl (fun _ => 0))), (q3, .inr (9, [.ref q4, .int 0])), (q4, .inl (gc g 0, 24, .inl (fun _ => 0))), (q5, .inl (gc g 0, 3, .inl (fun _ => 0))), (q6, .inl (gc g 0, 3, .inl (fun _ => 0)))] := hD
  refine lv_aload_n hC.1 hC.2.1 dX5_init_48 rfl (lv_at hl 0 rfl) ?_
  refine lv_iconst (v := (0 : Int32)) hC.1 hC.2.1 dX5_init_49 (by decide) ?_
  refine va_put (D := gD g) (ci := 6) (v := .int (0 : Int32)) (ty := .int) (C := RX5) (T := TX5) (N := 20) hC.1 hC.2.1 hC.2.2.2.1 uw_X5 tyX5 tyX5_ok nmX5 hC.2.2.1 hC.2.2.2.2.1 hP hD hS 0 rfl rfl 7 (by decide) (hC.2.2.2.1 _ wd_111) (fun _ h9 => h9) rfl (by decide +kernel) rfl rfl (Nat.le_of_ble_eq_true rfl) dX5_init_50 (fun H locs hP hD hS => ?_)
  have hP : va_P (gD g) vwCl [(h0, .inr (6, [.int 0, .ref q1, .ref q2, .ref q3, .ref q5, .ref q6, .int 0, .int (0 : Int32), .int 0, .int 0, .int 0, .int 0, .int 0, .int 0, .int 0, .int 0, .int 0, .int 0, .int 0, .int 0])), (q1, .inl (gc g 0, 128, .inl (fun _ => 0))), (q2, .inl (gc g 0, 40, .inl (fun _ => 0))), (q3, .inr (9, [.ref q4, .int 0])), (q4, .inl (gc g 0, 24, .inl (fun _ => 0))), (q5, .inl (gc g 0, 3, .inl (fun _ => 0))), (q6, .inl (gc g 0, 3, .inl (fun _ => 0)))] H := hP
  have hD : va_D A [(h0, .inr (6, [.int 0, .ref q1, .ref q2, .ref q3, .ref q5, .ref q6, .int 0, .int (0 : Int32), .int 0, .int 0, .int 0, .int 0, .int 0, .int 0, .int 0, .int 0, .int 0, .int 0, .int 0, .int 0])), (q1, .inl (gc g 0, 128, .inl (fun _ => 0))), (q2, .inl (gc g 0, 40, .inl (fun _ => 0))), (q3, .inr (9, [.ref q4, .int 0])), (q4, .inl (gc g 0, 24, .inl (fun _ => 0))), (q5, .inl (gc g 0, 3, .inl (fun _ => 0))), (q6, .inl (gc g 0, 3, .inl (fun _ => 0)))] := hD
  refine lv_aload_n hC.1 hC.2.1 dX5_init_53 rfl (lv_at hl 0 rfl) ?_
  refine lv_iload_n hC.1 hC.2.1 dX5_init_54 rfl (lv_at hl 1 rfl) ?_
  refine va_putF (D := gD g) (ci := 6) (v := .int x1) (ty := .int) (C := RX5) (T := TX5) (N := 20) hC.1 hC.2.1 hC.2.2.2.1 uw_X5 tyX5 tyX5_ok nmX5 hC.2.2.1 hC.2.2.2.2.1 hP hD hS 0 rfl rfl 0 (by decide) (hC.2.2.2.1 _ wd_90) (fun _ h9 => h9) rfl (hnm.trans rfl) rfl (by decide +kernel) rfl rfl (Nat.le_of_ble_eq_true rfl) dX5_init_55 (fun H locs hP hD hS => ?_)
  have hP : va_P (gD g) vwCl [(h0, .inr (6, [.int x1, .ref q1, .ref q2, .ref q3, .ref q5, .ref q6, .int 0, .int (0 : Int32), .int 0, .int 0, .int 0, .int 0, .int 0, .int 0, .int 0, .int 0, .int 0, .int 0, .int 0, .int 0])), (q1, .inl (gc g 0, 128, .inl (fun _ => 0))), (q2, .inl (gc g 0, 40, .inl (fun _ => 0))), (q3, .inr (9, [.ref q4, .int 0])), (q4, .inl (gc g 0, 24, .inl (fun _ => 0))), (q5, .inl (gc g 0, 3, .inl (fun _ => 0))), (q6, .inl (gc g 0, 3, .inl (fun _ => 0)))] H := hP
  have hD : va_D A [(h0, .inr (6, [.int x1, .ref q1, .ref q2, .ref q3, .ref q5, .ref q6, .int 0, .int (0 : Int32), .int 0, .int 0, .int 0, .int 0, .int 0, .int 0, .int 0, .int 0, .int 0, .int 0, .int 0, .int 0])), (q1, .inl (gc g 0, 128, .inl (fun _ => 0))), (q2, .inl (gc g 0, 40, .inl (fun _ => 0))), (q3, .inr (9, [.ref q4, .int 0])), (q4, .inl (gc g 0, 24, .inl (fun _ => 0))), (q5, .inl (gc g 0, 3, .inl (fun _ => 0))), (q6, .inl (gc g 0, 3, .inl (fun _ => 0)))] := hD
  subst hAd
  exact lret_v hC hr hlk hP hD hS ⟨q1, q2, q3, q4, q5, q6, rfl⟩ (Nat.le_of_ble_eq_true rfl) (Nat.le_of_ble_eq_true rfl) dX5_init_58
set_option maxHeartbeats 4000000 in
set_option maxRecDepth 100000 in
theorem l_Jxa1e45_init_da8c8 {l : Launch} {g : GP} (h0 : Nat) (sz : Nat)  : Met l yJxa1e45_init_da8c8 (Cond.code yJxa1e45_init_da8c8 cJxa1e45_init_da8c8 1 none :: lwG) ({ frames := 1, cells := 0, slots := 0, locals := 12 } : Room) (va_Pc [.ref h0] (PL g [(h0, .inr (0, [.int 0, .null, .int 0]))] sz)) (QL none (fun W1 => W1 = [(h0, .inr (0, [.int 0, .null, .int 0]))]) g [(h0, .inr (0, [.int 0, .null, .int 0]))] sz) 0 0 (va_A [(h0, .inr (0, [.int 0, .null, .int 0]))] sz) := by
  refine Met.ofW (cc := cJxa1e45_init_da8c8) (maxL := 1) (ret := none) (by decide +kernel) rfl ?_
  intro p e s m args below meth c s₁ Bd hml hv
  obtain ⟨ha, hsz, hC, hE, hr, hlk, hP, hD0, hnm⟩ := l_start Bd hv
  subst ha
  subst hsz
  have hC : CX p s m ([.ref h0] : List Value).toArray c cJxa1e45_init_da8c8 RJxa1e45 g := hC
  obtain ⟨A, hAd⟩ : ∃ A, A = va_A [(h0, .inr (0, [.int 0, .null, .int 0]))] s.heap.size := ⟨_, rfl⟩
  have hAg : ∀ q, A q → gP g q := by rw [hAd]; exact A_gP hD0 hC.2.2.2.2.2.1
  have hA : ∀ q, s.heap.size ≤ q → A q := by rw [hAd]; exact fun q h => Or.inr h
  have hD : va_D A [(h0, .inr (0, [.int 0, .null, .int 0]))] := by rw [hAd]; exact hD0.self (sz := s.heap.size)
  have hS : va_S A s.heap s.heap [] := va_S.rf
  obtain ⟨ls, he, hl⟩ := g_entry m (vs := [.ref h0]) (n := 1) (List.forall_mem_cons.mpr ⟨rfl, (fun _ h => absurd h List.not_mem_nil)⟩) (Nat.le_of_ble_eq_true rfl)
  rw [he]
  have hl : lv_has ls 1 [(0, .ref h0)] := hl
  refine lv_aload_n hC.1 hC.2.1 dJxa1e45_init_da8c8_0 rfl (lv_at hl 0 rfl) ?_
  refine W.objInit hC.1 hC.2.1 hC.2.2.1 (hC.2.2.2.1 _ wd_261) (hC.2.2.2.1 _ wd_29) (hC.2.2.2.1 _ wd_30) rfl (by rw [hml]; exact hl.1) rfl dJxa1e45_init_da8c8_1 (Nat.le_of_ble_eq_true rfl) (Nat.le_of_ble_eq_true rfl) ?_
  refine W.eq (g2 := F0 m 4 ls []) rfl ?_
  subst hAd
  exact lret_v hC hr hlk hP hD hS rfl (Nat.le_of_ble_eq_true rfl) (Nat.le_of_ble_eq_true rfl) dJxa1e45_init_da8c8_4
set_option maxHeartbeats 4000000 in
set_option maxRecDepth 100000 in
theorem l_Jxc12de_init_da8c8 {l : Launch} {g : GP} (h0 : Nat) (sz : Nat)  : Met l yJxc12de_init_da8c8 (Cond.code yJxc12de_init_da8c8 cJxc12de_init_da8c8 1 none :: lwG) ({ frames := 2, cells := 0, slots := 0, locals := 32 } : Room) (va_Pc [.ref h0] (PL g [(h0, .inr (0, [.int 0, .null, .int 0]))] sz)) (QL none (fun W1 => W1 = [(h0, .inr (0, [.int (0 : Int32), .null, .int 0]))]) g [(h0, .inr (0, [.int 0, .null, .int 0]))] sz) 0 0 (va_A [(h0, .inr (0, [.int 0, .null, .int 0]))] sz) := by
  refine Met.ofW (cc := cJxc12de_init_da8c8) (maxL := 1) (ret := none) (by decide +kernel) rfl ?_
  intro p e s m args below meth c s₁ Bd hml hv
  obtain ⟨ha, hsz, hC, hE, hr, hlk, hP, hD0, hnm⟩ := l_start Bd hv
  subst ha
  subst hsz
  have hC : CX p s m ([.ref h0] : List Value).toArray c cJxc12de_init_da8c8 RJxc12de g := hC
  obtain ⟨A, hAd⟩ : ∃ A, A = va_A [(h0, .inr (0, [.int 0, .null, .int 0]))] s.heap.size := ⟨_, rfl⟩
  have hAg : ∀ q, A q → gP g q := by rw [hAd]; exact A_gP hD0 hC.2.2.2.2.2.1
  have hA : ∀ q, s.heap.size ≤ q → A q := by rw [hAd]; exact fun q h => Or.inr h
  have hD : va_D A [(h0, .inr (0, [.int 0, .null, .int 0]))] := by rw [hAd]; exact hD0.self (sz := s.heap.size)
  have hS : va_S A s.heap s.heap [] := va_S.rf
  obtain ⟨ls, he, hl⟩ := g_entry m (vs := [.ref h0]) (n := 1) (List.forall_mem_cons.mpr ⟨rfl, (fun _ h => absurd h List.not_mem_nil)⟩) (Nat.le_of_ble_eq_true rfl)
  rw [he]
  have hl : lv_has ls 1 [(0, .ref h0)] := hl
  refine lv_aload_n hC.1 hC.2.1 dJxc12de_init_da8c8_0 rfl (lv_at hl 0 rfl) ?_
  refine lcallI (As := []) (rest := []) (wr := []) hC hE hml hP hD hS hA hAg (l_Jxa1e45_init_da8c8 h0 _ ) ⟨wd_258, wd_259, wd_9, wd_260⟩ rfl hd_Jxa1e45_init_da8c8 rfl rfl ⟨Nat.le_of_ble_eq_true rfl, Nat.le_of_ble_eq_true rfl⟩ rfl hl.1 rfl (Nat.le_of_ble_eq_true rfl) dJxc12de_init_da8c8_1 ⟨Nat.le_of_ble_eq_true rfl, Nat.le_of_ble_eq_true rfl⟩ [0] [] rfl rfl (by decide) (by decide) (by decide) (fun W1 H locs hB hP hD hS => ?_)
  subst hB
  have hP : va_P (gD g) vwCl [(h0, .inr (0, [.int 0, .null, .int 0]))] H := hP
  have hD : va_D A [(h0, .inr (0, [.int 0, .null, .int 0]))] := hD
  refine W.eq (g2 := F0 m 4 ls []) rfl ?_
  refine lv_aload_n hC.1 hC.2.1 dJxc12de_init_da8c8_4 rfl (lv_at hl 0 rfl) ?_
  refine lv_iconst (v := (0 : Int32)) hC.1 hC.2.1 dJxc12de_init_da8c8_5 (by decide) ?_
  refine va_put (D := gD g) (ci := 0) (v := .int (0 : Int32)) (ty := .int) (C := RJx4a65c) (T := TJx4a65c) (N := 3) hC.1 hC.2.1 hC.2.2.2.1 uw_Jx4a65c tyJx4a65c tyJx4a65c_ok nmJx4a65c hC.2.2.1 hC.2.2.2.2.1 hP hD hS 0 rfl rfl 0 (by decide) (hC.2.2.2.1 _ wd_266) (fun _ h9 => h9) rfl (by decide +kernel) rfl rfl (Nat.le_of_ble_eq_true rfl) dJxc12de_init_da8c8_6 (fun H locs hP hD hS => ?_)
  have hP : va_P (gD g) vwCl [(h0, .inr (0, [.int (0 : Int32), .null, .int 0]))] H := hP
  have hD : va_D A [(h0, .inr (0, [.int (0 : Int32), .null, .int 0]))] := hD
  subst hAd
  exact lret_v hC hr hlk hP hD hS rfl (Nat.le_of_ble_eq_true rfl) (Nat.le_of_ble_eq_true rfl) dJxc12de_init_da8c8_9
set_option maxHeartbeats 4000000 in
set_option maxRecDepth 100000 in
theorem l_Jx4a65c_init_da8c8 {l : Launch} {g : GP} (h0 : Nat) (sz : Nat)  : Met l yJx4a65c_init_da8c8 (Cond.code yJx4a65c_init_da8c8 cJx4a65c_init_da8c8 1 none :: lwG) ({ frames := 3, cells := 0, slots := 0, locals := 52 } : Room) (va_Pc [.ref h0] (PL g [(h0, .inr (0, [.int 0, .null, .int 0]))] sz)) (QL none (fun W1 => W1 = [(h0, .inr (0, [.int (0 : Int32), .ref (ge g), .int 0]))]) g [(h0, .inr (0, [.int 0, .null, .int 0]))] sz) 0 0 (va_A [(h0, .inr (0, [.int 0, .null, .int 0]))] sz) := by
  refine Met.ofW (cc := cJx4a65c_init_da8c8) (maxL := 1) (ret := none) (by decide +kernel) rfl ?_
  intro p e s m args below meth c s₁ Bd hml hv
  obtain ⟨ha, hsz, hC, hE, hr, hlk, hP, hD0, hnm⟩ := l_start Bd hv
  subst ha
  subst hsz
  have hC : CX p s m ([.ref h0] : List Value).toArray c cJx4a65c_init_da8c8 RJx4a65c g := hC
  obtain ⟨A, hAd⟩ : ∃ A, A = va_A [(h0, .inr (0, [.int 0, .null, .int 0]))] s.heap.size := ⟨_, rfl⟩
  have hAg : ∀ q, A q → gP g q := by rw [hAd]; exact A_gP hD0 hC.2.2.2.2.2.1
  have hA : ∀ q, s.heap.size ≤ q → A q := by rw [hAd]; exact fun q h => Or.inr h
  have hD : va_D A [(h0, .inr (0, [.int 0, .null, .int 0]))] := by rw [hAd]; exact hD0.self (sz := s.heap.size)
  have hS : va_S A s.heap s.heap [] := va_S.rf
  obtain ⟨ls, he, hl⟩ := g_entry m (vs := [.ref h0]) (n := 1) (List.forall_mem_cons.mpr ⟨rfl, (fun _ h => absurd h List.not_mem_nil)⟩) (Nat.le_of_ble_eq_true rfl)
  rw [he]
  have hl : lv_has ls 1 [(0, .ref h0)] := hl
  refine lv_aload_n hC.1 hC.2.1 dJx4a65c_init_da8c8_0 rfl (lv_at hl 0 rfl) ?_
  refine lcallI (As := []) (rest := []) (wr := []) hC hE hml hP hD hS hA hAg (l_Jxc12de_init_da8c8 h0 _ ) ⟨wd_255, wd_256, wd_10, wd_257⟩ rfl hd_Jxc12de_init_da8c8 rfl rfl ⟨Nat.le_of_ble_eq_true rfl, Nat.le_of_ble_eq_true rfl⟩ rfl hl.1 rfl (Nat.le_of_ble_eq_true rfl) dJx4a65c_init_da8c8_1 ⟨Nat.le_of_ble_eq_true rfl, Nat.le_of_ble_eq_true rfl⟩ [0] [] rfl rfl (by decide) (by decide) (by decide) (fun W1 H locs hB hP hD hS => ?_)
  subst hB
  have hP : va_P (gD g) vwCl [(h0, .inr (0, [.int (0 : Int32), .null, .int 0]))] H := hP
  have hD : va_D A [(h0, .inr (0, [.int (0 : Int32), .null, .int 0]))] := hD
  refine W.eq (g2 := F0 m 4 ls []) rfl ?_
  refine lv_aload_n hC.1 hC.2.1 dJx4a65c_init_da8c8_4 rfl (lv_at hl 0 rfl) ?_
  refine va_gets (ref := "java/util/ArrayList") hC.1 hC.2.1 hE.1 (hS.mono hAg) hC.2.2.1 (hC.2.2.2.1 _ wd_262) (fun _ h => h) dJx4a65c_init_da8c8_5 ?_
  refine va_put (D := gD g) (ci := 0) (v := .ref (ge g)) (ty := .array (.object "java/lang/Object")) (C := RJx4a65c) (T := TJx4a65c) (N := 3) hC.1 hC.2.1 hC.2.2.2.1 uw_Jx4a65c tyJx4a65c tyJx4a65c_ok nmJx4a65c hC.2.2.1 hC.2.2.2.2.1 hP hD hS 0 rfl rfl 1 (by decide) (hC.2.2.2.1 _ wd_264) (fun _ h9 => h9) rfl (by decide +kernel) rfl rfl (Nat.le_of_ble_eq_true rfl) dJx4a65c_init_da8c8_8 (fun H locs hP hD hS => ?_)
  have hP : va_P (gD g) vwCl [(h0, .inr (0, [.int (0 : Int32), .ref (ge g), .int 0]))] H := hP
  have hD : va_D A [(h0, .inr (0, [.int (0 : Int32), .ref (ge g), .int 0]))] := hD
  subst hAd
  exact lret_v hC hr hlk hP hD hS rfl (Nat.le_of_ble_eq_true rfl) (Nat.le_of_ble_eq_true rfl) dJx4a65c_init_da8c8_11
set_option maxHeartbeats 4000000 in
set_option maxRecDepth 100000 in
theorem l_X10_init {l : Launch} {g : GP} (h0 : Nat) (pr : Nat) (co : Nat) (rd : Nat) (ca : Nat) (qn : Int32) (rv : Nat) (f1 : Nat → Int32) (f2 : Nat → Int32) (sz : Nat)  : Met l yX10_init (Cond.code yX10_init cX10_init 3 none :: lwG) ({ frames := 4, cells := 3, slots := 13, locals := 85 } : Room) (va_Pc [.ref h0, .ref pr, .ref co] (PL g [(h0, .inr (11, [.null, .null, .null, .null, .null, .int 0, .int 0, .null, .null, .null, .int 0, .int 0, .int 0])), (pr, .inr (8, [.ref rd, .ref ca, .int qn, .int 0, .int 0])), (rd, .inr (9, [.ref rv, .int 0])), (rv, .inl (gc g 0, 10, .inl f1)), (ca, .inl (gc g 0, 10, .inl f2))] sz)) (QL none (fun W1 => ∃ q1 q2 q3 : Nat, W1 = [(h0, .inr (11, [.ref pr, .ref co, .ref q1, .ref q2, .ref q3, .int (0 : Int32), .int (0 : Int32), .null, .null, .null, .int 0, .int 0, .int 0])), (q1, .inr (0, [.int (0 : Int32), .ref (ge g), .int 0])), (q3, .inr (10, [.ref pr, .int (6 : Int32), .int (8 : Int32), .int 0, .int 0])), (q2, .inr (10, [.ref pr, .int (6 : Int32), .int (7 : Int32), .int (1 : Int32), .int 0])), (pr, .inr (8, [.ref rd, .ref ca, .int qn, .int 0, .int (0 : Int32)])), (ca, .inl (gc g 0, 10, .inl (upd f2 ((6 : Int32).toNatClampNeg) (7 : Int32)))), (rd, .inr (9, [.ref rv, .int 0])), (rv, .inl (gc g 0, 10, .inl f1))]) g [(h0, .inr (11, [.null, .null, .null, .null, .null, .int 0, .int 0, .null, .null, .null, .int 0, .int 0, .int 0])), (pr, .inr (8, [.ref rd, .ref ca, .int qn, .int 0, .int 0])), (rd, .inr (9, [.ref rv, .int 0])), (rv, .inl (gc g 0, 10, .inl f1)), (ca, .inl (gc g 0, 10, .inl f2))] sz) 3 13 (va_A [(h0, .inr (11, [.null, .null, .null, .null, .null, .int 0, .int 0, .null, .null, .null, .int 0, .int 0, .int 0])), (pr, .inr (8, [.ref rd, .ref ca, .int qn, .int 0, .int 0])), (rd, .inr (9, [.ref rv, .int 0])), (rv, .inl (gc g 0, 10, .inl f1)), (ca, .inl (gc g 0, 10, .inl f2))] sz) := by
  refine Met.ofW (cc := cX10_init) (maxL := 3) (ret := none) (by decide +kernel) rfl ?_
  intro p e s m args below meth c s₁ Bd hml hv
  obtain ⟨ha, hsz, hC, hE, hr, hlk, hP, hD0, hnm⟩ := l_start Bd hv
  subst ha
  subst hsz
  have hC : CX p s m ([.ref h0, .ref pr, .ref co] : List Value).toArray c cX10_init RX10 g := hC
  obtain ⟨A, hAd⟩ : ∃ A, A = va_A [(h0, .inr (11, [.null, .null, .null, .null, .null, .int 0, .int 0, .null, .null, .null, .int 0, .int 0, .int 0])), (pr, .inr (8, [.ref rd, .ref ca, .int qn, .int 0, .int 0])), (rd, .inr (9, [.ref rv, .int 0])), (rv, .inl (gc g 0, 10, .inl f1)), (ca, .inl (gc g 0, 10, .inl f2))] s.heap.size := ⟨_, rfl⟩
  have hAg : ∀ q, A q → gP g q := by rw [hAd]; exact A_gP hD0 hC.2.2.2.2.2.1
  have hA : ∀ q, s.heap.size ≤ q → A q := by rw [hAd]; exact fun q h => Or.inr h
  have hD : va_D A [(h0, .inr (11, [.null, .null, .null, .null, .null, .int 0, .int 0, .null, .null, .null, .int 0, .int 0, .int 0])), (pr, .inr (8, [.ref rd, .ref ca, .int qn, .int 0, .int 0])), (rd, .inr (9, [.ref rv, .int 0])), (rv, .inl (gc g 0, 10, .inl f1)), (ca, .inl (gc g 0, 10, .inl f2))] := by rw [hAd]; exact hD0.self (sz := s.heap.size)
  have hS : va_S A s.heap s.heap [] := va_S.rf
  obtain ⟨ls, he, hl⟩ := g_entry m (vs := [.ref h0, .ref pr, .ref co]) (n := 3) (List.forall_mem_cons.mpr ⟨rfl, (List.forall_mem_cons.mpr ⟨rfl, (List.forall_mem_cons.mpr ⟨rfl, (fun _ h => absurd h List.not_mem_nil)⟩)⟩)⟩) (Nat.le_of_ble_eq_true rfl)
  rw [he]
  have hl : lv_has ls 3 [(0, .ref h0), (1, .ref pr), (2, .ref co)] := hl
  refine lv_aload_n hC.1 hC.2.1 dX10_init_0 rfl (lv_at hl 0 rfl) ?_
  refine W.objInit hC.1 hC.2.1 hC.2.2.1 (hC.2.2.2.1 _ wd_249) (hC.2.2.2.1 _ wd_29) (hC.2.2.2.1 _ wd_30) rfl (by rw [hml]; exact hl.1) rfl dX10_init_1 (Nat.le_of_ble_eq_true rfl) (Nat.le_of_ble_eq_true rfl) ?_
  refine W.eq (g2 := F0 m 4 ls []) rfl ?_
  refine lv_aload_n hC.1 hC.2.1 dX10_init_4 rfl (lv_at hl 0 rfl) ?_
  refine va_new (ci := 0) (fs := [.int 0, .null, .int 0]) (C := RJx4a65c) (T := TJx4a65c) (N := 3) hC.1 hC.2.1 hC.2.2.2.1 uw_Jx4a65c tyJx4a65c tyJx4a65c_ok hC.2.2.1 (hC.2.2.2.1 _ wd_250) (hC.2.2.2.1 _ wd_251) (hC.2.2.2.1 _ wd_11) hC.2.2.2.2.1 hP hD hS hA rfl df_Jx4a65c (Nat.le_of_ble_eq_true rfl) (Nat.le_of_ble_eq_true rfl) dX10_init_5 (fun q1 H hP hD hS => ?_)
  have hP : va_P (gD g) vwCl [(h0, .inr (11, [.null, .null, .null, .null, .null, .int 0, .int 0, .null, .null, .null, .int 0, .int 0, .int 0])), (pr, .inr (8, [.ref rd, .ref ca, .int qn, .int 0, .int 0])), (rd, .inr (9, [.ref rv, .int 0])), (rv, .inl (gc g 0, 10, .inl f1)), (ca, .inl (gc g 0, 10, .inl f2)), (q1, .inr (0, [.int 0, .null, .int 0]))] H := hP
  have hD : va_D A [(h0, .inr (11, [.null, .null, .null, .null, .null, .int 0, .int 0, .null, .null, .null, .int 0, .int 0, .int 0])), (pr, .inr (8, [.ref rd, .ref ca, .int qn, .int 0, .int 0])), (rd, .inr (9, [.ref rv, .int 0])), (rv, .inl (gc g 0, 10, .inl f1)), (ca, .inl (gc g 0, 10, .inl f2)), (q1, .inr (0, [.int 0, .null, .int 0]))] := hD
  refine W.widen (k := 1) (n := 3) (Nat.le_of_ble_eq_true rfl) (Nat.le_of_ble_eq_true rfl) ?_
  refine lv_dup hC.1 hC.2.1 dX10_init_8 rfl ?_
  refine lcallI (As := []) (rest := [.ref q1, .ref h0]) (wr := [(h0, .inr (11, [.null, .null, .null, .null, .null, .int 0, .int 0, .null, .null, .null, .int 0, .int 0, .int 0])), (pr, .inr (8, [.ref rd, .ref ca, .int qn, .int 0, .int 0])), (rd, .inr (9, [.ref rv, .int 0])), (rv, .inl (gc g 0, 10, .inl f1)), (ca, .inl (gc g 0, 10, .inl f2))]) hC hE hml hP hD hS hA hAg (l_Jx4a65c_init_da8c8 q1 _ ) ⟨wd_252, wd_253, wd_11, wd_254⟩ rfl hd_Jx4a65c_init_da8c8 rfl rfl ⟨Nat.le_of_ble_eq_true rfl, Nat.le_of_ble_eq_true rfl⟩ rfl hl.1 rfl (Nat.le_of_ble_eq_true rfl) dX10_init_9 ⟨Nat.le_of_ble_eq_true rfl, Nat.le_of_ble_eq_true rfl⟩ [5] [0, 1, 2, 3, 4] rfl rfl (by decide) (by decide) (by decide) (fun W1 H locs hB hP hD hS => ?_)
  subst hB
  have hP : va_P (gD g) vwCl [(h0, .inr (11, [.null, .null, .null, .null, .null, .int 0, .int 0, .null, .null, .null, .int 0, .int 0, .int 0])), (pr, .inr (8, [.ref rd, .ref ca, .int qn, .int 0, .int 0])), (rd, .inr (9, [.ref rv, .int 0])), (rv, .inl (gc g 0, 10, .inl f1)), (ca, .inl (gc g 0, 10, .inl f2)), (q1, .inr (0, [.int (0 : Int32), .ref (ge g), .int 0]))] H := hP
  have hD : va_D A [(h0, .inr (11, [.null, .null, .null, .null, .null, .int 0, .int 0, .null, .null, .null, .int 0, .int 0, .int 0])), (pr, .inr (8, [.ref rd, .ref ca, .int qn, .int 0, .int 0])), (rd, .inr (9, [.ref rv, .int 0])), (rv, .inl (gc g 0, 10, .inl f1)), (ca, .inl (gc g 0, 10, .inl f2)), (q1, .inr (0, [.int (0 : Int32), .ref (ge g), .int 0]))] := hD
  refine W.eq (g2 := F0 m 12 ls [.ref q1, .ref h0]) rfl ?_
  refine va_putF (D := gD g) (ci := 11) (v := .ref q1) (ty := .object "java/util/ArrayList") (C := RX10) (T := TX10) (N := 13) hC.1 hC.2.1 hC.2.2.2.1 uw_X10 tyX10 tyX10_ok nmX10 hC.2.2.1 hC.2.2.2.2.1 hP hD hS 0 rfl rfl 2 (by decide) (hC.2.2.2.1 _ wd_320) (fun _ h9 => h9) rfl (hnm.trans rfl) rfl (by decide +kernel) rfl rfl (Nat.le_of_ble_eq_true rfl) dX10_init_12 (fun H locs hP hD hS => ?_)
  have hP : va_P (gD g) vwCl [(h0, .inr (11, [.null, .null, .ref q1, .null, .null, .int 0, .int 0, .null, .null, .null, .int 0, .int 0, .int 0])), (pr, .inr (8, [.ref rd, .ref ca, .int qn, .int 0, .int 0])), (rd, .inr (9, [.ref rv, .int 0])), (rv, .inl (gc g 0, 10, .inl f1)), (ca, .inl (gc g 0, 10, .inl f2)), (q1, .inr (0, [.int (0 : Int32), .ref (ge g), .int 0]))] H := hP
  have hD : va_D A [(h0, .inr (11, [.null, .null, .ref q1, .null, .null, .int 0, .int 0, .null, .null, .null, .int 0, .int 0, .int 0])), (pr, .inr (8, [.ref rd, .ref ca, .int qn, .int 0, .int 0])), (rd, .inr (9, [.ref rv, .int 0])), (rv, .inl (gc g 0, 10, .inl f1)), (ca, .inl (gc g 0, 10, .inl f2)), (q1, .inr (0, [.int (0 : Int32), .ref (ge g), .int 0]))] := hD
  refine lv_aload_n hC.1 hC.2.1 dX10_init_15 rfl (lv_at hl 0 rfl) ?_
  refine lv_iconst (v := (0 : Int32)) hC.1 hC.2.1 dX10_init_16 (by decide) ?_
  refine va_put (D := gD g) (ci := 11) (v := .int (0 : Int32)) (ty := .int) (C := RX10) (T := TX10) (N := 13) hC.1 hC.2.1 hC.2.2.2.1 uw_X10 tyX10 tyX10_ok nmX10 hC.2.2.1 hC.2.2.2.2.1 hP hD hS 0 rfl rfl 5 (by decide) (hC.2.2.2.1 _ wd_323) (fun _ h9 => h9) rfl (by decide +kernel) rfl rfl (Nat.le_of_ble_eq_true rfl) dX10_init_17 (fun H locs hP hD hS => ?_)
  have hP : va_P (gD g) vwCl [(h0, .inr (11, [.null, .null, .ref q1, .null, .null, .int (0 : Int32), .int 0, .null, .null, .null, .int 0, .int 0, .int 0])), (pr, .inr (8, [.ref rd, .ref ca, .int qn, .int 0, .int 0])), (rd, .inr (9, [.ref rv, .int 0])), (rv, .inl (gc g 0, 10, .inl f1)), (ca, .inl (gc g 0, 10, .inl f2)), (q1, .inr (0, [.int (0 : Int32), .ref (ge g), .int 0]))] H := hP
  have hD : va_D A [(h0, .inr (11, [.null, .null, .ref q1, .null, .null, .int (0 : Int32), .int 0, .null, .null, .null, .int 0, .int 0, .int 0])), (pr, .inr (8, [.ref rd, .ref ca, .int qn, .int 0, .int 0])), (rd, .inr (9, [.ref rv, .int 0])), (rv, .inl (gc g 0, 10, .inl f1)), (ca, .inl (gc g 0, 10, .inl f2)), (q1, .inr (0, [.int (0 : Int32), .ref (ge g), .int 0]))] := hD
  refine lv_aload_n hC.1 hC.2.1 dX10_init_20 rfl (lv_at hl 0 rfl) ?_
  refine lv_iconst (v := (0 : Int32)) hC.1 hC.2.1 dX10_init_21 (by decide) ?_
  refine va_put (D := gD g) (ci := 11) (v := .int (0 : Int32)) (ty := .int) (C := RX10) (T := TX10) (N := 13) hC.1 hC.2.1 hC.2.2.2.1 uw_X10 tyX10 tyX10_ok nmX10 hC.2.2.1 hC.2.2.2.2.1 hP hD hS 0 rfl rfl 6 (by decide) (hC.2.2.2.1 _ wd_325) (fun _ h9 => h9) rfl (by decide +kernel) rfl rfl (Nat.le_of_ble_eq_true rfl) dX10_init_22 (fun H locs hP hD hS => ?_)
  have hP : va_P (gD g) vwCl [(h0, .inr (11, [.null, .null, .ref q1, .null, .null, .int (0 : Int32), .int (0 : Int32), .null, .null, .null, .int 0, .int 0, .int 0])), (pr, .inr (8, [.ref rd, .ref ca, .int qn, .int 0, .int 0])), (rd, .inr (9, [.ref rv, .int 0])), (rv, .inl (gc g 0, 10, .inl f1)), (ca, .inl (gc g 0, 10, .inl f2)), (q1, .inr (0, [.int (0 : Int32), .ref (ge g), .int 0]))] H := hP
  have hD : va_D A [(h0, .inr (11, [.null, .null, .ref q1, .null, .null, .int (0 : Int32), .int (0 : Int32), .null, .null, .null, .int 0, .int 0, .int 0])), (pr, .inr (8, [.ref rd, .ref ca, .int qn, .int 0, .int 0])), (rd, .inr (9, [.ref rv, .int 0])), (rv, .inl (gc g 0, 10, .inl f1)), (ca, .inl (gc g 0, 10, .inl f2)), (q1, .inr (0, [.int (0 : Int32), .ref (ge g), .int 0]))] := hD
  refine lv_aload_n hC.1 hC.2.1 dX10_init_25 rfl (lv_at hl 0 rfl) ?_
  refine lv_aload_n hC.1 hC.2.1 dX10_init_26 rfl (lv_at hl 1 rfl) ?_
  refine va_putF (D := gD g) (ci := 11) (v := .ref pr) (ty := .object "DrumLayers$Processor") (C := RX10) (T := TX10) (N := 13) hC.1 hC.2.1 hC.2.2.2.1 uw_X10 tyX10 tyX10_ok nmX10 hC.2.2.1 hC.2.2.2.2.1 hP hD hS 0 rfl rfl 0 (by decide) (hC.2.2.2.1 _ wd_318) (fun _ h9 => h9) rfl (hnm.trans rfl) rfl (by decide +kernel) rfl rfl (Nat.le_of_ble_eq_true rfl) dX10_init_27 (fun H locs hP hD hS => ?_)
  have hP : va_P (gD g) vwCl [(h0, .inr (11, [.ref pr, .null, .ref q1, .null, .null, .int (0 : Int32), .int (0 : Int32), .null, .null, .null, .int 0, .int 0, .int 0])), (pr, .inr (8, [.ref rd, .ref ca, .int qn, .int 0, .int 0])), (rd, .inr (9, [.ref rv, .int 0])), (rv, .inl (gc g 0, 10, .inl f1)), (ca, .inl (gc g 0, 10, .inl f2)), (q1, .inr (0, [.int (0 : Int32), .ref (ge g), .int 0]))] H := hP
  have hD : va_D A [(h0, .inr (11, [.ref pr, .null, .ref q1, .null, .null, .int (0 : Int32), .int (0 : Int32), .null, .null, .null, .int 0, .int 0, .int 0])), (pr, .inr (8, [.ref rd, .ref ca, .int qn, .int 0, .int 0])), (rd, .inr (9, [.ref rv, .int 0])), (rv, .inl (gc g 0, 10, .inl f1)), (ca, .inl (gc g 0, 10, .inl f2)), (q1, .inr (0, [.int (0 : Int32), .ref (ge g), .int 0]))] := hD
  refine lv_aload_n hC.1 hC.2.1 dX10_init_30 rfl (lv_at hl 0 rfl) ?_
  refine lv_aload_n hC.1 hC.2.1 dX10_init_31 rfl (lv_at hl 2 rfl) ?_
  refine va_putF (D := gD g) (ci := 11) (v := .ref co) (ty := .object "DrumLayers$Core") (C := RX10) (T := TX10) (N := 13) hC.1 hC.2.1 hC.2.2.2.1 uw_X10 tyX10 tyX10_ok nmX10 hC.2.2.1 hC.2.2.2.2.1 hP hD hS 0 rfl rfl 1 (by decide) (hC.2.2.2.1 _ wd_319) (fun _ h9 => h9) rfl (hnm.trans rfl) rfl (by decide +kernel) rfl rfl (Nat.le_of_ble_eq_true rfl) dX10_init_32 (fun H locs hP hD hS => ?_)
  have hP : va_P (gD g) vwCl [(h0, .inr (11, [.ref pr, .ref co, .ref q1, .null, .null, .int (0 : Int32), .int (0 : Int32), .null, .null, .null, .int 0, .int 0, .int 0])), (pr, .inr (8, [.ref rd, .ref ca, .int qn, .int 0, .int 0])), (rd, .inr (9, [.ref rv, .int 0])), (rv, .inl (gc g 0, 10, .inl f1)), (ca, .inl (gc g 0, 10, .inl f2)), (q1, .inr (0, [.int (0 : Int32), .ref (ge g), .int 0]))] H := hP
  have hD : va_D A [(h0, .inr (11, [.ref pr, .ref co, .ref q1, .null, .null, .int (0 : Int32), .int (0 : Int32), .null, .null, .null, .int 0, .int 0, .int 0])), (pr, .inr (8, [.ref rd, .ref ca, .int qn, .int 0, .int 0])), (rd, .inr (9, [.ref rv, .int 0])), (rv, .inl (gc g 0, 10, .inl f1)), (ca, .inl (gc g 0, 10, .inl f2)), (q1, .inr (0, [.int (0 : Int32), .ref (ge g), .int 0]))] := hD
  refine lv_aload_n hC.1 hC.2.1 dX10_init_35 rfl (lv_at hl 0 rfl) ?_
  refine va_new (ci := 10) (fs := [.null, .int 0, .int 0, .int 0, .int 0]) (C := RX9) (T := TX9) (N := 5) hC.1 hC.2.1 hC.2.2.2.1 uw_X9 tyX9 tyX9_ok hC.2.2.1 (hC.2.2.2.1 _ wd_276) (hC.2.2.2.1 _ wd_277) (hC.2.2.2.1 _ wd_12) hC.2.2.2.2.1 hP hD hS hA rfl df_X9 (Nat.le_of_ble_eq_true rfl) (Nat.le_of_ble_eq_true rfl) dX10_init_36 (fun q2 H hP hD hS => ?_)
  have hP : va_P (gD g) vwCl [(h0, .inr (11, [.ref pr, .ref co, .ref q1, .null, .null, .int (0 : Int32), .int (0 : Int32), .null, .null, .null, .int 0, .int 0, .int 0])), (pr, .inr (8, [.ref rd, .ref ca, .int qn, .int 0, .int 0])), (rd, .inr (9, [.ref rv, .int 0])), (rv, .inl (gc g 0, 10, .inl f1)), (ca, .inl (gc g 0, 10, .inl f2)), (q1, .inr (0, [.int (0 : Int32), .ref (ge g), .int 0])), (q2, .inr (10, [.null, .int 0, .int 0, .int 0, .int 0]))] H := hP
  have hD : va_D A [(h0, .inr (11, [.ref pr, .ref co, .ref q1, .null, .null, .int (0 : Int32), .int (0 : Int32), .null, .null, .null, .int 0, .int 0, .int 0])), (pr, .inr (8, [.ref rd, .ref ca, .int qn, .int 0, .int 0])), (rd, .inr (9, [.ref rv, .int 0])), (rv, .inl (gc g 0, 10, .inl f1)), (ca, .inl (gc g 0, 10, .inl f2)), (q1, .inr (0, [.int (0 : Int32), .ref (ge g), .int 0])), (q2, .inr (10, [.null, .int 0, .int 0, .int 0, .int 0]))] := hD
  refine W.widen (k := 2) (n := 8) (Nat.le_of_ble_eq_true rfl) (Nat.le_of_ble_eq_true rfl) ?_
  refine lv_dup hC.1 hC.2.1 dX10_init_39 rfl ?_
  refine lv_aload_n hC.1 hC.2.1 dX10_init_40 rfl (lv_at hl 1 rfl) ?_
  refine lv_bipush (v := (6 : Int32)) hC.1 hC.2.1 dX10_init_41 (by decide) ?_
  refine lv_bipush (v := (7 : Int32)) hC.1 hC.2.1 dX10_init_43 (by decide) ?_
  refine lcallI (As := [.ref pr, .int (6 : Int32), .int (7 : Int32)]) (rest := [.ref q2, .ref h0]) (wr := [(h0, .inr (11, [.ref pr, .ref co, .ref q1, .null, .null, .int (0 : Int32), .int (0 : Int32), .null, .null, .null, .int 0, .int 0, .int 0])), (pr, .inr (8, [.ref rd, .ref ca, .int qn, .int 0, .int 0])), (rd, .inr (9, [.ref rv, .int 0])), (rv, .inl (gc g 0, 10, .inl f1)), (ca, .inl (gc g 0, 10, .inl f2)), (q1, .inr (0, [.int (0 : Int32), .ref (ge g), .int 0]))]) hC hE hml hP hD hS hA hAg (l_X9_init q2 pr (6 : Int32) (7 : Int32) _ ) ⟨wd_278, wd_279, wd_12, wd_280⟩ rfl hd_X9_init rfl rfl ⟨Nat.le_of_ble_eq_true rfl, Nat.le_of_ble_eq_true rfl⟩ rfl hl.1 rfl (Nat.le_of_ble_eq_true rfl) dX10_init_45 ⟨Nat.le_of_ble_eq_true rfl, Nat.le_of_ble_eq_true rfl⟩ [6] [0, 1, 2, 3, 4, 5] rfl rfl (by decide) (by decide) (by decide) (fun W1 H locs hB hP hD hS => ?_)
  subst hB
  have hP : va_P (gD g) vwCl [(h0, .inr (11, [.ref pr, .ref co, .ref q1, .null, .null, .int (0 : Int32), .int (0 : Int32), .null, .null, .null, .int 0, .int 0, .int 0])), (pr, .inr (8, [.ref rd, .ref ca, .int qn, .int 0, .int 0])), (rd, .inr (9, [.ref rv, .int 0])), (rv, .inl (gc g 0, 10, .inl f1)), (ca, .inl (gc g 0, 10, .inl f2)), (q1, .inr (0, [.int (0 : Int32), .ref (ge g), .int 0])), (q2, .inr (10, [.ref pr, .int (6 : Int32), .int (7 : Int32), .int 0, .int 0]))] H := hP
  have hD : va_D A [(h0, .inr (11, [.ref pr, .ref co, .ref q1, .null, .null, .int (0 : Int32), .int (0 : Int32), .null, .null, .null, .int 0, .int 0, .int 0])), (pr, .inr (8, [.ref rd, .ref ca, .int qn, .int 0, .int 0])), (rd, .inr (9, [.ref rv, .int 0])), (rv, .inl (gc g 0, 10, .inl f1)), (ca, .inl (gc g 0, 10, .inl f2)), (q1, .inr (0, [.int (0 : Int32), .ref (ge g), .int 0])), (q2, .inr (10, [.ref pr, .int (6 : Int32), .int (7 : Int32), .int 0, .int 0]))] := hD
  refine W.eq (g2 := F0 m 48 ls [.ref q2, .ref h0]) rfl ?_
  refine va_putF (D := gD g) (ci := 11) (v := .ref q2) (ty := .object "DrumLayers$Signal") (C := RX10) (T := TX10) (N := 13) hC.1 hC.2.1 hC.2.2.2.1 uw_X10 tyX10 tyX10_ok nmX10 hC.2.2.1 hC.2.2.2.2.1 hP hD hS 0 rfl rfl 3 (by decide) (hC.2.2.2.1 _ wd_321) (fun _ h9 => h9) rfl (hnm.trans rfl) rfl (by decide +kernel) rfl rfl (Nat.le_of_ble_eq_true rfl) dX10_init_48 (fun H locs hP hD hS => ?_)
  have hP : va_P (gD g) vwCl [(h0, .inr (11, [.ref pr, .ref co, .ref q1, .ref q2, .null, .int (0 : Int32), .int (0 : Int32), .null, .null, .null, .int 0, .int 0, .int 0])), (pr, .inr (8, [.ref rd, .ref ca, .int qn, .int 0, .int 0])), (rd, .inr (9, [.ref rv, .int 0])), (rv, .inl (gc g 0, 10, .inl f1)), (ca, .inl (gc g 0, 10, .inl f2)), (q1, .inr (0, [.int (0 : Int32), .ref (ge g), .int 0])), (q2, .inr (10, [.ref pr, .int (6 : Int32), .int (7 : Int32), .int 0, .int 0]))] H := hP
  have hD : va_D A [(h0, .inr (11, [.ref pr, .ref co, .ref q1, .ref q2, .null, .int (0 : Int32), .int (0 : Int32), .null, .null, .null, .int 0, .int 0, .int 0])), (pr, .inr (8, [.ref rd, .ref ca, .int qn, .int 0, .int 0])), (rd, .inr (9, [.ref rv, .int 0])), (rv, .inl (gc g 0, 10, .inl f1)), (ca, .inl (gc g 0, 10, .inl f2)), (q1, .inr (0, [.int (0 : Int32), .ref (ge g), .int 0])), (q2, .inr (10, [.ref pr, .int (6 : Int32), .int (7 : Int32), .int 0, .int 0]))] := hD
  refine lv_aload_n hC.1 hC.2.1 dX10_init_51 rfl (lv_at hl 0 rfl) ?_
  refine va_new (ci := 10) (fs := [.null, .int 0, .int 0, .int 0, .int 0]) (C := RX9) (T := TX9) (N := 5) hC.1 hC.2.1 hC.2.2.2.1 uw_X9 tyX9 tyX9_ok hC.2.2.1 (hC.2.2.2.1 _ wd_276) (hC.2.2.2.1 _ wd_277) (hC.2.2.2.1 _ wd_12) hC.2.2.2.2.1 hP hD hS hA rfl df_X9 (Nat.le_of_ble_eq_true rfl) (Nat.le_of_ble_eq_true rfl) dX10_init_52 (fun q3 H hP hD hS => ?_)
  have hP : va_P (gD g) vwCl [(h0, .inr (11, [.ref pr, .ref co, .ref q1, .ref q2, .null, .int (0 : Int32), .int (0 : Int32), .null, .null, .null, .int 0, .int 0, .int 0])), (pr, .inr (8, [.ref rd, .ref ca, .int qn, .int 0, .int 0])), (rd, .inr (9, [.ref rv, .int 0])), (rv, .inl (gc g 0, 10, .inl f1)), (ca, .inl (gc g 0, 10, .inl f2)), (q1, .inr (0, [.int (0 : Int32), .ref (ge g), .int 0])), (q2, .inr (10, [.ref pr, .int (6 : Int32), .int (7 : Int32), .int 0, .int 0])), (q3, .inr (10, [.null, .int 0, .int 0, .int 0, .int 0]))] H := hP
  have hD : va_D A [(h0, .inr (11, [.ref pr, .ref co, .ref q1, .ref q2, .null, .int (0 : Int32), .int (0 : Int32), .null, .null, .null, .int 0, .int 0, .int 0])), (pr, .inr (8, [.ref rd, .ref ca, .int qn, .int 0, .int 0])), (rd, .inr (9, [.ref rv, .int 0])), (rv, .inl (gc g 0, 10, .inl f1)), (ca, .inl (gc g 0, 10, .inl f2)), (q1, .inr (0, [.int (0 : Int32), .ref (ge g), .int 0])), (q2, .inr (10, [.ref pr, .int (6 : Int32), .int (7 : Int32), .int 0, .int 0])), (q3, .inr (10, [.null, .int 0, .int 0, .int 0, .int 0]))] := hD
  refine W.widen (k := 3) (n := 13) (Nat.le_of_ble_eq_true rfl) (Nat.le_of_ble_eq_true rfl) ?_
  refine lv_dup hC.1 hC.2.1 dX10_init_55 rfl ?_
  refine lv_aload_n hC.1 hC.2.1 dX10_init_56 rfl (lv_at hl 1 rfl) ?_
  refine lv_bipush (v := (6 : Int32)) hC.1 hC.2.1 dX10_init_57 (by decide) ?_
  refine lv_bipush (v := (8 : Int32)) hC.1 hC.2.1 dX10_init_59 (by decide) ?_
  refine lcallI (As := [.ref pr, .int (6 : Int32), .int (8 : Int32)]) (rest := [.ref q3, .ref h0]) (wr := [(h0, .inr (11, [.ref pr, .ref co, .ref q1, .ref q2, .null, .int (0 : Int32), .int (0 : Int32), .null, .null, .null, .int 0, .int 0, .int 0])), (pr, .inr (8, [.ref rd, .ref ca, .int qn, .int 0, .int 0])), (rd, .inr (9, [.ref rv, .int 0])), (rv, .inl (gc g 0, 10, .inl f1)), (ca, .inl (gc g 0, 10, .inl f2)), (q1, .inr (0, [.int (0 : Int32), .ref (ge g), .int 0])), (q2, .inr (10, [.ref pr, .int (6 : Int32), .int (7 : Int32), .int 0, .int 0]))]) hC hE hml hP hD hS hA hAg (l_X9_init q3 pr (6 : Int32) (8 : Int32) _ ) ⟨wd_278, wd_279, wd_12, wd_280⟩ rfl hd_X9_init rfl rfl ⟨Nat.le_of_ble_eq_true rfl, Nat.le_of_ble_eq_true rfl⟩ rfl hl.1 rfl (Nat.le_of_ble_eq_true rfl) dX10_init_61 ⟨Nat.le_of_ble_eq_true rfl, Nat.le_of_ble_eq_true rfl⟩ [7] [0, 1, 2, 3, 4, 5, 6] rfl rfl (by decide) (by decide) (by decide) (fun W1 H locs hB hP hD hS => ?_)
  subst hB
  have hP : va_P (gD g) vwCl [(h0, .inr (11, [.ref pr, .ref co, .ref q1, .ref q2, .null, .int (0 : Int32), .int (0 : Int32), .null, .null, .null, .int 0, .int 0, .int 0])), (pr, .inr (8, [.ref rd, .ref ca, .int qn, .int 0, .int 0])), (rd, .inr (9, [.ref rv, .int 0])), (rv, .inl (gc g 0, 10, .inl f1)), (ca, .inl (gc g 0, 10, .inl f2)), (q1, .inr (0, [.int (0 : Int32), .ref (ge g), .int 0])), (q2, .inr (10, [.ref pr, .int (6 : Int32), .int (7 : Int32), .int 0, .int 0])), (q3, .inr (10, [.ref pr, .int (6 : Int32), .int (8 : Int32), .int 0, .int 0]))] H := hP
  have hD : va_D A [(h0, .inr (11, [.ref pr, .ref co, .ref q1, .ref q2, .null, .int (0 : Int32), .int (0 : Int32), .null, .null, .null, .int 0, .int 0, .int 0])), (pr, .inr (8, [.ref rd, .ref ca, .int qn, .int 0, .int 0])), (rd, .inr (9, [.ref rv, .int 0])), (rv, .inl (gc g 0, 10, .inl f1)), (ca, .inl (gc g 0, 10, .inl f2)), (q1, .inr (0, [.int (0 : Int32), .ref (ge g), .int 0])), (q2, .inr (10, [.ref pr, .int (6 : Int32), .int (7 : Int32), .int 0, .int 0])), (q3, .inr (10, [.ref pr, .int (6 : Int32), .int (8 : Int32), .int 0, .int 0]))] := hD
  refine W.eq (g2 := F0 m 64 ls [.ref q3, .ref h0]) rfl ?_
  refine va_putF (D := gD g) (ci := 11) (v := .ref q3) (ty := .object "DrumLayers$Signal") (C := RX10) (T := TX10) (N := 13) hC.1 hC.2.1 hC.2.2.2.1 uw_X10 tyX10 tyX10_ok nmX10 hC.2.2.1 hC.2.2.2.2.1 hP hD hS 0 rfl rfl 4 (by decide) (hC.2.2.2.1 _ wd_322) (fun _ h9 => h9) rfl (hnm.trans rfl) rfl (by decide +kernel) rfl rfl (Nat.le_of_ble_eq_true rfl) dX10_init_64 (fun H locs hP hD hS => ?_)
  have hP : va_P (gD g) vwCl [(h0, .inr (11, [.ref pr, .ref co, .ref q1, .ref q2, .ref q3, .int (0 : Int32), .int (0 : Int32), .null, .null, .null, .int 0, .int 0, .int 0])), (pr, .inr (8, [.ref rd, .ref ca, .int qn, .int 0, .int 0])), (rd, .inr (9, [.ref rv, .int 0])), (rv, .inl (gc g 0, 10, .inl f1)), (ca, .inl (gc g 0, 10, .inl f2)), (q1, .inr (0, [.int (0 : Int32), .ref (ge g), .int 0])), (q2, .inr (10, [.ref pr, .int (6 : Int32), .int (7 : Int32), .int 0, .int 0])), (q3, .inr (10, [.ref pr, .int (6 : Int32), .int (8 : Int32), .int 0, .int 0]))] H := hP
  have hD : va_D A [(h0, .inr (11, [.ref pr, .ref co, .ref q1, .ref q2, .ref q3, .int (0 : Int32), .int (0 : Int32), .null, .null, .null, .int 0, .int 0, .int 0])), (pr, .inr (8, [.ref rd, .ref ca, .int qn, .int 0, .int 0])), (rd, .inr (9, [.ref rv, .int 0])), (rv, .inl (gc g 0, 10, .inl f1)), (ca, .inl (gc g 0, 10, .inl f2)), (q1, .inr (0, [.int (0 : Int32), .ref (ge g), .int 0])), (q2, .inr (10, [.ref pr, .int (6 : Int32), .int (7 : Int32), .int 0, .int 0])), (q3, .inr (10, [.ref pr, .int (6 : Int32), .int (8 : Int32), .int 0, .int 0]))] := hD
  refine lv_aload_n hC.1 hC.2.1 dX10_init_67 rfl (lv_at hl 0 rfl) ?_
  refine va_get (D := gD g) (ci := 11) (v := .ref q2) (C := RX10) (T := TX10) (N := 13) hC.1 hC.2.1 hC.2.2.2.1 uw_X10 hC.2.2.1 hC.2.2.2.2.1 hP 0 rfl rfl 3 (by decide) (hC.2.2.2.1 _ wd_321) (fun _ h9 => h9) rfl dX10_init_68 ?_
  refine lcallV (As := []) (rest := []) (wr := [(h0, .inr (11, [.ref pr, .ref co, .ref q1, .ref q2, .ref q3, .int (0 : Int32), .int (0 : Int32), .null, .null, .null, .int 0, .int 0, .int 0])), (q1, .inr (0, [.int (0 : Int32), .ref (ge g), .int 0])), (q3, .inr (10, [.ref pr, .int (6 : Int32), .int (8 : Int32), .int 0, .int 0]))]) (Cn := RX9) hC hE hml hP hD hS hA hAg (l_p0 q2 pr (6 : Int32) (7 : Int32) rd ca qn rv f1 f2 _ (by decide)) ⟨wd_298, wd_299, wd_300, wd_12, wd_301⟩ hd_X9_p rfl rfl ⟨Nat.le_of_ble_eq_true rfl, Nat.le_of_ble_eq_true rfl⟩ (va_recv hC.2.2.2.2.1 hP (ci := 10) (q0 := 6) rfl rfl) rfl hl.1 rfl (Nat.le_of_ble_eq_true rfl) dX10_init_71 ⟨Nat.le_of_ble_eq_true rfl, Nat.le_of_ble_eq_true rfl⟩ [6, 1, 2, 3, 4] [0, 5, 7] rfl rfl (by decide) (by decide) (by decide) (fun W1 H locs hB hP hD hS => ?_)
  subst hB
  have hP : va_P (gD g) vwCl [(h0, .inr (11, [.ref pr, .ref co, .ref q1, .ref q2, .ref q3, .int (0 : Int32), .int (0 : Int32), .null, .null, .null, .int 0, .int 0, .int 0])), (q1, .inr (0, [.int (0 : Int32), .ref (ge g), .int 0])), (q3, .inr (10, [.ref pr, .int (6 : Int32), .int (8 : Int32), .int 0, .int 0])), (q2, .inr (10, [.ref pr, .int (6 : Int32), .int (7 : Int32), .int (1 : Int32), .int 0])), (pr, .inr (8, [.ref rd, .ref ca, .int qn, .int 0, .int (0 : Int32)])), (ca, .inl (gc g 0, 10, .inl (upd f2 ((6 : Int32).toNatClampNeg) (7 : Int32)))), (rd, .inr (9, [.ref rv, .int 0])), (rv, .inl (gc g 0, 10, .inl f1))] H := hP
  have hD : va_D A [(h0, .inr (11, [.ref pr, .ref co, .ref q1, .ref q2, .ref q3, .int (0 : Int32), .int (0 : Int32), .null, .null, .null, .int 0, .int 0, .int 0])), (q1, .inr (0, [.int (0 : Int32), .ref (ge g), .int 0])), (q3, .inr (10, [.ref pr, .int (6 : Int32), .int (8 : Int32), .int 0, .int 0])), (q2, .inr (10, [.ref pr, .int (6 : Int32), .int (7 : Int32), .int (1 : Int32), .int 0])), (pr, .inr (8, [.ref rd, .ref ca, .int qn, .int 0, .int (0 : Int32)])), (ca, .inl (gc g 0, 10, .inl (upd f2 ((6 : Int32).toNatClampNeg) (7 : Int32)))), (rd, .inr (9, [.ref rv, .int 0])), (rv, .inl (gc g 0, 10, .inl f1))] := hD
  refine W.eq (g2 := F0 m 74 ls []) rfl ?_
  subst hAd
  exact lret_v hC hr hlk hP hD hS ⟨q1, q2, q3, rfl⟩ (Nat.le_of_ble_eq_true rfl) (Nat.le_of_ble_eq_true rfl) dX10_init_74
set_option maxHeartbeats 4000000 in
set_option maxRecDepth 100000 in
theorem l_X0_init {l : Launch} {g : GP} (h0 : Nat) (pr : Nat) (co : Nat) (jb : Nat) (x4 : Int32) (sz : Nat)  : Met l yX0_init (Cond.code yX0_init cX0_init 5 none :: lwG) ({ frames := 4, cells := 4, slots := 15, locals := 72 } : Room) (va_Pc [.ref h0, .ref pr, .ref co, .ref jb, .int x4] (PL g [(h0, .inr (1, [.null, .null, .null, .int 0, .null, .null, .null, .null]))] sz)) (QL none (fun W1 => ∃ q1 q2 q3 q4 : Nat, W1 = [(h0, .inr (1, [.ref pr, .ref co, .ref jb, .int x4, .ref q1, .ref q2, .ref q3, .ref q4])), (q1, .inl (gc g 0, 3, .inl (upd (upd (upd (fun _ => 0) 0 (1 : Int32)) 1 (1 : Int32)) 2 x4))), (q2, .inr (0, [.int (0 : Int32), .ref (ge g), .int 0])), (q3, .inl (gc g 0, 3, .inl (fun _ => 0))), (q4, .inl (gc g 2, 6, .inl (fun _ => 0)))]) g [(h0, .inr (1, [.null, .null, .null, .int 0, .null, .null, .null, .null]))] sz) 4 15 (va_A [(h0, .inr (1, [.null, .null, .null, .int 0, .null, .null, .null, .null]))] sz) := by
  refine Met.ofW (cc := cX0_init) (maxL := 5) (ret := none) (by decide +kernel) rfl ?_
  intro p e s m args below meth c s₁ Bd hml hv
  obtain ⟨ha, hsz, hC, hE, hr, hlk, hP, hD0, hnm⟩ := l_start Bd hv
  subst ha
  subst hsz
  have hC : CX p s m ([.ref h0, .ref pr, .ref co, .ref jb, .int x4] : List Value).toArray c cX0_init RX0 g := hC
  obtain ⟨A, hAd⟩ : ∃ A, A = va_A [(h0, .inr (1, [.null, .null, .null, .int 0, .null, .null, .null, .null]))] s.heap.size := ⟨_, rfl⟩
  have hAg : ∀ q, A q → gP g q := by rw [hAd]; exact A_gP hD0 hC.2.2.2.2.2.1
  have hA : ∀ q, s.heap.size ≤ q → A q := by rw [hAd]; exact fun q h => Or.inr h
  have hD : va_D A [(h0, .inr (1, [.null, .null, .null, .int 0, .null, .null, .null, .null]))] := by rw [hAd]; exact hD0.self (sz := s.heap.size)
  have hS : va_S A s.heap s.heap [] := va_S.rf
  obtain ⟨ls, he, hl⟩ := g_entry m (vs := [.ref h0, .ref pr, .ref co, .ref jb, .int x4]) (n := 5) (List.forall_mem_cons.mpr ⟨rfl, (List.forall_mem_cons.mpr ⟨rfl, (List.forall_mem_cons.mpr ⟨rfl, (List.forall_mem_cons.mpr ⟨rfl, (List.forall_mem_cons.mpr ⟨rfl, (fun _ h => absurd h List.not_mem_nil)⟩)⟩)⟩)⟩)⟩) (Nat.le_of_ble_eq_true rfl)
  rw [he]
  have hl : lv_has ls 5 [(0, .ref h0), (1, .ref pr), (2, .ref co), (3, .ref jb), (4, .int x4)] := hl
  refine lv_aload_n hC.1 hC.2.1 dX0_init_0 rfl (lv_at hl 0 rfl) ?_
  refine W.objInit hC.1 hC.2.1 hC.2.2.1 (hC.2.2.2.1 _ wd_365) (hC.2.2.2.1 _ wd_29) (hC.2.2.2.1 _ wd_30) rfl (by rw [hml]; exact hl.1) rfl dX0_init_1 (Nat.le_of_ble_eq_true rfl) (Nat.le_of_ble_eq_true rfl) ?_
  refine W.eq (g2 := F0 m 4 ls []) rfl ?_
  refine lv_aload_n hC.1 hC.2.1 dX0_init_4 rfl (lv_at hl 0 rfl) ?_
  refine lv_iconst (v := (3 : Int32)) hC.1 hC.2.1 dX0_init_5 (by decide) ?_
  refine nw_i (N := 3) hC hP hD hS hA wd_60 (by decide) (by decide) (by decide) (Nat.le_of_ble_eq_true rfl) (Nat.le_of_ble_eq_true rfl) dX0_init_6 (fun q1 H hP hD hS => ?_)
  have hP : va_P (gD g) vwCl [(h0, .inr (1, [.null, .null, .null, .int 0, .null, .null, .null, .null])), (q1, .inl (gc g 0, 3, .inl (fun _ => 0)))] H := hP
  have hD : va_D A [(h0, .inr (1, [.null, .null, .null, .int 0, .null, .null, .null, .null])), (q1, .inl (gc g 0, 3, .inl (fun _ => 0)))] := hD
  refine W.widen (k := 1) (n := 3) (Nat.le_of_ble_eq_true rfl) (Nat.le_of_ble_eq_true rfl) ?_
  refine va_putF (D := gD g) (ci := 1) (v := .ref q1) (ty := .array (.int)) (C := RX0) (T := TX0) (N := 8) hC.1 hC.2.1 hC.2.2.2.1 uw_X0 tyX0 tyX0_ok nmX0 hC.2.2.1 hC.2.2.2.2.1 hP hD hS 0 rfl rfl 4 (by decide) (hC.2.2.2.1 _ wd_373) (fun _ h9 => h9) rfl (hnm.trans rfl) rfl (by decide +kernel) rfl rfl (Nat.le_of_ble_eq_true rfl) dX0_init_8 (fun H locs hP hD hS => ?_)
  have hP : va_P (gD g) vwCl [(h0, .inr (1, [.null, .null, .null, .int 0, .ref q1, .null, .null, .null])), (q1, .inl (gc g 0, 3, .inl (fun _ => 0)))] H := hP
  have hD : va_D A [(h0, .inr (1, [.null, .null, .null, .int 0, .ref q1, .null, .null, .null])), (q1, .inl (gc g 0, 3, .inl (fun _ => 0)))] := hD
  refine lv_aload_n hC.1 hC.2.1 dX0_init_11 rfl (lv_at hl 0 rfl) ?_
  refine va_new (ci := 0) (fs := [.int 0, .null, .int 0]) (C := RJx4a65c) (T := TJx4a65c) (N := 3) hC.1 hC.2.1 hC.2.2.2.1 uw_Jx4a65c tyJx4a65c tyJx4a65c_ok hC.2.2.1 (hC.2.2.2.1 _ wd_366) (hC.2.2.2.1 _ wd_251) (hC.2.2.2.1 _ wd_11) hC.2.2.2.2.1 hP hD hS hA rfl df_Jx4a65c (Nat.le_of_ble_eq_true rfl) (Nat.le_of_ble_eq_true rfl) dX0_init_12 (fun q2 H hP hD hS => ?_)
  have hP : va_P (gD g) vwCl [(h0, .inr (1, [.null, .null, .null, .int 0, .ref q1, .null, .null, .null])), (q1, .inl (gc g 0, 3, .inl (fun _ => 0))), (q2, .inr (0, [.int 0, .null, .int 0]))] H := hP
  have hD : va_D A [(h0, .inr (1, [.null, .null, .null, .int 0, .ref q1, .null, .null, .null])), (q1, .inl (gc g 0, 3, .inl (fun _ => 0))), (q2, .inr (0, [.int 0, .null, .int 0]))] := hD
  refine W.widen (k := 2) (n := 6) (Nat.le_of_ble_eq_true rfl) (Nat.le_of_ble_eq_true rfl) ?_
  refine lv_dup hC.1 hC.2.1 dX0_init_15 rfl ?_
  refine lcallI (As := []) (rest := [.ref q2, .ref h0]) (wr := [(h0, .inr (1, [.null, .null, .null, .int 0, .ref q1, .null, .null, .null])), (q1, .inl (gc g 0, 3, .inl (fun _ => 0)))]) hC hE hml hP hD hS hA hAg (l_Jx4a65c_init_da8c8 q2 _ ) ⟨wd_367, wd_253, wd_11, wd_254⟩ rfl hd_Jx4a65c_init_da8c8 rfl rfl ⟨Nat.le_of_ble_eq_true rfl, Nat.le_of_ble_eq_true rfl⟩ rfl hl.1 rfl (Nat.le_of_ble_eq_true rfl) dX0_init_16 ⟨Nat.le_of_ble_eq_true rfl, Nat.le_of_ble_eq_true rfl⟩ [2] [0, 1] rfl rfl (by decide) (by decide) (by decide) (fun W1 H locs hB hP hD hS => ?_)
  subst hB
  have hP : va_P (gD g) vwCl [(h0, .inr (1, [.null, .null, .null, .int 0, .ref q1, .null, .null, .null])), (q1, .inl (gc g 0, 3, .inl (fun _ => 0))), (q2, .inr (0, [.int (0 : Int32), .ref (ge g), .int 0]))] H := hP
  have hD : va_D A [(h0, .inr (1, [.null, .null, .null, .int 0, .ref q1, .null, .null, .null])), (q1, .inl (gc g 0, 3, .inl (fun _ => 0))), (q2, .inr (0, [.int (0 : Int32), .ref (ge g), .int 0]))] := hD
  refine W.eq (g2 := F0 m 19 ls [.ref q2, .ref h0]) rfl ?_
  refine va_putF (D := gD g) (ci := 1) (v := .ref q2) (ty := .object "java/util/ArrayList") (C := RX0) (T := TX0) (N := 8) hC.1 hC.2.1 hC.2.2.2.1 uw_X0 tyX0 tyX0_ok nmX0 hC.2.2.1 hC.2.2.2.2.1 hP hD hS 0 rfl rfl 5 (by decide) (hC.2.2.2.1 _ wd_374) (fun _ h9 => h9) rfl (hnm.trans rfl) rfl (by decide +kernel) rfl rfl (Nat.le_of_ble_eq_true rfl) dX0_init_19 (fun H locs hP hD hS => ?_)
  have hP : va_P (gD g) vwCl [(h0, .inr (1, [.null, .null, .null, .int 0, .ref q1, .ref q2, .null, .null])), (q1, .inl (gc g 0, 3, .inl (fun _ => 0))), (q2, .inr (0, [.int (0 : Int32), .ref (ge g), .int 0]))] H := hP
  have hD : va_D A [(h0, .inr (1, [.null, .null, .null, .int 0, .ref q1, .ref q2, .null, .null])), (q1, .inl (gc g 0, 3, .inl (fun _ => 0))), (q2, .inr (0, [.int (0 : Int32), .ref (ge g), .int 0]))] := hD
  refine lv_aload_n hC.1 hC.2.1 dX0_init_22 rfl (lv_at hl 0 rfl) ?_
  refine lv_iconst (v := (3 : Int32)) hC.1 hC.2.1 dX0_init_23 (by decide) ?_
  refine nw_i (N := 3) hC hP hD hS hA wd_60 (by decide) (by decide) (by decide) (Nat.le_of_ble_eq_true rfl) (Nat.le_of_ble_eq_true rfl) dX0_init_24 (fun q3 H hP hD hS => ?_)
  have hP : va_P (gD g) vwCl [(h0, .inr (1, [.null, .null, .null, .int 0, .ref q1, .ref q2, .null, .null])), (q1, .inl (gc g 0, 3, .inl (fun _ => 0))), (q2, .inr (0, [.int (0 : Int32), .ref (ge g), .int 0])), (q3, .inl (gc g 0, 3, .inl (fun _ => 0)))] H := hP
  have hD : va_D A [(h0, .inr (1, [.null, .null, .null, .int 0, .ref q1, .ref q2, .null, .null])), (q1, .inl (gc g 0, 3, .inl (fun _ => 0))), (q2, .inr (0, [.int (0 : Int32), .ref (ge g), .int 0])), (q3, .inl (gc g 0, 3, .inl (fun _ => 0)))] := hD
  refine W.widen (k := 3) (n := 9) (Nat.le_of_ble_eq_true rfl) (Nat.le_of_ble_eq_true rfl) ?_
  refine va_putF (D := gD g) (ci := 1) (v := .ref q3) (ty := .array (.int)) (C := RX0) (T := TX0) (N := 8) hC.1 hC.2.1 hC.2.2.2.1 uw_X0 tyX0 tyX0_ok nmX0 hC.2.2.1 hC.2.2.2.2.1 hP hD hS 0 rfl rfl 6 (by decide) (hC.2.2.2.1 _ wd_375) (fun _ h9 => h9) rfl (hnm.trans rfl) rfl (by decide +kernel) rfl rfl (Nat.le_of_ble_eq_true rfl) dX0_init_26 (fun H locs hP hD hS => ?_)
  have hP : va_P (gD g) vwCl [(h0, .inr (1, [.null, .null, .null, .int 0, .ref q1, .ref q2, .ref q3, .null])), (q1, .inl (gc g 0, 3, .inl (fun _ => 0))), (q2, .inr (0, [.int (0 : Int32), .ref (ge g), .int 0])), (q3, .inl (gc g 0, 3, .inl (fun _ => 0)))] H := hP
  have hD : va_D A [(h0, .inr (1, [.null, .null, .null, .int 0, .ref q1, .ref q2, .ref q3, .null])), (q1, .inl (gc g 0, 3, .inl (fun _ => 0))), (q2, .inr (0, [.int (0 : Int32), .ref (ge g), .int 0])), (q3, .inl (gc g 0, 3, .inl (fun _ => 0)))] := hD
  refine lv_aload_n hC.1 hC.2.1 dX0_init_29 rfl (lv_at hl 0 rfl) ?_
  refine lv_bipush (v := (6 : Int32)) hC.1 hC.2.1 dX0_init_30 (by decide) ?_
  refine nw_z (N := 6) hC hP hD hS hA wd_394 (by decide) (by decide) (by decide) (Nat.le_of_ble_eq_true rfl) (Nat.le_of_ble_eq_true rfl) dX0_init_32 (fun q4 H hP hD hS => ?_)
  have hP : va_P (gD g) vwCl [(h0, .inr (1, [.null, .null, .null, .int 0, .ref q1, .ref q2, .ref q3, .null])), (q1, .inl (gc g 0, 3, .inl (fun _ => 0))), (q2, .inr (0, [.int (0 : Int32), .ref (ge g), .int 0])), (q3, .inl (gc g 0, 3, .inl (fun _ => 0))), (q4, .inl (gc g 2, 6, .inl (fun _ => 0)))] H := hP
  have hD : va_D A [(h0, .inr (1, [.null, .null, .null, .int 0, .ref q1, .ref q2, .ref q3, .null])), (q1, .inl (gc g 0, 3, .inl (fun _ => 0))), (q2, .inr (0, [.int (0 : Int32), .ref (ge g), .int 0])), (q3, .inl (gc g 0, 3, .inl (fun _ => 0))), (q4, .inl (gc g 2, 6, .inl (fun _ => 0)))] := hD
  refine W.widen (k := 4) (n := 15) (Nat.le_of_ble_eq_true rfl) (Nat.le_of_ble_eq_true rfl) ?_
  refine va_putF (D := gD g) (ci := 1) (v := .ref q4) (ty := .array (.boolean)) (C := RX0) (T := TX0) (N := 8) hC.1 hC.2.1 hC.2.2.2.1 uw_X0 tyX0 tyX0_ok nmX0 hC.2.2.1 hC.2.2.2.2.1 hP hD hS 0 rfl rfl 7 (by decide) (hC.2.2.2.1 _ wd_376) (fun _ h9 => h9) rfl (hnm.trans rfl) rfl (by decide +kernel) rfl rfl (Nat.le_of_ble_eq_true rfl) dX0_init_34 (fun H locs hP hD hS => ?_)
  have hP : va_P (gD g) vwCl [(h0, .inr (1, [.null, .null, .null, .int 0, .ref q1, .ref q2, .ref q3, .ref q4])), (q1, .inl (gc g 0, 3, .inl (fun _ => 0))), (q2, .inr (0, [.int (0 : Int32), .ref (ge g), .int 0])), (q3, .inl (gc g 0, 3, .inl (fun _ => 0))), (q4, .inl (gc g 2, 6, .inl (fun _ => 0)))] H := hP
  have hD : va_D A [(h0, .inr (1, [.null, .null, .null, .int 0, .ref q1, .ref q2, .ref q3, .ref q4])), (q1, .inl (gc g 0, 3, .inl (fun _ => 0))), (q2, .inr (0, [.int (0 : Int32), .ref (ge g), .int 0])), (q3, .inl (gc g 0, 3, .inl (fun _ => 0))), (q4, .inl (gc g 2, 6, .inl (fun _ => 0)))] := hD
  refine lv_aload_n hC.1 hC.2.1 dX0_init_37 rfl (lv_at hl 0 rfl) ?_
  refine lv_aload_n hC.1 hC.2.1 dX0_init_38 rfl (lv_at hl 1 rfl) ?_
  refine va_putF (D := gD g) (ci := 1) (v := .ref pr) (ty := .object "DrumLayers$Processor") (C := RX0) (T := TX0) (N := 8) hC.1 hC.2.1 hC.2.2.2.1 uw_X0 tyX0 tyX0_ok nmX0 hC.2.2.1 hC.2.2.2.2.1 hP hD hS 0 rfl rfl 0 (by decide) (hC.2.2.2.1 _ wd_368) (fun _ h9 => h9) rfl (hnm.trans rfl) rfl (by decide +kernel) rfl rfl (Nat.le_of_ble_eq_true rfl) dX0_init_39 (fun H locs hP hD hS => ?_)
  have hP : va_P (gD g) vwCl [(h0, .inr (1, [.ref pr, .null, .null, .int 0, .ref q1, .ref q2, .ref q3, .ref q4])), (q1, .inl (gc g 0, 3, .inl (fun _ => 0))), (q2, .inr (0, [.int (0 : Int32), .ref (ge g), .int 0])), (q3, .inl (gc g 0, 3, .inl (fun _ => 0))), (q4, .inl (gc g 2, 6, .inl (fun _ => 0)))] H := hP
  have hD : va_D A [(h0, .inr (1, [.ref pr, .null, .null, .int 0, .ref q1, .ref q2, .ref q3, .ref q4])), (q1, .inl (gc g 0, 3, .inl (fun _ => 0))), (q2, .inr (0, [.int (0 : Int32), .ref (ge g), .int 0])), (q3, .inl (gc g 0, 3, .inl (fun _ => 0))), (q4, .inl (gc g 2, 6, .inl (fun _ => 0)))] := hD
  refine lv_aload_n hC.1 hC.2.1 dX0_init_42 rfl (lv_at hl 0 rfl) ?_
  refine lv_aload_n hC.1 hC.2.1 dX0_init_43 rfl (lv_at hl 2 rfl) ?_
  refine va_putF (D := gD g) (ci := 1) (v := .ref co) (ty := .object "DrumLayers$Core") (C := RX0) (T := TX0) (N := 8) hC.1 hC.2.1 hC.2.2.2.1 uw_X0 tyX0 tyX0_ok nmX0 hC.2.2.1 hC.2.2.2.2.1 hP hD hS 0 rfl rfl 1 (by decide) (hC.2.2.2.1 _ wd_369) (fun _ h9 => h9) rfl (hnm.trans rfl) rfl (by decide +kernel) rfl rfl (Nat.le_of_ble_eq_true rfl) dX0_init_44 (fun H locs hP hD hS => ?_)
  have hP : va_P (gD g) vwCl [(h0, .inr (1, [.ref pr, .ref co, .null, .int 0, .ref q1, .ref q2, .ref q3, .ref q4])), (q1, .inl (gc g 0, 3, .inl (fun _ => 0))), (q2, .inr (0, [.int (0 : Int32), .ref (ge g), .int 0])), (q3, .inl (gc g 0, 3, .inl (fun _ => 0))), (q4, .inl (gc g 2, 6, .inl (fun _ => 0)))] H := hP
  have hD : va_D A [(h0, .inr (1, [.ref pr, .ref co, .null, .int 0, .ref q1, .ref q2, .ref q3, .ref q4])), (q1, .inl (gc g 0, 3, .inl (fun _ => 0))), (q2, .inr (0, [.int (0 : Int32), .ref (ge g), .int 0])), (q3, .inl (gc g 0, 3, .inl (fun _ => 0))), (q4, .inl (gc g 2, 6, .inl (fun _ => 0)))] := hD
  refine lv_aload_n hC.1 hC.2.1 dX0_init_47 rfl (lv_at hl 0 rfl) ?_
  refine lv_aload_n hC.1 hC.2.1 dX0_init_48 rfl (lv_at hl 3 rfl) ?_
  refine va_putF (D := gD g) (ci := 1) (v := .ref jb) (ty := .array (.object "DrumLayers$Job")) (C := RX0) (T := TX0) (N := 8) hC.1 hC.2.1 hC.2.2.2.1 uw_X0 tyX0 tyX0_ok nmX0 hC.2.2.1 hC.2.2.2.2.1 hP hD hS 0 rfl rfl 2 (by decide) (hC.2.2.2.1 _ wd_370) (fun _ h9 => h9) rfl (hnm.trans rfl) rfl (by decide +kernel) rfl rfl (Nat.le_of_ble_eq_true rfl) dX0_init_49 (fun H locs hP hD hS => ?_)
  have hP : va_P (gD g) vwCl [(h0, .inr (1, [.ref pr, .ref co, .ref jb, .int 0, .ref q1, .ref q2, .ref q3, .ref q4])), (q1, .inl (gc g 0, 3, .inl (fun _ => 0))), (q2, .inr (0, [.int (0 : Int32), .ref (ge g), .int 0])), (q3, .inl (gc g 0, 3, .inl (fun _ => 0))), (q4, .inl (gc g 2, 6, .inl (fun _ => 0)))] H := hP
  have hD : va_D A [(h0, .inr (1, [.ref pr, .ref co, .ref jb, .int 0, .ref q1, .ref q2, .ref q3, .ref q4])), (q1, .inl (gc g 0, 3, .inl (fun _ => 0))), (q2, .inr (0, [.int (0 : Int32), .ref (ge g), .int 0])), (q3, .inl (gc g 0, 3, .inl (fun _ => 0))), (q4, .inl (gc g 2, 6, .inl (fun _ => 0)))] := hD
  refine lv_aload_n hC.1 hC.2.1 dX0_init_52 rfl (lv_at hl 0 rfl) ?_
  refine lv_iload hC.1 hC.2.1 dX0_init_53 (lv_at hl 4 rfl) ?_
  refine va_putF (D := gD g) (ci := 1) (v := .int x4) (ty := .int) (C := RX0) (T := TX0) (N := 8) hC.1 hC.2.1 hC.2.2.2.1 uw_X0 tyX0 tyX0_ok nmX0 hC.2.2.1 hC.2.2.2.2.1 hP hD hS 0 rfl rfl 3 (by decide) (hC.2.2.2.1 _ wd_371) (fun _ h9 => h9) rfl (hnm.trans rfl) rfl (by decide +kernel) rfl rfl (Nat.le_of_ble_eq_true rfl) dX0_init_55 (fun H locs hP hD hS => ?_)
  have hP : va_P (gD g) vwCl [(h0, .inr (1, [.ref pr, .ref co, .ref jb, .int x4, .ref q1, .ref q2, .ref q3, .ref q4])), (q1, .inl (gc g 0, 3, .inl (fun _ => 0))), (q2, .inr (0, [.int (0 : Int32), .ref (ge g), .int 0])), (q3, .inl (gc g 0, 3, .inl (fun _ => 0))), (q4, .inl (gc g 2, 6, .inl (fun _ => 0)))] H := hP
  have hD : va_D A [(h0, .inr (1, [.ref pr, .ref co, .ref jb, .int x4, .ref q1, .ref q2, .ref q3, .ref q4])), (q1, .inl (gc g 0, 3, .inl (fun _ => 0))), (q2, .inr (0, [.int (0 : Int32), .ref (ge g), .int 0])), (q3, .inl (gc g 0, 3, .inl (fun _ => 0))), (q4, .inl (gc g 2, 6, .inl (fun _ => 0)))] := hD
  refine lv_aload_n hC.1 hC.2.1 dX0_init_58 rfl (lv_at hl 0 rfl) ?_
  refine va_get (D := gD g) (ci := 1) (v := .ref q1) (C := RX0) (T := TX0) (N := 8) hC.1 hC.2.1 hC.2.2.2.1 uw_X0 hC.2.2.1 hC.2.2.2.2.1 hP 0 rfl rfl 4 (by decide) (hC.2.2.2.1 _ wd_373) (fun _ h9 => h9) rfl dX0_init_59 ?_
  refine lv_iconst (v := (0 : Int32)) hC.1 hC.2.1 dX0_init_62 (by decide) ?_
  refine lv_iconst (v := (1 : Int32)) hC.1 hC.2.1 dX0_init_63 (by decide) ?_
  refine va_iast hC.1 hC.2.1 hC.2.2.2.2.1 hP hD hS 1 0 rfl rfl (inb_in (by decide)) dX0_init_64 (fun H locs hP hD hS => ?_)
  have hP : va_P (gD g) vwCl [(h0, .inr (1, [.ref pr, .ref co, .ref jb, .int x4, .ref q1, .ref q2, .ref q3, .ref q4])), (q1, .inl (gc g 0, 3, .inl (upd (fun _ => 0) 0 (1 : Int32)))), (q2, .inr (0, [.int (0 : Int32), .ref (ge g), .int 0])), (q3, .inl (gc g 0, 3, .inl (fun _ => 0))), (q4, .inl (gc g 2, 6, .inl (fun _ => 0)))] H := hP
  have hD : va_D A [(h0, .inr (1, [.ref pr, .ref co, .ref jb, .int x4, .ref q1, .ref q2, .ref q3, .ref q4])), (q1, .inl (gc g 0, 3, .inl (upd (fun _ => 0) 0 (1 : Int32)))), (q2, .inr (0, [.int (0 : Int32), .ref (ge g), .int 0])), (q3, .inl (gc g 0, 3, .inl (fun _ => 0))), (q4, .inl (gc g 2, 6, .inl (fun _ => 0)))] := hD
  refine lv_aload_n hC.1 hC.2.1 dX0_init_65 rfl (lv_at hl 0 rfl) ?_
  refine va_get (D := gD g) (ci := 1) (v := .ref q1) (C := RX0) (T := TX0) (N := 8) hC.1 hC.2.1 hC.2.2.2.1 uw_X0 hC.2.2.1 hC.2.2.2.2.1 hP 0 rfl rfl 4 (by decide) (hC.2.2.2.1 _ wd_373) (fun _ h9 => h9) rfl dX0_init_66 ?_
  refine lv_iconst (v := (1 : Int32)) hC.1 hC.2.1 dX0_init_69 (by decide) ?_
  refine lv_iconst (v := (1 : Int32)) hC.1 hC.2.1 dX0_init_70 (by decide) ?_
  refine va_iast hC.1 hC.2.1 hC.2.2.2.2.1 hP hD hS 1 0 rfl rfl (inb_in (by decide)) dX0_init_71 (fun H locs hP hD hS => ?_)
  have hP : va_P (gD g) vwCl [(h0, .inr (1, [.ref pr, .ref co, .ref jb, .int x4, .ref q1, .ref q2, .ref q3, .ref q4])), (q1, .inl (gc g 0, 3, .inl (upd (upd (fun _ => 0) 0 (1 : Int32)) 1 (1 : Int32)))), (q2, .inr (0, [.int (0 : Int32), .ref (ge g), .int 0])), (q3, .inl (gc g 0, 3, .inl (fun _ => 0))), (q4, .inl (gc g 2, 6, .inl (fun _ => 0)))] H := hP
  have hD : va_D A [(h0, .inr (1, [.ref pr, .ref co, .ref jb, .int x4, .ref q1, .ref q2, .ref q3, .ref q4])), (q1, .inl (gc g 0, 3, .inl (upd (upd (fun _ => 0) 0 (1 : Int32)) 1 (1 : Int32)))), (q2, .inr (0, [.int (0 : Int32), .ref (ge g), .int 0])), (q3, .inl (gc g 0, 3, .inl (fun _ => 0))), (q4, .inl (gc g 2, 6, .inl (fun _ => 0)))] := hD
  refine lv_aload_n hC.1 hC.2.1 dX0_init_72 rfl (lv_at hl 0 rfl) ?_
  refine va_get (D := gD g) (ci := 1) (v := .ref q1) (C := RX0) (T := TX0) (N := 8) hC.1 hC.2.1 hC.2.2.2.1 uw_X0 hC.2.2.1 hC.2.2.2.2.1 hP 0 rfl rfl 4 (by decide) (hC.2.2.2.1 _ wd_373) (fun _ h9 => h9) rfl dX0_init_73 ?_
  refine lv_iconst (v := (2 : Int32)) hC.1 hC.2.1 dX0_init_76 (by decide) ?_
  refine lv_iload hC.1 hC.2.1 dX0_init_77 (lv_at hl 4 rfl) ?_
  refine va_iast hC.1 hC.2.1 hC.2.2.2.2.1 hP hD hS 1 0 rfl rfl (inb_in (by decide)) dX0_init_79 (fun H locs hP hD hS => ?_)
  have hP : va_P (gD g) vwCl [(h0, .inr (1, [.ref pr, .ref co, .ref jb, .int x4, .ref q1, .ref q2, .ref q3, .ref q4])), (q1, .inl (gc g 0, 3, .inl (upd (upd (upd (fun _ => 0) 0 (1 : Int32)) 1 (1 : Int32)) 2 x4))), (q2, .inr (0, [.int (0 : Int32), .ref (ge g), .int 0])), (q3, .inl (gc g 0, 3, .inl (fun _ => 0))), (q4, .inl (gc g 2, 6, .inl (fun _ => 0)))] H := hP
  have hD : va_D A [(h0, .inr (1, [.ref pr, .ref co, .ref jb, .int x4, .ref q1, .ref q2, .ref q3, .ref q4])), (q1, .inl (gc g 0, 3, .inl (upd (upd (upd (fun _ => 0) 0 (1 : Int32)) 1 (1 : Int32)) 2 x4))), (q2, .inr (0, [.int (0 : Int32), .ref (ge g), .int 0])), (q3, .inl (gc g 0, 3, .inl (fun _ => 0))), (q4, .inl (gc g 2, 6, .inl (fun _ => 0)))] := hD
  subst hAd
  exact lret_v hC hr hlk hP hD hS ⟨q1, q2, q3, q4, rfl⟩ (Nat.le_of_ble_eq_true rfl) (Nat.le_of_ble_eq_true rfl) dX0_init_80
set_option maxHeartbeats 4000000 in
set_option maxRecDepth 100000 in
theorem l_X3_init {l : Launch} {g : GP} (h0 : Nat) (pr : Nat) (co : Nat) (bk : Nat) (rd : Nat) (ca : Nat) (qn : Int32) (rv : Nat) (f1 : Nat → Int32) (f2 : Nat → Int32) (sz : Nat)  : Met l yX3_init (Cond.code yX3_init cX3_init 4 none :: lwG) ({ frames := 4, cells := 7, slots := 1047, locals := 85 } : Room) (va_Pc [.ref h0, .ref pr, .ref co, .ref bk] (PL g [(h0, .inr (4, [.null, .null, .null, .null, .null, .null, .null, .null, .int 0, .int 0, .null, .null, .null, .null, .int 0])), (pr, .inr (8, [.ref rd, .ref ca, .int qn, .int 0, .int 0])), (rd, .inr (9, [.ref rv, .int 0])), (rv, .inl (gc g 0, 10, .inl f1)), (ca, .inl (gc g 0, 10, .inl f2))] sz)) (QL none (fun W1 => ∃ q1 q2 q3 q4 q5 q6 q7 : Nat, W1 = [(h0, .inr (4, [.ref pr, .ref co, .ref bk, .ref q1, .ref q4, .ref q5, .ref q6, .ref q7, .int 0, .int 0, .null, .null, .ref q2, .ref q3, .int 0])), (q1, .inr (0, [.int (0 : Int32), .ref (ge g), .int 0])), (q2, .inl (gc g 0, 512, .inl (fun _ => 0))), (q3, .inl (gc g 0, 512, .inl (fun _ => 0))), (q5, .inr (10, [.ref pr, .int (7 : Int32), .int (8 : Int32), .int 0, .int 0])), (q7, .inr (10, [.ref pr, .int (8 : Int32), .int (8 : Int32), .int 0, .int 0])), (q4, .inr (10, [.ref pr, .int (7 : Int32), .int (7 : Int32), .int (1 : Int32), .int 0])), (q6, .inr (10, [.ref pr, .int (8 : Int32), .int (7 : Int32), .int (1 : Int32), .int 0])), (pr, .inr (8, [.ref rd, .ref ca, .int qn, .int 0, .int (0 : Int32)])), (ca, .inl (gc g 0, 10, .inl (upd (upd f2 ((7 : Int32).toNatClampNeg) (7 : Int32)) ((8 : Int32).toNatClampNeg) (7 : Int32)))), (rd, .inr (9, [.ref rv, .int 0])), (rv, .inl (gc g 0, 10, .inl f1))]) g [(h0, .inr (4, [.null, .null, .null, .null, .null, .null, .null, .null, .int 0, .int 0, .null, .null, .null, .null, .int 0])), (pr, .inr (8, [.ref rd, .ref ca, .int qn, .int 0, .int 0])), (rd, .inr (9, [.ref rv, .int 0])), (rv, .inl (gc g 0, 10, .inl f1)), (ca, .inl (gc g 0, 10, .inl f2))] sz) 7 1047 (va_A [(h0, .inr (4, [.null, .null, .null, .null, .null, .null, .null, .null, .int 0, .int 0, .null, .null, .null, .null, .int 0])), (pr, .inr (8, [.ref rd, .ref ca, .int qn, .int 0, .int 0])), (rd, .inr (9, [.ref rv, .int 0])), (rv, .inl (gc g 0, 10, .inl f1)), (ca, .inl (gc g 0, 10, .inl f2))] sz) := by
  refine Met.ofW (cc := cX3_init) (maxL := 4) (ret := none) (by decide +kernel) rfl ?_
  intro p e s m args below meth c s₁ Bd hml hv
  obtain ⟨ha, hsz, hC, hE, hr, hlk, hP, hD0, hnm⟩ := l_start Bd hv
  subst ha
  subst hsz
  have hC : CX p s m ([.ref h0, .ref pr, .ref co, .ref bk] : List Value).toArray c cX3_init RX3 g := hC
  obtain ⟨A, hAd⟩ : ∃ A, A = va_A [(h0, .inr (4, [.null, .null, .null, .null, .null, .null, .null, .null, .int 0, .int 0, .null, .null, .null, .null, .int 0])), (pr, .inr (8, [.ref rd, .ref ca, .int qn, .int 0, .int 0])), (rd, .inr (9, [.ref rv, .int 0])), (rv, .inl (gc g 0, 10, .inl f1)), (ca, .inl (gc g 0, 10, .inl f2))] s.heap.size := ⟨_, rfl⟩
  have hAg : ∀ q, A q → gP g q := by rw [hAd]; exact A_gP hD0 hC.2.2.2.2.2.1
  have hA : ∀ q, s.heap.size ≤ q → A q := by rw [hAd]; exact fun q h => Or.inr h
  have hD : va_D A [(h0, .inr (4, [.null, .null, .null, .null, .null, .null, .null, .null, .int 0, .int 0, .null, .null, .null, .null, .int 0])), (pr, .inr (8, [.ref rd, .ref ca, .int qn, .int 0, .int 0])), (rd, .inr (9, [.ref rv, .int 0])), (rv, .inl (gc g 0, 10, .inl f1)), (ca, .inl (gc g 0, 10, .inl f2))] := by rw [hAd]; exact hD0.self (sz := s.heap.size)
  have hS : va_S A s.heap s.heap [] := va_S.rf
  obtain ⟨ls, he, hl⟩ := g_entry m (vs := [.ref h0, .ref pr, .ref co, .ref bk]) (n := 4) (List.forall_mem_cons.mpr ⟨rfl, (List.forall_mem_cons.mpr ⟨rfl, (List.forall_mem_cons.mpr ⟨rfl, (List.forall_mem_cons.mpr ⟨rfl, (fun _ h => absurd h List.not_mem_nil)⟩)⟩)⟩)⟩) (Nat.le_of_ble_eq_true rfl)
  rw [he]
  have hl : lv_has ls 4 [(0, .ref h0), (1, .ref pr), (2, .ref co), (3, .ref bk)] := hl
  refine lv_aload_n hC.1 hC.2.1 dX3_init_0 rfl (lv_at hl 0 rfl) ?_
  refine W.objInit hC.1 hC.2.1 hC.2.2.1 (hC.2.2.2.1 _ wd_400) (hC.2.2.2.1 _ wd_29) (hC.2.2.2.1 _ wd_30) rfl (by rw [hml]; exact hl.1) rfl dX3_init_1 (Nat.le_of_ble_eq_true rfl) (Nat.le_of_ble_eq_true rfl) ?_
  refine W.eq (g2 := F0 m 4 ls []) rfl ?_
  refine lv_aload_n hC.1 hC.2.1 dX3_init_4 rfl (lv_at hl 0 rfl) ?_
  refine va_new (ci := 0) (fs := [.int 0, .null, .int 0]) (C := RJx4a65c) (T := TJx4a65c) (N := 3) hC.1 hC.2.1 hC.2.2.2.1 uw_Jx4a65c tyJx4a65c tyJx4a65c_ok hC.2.2.1 (hC.2.2.2.1 _ wd_401) (hC.2.2.2.1 _ wd_251) (hC.2.2.2.1 _ wd_11) hC.2.2.2.2.1 hP hD hS hA rfl df_Jx4a65c (Nat.le_of_ble_eq_true rfl) (Nat.le_of_ble_eq_true rfl) dX3_init_5 (fun q1 H hP hD hS => ?_)
  have hP : va_P (gD g) vwCl [(h0, .inr (4, [.null, .null, .null, .null, .null, .null, .null, .null, .int 0, .int 0, .null, .null, .null, .null, .int 0])), (pr, .inr (8, [.ref rd, .ref ca, .int qn, .int 0, .int 0])), (rd, .inr (9, [.ref rv, .int 0])), (rv, .inl (gc g 0, 10, .inl f1)), (ca, .inl (gc g 0, 10, .inl f2)), (q1, .inr (0, [.int 0, .null, .int 0]))] H := hP
  have hD : va_D A [(h0, .inr (4, [.null, .null, .null, .null, .null, .null, .null, .null, .int 0, .int 0, .null, .null, .null, .null, .int 0])), (pr, .inr (8, [.ref rd, .ref ca, .int qn, .int 0, .int 0])), (rd, .inr (9, [.ref rv, .int 0])), (rv, .inl (gc g 0, 10, .inl f1)), (ca, .inl (gc g 0, 10, .inl f2)), (q1, .inr (0, [.int 0, .null, .int 0]))] := hD
  refine W.widen (k := 1) (n := 3) (Nat.le_of_ble_eq_true rfl) (Nat.le_of_ble_eq_true rfl) ?_
  refine lv_dup hC.1 hC.2.1 dX3_init_8 rfl ?_
  refine lcallI (As := []) (rest := [.ref q1, .ref h0]) (wr := [(h0, .inr (4, [.null, .null, .null, .null, .null, .null, .null, .null, .int 0, .int 0, .null, .null, .null, .null, .int 0])), (pr, .inr (8, [.ref rd, .ref ca, .int qn, .int 0, .int 0])), (rd, .inr (9, [.ref rv, .int 0])), (rv, .inl (gc g 0, 10, .inl f1)), (ca, .inl (gc g 0, 10, .inl f2))]) hC hE hml hP hD hS hA hAg (l_Jx4a65c_init_da8c8 q1 _ ) ⟨wd_402, wd_253, wd_11, wd_254⟩ rfl hd_Jx4a65c_init_da8c8 rfl rfl ⟨Nat.le_of_ble_eq_true rfl, Nat.le_of_ble_eq_true rfl⟩ rfl hl.1 rfl (Nat.le_of_ble_eq_true rfl) dX3_init_9 ⟨Nat.le_of_ble_eq_true rfl, Nat.le_of_ble_eq_true rfl⟩ [5] [0, 1, 2, 3, 4] rfl rfl (by decide) (by decide) (by decide) (fun W1 H locs hB hP hD hS => ?_)
  subst hB
  have hP : va_P (gD g) vwCl [(h0, .inr (4, [.null, .null, .null, .null, .null, .null, .null, .null, .int 0, .int 0, .null, .null, .null, .null, .int 0])), (pr, .inr (8, [.ref rd, .ref ca, .int qn, .int 0, .int 0])), (rd, .inr (9, [.ref rv, .int 0])), (rv, .inl (gc g 0, 10, .inl f1)), (ca, .inl (gc g 0, 10, .inl f2)), (q1, .inr (0, [.int (0 : Int32), .ref (ge g), .int 0]))] H := hP
  have hD : va_D A [(h0, .inr (4, [.null, .null, .null, .null, .null, .null, .null, .null, .int 0, .int 0, .null, .null, .null, .null, .int 0])), (pr, .inr (8, [.ref rd, .ref ca, .int qn, .int 0, .int 0])), (rd, .inr (9, [.ref rv, .int 0])), (rv, .inl (gc g 0, 10, .inl f1)), (ca, .inl (gc g 0, 10, .inl f2)), (q1, .inr (0, [.int (0 : Int32), .ref (ge g), .int 0]))] := hD
  refine W.eq (g2 := F0 m 12 ls [.ref q1, .ref h0]) rfl ?_
  refine va_putF (D := gD g) (ci := 4) (v := .ref q1) (ty := .object "java/util/ArrayList") (C := RX3) (T := TX3) (N := 15) hC.1 hC.2.1 hC.2.2.2.1 uw_X3 tyX3 tyX3_ok nmX3 hC.2.2.1 hC.2.2.2.2.1 hP hD hS 0 rfl rfl 3 (by decide) (hC.2.2.2.1 _ wd_409) (fun _ h9 => h9) rfl (hnm.trans rfl) rfl (by decide +kernel) rfl rfl (Nat.le_of_ble_eq_true rfl) dX3_init_12 (fun H locs hP hD hS => ?_)
  have hP : va_P (gD g) vwCl [(h0, .inr (4, [.null, .null, .null, .ref q1, .null, .null, .null, .null, .int 0, .int 0, .null, .null, .null, .null, .int 0])), (pr, .inr (8, [.ref rd, .ref ca, .int qn, .int 0, .int 0])), (rd, .inr (9, [.ref rv, .int 0])), (rv, .inl (gc g 0, 10, .inl f1)), (ca, .inl (gc g 0, 10, .inl f2)), (q1, .inr (0, [.int (0 : Int32), .ref (ge g), .int 0]))] H := hP
  have hD : va_D A [(h0, .inr (4, [.null, .null, .null, .ref q1, .null, .null, .null, .null, .int 0, .int 0, .null, .null, .null, .null, .int 0])), (pr, .inr (8, [.ref rd, .ref ca, .int qn, .int 0, .int 0])), (rd, .inr (9, [.ref rv, .int 0])), (rv, .inl (gc g 0, 10, .inl f1)), (ca, .inl (gc g 0, 10, .inl f2)), (q1, .inr (0, [.int (0 : Int32), .ref (ge g), .int 0]))] := hD
  refine lv_aload_n hC.1 hC.2.1 dX3_init_15 rfl (lv_at hl 0 rfl) ?_
  refine lv_sipush (v := (512 : Int32)) hC.1 hC.2.1 dX3_init_16 (by decide) ?_
  refine nw_i (N := 512) hC hP hD hS hA wd_60 (by decide) (by decide) (by decide) (Nat.le_of_ble_eq_true rfl) (Nat.le_of_ble_eq_true rfl) dX3_init_19 (fun q2 H hP hD hS => ?_)
  have hP : va_P (gD g) vwCl [(h0, .inr (4, [.null, .null, .null, .ref q1, .null, .null, .null, .null, .int 0, .int 0, .null, .null, .null, .null, .int 0])), (pr, .inr (8, [.ref rd, .ref ca, .int qn, .int 0, .int 0])), (rd, .inr (9, [.ref rv, .int 0])), (rv, .inl (gc g 0, 10, .inl f1)), (ca, .inl (gc g 0, 10, .inl f2)), (q1, .inr (0, [.int (0 : Int32), .ref (ge g), .int 0])), (q2, .inl (gc g 0, 512, .inl (fun _ => 0)))] H := hP
  have hD : va_D A [(h0, .inr (4, [.null, .null, .null, .ref q1, .null, .null, .null, .null, .int 0, .int 0, .null, .null, .null, .null, .int 0])), (pr, .inr (8, [.ref rd, .ref ca, .int qn, .int 0, .int 0])), (rd, .inr (9, [.ref rv, .int 0])), (rv, .inl (gc g 0, 10, .inl f1)), (ca, .inl (gc g 0, 10, .inl f2)), (q1, .inr (0, [.int (0 : Int32), .ref (ge g), .int 0])), (q2, .inl (gc g 0, 512, .inl (fun _ => 0)))] := hD
  refine W.widen (k := 2) (n := 515) (Nat.le_of_ble_eq_true rfl) (Nat.le_of_ble_eq_true rfl) ?_
  refine va_putF (D := gD g) (ci := 4) (v := .ref q2) (ty := .array (.int)) (C := RX3) (T := TX3) (N := 15) hC.1 hC.2.1 hC.2.2.2.1 uw_X3 tyX3 tyX3_ok nmX3 hC.2.2.1 hC.2.2.2.2.1 hP hD hS 0 rfl rfl 12 (by decide) (hC.2.2.2.1 _ wd_420) (fun _ h9 => h9) rfl (hnm.trans rfl) rfl (by decide +kernel) rfl rfl (Nat.le_of_ble_eq_true rfl) dX3_init_21 (fun H locs hP hD hS => ?_)
  have hP : va_P (gD g) vwCl [(h0, .inr (4, [.null, .null, .null, .ref q1, .null, .null, .null, .null, .int 0, .int 0, .null, .null, .ref q2, .null, .int 0])), (pr, .inr (8, [.ref rd, .ref ca, .int qn, .int 0, .int 0])), (rd, .inr (9, [.ref rv, .int 0])), (rv, .inl (gc g 0, 10, .inl f1)), (ca, .inl (gc g 0, 10, .inl f2)), (q1, .inr (0, [.int (0 : Int32), .ref (ge g), .int 0])), (q2, .inl (gc g 0, 512, .inl (fun _ => 0)))] H := hP
  have hD : va_D A [(h0, .inr (4, [.null, .null, .null, .ref q1, .null, .null, .null, .null, .int 0, .int 0, .null, .null, .ref q2, .null, .int 0])), (pr, .inr (8, [.ref rd, .ref ca, .int qn, .int 0, .int 0])), (rd, .inr (9, [.ref rv, .int 0])), (rv, .inl (gc g 0, 10, .inl f1)), (ca, .inl (gc g 0, 10, .inl f2)), (q1, .inr (0, [.int (0 : Int32), .ref (ge g), .int 0])), (q2, .inl (gc g 0, 512, .inl (fun _ => 0)))] := hD
  refine lv_aload_n hC.1 hC.2.1 dX3_init_24 rfl (lv_at hl 0 rfl) ?_
  refine lv_sipush (v := (512 : Int32)) hC.1 hC.2.1 dX3_init_25 (by decide) ?_
  refine nw_i (N := 512) hC hP hD hS hA wd_60 (by decide) (by decide) (by decide) (Nat.le_of_ble_eq_true rfl) (Nat.le_of_ble_eq_true rfl) dX3_init_28 (fun q3 H hP hD hS => ?_)
  have hP : va_P (gD g) vwCl [(h0, .inr (4, [.null, .null, .null, .ref q1, .null, .null, .null, .null, .int 0, .int 0, .null, .null, .ref q2, .null, .int 0])), (pr, .inr (8, [.ref rd, .ref ca, .int qn, .int 0, .int 0])), (rd, .inr (9, [.ref rv, .int 0])), (rv, .inl (gc g 0, 10, .inl f1)), (ca, .inl (gc g 0, 10, .inl f2)), (q1, .inr (0, [.int (0 : Int32), .ref (ge g), .int 0])), (q2, .inl (gc g 0, 512, .inl (fun _ => 0))), (q3, .inl (gc g 0, 512, .inl (fun _ => 0)))] H := hP
  have hD : va_D A [(h0, .inr (4, [.null, .null, .null, .ref q1, .null, .null, .null, .null, .int 0, .int 0, .null, .null, .ref q2, .null, .int 0])), (pr, .inr (8, [.ref rd, .ref ca, .int qn, .int 0, .int 0])), (rd, .inr (9, [.ref rv, .int 0])), (rv, .inl (gc g 0, 10, .inl f1)), (ca, .inl (gc g 0, 10, .inl f2)), (q1, .inr (0, [.int (0 : Int32), .ref (ge g), .int 0])), (q2, .inl (gc g 0, 512, .inl (fun _ => 0))), (q3, .inl (gc g 0, 512, .inl (fun _ => 0)))] := hD
  refine W.widen (k := 3) (n := 1027) (Nat.le_of_ble_eq_true rfl) (Nat.le_of_ble_eq_true rfl) ?_
  refine va_putF (D := gD g) (ci := 4) (v := .ref q3) (ty := .array (.int)) (C := RX3) (T := TX3) (N := 15) hC.1 hC.2.1 hC.2.2.2.1 uw_X3 tyX3 tyX3_ok nmX3 hC.2.2.1 hC.2.2.2.2.1 hP hD hS 0 rfl rfl 13 (by decide) (hC.2.2.2.1 _ wd_421) (fun _ h9 => h9) rfl (hnm.trans rfl) rfl (by decide +kernel) rfl rfl (Nat.le_of_ble_eq_true rfl) dX3_init_30 (fun H locs hP hD hS => ?_)
  have hP : va_P (gD g) vwCl [(h0, .inr (4, [.null, .null, .null, .ref q1, .null, .null, .null, .null, .int 0, .int 0, .null, .null, .ref q2, .ref q3, .int 0])), (pr, .inr (8, [.ref rd, .ref ca, .int qn, .int 0, .int 0])), (rd, .inr (9, [.ref rv, .int 0])), (rv, .inl (gc g 0, 10, .inl f1)), (ca, .inl (gc g 0, 10, .inl f2)), (q1, .inr (0, [.int (0 : Int32), .ref (ge g), .int 0])), (q2, .inl (gc g 0, 512, .inl (fun _ => 0))), (q3, .inl (gc g 0, 512, .inl (fun _ => 0)))] H := hP
  have hD : va_D A [(h0, .inr (4, [.null, .null, .null, .ref q1, .null, .null, .null, .null, .int 0, .int 0, .null, .null, .ref q2, .ref q3, .int 0])), (pr, .inr (8, [.ref rd, .ref ca, .int qn, .int 0, .int 0])), (rd, .inr (9, [.ref rv, .int 0])), (rv, .inl (gc g 0, 10, .inl f1)), (ca, .inl (gc g 0, 10, .inl f2)), (q1, .inr (0, [.int (0 : Int32), .ref (ge g), .int 0])), (q2, .inl (gc g 0, 512, .inl (fun _ => 0))), (q3, .inl (gc g 0, 512, .inl (fun _ => 0)))] := hD
  refine lv_aload_n hC.1 hC.2.1 dX3_init_33 rfl (lv_at hl 0 rfl) ?_
  refine lv_aload_n hC.1 hC.2.1 dX3_init_34 rfl (lv_at hl 1 rfl) ?_
  refine va_putF (D := gD g) (ci := 4) (v := .ref pr) (ty := .object "DrumLayers$Processor") (C := RX3) (T := TX3) (N := 15) hC.1 hC.2.1 hC.2.2.2.1 uw_X3 tyX3 tyX3_ok nmX3 hC.2.2.1 hC.2.2.2.2.1 hP hD hS 0 rfl rfl 0 (by decide) (hC.2.2.2.1 _ wd_406) (fun _ h9 => h9) rfl (hnm.trans rfl) rfl (by decide +kernel) rfl rfl (Nat.le_of_ble_eq_true rfl) dX3_init_35 (fun H locs hP hD hS => ?_)
  have hP : va_P (gD g) vwCl [(h0, .inr (4, [.ref pr, .null, .null, .ref q1, .null, .null, .null, .null, .int 0, .int 0, .null, .null, .ref q2, .ref q3, .int 0])), (pr, .inr (8, [.ref rd, .ref ca, .int qn, .int 0, .int 0])), (rd, .inr (9, [.ref rv, .int 0])), (rv, .inl (gc g 0, 10, .inl f1)), (ca, .inl (gc g 0, 10, .inl f2)), (q1, .inr (0, [.int (0 : Int32), .ref (ge g), .int 0])), (q2, .inl (gc g 0, 512, .inl (fun _ => 0))), (q3, .inl (gc g 0, 512, .inl (fun _ => 0)))] H := hP
  have hD : va_D A [(h0, .inr (4, [.ref pr, .null, .null, .ref q1, .null, .null, .null, .null, .int 0, .int 0, .null, .null, .ref q2, .ref q3, .int 0])), (pr, .inr (8, [.ref rd, .ref ca, .int qn, .int 0, .int 0])), (rd, .inr (9, [.ref rv, .int 0])), (rv, .inl (gc g 0, 10, .inl f1)), (ca, .inl (gc g 0, 10, .inl f2)), (q1, .inr (0, [.int (0 : Int32), .ref (ge g), .int 0])), (q2, .inl (gc g 0, 512, .inl (fun _ => 0))), (q3, .inl (gc g 0, 512, .inl (fun _ => 0)))] := hD
  refine lv_aload_n hC.1 hC.2.1 dX3_init_38 rfl (lv_at hl 0 rfl) ?_
  refine lv_aload_n hC.1 hC.2.1 dX3_init_39 rfl (lv_at hl 2 rfl) ?_
  refine va_putF (D := gD g) (ci := 4) (v := .ref co) (ty := .object "DrumLayers$Core") (C := RX3) (T := TX3) (N := 15) hC.1 hC.2.1 hC.2.2.2.1 uw_X3 tyX3 tyX3_ok nmX3 hC.2.2.1 hC.2.2.2.2.1 hP hD hS 0 rfl rfl 1 (by decide) (hC.2.2.2.1 _ wd_407) (fun _ h9 => h9) rfl (hnm.trans rfl) rfl (by decide +kernel) rfl rfl (Nat.le_of_ble_eq_true rfl) dX3_init_40 (fun H locs hP hD hS => ?_)
  have hP : va_P (gD g) vwCl [(h0, .inr (4, [.ref pr, .ref co, .null, .ref q1, .null, .null, .null, .null, .int 0, .int 0, .null, .null, .ref q2, .ref q3, .int 0])), (pr, .inr (8, [.ref rd, .ref ca, .int qn, .int 0, .int 0])), (rd, .inr (9, [.ref rv, .int 0])), (rv, .inl (gc g 0, 10, .inl f1)), (ca, .inl (gc g 0, 10, .inl f2)), (q1, .inr (0, [.int (0 : Int32), .ref (ge g), .int 0])), (q2, .inl (gc g 0, 512, .inl (fun _ => 0))), (q3, .inl (gc g 0, 512, .inl (fun _ => 0)))] H := hP
  have hD : va_D A [(h0, .inr (4, [.ref pr, .ref co, .null, .ref q1, .null, .null, .null, .null, .int 0, .int 0, .null, .null, .ref q2, .ref q3, .int 0])), (pr, .inr (8, [.ref rd, .ref ca, .int qn, .int 0, .int 0])), (rd, .inr (9, [.ref rv, .int 0])), (rv, .inl (gc g 0, 10, .inl f1)), (ca, .inl (gc g 0, 10, .inl f2)), (q1, .inr (0, [.int (0 : Int32), .ref (ge g), .int 0])), (q2, .inl (gc g 0, 512, .inl (fun _ => 0))), (q3, .inl (gc g 0, 512, .inl (fun _ => 0)))] := hD
  refine lv_aload_n hC.1 hC.2.1 dX3_init_43 rfl (lv_at hl 0 rfl) ?_
  refine lv_aload_n hC.1 hC.2.1 dX3_init_44 rfl (lv_at hl 3 rfl) ?_
  refine va_putF (D := gD g) (ci := 4) (v := .ref bk) (ty := .object "DrumLayers$Bank") (C := RX3) (T := TX3) (N := 15) hC.1 hC.2.1 hC.2.2.2.1 uw_X3 tyX3 tyX3_ok nmX3 hC.2.2.1 hC.2.2.2.2.1 hP hD hS 0 rfl rfl 2 (by decide) (hC.2.2.2.1 _ wd_408) (fun _ h9 => h9) rfl (hnm.trans rfl) rfl (by decide +kernel) rfl rfl (Nat.le_of_ble_eq_true rfl) dX3_init_45 (fun H locs hP hD hS => ?_)
  have hP : va_P (gD g) vwCl [(h0, .inr (4, [.ref pr, .ref co, .ref bk, .ref q1, .null, .null, .null, .null, .int 0, .int 0, .null, .null, .ref q2, .ref q3, .int 0])), (pr, .inr (8, [.ref rd, .ref ca, .int qn, .int 0, .int 0])), (rd, .inr (9, [.ref rv, .int 0])), (rv, .inl (gc g 0, 10, .inl f1)), (ca, .inl (gc g 0, 10, .inl f2)), (q1, .inr (0, [.int (0 : Int32), .ref (ge g), .int 0])), (q2, .inl (gc g 0, 512, .inl (fun _ => 0))), (q3, .inl (gc g 0, 512, .inl (fun _ => 0)))] H := hP
  have hD : va_D A [(h0, .inr (4, [.ref pr, .ref co, .ref bk, .ref q1, .null, .null, .null, .null, .int 0, .int 0, .null, .null, .ref q2, .ref q3, .int 0])), (pr, .inr (8, [.ref rd, .ref ca, .int qn, .int 0, .int 0])), (rd, .inr (9, [.ref rv, .int 0])), (rv, .inl (gc g 0, 10, .inl f1)), (ca, .inl (gc g 0, 10, .inl f2)), (q1, .inr (0, [.int (0 : Int32), .ref (ge g), .int 0])), (q2, .inl (gc g 0, 512, .inl (fun _ => 0))), (q3, .inl (gc g 0, 512, .inl (fun _ => 0)))] := hD
  refine lv_aload_n hC.1 hC.2.1 dX3_init_48 rfl (lv_at hl 0 rfl) ?_
  refine va_new (ci := 10) (fs := [.null, .int 0, .int 0, .int 0, .int 0]) (C := RX9) (T := TX9) (N := 5) hC.1 hC.2.1 hC.2.2.2.1 uw_X9 tyX9 tyX9_ok hC.2.2.1 (hC.2.2.2.1 _ wd_403) (hC.2.2.2.1 _ wd_277) (hC.2.2.2.1 _ wd_12) hC.2.2.2.2.1 hP hD hS hA rfl df_X9 (Nat.le_of_ble_eq_true rfl) (Nat.le_of_ble_eq_true rfl) dX3_init_49 (fun q4 H hP hD hS => ?_)
  have hP : va_P (gD g) vwCl [(h0, .inr (4, [.ref pr, .ref co, .ref bk, .ref q1, .null, .null, .null, .null, .int 0, .int 0, .null, .null, .ref q2, .ref q3, .int 0])), (pr, .inr (8, [.ref rd, .ref ca, .int qn, .int 0, .int 0])), (rd, .inr (9, [.ref rv, .int 0])), (rv, .inl (gc g 0, 10, .inl f1)), (ca, .inl (gc g 0, 10, .inl f2)), (q1, .inr (0, [.int (0 : Int32), .ref (ge g), .int 0])), (q2, .inl (gc g 0, 512, .inl (fun _ => 0))), (q3, .inl (gc g 0, 512, .inl (fun _ => 0))), (q4, .inr (10, [.null, .int 0, .int 0, .int 0, .int 0]))] H := hP
  have hD : va_D A [(h0, .inr (4, [.ref pr, .ref co, .ref bk, .ref q1, .null, .null, .null, .null, .int 0, .int 0, .null, .null, .ref q2, .ref q3, .int 0])), (pr, .inr (8, [.ref rd, .ref ca, .int qn, .int 0, .int 0])), (rd, .inr (9, [.ref rv, .int 0])), (rv, .inl (gc g 0, 10, .inl f1)), (ca, .inl (gc g 0, 10, .inl f2)), (q1, .inr (0, [.int (0 : Int32), .ref (ge g), .int 0])), (q2, .inl (gc g 0, 512, .inl (fun _ => 0))), (q3, .inl (gc g 0, 512, .inl (fun _ => 0))), (q4, .inr (10, [.null, .int 0, .int 0, .int 0, .int 0]))] := hD
  refine W.widen (k := 4) (n := 1032) (Nat.le_of_ble_eq_true rfl) (Nat.le_of_ble_eq_true rfl) ?_
  refine lv_dup hC.1 hC.2.1 dX3_init_52 rfl ?_
  refine lv_aload_n hC.1 hC.2.1 dX3_init_53 rfl (lv_at hl 1 rfl) ?_
  refine lv_bipush (v := (7 : Int32)) hC.1 hC.2.1 dX3_init_54 (by decide) ?_
  refine lv_bipush (v := (7 : Int32)) hC.1 hC.2.1 dX3_init_56 (by decide) ?_
  refine lcallI (As := [.ref pr, .int (7 : Int32), .int (7 : Int32)]) (rest := [.ref q4, .ref h0]) (wr := [(h0, .inr (4, [.ref pr, .ref co, .ref bk, .ref q1, .null, .null, .null, .null, .int 0, .int 0, .null, .null, .ref q2, .ref q3, .int 0])), (pr, .inr (8, [.ref rd, .ref ca, .int qn, .int 0, .int 0])), (rd, .inr (9, [.ref rv, .int 0])), (rv, .inl (gc g 0, 10, .inl f1)), (ca, .inl (gc g 0, 10, .inl f2)), (q1, .inr (0, [.int (0 : Int32), .ref (ge g), .int 0])), (q2, .inl (gc g 0, 512, .inl (fun _ => 0))), (q3, .inl (gc g 0, 512, .inl (fun _ => 0)))]) hC hE hml hP hD hS hA hAg (l_X9_init q4 pr (7 : Int32) (7 : Int32) _ ) ⟨wd_404, wd_279, wd_12, wd_280⟩ rfl hd_X9_init rfl rfl ⟨Nat.le_of_ble_eq_true rfl, Nat.le_of_ble_eq_true rfl⟩ rfl hl.1 rfl (Nat.le_of_ble_eq_true rfl) dX3_init_58 ⟨Nat.le_of_ble_eq_true rfl, Nat.le_of_ble_eq_true rfl⟩ [8] [0, 1, 2, 3, 4, 5, 6, 7] rfl rfl (by decide) (by decide) (by decide) (fun W1 H locs hB hP hD hS => ?_)
  subst hB
  have hP : va_P (gD g) vwCl [(h0, .inr (4, [.ref pr, .ref co, .ref bk, .ref q1, .null, .null, .null, .null, .int 0, .int 0, .null, .null, .ref q2, .ref q3, .int 0])), (pr, .inr (8, [.ref rd, .ref ca, .int qn, .int 0, .int 0])), (rd, .inr (9, [.ref rv, .int 0])), (rv, .inl (gc g 0, 10, .inl f1)), (ca, .inl (gc g 0, 10, .inl f2)), (q1, .inr (0, [.int (0 : Int32), .ref (ge g), .int 0])), (q2, .inl (gc g 0, 512, .inl (fun _ => 0))), (q3, .inl (gc g 0, 512, .inl (fun _ => 0))), (q4, .inr (10, [.ref pr, .int (7 : Int32), .int (7 : Int32), .int 0, .int 0]))] H := hP
  have hD : va_D A [(h0, .inr (4, [.ref pr, .ref co, .ref bk, .ref q1, .null, .null, .null, .null, .int 0, .int 0, .null, .null, .ref q2, .ref q3, .int 0])), (pr, .inr (8, [.ref rd, .ref ca, .int qn, .int 0, .int 0])), (rd, .inr (9, [.ref rv, .int 0])), (rv, .inl (gc g 0, 10, .inl f1)), (ca, .inl (gc g 0, 10, .inl f2)), (q1, .inr (0, [.int (0 : Int32), .ref (ge g), .int 0])), (q2, .inl (gc g 0, 512, .inl (fun _ => 0))), (q3, .inl (gc g 0, 512, .inl (fun _ => 0))), (q4, .inr (10, [.ref pr, .int (7 : Int32), .int (7 : Int32), .int 0, .int 0]))] := hD
  refine W.eq (g2 := F0 m 61 ls [.ref q4, .ref h0]) rfl ?_
  refine va_putF (D := gD g) (ci := 4) (v := .ref q4) (ty := .object "DrumLayers$Signal") (C := RX3) (T := TX3) (N := 15) hC.1 hC.2.1 hC.2.2.2.1 uw_X3 tyX3 tyX3_ok nmX3 hC.2.2.1 hC.2.2.2.2.1 hP hD hS 0 rfl rfl 4 (by decide) (hC.2.2.2.1 _ wd_410) (fun _ h9 => h9) rfl (hnm.trans rfl) rfl (by decide +kernel) rfl rfl (Nat.le_of_ble_eq_true rfl) dX3_init_61 (fun H locs hP hD hS => ?_)
  have hP : va_P (gD g) vwCl [(h0, .inr (4, [.ref pr, .ref co, .ref bk, .ref q1, .ref q4, .null, .null, .null, .int 0, .int 0, .null, .null, .ref q2, .ref q3, .int 0])), (pr, .inr (8, [.ref rd, .ref ca, .int qn, .int 0, .int 0])), (rd, .inr (9, [.ref rv, .int 0])), (rv, .inl (gc g 0, 10, .inl f1)), (ca, .inl (gc g 0, 10, .inl f2)), (q1, .inr (0, [.int (0 : Int32), .ref (ge g), .int 0])), (q2, .inl (gc g 0, 512, .inl (fun _ => 0))), (q3, .inl (gc g 0, 512, .inl (fun _ => 0))), (q4, .inr (10, [.ref pr, .int (7 : Int32), .int (7 : Int32), .int 0, .int 0]))] H := hP
  have hD : va_D A [(h0, .inr (4, [.ref pr, .ref co, .ref bk, .ref q1, .ref q4, .null, .null, .null, .int 0, .int 0, .null, .null, .ref q2, .ref q3, .int 0])), (pr, .inr (8, [.ref rd, .ref ca, .int qn, .int 0, .int 0])), (rd, .inr (9, [.ref rv, .int 0])), (rv, .inl (gc g 0, 10, .inl f1)), (ca, .inl (gc g 0, 10, .inl f2)), (q1, .inr (0, [.int (0 : Int32), .ref (ge g), .int 0])), (q2, .inl (gc g 0, 512, .inl (fun _ => 0))), (q3, .inl (gc g 0, 512, .inl (fun _ => 0))), (q4, .inr (10, [.ref pr, .int (7 : Int32), .int (7 : Int32), .int 0, .int 0]))] := hD
  refine lv_aload_n hC.1 hC.2.1 dX3_init_64 rfl (lv_at hl 0 rfl) ?_
  refine va_new (ci := 10) (fs := [.null, .int 0, .int 0, .int 0, .int 0]) (C := RX9) (T := TX9) (N := 5) hC.1 hC.2.1 hC.2.2.2.1 uw_X9 tyX9 tyX9_ok hC.2.2.1 (hC.2.2.2.1 _ wd_403) (hC.2.2.2.1 _ wd_277) (hC.2.2.2.1 _ wd_12) hC.2.2.2.2.1 hP hD hS hA rfl df_X9 (Nat.le_of_ble_eq_true rfl) (Nat.le_of_ble_eq_true rfl) dX3_init_65 (fun q5 H hP hD hS => ?_)
  have hP : va_P (gD g) vwCl [(h0, .inr (4, [.ref pr, .ref co, .ref bk, .ref q1, .ref q4, .null, .null, .null, .int 0, .int 0, .null, .null, .ref q2, .ref q3, .int 0])), (pr, .inr (8, [.ref rd, .ref ca, .int qn, .int 0, .int 0])), (rd, .inr (9, [.ref rv, .int 0])), (rv, .inl (gc g 0, 10, .inl f1)), (ca, .inl (gc g 0, 10, .inl f2)), (q1, .inr (0, [.int (0 : Int32), .ref (ge g), .int 0])), (q2, .inl (gc g 0, 512, .inl (fun _ => 0))), (q3, .inl (gc g 0, 512, .inl (fun _ => 0))), (q4, .inr (10, [.ref pr, .int (7 : Int32), .int (7 : Int32), .int 0, .int 0])), (q5, .inr (10, [.null, .int 0, .int 0, .int 0, .int 0]))] H := hP
  have hD : va_D A [(h0, .inr (4, [.ref pr, .ref co, .ref bk, .ref q1, .ref q4, .null, .null, .null, .int 0, .int 0, .null, .null, .ref q2, .ref q3, .int 0])), (pr, .inr (8, [.ref rd, .ref ca, .int qn, .int 0, .int 0])), (rd, .inr (9, [.ref rv, .int 0])), (rv, .inl (gc g 0, 10, .inl f1)), (ca, .inl (gc g 0, 10, .inl f2)), (q1, .inr (0, [.int (0 : Int32), .ref (ge g), .int 0])), (q2, .inl (gc g 0, 512, .inl (fun _ => 0))), (q3, .inl (gc g 0, 512, .inl (fun _ => 0))), (q4, .inr (10, [.ref pr, .int (7 : Int32), .int (7 : Int32), .int 0, .int 0])), (q5, .inr (10, [.null, .int 0, .int 0, .int 0, .int 0]))] := hD
  refine W.widen (k := 5) (n := 1037) (Nat.le_of_ble_eq_true rfl) (Nat.le_of_ble_eq_true rfl) ?_
  refine lv_dup hC.1 hC.2.1 dX3_init_68 rfl ?_
  refine lv_aload_n hC.1 hC.2.1 dX3_init_69 rfl (lv_at hl 1 rfl) ?_
  refine lv_bipush (v := (7 : Int32)) hC.1 hC.2.1 dX3_init_70 (by decide) ?_
  refine lv_bipush (v := (8 : Int32)) hC.1 hC.2.1 dX3_init_72 (by decide) ?_
  refine lcallI (As := [.ref pr, .int (7 : Int32), .int (8 : Int32)]) (rest := [.ref q5, .ref h0]) (wr := [(h0, .inr (4, [.ref pr, .ref co, .ref bk, .ref q1, .ref q4, .null, .null, .null, .int 0, .int 0, .null, .null, .ref q2, .ref q3, .int 0])), (pr, .inr (8, [.ref rd, .ref ca, .int qn, .int 0, .int 0])), (rd, .inr (9, [.ref rv, .int 0])), (rv, .inl (gc g 0, 10, .inl f1)), (ca, .inl (gc g 0, 10, .inl f2)), (q1, .inr (0, [.int (0 : Int32), .ref (ge g), .int 0])), (q2, .inl (gc g 0, 512, .inl (fun _ => 0))), (q3, .inl (gc g 0, 512, .inl (fun _ => 0))), (q4, .inr (10, [.ref pr, .int (7 : Int32), .int (7 : Int32), .int 0, .int 0]))]) hC hE hml hP hD hS hA hAg (l_X9_init q5 pr (7 : Int32) (8 : Int32) _ ) ⟨wd_404, wd_279, wd_12, wd_280⟩ rfl hd_X9_init rfl rfl ⟨Nat.le_of_ble_eq_true rfl, Nat.le_of_ble_eq_true rfl⟩ rfl hl.1 rfl (Nat.le_of_ble_eq_true rfl) dX3_init_74 ⟨Nat.le_of_ble_eq_true rfl, Nat.le_of_ble_eq_true rfl⟩ [9] [0, 1, 2, 3, 4, 5, 6, 7, 8] rfl rfl (by decide) (by decide) (by decide) (fun W1 H locs hB hP hD hS => ?_)
  subst hB
  have hP : va_P (gD g) vwCl [(h0, .inr (4, [.ref pr, .ref co, .ref bk, .ref q1, .ref q4, .null, .null, .null, .int 0, .int 0, .null, .null, .ref q2, .ref q3, .int 0])), (pr, .inr (8, [.ref rd, .ref ca, .int qn, .int 0, .int 0])), (rd, .inr (9, [.ref rv, .int 0])), (rv, .inl (gc g 0, 10, .inl f1)), (ca, .inl (gc g 0, 10, .inl f2)), (q1, .inr (0, [.int (0 : Int32), .ref (ge g), .int 0])), (q2, .inl (gc g 0, 512, .inl (fun _ => 0))), (q3, .inl (gc g 0, 512, .inl (fun _ => 0))), (q4, .inr (10, [.ref pr, .int (7 : Int32), .int (7 : Int32), .int 0, .int 0])), (q5, .inr (10, [.ref pr, .int (7 : Int32), .int (8 : Int32), .int 0, .int 0]))] H := hP
  have hD : va_D A [(h0, .inr (4, [.ref pr, .ref co, .ref bk, .ref q1, .ref q4, .null, .null, .null, .int 0, .int 0, .null, .null, .ref q2, .ref q3, .int 0])), (pr, .inr (8, [.ref rd, .ref ca, .int qn, .int 0, .int 0])), (rd, .inr (9, [.ref rv, .int 0])), (rv, .inl (gc g 0, 10, .inl f1)), (ca, .inl (gc g 0, 10, .inl f2)), (q1, .inr (0, [.int (0 : Int32), .ref (ge g), .int 0])), (q2, .inl (gc g 0, 512, .inl (fun _ => 0))), (q3, .inl (gc g 0, 512, .inl (fun _ => 0))), (q4, .inr (10, [.ref pr, .int (7 : Int32), .int (7 : Int32), .int 0, .int 0])), (q5, .inr (10, [.ref pr, .int (7 : Int32), .int (8 : Int32), .int 0, .int 0]))] := hD
  refine W.eq (g2 := F0 m 77 ls [.ref q5, .ref h0]) rfl ?_
  refine va_putF (D := gD g) (ci := 4) (v := .ref q5) (ty := .object "DrumLayers$Signal") (C := RX3) (T := TX3) (N := 15) hC.1 hC.2.1 hC.2.2.2.1 uw_X3 tyX3 tyX3_ok nmX3 hC.2.2.1 hC.2.2.2.2.1 hP hD hS 0 rfl rfl 5 (by decide) (hC.2.2.2.1 _ wd_411) (fun _ h9 => h9) rfl (hnm.trans rfl) rfl (by decide +kernel) rfl rfl (Nat.le_of_ble_eq_true rfl) dX3_init_77 (fun H locs hP hD hS => ?_)
  have hP : va_P (gD g) vwCl [(h0, .inr (4, [.ref pr, .ref co, .ref bk, .ref q1, .ref q4, .ref q5, .null, .null, .int 0, .int 0, .null, .null, .ref q2, .ref q3, .int 0])), (pr, .inr (8, [.ref rd, .ref ca, .int qn, .int 0, .int 0])), (rd, .inr (9, [.ref rv, .int 0])), (rv, .inl (gc g 0, 10, .inl f1)), (ca, .inl (gc g 0, 10, .inl f2)), (q1, .inr (0, [.int (0 : Int32), .ref (ge g), .int 0])), (q2, .inl (gc g 0, 512, .inl (fun _ => 0))), (q3, .inl (gc g 0, 512, .inl (fun _ => 0))), (q4, .inr (10, [.ref pr, .int (7 : Int32), .int (7 : Int32), .int 0, .int 0])), (q5, .inr (10, [.ref pr, .int (7 : Int32), .int (8 : Int32), .int 0, .int 0]))] H := hP
  have hD : va_D A [(h0, .inr (4, [.ref pr, .ref co, .ref bk, .ref q1, .ref q4, .ref q5, .null, .null, .int 0, .int 0, .null, .null, .ref q2, .ref q3, .int 0])), (pr, .inr (8, [.ref rd, .ref ca, .int qn, .int 0, .int 0])), (rd, .inr (9, [.ref rv, .int 0])), (rv, .inl (gc g 0, 10, .inl f1)), (ca, .inl (gc g 0, 10, .inl f2)), (q1, .inr (0, [.int (0 : Int32), .ref (ge g), .int 0])), (q2, .inl (gc g 0, 512, .inl (fun _ => 0))), (q3, .inl (gc g 0, 512, .inl (fun _ => 0))), (q4, .inr (10, [.ref pr, .int (7 : Int32), .int (7 : Int32), .int 0, .int 0])), (q5, .inr (10, [.ref pr, .int (7 : Int32), .int (8 : Int32), .int 0, .int 0]))] := hD
  refine lv_aload_n hC.1 hC.2.1 dX3_init_80 rfl (lv_at hl 0 rfl) ?_
  refine va_new (ci := 10) (fs := [.null, .int 0, .int 0, .int 0, .int 0]) (C := RX9) (T := TX9) (N := 5) hC.1 hC.2.1 hC.2.2.2.1 uw_X9 tyX9 tyX9_ok hC.2.2.1 (hC.2.2.2.1 _ wd_403) (hC.2.2.2.1 _ wd_277) (hC.2.2.2.1 _ wd_12) hC.2.2.2.2.1 hP hD hS hA rfl df_X9 (Nat.le_of_ble_eq_true rfl) (Nat.le_of_ble_eq_true rfl) dX3_init_81 (fun q6 H hP hD hS => ?_)
  have hP : va_P (gD g) vwCl [(h0, .inr (4, [.ref pr, .ref co, .ref bk, .ref q1, .ref q4, .ref q5, .null, .null, .int 0, .int 0, .null, .null, .ref q2, .ref q3, .int 0])), (pr, .inr (8, [.ref rd, .ref ca, .int qn, .int 0, .int 0])), (rd, .inr (9, [.ref rv, .int 0])), (rv, .inl (gc g 0, 10, .inl f1)), (ca, .inl (gc g 0, 10, .inl f2)), (q1, .inr (0, [.int (0 : Int32), .ref (ge g), .int 0])), (q2, .inl (gc g 0, 512, .inl (fun _ => 0))), (q3, .inl (gc g 0, 512, .inl (fun _ => 0))), (q4, .inr (10, [.ref pr, .int (7 : Int32), .int (7 : Int32), .int 0, .int 0])), (q5, .inr (10, [.ref pr, .int (7 : Int32), .int (8 : Int32), .int 0, .int 0])), (q6, .inr (10, [.null, .int 0, .int 0, .int 0, .int 0]))] H := hP
  have hD : va_D A [(h0, .inr (4, [.ref pr, .ref co, .ref bk, .ref q1, .ref q4, .ref q5, .null, .null, .int 0, .int 0, .null, .null, .ref q2, .ref q3, .int 0])), (pr, .inr (8, [.ref rd, .ref ca, .int qn, .int 0, .int 0])), (rd, .inr (9, [.ref rv, .int 0])), (rv, .inl (gc g 0, 10, .inl f1)), (ca, .inl (gc g 0, 10, .inl f2)), (q1, .inr (0, [.int (0 : Int32), .ref (ge g), .int 0])), (q2, .inl (gc g 0, 512, .inl (fun _ => 0))), (q3, .inl (gc g 0, 512, .inl (fun _ => 0))), (q4, .inr (10, [.ref pr, .int (7 : Int32), .int (7 : Int32), .int 0, .int 0])), (q5, .inr (10, [.ref pr, .int (7 : Int32), .int (8 : Int32), .int 0, .int 0])), (q6, .inr (10, [.null, .int 0, .int 0, .int 0, .int 0]))] := hD
  refine W.widen (k := 6) (n := 1042) (Nat.le_of_ble_eq_true rfl) (Nat.le_of_ble_eq_true rfl) ?_
  refine lv_dup hC.1 hC.2.1 dX3_init_84 rfl ?_
  refine lv_aload_n hC.1 hC.2.1 dX3_init_85 rfl (lv_at hl 1 rfl) ?_
  refine lv_bipush (v := (8 : Int32)) hC.1 hC.2.1 dX3_init_86 (by decide) ?_
  refine lv_bipush (v := (7 : Int32)) hC.1 hC.2.1 dX3_init_88 (by decide) ?_
  refine lcallI (As := [.ref pr, .int (8 : Int32), .int (7 : Int32)]) (rest := [.ref q6, .ref h0]) (wr := [(h0, .inr (4, [.ref pr, .ref co, .ref bk, .ref q1, .ref q4, .ref q5, .null, .null, .int 0, .int 0, .null, .null, .ref q2, .ref q3, .int 0])), (pr, .inr (8, [.ref rd, .ref ca, .int qn, .int 0, .int 0])), (rd, .inr (9, [.ref rv, .int 0])), (rv, .inl (gc g 0, 10, .inl f1)), (ca, .inl (gc g 0, 10, .inl f2)), (q1, .inr (0, [.int (0 : Int32), .ref (ge g), .int 0])), (q2, .inl (gc g 0, 512, .inl (fun _ => 0))), (q3, .inl (gc g 0, 512, .inl (fun _ => 0))), (q4, .inr (10, [.ref pr, .int (7 : Int32), .int (7 : Int32), .int 0, .int 0])), (q5, .inr (10, [.ref pr, .int (7 : Int32), .int (8 : Int32), .int 0, .int 0]))]) hC hE hml hP hD hS hA hAg (l_X9_init q6 pr (8 : Int32) (7 : Int32) _ ) ⟨wd_404, wd_279, wd_12, wd_280⟩ rfl hd_X9_init rfl rfl ⟨Nat.le_of_ble_eq_true rfl, Nat.le_of_ble_eq_true rfl⟩ rfl hl.1 rfl (Nat.le_of_ble_eq_true rfl) dX3_init_90 ⟨Nat.le_of_ble_eq_true rfl, Nat.le_of_ble_eq_true rfl⟩ [10] [0, 1, 2, 3, 4, 5, 6, 7, 8, 9] rfl rfl (by decide) (by decide) (by decide) (fun W1 H locs hB hP hD hS => ?_)
  subst hB
  have hP : va_P (gD g) vwCl [(h0, .inr (4, [.ref pr, .ref co, .ref bk, .ref q1, .ref q4, .ref q5, .null, .null, .int 0, .int 0, .null, .null, .ref q2, .ref q3, .int 0])), (pr, .inr (8, [.ref rd, .ref ca, .int qn, .int 0, .int 0])), (rd, .inr (9, [.ref rv, .int 0])), (rv, .inl (gc g 0, 10, .inl f1)), (ca, .inl (gc g 0, 10, .inl f2)), (q1, .inr (0, [.int (0 : Int32), .ref (ge g), .int 0])), (q2, .inl (gc g 0, 512, .inl (fun _ => 0))), (q3, .inl (gc g 0, 512, .inl (fun _ => 0))), (q4, .inr (10, [.ref pr, .int (7 : Int32), .int (7 : Int32), .int 0, .int 0])), (q5, .inr (10, [.ref pr, .int (7 : Int32), .int (8 : Int32), .int 0, .int 0])), (q6, .inr (10, [.ref pr, .int (8 : Int32), .int (7 : Int32), .int 0, .int 0]))] H := hP
  have hD : va_D A [(h0, .inr (4, [.ref pr, .ref co, .ref bk, .ref q1, .ref q4, .ref q5, .null, .null, .int 0, .int 0, .null, .null, .ref q2, .ref q3, .int 0])), (pr, .inr (8, [.ref rd, .ref ca, .int qn, .int 0, .int 0])), (rd, .inr (9, [.ref rv, .int 0])), (rv, .inl (gc g 0, 10, .inl f1)), (ca, .inl (gc g 0, 10, .inl f2)), (q1, .inr (0, [.int (0 : Int32), .ref (ge g), .int 0])), (q2, .inl (gc g 0, 512, .inl (fun _ => 0))), (q3, .inl (gc g 0, 512, .inl (fun _ => 0))), (q4, .inr (10, [.ref pr, .int (7 : Int32), .int (7 : Int32), .int 0, .int 0])), (q5, .inr (10, [.ref pr, .int (7 : Int32), .int (8 : Int32), .int 0, .int 0])), (q6, .inr (10, [.ref pr, .int (8 : Int32), .int (7 : Int32), .int 0, .int 0]))] := hD
  refine W.eq (g2 := F0 m 93 ls [.ref q6, .ref h0]) rfl ?_
  refine va_putF (D := gD g) (ci := 4) (v := .ref q6) (ty := .object "DrumLayers$Signal") (C := RX3) (T := TX3) (N := 15) hC.1 hC.2.1 hC.2.2.2.1 uw_X3 tyX3 tyX3_ok nmX3 hC.2.2.1 hC.2.2.2.2.1 hP hD hS 0 rfl rfl 6 (by decide) (hC.2.2.2.1 _ wd_412) (fun _ h9 => h9) rfl (hnm.trans rfl) rfl (by decide +kernel) rfl rfl (Nat.le_of_ble_eq_true rfl) dX3_init_93 (fun H locs hP hD hS => ?_)
  have hP : va_P (gD g) vwCl [(h0, .inr (4, [.ref pr, .ref co, .ref bk, .ref q1, .ref q4, .ref q5, .ref q6, .null, .int 0, .int 0, .null, .null, .ref q2, .ref q3, .int 0])), (pr, .inr (8, [.ref rd, .ref ca, .int qn, .int 0, .int 0])), (rd, .inr (9, [.ref rv, .int 0])), (rv, .inl (gc g 0, 10, .inl f1)), (ca, .inl (gc g 0, 10, .inl f2)), (q1, .inr (0, [.int (0 : Int32), .ref (ge g), .int 0])), (q2, .inl (gc g 0, 512, .inl (fun _ => 0))), (q3, .inl (gc g 0, 512, .inl (fun _ => 0))), (q4, .inr (10, [.ref pr, .int (7 : Int32), .int (7 : Int32), .int 0, .int 0])), (q5, .inr (10, [.ref pr, .int (7 : Int32), .int (8 : Int32), .int 0, .int 0])), (q6, .inr (10, [.ref pr, .int (8 : Int32), .int (7 : Int32), .int 0, .int 0]))] H := hP
  have hD : va_D A [(h0, .inr (4, [.ref pr, .ref co, .ref bk, .ref q1, .ref q4, .ref q5, .ref q6, .null, .int 0, .int 0, .null, .null, .ref q2, .ref q3, .int 0])), (pr, .inr (8, [.ref rd, .ref ca, .int qn, .int 0, .int 0])), (rd, .inr (9, [.ref rv, .int 0])), (rv, .inl (gc g 0, 10, .inl f1)), (ca, .inl (gc g 0, 10, .inl f2)), (q1, .inr (0, [.int (0 : Int32), .ref (ge g), .int 0])), (q2, .inl (gc g 0, 512, .inl (fun _ => 0))), (q3, .inl (gc g 0, 512, .inl (fun _ => 0))), (q4, .inr (10, [.ref pr, .int (7 : Int32), .int (7 : Int32), .int 0, .int 0])), (q5, .inr (10, [.ref pr, .int (7 : Int32), .int (8 : Int32), .int 0, .int 0])), (q6, .inr (10, [.ref pr, .int (8 : Int32), .int (7 : Int32), .int 0, .int 0]))] := hD
  refine lv_aload_n hC.1 hC.2.1 dX3_init_96 rfl (lv_at hl 0 rfl) ?_
  refine va_new (ci := 10) (fs := [.null, .int 0, .int 0, .int 0, .int 0]) (C := RX9) (T := TX9) (N := 5) hC.1 hC.2.1 hC.2.2.2.1 uw_X9 tyX9 tyX9_ok hC.2.2.1 (hC.2.2.2.1 _ wd_403) (hC.2.2.2.1 _ wd_277) (hC.2.2.2.1 _ wd_12) hC.2.2.2.2.1 hP hD hS hA rfl df_X9 (Nat.le_of_ble_eq_true rfl) (Nat.le_of_ble_eq_true rfl) dX3_init_97 (fun q7 H hP hD hS => ?_)
  have hP : va_P (gD g) vwCl [(h0, .inr (4, [.ref pr, .ref co, .ref bk, .ref q1, .ref q4, .ref q5, .ref q6, .null, .int 0, .int 0, .null, .null, .ref q2, .ref q3, .int 0])), (pr, .inr (8, [.ref rd, .ref ca, .int qn, .int 0, .int 0])), (rd, .inr (9, [.ref rv, .int 0])), (rv, .inl (gc g 0, 10, .inl f1)), (ca, .inl (gc g 0, 10, .inl f2)), (q1, .inr (0, [.int (0 : Int32), .ref (ge g), .int 0])), (q2, .inl (gc g 0, 512, .inl (fun _ => 0))), (q3, .inl (gc g 0, 512, .inl (fun _ => 0))), (q4, .inr (10, [.ref pr, .int (7 : Int32), .int (7 : Int32), .int 0, .int 0])), (q5, .inr (10, [.ref pr, .int (7 : Int32), .int (8 : Int32), .int 0, .int 0])), (q6, .inr (10, [.ref pr, .int (8 : Int32), .int (7 : Int32), .int 0, .int 0])), (q7, .inr (10, [.null, .int 0, .int 0, .int 0, .int 0]))] H := hP
  have hD : va_D A [(h0, .inr (4, [.ref pr, .ref co, .ref bk, .ref q1, .ref q4, .ref q5, .ref q6, .null, .int 0, .int 0, .null, .null, .ref q2, .ref q3, .int 0])), (pr, .inr (8, [.ref rd, .ref ca, .int qn, .int 0, .int 0])), (rd, .inr (9, [.ref rv, .int 0])), (rv, .inl (gc g 0, 10, .inl f1)), (ca, .inl (gc g 0, 10, .inl f2)), (q1, .inr (0, [.int (0 : Int32), .ref (ge g), .int 0])), (q2, .inl (gc g 0, 512, .inl (fun _ => 0))), (q3, .inl (gc g 0, 512, .inl (fun _ => 0))), (q4, .inr (10, [.ref pr, .int (7 : Int32), .int (7 : Int32), .int 0, .int 0])), (q5, .inr (10, [.ref pr, .int (7 : Int32), .int (8 : Int32), .int 0, .int 0])), (q6, .inr (10, [.ref pr, .int (8 : Int32), .int (7 : Int32), .int 0, .int 0])), (q7, .inr (10, [.null, .int 0, .int 0, .int 0, .int 0]))] := hD
  refine W.widen (k := 7) (n := 1047) (Nat.le_of_ble_eq_true rfl) (Nat.le_of_ble_eq_true rfl) ?_
  refine lv_dup hC.1 hC.2.1 dX3_init_100 rfl ?_
  refine lv_aload_n hC.1 hC.2.1 dX3_init_101 rfl (lv_at hl 1 rfl) ?_
  refine lv_bipush (v := (8 : Int32)) hC.1 hC.2.1 dX3_init_102 (by decide) ?_
  refine lv_bipush (v := (8 : Int32)) hC.1 hC.2.1 dX3_init_104 (by decide) ?_
  refine lcallI (As := [.ref pr, .int (8 : Int32), .int (8 : Int32)]) (rest := [.ref q7, .ref h0]) (wr := [(h0, .inr (4, [.ref pr, .ref co, .ref bk, .ref q1, .ref q4, .ref q5, .ref q6, .null, .int 0, .int 0, .null, .null, .ref q2, .ref q3, .int 0])), (pr, .inr (8, [.ref rd, .ref ca, .int qn, .int 0, .int 0])), (rd, .inr (9, [.ref rv, .int 0])), (rv, .inl (gc g 0, 10, .inl f1)), (ca, .inl (gc g 0, 10, .inl f2)), (q1, .inr (0, [.int (0 : Int32), .ref (ge g), .int 0])), (q2, .inl (gc g 0, 512, .inl (fun _ => 0))), (q3, .inl (gc g 0, 512, .inl (fun _ => 0))), (q4, .inr (10, [.ref pr, .int (7 : Int32), .int (7 : Int32), .int 0, .int 0])), (q5, .inr (10, [.ref pr, .int (7 : Int32), .int (8 : Int32), .int 0, .int 0])), (q6, .inr (10, [.ref pr, .int (8 : Int32), .int (7 : Int32), .int 0, .int 0]))]) hC hE hml hP hD hS hA hAg (l_X9_init q7 pr (8 : Int32) (8 : Int32) _ ) ⟨wd_404, wd_279, wd_12, wd_280⟩ rfl hd_X9_init rfl rfl ⟨Nat.le_of_ble_eq_true rfl, Nat.le_of_ble_eq_true rfl⟩ rfl hl.1 rfl (Nat.le_of_ble_eq_true rfl) dX3_init_106 ⟨Nat.le_of_ble_eq_true rfl, Nat.le_of_ble_eq_true rfl⟩ [11] [0, 1, 2, 3, 4, 5, 6, 7, 8, 9, 10] rfl rfl (by decide) (by decide) (by decide) (fun W1 H locs hB hP hD hS => ?_)
  subst hB
  have hP : va_P (gD g) vwCl [(h0, .inr (4, [.ref pr, .ref co, .ref bk, .ref q1, .ref q4, .ref q5, .ref q6, .null, .int 0, .int 0, .null, .null, .ref q2, .ref q3, .int 0])), (pr, .inr (8, [.ref rd, .ref ca, .int qn, .int 0, .int 0])), (rd, .inr (9, [.ref rv, .int 0])), (rv, .inl (gc g 0, 10, .inl f1)), (ca, .inl (gc g 0, 10, .inl f2)), (q1, .inr (0, [.int (0 : Int32), .ref (ge g), .int 0])), (q2, .inl (gc g 0, 512, .inl (fun _ => 0))), (q3, .inl (gc g 0, 512, .inl (fun _ => 0))), (q4, .inr (10, [.ref pr, .int (7 : Int32), .int (7 : Int32), .int 0, .int 0])), (q5, .inr (10, [.ref pr, .int (7 : Int32), .int (8 : Int32), .int 0, .int 0])), (q6, .inr (10, [.ref pr, .int (8 : Int32), .int (7 : Int32), .int 0, .int 0])), (q7, .inr (10, [.ref pr, .int (8 : Int32), .int (8 : Int32), .int 0, .int 0]))] H := hP
  have hD : va_D A [(h0, .inr (4, [.ref pr, .ref co, .ref bk, .ref q1, .ref q4, .ref q5, .ref q6, .null, .int 0, .int 0, .null, .null, .ref q2, .ref q3, .int 0])), (pr, .inr (8, [.ref rd, .ref ca, .int qn, .int 0, .int 0])), (rd, .inr (9, [.ref rv, .int 0])), (rv, .inl (gc g 0, 10, .inl f1)), (ca, .inl (gc g 0, 10, .inl f2)), (q1, .inr (0, [.int (0 : Int32), .ref (ge g), .int 0])), (q2, .inl (gc g 0, 512, .inl (fun _ => 0))), (q3, .inl (gc g 0, 512, .inl (fun _ => 0))), (q4, .inr (10, [.ref pr, .int (7 : Int32), .int (7 : Int32), .int 0, .int 0])), (q5, .inr (10, [.ref pr, .int (7 : Int32), .int (8 : Int32), .int 0, .int 0])), (q6, .inr (10, [.ref pr, .int (8 : Int32), .int (7 : Int32), .int 0, .int 0])), (q7, .inr (10, [.ref pr, .int (8 : Int32), .int (8 : Int32), .int 0, .int 0]))] := hD
  refine W.eq (g2 := F0 m 109 ls [.ref q7, .ref h0]) rfl ?_
  refine va_putF (D := gD g) (ci := 4) (v := .ref q7) (ty := .object "DrumLayers$Signal") (C := RX3) (T := TX3) (N := 15) hC.1 hC.2.1 hC.2.2.2.1 uw_X3 tyX3 tyX3_ok nmX3 hC.2.2.1 hC.2.2.2.2.1 hP hD hS 0 rfl rfl 7 (by decide) (hC.2.2.2.1 _ wd_413) (fun _ h9 => h9) rfl (hnm.trans rfl) rfl (by decide +kernel) rfl rfl (Nat.le_of_ble_eq_true rfl) dX3_init_109 (fun H locs hP hD hS => ?_)
  have hP : va_P (gD g) vwCl [(h0, .inr (4, [.ref pr, .ref co, .ref bk, .ref q1, .ref q4, .ref q5, .ref q6, .ref q7, .int 0, .int 0, .null, .null, .ref q2, .ref q3, .int 0])), (pr, .inr (8, [.ref rd, .ref ca, .int qn, .int 0, .int 0])), (rd, .inr (9, [.ref rv, .int 0])), (rv, .inl (gc g 0, 10, .inl f1)), (ca, .inl (gc g 0, 10, .inl f2)), (q1, .inr (0, [.int (0 : Int32), .ref (ge g), .int 0])), (q2, .inl (gc g 0, 512, .inl (fun _ => 0))), (q3, .inl (gc g 0, 512, .inl (fun _ => 0))), (q4, .inr (10, [.ref pr, .int (7 : Int32), .int (7 : Int32), .int 0, .int 0])), (q5, .inr (10, [.ref pr, .int (7 : Int32), .int (8 : Int32), .int 0, .int 0])), (q6, .inr (10, [.ref pr, .int (8 : Int32), .int (7 : Int32), .int 0, .int 0])), (q7, .inr (10, [.ref pr, .int (8 : Int32), .int (8 : Int32), .int 0, .int 0]))] H := hP
  have hD : va_D A [(h0, .inr (4, [.ref pr, .ref co, .ref bk, .ref q1, .ref q4, .ref q5, .ref q6, .ref q7, .int 0, .int 0, .null, .null, .ref q2, .ref q3, .int 0])), (pr, .inr (8, [.ref rd, .ref ca, .int qn, .int 0, .int 0])), (rd, .inr (9, [.ref rv, .int 0])), (rv, .inl (gc g 0, 10, .inl f1)), (ca, .inl (gc g 0, 10, .inl f2)), (q1, .inr (0, [.int (0 : Int32), .ref (ge g), .int 0])), (q2, .inl (gc g 0, 512, .inl (fun _ => 0))), (q3, .inl (gc g 0, 512, .inl (fun _ => 0))), (q4, .inr (10, [.ref pr, .int (7 : Int32), .int (7 : Int32), .int 0, .int 0])), (q5, .inr (10, [.ref pr, .int (7 : Int32), .int (8 : Int32), .int 0, .int 0])), (q6, .inr (10, [.ref pr, .int (8 : Int32), .int (7 : Int32), .int 0, .int 0])), (q7, .inr (10, [.ref pr, .int (8 : Int32), .int (8 : Int32), .int 0, .int 0]))] := hD
  refine lv_aload_n hC.1 hC.2.1 dX3_init_112 rfl (lv_at hl 0 rfl) ?_
  refine va_get (D := gD g) (ci := 4) (v := .ref q4) (C := RX3) (T := TX3) (N := 15) hC.1 hC.2.1 hC.2.2.2.1 uw_X3 hC.2.2.1 hC.2.2.2.2.1 hP 0 rfl rfl 4 (by decide) (hC.2.2.2.1 _ wd_410) (fun _ h9 => h9) rfl dX3_init_113 ?_
  refine lcallV (As := []) (rest := []) (wr := [(h0, .inr (4, [.ref pr, .ref co, .ref bk, .ref q1, .ref q4, .ref q5, .ref q6, .ref q7, .int 0, .int 0, .null, .null, .ref q2, .ref q3, .int 0])), (q1, .inr (0, [.int (0 : Int32), .ref (ge g), .int 0])), (q2, .inl (gc g 0, 512, .inl (fun _ => 0))), (q3, .inl (gc g 0, 512, .inl (fun _ => 0))), (q5, .inr (10, [.ref pr, .int (7 : Int32), .int (8 : Int32), .int 0, .int 0])), (q6, .inr (10, [.ref pr, .int (8 : Int32), .int (7 : Int32), .int 0, .int 0])), (q7, .inr (10, [.ref pr, .int (8 : Int32), .int (8 : Int32), .int 0, .int 0]))]) (Cn := RX9) hC hE hml hP hD hS hA hAg (l_p0 q4 pr (7 : Int32) (7 : Int32) rd ca qn rv f1 f2 _ (by decide)) ⟨wd_405, wd_299, wd_300, wd_12, wd_301⟩ hd_X9_p rfl rfl ⟨Nat.le_of_ble_eq_true rfl, Nat.le_of_ble_eq_true rfl⟩ (va_recv hC.2.2.2.2.1 hP (ci := 10) (q0 := 8) rfl rfl) rfl hl.1 rfl (Nat.le_of_ble_eq_true rfl) dX3_init_116 ⟨Nat.le_of_ble_eq_true rfl, Nat.le_of_ble_eq_true rfl⟩ [8, 1, 2, 3, 4] [0, 5, 6, 7, 9, 10, 11] rfl rfl (by decide) (by decide) (by decide) (fun W1 H locs hB hP hD hS => ?_)
  subst hB
  have hP : va_P (gD g) vwCl [(h0, .inr (4, [.ref pr, .ref co, .ref bk, .ref q1, .ref q4, .ref q5, .ref q6, .ref q7, .int 0, .int 0, .null, .null, .ref q2, .ref q3, .int 0])), (q1, .inr (0, [.int (0 : Int32), .ref (ge g), .int 0])), (q2, .inl (gc g 0, 512, .inl (fun _ => 0))), (q3, .inl (gc g 0, 512, .inl (fun _ => 0))), (q5, .inr (10, [.ref pr, .int (7 : Int32), .int (8 : Int32), .int 0, .int 0])), (q6, .inr (10, [.ref pr, .int (8 : Int32), .int (7 : Int32), .int 0, .int 0])), (q7, .inr (10, [.ref pr, .int (8 : Int32), .int (8 : Int32), .int 0, .int 0])), (q4, .inr (10, [.ref pr, .int (7 : Int32), .int (7 : Int32), .int (1 : Int32), .int 0])), (pr, .inr (8, [.ref rd, .ref ca, .int qn, .int 0, .int (0 : Int32)])), (ca, .inl (gc g 0, 10, .inl (upd f2 ((7 : Int32).toNatClampNeg) (7 : Int32)))), (rd, .inr (9, [.ref rv, .int 0])), (rv, .inl (gc g 0, 10, .inl f1))] H := hP
  have hD : va_D A [(h0, .inr (4, [.ref pr, .ref co, .ref bk, .ref q1, .ref q4, .ref q5, .ref q6, .ref q7, .int 0, .int 0, .null, .null, .ref q2, .ref q3, .int 0])), (q1, .inr (0, [.int (0 : Int32), .ref (ge g), .int 0])), (q2, .inl (gc g 0, 512, .inl (fun _ => 0))), (q3, .inl (gc g 0, 512, .inl (fun _ => 0))), (q5, .inr (10, [.ref pr, .int (7 : Int32), .int (8 : Int32), .int 0, .int 0])), (q6, .inr (10, [.ref pr, .int (8 : Int32), .int (7 : Int32), .int 0, .int 0])), (q7, .inr (10, [.ref pr, .int (8 : Int32), .int (8 : Int32), .int 0, .int 0])), (q4, .inr (10, [.ref pr, .int (7 : Int32), .int (7 : Int32), .int (1 : Int32), .int 0])), (pr, .inr (8, [.ref rd, .ref ca, .int qn, .int 0, .int (0 : Int32)])), (ca, .inl (gc g 0, 10, .inl (upd f2 ((7 : Int32).toNatClampNeg) (7 : Int32)))), (rd, .inr (9, [.ref rv, .int 0])), (rv, .inl (gc g 0, 10, .inl f1))] := hD
  refine W.eq (g2 := F0 m 119 ls []) rfl ?_
  refine lv_aload_n hC.1 hC.2.1 dX3_init_119 rfl (lv_at hl 0 rfl) ?_
  refine va_get (D := gD g) (ci := 4) (v := .ref q6) (C := RX3) (T := TX3) (N := 15) hC.1 hC.2.1 hC.2.2.2.1 uw_X3 hC.2.2.1 hC.2.2.2.2.1 hP 0 rfl rfl 6 (by decide) (hC.2.2.2.1 _ wd_412) (fun _ h9 => h9) rfl dX3_init_120 ?_
  refine lcallV (As := []) (rest := []) (wr := [(h0, .inr (4, [.ref pr, .ref co, .ref bk, .ref q1, .ref q4, .ref q5, .ref q6, .ref q7, .int 0, .int 0, .null, .null, .ref q2, .ref q3, .int 0])), (q1, .inr (0, [.int (0 : Int32), .ref (ge g), .int 0])), (q2, .inl (gc g 0, 512, .inl (fun _ => 0))), (q3, .inl (gc g 0, 512, .inl (fun _ => 0))), (q5, .inr (10, [.ref pr, .int (7 : Int32), .int (8 : Int32), .int 0, .int 0])), (q7, .inr (10, [.ref pr, .int (8 : Int32), .int (8 : Int32), .int 0, .int 0])), (q4, .inr (10, [.ref pr, .int (7 : Int32), .int (7 : Int32), .int (1 : Int32), .int 0]))]) (Cn := RX9) hC hE hml hP hD hS hA hAg (l_p0 q6 pr (8 : Int32) (7 : Int32) rd ca qn rv f1 (upd f2 ((7 : Int32).toNatClampNeg) (7 : Int32)) _ (by decide)) ⟨wd_405, wd_299, wd_300, wd_12, wd_301⟩ hd_X9_p rfl rfl ⟨Nat.le_of_ble_eq_true rfl, Nat.le_of_ble_eq_true rfl⟩ (va_recv hC.2.2.2.2.1 hP (ci := 10) (q0 := 5) rfl rfl) rfl hl.1 rfl (Nat.le_of_ble_eq_true rfl) dX3_init_123 ⟨Nat.le_of_ble_eq_true rfl, Nat.le_of_ble_eq_true rfl⟩ [5, 8, 10, 11, 9] [0, 1, 2, 3, 4, 6, 7] rfl rfl (by decide) (by decide) (by decide) (fun W1 H locs hB hP hD hS => ?_)
  subst hB
  have hP : va_P (gD g) vwCl [(h0, .inr (4, [.ref pr, .ref co, .ref bk, .ref q1, .ref q4, .ref q5, .ref q6, .ref q7, .int 0, .int 0, .null, .null, .ref q2, .ref q3, .int 0])), (q1, .inr (0, [.int (0 : Int32), .ref (ge g), .int 0])), (q2, .inl (gc g 0, 512, .inl (fun _ => 0))), (q3, .inl (gc g 0, 512, .inl (fun _ => 0))), (q5, .inr (10, [.ref pr, .int (7 : Int32), .int (8 : Int32), .int 0, .int 0])), (q7, .inr (10, [.ref pr, .int (8 : Int32), .int (8 : Int32), .int 0, .int 0])), (q4, .inr (10, [.ref pr, .int (7 : Int32), .int (7 : Int32), .int (1 : Int32), .int 0])), (q6, .inr (10, [.ref pr, .int (8 : Int32), .int (7 : Int32), .int (1 : Int32), .int 0])), (pr, .inr (8, [.ref rd, .ref ca, .int qn, .int 0, .int (0 : Int32)])), (ca, .inl (gc g 0, 10, .inl (upd (upd f2 ((7 : Int32).toNatClampNeg) (7 : Int32)) ((8 : Int32).toNatClampNeg) (7 : Int32)))), (rd, .inr (9, [.ref rv, .int 0])), (rv, .inl (gc g 0, 10, .inl f1))] H := hP
  have hD : va_D A [(h0, .inr (4, [.ref pr, .ref co, .ref bk, .ref q1, .ref q4, .ref q5, .ref q6, .ref q7, .int 0, .int 0, .null, .null, .ref q2, .ref q3, .int 0])), (q1, .inr (0, [.int (0 : Int32), .ref (ge g), .int 0])), (q2, .inl (gc g 0, 512, .inl (fun _ => 0))), (q3, .inl (gc g 0, 512, .inl (fun _ => 0))), (q5, .inr (10, [.ref pr, .int (7 : Int32), .int (8 : Int32), .int 0, .int 0])), (q7, .inr (10, [.ref pr, .int (8 : Int32), .int (8 : Int32), .int 0, .int 0])), (q4, .inr (10, [.ref pr, .int (7 : Int32), .int (7 : Int32), .int (1 : Int32), .int 0])), (q6, .inr (10, [.ref pr, .int (8 : Int32), .int (7 : Int32), .int (1 : Int32), .int 0])), (pr, .inr (8, [.ref rd, .ref ca, .int qn, .int 0, .int (0 : Int32)])), (ca, .inl (gc g 0, 10, .inl (upd (upd f2 ((7 : Int32).toNatClampNeg) (7 : Int32)) ((8 : Int32).toNatClampNeg) (7 : Int32)))), (rd, .inr (9, [.ref rv, .int 0])), (rv, .inl (gc g 0, 10, .inl f1))] := hD
  refine W.eq (g2 := F0 m 126 ls []) rfl ?_
  subst hAd
  exact lret_v hC hr hlk hP hD hS ⟨q1, q2, q3, q4, q5, q6, q7, rfl⟩ (Nat.le_of_ble_eq_true rfl) (Nat.le_of_ble_eq_true rfl) dX3_init_126
