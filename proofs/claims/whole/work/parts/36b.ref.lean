theorem wd_1118 : Cond.methodLink RX12 1 Lib.objectInit ∈ lwG := lwG_of (List.mem_of_getElem? (i := 1188) (by decide +kernel)) (by decide +kernel)
theorem wd_1119 : Cond.methodLink RX12 146 yX12_between ∈ lwG := lwG_of (List.mem_of_getElem? (i := 1189) (by decide +kernel)) (by decide +kernel)
theorem wd_1120 : Cond.static yX12_between ∈ lwG := lwG_of (List.mem_of_getElem? (i := 1190) (by decide +kernel)) (by decide +kernel)
theorem wd_1121 : Cond.code yX12_between cX12_between 3 (some .int) ∈ lwG := lwG_of (List.mem_of_getElem? (i := 1191) (by decide +kernel)) (by decide +kernel)
theorem hd_X12_between : yX12_between.cls ≠ "java/lang/invoke/MethodHandle" ∧ yX12_between.cls ≠ "java/lang/invoke/VarHandle" ∧ (parseMethodDescriptor yX12_between.desc).map (fun d => d.parameters.length) = some 3 := by decide +kernel
def btw (v lo hi : Int32) : Int32 := if v < lo then lo else if hi < v then hi else v
set_option maxHeartbeats 4000000 in
set_option maxRecDepth 100000 in
theorem l_between {l : Launch} {g : GP} (v lo hi : Int32) (sz : Nat) : Met l yX12_between (Cond.code yX12_between cX12_between 3 (some .int) :: lwG) ({ frames := 0, cells := 0, slots := 0, locals := 0 } : Room) (va_Pc [.int v, .int lo, .int hi] (PL g [] sz)) (QL (some (.int (btw v lo hi))) (fun W1 => W1 = []) g [] sz) 0 0 (va_A [] sz) := by
  refine Met.ofW (cc := cX12_between) (maxL := 3) (ret := some .int) (by decide +kernel) rfl ?_
  intro p e s m args below meth c s₁ Bd hml hv
  obtain ⟨ha, hsz, hC, hE, hr, hlk, hP, hD0, hnm⟩ := l_start Bd hv
  subst ha
  subst hsz
  have hC : CX p s m ([.int v, .int lo, .int hi] : List Value).toArray c cX12_between RX12 g := hC
  have hD : va_D (va_A [] s.heap.size) [] := hD0.self (sz := s.heap.size)
  have hS : va_S (va_A [] s.heap.size) s.heap s.heap [] := va_S.rf
  obtain ⟨ls, he, hl⟩ := g_entry m (vs := [.int v, .int lo, .int hi]) (n := 3) (List.forall_mem_cons.mpr ⟨rfl, (List.forall_mem_cons.mpr ⟨rfl, (List.forall_mem_cons.mpr ⟨rfl, (fun _ h => absurd h List.not_mem_nil)⟩)⟩)⟩) (Nat.le_of_ble_eq_true rfl)
  rw [he]
  have hl : lv_has ls 3 [(0, .int v), (1, .int lo), (2, .int hi)] := hl
  refine lv_iload_n hC.1 hC.2.1 dX12_between_0 rfl (lv_at hl 0 rfl) ?_
  refine lv_iload_n hC.1 hC.2.1 dX12_between_1 rfl (lv_at hl 1 rfl) ?_
  refine lv_icmp_ge (tgt := 9) hC.1 hC.2.1 dX12_between_2 (by decide) (fun h1 => ?_) (fun h1 => ?_)
  · have h2 : ¬ v < lo := Int32.not_lt.mpr h1
    refine lv_iload_n hC.1 hC.2.1 dX12_between_9 rfl (lv_at hl 0 rfl) ?_
    refine lv_iload_n hC.1 hC.2.1 dX12_between_10 rfl (lv_at hl 2 rfl) ?_
    refine lv_icmp_le (tgt := 18) hC.1 hC.2.1 dX12_between_11 (by decide) (fun h3 => ?_) (fun h3 => ?_)
    · have h4 : ¬ hi < v := Int32.not_lt.mpr h3
      refine lv_iload_n hC.1 hC.2.1 dX12_between_18 rfl (lv_at hl 0 rfl) ?_
      have e1 : btw v lo hi = v := by unfold btw; rw [if_neg h2, if_neg h4]
      rw [e1]
      exact lret_i hC hr hlk hP hD hS rfl (Nat.le_refl _) (Nat.le_refl _) dX12_between_19
    · have h4 : hi < v := Int32.not_le.mp h3
      refine lv_iload_n hC.1 hC.2.1 dX12_between_14 rfl (lv_at hl 2 rfl) ?_
      refine lv_goto (tgt := 19) hC.1 hC.2.1 dX12_between_15 (by decide) ?_
      have e1 : btw v lo hi = hi := by unfold btw; rw [if_neg h2, if_pos h4]
      rw [e1]
      exact lret_i hC hr hlk hP hD hS rfl (Nat.le_refl _) (Nat.le_refl _) dX12_between_19
  · have h2 : v < lo := Int32.not_le.mp h1
    refine lv_iload_n hC.1 hC.2.1 dX12_between_5 rfl (lv_at hl 1 rfl) ?_
    refine lv_goto (tgt := 19) hC.1 hC.2.1 dX12_between_6 (by decide) ?_
    have e1 : btw v lo hi = lo := by unfold btw; rw [if_pos h2]
    rw [e1]
    exact lret_i hC hr hlk hP hD hS rfl (Nat.le_refl _) (Nat.le_refl _) dX12_between_19

set_option maxHeartbeats 4000000 in
set_option maxRecDepth 100000 in
theorem l_X12_init {l : Launch} {g : GP} (h0 : Nat) (x1 : Int32) (x2 : Int32) (x3 : Int32) (sz : Nat)  : Met l yX12_init (Cond.code yX12_init cX12_init 5 none :: lwG) ({ frames := 1, cells := 45, slots := 32672, locals := 22 } : Room) (va_Pc [.ref h0, .int x1, .int x2, .int x3] (PL g [(h0, .inr (13, [.int 0, .int 0, .int 0, .null, .int 0, .int 0, .int 0, .int 0, .null, .null, .null, .null, .null, .null, .null, .null, .null, .null, .null, .null, .null, .null, .null, .null, .null, .int 0, .null, .null, .null, .null, .null, .null, .null, .null, .null, .null, .null, .null, .null, .null, .null, .null, .null, .null, .int 0, .int 0, .int 0, .int 0, .int 0, .int 0, .int 0, .int 0, .int 0, .int 0, .int 0, .int 0, .null, .null, .null, .null, .int 0, .int 0, .int 0, .null, .null, .null, .null, .int 0, .int 0, .int 0, .null]))] sz)) (QL none (fun W1 => ∃ (q1 : Nat) (q2 : Nat) (q3 : Nat) (q4 : Nat) (q5 : Nat) (q6 : Nat) (q7 : Nat) (q8 : Nat) (q9 : Nat) (q10 : Nat) (q11 : Nat) (q12 : Nat) (q13 : Nat) (q14 : Nat) (q15 : Nat) (q16 : Nat) (q17 : Nat) (q18 : Nat) (q19 : Nat) (q20 : Nat) (q21 : Nat) (q22 : Nat) (q23 : Nat) (q24 : Nat) (q25 : Nat) (q26 : Nat) (q27 : Nat) (q28 : Nat) (q29 : Nat) (q30 : Nat) (q31 : Nat) (q32 : Nat) (q33 : Nat) (q34 : Nat) (q35 : Nat) (q36 : Nat) (q37 : Nat) (q38 : Nat) (q39 : Nat) (q40 : Nat) (q41 : Nat) (q42 : Nat) (q43 : Nat) (q44 : Nat) (q45 : Nat), W1 = [(h0, .inr (13, [.int (btw x1 (4 : Int32) (12 : Int32)), .int (btw x2 (1 : Int32) (6 : Int32)), .int (btw x3 (1 : Int32) (9 : Int32)), .ref q1, .int 0, .int 0, .int 0, .int 0, .ref q2, .ref q3, .ref q4, .ref q5, .ref q6, .ref q7, .ref q8, .ref q9, .ref q10, .ref q11, .ref q12, .ref q13, .ref q14, .ref q15, .ref q16, .ref q17, .ref q18, .int 0, .ref q19, .ref q20, .ref q21, .ref q22, .ref q23, .ref q24, .ref q25, .ref q26, .ref q27, .ref q28, .ref q29, .ref q30, .ref q31, .ref q32, .ref q33, .ref q34, .ref q35, .ref q36, .int 0, .int 0, .int 0, .int 0, .int 0, .int 0, .int 0, .int 0, .int 0, .int 0, .int 0, .int 0, .ref q37, .ref q38, .ref q39, .ref q40, .int 0, .int 0, .int 0, .ref q41, .ref q42, .ref q43, .ref q44, .int 0, .int 0, .int 0, .ref q45])), (q3, .inl (gc g 2, 10, .inl (upd (upd (upd (upd (upd (upd (upd (upd (upd (upd (fun _ => 0) 0 (1 : Int32)) 1 (1 : Int32)) 2 (1 : Int32)) 3 (1 : Int32)) 4 (1 : Int32)) 5 (1 : Int32)) 6 (1 : Int32)) 7 (1 : Int32)) 8 (1 : Int32)) 9 (1 : Int32)))), (q5, .inl (gc g 0, 10, .inl (upd (upd (upd (upd (upd (upd (upd (upd (upd (upd (upd (upd (upd (upd (fun _ => 0) 0 (-1 : Int32)) 1 (-1 : Int32)) 2 (-1 : Int32)) 3 (-1 : Int32)) 4 (-1 : Int32)) 5 (-1 : Int32)) 6 (-1 : Int32)) 7 (-1 : Int32)) 8 (-1 : Int32)) 9 (-1 : Int32)) 6 (0 : Int32)) 7 (2 : Int32)) 8 (4 : Int32)) 9 (6 : Int32)))), (q21, .inl (gc g 0, 3, .inl (upd (upd (upd (fun _ => 0) 0 (1 : Int32)) 1 (1 : Int32)) 2 (btw x2 (1 : Int32) (6 : Int32))))), (q32, .inl (gc g 0, 12, .inl (upd (upd (upd (upd (upd (upd (upd (upd (upd (upd (upd (upd (fun _ => 0) 0 (-1 : Int32)) 1 (-1 : Int32)) 2 (-1 : Int32)) 3 (-1 : Int32)) 4 (-1 : Int32)) 5 (-1 : Int32)) 6 (-1 : Int32)) 7 (-1 : Int32)) 8 (-1 : Int32)) 9 (-1 : Int32)) 10 (-1 : Int32)) 11 (-1 : Int32))))] ++ ([(q45, .inl (gc g 2, 64, .inl (fun _ => 0)))] ++ ([(q44, .inl (gc g 0, 600, .inl (fun _ => 0)))] ++ ([(q43, .inl (gc g 0, 8, .inl (fun _ => 0)))] ++ ([(q42, .inl (gc g 0, 160, .inl (fun _ => 0)))] ++ ([(q41, .inl (gc g 0, 20, .inl (fun _ => 0)))] ++ ([(q40, .inl (gc g 0, 6, .inl (fun _ => 0)))] ++ ([(q39, .inl (gc g 0, 6, .inl (fun _ => 0)))] ++ ([(q38, .inl (gc g 0, 6, .inl (fun _ => 0)))] ++ ([(q37, .inl (gc g 0, 6, .inl (fun _ => 0)))] ++ ([(q36, .inl (gc g 2, 12, .inl (fun _ => 0)))] ++ ([(q35, .inl (gc g 2, 12, .inl (fun _ => 0)))] ++ ([(q34, .inl (gc g 0, 12, .inl (fun _ => 0)))] ++ ([(q33, .inl (gc g 0, 12, .inl (fun _ => 0)))] ++ ([(q31, .inl (gc g 0, 192, .inl (fun _ => 0)))] ++ ([(q30, .inl (gc g 0, 768, .inl (fun _ => 0)))] ++ ([(q29, .inl (gc g 0, 6, .inl (fun _ => 0)))] ++ ([(q28, .inl (gc g 0, 30000, .inl (fun _ => 0)))] ++ ([(q27, .inl (gc g 0, 6, .inl (fun _ => 0)))] ++ ([(q26, .inl (gc g 0, 144, .inl (fun _ => 0)))] ++ ([(q25, .inl (gc g 0, 6, .inl (fun _ => 0)))] ++ ([(q24, .inl (gc g 0, 6, .inl (fun _ => 0)))] ++ ([(q23, .inl (gc g 0, 240, .inl (fun _ => 0)))] ++ ([(q22, .inl (gc g 0, 6, .inl (fun _ => 0)))] ++ ([(q20, .inl (gc g 0, 18, .inl (fun _ => 0)))] ++ ([(q19, .inl (gc g 0, 18, .inl (fun _ => 0)))] ++ ([(q18, .inl (gc g 2, 6, .inl (fun _ => 0)))] ++ ([(q17, .inl (gc g 0, 6, .inl (fun _ => 0)))] ++ ([(q16, .inl (gc g 0, 6, .inl (fun _ => 0)))] ++ ([(q15, .inl (gc g 0, 6, .inl (fun _ => 0)))] ++ ([(q14, .inl (gc g 0, 6, .inl (fun _ => 0)))] ++ ([(q13, .inl (gc g 0, 6, .inl (fun _ => 0)))] ++ ([(q12, .inl (gc g 0, 6, .inl (fun _ => 0)))] ++ ([(q11, .inl (gc g 0, 6, .inl (fun _ => 0)))] ++ ([(q10, .inl (gc g 0, 6, .inl (fun _ => 0)))] ++ ([(q9, .inl (gc g 0, 6, .inl (fun _ => 0)))] ++ ([(q8, .inl (gc g 0, 6, .inl (fun _ => 0)))] ++ ([(q7, .inl (gc g 0, 7, .inl (fun _ => 0)))] ++ ([(q6, .inl (gc g 0, 10, .inl (fun _ => 0)))] ++ ([(q4, .inl (gc g 0, 10, .inl (fun _ => 0)))] ++ ([(q2, .inl (gc g 0, 10, .inl (fun _ => 0)))] ++ ([(q1, .inl (gc g 0, 200, .inl (fun _ => 0)))] ++ ([] : va_W))))))))))))))))))))))))))))))))))))))))))) g [(h0, .inr (13, [.int 0, .int 0, .int 0, .null, .int 0, .int 0, .int 0, .int 0, .null, .null, .null, .null, .null, .null, .null, .null, .null, .null, .null, .null, .null, .null, .null, .null, .null, .int 0, .null, .null, .null, .null, .null, .null, .null, .null, .null, .null, .null, .null, .null, .null, .null, .null, .null, .null, .int 0, .int 0, .int 0, .int 0, .int 0, .int 0, .int 0, .int 0, .int 0, .int 0, .int 0, .int 0, .null, .null, .null, .null, .int 0, .int 0, .int 0, .null, .null, .null, .null, .int 0, .int 0, .int 0, .null]))] sz) 45 32672 (va_A [(h0, .inr (13, [.int 0, .int 0, .int 0, .null, .int 0, .int 0, .int 0, .int 0, .null, .null, .null, .null, .null, .null, .null, .null, .null, .null, .null, .null, .null, .null, .null, .null, .null, .int 0, .null, .null, .null, .null, .null, .null, .null, .null, .null, .null, .null, .null, .null, .null, .null, .null, .null, .null, .int 0, .int 0, .int 0, .int 0, .int 0, .int 0, .int 0, .int 0, .int 0, .int 0, .int 0, .int 0, .null, .null, .null, .null, .int 0, .int 0, .int 0, .null, .null, .null, .null, .int 0, .int 0, .int 0, .null]))] sz) := by
  refine Met.ofW (cc := cX12_init) (maxL := 5) (ret := none) (by decide +kernel) rfl ?_
  intro p e s m args below meth c s₁ Bd hml hv
  obtain ⟨ha, hsz, hC, hE, hr, hlk, hP, hD0, hnm⟩ := l_start Bd hv
  subst ha
  subst hsz
  have hC : CX p s m ([.ref h0, .int x1, .int x2, .int x3] : List Value).toArray c cX12_init RX12 g := hC
  obtain ⟨A, hAd⟩ : ∃ A, A = va_A [(h0, .inr (13, [.int 0, .int 0, .int 0, .null, .int 0, .int 0, .int 0, .int 0, .null, .null, .null, .null, .null, .null, .null, .null, .null, .null, .null, .null, .null, .null, .null, .null, .null, .int 0, .null, .null, .null, .null, .null, .null, .null, .null, .null, .null, .null, .null, .null, .null, .null, .null, .null, .null, .int 0, .int 0, .int 0, .int 0, .int 0, .int 0, .int 0, .int 0, .int 0, .int 0, .int 0, .int 0, .null, .null, .null, .null, .int 0, .int 0, .int 0, .null, .null, .null, .null, .int 0, .int 0, .int 0, .null]))] s.heap.size := ⟨_, rfl⟩
  have hAg : ∀ q, A q → gP g q := by rw [hAd]; exact A_gP hD0 hC.2.2.2.2.2.1
  have hA : ∀ q, s.heap.size ≤ q → A q := by rw [hAd]; exact fun q h => Or.inr h
  replace hD : va_D A [(h0, .inr (13, [.int 0, .int 0, .int 0, .null, .int 0, .int 0, .int 0, .int 0, .null, .null, .null, .null, .null, .null, .null, .null, .null, .null, .null, .null, .null, .null, .null, .null, .null, .int 0, .null, .null, .null, .null, .null, .null, .null, .null, .null, .null, .null, .null, .null, .null, .null, .null, .null, .null, .int 0, .int 0, .int 0, .int 0, .int 0, .int 0, .int 0, .int 0, .int 0, .int 0, .int 0, .int 0, .null, .null, .null, .null, .int 0, .int 0, .int 0, .null, .null, .null, .null, .int 0, .int 0, .int 0, .null]))] := by rw [hAd]; exact hD0.self (sz := s.heap.size)
  have hS : va_S A s.heap s.heap [] := va_S.rf
  obtain ⟨ls, he, hl⟩ := g_entry m (vs := [.ref h0, .int x1, .int x2, .int x3]) (n := 5) (List.forall_mem_cons.mpr ⟨rfl, (List.forall_mem_cons.mpr ⟨rfl, (List.forall_mem_cons.mpr ⟨rfl, (List.forall_mem_cons.mpr ⟨rfl, (fun _ h => absurd h List.not_mem_nil)⟩)⟩)⟩)⟩) (Nat.le_of_ble_eq_true rfl)
  rw [he]
  have hl : lv_has ls 5 [(0, .ref h0), (1, .int x1), (2, .int x2), (3, .int x3)] := hl
  obtain ⟨f0, hf0⟩ : ∃ z : Nat → Value, z = vp_V [.int 0, .int 0, .int 0, .null, .int 0, .int 0, .int 0, .int 0, .null, .null, .null, .null, .null, .null, .null, .null, .null, .null, .null, .null, .null, .null, .null, .null, .null, .int 0, .null, .null, .null, .null, .null, .null, .null, .null, .null, .null, .null, .null, .null, .null, .null, .null, .null, .null, .int 0, .int 0, .int 0, .int 0, .int 0, .int 0, .int 0, .int 0, .int 0, .int 0, .int 0, .int 0, .null, .null, .null, .null, .int 0, .int 0, .int 0, .null, .null, .null, .null, .int 0, .int 0, .int 0, .null] := ⟨_, rfl⟩
  have hm0 : ([.int 0, .int 0, .int 0, .null, .int 0, .int 0, .int 0, .int 0, .null, .null, .null, .null, .null, .null, .null, .null, .null, .null, .null, .null, .null, .null, .null, .null, .null, .int 0, .null, .null, .null, .null, .null, .null, .null, .null, .null, .null, .null, .null, .null, .null, .null, .null, .null, .null, .int 0, .int 0, .int 0, .int 0, .int 0, .int 0, .int 0, .int 0, .int 0, .int 0, .int 0, .int 0, .null, .null, .null, .null, .int 0, .int 0, .int 0, .null, .null, .null, .null, .int 0, .int 0, .int 0, .null] : List Value) = mfs f0 := by rw [hf0]; rfl
  rw [hm0] at hP hD
  obtain ⟨T0, hT0⟩ : ∃ T : va_W, T = [] := ⟨_, rfl⟩
  replace hP : va_P (gD g) vwCl ([(h0, .inr (13, mfs f0))] ++ T0) s.heap := by rw [hT0]; exact hP
  replace hD : va_D A ([(h0, .inr (13, mfs f0))] ++ T0) := by rw [hT0]; exact hD
  refine lv_aload_n hC.1 hC.2.1 dX12_init_0 rfl (lv_at hl 0 rfl) ?_
  refine W.objInit hC.1 hC.2.1 hC.2.2.1 (hC.2.2.2.1 _ wd_1118) (hC.2.2.2.1 _ wd_29) (hC.2.2.2.1 _ wd_30) rfl (by rw [hml]; exact hl.1) rfl dX12_init_1 (Nat.le_of_ble_eq_true rfl) (Nat.le_of_ble_eq_true rfl) ?_
  refine W.eq (g2 := F0 m 4 ls []) rfl ?_
  refine lv_aload_n hC.1 hC.2.1 dX12_init_4 rfl (lv_at hl 0 rfl) ?_
  refine lv_sipush (v := (200 : Int32)) hC.1 hC.2.1 dX12_init_5 (by decide) ?_
  refine nw_i (N := 200) hC hP hD hS hA wd_60 (by decide) (by decide) (by decide) (Nat.le_of_ble_eq_true rfl) (Nat.le_of_ble_eq_true rfl) dX12_init_8 (fun q1 H hP9 hD9 hS9 => ?_)
  clear hP hD hS
  have hP := hP9
  have hD := hD9
  have hS := hS9
  clear hP9 hD9 hS9
  replace hP := va_P.swap hP
  replace hD := va_D.swap hD
  replace hP : va_P (gD g) vwCl ([(h0, .inr (13, mfs f0)), (q1, .inl (gc g 0, 200, .inl (fun _ => 0)))] ++ T0) H := hP
  replace hD : va_D A ([(h0, .inr (13, mfs f0)), (q1, .inl (gc g 0, 200, .inl (fun _ => 0)))] ++ T0) := hD
  refine W.widen (k := 1) (n := 200) (Nat.le_of_ble_eq_true rfl) (Nat.le_of_ble_eq_true rfl) ?_
  refine mp_put hC (hnm.trans rfl) hP hD hS 3 (by decide) wd_1125 rfl rfl (ty := .array (.int)) (by decide +kernel) rfl rfl dX12_init_10 (fun H locs hP9 hD9 hS9 => ?_)
  clear hP hD hS
  have hP := hP9
  have hD := hD9
  have hS := hS9
  clear hP9 hD9 hS9
  obtain ⟨f1, hf1⟩ : ∃ z, z = va_up f0 3 (.ref q1) := ⟨_, rfl⟩
  rw [← hf1] at hP hD
  replace hP : va_P (gD g) vwCl ([(h0, .inr (13, mfs f1)), (q1, .inl (gc g 0, 200, .inl (fun _ => 0)))] ++ T0) H := hP
  replace hD : va_D A ([(h0, .inr (13, mfs f1)), (q1, .inl (gc g 0, 200, .inl (fun _ => 0)))] ++ T0) := hD
  obtain ⟨hP9, hD9⟩ := t_perm (ws2 := [(h0, .inr (13, mfs f1)), (q1, .inl (gc g 0, 200, .inl (fun _ => 0)))]) hP hD [0, 1] rfl (by decide)
  clear hP hD
  have hP := hP9
  have hD := hD9
  clear hP9 hD9
  obtain ⟨T1, hT1⟩ : ∃ T : va_W, T = [(q1, .inl (gc g 0, 200, .inl (fun _ => 0)))] ++ T0 := ⟨_, rfl⟩
  replace hP : va_P (gD g) vwCl ([(h0, .inr (13, mfs f1))] ++ T1) H := by rw [hT1]; exact hP
  replace hD : va_D A ([(h0, .inr (13, mfs f1))] ++ T1) := by rw [hT1]; exact hD
  refine lv_aload_n hC.1 hC.2.1 dX12_init_13 rfl (lv_at hl 0 rfl) ?_
  refine lv_bipush (v := (10 : Int32)) hC.1 hC.2.1 dX12_init_14 (by decide) ?_
  refine nw_i (N := 10) hC hP hD hS hA wd_60 (by decide) (by decide) (by decide) (Nat.le_of_ble_eq_true rfl) (Nat.le_of_ble_eq_true rfl) dX12_init_16 (fun q2 H hP9 hD9 hS9 => ?_)
  clear hP hD hS
  have hP := hP9
  have hD := hD9
  have hS := hS9
  clear hP9 hD9 hS9
  replace hP := va_P.swap hP
  replace hD := va_D.swap hD
  replace hP : va_P (gD g) vwCl ([(h0, .inr (13, mfs f1)), (q2, .inl (gc g 0, 10, .inl (fun _ => 0)))] ++ T1) H := hP
  replace hD : va_D A ([(h0, .inr (13, mfs f1)), (q2, .inl (gc g 0, 10, .inl (fun _ => 0)))] ++ T1) := hD
  refine W.widen (k := 2) (n := 210) (Nat.le_of_ble_eq_true rfl) (Nat.le_of_ble_eq_true rfl) ?_
  refine mp_put hC (hnm.trans rfl) hP hD hS 8 (by decide) wd_1130 rfl rfl (ty := .array (.int)) (by decide +kernel) rfl rfl dX12_init_18 (fun H locs hP9 hD9 hS9 => ?_)
  clear hP hD hS
  have hP := hP9
  have hD := hD9
  have hS := hS9
  clear hP9 hD9 hS9
  obtain ⟨f2, hf2⟩ : ∃ z, z = va_up f1 8 (.ref q2) := ⟨_, rfl⟩
  rw [← hf2] at hP hD
  replace hP : va_P (gD g) vwCl ([(h0, .inr (13, mfs f2)), (q2, .inl (gc g 0, 10, .inl (fun _ => 0)))] ++ T1) H := hP
  replace hD : va_D A ([(h0, .inr (13, mfs f2)), (q2, .inl (gc g 0, 10, .inl (fun _ => 0)))] ++ T1) := hD
  obtain ⟨hP9, hD9⟩ := t_perm (ws2 := [(h0, .inr (13, mfs f2)), (q2, .inl (gc g 0, 10, .inl (fun _ => 0)))]) hP hD [0, 1] rfl (by decide)
  clear hP hD
  have hP := hP9
  have hD := hD9
  clear hP9 hD9
  obtain ⟨T2, hT2⟩ : ∃ T : va_W, T = [(q2, .inl (gc g 0, 10, .inl (fun _ => 0)))] ++ T1 := ⟨_, rfl⟩
  replace hP : va_P (gD g) vwCl ([(h0, .inr (13, mfs f2))] ++ T2) H := by rw [hT2]; exact hP
  replace hD : va_D A ([(h0, .inr (13, mfs f2))] ++ T2) := by rw [hT2]; exact hD
  refine lv_aload_n hC.1 hC.2.1 dX12_init_21 rfl (lv_at hl 0 rfl) ?_
  refine lv_bipush (v := (10 : Int32)) hC.1 hC.2.1 dX12_init_22 (by decide) ?_
  refine nw_z (N := 10) hC hP hD hS hA wd_394 (by decide) (by decide) (by decide) (Nat.le_of_ble_eq_true rfl) (Nat.le_of_ble_eq_true rfl) dX12_init_24 (fun q3 H hP9 hD9 hS9 => ?_)
  clear hP hD hS
  have hP := hP9
  have hD := hD9
  have hS := hS9
  clear hP9 hD9 hS9
  replace hP := va_P.swap hP
  replace hD := va_D.swap hD
  replace hP : va_P (gD g) vwCl ([(h0, .inr (13, mfs f2)), (q3, .inl (gc g 2, 10, .inl (fun _ => 0)))] ++ T2) H := hP
  replace hD : va_D A ([(h0, .inr (13, mfs f2)), (q3, .inl (gc g 2, 10, .inl (fun _ => 0)))] ++ T2) := hD
  refine W.widen (k := 3) (n := 220) (Nat.le_of_ble_eq_true rfl) (Nat.le_of_ble_eq_true rfl) ?_
  refine mp_put hC (hnm.trans rfl) hP hD hS 9 (by decide) wd_1131 rfl rfl (ty := .array (.boolean)) (by decide +kernel) rfl rfl dX12_init_26 (fun H locs hP9 hD9 hS9 => ?_)
  clear hP hD hS
  have hP := hP9
  have hD := hD9
  have hS := hS9
  clear hP9 hD9 hS9
  obtain ⟨f3, hf3⟩ : ∃ z, z = va_up f2 9 (.ref q3) := ⟨_, rfl⟩
  rw [← hf3] at hP hD
  replace hP : va_P (gD g) vwCl ([(h0, .inr (13, mfs f3)), (q3, .inl (gc g 2, 10, .inl (fun _ => 0)))] ++ T2) H := hP
  replace hD : va_D A ([(h0, .inr (13, mfs f3)), (q3, .inl (gc g 2, 10, .inl (fun _ => 0)))] ++ T2) := hD
  refine lv_aload_n hC.1 hC.2.1 dX12_init_29 rfl (lv_at hl 0 rfl) ?_
  refine lv_bipush (v := (10 : Int32)) hC.1 hC.2.1 dX12_init_30 (by decide) ?_
  refine nw_i (N := 10) hC hP hD hS hA wd_60 (by decide) (by decide) (by decide) (Nat.le_of_ble_eq_true rfl) (Nat.le_of_ble_eq_true rfl) dX12_init_32 (fun q4 H hP9 hD9 hS9 => ?_)
  clear hP hD hS
  have hP := hP9
  have hD := hD9
  have hS := hS9
  clear hP9 hD9 hS9
  replace hP := va_P.swap hP
  replace hD := va_D.swap hD
  replace hP : va_P (gD g) vwCl ([(h0, .inr (13, mfs f3)), (q3, .inl (gc g 2, 10, .inl (fun _ => 0))), (q4, .inl (gc g 0, 10, .inl (fun _ => 0)))] ++ T2) H := hP
  replace hD : va_D A ([(h0, .inr (13, mfs f3)), (q3, .inl (gc g 2, 10, .inl (fun _ => 0))), (q4, .inl (gc g 0, 10, .inl (fun _ => 0)))] ++ T2) := hD
  refine W.widen (k := 4) (n := 230) (Nat.le_of_ble_eq_true rfl) (Nat.le_of_ble_eq_true rfl) ?_
  refine mp_put hC (hnm.trans rfl) hP hD hS 10 (by decide) wd_1132 rfl rfl (ty := .array (.int)) (by decide +kernel) rfl rfl dX12_init_34 (fun H locs hP9 hD9 hS9 => ?_)
  clear hP hD hS
  have hP := hP9
  have hD := hD9
  have hS := hS9
  clear hP9 hD9 hS9
  obtain ⟨f4, hf4⟩ : ∃ z, z = va_up f3 10 (.ref q4) := ⟨_, rfl⟩
  rw [← hf4] at hP hD
  replace hP : va_P (gD g) vwCl ([(h0, .inr (13, mfs f4)), (q3, .inl (gc g 2, 10, .inl (fun _ => 0))), (q4, .inl (gc g 0, 10, .inl (fun _ => 0)))] ++ T2) H := hP
  replace hD : va_D A ([(h0, .inr (13, mfs f4)), (q3, .inl (gc g 2, 10, .inl (fun _ => 0))), (q4, .inl (gc g 0, 10, .inl (fun _ => 0)))] ++ T2) := hD
  obtain ⟨hP9, hD9⟩ := t_perm (ws2 := [(h0, .inr (13, mfs f4)), (q3, .inl (gc g 2, 10, .inl (fun _ => 0))), (q4, .inl (gc g 0, 10, .inl (fun _ => 0)))]) hP hD [0, 1, 2] rfl (by decide)
  clear hP hD
  have hP := hP9
  have hD := hD9
  clear hP9 hD9
  obtain ⟨T3, hT3⟩ : ∃ T : va_W, T = [(q4, .inl (gc g 0, 10, .inl (fun _ => 0)))] ++ T2 := ⟨_, rfl⟩
  replace hP : va_P (gD g) vwCl ([(h0, .inr (13, mfs f4)), (q3, .inl (gc g 2, 10, .inl (fun _ => 0)))] ++ T3) H := by rw [hT3]; exact hP
  replace hD : va_D A ([(h0, .inr (13, mfs f4)), (q3, .inl (gc g 2, 10, .inl (fun _ => 0)))] ++ T3) := by rw [hT3]; exact hD
  refine lv_aload_n hC.1 hC.2.1 dX12_init_37 rfl (lv_at hl 0 rfl) ?_
  refine lv_bipush (v := (10 : Int32)) hC.1 hC.2.1 dX12_init_38 (by decide) ?_
  refine nw_i (N := 10) hC hP hD hS hA wd_60 (by decide) (by decide) (by decide) (Nat.le_of_ble_eq_true rfl) (Nat.le_of_ble_eq_true rfl) dX12_init_40 (fun q5 H hP9 hD9 hS9 => ?_)
  clear hP hD hS
  have hP := hP9
  have hD := hD9
  have hS := hS9
  clear hP9 hD9 hS9
  replace hP := va_P.swap hP
  replace hD := va_D.swap hD
  replace hP : va_P (gD g) vwCl ([(h0, .inr (13, mfs f4)), (q3, .inl (gc g 2, 10, .inl (fun _ => 0))), (q5, .inl (gc g 0, 10, .inl (fun _ => 0)))] ++ T3) H := hP
  replace hD : va_D A ([(h0, .inr (13, mfs f4)), (q3, .inl (gc g 2, 10, .inl (fun _ => 0))), (q5, .inl (gc g 0, 10, .inl (fun _ => 0)))] ++ T3) := hD
  refine W.widen (k := 5) (n := 240) (Nat.le_of_ble_eq_true rfl) (Nat.le_of_ble_eq_true rfl) ?_
  refine mp_put hC (hnm.trans rfl) hP hD hS 11 (by decide) wd_1133 rfl rfl (ty := .array (.int)) (by decide +kernel) rfl rfl dX12_init_42 (fun H locs hP9 hD9 hS9 => ?_)
  clear hP hD hS
  have hP := hP9
  have hD := hD9
  have hS := hS9
  clear hP9 hD9 hS9
  obtain ⟨f5, hf5⟩ : ∃ z, z = va_up f4 11 (.ref q5) := ⟨_, rfl⟩
  rw [← hf5] at hP hD
  replace hP : va_P (gD g) vwCl ([(h0, .inr (13, mfs f5)), (q3, .inl (gc g 2, 10, .inl (fun _ => 0))), (q5, .inl (gc g 0, 10, .inl (fun _ => 0)))] ++ T3) H := hP
  replace hD : va_D A ([(h0, .inr (13, mfs f5)), (q3, .inl (gc g 2, 10, .inl (fun _ => 0))), (q5, .inl (gc g 0, 10, .inl (fun _ => 0)))] ++ T3) := hD
  refine lv_aload_n hC.1 hC.2.1 dX12_init_45 rfl (lv_at hl 0 rfl) ?_
  refine lv_bipush (v := (10 : Int32)) hC.1 hC.2.1 dX12_init_46 (by decide) ?_
  refine nw_i (N := 10) hC hP hD hS hA wd_60 (by decide) (by decide) (by decide) (Nat.le_of_ble_eq_true rfl) (Nat.le_of_ble_eq_true rfl) dX12_init_48 (fun q6 H hP9 hD9 hS9 => ?_)
  clear hP hD hS
  have hP := hP9
  have hD := hD9
  have hS := hS9
  clear hP9 hD9 hS9
  replace hP := va_P.swap hP
  replace hD := va_D.swap hD
  replace hP : va_P (gD g) vwCl ([(h0, .inr (13, mfs f5)), (q3, .inl (gc g 2, 10, .inl (fun _ => 0))), (q5, .inl (gc g 0, 10, .inl (fun _ => 0))), (q6, .inl (gc g 0, 10, .inl (fun _ => 0)))] ++ T3) H := hP
  replace hD : va_D A ([(h0, .inr (13, mfs f5)), (q3, .inl (gc g 2, 10, .inl (fun _ => 0))), (q5, .inl (gc g 0, 10, .inl (fun _ => 0))), (q6, .inl (gc g 0, 10, .inl (fun _ => 0)))] ++ T3) := hD
  refine W.widen (k := 6) (n := 250) (Nat.le_of_ble_eq_true rfl) (Nat.le_of_ble_eq_true rfl) ?_
  refine mp_put hC (hnm.trans rfl) hP hD hS 12 (by decide) wd_1134 rfl rfl (ty := .array (.int)) (by decide +kernel) rfl rfl dX12_init_50 (fun H locs hP9 hD9 hS9 => ?_)
  clear hP hD hS
  have hP := hP9
  have hD := hD9
  have hS := hS9
  clear hP9 hD9 hS9
  obtain ⟨f6, hf6⟩ : ∃ z, z = va_up f5 12 (.ref q6) := ⟨_, rfl⟩
  rw [← hf6] at hP hD
  replace hP : va_P (gD g) vwCl ([(h0, .inr (13, mfs f6)), (q3, .inl (gc g 2, 10, .inl (fun _ => 0))), (q5, .inl (gc g 0, 10, .inl (fun _ => 0))), (q6, .inl (gc g 0, 10, .inl (fun _ => 0)))] ++ T3) H := hP
  replace hD : va_D A ([(h0, .inr (13, mfs f6)), (q3, .inl (gc g 2, 10, .inl (fun _ => 0))), (q5, .inl (gc g 0, 10, .inl (fun _ => 0))), (q6, .inl (gc g 0, 10, .inl (fun _ => 0)))] ++ T3) := hD
  obtain ⟨hP9, hD9⟩ := t_perm (ws2 := [(h0, .inr (13, mfs f6)), (q3, .inl (gc g 2, 10, .inl (fun _ => 0))), (q5, .inl (gc g 0, 10, .inl (fun _ => 0))), (q6, .inl (gc g 0, 10, .inl (fun _ => 0)))]) hP hD [0, 1, 2, 3] rfl (by decide)
  clear hP hD
  have hP := hP9
  have hD := hD9
  clear hP9 hD9
  obtain ⟨T4, hT4⟩ : ∃ T : va_W, T = [(q6, .inl (gc g 0, 10, .inl (fun _ => 0)))] ++ T3 := ⟨_, rfl⟩
  replace hP : va_P (gD g) vwCl ([(h0, .inr (13, mfs f6)), (q3, .inl (gc g 2, 10, .inl (fun _ => 0))), (q5, .inl (gc g 0, 10, .inl (fun _ => 0)))] ++ T4) H := by rw [hT4]; exact hP
  replace hD : va_D A ([(h0, .inr (13, mfs f6)), (q3, .inl (gc g 2, 10, .inl (fun _ => 0))), (q5, .inl (gc g 0, 10, .inl (fun _ => 0)))] ++ T4) := by rw [hT4]; exact hD
  refine lv_aload_n hC.1 hC.2.1 dX12_init_53 rfl (lv_at hl 0 rfl) ?_
  refine lv_bipush (v := (7 : Int32)) hC.1 hC.2.1 dX12_init_54 (by decide) ?_
  refine nw_i (N := 7) hC hP hD hS hA wd_60 (by decide) (by decide) (by decide) (Nat.le_of_ble_eq_true rfl) (Nat.le_of_ble_eq_true rfl) dX12_init_56 (fun q7 H hP9 hD9 hS9 => ?_)
  clear hP hD hS
  have hP := hP9
  have hD := hD9
  have hS := hS9
  clear hP9 hD9 hS9
  replace hP := va_P.swap hP
  replace hD := va_D.swap hD
  replace hP : va_P (gD g) vwCl ([(h0, .inr (13, mfs f6)), (q3, .inl (gc g 2, 10, .inl (fun _ => 0))), (q5, .inl (gc g 0, 10, .inl (fun _ => 0))), (q7, .inl (gc g 0, 7, .inl (fun _ => 0)))] ++ T4) H := hP
  replace hD : va_D A ([(h0, .inr (13, mfs f6)), (q3, .inl (gc g 2, 10, .inl (fun _ => 0))), (q5, .inl (gc g 0, 10, .inl (fun _ => 0))), (q7, .inl (gc g 0, 7, .inl (fun _ => 0)))] ++ T4) := hD
  refine W.widen (k := 7) (n := 257) (Nat.le_of_ble_eq_true rfl) (Nat.le_of_ble_eq_true rfl) ?_
  refine mp_put hC (hnm.trans rfl) hP hD hS 13 (by decide) wd_1135 rfl rfl (ty := .array (.int)) (by decide +kernel) rfl rfl dX12_init_58 (fun H locs hP9 hD9 hS9 => ?_)
  clear hP hD hS
  have hP := hP9
  have hD := hD9
  have hS := hS9
  clear hP9 hD9 hS9
  obtain ⟨f7, hf7⟩ : ∃ z, z = va_up f6 13 (.ref q7) := ⟨_, rfl⟩
  rw [← hf7] at hP hD
  replace hP : va_P (gD g) vwCl ([(h0, .inr (13, mfs f7)), (q3, .inl (gc g 2, 10, .inl (fun _ => 0))), (q5, .inl (gc g 0, 10, .inl (fun _ => 0))), (q7, .inl (gc g 0, 7, .inl (fun _ => 0)))] ++ T4) H := hP
  replace hD : va_D A ([(h0, .inr (13, mfs f7)), (q3, .inl (gc g 2, 10, .inl (fun _ => 0))), (q5, .inl (gc g 0, 10, .inl (fun _ => 0))), (q7, .inl (gc g 0, 7, .inl (fun _ => 0)))] ++ T4) := hD
  obtain ⟨hP9, hD9⟩ := t_perm (ws2 := [(h0, .inr (13, mfs f7)), (q3, .inl (gc g 2, 10, .inl (fun _ => 0))), (q5, .inl (gc g 0, 10, .inl (fun _ => 0))), (q7, .inl (gc g 0, 7, .inl (fun _ => 0)))]) hP hD [0, 1, 2, 3] rfl (by decide)
  clear hP hD
  have hP := hP9
  have hD := hD9
  clear hP9 hD9
  obtain ⟨T5, hT5⟩ : ∃ T : va_W, T = [(q7, .inl (gc g 0, 7, .inl (fun _ => 0)))] ++ T4 := ⟨_, rfl⟩
  replace hP : va_P (gD g) vwCl ([(h0, .inr (13, mfs f7)), (q3, .inl (gc g 2, 10, .inl (fun _ => 0))), (q5, .inl (gc g 0, 10, .inl (fun _ => 0)))] ++ T5) H := by rw [hT5]; exact hP
  replace hD : va_D A ([(h0, .inr (13, mfs f7)), (q3, .inl (gc g 2, 10, .inl (fun _ => 0))), (q5, .inl (gc g 0, 10, .inl (fun _ => 0)))] ++ T5) := by rw [hT5]; exact hD
  refine lv_aload_n hC.1 hC.2.1 dX12_init_61 rfl (lv_at hl 0 rfl) ?_
  refine lv_bipush (v := (6 : Int32)) hC.1 hC.2.1 dX12_init_62 (by decide) ?_
  refine nw_i (N := 6) hC hP hD hS hA wd_60 (by decide) (by decide) (by decide) (Nat.le_of_ble_eq_true rfl) (Nat.le_of_ble_eq_true rfl) dX12_init_64 (fun q8 H hP9 hD9 hS9 => ?_)
  clear hP hD hS
  have hP := hP9
  have hD := hD9
  have hS := hS9
  clear hP9 hD9 hS9
  replace hP := va_P.swap hP
  replace hD := va_D.swap hD
  replace hP : va_P (gD g) vwCl ([(h0, .inr (13, mfs f7)), (q3, .inl (gc g 2, 10, .inl (fun _ => 0))), (q5, .inl (gc g 0, 10, .inl (fun _ => 0))), (q8, .inl (gc g 0, 6, .inl (fun _ => 0)))] ++ T5) H := hP
  replace hD : va_D A ([(h0, .inr (13, mfs f7)), (q3, .inl (gc g 2, 10, .inl (fun _ => 0))), (q5, .inl (gc g 0, 10, .inl (fun _ => 0))), (q8, .inl (gc g 0, 6, .inl (fun _ => 0)))] ++ T5) := hD
  refine W.widen (k := 8) (n := 263) (Nat.le_of_ble_eq_true rfl) (Nat.le_of_ble_eq_true rfl) ?_
  refine mp_put hC (hnm.trans rfl) hP hD hS 14 (by decide) wd_1136 rfl rfl (ty := .array (.int)) (by decide +kernel) rfl rfl dX12_init_66 (fun H locs hP9 hD9 hS9 => ?_)
  clear hP hD hS
  have hP := hP9
  have hD := hD9
  have hS := hS9
  clear hP9 hD9 hS9
  obtain ⟨f8, hf8⟩ : ∃ z, z = va_up f7 14 (.ref q8) := ⟨_, rfl⟩
  rw [← hf8] at hP hD
  replace hP : va_P (gD g) vwCl ([(h0, .inr (13, mfs f8)), (q3, .inl (gc g 2, 10, .inl (fun _ => 0))), (q5, .inl (gc g 0, 10, .inl (fun _ => 0))), (q8, .inl (gc g 0, 6, .inl (fun _ => 0)))] ++ T5) H := hP
  replace hD : va_D A ([(h0, .inr (13, mfs f8)), (q3, .inl (gc g 2, 10, .inl (fun _ => 0))), (q5, .inl (gc g 0, 10, .inl (fun _ => 0))), (q8, .inl (gc g 0, 6, .inl (fun _ => 0)))] ++ T5) := hD
  obtain ⟨hP9, hD9⟩ := t_perm (ws2 := [(h0, .inr (13, mfs f8)), (q3, .inl (gc g 2, 10, .inl (fun _ => 0))), (q5, .inl (gc g 0, 10, .inl (fun _ => 0))), (q8, .inl (gc g 0, 6, .inl (fun _ => 0)))]) hP hD [0, 1, 2, 3] rfl (by decide)
  clear hP hD
  have hP := hP9
  have hD := hD9
  clear hP9 hD9
  obtain ⟨T6, hT6⟩ : ∃ T : va_W, T = [(q8, .inl (gc g 0, 6, .inl (fun _ => 0)))] ++ T5 := ⟨_, rfl⟩
  replace hP : va_P (gD g) vwCl ([(h0, .inr (13, mfs f8)), (q3, .inl (gc g 2, 10, .inl (fun _ => 0))), (q5, .inl (gc g 0, 10, .inl (fun _ => 0)))] ++ T6) H := by rw [hT6]; exact hP
  replace hD : va_D A ([(h0, .inr (13, mfs f8)), (q3, .inl (gc g 2, 10, .inl (fun _ => 0))), (q5, .inl (gc g 0, 10, .inl (fun _ => 0)))] ++ T6) := by rw [hT6]; exact hD
  refine lv_aload_n hC.1 hC.2.1 dX12_init_69 rfl (lv_at hl 0 rfl) ?_
  refine lv_bipush (v := (6 : Int32)) hC.1 hC.2.1 dX12_init_70 (by decide) ?_
  refine nw_i (N := 6) hC hP hD hS hA wd_60 (by decide) (by decide) (by decide) (Nat.le_of_ble_eq_true rfl) (Nat.le_of_ble_eq_true rfl) dX12_init_72 (fun q9 H hP9 hD9 hS9 => ?_)
  clear hP hD hS
  have hP := hP9
  have hD := hD9
  have hS := hS9
  clear hP9 hD9 hS9
  replace hP := va_P.swap hP
  replace hD := va_D.swap hD
  replace hP : va_P (gD g) vwCl ([(h0, .inr (13, mfs f8)), (q3, .inl (gc g 2, 10, .inl (fun _ => 0))), (q5, .inl (gc g 0, 10, .inl (fun _ => 0))), (q9, .inl (gc g 0, 6, .inl (fun _ => 0)))] ++ T6) H := hP
  replace hD : va_D A ([(h0, .inr (13, mfs f8)), (q3, .inl (gc g 2, 10, .inl (fun _ => 0))), (q5, .inl (gc g 0, 10, .inl (fun _ => 0))), (q9, .inl (gc g 0, 6, .inl (fun _ => 0)))] ++ T6) := hD
  refine W.widen (k := 9) (n := 269) (Nat.le_of_ble_eq_true rfl) (Nat.le_of_ble_eq_true rfl) ?_
  refine mp_put hC (hnm.trans rfl) hP hD hS 15 (by decide) wd_1137 rfl rfl (ty := .array (.int)) (by decide +kernel) rfl rfl dX12_init_74 (fun H locs hP9 hD9 hS9 => ?_)
  clear hP hD hS
  have hP := hP9
  have hD := hD9
  have hS := hS9
  clear hP9 hD9 hS9
  obtain ⟨f9, hf9⟩ : ∃ z, z = va_up f8 15 (.ref q9) := ⟨_, rfl⟩
  rw [← hf9] at hP hD
  replace hP : va_P (gD g) vwCl ([(h0, .inr (13, mfs f9)), (q3, .inl (gc g 2, 10, .inl (fun _ => 0))), (q5, .inl (gc g 0, 10, .inl (fun _ => 0))), (q9, .inl (gc g 0, 6, .inl (fun _ => 0)))] ++ T6) H := hP
  replace hD : va_D A ([(h0, .inr (13, mfs f9)), (q3, .inl (gc g 2, 10, .inl (fun _ => 0))), (q5, .inl (gc g 0, 10, .inl (fun _ => 0))), (q9, .inl (gc g 0, 6, .inl (fun _ => 0)))] ++ T6) := hD
  obtain ⟨hP9, hD9⟩ := t_perm (ws2 := [(h0, .inr (13, mfs f9)), (q3, .inl (gc g 2, 10, .inl (fun _ => 0))), (q5, .inl (gc g 0, 10, .inl (fun _ => 0))), (q9, .inl (gc g 0, 6, .inl (fun _ => 0)))]) hP hD [0, 1, 2, 3] rfl (by decide)
  clear hP hD
  have hP := hP9
  have hD := hD9
  clear hP9 hD9
  obtain ⟨T7, hT7⟩ : ∃ T : va_W, T = [(q9, .inl (gc g 0, 6, .inl (fun _ => 0)))] ++ T6 := ⟨_, rfl⟩
  replace hP : va_P (gD g) vwCl ([(h0, .inr (13, mfs f9)), (q3, .inl (gc g 2, 10, .inl (fun _ => 0))), (q5, .inl (gc g 0, 10, .inl (fun _ => 0)))] ++ T7) H := by rw [hT7]; exact hP
  replace hD : va_D A ([(h0, .inr (13, mfs f9)), (q3, .inl (gc g 2, 10, .inl (fun _ => 0))), (q5, .inl (gc g 0, 10, .inl (fun _ => 0)))] ++ T7) := by rw [hT7]; exact hD
  refine lv_aload_n hC.1 hC.2.1 dX12_init_77 rfl (lv_at hl 0 rfl) ?_
  refine lv_bipush (v := (6 : Int32)) hC.1 hC.2.1 dX12_init_78 (by decide) ?_
  refine nw_i (N := 6) hC hP hD hS hA wd_60 (by decide) (by decide) (by decide) (Nat.le_of_ble_eq_true rfl) (Nat.le_of_ble_eq_true rfl) dX12_init_80 (fun q10 H hP9 hD9 hS9 => ?_)
  clear hP hD hS
  have hP := hP9
  have hD := hD9
  have hS := hS9
  clear hP9 hD9 hS9
  replace hP := va_P.swap hP
  replace hD := va_D.swap hD
  replace hP : va_P (gD g) vwCl ([(h0, .inr (13, mfs f9)), (q3, .inl (gc g 2, 10, .inl (fun _ => 0))), (q5, .inl (gc g 0, 10, .inl (fun _ => 0))), (q10, .inl (gc g 0, 6, .inl (fun _ => 0)))] ++ T7) H := hP
  replace hD : va_D A ([(h0, .inr (13, mfs f9)), (q3, .inl (gc g 2, 10, .inl (fun _ => 0))), (q5, .inl (gc g 0, 10, .inl (fun _ => 0))), (q10, .inl (gc g 0, 6, .inl (fun _ => 0)))] ++ T7) := hD
  refine W.widen (k := 10) (n := 275) (Nat.le_of_ble_eq_true rfl) (Nat.le_of_ble_eq_true rfl) ?_
  refine mp_put hC (hnm.trans rfl) hP hD hS 16 (by decide) wd_1138 rfl rfl (ty := .array (.int)) (by decide +kernel) rfl rfl dX12_init_82 (fun H locs hP9 hD9 hS9 => ?_)
  clear hP hD hS
  have hP := hP9
  have hD := hD9
  have hS := hS9
  clear hP9 hD9 hS9
  obtain ⟨f10, hf10⟩ : ∃ z, z = va_up f9 16 (.ref q10) := ⟨_, rfl⟩
  rw [← hf10] at hP hD
  replace hP : va_P (gD g) vwCl ([(h0, .inr (13, mfs f10)), (q3, .inl (gc g 2, 10, .inl (fun _ => 0))), (q5, .inl (gc g 0, 10, .inl (fun _ => 0))), (q10, .inl (gc g 0, 6, .inl (fun _ => 0)))] ++ T7) H := hP
  replace hD : va_D A ([(h0, .inr (13, mfs f10)), (q3, .inl (gc g 2, 10, .inl (fun _ => 0))), (q5, .inl (gc g 0, 10, .inl (fun _ => 0))), (q10, .inl (gc g 0, 6, .inl (fun _ => 0)))] ++ T7) := hD
  obtain ⟨hP9, hD9⟩ := t_perm (ws2 := [(h0, .inr (13, mfs f10)), (q3, .inl (gc g 2, 10, .inl (fun _ => 0))), (q5, .inl (gc g 0, 10, .inl (fun _ => 0))), (q10, .inl (gc g 0, 6, .inl (fun _ => 0)))]) hP hD [0, 1, 2, 3] rfl (by decide)
  clear hP hD
  have hP := hP9
  have hD := hD9
  clear hP9 hD9
  obtain ⟨T8, hT8⟩ : ∃ T : va_W, T = [(q10, .inl (gc g 0, 6, .inl (fun _ => 0)))] ++ T7 := ⟨_, rfl⟩
  replace hP : va_P (gD g) vwCl ([(h0, .inr (13, mfs f10)), (q3, .inl (gc g 2, 10, .inl (fun _ => 0))), (q5, .inl (gc g 0, 10, .inl (fun _ => 0)))] ++ T8) H := by rw [hT8]; exact hP
  replace hD : va_D A ([(h0, .inr (13, mfs f10)), (q3, .inl (gc g 2, 10, .inl (fun _ => 0))), (q5, .inl (gc g 0, 10, .inl (fun _ => 0)))] ++ T8) := by rw [hT8]; exact hD
  refine lv_aload_n hC.1 hC.2.1 dX12_init_85 rfl (lv_at hl 0 rfl) ?_
  refine lv_bipush (v := (6 : Int32)) hC.1 hC.2.1 dX12_init_86 (by decide) ?_
  refine nw_i (N := 6) hC hP hD hS hA wd_60 (by decide) (by decide) (by decide) (Nat.le_of_ble_eq_true rfl) (Nat.le_of_ble_eq_true rfl) dX12_init_88 (fun q11 H hP9 hD9 hS9 => ?_)
  clear hP hD hS
  have hP := hP9
  have hD := hD9
  have hS := hS9
  clear hP9 hD9 hS9
  replace hP := va_P.swap hP
  replace hD := va_D.swap hD
  replace hP : va_P (gD g) vwCl ([(h0, .inr (13, mfs f10)), (q3, .inl (gc g 2, 10, .inl (fun _ => 0))), (q5, .inl (gc g 0, 10, .inl (fun _ => 0))), (q11, .inl (gc g 0, 6, .inl (fun _ => 0)))] ++ T8) H := hP
  replace hD : va_D A ([(h0, .inr (13, mfs f10)), (q3, .inl (gc g 2, 10, .inl (fun _ => 0))), (q5, .inl (gc g 0, 10, .inl (fun _ => 0))), (q11, .inl (gc g 0, 6, .inl (fun _ => 0)))] ++ T8) := hD
  refine W.widen (k := 11) (n := 281) (Nat.le_of_ble_eq_true rfl) (Nat.le_of_ble_eq_true rfl) ?_
  refine mp_put hC (hnm.trans rfl) hP hD hS 17 (by decide) wd_1139 rfl rfl (ty := .array (.int)) (by decide +kernel) rfl rfl dX12_init_90 (fun H locs hP9 hD9 hS9 => ?_)
  clear hP hD hS
  have hP := hP9
  have hD := hD9
  have hS := hS9
  clear hP9 hD9 hS9
  obtain ⟨f11, hf11⟩ : ∃ z, z = va_up f10 17 (.ref q11) := ⟨_, rfl⟩
  rw [← hf11] at hP hD
  replace hP : va_P (gD g) vwCl ([(h0, .inr (13, mfs f11)), (q3, .inl (gc g 2, 10, .inl (fun _ => 0))), (q5, .inl (gc g 0, 10, .inl (fun _ => 0))), (q11, .inl (gc g 0, 6, .inl (fun _ => 0)))] ++ T8) H := hP
  replace hD : va_D A ([(h0, .inr (13, mfs f11)), (q3, .inl (gc g 2, 10, .inl (fun _ => 0))), (q5, .inl (gc g 0, 10, .inl (fun _ => 0))), (q11, .inl (gc g 0, 6, .inl (fun _ => 0)))] ++ T8) := hD
  obtain ⟨hP9, hD9⟩ := t_perm (ws2 := [(h0, .inr (13, mfs f11)), (q3, .inl (gc g 2, 10, .inl (fun _ => 0))), (q5, .inl (gc g 0, 10, .inl (fun _ => 0))), (q11, .inl (gc g 0, 6, .inl (fun _ => 0)))]) hP hD [0, 1, 2, 3] rfl (by decide)
  clear hP hD
  have hP := hP9
  have hD := hD9
  clear hP9 hD9
  obtain ⟨T9, hT9⟩ : ∃ T : va_W, T = [(q11, .inl (gc g 0, 6, .inl (fun _ => 0)))] ++ T8 := ⟨_, rfl⟩
  replace hP : va_P (gD g) vwCl ([(h0, .inr (13, mfs f11)), (q3, .inl (gc g 2, 10, .inl (fun _ => 0))), (q5, .inl (gc g 0, 10, .inl (fun _ => 0)))] ++ T9) H := by rw [hT9]; exact hP
  replace hD : va_D A ([(h0, .inr (13, mfs f11)), (q3, .inl (gc g 2, 10, .inl (fun _ => 0))), (q5, .inl (gc g 0, 10, .inl (fun _ => 0)))] ++ T9) := by rw [hT9]; exact hD
  refine lv_aload_n hC.1 hC.2.1 dX12_init_93 rfl (lv_at hl 0 rfl) ?_
  refine lv_bipush (v := (6 : Int32)) hC.1 hC.2.1 dX12_init_94 (by decide) ?_
  refine nw_i (N := 6) hC hP hD hS hA wd_60 (by decide) (by decide) (by decide) (Nat.le_of_ble_eq_true rfl) (Nat.le_of_ble_eq_true rfl) dX12_init_96 (fun q12 H hP9 hD9 hS9 => ?_)
  clear hP hD hS
  have hP := hP9
  have hD := hD9
  have hS := hS9
  clear hP9 hD9 hS9
  replace hP := va_P.swap hP
  replace hD := va_D.swap hD
  replace hP : va_P (gD g) vwCl ([(h0, .inr (13, mfs f11)), (q3, .inl (gc g 2, 10, .inl (fun _ => 0))), (q5, .inl (gc g 0, 10, .inl (fun _ => 0))), (q12, .inl (gc g 0, 6, .inl (fun _ => 0)))] ++ T9) H := hP
  replace hD : va_D A ([(h0, .inr (13, mfs f11)), (q3, .inl (gc g 2, 10, .inl (fun _ => 0))), (q5, .inl (gc g 0, 10, .inl (fun _ => 0))), (q12, .inl (gc g 0, 6, .inl (fun _ => 0)))] ++ T9) := hD
  refine W.widen (k := 12) (n := 287) (Nat.le_of_ble_eq_true rfl) (Nat.le_of_ble_eq_true rfl) ?_
  refine mp_put hC (hnm.trans rfl) hP hD hS 18 (by decide) wd_1140 rfl rfl (ty := .array (.int)) (by decide +kernel) rfl rfl dX12_init_98 (fun H locs hP9 hD9 hS9 => ?_)
  clear hP hD hS
  have hP := hP9
  have hD := hD9
  have hS := hS9
  clear hP9 hD9 hS9
  obtain ⟨f12, hf12⟩ : ∃ z, z = va_up f11 18 (.ref q12) := ⟨_, rfl⟩
  rw [← hf12] at hP hD
  replace hP : va_P (gD g) vwCl ([(h0, .inr (13, mfs f12)), (q3, .inl (gc g 2, 10, .inl (fun _ => 0))), (q5, .inl (gc g 0, 10, .inl (fun _ => 0))), (q12, .inl (gc g 0, 6, .inl (fun _ => 0)))] ++ T9) H := hP
  replace hD : va_D A ([(h0, .inr (13, mfs f12)), (q3, .inl (gc g 2, 10, .inl (fun _ => 0))), (q5, .inl (gc g 0, 10, .inl (fun _ => 0))), (q12, .inl (gc g 0, 6, .inl (fun _ => 0)))] ++ T9) := hD
  obtain ⟨hP9, hD9⟩ := t_perm (ws2 := [(h0, .inr (13, mfs f12)), (q3, .inl (gc g 2, 10, .inl (fun _ => 0))), (q5, .inl (gc g 0, 10, .inl (fun _ => 0))), (q12, .inl (gc g 0, 6, .inl (fun _ => 0)))]) hP hD [0, 1, 2, 3] rfl (by decide)
  clear hP hD
  have hP := hP9
  have hD := hD9
  clear hP9 hD9
  obtain ⟨T10, hT10⟩ : ∃ T : va_W, T = [(q12, .inl (gc g 0, 6, .inl (fun _ => 0)))] ++ T9 := ⟨_, rfl⟩
  replace hP : va_P (gD g) vwCl ([(h0, .inr (13, mfs f12)), (q3, .inl (gc g 2, 10, .inl (fun _ => 0))), (q5, .inl (gc g 0, 10, .inl (fun _ => 0)))] ++ T10) H := by rw [hT10]; exact hP
  replace hD : va_D A ([(h0, .inr (13, mfs f12)), (q3, .inl (gc g 2, 10, .inl (fun _ => 0))), (q5, .inl (gc g 0, 10, .inl (fun _ => 0)))] ++ T10) := by rw [hT10]; exact hD
  refine lv_aload_n hC.1 hC.2.1 dX12_init_101 rfl (lv_at hl 0 rfl) ?_
  refine lv_bipush (v := (6 : Int32)) hC.1 hC.2.1 dX12_init_102 (by decide) ?_
  refine nw_i (N := 6) hC hP hD hS hA wd_60 (by decide) (by decide) (by decide) (Nat.le_of_ble_eq_true rfl) (Nat.le_of_ble_eq_true rfl) dX12_init_104 (fun q13 H hP9 hD9 hS9 => ?_)
  clear hP hD hS
  have hP := hP9
  have hD := hD9
  have hS := hS9
  clear hP9 hD9 hS9
  replace hP := va_P.swap hP
  replace hD := va_D.swap hD
  replace hP : va_P (gD g) vwCl ([(h0, .inr (13, mfs f12)), (q3, .inl (gc g 2, 10, .inl (fun _ => 0))), (q5, .inl (gc g 0, 10, .inl (fun _ => 0))), (q13, .inl (gc g 0, 6, .inl (fun _ => 0)))] ++ T10) H := hP
  replace hD : va_D A ([(h0, .inr (13, mfs f12)), (q3, .inl (gc g 2, 10, .inl (fun _ => 0))), (q5, .inl (gc g 0, 10, .inl (fun _ => 0))), (q13, .inl (gc g 0, 6, .inl (fun _ => 0)))] ++ T10) := hD
  refine W.widen (k := 13) (n := 293) (Nat.le_of_ble_eq_true rfl) (Nat.le_of_ble_eq_true rfl) ?_
  refine mp_put hC (hnm.trans rfl) hP hD hS 19 (by decide) wd_1141 rfl rfl (ty := .array (.int)) (by decide +kernel) rfl rfl dX12_init_106 (fun H locs hP9 hD9 hS9 => ?_)
  clear hP hD hS
  have hP := hP9
  have hD := hD9
  have hS := hS9
  clear hP9 hD9 hS9
  obtain ⟨f13, hf13⟩ : ∃ z, z = va_up f12 19 (.ref q13) := ⟨_, rfl⟩
  rw [← hf13] at hP hD
  replace hP : va_P (gD g) vwCl ([(h0, .inr (13, mfs f13)), (q3, .inl (gc g 2, 10, .inl (fun _ => 0))), (q5, .inl (gc g 0, 10, .inl (fun _ => 0))), (q13, .inl (gc g 0, 6, .inl (fun _ => 0)))] ++ T10) H := hP
  replace hD : va_D A ([(h0, .inr (13, mfs f13)), (q3, .inl (gc g 2, 10, .inl (fun _ => 0))), (q5, .inl (gc g 0, 10, .inl (fun _ => 0))), (q13, .inl (gc g 0, 6, .inl (fun _ => 0)))] ++ T10) := hD
  obtain ⟨hP9, hD9⟩ := t_perm (ws2 := [(h0, .inr (13, mfs f13)), (q3, .inl (gc g 2, 10, .inl (fun _ => 0))), (q5, .inl (gc g 0, 10, .inl (fun _ => 0))), (q13, .inl (gc g 0, 6, .inl (fun _ => 0)))]) hP hD [0, 1, 2, 3] rfl (by decide)
  clear hP hD
  have hP := hP9
  have hD := hD9
  clear hP9 hD9
  obtain ⟨T11, hT11⟩ : ∃ T : va_W, T = [(q13, .inl (gc g 0, 6, .inl (fun _ => 0)))] ++ T10 := ⟨_, rfl⟩
  replace hP : va_P (gD g) vwCl ([(h0, .inr (13, mfs f13)), (q3, .inl (gc g 2, 10, .inl (fun _ => 0))), (q5, .inl (gc g 0, 10, .inl (fun _ => 0)))] ++ T11) H := by rw [hT11]; exact hP
  replace hD : va_D A ([(h0, .inr (13, mfs f13)), (q3, .inl (gc g 2, 10, .inl (fun _ => 0))), (q5, .inl (gc g 0, 10, .inl (fun _ => 0)))] ++ T11) := by rw [hT11]; exact hD
  refine lv_aload_n hC.1 hC.2.1 dX12_init_109 rfl (lv_at hl 0 rfl) ?_
  refine lv_bipush (v := (6 : Int32)) hC.1 hC.2.1 dX12_init_110 (by decide) ?_
  refine nw_i (N := 6) hC hP hD hS hA wd_60 (by decide) (by decide) (by decide) (Nat.le_of_ble_eq_true rfl) (Nat.le_of_ble_eq_true rfl) dX12_init_112 (fun q14 H hP9 hD9 hS9 => ?_)
  clear hP hD hS
  have hP := hP9
  have hD := hD9
  have hS := hS9
  clear hP9 hD9 hS9
  replace hP := va_P.swap hP
  replace hD := va_D.swap hD
  replace hP : va_P (gD g) vwCl ([(h0, .inr (13, mfs f13)), (q3, .inl (gc g 2, 10, .inl (fun _ => 0))), (q5, .inl (gc g 0, 10, .inl (fun _ => 0))), (q14, .inl (gc g 0, 6, .inl (fun _ => 0)))] ++ T11) H := hP
  replace hD : va_D A ([(h0, .inr (13, mfs f13)), (q3, .inl (gc g 2, 10, .inl (fun _ => 0))), (q5, .inl (gc g 0, 10, .inl (fun _ => 0))), (q14, .inl (gc g 0, 6, .inl (fun _ => 0)))] ++ T11) := hD
  refine W.widen (k := 14) (n := 299) (Nat.le_of_ble_eq_true rfl) (Nat.le_of_ble_eq_true rfl) ?_
  refine mp_put hC (hnm.trans rfl) hP hD hS 20 (by decide) wd_1142 rfl rfl (ty := .array (.int)) (by decide +kernel) rfl rfl dX12_init_114 (fun H locs hP9 hD9 hS9 => ?_)
  clear hP hD hS
  have hP := hP9
  have hD := hD9
  have hS := hS9
  clear hP9 hD9 hS9
  obtain ⟨f14, hf14⟩ : ∃ z, z = va_up f13 20 (.ref q14) := ⟨_, rfl⟩
  rw [← hf14] at hP hD
  replace hP : va_P (gD g) vwCl ([(h0, .inr (13, mfs f14)), (q3, .inl (gc g 2, 10, .inl (fun _ => 0))), (q5, .inl (gc g 0, 10, .inl (fun _ => 0))), (q14, .inl (gc g 0, 6, .inl (fun _ => 0)))] ++ T11) H := hP
  replace hD : va_D A ([(h0, .inr (13, mfs f14)), (q3, .inl (gc g 2, 10, .inl (fun _ => 0))), (q5, .inl (gc g 0, 10, .inl (fun _ => 0))), (q14, .inl (gc g 0, 6, .inl (fun _ => 0)))] ++ T11) := hD
  obtain ⟨hP9, hD9⟩ := t_perm (ws2 := [(h0, .inr (13, mfs f14)), (q3, .inl (gc g 2, 10, .inl (fun _ => 0))), (q5, .inl (gc g 0, 10, .inl (fun _ => 0))), (q14, .inl (gc g 0, 6, .inl (fun _ => 0)))]) hP hD [0, 1, 2, 3] rfl (by decide)
  clear hP hD
  have hP := hP9
  have hD := hD9
  clear hP9 hD9
  obtain ⟨T12, hT12⟩ : ∃ T : va_W, T = [(q14, .inl (gc g 0, 6, .inl (fun _ => 0)))] ++ T11 := ⟨_, rfl⟩
  replace hP : va_P (gD g) vwCl ([(h0, .inr (13, mfs f14)), (q3, .inl (gc g 2, 10, .inl (fun _ => 0))), (q5, .inl (gc g 0, 10, .inl (fun _ => 0)))] ++ T12) H := by rw [hT12]; exact hP
  replace hD : va_D A ([(h0, .inr (13, mfs f14)), (q3, .inl (gc g 2, 10, .inl (fun _ => 0))), (q5, .inl (gc g 0, 10, .inl (fun _ => 0)))] ++ T12) := by rw [hT12]; exact hD
  refine lv_aload_n hC.1 hC.2.1 dX12_init_117 rfl (lv_at hl 0 rfl) ?_
  refine lv_bipush (v := (6 : Int32)) hC.1 hC.2.1 dX12_init_118 (by decide) ?_
  refine nw_i (N := 6) hC hP hD hS hA wd_60 (by decide) (by decide) (by decide) (Nat.le_of_ble_eq_true rfl) (Nat.le_of_ble_eq_true rfl) dX12_init_120 (fun q15 H hP9 hD9 hS9 => ?_)
  clear hP hD hS
  have hP := hP9
  have hD := hD9
  have hS := hS9
  clear hP9 hD9 hS9
  replace hP := va_P.swap hP
  replace hD := va_D.swap hD
  replace hP : va_P (gD g) vwCl ([(h0, .inr (13, mfs f14)), (q3, .inl (gc g 2, 10, .inl (fun _ => 0))), (q5, .inl (gc g 0, 10, .inl (fun _ => 0))), (q15, .inl (gc g 0, 6, .inl (fun _ => 0)))] ++ T12) H := hP
  replace hD : va_D A ([(h0, .inr (13, mfs f14)), (q3, .inl (gc g 2, 10, .inl (fun _ => 0))), (q5, .inl (gc g 0, 10, .inl (fun _ => 0))), (q15, .inl (gc g 0, 6, .inl (fun _ => 0)))] ++ T12) := hD
  refine W.widen (k := 15) (n := 305) (Nat.le_of_ble_eq_true rfl) (Nat.le_of_ble_eq_true rfl) ?_
  refine mp_put hC (hnm.trans rfl) hP hD hS 21 (by decide) wd_1143 rfl rfl (ty := .array (.int)) (by decide +kernel) rfl rfl dX12_init_122 (fun H locs hP9 hD9 hS9 => ?_)
  clear hP hD hS
  have hP := hP9
  have hD := hD9
  have hS := hS9
  clear hP9 hD9 hS9
  obtain ⟨f15, hf15⟩ : ∃ z, z = va_up f14 21 (.ref q15) := ⟨_, rfl⟩
  rw [← hf15] at hP hD
  replace hP : va_P (gD g) vwCl ([(h0, .inr (13, mfs f15)), (q3, .inl (gc g 2, 10, .inl (fun _ => 0))), (q5, .inl (gc g 0, 10, .inl (fun _ => 0))), (q15, .inl (gc g 0, 6, .inl (fun _ => 0)))] ++ T12) H := hP
  replace hD : va_D A ([(h0, .inr (13, mfs f15)), (q3, .inl (gc g 2, 10, .inl (fun _ => 0))), (q5, .inl (gc g 0, 10, .inl (fun _ => 0))), (q15, .inl (gc g 0, 6, .inl (fun _ => 0)))] ++ T12) := hD
  obtain ⟨hP9, hD9⟩ := t_perm (ws2 := [(h0, .inr (13, mfs f15)), (q3, .inl (gc g 2, 10, .inl (fun _ => 0))), (q5, .inl (gc g 0, 10, .inl (fun _ => 0))), (q15, .inl (gc g 0, 6, .inl (fun _ => 0)))]) hP hD [0, 1, 2, 3] rfl (by decide)
  clear hP hD
  have hP := hP9
  have hD := hD9
  clear hP9 hD9
  obtain ⟨T13, hT13⟩ : ∃ T : va_W, T = [(q15, .inl (gc g 0, 6, .inl (fun _ => 0)))] ++ T12 := ⟨_, rfl⟩
  replace hP : va_P (gD g) vwCl ([(h0, .inr (13, mfs f15)), (q3, .inl (gc g 2, 10, .inl (fun _ => 0))), (q5, .inl (gc g 0, 10, .inl (fun _ => 0)))] ++ T13) H := by rw [hT13]; exact hP
  replace hD : va_D A ([(h0, .inr (13, mfs f15)), (q3, .inl (gc g 2, 10, .inl (fun _ => 0))), (q5, .inl (gc g 0, 10, .inl (fun _ => 0)))] ++ T13) := by rw [hT13]; exact hD
  refine lv_aload_n hC.1 hC.2.1 dX12_init_125 rfl (lv_at hl 0 rfl) ?_
  refine lv_bipush (v := (6 : Int32)) hC.1 hC.2.1 dX12_init_126 (by decide) ?_
  refine nw_i (N := 6) hC hP hD hS hA wd_60 (by decide) (by decide) (by decide) (Nat.le_of_ble_eq_true rfl) (Nat.le_of_ble_eq_true rfl) dX12_init_128 (fun q16 H hP9 hD9 hS9 => ?_)
  clear hP hD hS
  have hP := hP9
  have hD := hD9
  have hS := hS9
  clear hP9 hD9 hS9
  replace hP := va_P.swap hP
  replace hD := va_D.swap hD
  replace hP : va_P (gD g) vwCl ([(h0, .inr (13, mfs f15)), (q3, .inl (gc g 2, 10, .inl (fun _ => 0))), (q5, .inl (gc g 0, 10, .inl (fun _ => 0))), (q16, .inl (gc g 0, 6, .inl (fun _ => 0)))] ++ T13) H := hP
  replace hD : va_D A ([(h0, .inr (13, mfs f15)), (q3, .inl (gc g 2, 10, .inl (fun _ => 0))), (q5, .inl (gc g 0, 10, .inl (fun _ => 0))), (q16, .inl (gc g 0, 6, .inl (fun _ => 0)))] ++ T13) := hD
  refine W.widen (k := 16) (n := 311) (Nat.le_of_ble_eq_true rfl) (Nat.le_of_ble_eq_true rfl) ?_
  refine mp_put hC (hnm.trans rfl) hP hD hS 22 (by decide) wd_1144 rfl rfl (ty := .array (.int)) (by decide +kernel) rfl rfl dX12_init_130 (fun H locs hP9 hD9 hS9 => ?_)
  clear hP hD hS
  have hP := hP9
  have hD := hD9
  have hS := hS9
  clear hP9 hD9 hS9
  obtain ⟨f16, hf16⟩ : ∃ z, z = va_up f15 22 (.ref q16) := ⟨_, rfl⟩
  rw [← hf16] at hP hD
  replace hP : va_P (gD g) vwCl ([(h0, .inr (13, mfs f16)), (q3, .inl (gc g 2, 10, .inl (fun _ => 0))), (q5, .inl (gc g 0, 10, .inl (fun _ => 0))), (q16, .inl (gc g 0, 6, .inl (fun _ => 0)))] ++ T13) H := hP
  replace hD : va_D A ([(h0, .inr (13, mfs f16)), (q3, .inl (gc g 2, 10, .inl (fun _ => 0))), (q5, .inl (gc g 0, 10, .inl (fun _ => 0))), (q16, .inl (gc g 0, 6, .inl (fun _ => 0)))] ++ T13) := hD
  obtain ⟨hP9, hD9⟩ := t_perm (ws2 := [(h0, .inr (13, mfs f16)), (q3, .inl (gc g 2, 10, .inl (fun _ => 0))), (q5, .inl (gc g 0, 10, .inl (fun _ => 0))), (q16, .inl (gc g 0, 6, .inl (fun _ => 0)))]) hP hD [0, 1, 2, 3] rfl (by decide)
  clear hP hD
  have hP := hP9
  have hD := hD9
  clear hP9 hD9
  obtain ⟨T14, hT14⟩ : ∃ T : va_W, T = [(q16, .inl (gc g 0, 6, .inl (fun _ => 0)))] ++ T13 := ⟨_, rfl⟩
  replace hP : va_P (gD g) vwCl ([(h0, .inr (13, mfs f16)), (q3, .inl (gc g 2, 10, .inl (fun _ => 0))), (q5, .inl (gc g 0, 10, .inl (fun _ => 0)))] ++ T14) H := by rw [hT14]; exact hP
  replace hD : va_D A ([(h0, .inr (13, mfs f16)), (q3, .inl (gc g 2, 10, .inl (fun _ => 0))), (q5, .inl (gc g 0, 10, .inl (fun _ => 0)))] ++ T14) := by rw [hT14]; exact hD
  refine lv_aload_n hC.1 hC.2.1 dX12_init_133 rfl (lv_at hl 0 rfl) ?_
  refine lv_bipush (v := (6 : Int32)) hC.1 hC.2.1 dX12_init_134 (by decide) ?_
  refine nw_i (N := 6) hC hP hD hS hA wd_60 (by decide) (by decide) (by decide) (Nat.le_of_ble_eq_true rfl) (Nat.le_of_ble_eq_true rfl) dX12_init_136 (fun q17 H hP9 hD9 hS9 => ?_)
  clear hP hD hS
  have hP := hP9
  have hD := hD9
  have hS := hS9
  clear hP9 hD9 hS9
  replace hP := va_P.swap hP
  replace hD := va_D.swap hD
  replace hP : va_P (gD g) vwCl ([(h0, .inr (13, mfs f16)), (q3, .inl (gc g 2, 10, .inl (fun _ => 0))), (q5, .inl (gc g 0, 10, .inl (fun _ => 0))), (q17, .inl (gc g 0, 6, .inl (fun _ => 0)))] ++ T14) H := hP
  replace hD : va_D A ([(h0, .inr (13, mfs f16)), (q3, .inl (gc g 2, 10, .inl (fun _ => 0))), (q5, .inl (gc g 0, 10, .inl (fun _ => 0))), (q17, .inl (gc g 0, 6, .inl (fun _ => 0)))] ++ T14) := hD
  refine W.widen (k := 17) (n := 317) (Nat.le_of_ble_eq_true rfl) (Nat.le_of_ble_eq_true rfl) ?_
  refine mp_put hC (hnm.trans rfl) hP hD hS 23 (by decide) wd_1145 rfl rfl (ty := .array (.int)) (by decide +kernel) rfl rfl dX12_init_138 (fun H locs hP9 hD9 hS9 => ?_)
  clear hP hD hS
  have hP := hP9
  have hD := hD9
  have hS := hS9
  clear hP9 hD9 hS9
  obtain ⟨f17, hf17⟩ : ∃ z, z = va_up f16 23 (.ref q17) := ⟨_, rfl⟩
  rw [← hf17] at hP hD
  replace hP : va_P (gD g) vwCl ([(h0, .inr (13, mfs f17)), (q3, .inl (gc g 2, 10, .inl (fun _ => 0))), (q5, .inl (gc g 0, 10, .inl (fun _ => 0))), (q17, .inl (gc g 0, 6, .inl (fun _ => 0)))] ++ T14) H := hP
  replace hD : va_D A ([(h0, .inr (13, mfs f17)), (q3, .inl (gc g 2, 10, .inl (fun _ => 0))), (q5, .inl (gc g 0, 10, .inl (fun _ => 0))), (q17, .inl (gc g 0, 6, .inl (fun _ => 0)))] ++ T14) := hD
  obtain ⟨hP9, hD9⟩ := t_perm (ws2 := [(h0, .inr (13, mfs f17)), (q3, .inl (gc g 2, 10, .inl (fun _ => 0))), (q5, .inl (gc g 0, 10, .inl (fun _ => 0))), (q17, .inl (gc g 0, 6, .inl (fun _ => 0)))]) hP hD [0, 1, 2, 3] rfl (by decide)
  clear hP hD
  have hP := hP9
  have hD := hD9
  clear hP9 hD9
  obtain ⟨T15, hT15⟩ : ∃ T : va_W, T = [(q17, .inl (gc g 0, 6, .inl (fun _ => 0)))] ++ T14 := ⟨_, rfl⟩
  replace hP : va_P (gD g) vwCl ([(h0, .inr (13, mfs f17)), (q3, .inl (gc g 2, 10, .inl (fun _ => 0))), (q5, .inl (gc g 0, 10, .inl (fun _ => 0)))] ++ T15) H := by rw [hT15]; exact hP
  replace hD : va_D A ([(h0, .inr (13, mfs f17)), (q3, .inl (gc g 2, 10, .inl (fun _ => 0))), (q5, .inl (gc g 0, 10, .inl (fun _ => 0)))] ++ T15) := by rw [hT15]; exact hD
  refine lv_aload_n hC.1 hC.2.1 dX12_init_141 rfl (lv_at hl 0 rfl) ?_
  refine lv_bipush (v := (6 : Int32)) hC.1 hC.2.1 dX12_init_142 (by decide) ?_
  refine nw_z (N := 6) hC hP hD hS hA wd_394 (by decide) (by decide) (by decide) (Nat.le_of_ble_eq_true rfl) (Nat.le_of_ble_eq_true rfl) dX12_init_144 (fun q18 H hP9 hD9 hS9 => ?_)
  clear hP hD hS
  have hP := hP9
  have hD := hD9
  have hS := hS9
  clear hP9 hD9 hS9
  replace hP := va_P.swap hP
  replace hD := va_D.swap hD
  replace hP : va_P (gD g) vwCl ([(h0, .inr (13, mfs f17)), (q3, .inl (gc g 2, 10, .inl (fun _ => 0))), (q5, .inl (gc g 0, 10, .inl (fun _ => 0))), (q18, .inl (gc g 2, 6, .inl (fun _ => 0)))] ++ T15) H := hP
  replace hD : va_D A ([(h0, .inr (13, mfs f17)), (q3, .inl (gc g 2, 10, .inl (fun _ => 0))), (q5, .inl (gc g 0, 10, .inl (fun _ => 0))), (q18, .inl (gc g 2, 6, .inl (fun _ => 0)))] ++ T15) := hD
  refine W.widen (k := 18) (n := 323) (Nat.le_of_ble_eq_true rfl) (Nat.le_of_ble_eq_true rfl) ?_
  refine mp_put hC (hnm.trans rfl) hP hD hS 24 (by decide) wd_1146 rfl rfl (ty := .array (.boolean)) (by decide +kernel) rfl rfl dX12_init_146 (fun H locs hP9 hD9 hS9 => ?_)
  clear hP hD hS
  have hP := hP9
  have hD := hD9
  have hS := hS9
  clear hP9 hD9 hS9
  obtain ⟨f18, hf18⟩ : ∃ z, z = va_up f17 24 (.ref q18) := ⟨_, rfl⟩
  rw [← hf18] at hP hD
  replace hP : va_P (gD g) vwCl ([(h0, .inr (13, mfs f18)), (q3, .inl (gc g 2, 10, .inl (fun _ => 0))), (q5, .inl (gc g 0, 10, .inl (fun _ => 0))), (q18, .inl (gc g 2, 6, .inl (fun _ => 0)))] ++ T15) H := hP
  replace hD : va_D A ([(h0, .inr (13, mfs f18)), (q3, .inl (gc g 2, 10, .inl (fun _ => 0))), (q5, .inl (gc g 0, 10, .inl (fun _ => 0))), (q18, .inl (gc g 2, 6, .inl (fun _ => 0)))] ++ T15) := hD
  obtain ⟨hP9, hD9⟩ := t_perm (ws2 := [(h0, .inr (13, mfs f18)), (q3, .inl (gc g 2, 10, .inl (fun _ => 0))), (q5, .inl (gc g 0, 10, .inl (fun _ => 0))), (q18, .inl (gc g 2, 6, .inl (fun _ => 0)))]) hP hD [0, 1, 2, 3] rfl (by decide)
  clear hP hD
  have hP := hP9
  have hD := hD9
  clear hP9 hD9
  obtain ⟨T16, hT16⟩ : ∃ T : va_W, T = [(q18, .inl (gc g 2, 6, .inl (fun _ => 0)))] ++ T15 := ⟨_, rfl⟩
  replace hP : va_P (gD g) vwCl ([(h0, .inr (13, mfs f18)), (q3, .inl (gc g 2, 10, .inl (fun _ => 0))), (q5, .inl (gc g 0, 10, .inl (fun _ => 0)))] ++ T16) H := by rw [hT16]; exact hP
  replace hD : va_D A ([(h0, .inr (13, mfs f18)), (q3, .inl (gc g 2, 10, .inl (fun _ => 0))), (q5, .inl (gc g 0, 10, .inl (fun _ => 0)))] ++ T16) := by rw [hT16]; exact hD
  refine lv_aload_n hC.1 hC.2.1 dX12_init_149 rfl (lv_at hl 0 rfl) ?_
  refine lv_bipush (v := (18 : Int32)) hC.1 hC.2.1 dX12_init_150 (by decide) ?_
  refine nw_i (N := 18) hC hP hD hS hA wd_60 (by decide) (by decide) (by decide) (Nat.le_of_ble_eq_true rfl) (Nat.le_of_ble_eq_true rfl) dX12_init_152 (fun q19 H hP9 hD9 hS9 => ?_)
  clear hP hD hS
  have hP := hP9
  have hD := hD9
  have hS := hS9
  clear hP9 hD9 hS9
  replace hP := va_P.swap hP
  replace hD := va_D.swap hD
  replace hP : va_P (gD g) vwCl ([(h0, .inr (13, mfs f18)), (q3, .inl (gc g 2, 10, .inl (fun _ => 0))), (q5, .inl (gc g 0, 10, .inl (fun _ => 0))), (q19, .inl (gc g 0, 18, .inl (fun _ => 0)))] ++ T16) H := hP
  replace hD : va_D A ([(h0, .inr (13, mfs f18)), (q3, .inl (gc g 2, 10, .inl (fun _ => 0))), (q5, .inl (gc g 0, 10, .inl (fun _ => 0))), (q19, .inl (gc g 0, 18, .inl (fun _ => 0)))] ++ T16) := hD
  refine W.widen (k := 19) (n := 341) (Nat.le_of_ble_eq_true rfl) (Nat.le_of_ble_eq_true rfl) ?_
  refine mp_put hC (hnm.trans rfl) hP hD hS 26 (by decide) wd_1148 rfl rfl (ty := .array (.int)) (by decide +kernel) rfl rfl dX12_init_154 (fun H locs hP9 hD9 hS9 => ?_)
  clear hP hD hS
  have hP := hP9
  have hD := hD9
  have hS := hS9
  clear hP9 hD9 hS9
  obtain ⟨f19, hf19⟩ : ∃ z, z = va_up f18 26 (.ref q19) := ⟨_, rfl⟩
  rw [← hf19] at hP hD
  replace hP : va_P (gD g) vwCl ([(h0, .inr (13, mfs f19)), (q3, .inl (gc g 2, 10, .inl (fun _ => 0))), (q5, .inl (gc g 0, 10, .inl (fun _ => 0))), (q19, .inl (gc g 0, 18, .inl (fun _ => 0)))] ++ T16) H := hP
  replace hD : va_D A ([(h0, .inr (13, mfs f19)), (q3, .inl (gc g 2, 10, .inl (fun _ => 0))), (q5, .inl (gc g 0, 10, .inl (fun _ => 0))), (q19, .inl (gc g 0, 18, .inl (fun _ => 0)))] ++ T16) := hD
  obtain ⟨hP9, hD9⟩ := t_perm (ws2 := [(h0, .inr (13, mfs f19)), (q3, .inl (gc g 2, 10, .inl (fun _ => 0))), (q5, .inl (gc g 0, 10, .inl (fun _ => 0))), (q19, .inl (gc g 0, 18, .inl (fun _ => 0)))]) hP hD [0, 1, 2, 3] rfl (by decide)
  clear hP hD
  have hP := hP9
  have hD := hD9
  clear hP9 hD9
  obtain ⟨T17, hT17⟩ : ∃ T : va_W, T = [(q19, .inl (gc g 0, 18, .inl (fun _ => 0)))] ++ T16 := ⟨_, rfl⟩
  replace hP : va_P (gD g) vwCl ([(h0, .inr (13, mfs f19)), (q3, .inl (gc g 2, 10, .inl (fun _ => 0))), (q5, .inl (gc g 0, 10, .inl (fun _ => 0)))] ++ T17) H := by rw [hT17]; exact hP
  replace hD : va_D A ([(h0, .inr (13, mfs f19)), (q3, .inl (gc g 2, 10, .inl (fun _ => 0))), (q5, .inl (gc g 0, 10, .inl (fun _ => 0)))] ++ T17) := by rw [hT17]; exact hD
  refine lv_aload_n hC.1 hC.2.1 dX12_init_157 rfl (lv_at hl 0 rfl) ?_
  refine lv_bipush (v := (18 : Int32)) hC.1 hC.2.1 dX12_init_158 (by decide) ?_
  refine nw_i (N := 18) hC hP hD hS hA wd_60 (by decide) (by decide) (by decide) (Nat.le_of_ble_eq_true rfl) (Nat.le_of_ble_eq_true rfl) dX12_init_160 (fun q20 H hP9 hD9 hS9 => ?_)
  clear hP hD hS
  have hP := hP9
  have hD := hD9
  have hS := hS9
  clear hP9 hD9 hS9
  replace hP := va_P.swap hP
  replace hD := va_D.swap hD
  replace hP : va_P (gD g) vwCl ([(h0, .inr (13, mfs f19)), (q3, .inl (gc g 2, 10, .inl (fun _ => 0))), (q5, .inl (gc g 0, 10, .inl (fun _ => 0))), (q20, .inl (gc g 0, 18, .inl (fun _ => 0)))] ++ T17) H := hP
  replace hD : va_D A ([(h0, .inr (13, mfs f19)), (q3, .inl (gc g 2, 10, .inl (fun _ => 0))), (q5, .inl (gc g 0, 10, .inl (fun _ => 0))), (q20, .inl (gc g 0, 18, .inl (fun _ => 0)))] ++ T17) := hD
  refine W.widen (k := 20) (n := 359) (Nat.le_of_ble_eq_true rfl) (Nat.le_of_ble_eq_true rfl) ?_
  refine mp_put hC (hnm.trans rfl) hP hD hS 27 (by decide) wd_1149 rfl rfl (ty := .array (.int)) (by decide +kernel) rfl rfl dX12_init_162 (fun H locs hP9 hD9 hS9 => ?_)
  clear hP hD hS
  have hP := hP9
  have hD := hD9
  have hS := hS9
  clear hP9 hD9 hS9
  obtain ⟨f20, hf20⟩ : ∃ z, z = va_up f19 27 (.ref q20) := ⟨_, rfl⟩
  rw [← hf20] at hP hD
  replace hP : va_P (gD g) vwCl ([(h0, .inr (13, mfs f20)), (q3, .inl (gc g 2, 10, .inl (fun _ => 0))), (q5, .inl (gc g 0, 10, .inl (fun _ => 0))), (q20, .inl (gc g 0, 18, .inl (fun _ => 0)))] ++ T17) H := hP
  replace hD : va_D A ([(h0, .inr (13, mfs f20)), (q3, .inl (gc g 2, 10, .inl (fun _ => 0))), (q5, .inl (gc g 0, 10, .inl (fun _ => 0))), (q20, .inl (gc g 0, 18, .inl (fun _ => 0)))] ++ T17) := hD
  obtain ⟨hP9, hD9⟩ := t_perm (ws2 := [(h0, .inr (13, mfs f20)), (q3, .inl (gc g 2, 10, .inl (fun _ => 0))), (q5, .inl (gc g 0, 10, .inl (fun _ => 0))), (q20, .inl (gc g 0, 18, .inl (fun _ => 0)))]) hP hD [0, 1, 2, 3] rfl (by decide)
  clear hP hD
  have hP := hP9
  have hD := hD9
  clear hP9 hD9
  obtain ⟨T18, hT18⟩ : ∃ T : va_W, T = [(q20, .inl (gc g 0, 18, .inl (fun _ => 0)))] ++ T17 := ⟨_, rfl⟩
  replace hP : va_P (gD g) vwCl ([(h0, .inr (13, mfs f20)), (q3, .inl (gc g 2, 10, .inl (fun _ => 0))), (q5, .inl (gc g 0, 10, .inl (fun _ => 0)))] ++ T18) H := by rw [hT18]; exact hP
  replace hD : va_D A ([(h0, .inr (13, mfs f20)), (q3, .inl (gc g 2, 10, .inl (fun _ => 0))), (q5, .inl (gc g 0, 10, .inl (fun _ => 0)))] ++ T18) := by rw [hT18]; exact hD
  refine lv_aload_n hC.1 hC.2.1 dX12_init_165 rfl (lv_at hl 0 rfl) ?_
  refine lv_iconst (v := (3 : Int32)) hC.1 hC.2.1 dX12_init_166 (by decide) ?_
  refine nw_i (N := 3) hC hP hD hS hA wd_60 (by decide) (by decide) (by decide) (Nat.le_of_ble_eq_true rfl) (Nat.le_of_ble_eq_true rfl) dX12_init_167 (fun q21 H hP9 hD9 hS9 => ?_)
  clear hP hD hS
  have hP := hP9
  have hD := hD9
  have hS := hS9
  clear hP9 hD9 hS9
  replace hP := va_P.swap hP
  replace hD := va_D.swap hD
  replace hP : va_P (gD g) vwCl ([(h0, .inr (13, mfs f20)), (q3, .inl (gc g 2, 10, .inl (fun _ => 0))), (q5, .inl (gc g 0, 10, .inl (fun _ => 0))), (q21, .inl (gc g 0, 3, .inl (fun _ => 0)))] ++ T18) H := hP
  replace hD : va_D A ([(h0, .inr (13, mfs f20)), (q3, .inl (gc g 2, 10, .inl (fun _ => 0))), (q5, .inl (gc g 0, 10, .inl (fun _ => 0))), (q21, .inl (gc g 0, 3, .inl (fun _ => 0)))] ++ T18) := hD
  refine W.widen (k := 21) (n := 362) (Nat.le_of_ble_eq_true rfl) (Nat.le_of_ble_eq_true rfl) ?_
  refine mp_put hC (hnm.trans rfl) hP hD hS 28 (by decide) wd_1150 rfl rfl (ty := .array (.int)) (by decide +kernel) rfl rfl dX12_init_169 (fun H locs hP9 hD9 hS9 => ?_)
  clear hP hD hS
  have hP := hP9
  have hD := hD9
  have hS := hS9
  clear hP9 hD9 hS9
  obtain ⟨f21, hf21⟩ : ∃ z, z = va_up f20 28 (.ref q21) := ⟨_, rfl⟩
  rw [← hf21] at hP hD
  replace hP : va_P (gD g) vwCl ([(h0, .inr (13, mfs f21)), (q3, .inl (gc g 2, 10, .inl (fun _ => 0))), (q5, .inl (gc g 0, 10, .inl (fun _ => 0))), (q21, .inl (gc g 0, 3, .inl (fun _ => 0)))] ++ T18) H := hP
  replace hD : va_D A ([(h0, .inr (13, mfs f21)), (q3, .inl (gc g 2, 10, .inl (fun _ => 0))), (q5, .inl (gc g 0, 10, .inl (fun _ => 0))), (q21, .inl (gc g 0, 3, .inl (fun _ => 0)))] ++ T18) := hD
  refine lv_aload_n hC.1 hC.2.1 dX12_init_172 rfl (lv_at hl 0 rfl) ?_
  refine lv_bipush (v := (6 : Int32)) hC.1 hC.2.1 dX12_init_173 (by decide) ?_
  refine nw_i (N := 6) hC hP hD hS hA wd_60 (by decide) (by decide) (by decide) (Nat.le_of_ble_eq_true rfl) (Nat.le_of_ble_eq_true rfl) dX12_init_175 (fun q22 H hP9 hD9 hS9 => ?_)
  clear hP hD hS
  have hP := hP9
  have hD := hD9
  have hS := hS9
  clear hP9 hD9 hS9
  replace hP := va_P.swap hP
  replace hD := va_D.swap hD
  replace hP : va_P (gD g) vwCl ([(h0, .inr (13, mfs f21)), (q3, .inl (gc g 2, 10, .inl (fun _ => 0))), (q5, .inl (gc g 0, 10, .inl (fun _ => 0))), (q21, .inl (gc g 0, 3, .inl (fun _ => 0))), (q22, .inl (gc g 0, 6, .inl (fun _ => 0)))] ++ T18) H := hP
  replace hD : va_D A ([(h0, .inr (13, mfs f21)), (q3, .inl (gc g 2, 10, .inl (fun _ => 0))), (q5, .inl (gc g 0, 10, .inl (fun _ => 0))), (q21, .inl (gc g 0, 3, .inl (fun _ => 0))), (q22, .inl (gc g 0, 6, .inl (fun _ => 0)))] ++ T18) := hD
  refine W.widen (k := 22) (n := 368) (Nat.le_of_ble_eq_true rfl) (Nat.le_of_ble_eq_true rfl) ?_
  refine mp_put hC (hnm.trans rfl) hP hD hS 29 (by decide) wd_1151 rfl rfl (ty := .array (.int)) (by decide +kernel) rfl rfl dX12_init_177 (fun H locs hP9 hD9 hS9 => ?_)
  clear hP hD hS
  have hP := hP9
  have hD := hD9
  have hS := hS9
  clear hP9 hD9 hS9
  obtain ⟨f22, hf22⟩ : ∃ z, z = va_up f21 29 (.ref q22) := ⟨_, rfl⟩
  rw [← hf22] at hP hD
  replace hP : va_P (gD g) vwCl ([(h0, .inr (13, mfs f22)), (q3, .inl (gc g 2, 10, .inl (fun _ => 0))), (q5, .inl (gc g 0, 10, .inl (fun _ => 0))), (q21, .inl (gc g 0, 3, .inl (fun _ => 0))), (q22, .inl (gc g 0, 6, .inl (fun _ => 0)))] ++ T18) H := hP
  replace hD : va_D A ([(h0, .inr (13, mfs f22)), (q3, .inl (gc g 2, 10, .inl (fun _ => 0))), (q5, .inl (gc g 0, 10, .inl (fun _ => 0))), (q21, .inl (gc g 0, 3, .inl (fun _ => 0))), (q22, .inl (gc g 0, 6, .inl (fun _ => 0)))] ++ T18) := hD
  obtain ⟨hP9, hD9⟩ := t_perm (ws2 := [(h0, .inr (13, mfs f22)), (q3, .inl (gc g 2, 10, .inl (fun _ => 0))), (q5, .inl (gc g 0, 10, .inl (fun _ => 0))), (q21, .inl (gc g 0, 3, .inl (fun _ => 0))), (q22, .inl (gc g 0, 6, .inl (fun _ => 0)))]) hP hD [0, 1, 2, 3, 4] rfl (by decide)
  clear hP hD
  have hP := hP9
  have hD := hD9
  clear hP9 hD9
  obtain ⟨T19, hT19⟩ : ∃ T : va_W, T = [(q22, .inl (gc g 0, 6, .inl (fun _ => 0)))] ++ T18 := ⟨_, rfl⟩
  replace hP : va_P (gD g) vwCl ([(h0, .inr (13, mfs f22)), (q3, .inl (gc g 2, 10, .inl (fun _ => 0))), (q5, .inl (gc g 0, 10, .inl (fun _ => 0))), (q21, .inl (gc g 0, 3, .inl (fun _ => 0)))] ++ T19) H := by rw [hT19]; exact hP
  replace hD : va_D A ([(h0, .inr (13, mfs f22)), (q3, .inl (gc g 2, 10, .inl (fun _ => 0))), (q5, .inl (gc g 0, 10, .inl (fun _ => 0))), (q21, .inl (gc g 0, 3, .inl (fun _ => 0)))] ++ T19) := by rw [hT19]; exact hD
  refine lv_aload_n hC.1 hC.2.1 dX12_init_180 rfl (lv_at hl 0 rfl) ?_
  refine lv_sipush (v := (240 : Int32)) hC.1 hC.2.1 dX12_init_181 (by decide) ?_
  refine nw_i (N := 240) hC hP hD hS hA wd_60 (by decide) (by decide) (by decide) (Nat.le_of_ble_eq_true rfl) (Nat.le_of_ble_eq_true rfl) dX12_init_184 (fun q23 H hP9 hD9 hS9 => ?_)
  clear hP hD hS
  have hP := hP9
  have hD := hD9
  have hS := hS9
  clear hP9 hD9 hS9
  replace hP := va_P.swap hP
  replace hD := va_D.swap hD
  replace hP : va_P (gD g) vwCl ([(h0, .inr (13, mfs f22)), (q3, .inl (gc g 2, 10, .inl (fun _ => 0))), (q5, .inl (gc g 0, 10, .inl (fun _ => 0))), (q21, .inl (gc g 0, 3, .inl (fun _ => 0))), (q23, .inl (gc g 0, 240, .inl (fun _ => 0)))] ++ T19) H := hP
  replace hD : va_D A ([(h0, .inr (13, mfs f22)), (q3, .inl (gc g 2, 10, .inl (fun _ => 0))), (q5, .inl (gc g 0, 10, .inl (fun _ => 0))), (q21, .inl (gc g 0, 3, .inl (fun _ => 0))), (q23, .inl (gc g 0, 240, .inl (fun _ => 0)))] ++ T19) := hD
  refine W.widen (k := 23) (n := 608) (Nat.le_of_ble_eq_true rfl) (Nat.le_of_ble_eq_true rfl) ?_
  refine mp_put hC (hnm.trans rfl) hP hD hS 30 (by decide) wd_1152 rfl rfl (ty := .array (.int)) (by decide +kernel) rfl rfl dX12_init_186 (fun H locs hP9 hD9 hS9 => ?_)
  clear hP hD hS
  have hP := hP9
  have hD := hD9
  have hS := hS9
  clear hP9 hD9 hS9
  obtain ⟨f23, hf23⟩ : ∃ z, z = va_up f22 30 (.ref q23) := ⟨_, rfl⟩
  rw [← hf23] at hP hD
  replace hP : va_P (gD g) vwCl ([(h0, .inr (13, mfs f23)), (q3, .inl (gc g 2, 10, .inl (fun _ => 0))), (q5, .inl (gc g 0, 10, .inl (fun _ => 0))), (q21, .inl (gc g 0, 3, .inl (fun _ => 0))), (q23, .inl (gc g 0, 240, .inl (fun _ => 0)))] ++ T19) H := hP
  replace hD : va_D A ([(h0, .inr (13, mfs f23)), (q3, .inl (gc g 2, 10, .inl (fun _ => 0))), (q5, .inl (gc g 0, 10, .inl (fun _ => 0))), (q21, .inl (gc g 0, 3, .inl (fun _ => 0))), (q23, .inl (gc g 0, 240, .inl (fun _ => 0)))] ++ T19) := hD
  obtain ⟨hP9, hD9⟩ := t_perm (ws2 := [(h0, .inr (13, mfs f23)), (q3, .inl (gc g 2, 10, .inl (fun _ => 0))), (q5, .inl (gc g 0, 10, .inl (fun _ => 0))), (q21, .inl (gc g 0, 3, .inl (fun _ => 0))), (q23, .inl (gc g 0, 240, .inl (fun _ => 0)))]) hP hD [0, 1, 2, 3, 4] rfl (by decide)
  clear hP hD
  have hP := hP9
  have hD := hD9
  clear hP9 hD9
  obtain ⟨T20, hT20⟩ : ∃ T : va_W, T = [(q23, .inl (gc g 0, 240, .inl (fun _ => 0)))] ++ T19 := ⟨_, rfl⟩
  replace hP : va_P (gD g) vwCl ([(h0, .inr (13, mfs f23)), (q3, .inl (gc g 2, 10, .inl (fun _ => 0))), (q5, .inl (gc g 0, 10, .inl (fun _ => 0))), (q21, .inl (gc g 0, 3, .inl (fun _ => 0)))] ++ T20) H := by rw [hT20]; exact hP
  replace hD : va_D A ([(h0, .inr (13, mfs f23)), (q3, .inl (gc g 2, 10, .inl (fun _ => 0))), (q5, .inl (gc g 0, 10, .inl (fun _ => 0))), (q21, .inl (gc g 0, 3, .inl (fun _ => 0)))] ++ T20) := by rw [hT20]; exact hD
  refine lv_aload_n hC.1 hC.2.1 dX12_init_189 rfl (lv_at hl 0 rfl) ?_
  refine lv_bipush (v := (6 : Int32)) hC.1 hC.2.1 dX12_init_190 (by decide) ?_
  refine nw_i (N := 6) hC hP hD hS hA wd_60 (by decide) (by decide) (by decide) (Nat.le_of_ble_eq_true rfl) (Nat.le_of_ble_eq_true rfl) dX12_init_192 (fun q24 H hP9 hD9 hS9 => ?_)
  clear hP hD hS
  have hP := hP9
  have hD := hD9
  have hS := hS9
  clear hP9 hD9 hS9
  replace hP := va_P.swap hP
  replace hD := va_D.swap hD
  replace hP : va_P (gD g) vwCl ([(h0, .inr (13, mfs f23)), (q3, .inl (gc g 2, 10, .inl (fun _ => 0))), (q5, .inl (gc g 0, 10, .inl (fun _ => 0))), (q21, .inl (gc g 0, 3, .inl (fun _ => 0))), (q24, .inl (gc g 0, 6, .inl (fun _ => 0)))] ++ T20) H := hP
  replace hD : va_D A ([(h0, .inr (13, mfs f23)), (q3, .inl (gc g 2, 10, .inl (fun _ => 0))), (q5, .inl (gc g 0, 10, .inl (fun _ => 0))), (q21, .inl (gc g 0, 3, .inl (fun _ => 0))), (q24, .inl (gc g 0, 6, .inl (fun _ => 0)))] ++ T20) := hD
  refine W.widen (k := 24) (n := 614) (Nat.le_of_ble_eq_true rfl) (Nat.le_of_ble_eq_true rfl) ?_
  refine mp_put hC (hnm.trans rfl) hP hD hS 31 (by decide) wd_1153 rfl rfl (ty := .array (.int)) (by decide +kernel) rfl rfl dX12_init_194 (fun H locs hP9 hD9 hS9 => ?_)
  clear hP hD hS
  have hP := hP9
  have hD := hD9
  have hS := hS9
  clear hP9 hD9 hS9
  obtain ⟨f24, hf24⟩ : ∃ z, z = va_up f23 31 (.ref q24) := ⟨_, rfl⟩
  rw [← hf24] at hP hD
  replace hP : va_P (gD g) vwCl ([(h0, .inr (13, mfs f24)), (q3, .inl (gc g 2, 10, .inl (fun _ => 0))), (q5, .inl (gc g 0, 10, .inl (fun _ => 0))), (q21, .inl (gc g 0, 3, .inl (fun _ => 0))), (q24, .inl (gc g 0, 6, .inl (fun _ => 0)))] ++ T20) H := hP
  replace hD : va_D A ([(h0, .inr (13, mfs f24)), (q3, .inl (gc g 2, 10, .inl (fun _ => 0))), (q5, .inl (gc g 0, 10, .inl (fun _ => 0))), (q21, .inl (gc g 0, 3, .inl (fun _ => 0))), (q24, .inl (gc g 0, 6, .inl (fun _ => 0)))] ++ T20) := hD
  obtain ⟨hP9, hD9⟩ := t_perm (ws2 := [(h0, .inr (13, mfs f24)), (q3, .inl (gc g 2, 10, .inl (fun _ => 0))), (q5, .inl (gc g 0, 10, .inl (fun _ => 0))), (q21, .inl (gc g 0, 3, .inl (fun _ => 0))), (q24, .inl (gc g 0, 6, .inl (fun _ => 0)))]) hP hD [0, 1, 2, 3, 4] rfl (by decide)
  clear hP hD
  have hP := hP9
  have hD := hD9
  clear hP9 hD9
  obtain ⟨T21, hT21⟩ : ∃ T : va_W, T = [(q24, .inl (gc g 0, 6, .inl (fun _ => 0)))] ++ T20 := ⟨_, rfl⟩
  replace hP : va_P (gD g) vwCl ([(h0, .inr (13, mfs f24)), (q3, .inl (gc g 2, 10, .inl (fun _ => 0))), (q5, .inl (gc g 0, 10, .inl (fun _ => 0))), (q21, .inl (gc g 0, 3, .inl (fun _ => 0)))] ++ T21) H := by rw [hT21]; exact hP
  replace hD : va_D A ([(h0, .inr (13, mfs f24)), (q3, .inl (gc g 2, 10, .inl (fun _ => 0))), (q5, .inl (gc g 0, 10, .inl (fun _ => 0))), (q21, .inl (gc g 0, 3, .inl (fun _ => 0)))] ++ T21) := by rw [hT21]; exact hD
  refine lv_aload_n hC.1 hC.2.1 dX12_init_197 rfl (lv_at hl 0 rfl) ?_
  refine lv_bipush (v := (6 : Int32)) hC.1 hC.2.1 dX12_init_198 (by decide) ?_
  refine nw_i (N := 6) hC hP hD hS hA wd_60 (by decide) (by decide) (by decide) (Nat.le_of_ble_eq_true rfl) (Nat.le_of_ble_eq_true rfl) dX12_init_200 (fun q25 H hP9 hD9 hS9 => ?_)
  clear hP hD hS
  have hP := hP9
  have hD := hD9
  have hS := hS9
  clear hP9 hD9 hS9
  replace hP := va_P.swap hP
  replace hD := va_D.swap hD
  replace hP : va_P (gD g) vwCl ([(h0, .inr (13, mfs f24)), (q3, .inl (gc g 2, 10, .inl (fun _ => 0))), (q5, .inl (gc g 0, 10, .inl (fun _ => 0))), (q21, .inl (gc g 0, 3, .inl (fun _ => 0))), (q25, .inl (gc g 0, 6, .inl (fun _ => 0)))] ++ T21) H := hP
  replace hD : va_D A ([(h0, .inr (13, mfs f24)), (q3, .inl (gc g 2, 10, .inl (fun _ => 0))), (q5, .inl (gc g 0, 10, .inl (fun _ => 0))), (q21, .inl (gc g 0, 3, .inl (fun _ => 0))), (q25, .inl (gc g 0, 6, .inl (fun _ => 0)))] ++ T21) := hD
  refine W.widen (k := 25) (n := 620) (Nat.le_of_ble_eq_true rfl) (Nat.le_of_ble_eq_true rfl) ?_
  refine mp_put hC (hnm.trans rfl) hP hD hS 32 (by decide) wd_1154 rfl rfl (ty := .array (.int)) (by decide +kernel) rfl rfl dX12_init_202 (fun H locs hP9 hD9 hS9 => ?_)
  clear hP hD hS
  have hP := hP9
  have hD := hD9
  have hS := hS9
  clear hP9 hD9 hS9
  obtain ⟨f25, hf25⟩ : ∃ z, z = va_up f24 32 (.ref q25) := ⟨_, rfl⟩
  rw [← hf25] at hP hD
  replace hP : va_P (gD g) vwCl ([(h0, .inr (13, mfs f25)), (q3, .inl (gc g 2, 10, .inl (fun _ => 0))), (q5, .inl (gc g 0, 10, .inl (fun _ => 0))), (q21, .inl (gc g 0, 3, .inl (fun _ => 0))), (q25, .inl (gc g 0, 6, .inl (fun _ => 0)))] ++ T21) H := hP
  replace hD : va_D A ([(h0, .inr (13, mfs f25)), (q3, .inl (gc g 2, 10, .inl (fun _ => 0))), (q5, .inl (gc g 0, 10, .inl (fun _ => 0))), (q21, .inl (gc g 0, 3, .inl (fun _ => 0))), (q25, .inl (gc g 0, 6, .inl (fun _ => 0)))] ++ T21) := hD
  obtain ⟨hP9, hD9⟩ := t_perm (ws2 := [(h0, .inr (13, mfs f25)), (q3, .inl (gc g 2, 10, .inl (fun _ => 0))), (q5, .inl (gc g 0, 10, .inl (fun _ => 0))), (q21, .inl (gc g 0, 3, .inl (fun _ => 0))), (q25, .inl (gc g 0, 6, .inl (fun _ => 0)))]) hP hD [0, 1, 2, 3, 4] rfl (by decide)
  clear hP hD
  have hP := hP9
  have hD := hD9
  clear hP9 hD9
  obtain ⟨T22, hT22⟩ : ∃ T : va_W, T = [(q25, .inl (gc g 0, 6, .inl (fun _ => 0)))] ++ T21 := ⟨_, rfl⟩
  replace hP : va_P (gD g) vwCl ([(h0, .inr (13, mfs f25)), (q3, .inl (gc g 2, 10, .inl (fun _ => 0))), (q5, .inl (gc g 0, 10, .inl (fun _ => 0))), (q21, .inl (gc g 0, 3, .inl (fun _ => 0)))] ++ T22) H := by rw [hT22]; exact hP
  replace hD : va_D A ([(h0, .inr (13, mfs f25)), (q3, .inl (gc g 2, 10, .inl (fun _ => 0))), (q5, .inl (gc g 0, 10, .inl (fun _ => 0))), (q21, .inl (gc g 0, 3, .inl (fun _ => 0)))] ++ T22) := by rw [hT22]; exact hD
  refine lv_aload_n hC.1 hC.2.1 dX12_init_205 rfl (lv_at hl 0 rfl) ?_
  refine lv_sipush (v := (144 : Int32)) hC.1 hC.2.1 dX12_init_206 (by decide) ?_
  refine nw_i (N := 144) hC hP hD hS hA wd_60 (by decide) (by decide) (by decide) (Nat.le_of_ble_eq_true rfl) (Nat.le_of_ble_eq_true rfl) dX12_init_209 (fun q26 H hP9 hD9 hS9 => ?_)
  clear hP hD hS
  have hP := hP9
  have hD := hD9
  have hS := hS9
  clear hP9 hD9 hS9
  replace hP := va_P.swap hP
  replace hD := va_D.swap hD
  replace hP : va_P (gD g) vwCl ([(h0, .inr (13, mfs f25)), (q3, .inl (gc g 2, 10, .inl (fun _ => 0))), (q5, .inl (gc g 0, 10, .inl (fun _ => 0))), (q21, .inl (gc g 0, 3, .inl (fun _ => 0))), (q26, .inl (gc g 0, 144, .inl (fun _ => 0)))] ++ T22) H := hP
  replace hD : va_D A ([(h0, .inr (13, mfs f25)), (q3, .inl (gc g 2, 10, .inl (fun _ => 0))), (q5, .inl (gc g 0, 10, .inl (fun _ => 0))), (q21, .inl (gc g 0, 3, .inl (fun _ => 0))), (q26, .inl (gc g 0, 144, .inl (fun _ => 0)))] ++ T22) := hD
  refine W.widen (k := 26) (n := 764) (Nat.le_of_ble_eq_true rfl) (Nat.le_of_ble_eq_true rfl) ?_
  refine mp_put hC (hnm.trans rfl) hP hD hS 33 (by decide) wd_1155 rfl rfl (ty := .array (.int)) (by decide +kernel) rfl rfl dX12_init_211 (fun H locs hP9 hD9 hS9 => ?_)
  clear hP hD hS
  have hP := hP9
  have hD := hD9
  have hS := hS9
  clear hP9 hD9 hS9
  obtain ⟨f26, hf26⟩ : ∃ z, z = va_up f25 33 (.ref q26) := ⟨_, rfl⟩
  rw [← hf26] at hP hD
  replace hP : va_P (gD g) vwCl ([(h0, .inr (13, mfs f26)), (q3, .inl (gc g 2, 10, .inl (fun _ => 0))), (q5, .inl (gc g 0, 10, .inl (fun _ => 0))), (q21, .inl (gc g 0, 3, .inl (fun _ => 0))), (q26, .inl (gc g 0, 144, .inl (fun _ => 0)))] ++ T22) H := hP
  replace hD : va_D A ([(h0, .inr (13, mfs f26)), (q3, .inl (gc g 2, 10, .inl (fun _ => 0))), (q5, .inl (gc g 0, 10, .inl (fun _ => 0))), (q21, .inl (gc g 0, 3, .inl (fun _ => 0))), (q26, .inl (gc g 0, 144, .inl (fun _ => 0)))] ++ T22) := hD
  obtain ⟨hP9, hD9⟩ := t_perm (ws2 := [(h0, .inr (13, mfs f26)), (q3, .inl (gc g 2, 10, .inl (fun _ => 0))), (q5, .inl (gc g 0, 10, .inl (fun _ => 0))), (q21, .inl (gc g 0, 3, .inl (fun _ => 0))), (q26, .inl (gc g 0, 144, .inl (fun _ => 0)))]) hP hD [0, 1, 2, 3, 4] rfl (by decide)
  clear hP hD
  have hP := hP9
  have hD := hD9
  clear hP9 hD9
  obtain ⟨T23, hT23⟩ : ∃ T : va_W, T = [(q26, .inl (gc g 0, 144, .inl (fun _ => 0)))] ++ T22 := ⟨_, rfl⟩
  replace hP : va_P (gD g) vwCl ([(h0, .inr (13, mfs f26)), (q3, .inl (gc g 2, 10, .inl (fun _ => 0))), (q5, .inl (gc g 0, 10, .inl (fun _ => 0))), (q21, .inl (gc g 0, 3, .inl (fun _ => 0)))] ++ T23) H := by rw [hT23]; exact hP
  replace hD : va_D A ([(h0, .inr (13, mfs f26)), (q3, .inl (gc g 2, 10, .inl (fun _ => 0))), (q5, .inl (gc g 0, 10, .inl (fun _ => 0))), (q21, .inl (gc g 0, 3, .inl (fun _ => 0)))] ++ T23) := by rw [hT23]; exact hD
  refine lv_aload_n hC.1 hC.2.1 dX12_init_214 rfl (lv_at hl 0 rfl) ?_
  refine lv_bipush (v := (6 : Int32)) hC.1 hC.2.1 dX12_init_215 (by decide) ?_
  refine nw_i (N := 6) hC hP hD hS hA wd_60 (by decide) (by decide) (by decide) (Nat.le_of_ble_eq_true rfl) (Nat.le_of_ble_eq_true rfl) dX12_init_217 (fun q27 H hP9 hD9 hS9 => ?_)
  clear hP hD hS
  have hP := hP9
  have hD := hD9
  have hS := hS9
  clear hP9 hD9 hS9
  replace hP := va_P.swap hP
  replace hD := va_D.swap hD
  replace hP : va_P (gD g) vwCl ([(h0, .inr (13, mfs f26)), (q3, .inl (gc g 2, 10, .inl (fun _ => 0))), (q5, .inl (gc g 0, 10, .inl (fun _ => 0))), (q21, .inl (gc g 0, 3, .inl (fun _ => 0))), (q27, .inl (gc g 0, 6, .inl (fun _ => 0)))] ++ T23) H := hP
  replace hD : va_D A ([(h0, .inr (13, mfs f26)), (q3, .inl (gc g 2, 10, .inl (fun _ => 0))), (q5, .inl (gc g 0, 10, .inl (fun _ => 0))), (q21, .inl (gc g 0, 3, .inl (fun _ => 0))), (q27, .inl (gc g 0, 6, .inl (fun _ => 0)))] ++ T23) := hD
  refine W.widen (k := 27) (n := 770) (Nat.le_of_ble_eq_true rfl) (Nat.le_of_ble_eq_true rfl) ?_
  refine mp_put hC (hnm.trans rfl) hP hD hS 34 (by decide) wd_1156 rfl rfl (ty := .array (.int)) (by decide +kernel) rfl rfl dX12_init_219 (fun H locs hP9 hD9 hS9 => ?_)
  clear hP hD hS
  have hP := hP9
  have hD := hD9
  have hS := hS9
  clear hP9 hD9 hS9
  obtain ⟨f27, hf27⟩ : ∃ z, z = va_up f26 34 (.ref q27) := ⟨_, rfl⟩
  rw [← hf27] at hP hD
  replace hP : va_P (gD g) vwCl ([(h0, .inr (13, mfs f27)), (q3, .inl (gc g 2, 10, .inl (fun _ => 0))), (q5, .inl (gc g 0, 10, .inl (fun _ => 0))), (q21, .inl (gc g 0, 3, .inl (fun _ => 0))), (q27, .inl (gc g 0, 6, .inl (fun _ => 0)))] ++ T23) H := hP
  replace hD : va_D A ([(h0, .inr (13, mfs f27)), (q3, .inl (gc g 2, 10, .inl (fun _ => 0))), (q5, .inl (gc g 0, 10, .inl (fun _ => 0))), (q21, .inl (gc g 0, 3, .inl (fun _ => 0))), (q27, .inl (gc g 0, 6, .inl (fun _ => 0)))] ++ T23) := hD
  obtain ⟨hP9, hD9⟩ := t_perm (ws2 := [(h0, .inr (13, mfs f27)), (q3, .inl (gc g 2, 10, .inl (fun _ => 0))), (q5, .inl (gc g 0, 10, .inl (fun _ => 0))), (q21, .inl (gc g 0, 3, .inl (fun _ => 0))), (q27, .inl (gc g 0, 6, .inl (fun _ => 0)))]) hP hD [0, 1, 2, 3, 4] rfl (by decide)
  clear hP hD
  have hP := hP9
  have hD := hD9
  clear hP9 hD9
  obtain ⟨T24, hT24⟩ : ∃ T : va_W, T = [(q27, .inl (gc g 0, 6, .inl (fun _ => 0)))] ++ T23 := ⟨_, rfl⟩
  replace hP : va_P (gD g) vwCl ([(h0, .inr (13, mfs f27)), (q3, .inl (gc g 2, 10, .inl (fun _ => 0))), (q5, .inl (gc g 0, 10, .inl (fun _ => 0))), (q21, .inl (gc g 0, 3, .inl (fun _ => 0)))] ++ T24) H := by rw [hT24]; exact hP
  replace hD : va_D A ([(h0, .inr (13, mfs f27)), (q3, .inl (gc g 2, 10, .inl (fun _ => 0))), (q5, .inl (gc g 0, 10, .inl (fun _ => 0))), (q21, .inl (gc g 0, 3, .inl (fun _ => 0)))] ++ T24) := by rw [hT24]; exact hD
  refine lv_aload_n hC.1 hC.2.1 dX12_init_222 rfl (lv_at hl 0 rfl) ?_
  refine lv_sipush (v := (30000 : Int32)) hC.1 hC.2.1 dX12_init_223 (by decide) ?_
  refine nw_i (N := 30000) hC hP hD hS hA wd_60 (by decide) (by decide) (by decide) (Nat.le_of_ble_eq_true rfl) (Nat.le_of_ble_eq_true rfl) dX12_init_226 (fun q28 H hP9 hD9 hS9 => ?_)
  clear hP hD hS
  have hP := hP9
  have hD := hD9
  have hS := hS9
  clear hP9 hD9 hS9
  replace hP := va_P.swap hP
  replace hD := va_D.swap hD
  replace hP : va_P (gD g) vwCl ([(h0, .inr (13, mfs f27)), (q3, .inl (gc g 2, 10, .inl (fun _ => 0))), (q5, .inl (gc g 0, 10, .inl (fun _ => 0))), (q21, .inl (gc g 0, 3, .inl (fun _ => 0))), (q28, .inl (gc g 0, 30000, .inl (fun _ => 0)))] ++ T24) H := hP
  replace hD : va_D A ([(h0, .inr (13, mfs f27)), (q3, .inl (gc g 2, 10, .inl (fun _ => 0))), (q5, .inl (gc g 0, 10, .inl (fun _ => 0))), (q21, .inl (gc g 0, 3, .inl (fun _ => 0))), (q28, .inl (gc g 0, 30000, .inl (fun _ => 0)))] ++ T24) := hD
  refine W.widen (k := 28) (n := 30770) (Nat.le_of_ble_eq_true rfl) (Nat.le_of_ble_eq_true rfl) ?_
  refine mp_put hC (hnm.trans rfl) hP hD hS 35 (by decide) wd_1157 rfl rfl (ty := .array (.int)) (by decide +kernel) rfl rfl dX12_init_228 (fun H locs hP9 hD9 hS9 => ?_)
  clear hP hD hS
  have hP := hP9
  have hD := hD9
  have hS := hS9
  clear hP9 hD9 hS9
  obtain ⟨f28, hf28⟩ : ∃ z, z = va_up f27 35 (.ref q28) := ⟨_, rfl⟩
  rw [← hf28] at hP hD
  replace hP : va_P (gD g) vwCl ([(h0, .inr (13, mfs f28)), (q3, .inl (gc g 2, 10, .inl (fun _ => 0))), (q5, .inl (gc g 0, 10, .inl (fun _ => 0))), (q21, .inl (gc g 0, 3, .inl (fun _ => 0))), (q28, .inl (gc g 0, 30000, .inl (fun _ => 0)))] ++ T24) H := hP
  replace hD : va_D A ([(h0, .inr (13, mfs f28)), (q3, .inl (gc g 2, 10, .inl (fun _ => 0))), (q5, .inl (gc g 0, 10, .inl (fun _ => 0))), (q21, .inl (gc g 0, 3, .inl (fun _ => 0))), (q28, .inl (gc g 0, 30000, .inl (fun _ => 0)))] ++ T24) := hD
  obtain ⟨hP9, hD9⟩ := t_perm (ws2 := [(h0, .inr (13, mfs f28)), (q3, .inl (gc g 2, 10, .inl (fun _ => 0))), (q5, .inl (gc g 0, 10, .inl (fun _ => 0))), (q21, .inl (gc g 0, 3, .inl (fun _ => 0))), (q28, .inl (gc g 0, 30000, .inl (fun _ => 0)))]) hP hD [0, 1, 2, 3, 4] rfl (by decide)
  clear hP hD
  have hP := hP9
  have hD := hD9
  clear hP9 hD9
  obtain ⟨T25, hT25⟩ : ∃ T : va_W, T = [(q28, .inl (gc g 0, 30000, .inl (fun _ => 0)))] ++ T24 := ⟨_, rfl⟩
  replace hP : va_P (gD g) vwCl ([(h0, .inr (13, mfs f28)), (q3, .inl (gc g 2, 10, .inl (fun _ => 0))), (q5, .inl (gc g 0, 10, .inl (fun _ => 0))), (q21, .inl (gc g 0, 3, .inl (fun _ => 0)))] ++ T25) H := by rw [hT25]; exact hP
  replace hD : va_D A ([(h0, .inr (13, mfs f28)), (q3, .inl (gc g 2, 10, .inl (fun _ => 0))), (q5, .inl (gc g 0, 10, .inl (fun _ => 0))), (q21, .inl (gc g 0, 3, .inl (fun _ => 0)))] ++ T25) := by rw [hT25]; exact hD
  refine lv_aload_n hC.1 hC.2.1 dX12_init_231 rfl (lv_at hl 0 rfl) ?_
  refine lv_bipush (v := (6 : Int32)) hC.1 hC.2.1 dX12_init_232 (by decide) ?_
  refine nw_i (N := 6) hC hP hD hS hA wd_60 (by decide) (by decide) (by decide) (Nat.le_of_ble_eq_true rfl) (Nat.le_of_ble_eq_true rfl) dX12_init_234 (fun q29 H hP9 hD9 hS9 => ?_)
  clear hP hD hS
  have hP := hP9
  have hD := hD9
  have hS := hS9
  clear hP9 hD9 hS9
  replace hP := va_P.swap hP
  replace hD := va_D.swap hD
  replace hP : va_P (gD g) vwCl ([(h0, .inr (13, mfs f28)), (q3, .inl (gc g 2, 10, .inl (fun _ => 0))), (q5, .inl (gc g 0, 10, .inl (fun _ => 0))), (q21, .inl (gc g 0, 3, .inl (fun _ => 0))), (q29, .inl (gc g 0, 6, .inl (fun _ => 0)))] ++ T25) H := hP
  replace hD : va_D A ([(h0, .inr (13, mfs f28)), (q3, .inl (gc g 2, 10, .inl (fun _ => 0))), (q5, .inl (gc g 0, 10, .inl (fun _ => 0))), (q21, .inl (gc g 0, 3, .inl (fun _ => 0))), (q29, .inl (gc g 0, 6, .inl (fun _ => 0)))] ++ T25) := hD
  refine W.widen (k := 29) (n := 30776) (Nat.le_of_ble_eq_true rfl) (Nat.le_of_ble_eq_true rfl) ?_
  refine mp_put hC (hnm.trans rfl) hP hD hS 36 (by decide) wd_1158 rfl rfl (ty := .array (.int)) (by decide +kernel) rfl rfl dX12_init_236 (fun H locs hP9 hD9 hS9 => ?_)
  clear hP hD hS
  have hP := hP9
  have hD := hD9
  have hS := hS9
  clear hP9 hD9 hS9
  obtain ⟨f29, hf29⟩ : ∃ z, z = va_up f28 36 (.ref q29) := ⟨_, rfl⟩
  rw [← hf29] at hP hD
  replace hP : va_P (gD g) vwCl ([(h0, .inr (13, mfs f29)), (q3, .inl (gc g 2, 10, .inl (fun _ => 0))), (q5, .inl (gc g 0, 10, .inl (fun _ => 0))), (q21, .inl (gc g 0, 3, .inl (fun _ => 0))), (q29, .inl (gc g 0, 6, .inl (fun _ => 0)))] ++ T25) H := hP
  replace hD : va_D A ([(h0, .inr (13, mfs f29)), (q3, .inl (gc g 2, 10, .inl (fun _ => 0))), (q5, .inl (gc g 0, 10, .inl (fun _ => 0))), (q21, .inl (gc g 0, 3, .inl (fun _ => 0))), (q29, .inl (gc g 0, 6, .inl (fun _ => 0)))] ++ T25) := hD
  obtain ⟨hP9, hD9⟩ := t_perm (ws2 := [(h0, .inr (13, mfs f29)), (q3, .inl (gc g 2, 10, .inl (fun _ => 0))), (q5, .inl (gc g 0, 10, .inl (fun _ => 0))), (q21, .inl (gc g 0, 3, .inl (fun _ => 0))), (q29, .inl (gc g 0, 6, .inl (fun _ => 0)))]) hP hD [0, 1, 2, 3, 4] rfl (by decide)
  clear hP hD
  have hP := hP9
  have hD := hD9
  clear hP9 hD9
  obtain ⟨T26, hT26⟩ : ∃ T : va_W, T = [(q29, .inl (gc g 0, 6, .inl (fun _ => 0)))] ++ T25 := ⟨_, rfl⟩
  replace hP : va_P (gD g) vwCl ([(h0, .inr (13, mfs f29)), (q3, .inl (gc g 2, 10, .inl (fun _ => 0))), (q5, .inl (gc g 0, 10, .inl (fun _ => 0))), (q21, .inl (gc g 0, 3, .inl (fun _ => 0)))] ++ T26) H := by rw [hT26]; exact hP
  replace hD : va_D A ([(h0, .inr (13, mfs f29)), (q3, .inl (gc g 2, 10, .inl (fun _ => 0))), (q5, .inl (gc g 0, 10, .inl (fun _ => 0))), (q21, .inl (gc g 0, 3, .inl (fun _ => 0)))] ++ T26) := by rw [hT26]; exact hD
  refine lv_aload_n hC.1 hC.2.1 dX12_init_239 rfl (lv_at hl 0 rfl) ?_
  refine lv_sipush (v := (768 : Int32)) hC.1 hC.2.1 dX12_init_240 (by decide) ?_
  refine nw_i (N := 768) hC hP hD hS hA wd_60 (by decide) (by decide) (by decide) (Nat.le_of_ble_eq_true rfl) (Nat.le_of_ble_eq_true rfl) dX12_init_243 (fun q30 H hP9 hD9 hS9 => ?_)
  clear hP hD hS
  have hP := hP9
  have hD := hD9
  have hS := hS9
  clear hP9 hD9 hS9
  replace hP := va_P.swap hP
  replace hD := va_D.swap hD
  replace hP : va_P (gD g) vwCl ([(h0, .inr (13, mfs f29)), (q3, .inl (gc g 2, 10, .inl (fun _ => 0))), (q5, .inl (gc g 0, 10, .inl (fun _ => 0))), (q21, .inl (gc g 0, 3, .inl (fun _ => 0))), (q30, .inl (gc g 0, 768, .inl (fun _ => 0)))] ++ T26) H := hP
  replace hD : va_D A ([(h0, .inr (13, mfs f29)), (q3, .inl (gc g 2, 10, .inl (fun _ => 0))), (q5, .inl (gc g 0, 10, .inl (fun _ => 0))), (q21, .inl (gc g 0, 3, .inl (fun _ => 0))), (q30, .inl (gc g 0, 768, .inl (fun _ => 0)))] ++ T26) := hD
  refine W.widen (k := 30) (n := 31544) (Nat.le_of_ble_eq_true rfl) (Nat.le_of_ble_eq_true rfl) ?_
  refine mp_put hC (hnm.trans rfl) hP hD hS 37 (by decide) wd_1159 rfl rfl (ty := .array (.int)) (by decide +kernel) rfl rfl dX12_init_245 (fun H locs hP9 hD9 hS9 => ?_)
  clear hP hD hS
  have hP := hP9
  have hD := hD9
  have hS := hS9
  clear hP9 hD9 hS9
  obtain ⟨f30, hf30⟩ : ∃ z, z = va_up f29 37 (.ref q30) := ⟨_, rfl⟩
  rw [← hf30] at hP hD
  replace hP : va_P (gD g) vwCl ([(h0, .inr (13, mfs f30)), (q3, .inl (gc g 2, 10, .inl (fun _ => 0))), (q5, .inl (gc g 0, 10, .inl (fun _ => 0))), (q21, .inl (gc g 0, 3, .inl (fun _ => 0))), (q30, .inl (gc g 0, 768, .inl (fun _ => 0)))] ++ T26) H := hP
  replace hD : va_D A ([(h0, .inr (13, mfs f30)), (q3, .inl (gc g 2, 10, .inl (fun _ => 0))), (q5, .inl (gc g 0, 10, .inl (fun _ => 0))), (q21, .inl (gc g 0, 3, .inl (fun _ => 0))), (q30, .inl (gc g 0, 768, .inl (fun _ => 0)))] ++ T26) := hD
  obtain ⟨hP9, hD9⟩ := t_perm (ws2 := [(h0, .inr (13, mfs f30)), (q3, .inl (gc g 2, 10, .inl (fun _ => 0))), (q5, .inl (gc g 0, 10, .inl (fun _ => 0))), (q21, .inl (gc g 0, 3, .inl (fun _ => 0))), (q30, .inl (gc g 0, 768, .inl (fun _ => 0)))]) hP hD [0, 1, 2, 3, 4] rfl (by decide)
  clear hP hD
  have hP := hP9
  have hD := hD9
  clear hP9 hD9
  obtain ⟨T27, hT27⟩ : ∃ T : va_W, T = [(q30, .inl (gc g 0, 768, .inl (fun _ => 0)))] ++ T26 := ⟨_, rfl⟩
  replace hP : va_P (gD g) vwCl ([(h0, .inr (13, mfs f30)), (q3, .inl (gc g 2, 10, .inl (fun _ => 0))), (q5, .inl (gc g 0, 10, .inl (fun _ => 0))), (q21, .inl (gc g 0, 3, .inl (fun _ => 0)))] ++ T27) H := by rw [hT27]; exact hP
  replace hD : va_D A ([(h0, .inr (13, mfs f30)), (q3, .inl (gc g 2, 10, .inl (fun _ => 0))), (q5, .inl (gc g 0, 10, .inl (fun _ => 0))), (q21, .inl (gc g 0, 3, .inl (fun _ => 0)))] ++ T27) := by rw [hT27]; exact hD
  refine lv_aload_n hC.1 hC.2.1 dX12_init_248 rfl (lv_at hl 0 rfl) ?_
  refine lv_sipush (v := (192 : Int32)) hC.1 hC.2.1 dX12_init_249 (by decide) ?_
  refine nw_i (N := 192) hC hP hD hS hA wd_60 (by decide) (by decide) (by decide) (Nat.le_of_ble_eq_true rfl) (Nat.le_of_ble_eq_true rfl) dX12_init_252 (fun q31 H hP9 hD9 hS9 => ?_)
  clear hP hD hS
  have hP := hP9
  have hD := hD9
  have hS := hS9
  clear hP9 hD9 hS9
  replace hP := va_P.swap hP
  replace hD := va_D.swap hD
  replace hP : va_P (gD g) vwCl ([(h0, .inr (13, mfs f30)), (q3, .inl (gc g 2, 10, .inl (fun _ => 0))), (q5, .inl (gc g 0, 10, .inl (fun _ => 0))), (q21, .inl (gc g 0, 3, .inl (fun _ => 0))), (q31, .inl (gc g 0, 192, .inl (fun _ => 0)))] ++ T27) H := hP
  replace hD : va_D A ([(h0, .inr (13, mfs f30)), (q3, .inl (gc g 2, 10, .inl (fun _ => 0))), (q5, .inl (gc g 0, 10, .inl (fun _ => 0))), (q21, .inl (gc g 0, 3, .inl (fun _ => 0))), (q31, .inl (gc g 0, 192, .inl (fun _ => 0)))] ++ T27) := hD
  refine W.widen (k := 31) (n := 31736) (Nat.le_of_ble_eq_true rfl) (Nat.le_of_ble_eq_true rfl) ?_
  refine mp_put hC (hnm.trans rfl) hP hD hS 38 (by decide) wd_1160 rfl rfl (ty := .array (.int)) (by decide +kernel) rfl rfl dX12_init_254 (fun H locs hP9 hD9 hS9 => ?_)
  clear hP hD hS
  have hP := hP9
  have hD := hD9
  have hS := hS9
  clear hP9 hD9 hS9
  obtain ⟨f31, hf31⟩ : ∃ z, z = va_up f30 38 (.ref q31) := ⟨_, rfl⟩
  rw [← hf31] at hP hD
  replace hP : va_P (gD g) vwCl ([(h0, .inr (13, mfs f31)), (q3, .inl (gc g 2, 10, .inl (fun _ => 0))), (q5, .inl (gc g 0, 10, .inl (fun _ => 0))), (q21, .inl (gc g 0, 3, .inl (fun _ => 0))), (q31, .inl (gc g 0, 192, .inl (fun _ => 0)))] ++ T27) H := hP
  replace hD : va_D A ([(h0, .inr (13, mfs f31)), (q3, .inl (gc g 2, 10, .inl (fun _ => 0))), (q5, .inl (gc g 0, 10, .inl (fun _ => 0))), (q21, .inl (gc g 0, 3, .inl (fun _ => 0))), (q31, .inl (gc g 0, 192, .inl (fun _ => 0)))] ++ T27) := hD
  obtain ⟨hP9, hD9⟩ := t_perm (ws2 := [(h0, .inr (13, mfs f31)), (q3, .inl (gc g 2, 10, .inl (fun _ => 0))), (q5, .inl (gc g 0, 10, .inl (fun _ => 0))), (q21, .inl (gc g 0, 3, .inl (fun _ => 0))), (q31, .inl (gc g 0, 192, .inl (fun _ => 0)))]) hP hD [0, 1, 2, 3, 4] rfl (by decide)
  clear hP hD
  have hP := hP9
  have hD := hD9
  clear hP9 hD9
  obtain ⟨T28, hT28⟩ : ∃ T : va_W, T = [(q31, .inl (gc g 0, 192, .inl (fun _ => 0)))] ++ T27 := ⟨_, rfl⟩
  replace hP : va_P (gD g) vwCl ([(h0, .inr (13, mfs f31)), (q3, .inl (gc g 2, 10, .inl (fun _ => 0))), (q5, .inl (gc g 0, 10, .inl (fun _ => 0))), (q21, .inl (gc g 0, 3, .inl (fun _ => 0)))] ++ T28) H := by rw [hT28]; exact hP
  replace hD : va_D A ([(h0, .inr (13, mfs f31)), (q3, .inl (gc g 2, 10, .inl (fun _ => 0))), (q5, .inl (gc g 0, 10, .inl (fun _ => 0))), (q21, .inl (gc g 0, 3, .inl (fun _ => 0)))] ++ T28) := by rw [hT28]; exact hD
  refine lv_aload_n hC.1 hC.2.1 dX12_init_257 rfl (lv_at hl 0 rfl) ?_
  refine lv_bipush (v := (12 : Int32)) hC.1 hC.2.1 dX12_init_258 (by decide) ?_
  refine nw_i (N := 12) hC hP hD hS hA wd_60 (by decide) (by decide) (by decide) (Nat.le_of_ble_eq_true rfl) (Nat.le_of_ble_eq_true rfl) dX12_init_260 (fun q32 H hP9 hD9 hS9 => ?_)
  clear hP hD hS
  have hP := hP9
  have hD := hD9
  have hS := hS9
  clear hP9 hD9 hS9
  replace hP := va_P.swap hP
  replace hD := va_D.swap hD
  replace hP : va_P (gD g) vwCl ([(h0, .inr (13, mfs f31)), (q3, .inl (gc g 2, 10, .inl (fun _ => 0))), (q5, .inl (gc g 0, 10, .inl (fun _ => 0))), (q21, .inl (gc g 0, 3, .inl (fun _ => 0))), (q32, .inl (gc g 0, 12, .inl (fun _ => 0)))] ++ T28) H := hP
  replace hD : va_D A ([(h0, .inr (13, mfs f31)), (q3, .inl (gc g 2, 10, .inl (fun _ => 0))), (q5, .inl (gc g 0, 10, .inl (fun _ => 0))), (q21, .inl (gc g 0, 3, .inl (fun _ => 0))), (q32, .inl (gc g 0, 12, .inl (fun _ => 0)))] ++ T28) := hD
  refine W.widen (k := 32) (n := 31748) (Nat.le_of_ble_eq_true rfl) (Nat.le_of_ble_eq_true rfl) ?_
  refine mp_put hC (hnm.trans rfl) hP hD hS 39 (by decide) wd_1161 rfl rfl (ty := .array (.int)) (by decide +kernel) rfl rfl dX12_init_262 (fun H locs hP9 hD9 hS9 => ?_)
  clear hP hD hS
  have hP := hP9
  have hD := hD9
  have hS := hS9
  clear hP9 hD9 hS9
  obtain ⟨f32, hf32⟩ : ∃ z, z = va_up f31 39 (.ref q32) := ⟨_, rfl⟩
  rw [← hf32] at hP hD
  replace hP : va_P (gD g) vwCl ([(h0, .inr (13, mfs f32)), (q3, .inl (gc g 2, 10, .inl (fun _ => 0))), (q5, .inl (gc g 0, 10, .inl (fun _ => 0))), (q21, .inl (gc g 0, 3, .inl (fun _ => 0))), (q32, .inl (gc g 0, 12, .inl (fun _ => 0)))] ++ T28) H := hP
  replace hD : va_D A ([(h0, .inr (13, mfs f32)), (q3, .inl (gc g 2, 10, .inl (fun _ => 0))), (q5, .inl (gc g 0, 10, .inl (fun _ => 0))), (q21, .inl (gc g 0, 3, .inl (fun _ => 0))), (q32, .inl (gc g 0, 12, .inl (fun _ => 0)))] ++ T28) := hD
  refine lv_aload_n hC.1 hC.2.1 dX12_init_265 rfl (lv_at hl 0 rfl) ?_
  refine lv_bipush (v := (12 : Int32)) hC.1 hC.2.1 dX12_init_266 (by decide) ?_
  refine nw_i (N := 12) hC hP hD hS hA wd_60 (by decide) (by decide) (by decide) (Nat.le_of_ble_eq_true rfl) (Nat.le_of_ble_eq_true rfl) dX12_init_268 (fun q33 H hP9 hD9 hS9 => ?_)
  clear hP hD hS
  have hP := hP9
  have hD := hD9
  have hS := hS9
  clear hP9 hD9 hS9
  replace hP := va_P.swap hP
  replace hD := va_D.swap hD
  replace hP : va_P (gD g) vwCl ([(h0, .inr (13, mfs f32)), (q3, .inl (gc g 2, 10, .inl (fun _ => 0))), (q5, .inl (gc g 0, 10, .inl (fun _ => 0))), (q21, .inl (gc g 0, 3, .inl (fun _ => 0))), (q32, .inl (gc g 0, 12, .inl (fun _ => 0))), (q33, .inl (gc g 0, 12, .inl (fun _ => 0)))] ++ T28) H := hP
  replace hD : va_D A ([(h0, .inr (13, mfs f32)), (q3, .inl (gc g 2, 10, .inl (fun _ => 0))), (q5, .inl (gc g 0, 10, .inl (fun _ => 0))), (q21, .inl (gc g 0, 3, .inl (fun _ => 0))), (q32, .inl (gc g 0, 12, .inl (fun _ => 0))), (q33, .inl (gc g 0, 12, .inl (fun _ => 0)))] ++ T28) := hD
  refine W.widen (k := 33) (n := 31760) (Nat.le_of_ble_eq_true rfl) (Nat.le_of_ble_eq_true rfl) ?_
  refine mp_put hC (hnm.trans rfl) hP hD hS 40 (by decide) wd_1162 rfl rfl (ty := .array (.int)) (by decide +kernel) rfl rfl dX12_init_270 (fun H locs hP9 hD9 hS9 => ?_)
  clear hP hD hS
  have hP := hP9
  have hD := hD9
  have hS := hS9
  clear hP9 hD9 hS9
  obtain ⟨f33, hf33⟩ : ∃ z, z = va_up f32 40 (.ref q33) := ⟨_, rfl⟩
  rw [← hf33] at hP hD
  replace hP : va_P (gD g) vwCl ([(h0, .inr (13, mfs f33)), (q3, .inl (gc g 2, 10, .inl (fun _ => 0))), (q5, .inl (gc g 0, 10, .inl (fun _ => 0))), (q21, .inl (gc g 0, 3, .inl (fun _ => 0))), (q32, .inl (gc g 0, 12, .inl (fun _ => 0))), (q33, .inl (gc g 0, 12, .inl (fun _ => 0)))] ++ T28) H := hP
  replace hD : va_D A ([(h0, .inr (13, mfs f33)), (q3, .inl (gc g 2, 10, .inl (fun _ => 0))), (q5, .inl (gc g 0, 10, .inl (fun _ => 0))), (q21, .inl (gc g 0, 3, .inl (fun _ => 0))), (q32, .inl (gc g 0, 12, .inl (fun _ => 0))), (q33, .inl (gc g 0, 12, .inl (fun _ => 0)))] ++ T28) := hD
  obtain ⟨hP9, hD9⟩ := t_perm (ws2 := [(h0, .inr (13, mfs f33)), (q3, .inl (gc g 2, 10, .inl (fun _ => 0))), (q5, .inl (gc g 0, 10, .inl (fun _ => 0))), (q21, .inl (gc g 0, 3, .inl (fun _ => 0))), (q32, .inl (gc g 0, 12, .inl (fun _ => 0))), (q33, .inl (gc g 0, 12, .inl (fun _ => 0)))]) hP hD [0, 1, 2, 3, 4, 5] rfl (by decide)
  clear hP hD
  have hP := hP9
  have hD := hD9
  clear hP9 hD9
  obtain ⟨T29, hT29⟩ : ∃ T : va_W, T = [(q33, .inl (gc g 0, 12, .inl (fun _ => 0)))] ++ T28 := ⟨_, rfl⟩
  replace hP : va_P (gD g) vwCl ([(h0, .inr (13, mfs f33)), (q3, .inl (gc g 2, 10, .inl (fun _ => 0))), (q5, .inl (gc g 0, 10, .inl (fun _ => 0))), (q21, .inl (gc g 0, 3, .inl (fun _ => 0))), (q32, .inl (gc g 0, 12, .inl (fun _ => 0)))] ++ T29) H := by rw [hT29]; exact hP
  replace hD : va_D A ([(h0, .inr (13, mfs f33)), (q3, .inl (gc g 2, 10, .inl (fun _ => 0))), (q5, .inl (gc g 0, 10, .inl (fun _ => 0))), (q21, .inl (gc g 0, 3, .inl (fun _ => 0))), (q32, .inl (gc g 0, 12, .inl (fun _ => 0)))] ++ T29) := by rw [hT29]; exact hD
  refine lv_aload_n hC.1 hC.2.1 dX12_init_273 rfl (lv_at hl 0 rfl) ?_
  refine lv_bipush (v := (12 : Int32)) hC.1 hC.2.1 dX12_init_274 (by decide) ?_
  refine nw_i (N := 12) hC hP hD hS hA wd_60 (by decide) (by decide) (by decide) (Nat.le_of_ble_eq_true rfl) (Nat.le_of_ble_eq_true rfl) dX12_init_276 (fun q34 H hP9 hD9 hS9 => ?_)
  clear hP hD hS
  have hP := hP9
  have hD := hD9
  have hS := hS9
  clear hP9 hD9 hS9
  replace hP := va_P.swap hP
  replace hD := va_D.swap hD
  replace hP : va_P (gD g) vwCl ([(h0, .inr (13, mfs f33)), (q3, .inl (gc g 2, 10, .inl (fun _ => 0))), (q5, .inl (gc g 0, 10, .inl (fun _ => 0))), (q21, .inl (gc g 0, 3, .inl (fun _ => 0))), (q32, .inl (gc g 0, 12, .inl (fun _ => 0))), (q34, .inl (gc g 0, 12, .inl (fun _ => 0)))] ++ T29) H := hP
  replace hD : va_D A ([(h0, .inr (13, mfs f33)), (q3, .inl (gc g 2, 10, .inl (fun _ => 0))), (q5, .inl (gc g 0, 10, .inl (fun _ => 0))), (q21, .inl (gc g 0, 3, .inl (fun _ => 0))), (q32, .inl (gc g 0, 12, .inl (fun _ => 0))), (q34, .inl (gc g 0, 12, .inl (fun _ => 0)))] ++ T29) := hD
  refine W.widen (k := 34) (n := 31772) (Nat.le_of_ble_eq_true rfl) (Nat.le_of_ble_eq_true rfl) ?_
  refine mp_put hC (hnm.trans rfl) hP hD hS 41 (by decide) wd_1163 rfl rfl (ty := .array (.int)) (by decide +kernel) rfl rfl dX12_init_278 (fun H locs hP9 hD9 hS9 => ?_)
  clear hP hD hS
  have hP := hP9
  have hD := hD9
  have hS := hS9
  clear hP9 hD9 hS9
  obtain ⟨f34, hf34⟩ : ∃ z, z = va_up f33 41 (.ref q34) := ⟨_, rfl⟩
  rw [← hf34] at hP hD
  replace hP : va_P (gD g) vwCl ([(h0, .inr (13, mfs f34)), (q3, .inl (gc g 2, 10, .inl (fun _ => 0))), (q5, .inl (gc g 0, 10, .inl (fun _ => 0))), (q21, .inl (gc g 0, 3, .inl (fun _ => 0))), (q32, .inl (gc g 0, 12, .inl (fun _ => 0))), (q34, .inl (gc g 0, 12, .inl (fun _ => 0)))] ++ T29) H := hP
  replace hD : va_D A ([(h0, .inr (13, mfs f34)), (q3, .inl (gc g 2, 10, .inl (fun _ => 0))), (q5, .inl (gc g 0, 10, .inl (fun _ => 0))), (q21, .inl (gc g 0, 3, .inl (fun _ => 0))), (q32, .inl (gc g 0, 12, .inl (fun _ => 0))), (q34, .inl (gc g 0, 12, .inl (fun _ => 0)))] ++ T29) := hD
  obtain ⟨hP9, hD9⟩ := t_perm (ws2 := [(h0, .inr (13, mfs f34)), (q3, .inl (gc g 2, 10, .inl (fun _ => 0))), (q5, .inl (gc g 0, 10, .inl (fun _ => 0))), (q21, .inl (gc g 0, 3, .inl (fun _ => 0))), (q32, .inl (gc g 0, 12, .inl (fun _ => 0))), (q34, .inl (gc g 0, 12, .inl (fun _ => 0)))]) hP hD [0, 1, 2, 3, 4, 5] rfl (by decide)
  clear hP hD
  have hP := hP9
  have hD := hD9
  clear hP9 hD9
  obtain ⟨T30, hT30⟩ : ∃ T : va_W, T = [(q34, .inl (gc g 0, 12, .inl (fun _ => 0)))] ++ T29 := ⟨_, rfl⟩
  replace hP : va_P (gD g) vwCl ([(h0, .inr (13, mfs f34)), (q3, .inl (gc g 2, 10, .inl (fun _ => 0))), (q5, .inl (gc g 0, 10, .inl (fun _ => 0))), (q21, .inl (gc g 0, 3, .inl (fun _ => 0))), (q32, .inl (gc g 0, 12, .inl (fun _ => 0)))] ++ T30) H := by rw [hT30]; exact hP
  replace hD : va_D A ([(h0, .inr (13, mfs f34)), (q3, .inl (gc g 2, 10, .inl (fun _ => 0))), (q5, .inl (gc g 0, 10, .inl (fun _ => 0))), (q21, .inl (gc g 0, 3, .inl (fun _ => 0))), (q32, .inl (gc g 0, 12, .inl (fun _ => 0)))] ++ T30) := by rw [hT30]; exact hD
  refine lv_aload_n hC.1 hC.2.1 dX12_init_281 rfl (lv_at hl 0 rfl) ?_
  refine lv_bipush (v := (12 : Int32)) hC.1 hC.2.1 dX12_init_282 (by decide) ?_
  refine nw_z (N := 12) hC hP hD hS hA wd_394 (by decide) (by decide) (by decide) (Nat.le_of_ble_eq_true rfl) (Nat.le_of_ble_eq_true rfl) dX12_init_284 (fun q35 H hP9 hD9 hS9 => ?_)
  clear hP hD hS
  have hP := hP9
  have hD := hD9
  have hS := hS9
  clear hP9 hD9 hS9
  replace hP := va_P.swap hP
  replace hD := va_D.swap hD
  replace hP : va_P (gD g) vwCl ([(h0, .inr (13, mfs f34)), (q3, .inl (gc g 2, 10, .inl (fun _ => 0))), (q5, .inl (gc g 0, 10, .inl (fun _ => 0))), (q21, .inl (gc g 0, 3, .inl (fun _ => 0))), (q32, .inl (gc g 0, 12, .inl (fun _ => 0))), (q35, .inl (gc g 2, 12, .inl (fun _ => 0)))] ++ T30) H := hP
  replace hD : va_D A ([(h0, .inr (13, mfs f34)), (q3, .inl (gc g 2, 10, .inl (fun _ => 0))), (q5, .inl (gc g 0, 10, .inl (fun _ => 0))), (q21, .inl (gc g 0, 3, .inl (fun _ => 0))), (q32, .inl (gc g 0, 12, .inl (fun _ => 0))), (q35, .inl (gc g 2, 12, .inl (fun _ => 0)))] ++ T30) := hD
  refine W.widen (k := 35) (n := 31784) (Nat.le_of_ble_eq_true rfl) (Nat.le_of_ble_eq_true rfl) ?_
  refine mp_put hC (hnm.trans rfl) hP hD hS 42 (by decide) wd_1164 rfl rfl (ty := .array (.boolean)) (by decide +kernel) rfl rfl dX12_init_286 (fun H locs hP9 hD9 hS9 => ?_)
  clear hP hD hS
  have hP := hP9
  have hD := hD9
  have hS := hS9
  clear hP9 hD9 hS9
  obtain ⟨f35, hf35⟩ : ∃ z, z = va_up f34 42 (.ref q35) := ⟨_, rfl⟩
  rw [← hf35] at hP hD
  replace hP : va_P (gD g) vwCl ([(h0, .inr (13, mfs f35)), (q3, .inl (gc g 2, 10, .inl (fun _ => 0))), (q5, .inl (gc g 0, 10, .inl (fun _ => 0))), (q21, .inl (gc g 0, 3, .inl (fun _ => 0))), (q32, .inl (gc g 0, 12, .inl (fun _ => 0))), (q35, .inl (gc g 2, 12, .inl (fun _ => 0)))] ++ T30) H := hP
  replace hD : va_D A ([(h0, .inr (13, mfs f35)), (q3, .inl (gc g 2, 10, .inl (fun _ => 0))), (q5, .inl (gc g 0, 10, .inl (fun _ => 0))), (q21, .inl (gc g 0, 3, .inl (fun _ => 0))), (q32, .inl (gc g 0, 12, .inl (fun _ => 0))), (q35, .inl (gc g 2, 12, .inl (fun _ => 0)))] ++ T30) := hD
  obtain ⟨hP9, hD9⟩ := t_perm (ws2 := [(h0, .inr (13, mfs f35)), (q3, .inl (gc g 2, 10, .inl (fun _ => 0))), (q5, .inl (gc g 0, 10, .inl (fun _ => 0))), (q21, .inl (gc g 0, 3, .inl (fun _ => 0))), (q32, .inl (gc g 0, 12, .inl (fun _ => 0))), (q35, .inl (gc g 2, 12, .inl (fun _ => 0)))]) hP hD [0, 1, 2, 3, 4, 5] rfl (by decide)
  clear hP hD
  have hP := hP9
  have hD := hD9
  clear hP9 hD9
  obtain ⟨T31, hT31⟩ : ∃ T : va_W, T = [(q35, .inl (gc g 2, 12, .inl (fun _ => 0)))] ++ T30 := ⟨_, rfl⟩
  replace hP : va_P (gD g) vwCl ([(h0, .inr (13, mfs f35)), (q3, .inl (gc g 2, 10, .inl (fun _ => 0))), (q5, .inl (gc g 0, 10, .inl (fun _ => 0))), (q21, .inl (gc g 0, 3, .inl (fun _ => 0))), (q32, .inl (gc g 0, 12, .inl (fun _ => 0)))] ++ T31) H := by rw [hT31]; exact hP
  replace hD : va_D A ([(h0, .inr (13, mfs f35)), (q3, .inl (gc g 2, 10, .inl (fun _ => 0))), (q5, .inl (gc g 0, 10, .inl (fun _ => 0))), (q21, .inl (gc g 0, 3, .inl (fun _ => 0))), (q32, .inl (gc g 0, 12, .inl (fun _ => 0)))] ++ T31) := by rw [hT31]; exact hD
  refine lv_aload_n hC.1 hC.2.1 dX12_init_289 rfl (lv_at hl 0 rfl) ?_
  refine lv_bipush (v := (12 : Int32)) hC.1 hC.2.1 dX12_init_290 (by decide) ?_
  refine nw_z (N := 12) hC hP hD hS hA wd_394 (by decide) (by decide) (by decide) (Nat.le_of_ble_eq_true rfl) (Nat.le_of_ble_eq_true rfl) dX12_init_292 (fun q36 H hP9 hD9 hS9 => ?_)
  clear hP hD hS
  have hP := hP9
  have hD := hD9
  have hS := hS9
  clear hP9 hD9 hS9
  replace hP := va_P.swap hP
  replace hD := va_D.swap hD
  replace hP : va_P (gD g) vwCl ([(h0, .inr (13, mfs f35)), (q3, .inl (gc g 2, 10, .inl (fun _ => 0))), (q5, .inl (gc g 0, 10, .inl (fun _ => 0))), (q21, .inl (gc g 0, 3, .inl (fun _ => 0))), (q32, .inl (gc g 0, 12, .inl (fun _ => 0))), (q36, .inl (gc g 2, 12, .inl (fun _ => 0)))] ++ T31) H := hP
  replace hD : va_D A ([(h0, .inr (13, mfs f35)), (q3, .inl (gc g 2, 10, .inl (fun _ => 0))), (q5, .inl (gc g 0, 10, .inl (fun _ => 0))), (q21, .inl (gc g 0, 3, .inl (fun _ => 0))), (q32, .inl (gc g 0, 12, .inl (fun _ => 0))), (q36, .inl (gc g 2, 12, .inl (fun _ => 0)))] ++ T31) := hD
  refine W.widen (k := 36) (n := 31796) (Nat.le_of_ble_eq_true rfl) (Nat.le_of_ble_eq_true rfl) ?_
  refine mp_put hC (hnm.trans rfl) hP hD hS 43 (by decide) wd_1165 rfl rfl (ty := .array (.boolean)) (by decide +kernel) rfl rfl dX12_init_294 (fun H locs hP9 hD9 hS9 => ?_)
  clear hP hD hS
  have hP := hP9
  have hD := hD9
  have hS := hS9
  clear hP9 hD9 hS9
  obtain ⟨f36, hf36⟩ : ∃ z, z = va_up f35 43 (.ref q36) := ⟨_, rfl⟩
  rw [← hf36] at hP hD
  replace hP : va_P (gD g) vwCl ([(h0, .inr (13, mfs f36)), (q3, .inl (gc g 2, 10, .inl (fun _ => 0))), (q5, .inl (gc g 0, 10, .inl (fun _ => 0))), (q21, .inl (gc g 0, 3, .inl (fun _ => 0))), (q32, .inl (gc g 0, 12, .inl (fun _ => 0))), (q36, .inl (gc g 2, 12, .inl (fun _ => 0)))] ++ T31) H := hP
  replace hD : va_D A ([(h0, .inr (13, mfs f36)), (q3, .inl (gc g 2, 10, .inl (fun _ => 0))), (q5, .inl (gc g 0, 10, .inl (fun _ => 0))), (q21, .inl (gc g 0, 3, .inl (fun _ => 0))), (q32, .inl (gc g 0, 12, .inl (fun _ => 0))), (q36, .inl (gc g 2, 12, .inl (fun _ => 0)))] ++ T31) := hD
  obtain ⟨hP9, hD9⟩ := t_perm (ws2 := [(h0, .inr (13, mfs f36)), (q3, .inl (gc g 2, 10, .inl (fun _ => 0))), (q5, .inl (gc g 0, 10, .inl (fun _ => 0))), (q21, .inl (gc g 0, 3, .inl (fun _ => 0))), (q32, .inl (gc g 0, 12, .inl (fun _ => 0))), (q36, .inl (gc g 2, 12, .inl (fun _ => 0)))]) hP hD [0, 1, 2, 3, 4, 5] rfl (by decide)
  clear hP hD
  have hP := hP9
  have hD := hD9
  clear hP9 hD9
  obtain ⟨T32, hT32⟩ : ∃ T : va_W, T = [(q36, .inl (gc g 2, 12, .inl (fun _ => 0)))] ++ T31 := ⟨_, rfl⟩
  replace hP : va_P (gD g) vwCl ([(h0, .inr (13, mfs f36)), (q3, .inl (gc g 2, 10, .inl (fun _ => 0))), (q5, .inl (gc g 0, 10, .inl (fun _ => 0))), (q21, .inl (gc g 0, 3, .inl (fun _ => 0))), (q32, .inl (gc g 0, 12, .inl (fun _ => 0)))] ++ T32) H := by rw [hT32]; exact hP
  replace hD : va_D A ([(h0, .inr (13, mfs f36)), (q3, .inl (gc g 2, 10, .inl (fun _ => 0))), (q5, .inl (gc g 0, 10, .inl (fun _ => 0))), (q21, .inl (gc g 0, 3, .inl (fun _ => 0))), (q32, .inl (gc g 0, 12, .inl (fun _ => 0)))] ++ T32) := by rw [hT32]; exact hD
  refine lv_aload_n hC.1 hC.2.1 dX12_init_297 rfl (lv_at hl 0 rfl) ?_
  refine lv_bipush (v := (6 : Int32)) hC.1 hC.2.1 dX12_init_298 (by decide) ?_
  refine nw_i (N := 6) hC hP hD hS hA wd_60 (by decide) (by decide) (by decide) (Nat.le_of_ble_eq_true rfl) (Nat.le_of_ble_eq_true rfl) dX12_init_300 (fun q37 H hP9 hD9 hS9 => ?_)
  clear hP hD hS
  have hP := hP9
  have hD := hD9
  have hS := hS9
  clear hP9 hD9 hS9
  replace hP := va_P.swap hP
  replace hD := va_D.swap hD
  replace hP : va_P (gD g) vwCl ([(h0, .inr (13, mfs f36)), (q3, .inl (gc g 2, 10, .inl (fun _ => 0))), (q5, .inl (gc g 0, 10, .inl (fun _ => 0))), (q21, .inl (gc g 0, 3, .inl (fun _ => 0))), (q32, .inl (gc g 0, 12, .inl (fun _ => 0))), (q37, .inl (gc g 0, 6, .inl (fun _ => 0)))] ++ T32) H := hP
  replace hD : va_D A ([(h0, .inr (13, mfs f36)), (q3, .inl (gc g 2, 10, .inl (fun _ => 0))), (q5, .inl (gc g 0, 10, .inl (fun _ => 0))), (q21, .inl (gc g 0, 3, .inl (fun _ => 0))), (q32, .inl (gc g 0, 12, .inl (fun _ => 0))), (q37, .inl (gc g 0, 6, .inl (fun _ => 0)))] ++ T32) := hD
  refine W.widen (k := 37) (n := 31802) (Nat.le_of_ble_eq_true rfl) (Nat.le_of_ble_eq_true rfl) ?_
  refine mp_put hC (hnm.trans rfl) hP hD hS 56 (by decide) wd_1178 rfl rfl (ty := .array (.int)) (by decide +kernel) rfl rfl dX12_init_302 (fun H locs hP9 hD9 hS9 => ?_)
  clear hP hD hS
  have hP := hP9
  have hD := hD9
  have hS := hS9
  clear hP9 hD9 hS9
  obtain ⟨f37, hf37⟩ : ∃ z, z = va_up f36 56 (.ref q37) := ⟨_, rfl⟩
  rw [← hf37] at hP hD
  replace hP : va_P (gD g) vwCl ([(h0, .inr (13, mfs f37)), (q3, .inl (gc g 2, 10, .inl (fun _ => 0))), (q5, .inl (gc g 0, 10, .inl (fun _ => 0))), (q21, .inl (gc g 0, 3, .inl (fun _ => 0))), (q32, .inl (gc g 0, 12, .inl (fun _ => 0))), (q37, .inl (gc g 0, 6, .inl (fun _ => 0)))] ++ T32) H := hP
  replace hD : va_D A ([(h0, .inr (13, mfs f37)), (q3, .inl (gc g 2, 10, .inl (fun _ => 0))), (q5, .inl (gc g 0, 10, .inl (fun _ => 0))), (q21, .inl (gc g 0, 3, .inl (fun _ => 0))), (q32, .inl (gc g 0, 12, .inl (fun _ => 0))), (q37, .inl (gc g 0, 6, .inl (fun _ => 0)))] ++ T32) := hD
  obtain ⟨hP9, hD9⟩ := t_perm (ws2 := [(h0, .inr (13, mfs f37)), (q3, .inl (gc g 2, 10, .inl (fun _ => 0))), (q5, .inl (gc g 0, 10, .inl (fun _ => 0))), (q21, .inl (gc g 0, 3, .inl (fun _ => 0))), (q32, .inl (gc g 0, 12, .inl (fun _ => 0))), (q37, .inl (gc g 0, 6, .inl (fun _ => 0)))]) hP hD [0, 1, 2, 3, 4, 5] rfl (by decide)
  clear hP hD
  have hP := hP9
  have hD := hD9
  clear hP9 hD9
  obtain ⟨T33, hT33⟩ : ∃ T : va_W, T = [(q37, .inl (gc g 0, 6, .inl (fun _ => 0)))] ++ T32 := ⟨_, rfl⟩
  replace hP : va_P (gD g) vwCl ([(h0, .inr (13, mfs f37)), (q3, .inl (gc g 2, 10, .inl (fun _ => 0))), (q5, .inl (gc g 0, 10, .inl (fun _ => 0))), (q21, .inl (gc g 0, 3, .inl (fun _ => 0))), (q32, .inl (gc g 0, 12, .inl (fun _ => 0)))] ++ T33) H := by rw [hT33]; exact hP
  replace hD : va_D A ([(h0, .inr (13, mfs f37)), (q3, .inl (gc g 2, 10, .inl (fun _ => 0))), (q5, .inl (gc g 0, 10, .inl (fun _ => 0))), (q21, .inl (gc g 0, 3, .inl (fun _ => 0))), (q32, .inl (gc g 0, 12, .inl (fun _ => 0)))] ++ T33) := by rw [hT33]; exact hD
  refine lv_aload_n hC.1 hC.2.1 dX12_init_305 rfl (lv_at hl 0 rfl) ?_
  refine lv_bipush (v := (6 : Int32)) hC.1 hC.2.1 dX12_init_306 (by decide) ?_
  refine nw_i (N := 6) hC hP hD hS hA wd_60 (by decide) (by decide) (by decide) (Nat.le_of_ble_eq_true rfl) (Nat.le_of_ble_eq_true rfl) dX12_init_308 (fun q38 H hP9 hD9 hS9 => ?_)
  clear hP hD hS
  have hP := hP9
  have hD := hD9
  have hS := hS9
  clear hP9 hD9 hS9
  replace hP := va_P.swap hP
  replace hD := va_D.swap hD
  replace hP : va_P (gD g) vwCl ([(h0, .inr (13, mfs f37)), (q3, .inl (gc g 2, 10, .inl (fun _ => 0))), (q5, .inl (gc g 0, 10, .inl (fun _ => 0))), (q21, .inl (gc g 0, 3, .inl (fun _ => 0))), (q32, .inl (gc g 0, 12, .inl (fun _ => 0))), (q38, .inl (gc g 0, 6, .inl (fun _ => 0)))] ++ T33) H := hP
  replace hD : va_D A ([(h0, .inr (13, mfs f37)), (q3, .inl (gc g 2, 10, .inl (fun _ => 0))), (q5, .inl (gc g 0, 10, .inl (fun _ => 0))), (q21, .inl (gc g 0, 3, .inl (fun _ => 0))), (q32, .inl (gc g 0, 12, .inl (fun _ => 0))), (q38, .inl (gc g 0, 6, .inl (fun _ => 0)))] ++ T33) := hD
  refine W.widen (k := 38) (n := 31808) (Nat.le_of_ble_eq_true rfl) (Nat.le_of_ble_eq_true rfl) ?_
  refine mp_put hC (hnm.trans rfl) hP hD hS 57 (by decide) wd_1179 rfl rfl (ty := .array (.int)) (by decide +kernel) rfl rfl dX12_init_310 (fun H locs hP9 hD9 hS9 => ?_)
  clear hP hD hS
  have hP := hP9
  have hD := hD9
  have hS := hS9
  clear hP9 hD9 hS9
  obtain ⟨f38, hf38⟩ : ∃ z, z = va_up f37 57 (.ref q38) := ⟨_, rfl⟩
  rw [← hf38] at hP hD
  replace hP : va_P (gD g) vwCl ([(h0, .inr (13, mfs f38)), (q3, .inl (gc g 2, 10, .inl (fun _ => 0))), (q5, .inl (gc g 0, 10, .inl (fun _ => 0))), (q21, .inl (gc g 0, 3, .inl (fun _ => 0))), (q32, .inl (gc g 0, 12, .inl (fun _ => 0))), (q38, .inl (gc g 0, 6, .inl (fun _ => 0)))] ++ T33) H := hP
  replace hD : va_D A ([(h0, .inr (13, mfs f38)), (q3, .inl (gc g 2, 10, .inl (fun _ => 0))), (q5, .inl (gc g 0, 10, .inl (fun _ => 0))), (q21, .inl (gc g 0, 3, .inl (fun _ => 0))), (q32, .inl (gc g 0, 12, .inl (fun _ => 0))), (q38, .inl (gc g 0, 6, .inl (fun _ => 0)))] ++ T33) := hD
  obtain ⟨hP9, hD9⟩ := t_perm (ws2 := [(h0, .inr (13, mfs f38)), (q3, .inl (gc g 2, 10, .inl (fun _ => 0))), (q5, .inl (gc g 0, 10, .inl (fun _ => 0))), (q21, .inl (gc g 0, 3, .inl (fun _ => 0))), (q32, .inl (gc g 0, 12, .inl (fun _ => 0))), (q38, .inl (gc g 0, 6, .inl (fun _ => 0)))]) hP hD [0, 1, 2, 3, 4, 5] rfl (by decide)
  clear hP hD
  have hP := hP9
  have hD := hD9
  clear hP9 hD9
  obtain ⟨T34, hT34⟩ : ∃ T : va_W, T = [(q38, .inl (gc g 0, 6, .inl (fun _ => 0)))] ++ T33 := ⟨_, rfl⟩
  replace hP : va_P (gD g) vwCl ([(h0, .inr (13, mfs f38)), (q3, .inl (gc g 2, 10, .inl (fun _ => 0))), (q5, .inl (gc g 0, 10, .inl (fun _ => 0))), (q21, .inl (gc g 0, 3, .inl (fun _ => 0))), (q32, .inl (gc g 0, 12, .inl (fun _ => 0)))] ++ T34) H := by rw [hT34]; exact hP
  replace hD : va_D A ([(h0, .inr (13, mfs f38)), (q3, .inl (gc g 2, 10, .inl (fun _ => 0))), (q5, .inl (gc g 0, 10, .inl (fun _ => 0))), (q21, .inl (gc g 0, 3, .inl (fun _ => 0))), (q32, .inl (gc g 0, 12, .inl (fun _ => 0)))] ++ T34) := by rw [hT34]; exact hD
  refine lv_aload_n hC.1 hC.2.1 dX12_init_313 rfl (lv_at hl 0 rfl) ?_
  refine lv_bipush (v := (6 : Int32)) hC.1 hC.2.1 dX12_init_314 (by decide) ?_
  refine nw_i (N := 6) hC hP hD hS hA wd_60 (by decide) (by decide) (by decide) (Nat.le_of_ble_eq_true rfl) (Nat.le_of_ble_eq_true rfl) dX12_init_316 (fun q39 H hP9 hD9 hS9 => ?_)
  clear hP hD hS
  have hP := hP9
  have hD := hD9
  have hS := hS9
  clear hP9 hD9 hS9
  replace hP := va_P.swap hP
  replace hD := va_D.swap hD
  replace hP : va_P (gD g) vwCl ([(h0, .inr (13, mfs f38)), (q3, .inl (gc g 2, 10, .inl (fun _ => 0))), (q5, .inl (gc g 0, 10, .inl (fun _ => 0))), (q21, .inl (gc g 0, 3, .inl (fun _ => 0))), (q32, .inl (gc g 0, 12, .inl (fun _ => 0))), (q39, .inl (gc g 0, 6, .inl (fun _ => 0)))] ++ T34) H := hP
  replace hD : va_D A ([(h0, .inr (13, mfs f38)), (q3, .inl (gc g 2, 10, .inl (fun _ => 0))), (q5, .inl (gc g 0, 10, .inl (fun _ => 0))), (q21, .inl (gc g 0, 3, .inl (fun _ => 0))), (q32, .inl (gc g 0, 12, .inl (fun _ => 0))), (q39, .inl (gc g 0, 6, .inl (fun _ => 0)))] ++ T34) := hD
  refine W.widen (k := 39) (n := 31814) (Nat.le_of_ble_eq_true rfl) (Nat.le_of_ble_eq_true rfl) ?_
  refine mp_put hC (hnm.trans rfl) hP hD hS 58 (by decide) wd_1180 rfl rfl (ty := .array (.int)) (by decide +kernel) rfl rfl dX12_init_318 (fun H locs hP9 hD9 hS9 => ?_)
  clear hP hD hS
  have hP := hP9
  have hD := hD9
  have hS := hS9
  clear hP9 hD9 hS9
  obtain ⟨f39, hf39⟩ : ∃ z, z = va_up f38 58 (.ref q39) := ⟨_, rfl⟩
  rw [← hf39] at hP hD
  replace hP : va_P (gD g) vwCl ([(h0, .inr (13, mfs f39)), (q3, .inl (gc g 2, 10, .inl (fun _ => 0))), (q5, .inl (gc g 0, 10, .inl (fun _ => 0))), (q21, .inl (gc g 0, 3, .inl (fun _ => 0))), (q32, .inl (gc g 0, 12, .inl (fun _ => 0))), (q39, .inl (gc g 0, 6, .inl (fun _ => 0)))] ++ T34) H := hP
  replace hD : va_D A ([(h0, .inr (13, mfs f39)), (q3, .inl (gc g 2, 10, .inl (fun _ => 0))), (q5, .inl (gc g 0, 10, .inl (fun _ => 0))), (q21, .inl (gc g 0, 3, .inl (fun _ => 0))), (q32, .inl (gc g 0, 12, .inl (fun _ => 0))), (q39, .inl (gc g 0, 6, .inl (fun _ => 0)))] ++ T34) := hD
  obtain ⟨hP9, hD9⟩ := t_perm (ws2 := [(h0, .inr (13, mfs f39)), (q3, .inl (gc g 2, 10, .inl (fun _ => 0))), (q5, .inl (gc g 0, 10, .inl (fun _ => 0))), (q21, .inl (gc g 0, 3, .inl (fun _ => 0))), (q32, .inl (gc g 0, 12, .inl (fun _ => 0))), (q39, .inl (gc g 0, 6, .inl (fun _ => 0)))]) hP hD [0, 1, 2, 3, 4, 5] rfl (by decide)
  clear hP hD
  have hP := hP9
  have hD := hD9
  clear hP9 hD9
  obtain ⟨T35, hT35⟩ : ∃ T : va_W, T = [(q39, .inl (gc g 0, 6, .inl (fun _ => 0)))] ++ T34 := ⟨_, rfl⟩
  replace hP : va_P (gD g) vwCl ([(h0, .inr (13, mfs f39)), (q3, .inl (gc g 2, 10, .inl (fun _ => 0))), (q5, .inl (gc g 0, 10, .inl (fun _ => 0))), (q21, .inl (gc g 0, 3, .inl (fun _ => 0))), (q32, .inl (gc g 0, 12, .inl (fun _ => 0)))] ++ T35) H := by rw [hT35]; exact hP
  replace hD : va_D A ([(h0, .inr (13, mfs f39)), (q3, .inl (gc g 2, 10, .inl (fun _ => 0))), (q5, .inl (gc g 0, 10, .inl (fun _ => 0))), (q21, .inl (gc g 0, 3, .inl (fun _ => 0))), (q32, .inl (gc g 0, 12, .inl (fun _ => 0)))] ++ T35) := by rw [hT35]; exact hD
  refine lv_aload_n hC.1 hC.2.1 dX12_init_321 rfl (lv_at hl 0 rfl) ?_
  refine lv_bipush (v := (6 : Int32)) hC.1 hC.2.1 dX12_init_322 (by decide) ?_
  refine nw_i (N := 6) hC hP hD hS hA wd_60 (by decide) (by decide) (by decide) (Nat.le_of_ble_eq_true rfl) (Nat.le_of_ble_eq_true rfl) dX12_init_324 (fun q40 H hP9 hD9 hS9 => ?_)
  clear hP hD hS
  have hP := hP9
  have hD := hD9
  have hS := hS9
  clear hP9 hD9 hS9
  replace hP := va_P.swap hP
  replace hD := va_D.swap hD
  replace hP : va_P (gD g) vwCl ([(h0, .inr (13, mfs f39)), (q3, .inl (gc g 2, 10, .inl (fun _ => 0))), (q5, .inl (gc g 0, 10, .inl (fun _ => 0))), (q21, .inl (gc g 0, 3, .inl (fun _ => 0))), (q32, .inl (gc g 0, 12, .inl (fun _ => 0))), (q40, .inl (gc g 0, 6, .inl (fun _ => 0)))] ++ T35) H := hP
  replace hD : va_D A ([(h0, .inr (13, mfs f39)), (q3, .inl (gc g 2, 10, .inl (fun _ => 0))), (q5, .inl (gc g 0, 10, .inl (fun _ => 0))), (q21, .inl (gc g 0, 3, .inl (fun _ => 0))), (q32, .inl (gc g 0, 12, .inl (fun _ => 0))), (q40, .inl (gc g 0, 6, .inl (fun _ => 0)))] ++ T35) := hD
  refine W.widen (k := 40) (n := 31820) (Nat.le_of_ble_eq_true rfl) (Nat.le_of_ble_eq_true rfl) ?_
  refine mp_put hC (hnm.trans rfl) hP hD hS 59 (by decide) wd_1181 rfl rfl (ty := .array (.int)) (by decide +kernel) rfl rfl dX12_init_326 (fun H locs hP9 hD9 hS9 => ?_)
  clear hP hD hS
  have hP := hP9
  have hD := hD9
  have hS := hS9
  clear hP9 hD9 hS9
  obtain ⟨f40, hf40⟩ : ∃ z, z = va_up f39 59 (.ref q40) := ⟨_, rfl⟩
  rw [← hf40] at hP hD
  replace hP : va_P (gD g) vwCl ([(h0, .inr (13, mfs f40)), (q3, .inl (gc g 2, 10, .inl (fun _ => 0))), (q5, .inl (gc g 0, 10, .inl (fun _ => 0))), (q21, .inl (gc g 0, 3, .inl (fun _ => 0))), (q32, .inl (gc g 0, 12, .inl (fun _ => 0))), (q40, .inl (gc g 0, 6, .inl (fun _ => 0)))] ++ T35) H := hP
  replace hD : va_D A ([(h0, .inr (13, mfs f40)), (q3, .inl (gc g 2, 10, .inl (fun _ => 0))), (q5, .inl (gc g 0, 10, .inl (fun _ => 0))), (q21, .inl (gc g 0, 3, .inl (fun _ => 0))), (q32, .inl (gc g 0, 12, .inl (fun _ => 0))), (q40, .inl (gc g 0, 6, .inl (fun _ => 0)))] ++ T35) := hD
  obtain ⟨hP9, hD9⟩ := t_perm (ws2 := [(h0, .inr (13, mfs f40)), (q3, .inl (gc g 2, 10, .inl (fun _ => 0))), (q5, .inl (gc g 0, 10, .inl (fun _ => 0))), (q21, .inl (gc g 0, 3, .inl (fun _ => 0))), (q32, .inl (gc g 0, 12, .inl (fun _ => 0))), (q40, .inl (gc g 0, 6, .inl (fun _ => 0)))]) hP hD [0, 1, 2, 3, 4, 5] rfl (by decide)
  clear hP hD
  have hP := hP9
  have hD := hD9
  clear hP9 hD9
  obtain ⟨T36, hT36⟩ : ∃ T : va_W, T = [(q40, .inl (gc g 0, 6, .inl (fun _ => 0)))] ++ T35 := ⟨_, rfl⟩
  replace hP : va_P (gD g) vwCl ([(h0, .inr (13, mfs f40)), (q3, .inl (gc g 2, 10, .inl (fun _ => 0))), (q5, .inl (gc g 0, 10, .inl (fun _ => 0))), (q21, .inl (gc g 0, 3, .inl (fun _ => 0))), (q32, .inl (gc g 0, 12, .inl (fun _ => 0)))] ++ T36) H := by rw [hT36]; exact hP
  replace hD : va_D A ([(h0, .inr (13, mfs f40)), (q3, .inl (gc g 2, 10, .inl (fun _ => 0))), (q5, .inl (gc g 0, 10, .inl (fun _ => 0))), (q21, .inl (gc g 0, 3, .inl (fun _ => 0))), (q32, .inl (gc g 0, 12, .inl (fun _ => 0)))] ++ T36) := by rw [hT36]; exact hD
  refine lv_aload_n hC.1 hC.2.1 dX12_init_329 rfl (lv_at hl 0 rfl) ?_
  refine lv_bipush (v := (20 : Int32)) hC.1 hC.2.1 dX12_init_330 (by decide) ?_
  refine nw_i (N := 20) hC hP hD hS hA wd_60 (by decide) (by decide) (by decide) (Nat.le_of_ble_eq_true rfl) (Nat.le_of_ble_eq_true rfl) dX12_init_332 (fun q41 H hP9 hD9 hS9 => ?_)
  clear hP hD hS
  have hP := hP9
  have hD := hD9
  have hS := hS9
  clear hP9 hD9 hS9
  replace hP := va_P.swap hP
  replace hD := va_D.swap hD
  replace hP : va_P (gD g) vwCl ([(h0, .inr (13, mfs f40)), (q3, .inl (gc g 2, 10, .inl (fun _ => 0))), (q5, .inl (gc g 0, 10, .inl (fun _ => 0))), (q21, .inl (gc g 0, 3, .inl (fun _ => 0))), (q32, .inl (gc g 0, 12, .inl (fun _ => 0))), (q41, .inl (gc g 0, 20, .inl (fun _ => 0)))] ++ T36) H := hP
  replace hD : va_D A ([(h0, .inr (13, mfs f40)), (q3, .inl (gc g 2, 10, .inl (fun _ => 0))), (q5, .inl (gc g 0, 10, .inl (fun _ => 0))), (q21, .inl (gc g 0, 3, .inl (fun _ => 0))), (q32, .inl (gc g 0, 12, .inl (fun _ => 0))), (q41, .inl (gc g 0, 20, .inl (fun _ => 0)))] ++ T36) := hD
  refine W.widen (k := 41) (n := 31840) (Nat.le_of_ble_eq_true rfl) (Nat.le_of_ble_eq_true rfl) ?_
  refine mp_put hC (hnm.trans rfl) hP hD hS 63 (by decide) wd_1185 rfl rfl (ty := .array (.int)) (by decide +kernel) rfl rfl dX12_init_334 (fun H locs hP9 hD9 hS9 => ?_)
  clear hP hD hS
  have hP := hP9
  have hD := hD9
  have hS := hS9
  clear hP9 hD9 hS9
  obtain ⟨f41, hf41⟩ : ∃ z, z = va_up f40 63 (.ref q41) := ⟨_, rfl⟩
  rw [← hf41] at hP hD
  replace hP : va_P (gD g) vwCl ([(h0, .inr (13, mfs f41)), (q3, .inl (gc g 2, 10, .inl (fun _ => 0))), (q5, .inl (gc g 0, 10, .inl (fun _ => 0))), (q21, .inl (gc g 0, 3, .inl (fun _ => 0))), (q32, .inl (gc g 0, 12, .inl (fun _ => 0))), (q41, .inl (gc g 0, 20, .inl (fun _ => 0)))] ++ T36) H := hP
  replace hD : va_D A ([(h0, .inr (13, mfs f41)), (q3, .inl (gc g 2, 10, .inl (fun _ => 0))), (q5, .inl (gc g 0, 10, .inl (fun _ => 0))), (q21, .inl (gc g 0, 3, .inl (fun _ => 0))), (q32, .inl (gc g 0, 12, .inl (fun _ => 0))), (q41, .inl (gc g 0, 20, .inl (fun _ => 0)))] ++ T36) := hD
  obtain ⟨hP9, hD9⟩ := t_perm (ws2 := [(h0, .inr (13, mfs f41)), (q3, .inl (gc g 2, 10, .inl (fun _ => 0))), (q5, .inl (gc g 0, 10, .inl (fun _ => 0))), (q21, .inl (gc g 0, 3, .inl (fun _ => 0))), (q32, .inl (gc g 0, 12, .inl (fun _ => 0))), (q41, .inl (gc g 0, 20, .inl (fun _ => 0)))]) hP hD [0, 1, 2, 3, 4, 5] rfl (by decide)
  clear hP hD
  have hP := hP9
  have hD := hD9
  clear hP9 hD9
  obtain ⟨T37, hT37⟩ : ∃ T : va_W, T = [(q41, .inl (gc g 0, 20, .inl (fun _ => 0)))] ++ T36 := ⟨_, rfl⟩
  replace hP : va_P (gD g) vwCl ([(h0, .inr (13, mfs f41)), (q3, .inl (gc g 2, 10, .inl (fun _ => 0))), (q5, .inl (gc g 0, 10, .inl (fun _ => 0))), (q21, .inl (gc g 0, 3, .inl (fun _ => 0))), (q32, .inl (gc g 0, 12, .inl (fun _ => 0)))] ++ T37) H := by rw [hT37]; exact hP
  replace hD : va_D A ([(h0, .inr (13, mfs f41)), (q3, .inl (gc g 2, 10, .inl (fun _ => 0))), (q5, .inl (gc g 0, 10, .inl (fun _ => 0))), (q21, .inl (gc g 0, 3, .inl (fun _ => 0))), (q32, .inl (gc g 0, 12, .inl (fun _ => 0)))] ++ T37) := by rw [hT37]; exact hD
  refine lv_aload_n hC.1 hC.2.1 dX12_init_337 rfl (lv_at hl 0 rfl) ?_
  refine lv_sipush (v := (160 : Int32)) hC.1 hC.2.1 dX12_init_338 (by decide) ?_
  refine nw_i (N := 160) hC hP hD hS hA wd_60 (by decide) (by decide) (by decide) (Nat.le_of_ble_eq_true rfl) (Nat.le_of_ble_eq_true rfl) dX12_init_341 (fun q42 H hP9 hD9 hS9 => ?_)
  clear hP hD hS
  have hP := hP9
  have hD := hD9
  have hS := hS9
  clear hP9 hD9 hS9
  replace hP := va_P.swap hP
  replace hD := va_D.swap hD
  replace hP : va_P (gD g) vwCl ([(h0, .inr (13, mfs f41)), (q3, .inl (gc g 2, 10, .inl (fun _ => 0))), (q5, .inl (gc g 0, 10, .inl (fun _ => 0))), (q21, .inl (gc g 0, 3, .inl (fun _ => 0))), (q32, .inl (gc g 0, 12, .inl (fun _ => 0))), (q42, .inl (gc g 0, 160, .inl (fun _ => 0)))] ++ T37) H := hP
  replace hD : va_D A ([(h0, .inr (13, mfs f41)), (q3, .inl (gc g 2, 10, .inl (fun _ => 0))), (q5, .inl (gc g 0, 10, .inl (fun _ => 0))), (q21, .inl (gc g 0, 3, .inl (fun _ => 0))), (q32, .inl (gc g 0, 12, .inl (fun _ => 0))), (q42, .inl (gc g 0, 160, .inl (fun _ => 0)))] ++ T37) := hD
  refine W.widen (k := 42) (n := 32000) (Nat.le_of_ble_eq_true rfl) (Nat.le_of_ble_eq_true rfl) ?_
  refine mp_put hC (hnm.trans rfl) hP hD hS 64 (by decide) wd_1186 rfl rfl (ty := .array (.int)) (by decide +kernel) rfl rfl dX12_init_343 (fun H locs hP9 hD9 hS9 => ?_)
  clear hP hD hS
  have hP := hP9
  have hD := hD9
  have hS := hS9
  clear hP9 hD9 hS9
  obtain ⟨f42, hf42⟩ : ∃ z, z = va_up f41 64 (.ref q42) := ⟨_, rfl⟩
  rw [← hf42] at hP hD
  replace hP : va_P (gD g) vwCl ([(h0, .inr (13, mfs f42)), (q3, .inl (gc g 2, 10, .inl (fun _ => 0))), (q5, .inl (gc g 0, 10, .inl (fun _ => 0))), (q21, .inl (gc g 0, 3, .inl (fun _ => 0))), (q32, .inl (gc g 0, 12, .inl (fun _ => 0))), (q42, .inl (gc g 0, 160, .inl (fun _ => 0)))] ++ T37) H := hP
  replace hD : va_D A ([(h0, .inr (13, mfs f42)), (q3, .inl (gc g 2, 10, .inl (fun _ => 0))), (q5, .inl (gc g 0, 10, .inl (fun _ => 0))), (q21, .inl (gc g 0, 3, .inl (fun _ => 0))), (q32, .inl (gc g 0, 12, .inl (fun _ => 0))), (q42, .inl (gc g 0, 160, .inl (fun _ => 0)))] ++ T37) := hD
  obtain ⟨hP9, hD9⟩ := t_perm (ws2 := [(h0, .inr (13, mfs f42)), (q3, .inl (gc g 2, 10, .inl (fun _ => 0))), (q5, .inl (gc g 0, 10, .inl (fun _ => 0))), (q21, .inl (gc g 0, 3, .inl (fun _ => 0))), (q32, .inl (gc g 0, 12, .inl (fun _ => 0))), (q42, .inl (gc g 0, 160, .inl (fun _ => 0)))]) hP hD [0, 1, 2, 3, 4, 5] rfl (by decide)
  clear hP hD
  have hP := hP9
  have hD := hD9
  clear hP9 hD9
  obtain ⟨T38, hT38⟩ : ∃ T : va_W, T = [(q42, .inl (gc g 0, 160, .inl (fun _ => 0)))] ++ T37 := ⟨_, rfl⟩
  replace hP : va_P (gD g) vwCl ([(h0, .inr (13, mfs f42)), (q3, .inl (gc g 2, 10, .inl (fun _ => 0))), (q5, .inl (gc g 0, 10, .inl (fun _ => 0))), (q21, .inl (gc g 0, 3, .inl (fun _ => 0))), (q32, .inl (gc g 0, 12, .inl (fun _ => 0)))] ++ T38) H := by rw [hT38]; exact hP
  replace hD : va_D A ([(h0, .inr (13, mfs f42)), (q3, .inl (gc g 2, 10, .inl (fun _ => 0))), (q5, .inl (gc g 0, 10, .inl (fun _ => 0))), (q21, .inl (gc g 0, 3, .inl (fun _ => 0))), (q32, .inl (gc g 0, 12, .inl (fun _ => 0)))] ++ T38) := by rw [hT38]; exact hD
  refine lv_aload_n hC.1 hC.2.1 dX12_init_346 rfl (lv_at hl 0 rfl) ?_
  refine lv_bipush (v := (8 : Int32)) hC.1 hC.2.1 dX12_init_347 (by decide) ?_
  refine nw_i (N := 8) hC hP hD hS hA wd_60 (by decide) (by decide) (by decide) (Nat.le_of_ble_eq_true rfl) (Nat.le_of_ble_eq_true rfl) dX12_init_349 (fun q43 H hP9 hD9 hS9 => ?_)
  clear hP hD hS
  have hP := hP9
  have hD := hD9
  have hS := hS9
  clear hP9 hD9 hS9
  replace hP := va_P.swap hP
  replace hD := va_D.swap hD
  replace hP : va_P (gD g) vwCl ([(h0, .inr (13, mfs f42)), (q3, .inl (gc g 2, 10, .inl (fun _ => 0))), (q5, .inl (gc g 0, 10, .inl (fun _ => 0))), (q21, .inl (gc g 0, 3, .inl (fun _ => 0))), (q32, .inl (gc g 0, 12, .inl (fun _ => 0))), (q43, .inl (gc g 0, 8, .inl (fun _ => 0)))] ++ T38) H := hP
  replace hD : va_D A ([(h0, .inr (13, mfs f42)), (q3, .inl (gc g 2, 10, .inl (fun _ => 0))), (q5, .inl (gc g 0, 10, .inl (fun _ => 0))), (q21, .inl (gc g 0, 3, .inl (fun _ => 0))), (q32, .inl (gc g 0, 12, .inl (fun _ => 0))), (q43, .inl (gc g 0, 8, .inl (fun _ => 0)))] ++ T38) := hD
  refine W.widen (k := 43) (n := 32008) (Nat.le_of_ble_eq_true rfl) (Nat.le_of_ble_eq_true rfl) ?_
  refine mp_put hC (hnm.trans rfl) hP hD hS 65 (by decide) wd_1187 rfl rfl (ty := .array (.int)) (by decide +kernel) rfl rfl dX12_init_351 (fun H locs hP9 hD9 hS9 => ?_)
  clear hP hD hS
  have hP := hP9
  have hD := hD9
  have hS := hS9
  clear hP9 hD9 hS9
  obtain ⟨f43, hf43⟩ : ∃ z, z = va_up f42 65 (.ref q43) := ⟨_, rfl⟩
  rw [← hf43] at hP hD
  replace hP : va_P (gD g) vwCl ([(h0, .inr (13, mfs f43)), (q3, .inl (gc g 2, 10, .inl (fun _ => 0))), (q5, .inl (gc g 0, 10, .inl (fun _ => 0))), (q21, .inl (gc g 0, 3, .inl (fun _ => 0))), (q32, .inl (gc g 0, 12, .inl (fun _ => 0))), (q43, .inl (gc g 0, 8, .inl (fun _ => 0)))] ++ T38) H := hP
  replace hD : va_D A ([(h0, .inr (13, mfs f43)), (q3, .inl (gc g 2, 10, .inl (fun _ => 0))), (q5, .inl (gc g 0, 10, .inl (fun _ => 0))), (q21, .inl (gc g 0, 3, .inl (fun _ => 0))), (q32, .inl (gc g 0, 12, .inl (fun _ => 0))), (q43, .inl (gc g 0, 8, .inl (fun _ => 0)))] ++ T38) := hD
  obtain ⟨hP9, hD9⟩ := t_perm (ws2 := [(h0, .inr (13, mfs f43)), (q3, .inl (gc g 2, 10, .inl (fun _ => 0))), (q5, .inl (gc g 0, 10, .inl (fun _ => 0))), (q21, .inl (gc g 0, 3, .inl (fun _ => 0))), (q32, .inl (gc g 0, 12, .inl (fun _ => 0))), (q43, .inl (gc g 0, 8, .inl (fun _ => 0)))]) hP hD [0, 1, 2, 3, 4, 5] rfl (by decide)
  clear hP hD
  have hP := hP9
  have hD := hD9
  clear hP9 hD9
  obtain ⟨T39, hT39⟩ : ∃ T : va_W, T = [(q43, .inl (gc g 0, 8, .inl (fun _ => 0)))] ++ T38 := ⟨_, rfl⟩
  replace hP : va_P (gD g) vwCl ([(h0, .inr (13, mfs f43)), (q3, .inl (gc g 2, 10, .inl (fun _ => 0))), (q5, .inl (gc g 0, 10, .inl (fun _ => 0))), (q21, .inl (gc g 0, 3, .inl (fun _ => 0))), (q32, .inl (gc g 0, 12, .inl (fun _ => 0)))] ++ T39) H := by rw [hT39]; exact hP
  replace hD : va_D A ([(h0, .inr (13, mfs f43)), (q3, .inl (gc g 2, 10, .inl (fun _ => 0))), (q5, .inl (gc g 0, 10, .inl (fun _ => 0))), (q21, .inl (gc g 0, 3, .inl (fun _ => 0))), (q32, .inl (gc g 0, 12, .inl (fun _ => 0)))] ++ T39) := by rw [hT39]; exact hD
  refine lv_aload_n hC.1 hC.2.1 dX12_init_354 rfl (lv_at hl 0 rfl) ?_
  refine lv_sipush (v := (600 : Int32)) hC.1 hC.2.1 dX12_init_355 (by decide) ?_
  refine nw_i (N := 600) hC hP hD hS hA wd_60 (by decide) (by decide) (by decide) (Nat.le_of_ble_eq_true rfl) (Nat.le_of_ble_eq_true rfl) dX12_init_358 (fun q44 H hP9 hD9 hS9 => ?_)
  clear hP hD hS
  have hP := hP9
  have hD := hD9
  have hS := hS9
  clear hP9 hD9 hS9
  replace hP := va_P.swap hP
  replace hD := va_D.swap hD
  replace hP : va_P (gD g) vwCl ([(h0, .inr (13, mfs f43)), (q3, .inl (gc g 2, 10, .inl (fun _ => 0))), (q5, .inl (gc g 0, 10, .inl (fun _ => 0))), (q21, .inl (gc g 0, 3, .inl (fun _ => 0))), (q32, .inl (gc g 0, 12, .inl (fun _ => 0))), (q44, .inl (gc g 0, 600, .inl (fun _ => 0)))] ++ T39) H := hP
  replace hD : va_D A ([(h0, .inr (13, mfs f43)), (q3, .inl (gc g 2, 10, .inl (fun _ => 0))), (q5, .inl (gc g 0, 10, .inl (fun _ => 0))), (q21, .inl (gc g 0, 3, .inl (fun _ => 0))), (q32, .inl (gc g 0, 12, .inl (fun _ => 0))), (q44, .inl (gc g 0, 600, .inl (fun _ => 0)))] ++ T39) := hD
  refine W.widen (k := 44) (n := 32608) (Nat.le_of_ble_eq_true rfl) (Nat.le_of_ble_eq_true rfl) ?_
  refine mp_put hC (hnm.trans rfl) hP hD hS 66 (by decide) wd_1188 rfl rfl (ty := .array (.int)) (by decide +kernel) rfl rfl dX12_init_360 (fun H locs hP9 hD9 hS9 => ?_)
  clear hP hD hS
  have hP := hP9
  have hD := hD9
  have hS := hS9
  clear hP9 hD9 hS9
  obtain ⟨f44, hf44⟩ : ∃ z, z = va_up f43 66 (.ref q44) := ⟨_, rfl⟩
  rw [← hf44] at hP hD
  replace hP : va_P (gD g) vwCl ([(h0, .inr (13, mfs f44)), (q3, .inl (gc g 2, 10, .inl (fun _ => 0))), (q5, .inl (gc g 0, 10, .inl (fun _ => 0))), (q21, .inl (gc g 0, 3, .inl (fun _ => 0))), (q32, .inl (gc g 0, 12, .inl (fun _ => 0))), (q44, .inl (gc g 0, 600, .inl (fun _ => 0)))] ++ T39) H := hP
  replace hD : va_D A ([(h0, .inr (13, mfs f44)), (q3, .inl (gc g 2, 10, .inl (fun _ => 0))), (q5, .inl (gc g 0, 10, .inl (fun _ => 0))), (q21, .inl (gc g 0, 3, .inl (fun _ => 0))), (q32, .inl (gc g 0, 12, .inl (fun _ => 0))), (q44, .inl (gc g 0, 600, .inl (fun _ => 0)))] ++ T39) := hD
  obtain ⟨hP9, hD9⟩ := t_perm (ws2 := [(h0, .inr (13, mfs f44)), (q3, .inl (gc g 2, 10, .inl (fun _ => 0))), (q5, .inl (gc g 0, 10, .inl (fun _ => 0))), (q21, .inl (gc g 0, 3, .inl (fun _ => 0))), (q32, .inl (gc g 0, 12, .inl (fun _ => 0))), (q44, .inl (gc g 0, 600, .inl (fun _ => 0)))]) hP hD [0, 1, 2, 3, 4, 5] rfl (by decide)
  clear hP hD
  have hP := hP9
  have hD := hD9
  clear hP9 hD9
  obtain ⟨T40, hT40⟩ : ∃ T : va_W, T = [(q44, .inl (gc g 0, 600, .inl (fun _ => 0)))] ++ T39 := ⟨_, rfl⟩
  replace hP : va_P (gD g) vwCl ([(h0, .inr (13, mfs f44)), (q3, .inl (gc g 2, 10, .inl (fun _ => 0))), (q5, .inl (gc g 0, 10, .inl (fun _ => 0))), (q21, .inl (gc g 0, 3, .inl (fun _ => 0))), (q32, .inl (gc g 0, 12, .inl (fun _ => 0)))] ++ T40) H := by rw [hT40]; exact hP
  replace hD : va_D A ([(h0, .inr (13, mfs f44)), (q3, .inl (gc g 2, 10, .inl (fun _ => 0))), (q5, .inl (gc g 0, 10, .inl (fun _ => 0))), (q21, .inl (gc g 0, 3, .inl (fun _ => 0))), (q32, .inl (gc g 0, 12, .inl (fun _ => 0)))] ++ T40) := by rw [hT40]; exact hD
  refine lv_aload_n hC.1 hC.2.1 dX12_init_363 rfl (lv_at hl 0 rfl) ?_
  refine lv_bipush (v := (64 : Int32)) hC.1 hC.2.1 dX12_init_364 (by decide) ?_
  refine nw_z (N := 64) hC hP hD hS hA wd_394 (by decide) (by decide) (by decide) (Nat.le_of_ble_eq_true rfl) (Nat.le_of_ble_eq_true rfl) dX12_init_366 (fun q45 H hP9 hD9 hS9 => ?_)
  clear hP hD hS
  have hP := hP9
  have hD := hD9
  have hS := hS9
  clear hP9 hD9 hS9
  replace hP := va_P.swap hP
  replace hD := va_D.swap hD
  replace hP : va_P (gD g) vwCl ([(h0, .inr (13, mfs f44)), (q3, .inl (gc g 2, 10, .inl (fun _ => 0))), (q5, .inl (gc g 0, 10, .inl (fun _ => 0))), (q21, .inl (gc g 0, 3, .inl (fun _ => 0))), (q32, .inl (gc g 0, 12, .inl (fun _ => 0))), (q45, .inl (gc g 2, 64, .inl (fun _ => 0)))] ++ T40) H := hP
  replace hD : va_D A ([(h0, .inr (13, mfs f44)), (q3, .inl (gc g 2, 10, .inl (fun _ => 0))), (q5, .inl (gc g 0, 10, .inl (fun _ => 0))), (q21, .inl (gc g 0, 3, .inl (fun _ => 0))), (q32, .inl (gc g 0, 12, .inl (fun _ => 0))), (q45, .inl (gc g 2, 64, .inl (fun _ => 0)))] ++ T40) := hD
  refine W.widen (k := 45) (n := 32672) (Nat.le_of_ble_eq_true rfl) (Nat.le_of_ble_eq_true rfl) ?_
  refine mp_put hC (hnm.trans rfl) hP hD hS 70 (by decide) wd_1192 rfl rfl (ty := .array (.boolean)) (by decide +kernel) rfl rfl dX12_init_368 (fun H locs hP9 hD9 hS9 => ?_)
  clear hP hD hS
  have hP := hP9
  have hD := hD9
  have hS := hS9
  clear hP9 hD9 hS9
  obtain ⟨f45, hf45⟩ : ∃ z, z = va_up f44 70 (.ref q45) := ⟨_, rfl⟩
  rw [← hf45] at hP hD
  replace hP : va_P (gD g) vwCl ([(h0, .inr (13, mfs f45)), (q3, .inl (gc g 2, 10, .inl (fun _ => 0))), (q5, .inl (gc g 0, 10, .inl (fun _ => 0))), (q21, .inl (gc g 0, 3, .inl (fun _ => 0))), (q32, .inl (gc g 0, 12, .inl (fun _ => 0))), (q45, .inl (gc g 2, 64, .inl (fun _ => 0)))] ++ T40) H := hP
  replace hD : va_D A ([(h0, .inr (13, mfs f45)), (q3, .inl (gc g 2, 10, .inl (fun _ => 0))), (q5, .inl (gc g 0, 10, .inl (fun _ => 0))), (q21, .inl (gc g 0, 3, .inl (fun _ => 0))), (q32, .inl (gc g 0, 12, .inl (fun _ => 0))), (q45, .inl (gc g 2, 64, .inl (fun _ => 0)))] ++ T40) := hD
  obtain ⟨hP9, hD9⟩ := t_perm (ws2 := [(h0, .inr (13, mfs f45)), (q3, .inl (gc g 2, 10, .inl (fun _ => 0))), (q5, .inl (gc g 0, 10, .inl (fun _ => 0))), (q21, .inl (gc g 0, 3, .inl (fun _ => 0))), (q32, .inl (gc g 0, 12, .inl (fun _ => 0))), (q45, .inl (gc g 2, 64, .inl (fun _ => 0)))]) hP hD [0, 1, 2, 3, 4, 5] rfl (by decide)
  clear hP hD
  have hP := hP9
  have hD := hD9
  clear hP9 hD9
  obtain ⟨T41, hT41⟩ : ∃ T : va_W, T = [(q45, .inl (gc g 2, 64, .inl (fun _ => 0)))] ++ T40 := ⟨_, rfl⟩
  replace hP : va_P (gD g) vwCl ([(h0, .inr (13, mfs f45)), (q3, .inl (gc g 2, 10, .inl (fun _ => 0))), (q5, .inl (gc g 0, 10, .inl (fun _ => 0))), (q21, .inl (gc g 0, 3, .inl (fun _ => 0))), (q32, .inl (gc g 0, 12, .inl (fun _ => 0)))] ++ T41) H := by rw [hT41]; exact hP
  replace hD : va_D A ([(h0, .inr (13, mfs f45)), (q3, .inl (gc g 2, 10, .inl (fun _ => 0))), (q5, .inl (gc g 0, 10, .inl (fun _ => 0))), (q21, .inl (gc g 0, 3, .inl (fun _ => 0))), (q32, .inl (gc g 0, 12, .inl (fun _ => 0)))] ++ T41) := by rw [hT41]; exact hD
  refine lv_aload_n hC.1 hC.2.1 dX12_init_371 rfl (lv_at hl 0 rfl) ?_
  refine lv_iload_n hC.1 hC.2.1 dX12_init_372 rfl (lv_at hl 1 rfl) ?_
  refine lv_iconst (v := (4 : Int32)) hC.1 hC.2.1 dX12_init_373 (by decide) ?_
  refine lv_bipush (v := (12 : Int32)) hC.1 hC.2.1 dX12_init_374 (by decide) ?_
  refine tcallS (As := [.int x1, .int (4 : Int32), .int (12 : Int32)]) (rest := [.ref h0]) hC hE hml hP hD hS hA hAg (l_between x1 (4 : Int32) (12 : Int32) _ ) ⟨wd_1119, wd_1120, wd_17, wd_1121⟩ hd_X12_between rfl rfl ⟨Nat.le_of_ble_eq_true rfl, Nat.le_of_ble_eq_true rfl⟩ rfl hl.1 rfl (Nat.le_of_ble_eq_true rfl) dX12_init_376 ⟨Nat.le_of_ble_eq_true rfl, Nat.le_of_ble_eq_true rfl⟩ [0, 1, 2, 3, 4] rfl (by decide) (fun H locs hP9 hD9 hS9 => ?_)
  clear hP hD hS
  have hP := hP9
  have hD := hD9
  have hS := hS9
  clear hP9 hD9 hS9
  refine W.eq (g2 := F0 m 379 ls [.int (btw x1 (4 : Int32) (12 : Int32)), .ref h0]) rfl ?_
  refine mp_put hC (hnm.trans rfl) hP hD hS 0 (by decide) wd_1122 rfl rfl (ty := .int) (by decide +kernel) rfl rfl dX12_init_379 (fun H locs hP9 hD9 hS9 => ?_)
  clear hP hD hS
  have hP := hP9
  have hD := hD9
  have hS := hS9
  clear hP9 hD9 hS9
  obtain ⟨f46, hf46⟩ : ∃ z, z = va_up f45 0 (.int (btw x1 (4 : Int32) (12 : Int32))) := ⟨_, rfl⟩
  rw [← hf46] at hP hD
  replace hP : va_P (gD g) vwCl ([(h0, .inr (13, mfs f46)), (q3, .inl (gc g 2, 10, .inl (fun _ => 0))), (q5, .inl (gc g 0, 10, .inl (fun _ => 0))), (q21, .inl (gc g 0, 3, .inl (fun _ => 0))), (q32, .inl (gc g 0, 12, .inl (fun _ => 0)))] ++ T41) H := hP
  replace hD : va_D A ([(h0, .inr (13, mfs f46)), (q3, .inl (gc g 2, 10, .inl (fun _ => 0))), (q5, .inl (gc g 0, 10, .inl (fun _ => 0))), (q21, .inl (gc g 0, 3, .inl (fun _ => 0))), (q32, .inl (gc g 0, 12, .inl (fun _ => 0)))] ++ T41) := hD
  refine lv_aload_n hC.1 hC.2.1 dX12_init_382 rfl (lv_at hl 0 rfl) ?_
  refine lv_iload_n hC.1 hC.2.1 dX12_init_383 rfl (lv_at hl 2 rfl) ?_
  refine lv_iconst (v := (1 : Int32)) hC.1 hC.2.1 dX12_init_384 (by decide) ?_
  refine lv_bipush (v := (6 : Int32)) hC.1 hC.2.1 dX12_init_385 (by decide) ?_
  refine tcallS (As := [.int x2, .int (1 : Int32), .int (6 : Int32)]) (rest := [.ref h0]) hC hE hml hP hD hS hA hAg (l_between x2 (1 : Int32) (6 : Int32) _ ) ⟨wd_1119, wd_1120, wd_17, wd_1121⟩ hd_X12_between rfl rfl ⟨Nat.le_of_ble_eq_true rfl, Nat.le_of_ble_eq_true rfl⟩ rfl hl.1 rfl (Nat.le_of_ble_eq_true rfl) dX12_init_387 ⟨Nat.le_of_ble_eq_true rfl, Nat.le_of_ble_eq_true rfl⟩ [0, 1, 2, 3, 4] rfl (by decide) (fun H locs hP9 hD9 hS9 => ?_)
  clear hP hD hS
  have hP := hP9
  have hD := hD9
  have hS := hS9
  clear hP9 hD9 hS9
  refine W.eq (g2 := F0 m 390 ls [.int (btw x2 (1 : Int32) (6 : Int32)), .ref h0]) rfl ?_
  refine mp_put hC (hnm.trans rfl) hP hD hS 1 (by decide) wd_1123 rfl rfl (ty := .int) (by decide +kernel) rfl rfl dX12_init_390 (fun H locs hP9 hD9 hS9 => ?_)
  clear hP hD hS
  have hP := hP9
  have hD := hD9
  have hS := hS9
  clear hP9 hD9 hS9
  obtain ⟨f47, hf47⟩ : ∃ z, z = va_up f46 1 (.int (btw x2 (1 : Int32) (6 : Int32))) := ⟨_, rfl⟩
  rw [← hf47] at hP hD
  replace hP : va_P (gD g) vwCl ([(h0, .inr (13, mfs f47)), (q3, .inl (gc g 2, 10, .inl (fun _ => 0))), (q5, .inl (gc g 0, 10, .inl (fun _ => 0))), (q21, .inl (gc g 0, 3, .inl (fun _ => 0))), (q32, .inl (gc g 0, 12, .inl (fun _ => 0)))] ++ T41) H := hP
  replace hD : va_D A ([(h0, .inr (13, mfs f47)), (q3, .inl (gc g 2, 10, .inl (fun _ => 0))), (q5, .inl (gc g 0, 10, .inl (fun _ => 0))), (q21, .inl (gc g 0, 3, .inl (fun _ => 0))), (q32, .inl (gc g 0, 12, .inl (fun _ => 0)))] ++ T41) := hD
  refine lv_aload_n hC.1 hC.2.1 dX12_init_393 rfl (lv_at hl 0 rfl) ?_
  refine lv_iload_n hC.1 hC.2.1 dX12_init_394 rfl (lv_at hl 3 rfl) ?_
  refine lv_iconst (v := (1 : Int32)) hC.1 hC.2.1 dX12_init_395 (by decide) ?_
  refine lv_bipush (v := (9 : Int32)) hC.1 hC.2.1 dX12_init_396 (by decide) ?_
  refine tcallS (As := [.int x3, .int (1 : Int32), .int (9 : Int32)]) (rest := [.ref h0]) hC hE hml hP hD hS hA hAg (l_between x3 (1 : Int32) (9 : Int32) _ ) ⟨wd_1119, wd_1120, wd_17, wd_1121⟩ hd_X12_between rfl rfl ⟨Nat.le_of_ble_eq_true rfl, Nat.le_of_ble_eq_true rfl⟩ rfl hl.1 rfl (Nat.le_of_ble_eq_true rfl) dX12_init_398 ⟨Nat.le_of_ble_eq_true rfl, Nat.le_of_ble_eq_true rfl⟩ [0, 1, 2, 3, 4] rfl (by decide) (fun H locs hP9 hD9 hS9 => ?_)
  clear hP hD hS
  have hP := hP9
  have hD := hD9
  have hS := hS9
  clear hP9 hD9 hS9
  refine W.eq (g2 := F0 m 401 ls [.int (btw x3 (1 : Int32) (9 : Int32)), .ref h0]) rfl ?_
  refine mp_put hC (hnm.trans rfl) hP hD hS 2 (by decide) wd_1124 rfl rfl (ty := .int) (by decide +kernel) rfl rfl dX12_init_401 (fun H locs hP9 hD9 hS9 => ?_)
  clear hP hD hS
  have hP := hP9
  have hD := hD9
  have hS := hS9
  clear hP9 hD9 hS9
  obtain ⟨f48, hf48⟩ : ∃ z, z = va_up f47 2 (.int (btw x3 (1 : Int32) (9 : Int32))) := ⟨_, rfl⟩
  rw [← hf48] at hP hD
  replace hP : va_P (gD g) vwCl ([(h0, .inr (13, mfs f48)), (q3, .inl (gc g 2, 10, .inl (fun _ => 0))), (q5, .inl (gc g 0, 10, .inl (fun _ => 0))), (q21, .inl (gc g 0, 3, .inl (fun _ => 0))), (q32, .inl (gc g 0, 12, .inl (fun _ => 0)))] ++ T41) H := hP
  replace hD : va_D A ([(h0, .inr (13, mfs f48)), (q3, .inl (gc g 2, 10, .inl (fun _ => 0))), (q5, .inl (gc g 0, 10, .inl (fun _ => 0))), (q21, .inl (gc g 0, 3, .inl (fun _ => 0))), (q32, .inl (gc g 0, 12, .inl (fun _ => 0)))] ++ T41) := hD
  refine lv_iconst (v := (0 : Int32)) hC.1 hC.2.1 dX12_init_404 (by decide) ?_
  refine lv_istore (lv' := [(4, .int (0 : Int32)), (0, .ref h0), (1, .int x1), (2, .int x2), (3, .int x3)]) hC.1 hC.2.1 dX12_init_405 hl (by decide) rfl (fun ls hl => ?_)
  refine lv_iload hC.1 hC.2.1 dX12_init_407 (lv_at hl 0 rfl) ?_
  refine lv_bipush (v := (12 : Int32)) hC.1 hC.2.1 dX12_init_409 (by decide) ?_
  refine lv_icmp_ge (tgt := 428) hC.1 hC.2.1 dX12_init_411 (by decide) (fun hc => absurd hc (by decide)) (fun _ => ?_)
  refine lv_aload_n hC.1 hC.2.1 dX12_init_414 rfl (lv_at hl 1 rfl) ?_
  refine mp_get hC hP 39 (by decide) wd_1161 (v := .ref q32) (by simp [hf48, hf47, hf46, hf45, hf44, hf43, hf42, hf41, hf40, hf39, hf38, hf37, hf36, hf35, hf34, hf33, hf32, va_up]) dX12_init_415 ?_
  refine lv_iload hC.1 hC.2.1 dX12_init_418 (lv_at hl 0 rfl) ?_
  refine lv_iconst (v := (-1 : Int32)) hC.1 hC.2.1 dX12_init_420 (by decide) ?_
  refine va_iast hC.1 hC.2.1 hC.2.2.2.2.1 hP hD hS 4 0 rfl rfl (inb_in (by decide)) dX12_init_421 (fun H locs hP9 hD9 hS9 => ?_)
  clear hP hD hS
  have hP := hP9
  have hD := hD9
  have hS := hS9
  clear hP9 hD9 hS9
  replace hP : va_P (gD g) vwCl ([(h0, .inr (13, mfs f48)), (q3, .inl (gc g 2, 10, .inl (fun _ => 0))), (q5, .inl (gc g 0, 10, .inl (fun _ => 0))), (q21, .inl (gc g 0, 3, .inl (fun _ => 0))), (q32, .inl (gc g 0, 12, .inl (upd (fun _ => 0) 0 (-1 : Int32))))] ++ T41) H := hP
  replace hD : va_D A ([(h0, .inr (13, mfs f48)), (q3, .inl (gc g 2, 10, .inl (fun _ => 0))), (q5, .inl (gc g 0, 10, .inl (fun _ => 0))), (q21, .inl (gc g 0, 3, .inl (fun _ => 0))), (q32, .inl (gc g 0, 12, .inl (upd (fun _ => 0) 0 (-1 : Int32))))] ++ T41) := hD
  refine lv_iinc (v := (1 : Int32)) (lv' := [(4, .int (1 : Int32)), (0, .ref h0), (1, .int x1), (2, .int x2), (3, .int x3)]) hC.1 hC.2.1 dX12_init_422 hl (k := 0) rfl (by decide) (by decide) rfl (fun ls hl => ?_)
  refine lv_goto (tgt := 407) hC.1 hC.2.1 dX12_init_425 (by decide) ?_
  refine lv_iload hC.1 hC.2.1 dX12_init_407 (lv_at hl 0 rfl) ?_
  refine lv_bipush (v := (12 : Int32)) hC.1 hC.2.1 dX12_init_409 (by decide) ?_
  refine lv_icmp_ge (tgt := 428) hC.1 hC.2.1 dX12_init_411 (by decide) (fun hc => absurd hc (by decide)) (fun _ => ?_)
  refine lv_aload_n hC.1 hC.2.1 dX12_init_414 rfl (lv_at hl 1 rfl) ?_
  refine mp_get hC hP 39 (by decide) wd_1161 (v := .ref q32) (by simp [hf48, hf47, hf46, hf45, hf44, hf43, hf42, hf41, hf40, hf39, hf38, hf37, hf36, hf35, hf34, hf33, hf32, va_up]) dX12_init_415 ?_
  refine lv_iload hC.1 hC.2.1 dX12_init_418 (lv_at hl 0 rfl) ?_
  refine lv_iconst (v := (-1 : Int32)) hC.1 hC.2.1 dX12_init_420 (by decide) ?_
  refine va_iast hC.1 hC.2.1 hC.2.2.2.2.1 hP hD hS 4 0 rfl rfl (inb_in (by decide)) dX12_init_421 (fun H locs hP9 hD9 hS9 => ?_)
  clear hP hD hS
  have hP := hP9
  have hD := hD9
  have hS := hS9
  clear hP9 hD9 hS9
  replace hP : va_P (gD g) vwCl ([(h0, .inr (13, mfs f48)), (q3, .inl (gc g 2, 10, .inl (fun _ => 0))), (q5, .inl (gc g 0, 10, .inl (fun _ => 0))), (q21, .inl (gc g 0, 3, .inl (fun _ => 0))), (q32, .inl (gc g 0, 12, .inl (upd (upd (fun _ => 0) 0 (-1 : Int32)) 1 (-1 : Int32))))] ++ T41) H := hP
  replace hD : va_D A ([(h0, .inr (13, mfs f48)), (q3, .inl (gc g 2, 10, .inl (fun _ => 0))), (q5, .inl (gc g 0, 10, .inl (fun _ => 0))), (q21, .inl (gc g 0, 3, .inl (fun _ => 0))), (q32, .inl (gc g 0, 12, .inl (upd (upd (fun _ => 0) 0 (-1 : Int32)) 1 (-1 : Int32))))] ++ T41) := hD
  refine lv_iinc (v := (2 : Int32)) (lv' := [(4, .int (2 : Int32)), (0, .ref h0), (1, .int x1), (2, .int x2), (3, .int x3)]) hC.1 hC.2.1 dX12_init_422 hl (k := 0) rfl (by decide) (by decide) rfl (fun ls hl => ?_)
  refine lv_goto (tgt := 407) hC.1 hC.2.1 dX12_init_425 (by decide) ?_
  refine lv_iload hC.1 hC.2.1 dX12_init_407 (lv_at hl 0 rfl) ?_
  refine lv_bipush (v := (12 : Int32)) hC.1 hC.2.1 dX12_init_409 (by decide) ?_
  refine lv_icmp_ge (tgt := 428) hC.1 hC.2.1 dX12_init_411 (by decide) (fun hc => absurd hc (by decide)) (fun _ => ?_)
  refine lv_aload_n hC.1 hC.2.1 dX12_init_414 rfl (lv_at hl 1 rfl) ?_
  refine mp_get hC hP 39 (by decide) wd_1161 (v := .ref q32) (by simp [hf48, hf47, hf46, hf45, hf44, hf43, hf42, hf41, hf40, hf39, hf38, hf37, hf36, hf35, hf34, hf33, hf32, va_up]) dX12_init_415 ?_
  refine lv_iload hC.1 hC.2.1 dX12_init_418 (lv_at hl 0 rfl) ?_
  refine lv_iconst (v := (-1 : Int32)) hC.1 hC.2.1 dX12_init_420 (by decide) ?_
  refine va_iast hC.1 hC.2.1 hC.2.2.2.2.1 hP hD hS 4 0 rfl rfl (inb_in (by decide)) dX12_init_421 (fun H locs hP9 hD9 hS9 => ?_)
  clear hP hD hS
  have hP := hP9
  have hD := hD9
  have hS := hS9
  clear hP9 hD9 hS9
  replace hP : va_P (gD g) vwCl ([(h0, .inr (13, mfs f48)), (q3, .inl (gc g 2, 10, .inl (fun _ => 0))), (q5, .inl (gc g 0, 10, .inl (fun _ => 0))), (q21, .inl (gc g 0, 3, .inl (fun _ => 0))), (q32, .inl (gc g 0, 12, .inl (upd (upd (upd (fun _ => 0) 0 (-1 : Int32)) 1 (-1 : Int32)) 2 (-1 : Int32))))] ++ T41) H := hP
  replace hD : va_D A ([(h0, .inr (13, mfs f48)), (q3, .inl (gc g 2, 10, .inl (fun _ => 0))), (q5, .inl (gc g 0, 10, .inl (fun _ => 0))), (q21, .inl (gc g 0, 3, .inl (fun _ => 0))), (q32, .inl (gc g 0, 12, .inl (upd (upd (upd (fun _ => 0) 0 (-1 : Int32)) 1 (-1 : Int32)) 2 (-1 : Int32))))] ++ T41) := hD
  refine lv_iinc (v := (3 : Int32)) (lv' := [(4, .int (3 : Int32)), (0, .ref h0), (1, .int x1), (2, .int x2), (3, .int x3)]) hC.1 hC.2.1 dX12_init_422 hl (k := 0) rfl (by decide) (by decide) rfl (fun ls hl => ?_)
  refine lv_goto (tgt := 407) hC.1 hC.2.1 dX12_init_425 (by decide) ?_
  refine lv_iload hC.1 hC.2.1 dX12_init_407 (lv_at hl 0 rfl) ?_
  refine lv_bipush (v := (12 : Int32)) hC.1 hC.2.1 dX12_init_409 (by decide) ?_
  refine lv_icmp_ge (tgt := 428) hC.1 hC.2.1 dX12_init_411 (by decide) (fun hc => absurd hc (by decide)) (fun _ => ?_)
  refine lv_aload_n hC.1 hC.2.1 dX12_init_414 rfl (lv_at hl 1 rfl) ?_
  refine mp_get hC hP 39 (by decide) wd_1161 (v := .ref q32) (by simp [hf48, hf47, hf46, hf45, hf44, hf43, hf42, hf41, hf40, hf39, hf38, hf37, hf36, hf35, hf34, hf33, hf32, va_up]) dX12_init_415 ?_
  refine lv_iload hC.1 hC.2.1 dX12_init_418 (lv_at hl 0 rfl) ?_
  refine lv_iconst (v := (-1 : Int32)) hC.1 hC.2.1 dX12_init_420 (by decide) ?_
  refine va_iast hC.1 hC.2.1 hC.2.2.2.2.1 hP hD hS 4 0 rfl rfl (inb_in (by decide)) dX12_init_421 (fun H locs hP9 hD9 hS9 => ?_)
  clear hP hD hS
  have hP := hP9
  have hD := hD9
  have hS := hS9
  clear hP9 hD9 hS9
  replace hP : va_P (gD g) vwCl ([(h0, .inr (13, mfs f48)), (q3, .inl (gc g 2, 10, .inl (fun _ => 0))), (q5, .inl (gc g 0, 10, .inl (fun _ => 0))), (q21, .inl (gc g 0, 3, .inl (fun _ => 0))), (q32, .inl (gc g 0, 12, .inl (upd (upd (upd (upd (fun _ => 0) 0 (-1 : Int32)) 1 (-1 : Int32)) 2 (-1 : Int32)) 3 (-1 : Int32))))] ++ T41) H := hP
  replace hD : va_D A ([(h0, .inr (13, mfs f48)), (q3, .inl (gc g 2, 10, .inl (fun _ => 0))), (q5, .inl (gc g 0, 10, .inl (fun _ => 0))), (q21, .inl (gc g 0, 3, .inl (fun _ => 0))), (q32, .inl (gc g 0, 12, .inl (upd (upd (upd (upd (fun _ => 0) 0 (-1 : Int32)) 1 (-1 : Int32)) 2 (-1 : Int32)) 3 (-1 : Int32))))] ++ T41) := hD
  refine lv_iinc (v := (4 : Int32)) (lv' := [(4, .int (4 : Int32)), (0, .ref h0), (1, .int x1), (2, .int x2), (3, .int x3)]) hC.1 hC.2.1 dX12_init_422 hl (k := 0) rfl (by decide) (by decide) rfl (fun ls hl => ?_)
  refine lv_goto (tgt := 407) hC.1 hC.2.1 dX12_init_425 (by decide) ?_
  refine lv_iload hC.1 hC.2.1 dX12_init_407 (lv_at hl 0 rfl) ?_
  refine lv_bipush (v := (12 : Int32)) hC.1 hC.2.1 dX12_init_409 (by decide) ?_
  refine lv_icmp_ge (tgt := 428) hC.1 hC.2.1 dX12_init_411 (by decide) (fun hc => absurd hc (by decide)) (fun _ => ?_)
  refine lv_aload_n hC.1 hC.2.1 dX12_init_414 rfl (lv_at hl 1 rfl) ?_
  refine mp_get hC hP 39 (by decide) wd_1161 (v := .ref q32) (by simp [hf48, hf47, hf46, hf45, hf44, hf43, hf42, hf41, hf40, hf39, hf38, hf37, hf36, hf35, hf34, hf33, hf32, va_up]) dX12_init_415 ?_
  refine lv_iload hC.1 hC.2.1 dX12_init_418 (lv_at hl 0 rfl) ?_
  refine lv_iconst (v := (-1 : Int32)) hC.1 hC.2.1 dX12_init_420 (by decide) ?_
  refine va_iast hC.1 hC.2.1 hC.2.2.2.2.1 hP hD hS 4 0 rfl rfl (inb_in (by decide)) dX12_init_421 (fun H locs hP9 hD9 hS9 => ?_)
  clear hP hD hS
  have hP := hP9
  have hD := hD9
  have hS := hS9
  clear hP9 hD9 hS9
  replace hP : va_P (gD g) vwCl ([(h0, .inr (13, mfs f48)), (q3, .inl (gc g 2, 10, .inl (fun _ => 0))), (q5, .inl (gc g 0, 10, .inl (fun _ => 0))), (q21, .inl (gc g 0, 3, .inl (fun _ => 0))), (q32, .inl (gc g 0, 12, .inl (upd (upd (upd (upd (upd (fun _ => 0) 0 (-1 : Int32)) 1 (-1 : Int32)) 2 (-1 : Int32)) 3 (-1 : Int32)) 4 (-1 : Int32))))] ++ T41) H := hP
  replace hD : va_D A ([(h0, .inr (13, mfs f48)), (q3, .inl (gc g 2, 10, .inl (fun _ => 0))), (q5, .inl (gc g 0, 10, .inl (fun _ => 0))), (q21, .inl (gc g 0, 3, .inl (fun _ => 0))), (q32, .inl (gc g 0, 12, .inl (upd (upd (upd (upd (upd (fun _ => 0) 0 (-1 : Int32)) 1 (-1 : Int32)) 2 (-1 : Int32)) 3 (-1 : Int32)) 4 (-1 : Int32))))] ++ T41) := hD
  refine lv_iinc (v := (5 : Int32)) (lv' := [(4, .int (5 : Int32)), (0, .ref h0), (1, .int x1), (2, .int x2), (3, .int x3)]) hC.1 hC.2.1 dX12_init_422 hl (k := 0) rfl (by decide) (by decide) rfl (fun ls hl => ?_)
  refine lv_goto (tgt := 407) hC.1 hC.2.1 dX12_init_425 (by decide) ?_
  refine lv_iload hC.1 hC.2.1 dX12_init_407 (lv_at hl 0 rfl) ?_
  refine lv_bipush (v := (12 : Int32)) hC.1 hC.2.1 dX12_init_409 (by decide) ?_
  refine lv_icmp_ge (tgt := 428) hC.1 hC.2.1 dX12_init_411 (by decide) (fun hc => absurd hc (by decide)) (fun _ => ?_)
  refine lv_aload_n hC.1 hC.2.1 dX12_init_414 rfl (lv_at hl 1 rfl) ?_
  refine mp_get hC hP 39 (by decide) wd_1161 (v := .ref q32) (by simp [hf48, hf47, hf46, hf45, hf44, hf43, hf42, hf41, hf40, hf39, hf38, hf37, hf36, hf35, hf34, hf33, hf32, va_up]) dX12_init_415 ?_
  refine lv_iload hC.1 hC.2.1 dX12_init_418 (lv_at hl 0 rfl) ?_
  refine lv_iconst (v := (-1 : Int32)) hC.1 hC.2.1 dX12_init_420 (by decide) ?_
  refine va_iast hC.1 hC.2.1 hC.2.2.2.2.1 hP hD hS 4 0 rfl rfl (inb_in (by decide)) dX12_init_421 (fun H locs hP9 hD9 hS9 => ?_)
  clear hP hD hS
  have hP := hP9
  have hD := hD9
  have hS := hS9
  clear hP9 hD9 hS9
  replace hP : va_P (gD g) vwCl ([(h0, .inr (13, mfs f48)), (q3, .inl (gc g 2, 10, .inl (fun _ => 0))), (q5, .inl (gc g 0, 10, .inl (fun _ => 0))), (q21, .inl (gc g 0, 3, .inl (fun _ => 0))), (q32, .inl (gc g 0, 12, .inl (upd (upd (upd (upd (upd (upd (fun _ => 0) 0 (-1 : Int32)) 1 (-1 : Int32)) 2 (-1 : Int32)) 3 (-1 : Int32)) 4 (-1 : Int32)) 5 (-1 : Int32))))] ++ T41) H := hP
  replace hD : va_D A ([(h0, .inr (13, mfs f48)), (q3, .inl (gc g 2, 10, .inl (fun _ => 0))), (q5, .inl (gc g 0, 10, .inl (fun _ => 0))), (q21, .inl (gc g 0, 3, .inl (fun _ => 0))), (q32, .inl (gc g 0, 12, .inl (upd (upd (upd (upd (upd (upd (fun _ => 0) 0 (-1 : Int32)) 1 (-1 : Int32)) 2 (-1 : Int32)) 3 (-1 : Int32)) 4 (-1 : Int32)) 5 (-1 : Int32))))] ++ T41) := hD
  refine lv_iinc (v := (6 : Int32)) (lv' := [(4, .int (6 : Int32)), (0, .ref h0), (1, .int x1), (2, .int x2), (3, .int x3)]) hC.1 hC.2.1 dX12_init_422 hl (k := 0) rfl (by decide) (by decide) rfl (fun ls hl => ?_)
  refine lv_goto (tgt := 407) hC.1 hC.2.1 dX12_init_425 (by decide) ?_
  refine lv_iload hC.1 hC.2.1 dX12_init_407 (lv_at hl 0 rfl) ?_
  refine lv_bipush (v := (12 : Int32)) hC.1 hC.2.1 dX12_init_409 (by decide) ?_
  refine lv_icmp_ge (tgt := 428) hC.1 hC.2.1 dX12_init_411 (by decide) (fun hc => absurd hc (by decide)) (fun _ => ?_)
  refine lv_aload_n hC.1 hC.2.1 dX12_init_414 rfl (lv_at hl 1 rfl) ?_
  refine mp_get hC hP 39 (by decide) wd_1161 (v := .ref q32) (by simp [hf48, hf47, hf46, hf45, hf44, hf43, hf42, hf41, hf40, hf39, hf38, hf37, hf36, hf35, hf34, hf33, hf32, va_up]) dX12_init_415 ?_
  refine lv_iload hC.1 hC.2.1 dX12_init_418 (lv_at hl 0 rfl) ?_
  refine lv_iconst (v := (-1 : Int32)) hC.1 hC.2.1 dX12_init_420 (by decide) ?_
  refine va_iast hC.1 hC.2.1 hC.2.2.2.2.1 hP hD hS 4 0 rfl rfl (inb_in (by decide)) dX12_init_421 (fun H locs hP9 hD9 hS9 => ?_)
  clear hP hD hS
  have hP := hP9
  have hD := hD9
  have hS := hS9
  clear hP9 hD9 hS9
  replace hP : va_P (gD g) vwCl ([(h0, .inr (13, mfs f48)), (q3, .inl (gc g 2, 10, .inl (fun _ => 0))), (q5, .inl (gc g 0, 10, .inl (fun _ => 0))), (q21, .inl (gc g 0, 3, .inl (fun _ => 0))), (q32, .inl (gc g 0, 12, .inl (upd (upd (upd (upd (upd (upd (upd (fun _ => 0) 0 (-1 : Int32)) 1 (-1 : Int32)) 2 (-1 : Int32)) 3 (-1 : Int32)) 4 (-1 : Int32)) 5 (-1 : Int32)) 6 (-1 : Int32))))] ++ T41) H := hP
  replace hD : va_D A ([(h0, .inr (13, mfs f48)), (q3, .inl (gc g 2, 10, .inl (fun _ => 0))), (q5, .inl (gc g 0, 10, .inl (fun _ => 0))), (q21, .inl (gc g 0, 3, .inl (fun _ => 0))), (q32, .inl (gc g 0, 12, .inl (upd (upd (upd (upd (upd (upd (upd (fun _ => 0) 0 (-1 : Int32)) 1 (-1 : Int32)) 2 (-1 : Int32)) 3 (-1 : Int32)) 4 (-1 : Int32)) 5 (-1 : Int32)) 6 (-1 : Int32))))] ++ T41) := hD
  refine lv_iinc (v := (7 : Int32)) (lv' := [(4, .int (7 : Int32)), (0, .ref h0), (1, .int x1), (2, .int x2), (3, .int x3)]) hC.1 hC.2.1 dX12_init_422 hl (k := 0) rfl (by decide) (by decide) rfl (fun ls hl => ?_)
  refine lv_goto (tgt := 407) hC.1 hC.2.1 dX12_init_425 (by decide) ?_
  refine lv_iload hC.1 hC.2.1 dX12_init_407 (lv_at hl 0 rfl) ?_
  refine lv_bipush (v := (12 : Int32)) hC.1 hC.2.1 dX12_init_409 (by decide) ?_
  refine lv_icmp_ge (tgt := 428) hC.1 hC.2.1 dX12_init_411 (by decide) (fun hc => absurd hc (by decide)) (fun _ => ?_)
  refine lv_aload_n hC.1 hC.2.1 dX12_init_414 rfl (lv_at hl 1 rfl) ?_
  refine mp_get hC hP 39 (by decide) wd_1161 (v := .ref q32) (by simp [hf48, hf47, hf46, hf45, hf44, hf43, hf42, hf41, hf40, hf39, hf38, hf37, hf36, hf35, hf34, hf33, hf32, va_up]) dX12_init_415 ?_
  refine lv_iload hC.1 hC.2.1 dX12_init_418 (lv_at hl 0 rfl) ?_
  refine lv_iconst (v := (-1 : Int32)) hC.1 hC.2.1 dX12_init_420 (by decide) ?_
  refine va_iast hC.1 hC.2.1 hC.2.2.2.2.1 hP hD hS 4 0 rfl rfl (inb_in (by decide)) dX12_init_421 (fun H locs hP9 hD9 hS9 => ?_)
  clear hP hD hS
  have hP := hP9
  have hD := hD9
  have hS := hS9
  clear hP9 hD9 hS9
  replace hP : va_P (gD g) vwCl ([(h0, .inr (13, mfs f48)), (q3, .inl (gc g 2, 10, .inl (fun _ => 0))), (q5, .inl (gc g 0, 10, .inl (fun _ => 0))), (q21, .inl (gc g 0, 3, .inl (fun _ => 0))), (q32, .inl (gc g 0, 12, .inl (upd (upd (upd (upd (upd (upd (upd (upd (fun _ => 0) 0 (-1 : Int32)) 1 (-1 : Int32)) 2 (-1 : Int32)) 3 (-1 : Int32)) 4 (-1 : Int32)) 5 (-1 : Int32)) 6 (-1 : Int32)) 7 (-1 : Int32))))] ++ T41) H := hP
  replace hD : va_D A ([(h0, .inr (13, mfs f48)), (q3, .inl (gc g 2, 10, .inl (fun _ => 0))), (q5, .inl (gc g 0, 10, .inl (fun _ => 0))), (q21, .inl (gc g 0, 3, .inl (fun _ => 0))), (q32, .inl (gc g 0, 12, .inl (upd (upd (upd (upd (upd (upd (upd (upd (fun _ => 0) 0 (-1 : Int32)) 1 (-1 : Int32)) 2 (-1 : Int32)) 3 (-1 : Int32)) 4 (-1 : Int32)) 5 (-1 : Int32)) 6 (-1 : Int32)) 7 (-1 : Int32))))] ++ T41) := hD
  refine lv_iinc (v := (8 : Int32)) (lv' := [(4, .int (8 : Int32)), (0, .ref h0), (1, .int x1), (2, .int x2), (3, .int x3)]) hC.1 hC.2.1 dX12_init_422 hl (k := 0) rfl (by decide) (by decide) rfl (fun ls hl => ?_)
  refine lv_goto (tgt := 407) hC.1 hC.2.1 dX12_init_425 (by decide) ?_
  refine lv_iload hC.1 hC.2.1 dX12_init_407 (lv_at hl 0 rfl) ?_
  refine lv_bipush (v := (12 : Int32)) hC.1 hC.2.1 dX12_init_409 (by decide) ?_
  refine lv_icmp_ge (tgt := 428) hC.1 hC.2.1 dX12_init_411 (by decide) (fun hc => absurd hc (by decide)) (fun _ => ?_)
  refine lv_aload_n hC.1 hC.2.1 dX12_init_414 rfl (lv_at hl 1 rfl) ?_
  refine mp_get hC hP 39 (by decide) wd_1161 (v := .ref q32) (by simp [hf48, hf47, hf46, hf45, hf44, hf43, hf42, hf41, hf40, hf39, hf38, hf37, hf36, hf35, hf34, hf33, hf32, va_up]) dX12_init_415 ?_
  refine lv_iload hC.1 hC.2.1 dX12_init_418 (lv_at hl 0 rfl) ?_
  refine lv_iconst (v := (-1 : Int32)) hC.1 hC.2.1 dX12_init_420 (by decide) ?_
  refine va_iast hC.1 hC.2.1 hC.2.2.2.2.1 hP hD hS 4 0 rfl rfl (inb_in (by decide)) dX12_init_421 (fun H locs hP9 hD9 hS9 => ?_)
  clear hP hD hS
  have hP := hP9
  have hD := hD9
  have hS := hS9
  clear hP9 hD9 hS9
  replace hP : va_P (gD g) vwCl ([(h0, .inr (13, mfs f48)), (q3, .inl (gc g 2, 10, .inl (fun _ => 0))), (q5, .inl (gc g 0, 10, .inl (fun _ => 0))), (q21, .inl (gc g 0, 3, .inl (fun _ => 0))), (q32, .inl (gc g 0, 12, .inl (upd (upd (upd (upd (upd (upd (upd (upd (upd (fun _ => 0) 0 (-1 : Int32)) 1 (-1 : Int32)) 2 (-1 : Int32)) 3 (-1 : Int32)) 4 (-1 : Int32)) 5 (-1 : Int32)) 6 (-1 : Int32)) 7 (-1 : Int32)) 8 (-1 : Int32))))] ++ T41) H := hP
  replace hD : va_D A ([(h0, .inr (13, mfs f48)), (q3, .inl (gc g 2, 10, .inl (fun _ => 0))), (q5, .inl (gc g 0, 10, .inl (fun _ => 0))), (q21, .inl (gc g 0, 3, .inl (fun _ => 0))), (q32, .inl (gc g 0, 12, .inl (upd (upd (upd (upd (upd (upd (upd (upd (upd (fun _ => 0) 0 (-1 : Int32)) 1 (-1 : Int32)) 2 (-1 : Int32)) 3 (-1 : Int32)) 4 (-1 : Int32)) 5 (-1 : Int32)) 6 (-1 : Int32)) 7 (-1 : Int32)) 8 (-1 : Int32))))] ++ T41) := hD
  refine lv_iinc (v := (9 : Int32)) (lv' := [(4, .int (9 : Int32)), (0, .ref h0), (1, .int x1), (2, .int x2), (3, .int x3)]) hC.1 hC.2.1 dX12_init_422 hl (k := 0) rfl (by decide) (by decide) rfl (fun ls hl => ?_)
  refine lv_goto (tgt := 407) hC.1 hC.2.1 dX12_init_425 (by decide) ?_
  refine lv_iload hC.1 hC.2.1 dX12_init_407 (lv_at hl 0 rfl) ?_
  refine lv_bipush (v := (12 : Int32)) hC.1 hC.2.1 dX12_init_409 (by decide) ?_
  refine lv_icmp_ge (tgt := 428) hC.1 hC.2.1 dX12_init_411 (by decide) (fun hc => absurd hc (by decide)) (fun _ => ?_)
  refine lv_aload_n hC.1 hC.2.1 dX12_init_414 rfl (lv_at hl 1 rfl) ?_
  refine mp_get hC hP 39 (by decide) wd_1161 (v := .ref q32) (by simp [hf48, hf47, hf46, hf45, hf44, hf43, hf42, hf41, hf40, hf39, hf38, hf37, hf36, hf35, hf34, hf33, hf32, va_up]) dX12_init_415 ?_
  refine lv_iload hC.1 hC.2.1 dX12_init_418 (lv_at hl 0 rfl) ?_
  refine lv_iconst (v := (-1 : Int32)) hC.1 hC.2.1 dX12_init_420 (by decide) ?_
  refine va_iast hC.1 hC.2.1 hC.2.2.2.2.1 hP hD hS 4 0 rfl rfl (inb_in (by decide)) dX12_init_421 (fun H locs hP9 hD9 hS9 => ?_)
  clear hP hD hS
  have hP := hP9
  have hD := hD9
  have hS := hS9
  clear hP9 hD9 hS9
  replace hP : va_P (gD g) vwCl ([(h0, .inr (13, mfs f48)), (q3, .inl (gc g 2, 10, .inl (fun _ => 0))), (q5, .inl (gc g 0, 10, .inl (fun _ => 0))), (q21, .inl (gc g 0, 3, .inl (fun _ => 0))), (q32, .inl (gc g 0, 12, .inl (upd (upd (upd (upd (upd (upd (upd (upd (upd (upd (fun _ => 0) 0 (-1 : Int32)) 1 (-1 : Int32)) 2 (-1 : Int32)) 3 (-1 : Int32)) 4 (-1 : Int32)) 5 (-1 : Int32)) 6 (-1 : Int32)) 7 (-1 : Int32)) 8 (-1 : Int32)) 9 (-1 : Int32))))] ++ T41) H := hP
  replace hD : va_D A ([(h0, .inr (13, mfs f48)), (q3, .inl (gc g 2, 10, .inl (fun _ => 0))), (q5, .inl (gc g 0, 10, .inl (fun _ => 0))), (q21, .inl (gc g 0, 3, .inl (fun _ => 0))), (q32, .inl (gc g 0, 12, .inl (upd (upd (upd (upd (upd (upd (upd (upd (upd (upd (fun _ => 0) 0 (-1 : Int32)) 1 (-1 : Int32)) 2 (-1 : Int32)) 3 (-1 : Int32)) 4 (-1 : Int32)) 5 (-1 : Int32)) 6 (-1 : Int32)) 7 (-1 : Int32)) 8 (-1 : Int32)) 9 (-1 : Int32))))] ++ T41) := hD
  refine lv_iinc (v := (10 : Int32)) (lv' := [(4, .int (10 : Int32)), (0, .ref h0), (1, .int x1), (2, .int x2), (3, .int x3)]) hC.1 hC.2.1 dX12_init_422 hl (k := 0) rfl (by decide) (by decide) rfl (fun ls hl => ?_)
  refine lv_goto (tgt := 407) hC.1 hC.2.1 dX12_init_425 (by decide) ?_
  refine lv_iload hC.1 hC.2.1 dX12_init_407 (lv_at hl 0 rfl) ?_
  refine lv_bipush (v := (12 : Int32)) hC.1 hC.2.1 dX12_init_409 (by decide) ?_
  refine lv_icmp_ge (tgt := 428) hC.1 hC.2.1 dX12_init_411 (by decide) (fun hc => absurd hc (by decide)) (fun _ => ?_)
  refine lv_aload_n hC.1 hC.2.1 dX12_init_414 rfl (lv_at hl 1 rfl) ?_
  refine mp_get hC hP 39 (by decide) wd_1161 (v := .ref q32) (by simp [hf48, hf47, hf46, hf45, hf44, hf43, hf42, hf41, hf40, hf39, hf38, hf37, hf36, hf35, hf34, hf33, hf32, va_up]) dX12_init_415 ?_
  refine lv_iload hC.1 hC.2.1 dX12_init_418 (lv_at hl 0 rfl) ?_
  refine lv_iconst (v := (-1 : Int32)) hC.1 hC.2.1 dX12_init_420 (by decide) ?_
  refine va_iast hC.1 hC.2.1 hC.2.2.2.2.1 hP hD hS 4 0 rfl rfl (inb_in (by decide)) dX12_init_421 (fun H locs hP9 hD9 hS9 => ?_)
  clear hP hD hS
  have hP := hP9
  have hD := hD9
  have hS := hS9
  clear hP9 hD9 hS9
  replace hP : va_P (gD g) vwCl ([(h0, .inr (13, mfs f48)), (q3, .inl (gc g 2, 10, .inl (fun _ => 0))), (q5, .inl (gc g 0, 10, .inl (fun _ => 0))), (q21, .inl (gc g 0, 3, .inl (fun _ => 0))), (q32, .inl (gc g 0, 12, .inl (upd (upd (upd (upd (upd (upd (upd (upd (upd (upd (upd (fun _ => 0) 0 (-1 : Int32)) 1 (-1 : Int32)) 2 (-1 : Int32)) 3 (-1 : Int32)) 4 (-1 : Int32)) 5 (-1 : Int32)) 6 (-1 : Int32)) 7 (-1 : Int32)) 8 (-1 : Int32)) 9 (-1 : Int32)) 10 (-1 : Int32))))] ++ T41) H := hP
  replace hD : va_D A ([(h0, .inr (13, mfs f48)), (q3, .inl (gc g 2, 10, .inl (fun _ => 0))), (q5, .inl (gc g 0, 10, .inl (fun _ => 0))), (q21, .inl (gc g 0, 3, .inl (fun _ => 0))), (q32, .inl (gc g 0, 12, .inl (upd (upd (upd (upd (upd (upd (upd (upd (upd (upd (upd (fun _ => 0) 0 (-1 : Int32)) 1 (-1 : Int32)) 2 (-1 : Int32)) 3 (-1 : Int32)) 4 (-1 : Int32)) 5 (-1 : Int32)) 6 (-1 : Int32)) 7 (-1 : Int32)) 8 (-1 : Int32)) 9 (-1 : Int32)) 10 (-1 : Int32))))] ++ T41) := hD
  refine lv_iinc (v := (11 : Int32)) (lv' := [(4, .int (11 : Int32)), (0, .ref h0), (1, .int x1), (2, .int x2), (3, .int x3)]) hC.1 hC.2.1 dX12_init_422 hl (k := 0) rfl (by decide) (by decide) rfl (fun ls hl => ?_)
  refine lv_goto (tgt := 407) hC.1 hC.2.1 dX12_init_425 (by decide) ?_
  refine lv_iload hC.1 hC.2.1 dX12_init_407 (lv_at hl 0 rfl) ?_
  refine lv_bipush (v := (12 : Int32)) hC.1 hC.2.1 dX12_init_409 (by decide) ?_
  refine lv_icmp_ge (tgt := 428) hC.1 hC.2.1 dX12_init_411 (by decide) (fun hc => absurd hc (by decide)) (fun _ => ?_)
  refine lv_aload_n hC.1 hC.2.1 dX12_init_414 rfl (lv_at hl 1 rfl) ?_
  refine mp_get hC hP 39 (by decide) wd_1161 (v := .ref q32) (by simp [hf48, hf47, hf46, hf45, hf44, hf43, hf42, hf41, hf40, hf39, hf38, hf37, hf36, hf35, hf34, hf33, hf32, va_up]) dX12_init_415 ?_
  refine lv_iload hC.1 hC.2.1 dX12_init_418 (lv_at hl 0 rfl) ?_
  refine lv_iconst (v := (-1 : Int32)) hC.1 hC.2.1 dX12_init_420 (by decide) ?_
  refine va_iast hC.1 hC.2.1 hC.2.2.2.2.1 hP hD hS 4 0 rfl rfl (inb_in (by decide)) dX12_init_421 (fun H locs hP9 hD9 hS9 => ?_)
  clear hP hD hS
  have hP := hP9
  have hD := hD9
  have hS := hS9
  clear hP9 hD9 hS9
  replace hP : va_P (gD g) vwCl ([(h0, .inr (13, mfs f48)), (q3, .inl (gc g 2, 10, .inl (fun _ => 0))), (q5, .inl (gc g 0, 10, .inl (fun _ => 0))), (q21, .inl (gc g 0, 3, .inl (fun _ => 0))), (q32, .inl (gc g 0, 12, .inl (upd (upd (upd (upd (upd (upd (upd (upd (upd (upd (upd (upd (fun _ => 0) 0 (-1 : Int32)) 1 (-1 : Int32)) 2 (-1 : Int32)) 3 (-1 : Int32)) 4 (-1 : Int32)) 5 (-1 : Int32)) 6 (-1 : Int32)) 7 (-1 : Int32)) 8 (-1 : Int32)) 9 (-1 : Int32)) 10 (-1 : Int32)) 11 (-1 : Int32))))] ++ T41) H := hP
  replace hD : va_D A ([(h0, .inr (13, mfs f48)), (q3, .inl (gc g 2, 10, .inl (fun _ => 0))), (q5, .inl (gc g 0, 10, .inl (fun _ => 0))), (q21, .inl (gc g 0, 3, .inl (fun _ => 0))), (q32, .inl (gc g 0, 12, .inl (upd (upd (upd (upd (upd (upd (upd (upd (upd (upd (upd (upd (fun _ => 0) 0 (-1 : Int32)) 1 (-1 : Int32)) 2 (-1 : Int32)) 3 (-1 : Int32)) 4 (-1 : Int32)) 5 (-1 : Int32)) 6 (-1 : Int32)) 7 (-1 : Int32)) 8 (-1 : Int32)) 9 (-1 : Int32)) 10 (-1 : Int32)) 11 (-1 : Int32))))] ++ T41) := hD
  refine lv_iinc (v := (12 : Int32)) (lv' := [(4, .int (12 : Int32)), (0, .ref h0), (1, .int x1), (2, .int x2), (3, .int x3)]) hC.1 hC.2.1 dX12_init_422 hl (k := 0) rfl (by decide) (by decide) rfl (fun ls hl => ?_)
  refine lv_goto (tgt := 407) hC.1 hC.2.1 dX12_init_425 (by decide) ?_
  refine lv_iload hC.1 hC.2.1 dX12_init_407 (lv_at hl 0 rfl) ?_
  refine lv_bipush (v := (12 : Int32)) hC.1 hC.2.1 dX12_init_409 (by decide) ?_
  refine lv_icmp_ge (tgt := 428) hC.1 hC.2.1 dX12_init_411 (by decide) (fun _ => ?_) (fun hc => absurd (by decide) hc)
  refine lv_iconst (v := (0 : Int32)) hC.1 hC.2.1 dX12_init_428 (by decide) ?_
  refine lv_istore (lv' := [(4, .int (0 : Int32)), (0, .ref h0), (1, .int x1), (2, .int x2), (3, .int x3)]) hC.1 hC.2.1 dX12_init_429 hl (by decide) rfl (fun ls hl => ?_)
  refine lv_iload hC.1 hC.2.1 dX12_init_431 (lv_at hl 0 rfl) ?_
  refine lv_bipush (v := (10 : Int32)) hC.1 hC.2.1 dX12_init_433 (by decide) ?_
  refine lv_icmp_ge (tgt := 460) hC.1 hC.2.1 dX12_init_435 (by decide) (fun hc => absurd hc (by decide)) (fun _ => ?_)
  refine lv_aload_n hC.1 hC.2.1 dX12_init_438 rfl (lv_at hl 1 rfl) ?_
  refine mp_get hC hP 9 (by decide) wd_1131 (v := .ref q3) (by simp [hf48, hf47, hf46, hf45, hf44, hf43, hf42, hf41, hf40, hf39, hf38, hf37, hf36, hf35, hf34, hf33, hf32, hf31, hf30, hf29, hf28, hf27, hf26, hf25, hf24, hf23, hf22, hf21, hf20, hf19, hf18, hf17, hf16, hf15, hf14, hf13, hf12, hf11, hf10, hf9, hf8, hf7, hf6, hf5, hf4, hf3, va_up]) dX12_init_439 ?_
  refine lv_iload hC.1 hC.2.1 dX12_init_442 (lv_at hl 0 rfl) ?_
  refine lv_iconst (v := (1 : Int32)) hC.1 hC.2.1 dX12_init_444 (by decide) ?_
  refine va_zast hC.1 hC.2.1 hC.2.2.2.2.1 hP hD hS 1 2 rfl rfl (inb_in (by decide)) dX12_init_445 (fun H locs hP9 hD9 hS9 => ?_)
  clear hP hD hS
  have hP := hP9
  have hD := hD9
  have hS := hS9
  clear hP9 hD9 hS9
  replace hP : va_P (gD g) vwCl ([(h0, .inr (13, mfs f48)), (q3, .inl (gc g 2, 10, .inl (upd (fun _ => 0) 0 (1 : Int32)))), (q5, .inl (gc g 0, 10, .inl (fun _ => 0))), (q21, .inl (gc g 0, 3, .inl (fun _ => 0))), (q32, .inl (gc g 0, 12, .inl (upd (upd (upd (upd (upd (upd (upd (upd (upd (upd (upd (upd (fun _ => 0) 0 (-1 : Int32)) 1 (-1 : Int32)) 2 (-1 : Int32)) 3 (-1 : Int32)) 4 (-1 : Int32)) 5 (-1 : Int32)) 6 (-1 : Int32)) 7 (-1 : Int32)) 8 (-1 : Int32)) 9 (-1 : Int32)) 10 (-1 : Int32)) 11 (-1 : Int32))))] ++ T41) H := hP
  replace hD : va_D A ([(h0, .inr (13, mfs f48)), (q3, .inl (gc g 2, 10, .inl (upd (fun _ => 0) 0 (1 : Int32)))), (q5, .inl (gc g 0, 10, .inl (fun _ => 0))), (q21, .inl (gc g 0, 3, .inl (fun _ => 0))), (q32, .inl (gc g 0, 12, .inl (upd (upd (upd (upd (upd (upd (upd (upd (upd (upd (upd (upd (fun _ => 0) 0 (-1 : Int32)) 1 (-1 : Int32)) 2 (-1 : Int32)) 3 (-1 : Int32)) 4 (-1 : Int32)) 5 (-1 : Int32)) 6 (-1 : Int32)) 7 (-1 : Int32)) 8 (-1 : Int32)) 9 (-1 : Int32)) 10 (-1 : Int32)) 11 (-1 : Int32))))] ++ T41) := hD
  refine lv_aload_n hC.1 hC.2.1 dX12_init_446 rfl (lv_at hl 1 rfl) ?_
  refine mp_get hC hP 11 (by decide) wd_1133 (v := .ref q5) (by simp [hf48, hf47, hf46, hf45, hf44, hf43, hf42, hf41, hf40, hf39, hf38, hf37, hf36, hf35, hf34, hf33, hf32, hf31, hf30, hf29, hf28, hf27, hf26, hf25, hf24, hf23, hf22, hf21, hf20, hf19, hf18, hf17, hf16, hf15, hf14, hf13, hf12, hf11, hf10, hf9, hf8, hf7, hf6, hf5, va_up]) dX12_init_447 ?_
  refine lv_iload hC.1 hC.2.1 dX12_init_450 (lv_at hl 0 rfl) ?_
  refine lv_iconst (v := (-1 : Int32)) hC.1 hC.2.1 dX12_init_452 (by decide) ?_
  refine va_iast hC.1 hC.2.1 hC.2.2.2.2.1 hP hD hS 2 0 rfl rfl (inb_in (by decide)) dX12_init_453 (fun H locs hP9 hD9 hS9 => ?_)
  clear hP hD hS
  have hP := hP9
  have hD := hD9
  have hS := hS9
  clear hP9 hD9 hS9
  replace hP : va_P (gD g) vwCl ([(h0, .inr (13, mfs f48)), (q3, .inl (gc g 2, 10, .inl (upd (fun _ => 0) 0 (1 : Int32)))), (q5, .inl (gc g 0, 10, .inl (upd (fun _ => 0) 0 (-1 : Int32)))), (q21, .inl (gc g 0, 3, .inl (fun _ => 0))), (q32, .inl (gc g 0, 12, .inl (upd (upd (upd (upd (upd (upd (upd (upd (upd (upd (upd (upd (fun _ => 0) 0 (-1 : Int32)) 1 (-1 : Int32)) 2 (-1 : Int32)) 3 (-1 : Int32)) 4 (-1 : Int32)) 5 (-1 : Int32)) 6 (-1 : Int32)) 7 (-1 : Int32)) 8 (-1 : Int32)) 9 (-1 : Int32)) 10 (-1 : Int32)) 11 (-1 : Int32))))] ++ T41) H := hP
  replace hD : va_D A ([(h0, .inr (13, mfs f48)), (q3, .inl (gc g 2, 10, .inl (upd (fun _ => 0) 0 (1 : Int32)))), (q5, .inl (gc g 0, 10, .inl (upd (fun _ => 0) 0 (-1 : Int32)))), (q21, .inl (gc g 0, 3, .inl (fun _ => 0))), (q32, .inl (gc g 0, 12, .inl (upd (upd (upd (upd (upd (upd (upd (upd (upd (upd (upd (upd (fun _ => 0) 0 (-1 : Int32)) 1 (-1 : Int32)) 2 (-1 : Int32)) 3 (-1 : Int32)) 4 (-1 : Int32)) 5 (-1 : Int32)) 6 (-1 : Int32)) 7 (-1 : Int32)) 8 (-1 : Int32)) 9 (-1 : Int32)) 10 (-1 : Int32)) 11 (-1 : Int32))))] ++ T41) := hD
  refine lv_iinc (v := (1 : Int32)) (lv' := [(4, .int (1 : Int32)), (0, .ref h0), (1, .int x1), (2, .int x2), (3, .int x3)]) hC.1 hC.2.1 dX12_init_454 hl (k := 0) rfl (by decide) (by decide) rfl (fun ls hl => ?_)
  refine lv_goto (tgt := 431) hC.1 hC.2.1 dX12_init_457 (by decide) ?_
  refine lv_iload hC.1 hC.2.1 dX12_init_431 (lv_at hl 0 rfl) ?_
  refine lv_bipush (v := (10 : Int32)) hC.1 hC.2.1 dX12_init_433 (by decide) ?_
  refine lv_icmp_ge (tgt := 460) hC.1 hC.2.1 dX12_init_435 (by decide) (fun hc => absurd hc (by decide)) (fun _ => ?_)
  refine lv_aload_n hC.1 hC.2.1 dX12_init_438 rfl (lv_at hl 1 rfl) ?_
  refine mp_get hC hP 9 (by decide) wd_1131 (v := .ref q3) (by simp [hf48, hf47, hf46, hf45, hf44, hf43, hf42, hf41, hf40, hf39, hf38, hf37, hf36, hf35, hf34, hf33, hf32, hf31, hf30, hf29, hf28, hf27, hf26, hf25, hf24, hf23, hf22, hf21, hf20, hf19, hf18, hf17, hf16, hf15, hf14, hf13, hf12, hf11, hf10, hf9, hf8, hf7, hf6, hf5, hf4, hf3, va_up]) dX12_init_439 ?_
  refine lv_iload hC.1 hC.2.1 dX12_init_442 (lv_at hl 0 rfl) ?_
  refine lv_iconst (v := (1 : Int32)) hC.1 hC.2.1 dX12_init_444 (by decide) ?_
  refine va_zast hC.1 hC.2.1 hC.2.2.2.2.1 hP hD hS 1 2 rfl rfl (inb_in (by decide)) dX12_init_445 (fun H locs hP9 hD9 hS9 => ?_)
  clear hP hD hS
  have hP := hP9
  have hD := hD9
  have hS := hS9
  clear hP9 hD9 hS9
  replace hP : va_P (gD g) vwCl ([(h0, .inr (13, mfs f48)), (q3, .inl (gc g 2, 10, .inl (upd (upd (fun _ => 0) 0 (1 : Int32)) 1 (1 : Int32)))), (q5, .inl (gc g 0, 10, .inl (upd (fun _ => 0) 0 (-1 : Int32)))), (q21, .inl (gc g 0, 3, .inl (fun _ => 0))), (q32, .inl (gc g 0, 12, .inl (upd (upd (upd (upd (upd (upd (upd (upd (upd (upd (upd (upd (fun _ => 0) 0 (-1 : Int32)) 1 (-1 : Int32)) 2 (-1 : Int32)) 3 (-1 : Int32)) 4 (-1 : Int32)) 5 (-1 : Int32)) 6 (-1 : Int32)) 7 (-1 : Int32)) 8 (-1 : Int32)) 9 (-1 : Int32)) 10 (-1 : Int32)) 11 (-1 : Int32))))] ++ T41) H := hP
  replace hD : va_D A ([(h0, .inr (13, mfs f48)), (q3, .inl (gc g 2, 10, .inl (upd (upd (fun _ => 0) 0 (1 : Int32)) 1 (1 : Int32)))), (q5, .inl (gc g 0, 10, .inl (upd (fun _ => 0) 0 (-1 : Int32)))), (q21, .inl (gc g 0, 3, .inl (fun _ => 0))), (q32, .inl (gc g 0, 12, .inl (upd (upd (upd (upd (upd (upd (upd (upd (upd (upd (upd (upd (fun _ => 0) 0 (-1 : Int32)) 1 (-1 : Int32)) 2 (-1 : Int32)) 3 (-1 : Int32)) 4 (-1 : Int32)) 5 (-1 : Int32)) 6 (-1 : Int32)) 7 (-1 : Int32)) 8 (-1 : Int32)) 9 (-1 : Int32)) 10 (-1 : Int32)) 11 (-1 : Int32))))] ++ T41) := hD
  refine lv_aload_n hC.1 hC.2.1 dX12_init_446 rfl (lv_at hl 1 rfl) ?_
  refine mp_get hC hP 11 (by decide) wd_1133 (v := .ref q5) (by simp [hf48, hf47, hf46, hf45, hf44, hf43, hf42, hf41, hf40, hf39, hf38, hf37, hf36, hf35, hf34, hf33, hf32, hf31, hf30, hf29, hf28, hf27, hf26, hf25, hf24, hf23, hf22, hf21, hf20, hf19, hf18, hf17, hf16, hf15, hf14, hf13, hf12, hf11, hf10, hf9, hf8, hf7, hf6, hf5, va_up]) dX12_init_447 ?_
  refine lv_iload hC.1 hC.2.1 dX12_init_450 (lv_at hl 0 rfl) ?_
  refine lv_iconst (v := (-1 : Int32)) hC.1 hC.2.1 dX12_init_452 (by decide) ?_
  refine va_iast hC.1 hC.2.1 hC.2.2.2.2.1 hP hD hS 2 0 rfl rfl (inb_in (by decide)) dX12_init_453 (fun H locs hP9 hD9 hS9 => ?_)
  clear hP hD hS
  have hP := hP9
  have hD := hD9
  have hS := hS9
  clear hP9 hD9 hS9
  replace hP : va_P (gD g) vwCl ([(h0, .inr (13, mfs f48)), (q3, .inl (gc g 2, 10, .inl (upd (upd (fun _ => 0) 0 (1 : Int32)) 1 (1 : Int32)))), (q5, .inl (gc g 0, 10, .inl (upd (upd (fun _ => 0) 0 (-1 : Int32)) 1 (-1 : Int32)))), (q21, .inl (gc g 0, 3, .inl (fun _ => 0))), (q32, .inl (gc g 0, 12, .inl (upd (upd (upd (upd (upd (upd (upd (upd (upd (upd (upd (upd (fun _ => 0) 0 (-1 : Int32)) 1 (-1 : Int32)) 2 (-1 : Int32)) 3 (-1 : Int32)) 4 (-1 : Int32)) 5 (-1 : Int32)) 6 (-1 : Int32)) 7 (-1 : Int32)) 8 (-1 : Int32)) 9 (-1 : Int32)) 10 (-1 : Int32)) 11 (-1 : Int32))))] ++ T41) H := hP
  replace hD : va_D A ([(h0, .inr (13, mfs f48)), (q3, .inl (gc g 2, 10, .inl (upd (upd (fun _ => 0) 0 (1 : Int32)) 1 (1 : Int32)))), (q5, .inl (gc g 0, 10, .inl (upd (upd (fun _ => 0) 0 (-1 : Int32)) 1 (-1 : Int32)))), (q21, .inl (gc g 0, 3, .inl (fun _ => 0))), (q32, .inl (gc g 0, 12, .inl (upd (upd (upd (upd (upd (upd (upd (upd (upd (upd (upd (upd (fun _ => 0) 0 (-1 : Int32)) 1 (-1 : Int32)) 2 (-1 : Int32)) 3 (-1 : Int32)) 4 (-1 : Int32)) 5 (-1 : Int32)) 6 (-1 : Int32)) 7 (-1 : Int32)) 8 (-1 : Int32)) 9 (-1 : Int32)) 10 (-1 : Int32)) 11 (-1 : Int32))))] ++ T41) := hD
  refine lv_iinc (v := (2 : Int32)) (lv' := [(4, .int (2 : Int32)), (0, .ref h0), (1, .int x1), (2, .int x2), (3, .int x3)]) hC.1 hC.2.1 dX12_init_454 hl (k := 0) rfl (by decide) (by decide) rfl (fun ls hl => ?_)
  refine lv_goto (tgt := 431) hC.1 hC.2.1 dX12_init_457 (by decide) ?_
  refine lv_iload hC.1 hC.2.1 dX12_init_431 (lv_at hl 0 rfl) ?_
  refine lv_bipush (v := (10 : Int32)) hC.1 hC.2.1 dX12_init_433 (by decide) ?_
  refine lv_icmp_ge (tgt := 460) hC.1 hC.2.1 dX12_init_435 (by decide) (fun hc => absurd hc (by decide)) (fun _ => ?_)
  refine lv_aload_n hC.1 hC.2.1 dX12_init_438 rfl (lv_at hl 1 rfl) ?_
  refine mp_get hC hP 9 (by decide) wd_1131 (v := .ref q3) (by simp [hf48, hf47, hf46, hf45, hf44, hf43, hf42, hf41, hf40, hf39, hf38, hf37, hf36, hf35, hf34, hf33, hf32, hf31, hf30, hf29, hf28, hf27, hf26, hf25, hf24, hf23, hf22, hf21, hf20, hf19, hf18, hf17, hf16, hf15, hf14, hf13, hf12, hf11, hf10, hf9, hf8, hf7, hf6, hf5, hf4, hf3, va_up]) dX12_init_439 ?_
  refine lv_iload hC.1 hC.2.1 dX12_init_442 (lv_at hl 0 rfl) ?_
  refine lv_iconst (v := (1 : Int32)) hC.1 hC.2.1 dX12_init_444 (by decide) ?_
  refine va_zast hC.1 hC.2.1 hC.2.2.2.2.1 hP hD hS 1 2 rfl rfl (inb_in (by decide)) dX12_init_445 (fun H locs hP9 hD9 hS9 => ?_)
  clear hP hD hS
  have hP := hP9
  have hD := hD9
  have hS := hS9
  clear hP9 hD9 hS9
  replace hP : va_P (gD g) vwCl ([(h0, .inr (13, mfs f48)), (q3, .inl (gc g 2, 10, .inl (upd (upd (upd (fun _ => 0) 0 (1 : Int32)) 1 (1 : Int32)) 2 (1 : Int32)))), (q5, .inl (gc g 0, 10, .inl (upd (upd (fun _ => 0) 0 (-1 : Int32)) 1 (-1 : Int32)))), (q21, .inl (gc g 0, 3, .inl (fun _ => 0))), (q32, .inl (gc g 0, 12, .inl (upd (upd (upd (upd (upd (upd (upd (upd (upd (upd (upd (upd (fun _ => 0) 0 (-1 : Int32)) 1 (-1 : Int32)) 2 (-1 : Int32)) 3 (-1 : Int32)) 4 (-1 : Int32)) 5 (-1 : Int32)) 6 (-1 : Int32)) 7 (-1 : Int32)) 8 (-1 : Int32)) 9 (-1 : Int32)) 10 (-1 : Int32)) 11 (-1 : Int32))))] ++ T41) H := hP
  replace hD : va_D A ([(h0, .inr (13, mfs f48)), (q3, .inl (gc g 2, 10, .inl (upd (upd (upd (fun _ => 0) 0 (1 : Int32)) 1 (1 : Int32)) 2 (1 : Int32)))), (q5, .inl (gc g 0, 10, .inl (upd (upd (fun _ => 0) 0 (-1 : Int32)) 1 (-1 : Int32)))), (q21, .inl (gc g 0, 3, .inl (fun _ => 0))), (q32, .inl (gc g 0, 12, .inl (upd (upd (upd (upd (upd (upd (upd (upd (upd (upd (upd (upd (fun _ => 0) 0 (-1 : Int32)) 1 (-1 : Int32)) 2 (-1 : Int32)) 3 (-1 : Int32)) 4 (-1 : Int32)) 5 (-1 : Int32)) 6 (-1 : Int32)) 7 (-1 : Int32)) 8 (-1 : Int32)) 9 (-1 : Int32)) 10 (-1 : Int32)) 11 (-1 : Int32))))] ++ T41) := hD
  refine lv_aload_n hC.1 hC.2.1 dX12_init_446 rfl (lv_at hl 1 rfl) ?_
  refine mp_get hC hP 11 (by decide) wd_1133 (v := .ref q5) (by simp [hf48, hf47, hf46, hf45, hf44, hf43, hf42, hf41, hf40, hf39, hf38, hf37, hf36, hf35, hf34, hf33, hf32, hf31, hf30, hf29, hf28, hf27, hf26, hf25, hf24, hf23, hf22, hf21, hf20, hf19, hf18, hf17, hf16, hf15, hf14, hf13, hf12, hf11, hf10, hf9, hf8, hf7, hf6, hf5, va_up]) dX12_init_447 ?_
  refine lv_iload hC.1 hC.2.1 dX12_init_450 (lv_at hl 0 rfl) ?_
  refine lv_iconst (v := (-1 : Int32)) hC.1 hC.2.1 dX12_init_452 (by decide) ?_
  refine va_iast hC.1 hC.2.1 hC.2.2.2.2.1 hP hD hS 2 0 rfl rfl (inb_in (by decide)) dX12_init_453 (fun H locs hP9 hD9 hS9 => ?_)
  clear hP hD hS
  have hP := hP9
  have hD := hD9
  have hS := hS9
  clear hP9 hD9 hS9
  replace hP : va_P (gD g) vwCl ([(h0, .inr (13, mfs f48)), (q3, .inl (gc g 2, 10, .inl (upd (upd (upd (fun _ => 0) 0 (1 : Int32)) 1 (1 : Int32)) 2 (1 : Int32)))), (q5, .inl (gc g 0, 10, .inl (upd (upd (upd (fun _ => 0) 0 (-1 : Int32)) 1 (-1 : Int32)) 2 (-1 : Int32)))), (q21, .inl (gc g 0, 3, .inl (fun _ => 0))), (q32, .inl (gc g 0, 12, .inl (upd (upd (upd (upd (upd (upd (upd (upd (upd (upd (upd (upd (fun _ => 0) 0 (-1 : Int32)) 1 (-1 : Int32)) 2 (-1 : Int32)) 3 (-1 : Int32)) 4 (-1 : Int32)) 5 (-1 : Int32)) 6 (-1 : Int32)) 7 (-1 : Int32)) 8 (-1 : Int32)) 9 (-1 : Int32)) 10 (-1 : Int32)) 11 (-1 : Int32))))] ++ T41) H := hP
  replace hD : va_D A ([(h0, .inr (13, mfs f48)), (q3, .inl (gc g 2, 10, .inl (upd (upd (upd (fun _ => 0) 0 (1 : Int32)) 1 (1 : Int32)) 2 (1 : Int32)))), (q5, .inl (gc g 0, 10, .inl (upd (upd (upd (fun _ => 0) 0 (-1 : Int32)) 1 (-1 : Int32)) 2 (-1 : Int32)))), (q21, .inl (gc g 0, 3, .inl (fun _ => 0))), (q32, .inl (gc g 0, 12, .inl (upd (upd (upd (upd (upd (upd (upd (upd (upd (upd (upd (upd (fun _ => 0) 0 (-1 : Int32)) 1 (-1 : Int32)) 2 (-1 : Int32)) 3 (-1 : Int32)) 4 (-1 : Int32)) 5 (-1 : Int32)) 6 (-1 : Int32)) 7 (-1 : Int32)) 8 (-1 : Int32)) 9 (-1 : Int32)) 10 (-1 : Int32)) 11 (-1 : Int32))))] ++ T41) := hD
  refine lv_iinc (v := (3 : Int32)) (lv' := [(4, .int (3 : Int32)), (0, .ref h0), (1, .int x1), (2, .int x2), (3, .int x3)]) hC.1 hC.2.1 dX12_init_454 hl (k := 0) rfl (by decide) (by decide) rfl (fun ls hl => ?_)
  refine lv_goto (tgt := 431) hC.1 hC.2.1 dX12_init_457 (by decide) ?_
  refine lv_iload hC.1 hC.2.1 dX12_init_431 (lv_at hl 0 rfl) ?_
  refine lv_bipush (v := (10 : Int32)) hC.1 hC.2.1 dX12_init_433 (by decide) ?_
  refine lv_icmp_ge (tgt := 460) hC.1 hC.2.1 dX12_init_435 (by decide) (fun hc => absurd hc (by decide)) (fun _ => ?_)
  refine lv_aload_n hC.1 hC.2.1 dX12_init_438 rfl (lv_at hl 1 rfl) ?_
  refine mp_get hC hP 9 (by decide) wd_1131 (v := .ref q3) (by simp [hf48, hf47, hf46, hf45, hf44, hf43, hf42, hf41, hf40, hf39, hf38, hf37, hf36, hf35, hf34, hf33, hf32, hf31, hf30, hf29, hf28, hf27, hf26, hf25, hf24, hf23, hf22, hf21, hf20, hf19, hf18, hf17, hf16, hf15, hf14, hf13, hf12, hf11, hf10, hf9, hf8, hf7, hf6, hf5, hf4, hf3, va_up]) dX12_init_439 ?_
  refine lv_iload hC.1 hC.2.1 dX12_init_442 (lv_at hl 0 rfl) ?_
  refine lv_iconst (v := (1 : Int32)) hC.1 hC.2.1 dX12_init_444 (by decide) ?_
  refine va_zast hC.1 hC.2.1 hC.2.2.2.2.1 hP hD hS 1 2 rfl rfl (inb_in (by decide)) dX12_init_445 (fun H locs hP9 hD9 hS9 => ?_)
  clear hP hD hS
  have hP := hP9
  have hD := hD9
  have hS := hS9
  clear hP9 hD9 hS9
  replace hP : va_P (gD g) vwCl ([(h0, .inr (13, mfs f48)), (q3, .inl (gc g 2, 10, .inl (upd (upd (upd (upd (fun _ => 0) 0 (1 : Int32)) 1 (1 : Int32)) 2 (1 : Int32)) 3 (1 : Int32)))), (q5, .inl (gc g 0, 10, .inl (upd (upd (upd (fun _ => 0) 0 (-1 : Int32)) 1 (-1 : Int32)) 2 (-1 : Int32)))), (q21, .inl (gc g 0, 3, .inl (fun _ => 0))), (q32, .inl (gc g 0, 12, .inl (upd (upd (upd (upd (upd (upd (upd (upd (upd (upd (upd (upd (fun _ => 0) 0 (-1 : Int32)) 1 (-1 : Int32)) 2 (-1 : Int32)) 3 (-1 : Int32)) 4 (-1 : Int32)) 5 (-1 : Int32)) 6 (-1 : Int32)) 7 (-1 : Int32)) 8 (-1 : Int32)) 9 (-1 : Int32)) 10 (-1 : Int32)) 11 (-1 : Int32))))] ++ T41) H := hP
  replace hD : va_D A ([(h0, .inr (13, mfs f48)), (q3, .inl (gc g 2, 10, .inl (upd (upd (upd (upd (fun _ => 0) 0 (1 : Int32)) 1 (1 : Int32)) 2 (1 : Int32)) 3 (1 : Int32)))), (q5, .inl (gc g 0, 10, .inl (upd (upd (upd (fun _ => 0) 0 (-1 : Int32)) 1 (-1 : Int32)) 2 (-1 : Int32)))), (q21, .inl (gc g 0, 3, .inl (fun _ => 0))), (q32, .inl (gc g 0, 12, .inl (upd (upd (upd (upd (upd (upd (upd (upd (upd (upd (upd (upd (fun _ => 0) 0 (-1 : Int32)) 1 (-1 : Int32)) 2 (-1 : Int32)) 3 (-1 : Int32)) 4 (-1 : Int32)) 5 (-1 : Int32)) 6 (-1 : Int32)) 7 (-1 : Int32)) 8 (-1 : Int32)) 9 (-1 : Int32)) 10 (-1 : Int32)) 11 (-1 : Int32))))] ++ T41) := hD
  refine lv_aload_n hC.1 hC.2.1 dX12_init_446 rfl (lv_at hl 1 rfl) ?_
  refine mp_get hC hP 11 (by decide) wd_1133 (v := .ref q5) (by simp [hf48, hf47, hf46, hf45, hf44, hf43, hf42, hf41, hf40, hf39, hf38, hf37, hf36, hf35, hf34, hf33, hf32, hf31, hf30, hf29, hf28, hf27, hf26, hf25, hf24, hf23, hf22, hf21, hf20, hf19, hf18, hf17, hf16, hf15, hf14, hf13, hf12, hf11, hf10, hf9, hf8, hf7, hf6, hf5, va_up]) dX12_init_447 ?_
  refine lv_iload hC.1 hC.2.1 dX12_init_450 (lv_at hl 0 rfl) ?_
  refine lv_iconst (v := (-1 : Int32)) hC.1 hC.2.1 dX12_init_452 (by decide) ?_
  refine va_iast hC.1 hC.2.1 hC.2.2.2.2.1 hP hD hS 2 0 rfl rfl (inb_in (by decide)) dX12_init_453 (fun H locs hP9 hD9 hS9 => ?_)
  clear hP hD hS
  have hP := hP9
  have hD := hD9
  have hS := hS9
  clear hP9 hD9 hS9
  replace hP : va_P (gD g) vwCl ([(h0, .inr (13, mfs f48)), (q3, .inl (gc g 2, 10, .inl (upd (upd (upd (upd (fun _ => 0) 0 (1 : Int32)) 1 (1 : Int32)) 2 (1 : Int32)) 3 (1 : Int32)))), (q5, .inl (gc g 0, 10, .inl (upd (upd (upd (upd (fun _ => 0) 0 (-1 : Int32)) 1 (-1 : Int32)) 2 (-1 : Int32)) 3 (-1 : Int32)))), (q21, .inl (gc g 0, 3, .inl (fun _ => 0))), (q32, .inl (gc g 0, 12, .inl (upd (upd (upd (upd (upd (upd (upd (upd (upd (upd (upd (upd (fun _ => 0) 0 (-1 : Int32)) 1 (-1 : Int32)) 2 (-1 : Int32)) 3 (-1 : Int32)) 4 (-1 : Int32)) 5 (-1 : Int32)) 6 (-1 : Int32)) 7 (-1 : Int32)) 8 (-1 : Int32)) 9 (-1 : Int32)) 10 (-1 : Int32)) 11 (-1 : Int32))))] ++ T41) H := hP
  replace hD : va_D A ([(h0, .inr (13, mfs f48)), (q3, .inl (gc g 2, 10, .inl (upd (upd (upd (upd (fun _ => 0) 0 (1 : Int32)) 1 (1 : Int32)) 2 (1 : Int32)) 3 (1 : Int32)))), (q5, .inl (gc g 0, 10, .inl (upd (upd (upd (upd (fun _ => 0) 0 (-1 : Int32)) 1 (-1 : Int32)) 2 (-1 : Int32)) 3 (-1 : Int32)))), (q21, .inl (gc g 0, 3, .inl (fun _ => 0))), (q32, .inl (gc g 0, 12, .inl (upd (upd (upd (upd (upd (upd (upd (upd (upd (upd (upd (upd (fun _ => 0) 0 (-1 : Int32)) 1 (-1 : Int32)) 2 (-1 : Int32)) 3 (-1 : Int32)) 4 (-1 : Int32)) 5 (-1 : Int32)) 6 (-1 : Int32)) 7 (-1 : Int32)) 8 (-1 : Int32)) 9 (-1 : Int32)) 10 (-1 : Int32)) 11 (-1 : Int32))))] ++ T41) := hD
  refine lv_iinc (v := (4 : Int32)) (lv' := [(4, .int (4 : Int32)), (0, .ref h0), (1, .int x1), (2, .int x2), (3, .int x3)]) hC.1 hC.2.1 dX12_init_454 hl (k := 0) rfl (by decide) (by decide) rfl (fun ls hl => ?_)
  refine lv_goto (tgt := 431) hC.1 hC.2.1 dX12_init_457 (by decide) ?_
  refine lv_iload hC.1 hC.2.1 dX12_init_431 (lv_at hl 0 rfl) ?_
  refine lv_bipush (v := (10 : Int32)) hC.1 hC.2.1 dX12_init_433 (by decide) ?_
  refine lv_icmp_ge (tgt := 460) hC.1 hC.2.1 dX12_init_435 (by decide) (fun hc => absurd hc (by decide)) (fun _ => ?_)
  refine lv_aload_n hC.1 hC.2.1 dX12_init_438 rfl (lv_at hl 1 rfl) ?_
  refine mp_get hC hP 9 (by decide) wd_1131 (v := .ref q3) (by simp [hf48, hf47, hf46, hf45, hf44, hf43, hf42, hf41, hf40, hf39, hf38, hf37, hf36, hf35, hf34, hf33, hf32, hf31, hf30, hf29, hf28, hf27, hf26, hf25, hf24, hf23, hf22, hf21, hf20, hf19, hf18, hf17, hf16, hf15, hf14, hf13, hf12, hf11, hf10, hf9, hf8, hf7, hf6, hf5, hf4, hf3, va_up]) dX12_init_439 ?_
  refine lv_iload hC.1 hC.2.1 dX12_init_442 (lv_at hl 0 rfl) ?_
  refine lv_iconst (v := (1 : Int32)) hC.1 hC.2.1 dX12_init_444 (by decide) ?_
  refine va_zast hC.1 hC.2.1 hC.2.2.2.2.1 hP hD hS 1 2 rfl rfl (inb_in (by decide)) dX12_init_445 (fun H locs hP9 hD9 hS9 => ?_)
  clear hP hD hS
  have hP := hP9
  have hD := hD9
  have hS := hS9
  clear hP9 hD9 hS9
  replace hP : va_P (gD g) vwCl ([(h0, .inr (13, mfs f48)), (q3, .inl (gc g 2, 10, .inl (upd (upd (upd (upd (upd (fun _ => 0) 0 (1 : Int32)) 1 (1 : Int32)) 2 (1 : Int32)) 3 (1 : Int32)) 4 (1 : Int32)))), (q5, .inl (gc g 0, 10, .inl (upd (upd (upd (upd (fun _ => 0) 0 (-1 : Int32)) 1 (-1 : Int32)) 2 (-1 : Int32)) 3 (-1 : Int32)))), (q21, .inl (gc g 0, 3, .inl (fun _ => 0))), (q32, .inl (gc g 0, 12, .inl (upd (upd (upd (upd (upd (upd (upd (upd (upd (upd (upd (upd (fun _ => 0) 0 (-1 : Int32)) 1 (-1 : Int32)) 2 (-1 : Int32)) 3 (-1 : Int32)) 4 (-1 : Int32)) 5 (-1 : Int32)) 6 (-1 : Int32)) 7 (-1 : Int32)) 8 (-1 : Int32)) 9 (-1 : Int32)) 10 (-1 : Int32)) 11 (-1 : Int32))))] ++ T41) H := hP
  replace hD : va_D A ([(h0, .inr (13, mfs f48)), (q3, .inl (gc g 2, 10, .inl (upd (upd (upd (upd (upd (fun _ => 0) 0 (1 : Int32)) 1 (1 : Int32)) 2 (1 : Int32)) 3 (1 : Int32)) 4 (1 : Int32)))), (q5, .inl (gc g 0, 10, .inl (upd (upd (upd (upd (fun _ => 0) 0 (-1 : Int32)) 1 (-1 : Int32)) 2 (-1 : Int32)) 3 (-1 : Int32)))), (q21, .inl (gc g 0, 3, .inl (fun _ => 0))), (q32, .inl (gc g 0, 12, .inl (upd (upd (upd (upd (upd (upd (upd (upd (upd (upd (upd (upd (fun _ => 0) 0 (-1 : Int32)) 1 (-1 : Int32)) 2 (-1 : Int32)) 3 (-1 : Int32)) 4 (-1 : Int32)) 5 (-1 : Int32)) 6 (-1 : Int32)) 7 (-1 : Int32)) 8 (-1 : Int32)) 9 (-1 : Int32)) 10 (-1 : Int32)) 11 (-1 : Int32))))] ++ T41) := hD
  refine lv_aload_n hC.1 hC.2.1 dX12_init_446 rfl (lv_at hl 1 rfl) ?_
  refine mp_get hC hP 11 (by decide) wd_1133 (v := .ref q5) (by simp [hf48, hf47, hf46, hf45, hf44, hf43, hf42, hf41, hf40, hf39, hf38, hf37, hf36, hf35, hf34, hf33, hf32, hf31, hf30, hf29, hf28, hf27, hf26, hf25, hf24, hf23, hf22, hf21, hf20, hf19, hf18, hf17, hf16, hf15, hf14, hf13, hf12, hf11, hf10, hf9, hf8, hf7, hf6, hf5, va_up]) dX12_init_447 ?_
  refine lv_iload hC.1 hC.2.1 dX12_init_450 (lv_at hl 0 rfl) ?_
  refine lv_iconst (v := (-1 : Int32)) hC.1 hC.2.1 dX12_init_452 (by decide) ?_
  refine va_iast hC.1 hC.2.1 hC.2.2.2.2.1 hP hD hS 2 0 rfl rfl (inb_in (by decide)) dX12_init_453 (fun H locs hP9 hD9 hS9 => ?_)
  clear hP hD hS
  have hP := hP9
  have hD := hD9
  have hS := hS9
  clear hP9 hD9 hS9
  replace hP : va_P (gD g) vwCl ([(h0, .inr (13, mfs f48)), (q3, .inl (gc g 2, 10, .inl (upd (upd (upd (upd (upd (fun _ => 0) 0 (1 : Int32)) 1 (1 : Int32)) 2 (1 : Int32)) 3 (1 : Int32)) 4 (1 : Int32)))), (q5, .inl (gc g 0, 10, .inl (upd (upd (upd (upd (upd (fun _ => 0) 0 (-1 : Int32)) 1 (-1 : Int32)) 2 (-1 : Int32)) 3 (-1 : Int32)) 4 (-1 : Int32)))), (q21, .inl (gc g 0, 3, .inl (fun _ => 0))), (q32, .inl (gc g 0, 12, .inl (upd (upd (upd (upd (upd (upd (upd (upd (upd (upd (upd (upd (fun _ => 0) 0 (-1 : Int32)) 1 (-1 : Int32)) 2 (-1 : Int32)) 3 (-1 : Int32)) 4 (-1 : Int32)) 5 (-1 : Int32)) 6 (-1 : Int32)) 7 (-1 : Int32)) 8 (-1 : Int32)) 9 (-1 : Int32)) 10 (-1 : Int32)) 11 (-1 : Int32))))] ++ T41) H := hP
  replace hD : va_D A ([(h0, .inr (13, mfs f48)), (q3, .inl (gc g 2, 10, .inl (upd (upd (upd (upd (upd (fun _ => 0) 0 (1 : Int32)) 1 (1 : Int32)) 2 (1 : Int32)) 3 (1 : Int32)) 4 (1 : Int32)))), (q5, .inl (gc g 0, 10, .inl (upd (upd (upd (upd (upd (fun _ => 0) 0 (-1 : Int32)) 1 (-1 : Int32)) 2 (-1 : Int32)) 3 (-1 : Int32)) 4 (-1 : Int32)))), (q21, .inl (gc g 0, 3, .inl (fun _ => 0))), (q32, .inl (gc g 0, 12, .inl (upd (upd (upd (upd (upd (upd (upd (upd (upd (upd (upd (upd (fun _ => 0) 0 (-1 : Int32)) 1 (-1 : Int32)) 2 (-1 : Int32)) 3 (-1 : Int32)) 4 (-1 : Int32)) 5 (-1 : Int32)) 6 (-1 : Int32)) 7 (-1 : Int32)) 8 (-1 : Int32)) 9 (-1 : Int32)) 10 (-1 : Int32)) 11 (-1 : Int32))))] ++ T41) := hD
  refine lv_iinc (v := (5 : Int32)) (lv' := [(4, .int (5 : Int32)), (0, .ref h0), (1, .int x1), (2, .int x2), (3, .int x3)]) hC.1 hC.2.1 dX12_init_454 hl (k := 0) rfl (by decide) (by decide) rfl (fun ls hl => ?_)
  refine lv_goto (tgt := 431) hC.1 hC.2.1 dX12_init_457 (by decide) ?_
  refine lv_iload hC.1 hC.2.1 dX12_init_431 (lv_at hl 0 rfl) ?_
  refine lv_bipush (v := (10 : Int32)) hC.1 hC.2.1 dX12_init_433 (by decide) ?_
  refine lv_icmp_ge (tgt := 460) hC.1 hC.2.1 dX12_init_435 (by decide) (fun hc => absurd hc (by decide)) (fun _ => ?_)
  refine lv_aload_n hC.1 hC.2.1 dX12_init_438 rfl (lv_at hl 1 rfl) ?_
  refine mp_get hC hP 9 (by decide) wd_1131 (v := .ref q3) (by simp [hf48, hf47, hf46, hf45, hf44, hf43, hf42, hf41, hf40, hf39, hf38, hf37, hf36, hf35, hf34, hf33, hf32, hf31, hf30, hf29, hf28, hf27, hf26, hf25, hf24, hf23, hf22, hf21, hf20, hf19, hf18, hf17, hf16, hf15, hf14, hf13, hf12, hf11, hf10, hf9, hf8, hf7, hf6, hf5, hf4, hf3, va_up]) dX12_init_439 ?_
  refine lv_iload hC.1 hC.2.1 dX12_init_442 (lv_at hl 0 rfl) ?_
  refine lv_iconst (v := (1 : Int32)) hC.1 hC.2.1 dX12_init_444 (by decide) ?_
  refine va_zast hC.1 hC.2.1 hC.2.2.2.2.1 hP hD hS 1 2 rfl rfl (inb_in (by decide)) dX12_init_445 (fun H locs hP9 hD9 hS9 => ?_)
  clear hP hD hS
  have hP := hP9
  have hD := hD9
  have hS := hS9
  clear hP9 hD9 hS9
  replace hP : va_P (gD g) vwCl ([(h0, .inr (13, mfs f48)), (q3, .inl (gc g 2, 10, .inl (upd (upd (upd (upd (upd (upd (fun _ => 0) 0 (1 : Int32)) 1 (1 : Int32)) 2 (1 : Int32)) 3 (1 : Int32)) 4 (1 : Int32)) 5 (1 : Int32)))), (q5, .inl (gc g 0, 10, .inl (upd (upd (upd (upd (upd (fun _ => 0) 0 (-1 : Int32)) 1 (-1 : Int32)) 2 (-1 : Int32)) 3 (-1 : Int32)) 4 (-1 : Int32)))), (q21, .inl (gc g 0, 3, .inl (fun _ => 0))), (q32, .inl (gc g 0, 12, .inl (upd (upd (upd (upd (upd (upd (upd (upd (upd (upd (upd (upd (fun _ => 0) 0 (-1 : Int32)) 1 (-1 : Int32)) 2 (-1 : Int32)) 3 (-1 : Int32)) 4 (-1 : Int32)) 5 (-1 : Int32)) 6 (-1 : Int32)) 7 (-1 : Int32)) 8 (-1 : Int32)) 9 (-1 : Int32)) 10 (-1 : Int32)) 11 (-1 : Int32))))] ++ T41) H := hP
  replace hD : va_D A ([(h0, .inr (13, mfs f48)), (q3, .inl (gc g 2, 10, .inl (upd (upd (upd (upd (upd (upd (fun _ => 0) 0 (1 : Int32)) 1 (1 : Int32)) 2 (1 : Int32)) 3 (1 : Int32)) 4 (1 : Int32)) 5 (1 : Int32)))), (q5, .inl (gc g 0, 10, .inl (upd (upd (upd (upd (upd (fun _ => 0) 0 (-1 : Int32)) 1 (-1 : Int32)) 2 (-1 : Int32)) 3 (-1 : Int32)) 4 (-1 : Int32)))), (q21, .inl (gc g 0, 3, .inl (fun _ => 0))), (q32, .inl (gc g 0, 12, .inl (upd (upd (upd (upd (upd (upd (upd (upd (upd (upd (upd (upd (fun _ => 0) 0 (-1 : Int32)) 1 (-1 : Int32)) 2 (-1 : Int32)) 3 (-1 : Int32)) 4 (-1 : Int32)) 5 (-1 : Int32)) 6 (-1 : Int32)) 7 (-1 : Int32)) 8 (-1 : Int32)) 9 (-1 : Int32)) 10 (-1 : Int32)) 11 (-1 : Int32))))] ++ T41) := hD
  refine lv_aload_n hC.1 hC.2.1 dX12_init_446 rfl (lv_at hl 1 rfl) ?_
  refine mp_get hC hP 11 (by decide) wd_1133 (v := .ref q5) (by simp [hf48, hf47, hf46, hf45, hf44, hf43, hf42, hf41, hf40, hf39, hf38, hf37, hf36, hf35, hf34, hf33, hf32, hf31, hf30, hf29, hf28, hf27, hf26, hf25, hf24, hf23, hf22, hf21, hf20, hf19, hf18, hf17, hf16, hf15, hf14, hf13, hf12, hf11, hf10, hf9, hf8, hf7, hf6, hf5, va_up]) dX12_init_447 ?_
  refine lv_iload hC.1 hC.2.1 dX12_init_450 (lv_at hl 0 rfl) ?_
  refine lv_iconst (v := (-1 : Int32)) hC.1 hC.2.1 dX12_init_452 (by decide) ?_
  refine va_iast hC.1 hC.2.1 hC.2.2.2.2.1 hP hD hS 2 0 rfl rfl (inb_in (by decide)) dX12_init_453 (fun H locs hP9 hD9 hS9 => ?_)
  clear hP hD hS
  have hP := hP9
  have hD := hD9
  have hS := hS9
  clear hP9 hD9 hS9
  replace hP : va_P (gD g) vwCl ([(h0, .inr (13, mfs f48)), (q3, .inl (gc g 2, 10, .inl (upd (upd (upd (upd (upd (upd (fun _ => 0) 0 (1 : Int32)) 1 (1 : Int32)) 2 (1 : Int32)) 3 (1 : Int32)) 4 (1 : Int32)) 5 (1 : Int32)))), (q5, .inl (gc g 0, 10, .inl (upd (upd (upd (upd (upd (upd (fun _ => 0) 0 (-1 : Int32)) 1 (-1 : Int32)) 2 (-1 : Int32)) 3 (-1 : Int32)) 4 (-1 : Int32)) 5 (-1 : Int32)))), (q21, .inl (gc g 0, 3, .inl (fun _ => 0))), (q32, .inl (gc g 0, 12, .inl (upd (upd (upd (upd (upd (upd (upd (upd (upd (upd (upd (upd (fun _ => 0) 0 (-1 : Int32)) 1 (-1 : Int32)) 2 (-1 : Int32)) 3 (-1 : Int32)) 4 (-1 : Int32)) 5 (-1 : Int32)) 6 (-1 : Int32)) 7 (-1 : Int32)) 8 (-1 : Int32)) 9 (-1 : Int32)) 10 (-1 : Int32)) 11 (-1 : Int32))))] ++ T41) H := hP
  replace hD : va_D A ([(h0, .inr (13, mfs f48)), (q3, .inl (gc g 2, 10, .inl (upd (upd (upd (upd (upd (upd (fun _ => 0) 0 (1 : Int32)) 1 (1 : Int32)) 2 (1 : Int32)) 3 (1 : Int32)) 4 (1 : Int32)) 5 (1 : Int32)))), (q5, .inl (gc g 0, 10, .inl (upd (upd (upd (upd (upd (upd (fun _ => 0) 0 (-1 : Int32)) 1 (-1 : Int32)) 2 (-1 : Int32)) 3 (-1 : Int32)) 4 (-1 : Int32)) 5 (-1 : Int32)))), (q21, .inl (gc g 0, 3, .inl (fun _ => 0))), (q32, .inl (gc g 0, 12, .inl (upd (upd (upd (upd (upd (upd (upd (upd (upd (upd (upd (upd (fun _ => 0) 0 (-1 : Int32)) 1 (-1 : Int32)) 2 (-1 : Int32)) 3 (-1 : Int32)) 4 (-1 : Int32)) 5 (-1 : Int32)) 6 (-1 : Int32)) 7 (-1 : Int32)) 8 (-1 : Int32)) 9 (-1 : Int32)) 10 (-1 : Int32)) 11 (-1 : Int32))))] ++ T41) := hD
  refine lv_iinc (v := (6 : Int32)) (lv' := [(4, .int (6 : Int32)), (0, .ref h0), (1, .int x1), (2, .int x2), (3, .int x3)]) hC.1 hC.2.1 dX12_init_454 hl (k := 0) rfl (by decide) (by decide) rfl (fun ls hl => ?_)
  refine lv_goto (tgt := 431) hC.1 hC.2.1 dX12_init_457 (by decide) ?_
  refine lv_iload hC.1 hC.2.1 dX12_init_431 (lv_at hl 0 rfl) ?_
  refine lv_bipush (v := (10 : Int32)) hC.1 hC.2.1 dX12_init_433 (by decide) ?_
  refine lv_icmp_ge (tgt := 460) hC.1 hC.2.1 dX12_init_435 (by decide) (fun hc => absurd hc (by decide)) (fun _ => ?_)
  refine lv_aload_n hC.1 hC.2.1 dX12_init_438 rfl (lv_at hl 1 rfl) ?_
  refine mp_get hC hP 9 (by decide) wd_1131 (v := .ref q3) (by simp [hf48, hf47, hf46, hf45, hf44, hf43, hf42, hf41, hf40, hf39, hf38, hf37, hf36, hf35, hf34, hf33, hf32, hf31, hf30, hf29, hf28, hf27, hf26, hf25, hf24, hf23, hf22, hf21, hf20, hf19, hf18, hf17, hf16, hf15, hf14, hf13, hf12, hf11, hf10, hf9, hf8, hf7, hf6, hf5, hf4, hf3, va_up]) dX12_init_439 ?_
  refine lv_iload hC.1 hC.2.1 dX12_init_442 (lv_at hl 0 rfl) ?_
  refine lv_iconst (v := (1 : Int32)) hC.1 hC.2.1 dX12_init_444 (by decide) ?_
  refine va_zast hC.1 hC.2.1 hC.2.2.2.2.1 hP hD hS 1 2 rfl rfl (inb_in (by decide)) dX12_init_445 (fun H locs hP9 hD9 hS9 => ?_)
  clear hP hD hS
  have hP := hP9
  have hD := hD9
  have hS := hS9
  clear hP9 hD9 hS9
  replace hP : va_P (gD g) vwCl ([(h0, .inr (13, mfs f48)), (q3, .inl (gc g 2, 10, .inl (upd (upd (upd (upd (upd (upd (upd (fun _ => 0) 0 (1 : Int32)) 1 (1 : Int32)) 2 (1 : Int32)) 3 (1 : Int32)) 4 (1 : Int32)) 5 (1 : Int32)) 6 (1 : Int32)))), (q5, .inl (gc g 0, 10, .inl (upd (upd (upd (upd (upd (upd (fun _ => 0) 0 (-1 : Int32)) 1 (-1 : Int32)) 2 (-1 : Int32)) 3 (-1 : Int32)) 4 (-1 : Int32)) 5 (-1 : Int32)))), (q21, .inl (gc g 0, 3, .inl (fun _ => 0))), (q32, .inl (gc g 0, 12, .inl (upd (upd (upd (upd (upd (upd (upd (upd (upd (upd (upd (upd (fun _ => 0) 0 (-1 : Int32)) 1 (-1 : Int32)) 2 (-1 : Int32)) 3 (-1 : Int32)) 4 (-1 : Int32)) 5 (-1 : Int32)) 6 (-1 : Int32)) 7 (-1 : Int32)) 8 (-1 : Int32)) 9 (-1 : Int32)) 10 (-1 : Int32)) 11 (-1 : Int32))))] ++ T41) H := hP
  replace hD : va_D A ([(h0, .inr (13, mfs f48)), (q3, .inl (gc g 2, 10, .inl (upd (upd (upd (upd (upd (upd (upd (fun _ => 0) 0 (1 : Int32)) 1 (1 : Int32)) 2 (1 : Int32)) 3 (1 : Int32)) 4 (1 : Int32)) 5 (1 : Int32)) 6 (1 : Int32)))), (q5, .inl (gc g 0, 10, .inl (upd (upd (upd (upd (upd (upd (fun _ => 0) 0 (-1 : Int32)) 1 (-1 : Int32)) 2 (-1 : Int32)) 3 (-1 : Int32)) 4 (-1 : Int32)) 5 (-1 : Int32)))), (q21, .inl (gc g 0, 3, .inl (fun _ => 0))), (q32, .inl (gc g 0, 12, .inl (upd (upd (upd (upd (upd (upd (upd (upd (upd (upd (upd (upd (fun _ => 0) 0 (-1 : Int32)) 1 (-1 : Int32)) 2 (-1 : Int32)) 3 (-1 : Int32)) 4 (-1 : Int32)) 5 (-1 : Int32)) 6 (-1 : Int32)) 7 (-1 : Int32)) 8 (-1 : Int32)) 9 (-1 : Int32)) 10 (-1 : Int32)) 11 (-1 : Int32))))] ++ T41) := hD
  refine lv_aload_n hC.1 hC.2.1 dX12_init_446 rfl (lv_at hl 1 rfl) ?_
  refine mp_get hC hP 11 (by decide) wd_1133 (v := .ref q5) (by simp [hf48, hf47, hf46, hf45, hf44, hf43, hf42, hf41, hf40, hf39, hf38, hf37, hf36, hf35, hf34, hf33, hf32, hf31, hf30, hf29, hf28, hf27, hf26, hf25, hf24, hf23, hf22, hf21, hf20, hf19, hf18, hf17, hf16, hf15, hf14, hf13, hf12, hf11, hf10, hf9, hf8, hf7, hf6, hf5, va_up]) dX12_init_447 ?_
  refine lv_iload hC.1 hC.2.1 dX12_init_450 (lv_at hl 0 rfl) ?_
  refine lv_iconst (v := (-1 : Int32)) hC.1 hC.2.1 dX12_init_452 (by decide) ?_
  refine va_iast hC.1 hC.2.1 hC.2.2.2.2.1 hP hD hS 2 0 rfl rfl (inb_in (by decide)) dX12_init_453 (fun H locs hP9 hD9 hS9 => ?_)
  clear hP hD hS
  have hP := hP9
  have hD := hD9
  have hS := hS9
  clear hP9 hD9 hS9
  replace hP : va_P (gD g) vwCl ([(h0, .inr (13, mfs f48)), (q3, .inl (gc g 2, 10, .inl (upd (upd (upd (upd (upd (upd (upd (fun _ => 0) 0 (1 : Int32)) 1 (1 : Int32)) 2 (1 : Int32)) 3 (1 : Int32)) 4 (1 : Int32)) 5 (1 : Int32)) 6 (1 : Int32)))), (q5, .inl (gc g 0, 10, .inl (upd (upd (upd (upd (upd (upd (upd (fun _ => 0) 0 (-1 : Int32)) 1 (-1 : Int32)) 2 (-1 : Int32)) 3 (-1 : Int32)) 4 (-1 : Int32)) 5 (-1 : Int32)) 6 (-1 : Int32)))), (q21, .inl (gc g 0, 3, .inl (fun _ => 0))), (q32, .inl (gc g 0, 12, .inl (upd (upd (upd (upd (upd (upd (upd (upd (upd (upd (upd (upd (fun _ => 0) 0 (-1 : Int32)) 1 (-1 : Int32)) 2 (-1 : Int32)) 3 (-1 : Int32)) 4 (-1 : Int32)) 5 (-1 : Int32)) 6 (-1 : Int32)) 7 (-1 : Int32)) 8 (-1 : Int32)) 9 (-1 : Int32)) 10 (-1 : Int32)) 11 (-1 : Int32))))] ++ T41) H := hP
  replace hD : va_D A ([(h0, .inr (13, mfs f48)), (q3, .inl (gc g 2, 10, .inl (upd (upd (upd (upd (upd (upd (upd (fun _ => 0) 0 (1 : Int32)) 1 (1 : Int32)) 2 (1 : Int32)) 3 (1 : Int32)) 4 (1 : Int32)) 5 (1 : Int32)) 6 (1 : Int32)))), (q5, .inl (gc g 0, 10, .inl (upd (upd (upd (upd (upd (upd (upd (fun _ => 0) 0 (-1 : Int32)) 1 (-1 : Int32)) 2 (-1 : Int32)) 3 (-1 : Int32)) 4 (-1 : Int32)) 5 (-1 : Int32)) 6 (-1 : Int32)))), (q21, .inl (gc g 0, 3, .inl (fun _ => 0))), (q32, .inl (gc g 0, 12, .inl (upd (upd (upd (upd (upd (upd (upd (upd (upd (upd (upd (upd (fun _ => 0) 0 (-1 : Int32)) 1 (-1 : Int32)) 2 (-1 : Int32)) 3 (-1 : Int32)) 4 (-1 : Int32)) 5 (-1 : Int32)) 6 (-1 : Int32)) 7 (-1 : Int32)) 8 (-1 : Int32)) 9 (-1 : Int32)) 10 (-1 : Int32)) 11 (-1 : Int32))))] ++ T41) := hD
  refine lv_iinc (v := (7 : Int32)) (lv' := [(4, .int (7 : Int32)), (0, .ref h0), (1, .int x1), (2, .int x2), (3, .int x3)]) hC.1 hC.2.1 dX12_init_454 hl (k := 0) rfl (by decide) (by decide) rfl (fun ls hl => ?_)
  refine lv_goto (tgt := 431) hC.1 hC.2.1 dX12_init_457 (by decide) ?_
  refine lv_iload hC.1 hC.2.1 dX12_init_431 (lv_at hl 0 rfl) ?_
  refine lv_bipush (v := (10 : Int32)) hC.1 hC.2.1 dX12_init_433 (by decide) ?_
  refine lv_icmp_ge (tgt := 460) hC.1 hC.2.1 dX12_init_435 (by decide) (fun hc => absurd hc (by decide)) (fun _ => ?_)
  refine lv_aload_n hC.1 hC.2.1 dX12_init_438 rfl (lv_at hl 1 rfl) ?_
  refine mp_get hC hP 9 (by decide) wd_1131 (v := .ref q3) (by simp [hf48, hf47, hf46, hf45, hf44, hf43, hf42, hf41, hf40, hf39, hf38, hf37, hf36, hf35, hf34, hf33, hf32, hf31, hf30, hf29, hf28, hf27, hf26, hf25, hf24, hf23, hf22, hf21, hf20, hf19, hf18, hf17, hf16, hf15, hf14, hf13, hf12, hf11, hf10, hf9, hf8, hf7, hf6, hf5, hf4, hf3, va_up]) dX12_init_439 ?_
  refine lv_iload hC.1 hC.2.1 dX12_init_442 (lv_at hl 0 rfl) ?_
  refine lv_iconst (v := (1 : Int32)) hC.1 hC.2.1 dX12_init_444 (by decide) ?_
  refine va_zast hC.1 hC.2.1 hC.2.2.2.2.1 hP hD hS 1 2 rfl rfl (inb_in (by decide)) dX12_init_445 (fun H locs hP9 hD9 hS9 => ?_)
  clear hP hD hS
  have hP := hP9
  have hD := hD9
  have hS := hS9
  clear hP9 hD9 hS9
  replace hP : va_P (gD g) vwCl ([(h0, .inr (13, mfs f48)), (q3, .inl (gc g 2, 10, .inl (upd (upd (upd (upd (upd (upd (upd (upd (fun _ => 0) 0 (1 : Int32)) 1 (1 : Int32)) 2 (1 : Int32)) 3 (1 : Int32)) 4 (1 : Int32)) 5 (1 : Int32)) 6 (1 : Int32)) 7 (1 : Int32)))), (q5, .inl (gc g 0, 10, .inl (upd (upd (upd (upd (upd (upd (upd (fun _ => 0) 0 (-1 : Int32)) 1 (-1 : Int32)) 2 (-1 : Int32)) 3 (-1 : Int32)) 4 (-1 : Int32)) 5 (-1 : Int32)) 6 (-1 : Int32)))), (q21, .inl (gc g 0, 3, .inl (fun _ => 0))), (q32, .inl (gc g 0, 12, .inl (upd (upd (upd (upd (upd (upd (upd (upd (upd (upd (upd (upd (fun _ => 0) 0 (-1 : Int32)) 1 (-1 : Int32)) 2 (-1 : Int32)) 3 (-1 : Int32)) 4 (-1 : Int32)) 5 (-1 : Int32)) 6 (-1 : Int32)) 7 (-1 : Int32)) 8 (-1 : Int32)) 9 (-1 : Int32)) 10 (-1 : Int32)) 11 (-1 : Int32))))] ++ T41) H := hP
  replace hD : va_D A ([(h0, .inr (13, mfs f48)), (q3, .inl (gc g 2, 10, .inl (upd (upd (upd (upd (upd (upd (upd (upd (fun _ => 0) 0 (1 : Int32)) 1 (1 : Int32)) 2 (1 : Int32)) 3 (1 : Int32)) 4 (1 : Int32)) 5 (1 : Int32)) 6 (1 : Int32)) 7 (1 : Int32)))), (q5, .inl (gc g 0, 10, .inl (upd (upd (upd (upd (upd (upd (upd (fun _ => 0) 0 (-1 : Int32)) 1 (-1 : Int32)) 2 (-1 : Int32)) 3 (-1 : Int32)) 4 (-1 : Int32)) 5 (-1 : Int32)) 6 (-1 : Int32)))), (q21, .inl (gc g 0, 3, .inl (fun _ => 0))), (q32, .inl (gc g 0, 12, .inl (upd (upd (upd (upd (upd (upd (upd (upd (upd (upd (upd (upd (fun _ => 0) 0 (-1 : Int32)) 1 (-1 : Int32)) 2 (-1 : Int32)) 3 (-1 : Int32)) 4 (-1 : Int32)) 5 (-1 : Int32)) 6 (-1 : Int32)) 7 (-1 : Int32)) 8 (-1 : Int32)) 9 (-1 : Int32)) 10 (-1 : Int32)) 11 (-1 : Int32))))] ++ T41) := hD
  refine lv_aload_n hC.1 hC.2.1 dX12_init_446 rfl (lv_at hl 1 rfl) ?_
  refine mp_get hC hP 11 (by decide) wd_1133 (v := .ref q5) (by simp [hf48, hf47, hf46, hf45, hf44, hf43, hf42, hf41, hf40, hf39, hf38, hf37, hf36, hf35, hf34, hf33, hf32, hf31, hf30, hf29, hf28, hf27, hf26, hf25, hf24, hf23, hf22, hf21, hf20, hf19, hf18, hf17, hf16, hf15, hf14, hf13, hf12, hf11, hf10, hf9, hf8, hf7, hf6, hf5, va_up]) dX12_init_447 ?_
  refine lv_iload hC.1 hC.2.1 dX12_init_450 (lv_at hl 0 rfl) ?_
  refine lv_iconst (v := (-1 : Int32)) hC.1 hC.2.1 dX12_init_452 (by decide) ?_
  refine va_iast hC.1 hC.2.1 hC.2.2.2.2.1 hP hD hS 2 0 rfl rfl (inb_in (by decide)) dX12_init_453 (fun H locs hP9 hD9 hS9 => ?_)
  clear hP hD hS
  have hP := hP9
  have hD := hD9
  have hS := hS9
  clear hP9 hD9 hS9
  replace hP : va_P (gD g) vwCl ([(h0, .inr (13, mfs f48)), (q3, .inl (gc g 2, 10, .inl (upd (upd (upd (upd (upd (upd (upd (upd (fun _ => 0) 0 (1 : Int32)) 1 (1 : Int32)) 2 (1 : Int32)) 3 (1 : Int32)) 4 (1 : Int32)) 5 (1 : Int32)) 6 (1 : Int32)) 7 (1 : Int32)))), (q5, .inl (gc g 0, 10, .inl (upd (upd (upd (upd (upd (upd (upd (upd (fun _ => 0) 0 (-1 : Int32)) 1 (-1 : Int32)) 2 (-1 : Int32)) 3 (-1 : Int32)) 4 (-1 : Int32)) 5 (-1 : Int32)) 6 (-1 : Int32)) 7 (-1 : Int32)))), (q21, .inl (gc g 0, 3, .inl (fun _ => 0))), (q32, .inl (gc g 0, 12, .inl (upd (upd (upd (upd (upd (upd (upd (upd (upd (upd (upd (upd (fun _ => 0) 0 (-1 : Int32)) 1 (-1 : Int32)) 2 (-1 : Int32)) 3 (-1 : Int32)) 4 (-1 : Int32)) 5 (-1 : Int32)) 6 (-1 : Int32)) 7 (-1 : Int32)) 8 (-1 : Int32)) 9 (-1 : Int32)) 10 (-1 : Int32)) 11 (-1 : Int32))))] ++ T41) H := hP
  replace hD : va_D A ([(h0, .inr (13, mfs f48)), (q3, .inl (gc g 2, 10, .inl (upd (upd (upd (upd (upd (upd (upd (upd (fun _ => 0) 0 (1 : Int32)) 1 (1 : Int32)) 2 (1 : Int32)) 3 (1 : Int32)) 4 (1 : Int32)) 5 (1 : Int32)) 6 (1 : Int32)) 7 (1 : Int32)))), (q5, .inl (gc g 0, 10, .inl (upd (upd (upd (upd (upd (upd (upd (upd (fun _ => 0) 0 (-1 : Int32)) 1 (-1 : Int32)) 2 (-1 : Int32)) 3 (-1 : Int32)) 4 (-1 : Int32)) 5 (-1 : Int32)) 6 (-1 : Int32)) 7 (-1 : Int32)))), (q21, .inl (gc g 0, 3, .inl (fun _ => 0))), (q32, .inl (gc g 0, 12, .inl (upd (upd (upd (upd (upd (upd (upd (upd (upd (upd (upd (upd (fun _ => 0) 0 (-1 : Int32)) 1 (-1 : Int32)) 2 (-1 : Int32)) 3 (-1 : Int32)) 4 (-1 : Int32)) 5 (-1 : Int32)) 6 (-1 : Int32)) 7 (-1 : Int32)) 8 (-1 : Int32)) 9 (-1 : Int32)) 10 (-1 : Int32)) 11 (-1 : Int32))))] ++ T41) := hD
  refine lv_iinc (v := (8 : Int32)) (lv' := [(4, .int (8 : Int32)), (0, .ref h0), (1, .int x1), (2, .int x2), (3, .int x3)]) hC.1 hC.2.1 dX12_init_454 hl (k := 0) rfl (by decide) (by decide) rfl (fun ls hl => ?_)
  refine lv_goto (tgt := 431) hC.1 hC.2.1 dX12_init_457 (by decide) ?_
  refine lv_iload hC.1 hC.2.1 dX12_init_431 (lv_at hl 0 rfl) ?_
  refine lv_bipush (v := (10 : Int32)) hC.1 hC.2.1 dX12_init_433 (by decide) ?_
  refine lv_icmp_ge (tgt := 460) hC.1 hC.2.1 dX12_init_435 (by decide) (fun hc => absurd hc (by decide)) (fun _ => ?_)
  refine lv_aload_n hC.1 hC.2.1 dX12_init_438 rfl (lv_at hl 1 rfl) ?_
  refine mp_get hC hP 9 (by decide) wd_1131 (v := .ref q3) (by simp [hf48, hf47, hf46, hf45, hf44, hf43, hf42, hf41, hf40, hf39, hf38, hf37, hf36, hf35, hf34, hf33, hf32, hf31, hf30, hf29, hf28, hf27, hf26, hf25, hf24, hf23, hf22, hf21, hf20, hf19, hf18, hf17, hf16, hf15, hf14, hf13, hf12, hf11, hf10, hf9, hf8, hf7, hf6, hf5, hf4, hf3, va_up]) dX12_init_439 ?_
  refine lv_iload hC.1 hC.2.1 dX12_init_442 (lv_at hl 0 rfl) ?_
  refine lv_iconst (v := (1 : Int32)) hC.1 hC.2.1 dX12_init_444 (by decide) ?_
  refine va_zast hC.1 hC.2.1 hC.2.2.2.2.1 hP hD hS 1 2 rfl rfl (inb_in (by decide)) dX12_init_445 (fun H locs hP9 hD9 hS9 => ?_)
  clear hP hD hS
  have hP := hP9
  have hD := hD9
  have hS := hS9
  clear hP9 hD9 hS9
  replace hP : va_P (gD g) vwCl ([(h0, .inr (13, mfs f48)), (q3, .inl (gc g 2, 10, .inl (upd (upd (upd (upd (upd (upd (upd (upd (upd (fun _ => 0) 0 (1 : Int32)) 1 (1 : Int32)) 2 (1 : Int32)) 3 (1 : Int32)) 4 (1 : Int32)) 5 (1 : Int32)) 6 (1 : Int32)) 7 (1 : Int32)) 8 (1 : Int32)))), (q5, .inl (gc g 0, 10, .inl (upd (upd (upd (upd (upd (upd (upd (upd (fun _ => 0) 0 (-1 : Int32)) 1 (-1 : Int32)) 2 (-1 : Int32)) 3 (-1 : Int32)) 4 (-1 : Int32)) 5 (-1 : Int32)) 6 (-1 : Int32)) 7 (-1 : Int32)))), (q21, .inl (gc g 0, 3, .inl (fun _ => 0))), (q32, .inl (gc g 0, 12, .inl (upd (upd (upd (upd (upd (upd (upd (upd (upd (upd (upd (upd (fun _ => 0) 0 (-1 : Int32)) 1 (-1 : Int32)) 2 (-1 : Int32)) 3 (-1 : Int32)) 4 (-1 : Int32)) 5 (-1 : Int32)) 6 (-1 : Int32)) 7 (-1 : Int32)) 8 (-1 : Int32)) 9 (-1 : Int32)) 10 (-1 : Int32)) 11 (-1 : Int32))))] ++ T41) H := hP
  replace hD : va_D A ([(h0, .inr (13, mfs f48)), (q3, .inl (gc g 2, 10, .inl (upd (upd (upd (upd (upd (upd (upd (upd (upd (fun _ => 0) 0 (1 : Int32)) 1 (1 : Int32)) 2 (1 : Int32)) 3 (1 : Int32)) 4 (1 : Int32)) 5 (1 : Int32)) 6 (1 : Int32)) 7 (1 : Int32)) 8 (1 : Int32)))), (q5, .inl (gc g 0, 10, .inl (upd (upd (upd (upd (upd (upd (upd (upd (fun _ => 0) 0 (-1 : Int32)) 1 (-1 : Int32)) 2 (-1 : Int32)) 3 (-1 : Int32)) 4 (-1 : Int32)) 5 (-1 : Int32)) 6 (-1 : Int32)) 7 (-1 : Int32)))), (q21, .inl (gc g 0, 3, .inl (fun _ => 0))), (q32, .inl (gc g 0, 12, .inl (upd (upd (upd (upd (upd (upd (upd (upd (upd (upd (upd (upd (fun _ => 0) 0 (-1 : Int32)) 1 (-1 : Int32)) 2 (-1 : Int32)) 3 (-1 : Int32)) 4 (-1 : Int32)) 5 (-1 : Int32)) 6 (-1 : Int32)) 7 (-1 : Int32)) 8 (-1 : Int32)) 9 (-1 : Int32)) 10 (-1 : Int32)) 11 (-1 : Int32))))] ++ T41) := hD
  refine lv_aload_n hC.1 hC.2.1 dX12_init_446 rfl (lv_at hl 1 rfl) ?_
  refine mp_get hC hP 11 (by decide) wd_1133 (v := .ref q5) (by simp [hf48, hf47, hf46, hf45, hf44, hf43, hf42, hf41, hf40, hf39, hf38, hf37, hf36, hf35, hf34, hf33, hf32, hf31, hf30, hf29, hf28, hf27, hf26, hf25, hf24, hf23, hf22, hf21, hf20, hf19, hf18, hf17, hf16, hf15, hf14, hf13, hf12, hf11, hf10, hf9, hf8, hf7, hf6, hf5, va_up]) dX12_init_447 ?_
  refine lv_iload hC.1 hC.2.1 dX12_init_450 (lv_at hl 0 rfl) ?_
  refine lv_iconst (v := (-1 : Int32)) hC.1 hC.2.1 dX12_init_452 (by decide) ?_
  refine va_iast hC.1 hC.2.1 hC.2.2.2.2.1 hP hD hS 2 0 rfl rfl (inb_in (by decide)) dX12_init_453 (fun H locs hP9 hD9 hS9 => ?_)
  clear hP hD hS
  have hP := hP9
  have hD := hD9
  have hS := hS9
  clear hP9 hD9 hS9
  replace hP : va_P (gD g) vwCl ([(h0, .inr (13, mfs f48)), (q3, .inl (gc g 2, 10, .inl (upd (upd (upd (upd (upd (upd (upd (upd (upd (fun _ => 0) 0 (1 : Int32)) 1 (1 : Int32)) 2 (1 : Int32)) 3 (1 : Int32)) 4 (1 : Int32)) 5 (1 : Int32)) 6 (1 : Int32)) 7 (1 : Int32)) 8 (1 : Int32)))), (q5, .inl (gc g 0, 10, .inl (upd (upd (upd (upd (upd (upd (upd (upd (upd (fun _ => 0) 0 (-1 : Int32)) 1 (-1 : Int32)) 2 (-1 : Int32)) 3 (-1 : Int32)) 4 (-1 : Int32)) 5 (-1 : Int32)) 6 (-1 : Int32)) 7 (-1 : Int32)) 8 (-1 : Int32)))), (q21, .inl (gc g 0, 3, .inl (fun _ => 0))), (q32, .inl (gc g 0, 12, .inl (upd (upd (upd (upd (upd (upd (upd (upd (upd (upd (upd (upd (fun _ => 0) 0 (-1 : Int32)) 1 (-1 : Int32)) 2 (-1 : Int32)) 3 (-1 : Int32)) 4 (-1 : Int32)) 5 (-1 : Int32)) 6 (-1 : Int32)) 7 (-1 : Int32)) 8 (-1 : Int32)) 9 (-1 : Int32)) 10 (-1 : Int32)) 11 (-1 : Int32))))] ++ T41) H := hP
  replace hD : va_D A ([(h0, .inr (13, mfs f48)), (q3, .inl (gc g 2, 10, .inl (upd (upd (upd (upd (upd (upd (upd (upd (upd (fun _ => 0) 0 (1 : Int32)) 1 (1 : Int32)) 2 (1 : Int32)) 3 (1 : Int32)) 4 (1 : Int32)) 5 (1 : Int32)) 6 (1 : Int32)) 7 (1 : Int32)) 8 (1 : Int32)))), (q5, .inl (gc g 0, 10, .inl (upd (upd (upd (upd (upd (upd (upd (upd (upd (fun _ => 0) 0 (-1 : Int32)) 1 (-1 : Int32)) 2 (-1 : Int32)) 3 (-1 : Int32)) 4 (-1 : Int32)) 5 (-1 : Int32)) 6 (-1 : Int32)) 7 (-1 : Int32)) 8 (-1 : Int32)))), (q21, .inl (gc g 0, 3, .inl (fun _ => 0))), (q32, .inl (gc g 0, 12, .inl (upd (upd (upd (upd (upd (upd (upd (upd (upd (upd (upd (upd (fun _ => 0) 0 (-1 : Int32)) 1 (-1 : Int32)) 2 (-1 : Int32)) 3 (-1 : Int32)) 4 (-1 : Int32)) 5 (-1 : Int32)) 6 (-1 : Int32)) 7 (-1 : Int32)) 8 (-1 : Int32)) 9 (-1 : Int32)) 10 (-1 : Int32)) 11 (-1 : Int32))))] ++ T41) := hD
  refine lv_iinc (v := (9 : Int32)) (lv' := [(4, .int (9 : Int32)), (0, .ref h0), (1, .int x1), (2, .int x2), (3, .int x3)]) hC.1 hC.2.1 dX12_init_454 hl (k := 0) rfl (by decide) (by decide) rfl (fun ls hl => ?_)
  refine lv_goto (tgt := 431) hC.1 hC.2.1 dX12_init_457 (by decide) ?_
  refine lv_iload hC.1 hC.2.1 dX12_init_431 (lv_at hl 0 rfl) ?_
  refine lv_bipush (v := (10 : Int32)) hC.1 hC.2.1 dX12_init_433 (by decide) ?_
  refine lv_icmp_ge (tgt := 460) hC.1 hC.2.1 dX12_init_435 (by decide) (fun hc => absurd hc (by decide)) (fun _ => ?_)
  refine lv_aload_n hC.1 hC.2.1 dX12_init_438 rfl (lv_at hl 1 rfl) ?_
  refine mp_get hC hP 9 (by decide) wd_1131 (v := .ref q3) (by simp [hf48, hf47, hf46, hf45, hf44, hf43, hf42, hf41, hf40, hf39, hf38, hf37, hf36, hf35, hf34, hf33, hf32, hf31, hf30, hf29, hf28, hf27, hf26, hf25, hf24, hf23, hf22, hf21, hf20, hf19, hf18, hf17, hf16, hf15, hf14, hf13, hf12, hf11, hf10, hf9, hf8, hf7, hf6, hf5, hf4, hf3, va_up]) dX12_init_439 ?_
  refine lv_iload hC.1 hC.2.1 dX12_init_442 (lv_at hl 0 rfl) ?_
  refine lv_iconst (v := (1 : Int32)) hC.1 hC.2.1 dX12_init_444 (by decide) ?_
  refine va_zast hC.1 hC.2.1 hC.2.2.2.2.1 hP hD hS 1 2 rfl rfl (inb_in (by decide)) dX12_init_445 (fun H locs hP9 hD9 hS9 => ?_)
  clear hP hD hS
  have hP := hP9
  have hD := hD9
  have hS := hS9
  clear hP9 hD9 hS9
  replace hP : va_P (gD g) vwCl ([(h0, .inr (13, mfs f48)), (q3, .inl (gc g 2, 10, .inl (upd (upd (upd (upd (upd (upd (upd (upd (upd (upd (fun _ => 0) 0 (1 : Int32)) 1 (1 : Int32)) 2 (1 : Int32)) 3 (1 : Int32)) 4 (1 : Int32)) 5 (1 : Int32)) 6 (1 : Int32)) 7 (1 : Int32)) 8 (1 : Int32)) 9 (1 : Int32)))), (q5, .inl (gc g 0, 10, .inl (upd (upd (upd (upd (upd (upd (upd (upd (upd (fun _ => 0) 0 (-1 : Int32)) 1 (-1 : Int32)) 2 (-1 : Int32)) 3 (-1 : Int32)) 4 (-1 : Int32)) 5 (-1 : Int32)) 6 (-1 : Int32)) 7 (-1 : Int32)) 8 (-1 : Int32)))), (q21, .inl (gc g 0, 3, .inl (fun _ => 0))), (q32, .inl (gc g 0, 12, .inl (upd (upd (upd (upd (upd (upd (upd (upd (upd (upd (upd (upd (fun _ => 0) 0 (-1 : Int32)) 1 (-1 : Int32)) 2 (-1 : Int32)) 3 (-1 : Int32)) 4 (-1 : Int32)) 5 (-1 : Int32)) 6 (-1 : Int32)) 7 (-1 : Int32)) 8 (-1 : Int32)) 9 (-1 : Int32)) 10 (-1 : Int32)) 11 (-1 : Int32))))] ++ T41) H := hP
  replace hD : va_D A ([(h0, .inr (13, mfs f48)), (q3, .inl (gc g 2, 10, .inl (upd (upd (upd (upd (upd (upd (upd (upd (upd (upd (fun _ => 0) 0 (1 : Int32)) 1 (1 : Int32)) 2 (1 : Int32)) 3 (1 : Int32)) 4 (1 : Int32)) 5 (1 : Int32)) 6 (1 : Int32)) 7 (1 : Int32)) 8 (1 : Int32)) 9 (1 : Int32)))), (q5, .inl (gc g 0, 10, .inl (upd (upd (upd (upd (upd (upd (upd (upd (upd (fun _ => 0) 0 (-1 : Int32)) 1 (-1 : Int32)) 2 (-1 : Int32)) 3 (-1 : Int32)) 4 (-1 : Int32)) 5 (-1 : Int32)) 6 (-1 : Int32)) 7 (-1 : Int32)) 8 (-1 : Int32)))), (q21, .inl (gc g 0, 3, .inl (fun _ => 0))), (q32, .inl (gc g 0, 12, .inl (upd (upd (upd (upd (upd (upd (upd (upd (upd (upd (upd (upd (fun _ => 0) 0 (-1 : Int32)) 1 (-1 : Int32)) 2 (-1 : Int32)) 3 (-1 : Int32)) 4 (-1 : Int32)) 5 (-1 : Int32)) 6 (-1 : Int32)) 7 (-1 : Int32)) 8 (-1 : Int32)) 9 (-1 : Int32)) 10 (-1 : Int32)) 11 (-1 : Int32))))] ++ T41) := hD
  refine lv_aload_n hC.1 hC.2.1 dX12_init_446 rfl (lv_at hl 1 rfl) ?_
  refine mp_get hC hP 11 (by decide) wd_1133 (v := .ref q5) (by simp [hf48, hf47, hf46, hf45, hf44, hf43, hf42, hf41, hf40, hf39, hf38, hf37, hf36, hf35, hf34, hf33, hf32, hf31, hf30, hf29, hf28, hf27, hf26, hf25, hf24, hf23, hf22, hf21, hf20, hf19, hf18, hf17, hf16, hf15, hf14, hf13, hf12, hf11, hf10, hf9, hf8, hf7, hf6, hf5, va_up]) dX12_init_447 ?_
  refine lv_iload hC.1 hC.2.1 dX12_init_450 (lv_at hl 0 rfl) ?_
  refine lv_iconst (v := (-1 : Int32)) hC.1 hC.2.1 dX12_init_452 (by decide) ?_
  refine va_iast hC.1 hC.2.1 hC.2.2.2.2.1 hP hD hS 2 0 rfl rfl (inb_in (by decide)) dX12_init_453 (fun H locs hP9 hD9 hS9 => ?_)
  clear hP hD hS
  have hP := hP9
  have hD := hD9
  have hS := hS9
  clear hP9 hD9 hS9
  replace hP : va_P (gD g) vwCl ([(h0, .inr (13, mfs f48)), (q3, .inl (gc g 2, 10, .inl (upd (upd (upd (upd (upd (upd (upd (upd (upd (upd (fun _ => 0) 0 (1 : Int32)) 1 (1 : Int32)) 2 (1 : Int32)) 3 (1 : Int32)) 4 (1 : Int32)) 5 (1 : Int32)) 6 (1 : Int32)) 7 (1 : Int32)) 8 (1 : Int32)) 9 (1 : Int32)))), (q5, .inl (gc g 0, 10, .inl (upd (upd (upd (upd (upd (upd (upd (upd (upd (upd (fun _ => 0) 0 (-1 : Int32)) 1 (-1 : Int32)) 2 (-1 : Int32)) 3 (-1 : Int32)) 4 (-1 : Int32)) 5 (-1 : Int32)) 6 (-1 : Int32)) 7 (-1 : Int32)) 8 (-1 : Int32)) 9 (-1 : Int32)))), (q21, .inl (gc g 0, 3, .inl (fun _ => 0))), (q32, .inl (gc g 0, 12, .inl (upd (upd (upd (upd (upd (upd (upd (upd (upd (upd (upd (upd (fun _ => 0) 0 (-1 : Int32)) 1 (-1 : Int32)) 2 (-1 : Int32)) 3 (-1 : Int32)) 4 (-1 : Int32)) 5 (-1 : Int32)) 6 (-1 : Int32)) 7 (-1 : Int32)) 8 (-1 : Int32)) 9 (-1 : Int32)) 10 (-1 : Int32)) 11 (-1 : Int32))))] ++ T41) H := hP
  replace hD : va_D A ([(h0, .inr (13, mfs f48)), (q3, .inl (gc g 2, 10, .inl (upd (upd (upd (upd (upd (upd (upd (upd (upd (upd (fun _ => 0) 0 (1 : Int32)) 1 (1 : Int32)) 2 (1 : Int32)) 3 (1 : Int32)) 4 (1 : Int32)) 5 (1 : Int32)) 6 (1 : Int32)) 7 (1 : Int32)) 8 (1 : Int32)) 9 (1 : Int32)))), (q5, .inl (gc g 0, 10, .inl (upd (upd (upd (upd (upd (upd (upd (upd (upd (upd (fun _ => 0) 0 (-1 : Int32)) 1 (-1 : Int32)) 2 (-1 : Int32)) 3 (-1 : Int32)) 4 (-1 : Int32)) 5 (-1 : Int32)) 6 (-1 : Int32)) 7 (-1 : Int32)) 8 (-1 : Int32)) 9 (-1 : Int32)))), (q21, .inl (gc g 0, 3, .inl (fun _ => 0))), (q32, .inl (gc g 0, 12, .inl (upd (upd (upd (upd (upd (upd (upd (upd (upd (upd (upd (upd (fun _ => 0) 0 (-1 : Int32)) 1 (-1 : Int32)) 2 (-1 : Int32)) 3 (-1 : Int32)) 4 (-1 : Int32)) 5 (-1 : Int32)) 6 (-1 : Int32)) 7 (-1 : Int32)) 8 (-1 : Int32)) 9 (-1 : Int32)) 10 (-1 : Int32)) 11 (-1 : Int32))))] ++ T41) := hD
  refine lv_iinc (v := (10 : Int32)) (lv' := [(4, .int (10 : Int32)), (0, .ref h0), (1, .int x1), (2, .int x2), (3, .int x3)]) hC.1 hC.2.1 dX12_init_454 hl (k := 0) rfl (by decide) (by decide) rfl (fun ls hl => ?_)
  refine lv_goto (tgt := 431) hC.1 hC.2.1 dX12_init_457 (by decide) ?_
  refine lv_iload hC.1 hC.2.1 dX12_init_431 (lv_at hl 0 rfl) ?_
  refine lv_bipush (v := (10 : Int32)) hC.1 hC.2.1 dX12_init_433 (by decide) ?_
  refine lv_icmp_ge (tgt := 460) hC.1 hC.2.1 dX12_init_435 (by decide) (fun _ => ?_) (fun hc => absurd (by decide) hc)
  refine lv_aload_n hC.1 hC.2.1 dX12_init_460 rfl (lv_at hl 1 rfl) ?_
  refine mp_get hC hP 11 (by decide) wd_1133 (v := .ref q5) (by simp [hf48, hf47, hf46, hf45, hf44, hf43, hf42, hf41, hf40, hf39, hf38, hf37, hf36, hf35, hf34, hf33, hf32, hf31, hf30, hf29, hf28, hf27, hf26, hf25, hf24, hf23, hf22, hf21, hf20, hf19, hf18, hf17, hf16, hf15, hf14, hf13, hf12, hf11, hf10, hf9, hf8, hf7, hf6, hf5, va_up]) dX12_init_461 ?_
  refine lv_bipush (v := (6 : Int32)) hC.1 hC.2.1 dX12_init_464 (by decide) ?_
  refine lv_iconst (v := (0 : Int32)) hC.1 hC.2.1 dX12_init_466 (by decide) ?_
  refine va_iast hC.1 hC.2.1 hC.2.2.2.2.1 hP hD hS 2 0 rfl rfl (inb_in (by decide)) dX12_init_467 (fun H locs hP9 hD9 hS9 => ?_)
  clear hP hD hS
  have hP := hP9
  have hD := hD9
  have hS := hS9
  clear hP9 hD9 hS9
  replace hP : va_P (gD g) vwCl ([(h0, .inr (13, mfs f48)), (q3, .inl (gc g 2, 10, .inl (upd (upd (upd (upd (upd (upd (upd (upd (upd (upd (fun _ => 0) 0 (1 : Int32)) 1 (1 : Int32)) 2 (1 : Int32)) 3 (1 : Int32)) 4 (1 : Int32)) 5 (1 : Int32)) 6 (1 : Int32)) 7 (1 : Int32)) 8 (1 : Int32)) 9 (1 : Int32)))), (q5, .inl (gc g 0, 10, .inl (upd (upd (upd (upd (upd (upd (upd (upd (upd (upd (upd (fun _ => 0) 0 (-1 : Int32)) 1 (-1 : Int32)) 2 (-1 : Int32)) 3 (-1 : Int32)) 4 (-1 : Int32)) 5 (-1 : Int32)) 6 (-1 : Int32)) 7 (-1 : Int32)) 8 (-1 : Int32)) 9 (-1 : Int32)) 6 (0 : Int32)))), (q21, .inl (gc g 0, 3, .inl (fun _ => 0))), (q32, .inl (gc g 0, 12, .inl (upd (upd (upd (upd (upd (upd (upd (upd (upd (upd (upd (upd (fun _ => 0) 0 (-1 : Int32)) 1 (-1 : Int32)) 2 (-1 : Int32)) 3 (-1 : Int32)) 4 (-1 : Int32)) 5 (-1 : Int32)) 6 (-1 : Int32)) 7 (-1 : Int32)) 8 (-1 : Int32)) 9 (-1 : Int32)) 10 (-1 : Int32)) 11 (-1 : Int32))))] ++ T41) H := hP
  replace hD : va_D A ([(h0, .inr (13, mfs f48)), (q3, .inl (gc g 2, 10, .inl (upd (upd (upd (upd (upd (upd (upd (upd (upd (upd (fun _ => 0) 0 (1 : Int32)) 1 (1 : Int32)) 2 (1 : Int32)) 3 (1 : Int32)) 4 (1 : Int32)) 5 (1 : Int32)) 6 (1 : Int32)) 7 (1 : Int32)) 8 (1 : Int32)) 9 (1 : Int32)))), (q5, .inl (gc g 0, 10, .inl (upd (upd (upd (upd (upd (upd (upd (upd (upd (upd (upd (fun _ => 0) 0 (-1 : Int32)) 1 (-1 : Int32)) 2 (-1 : Int32)) 3 (-1 : Int32)) 4 (-1 : Int32)) 5 (-1 : Int32)) 6 (-1 : Int32)) 7 (-1 : Int32)) 8 (-1 : Int32)) 9 (-1 : Int32)) 6 (0 : Int32)))), (q21, .inl (gc g 0, 3, .inl (fun _ => 0))), (q32, .inl (gc g 0, 12, .inl (upd (upd (upd (upd (upd (upd (upd (upd (upd (upd (upd (upd (fun _ => 0) 0 (-1 : Int32)) 1 (-1 : Int32)) 2 (-1 : Int32)) 3 (-1 : Int32)) 4 (-1 : Int32)) 5 (-1 : Int32)) 6 (-1 : Int32)) 7 (-1 : Int32)) 8 (-1 : Int32)) 9 (-1 : Int32)) 10 (-1 : Int32)) 11 (-1 : Int32))))] ++ T41) := hD
  refine lv_aload_n hC.1 hC.2.1 dX12_init_468 rfl (lv_at hl 1 rfl) ?_
  refine mp_get hC hP 11 (by decide) wd_1133 (v := .ref q5) (by simp [hf48, hf47, hf46, hf45, hf44, hf43, hf42, hf41, hf40, hf39, hf38, hf37, hf36, hf35, hf34, hf33, hf32, hf31, hf30, hf29, hf28, hf27, hf26, hf25, hf24, hf23, hf22, hf21, hf20, hf19, hf18, hf17, hf16, hf15, hf14, hf13, hf12, hf11, hf10, hf9, hf8, hf7, hf6, hf5, va_up]) dX12_init_469 ?_
  refine lv_bipush (v := (7 : Int32)) hC.1 hC.2.1 dX12_init_472 (by decide) ?_
  refine lv_iconst (v := (2 : Int32)) hC.1 hC.2.1 dX12_init_474 (by decide) ?_
  refine va_iast hC.1 hC.2.1 hC.2.2.2.2.1 hP hD hS 2 0 rfl rfl (inb_in (by decide)) dX12_init_475 (fun H locs hP9 hD9 hS9 => ?_)
  clear hP hD hS
  have hP := hP9
  have hD := hD9
  have hS := hS9
  clear hP9 hD9 hS9
  replace hP : va_P (gD g) vwCl ([(h0, .inr (13, mfs f48)), (q3, .inl (gc g 2, 10, .inl (upd (upd (upd (upd (upd (upd (upd (upd (upd (upd (fun _ => 0) 0 (1 : Int32)) 1 (1 : Int32)) 2 (1 : Int32)) 3 (1 : Int32)) 4 (1 : Int32)) 5 (1 : Int32)) 6 (1 : Int32)) 7 (1 : Int32)) 8 (1 : Int32)) 9 (1 : Int32)))), (q5, .inl (gc g 0, 10, .inl (upd (upd (upd (upd (upd (upd (upd (upd (upd (upd (upd (upd (fun _ => 0) 0 (-1 : Int32)) 1 (-1 : Int32)) 2 (-1 : Int32)) 3 (-1 : Int32)) 4 (-1 : Int32)) 5 (-1 : Int32)) 6 (-1 : Int32)) 7 (-1 : Int32)) 8 (-1 : Int32)) 9 (-1 : Int32)) 6 (0 : Int32)) 7 (2 : Int32)))), (q21, .inl (gc g 0, 3, .inl (fun _ => 0))), (q32, .inl (gc g 0, 12, .inl (upd (upd (upd (upd (upd (upd (upd (upd (upd (upd (upd (upd (fun _ => 0) 0 (-1 : Int32)) 1 (-1 : Int32)) 2 (-1 : Int32)) 3 (-1 : Int32)) 4 (-1 : Int32)) 5 (-1 : Int32)) 6 (-1 : Int32)) 7 (-1 : Int32)) 8 (-1 : Int32)) 9 (-1 : Int32)) 10 (-1 : Int32)) 11 (-1 : Int32))))] ++ T41) H := hP
  replace hD : va_D A ([(h0, .inr (13, mfs f48)), (q3, .inl (gc g 2, 10, .inl (upd (upd (upd (upd (upd (upd (upd (upd (upd (upd (fun _ => 0) 0 (1 : Int32)) 1 (1 : Int32)) 2 (1 : Int32)) 3 (1 : Int32)) 4 (1 : Int32)) 5 (1 : Int32)) 6 (1 : Int32)) 7 (1 : Int32)) 8 (1 : Int32)) 9 (1 : Int32)))), (q5, .inl (gc g 0, 10, .inl (upd (upd (upd (upd (upd (upd (upd (upd (upd (upd (upd (upd (fun _ => 0) 0 (-1 : Int32)) 1 (-1 : Int32)) 2 (-1 : Int32)) 3 (-1 : Int32)) 4 (-1 : Int32)) 5 (-1 : Int32)) 6 (-1 : Int32)) 7 (-1 : Int32)) 8 (-1 : Int32)) 9 (-1 : Int32)) 6 (0 : Int32)) 7 (2 : Int32)))), (q21, .inl (gc g 0, 3, .inl (fun _ => 0))), (q32, .inl (gc g 0, 12, .inl (upd (upd (upd (upd (upd (upd (upd (upd (upd (upd (upd (upd (fun _ => 0) 0 (-1 : Int32)) 1 (-1 : Int32)) 2 (-1 : Int32)) 3 (-1 : Int32)) 4 (-1 : Int32)) 5 (-1 : Int32)) 6 (-1 : Int32)) 7 (-1 : Int32)) 8 (-1 : Int32)) 9 (-1 : Int32)) 10 (-1 : Int32)) 11 (-1 : Int32))))] ++ T41) := hD
  refine lv_aload_n hC.1 hC.2.1 dX12_init_476 rfl (lv_at hl 1 rfl) ?_
  refine mp_get hC hP 11 (by decide) wd_1133 (v := .ref q5) (by simp [hf48, hf47, hf46, hf45, hf44, hf43, hf42, hf41, hf40, hf39, hf38, hf37, hf36, hf35, hf34, hf33, hf32, hf31, hf30, hf29, hf28, hf27, hf26, hf25, hf24, hf23, hf22, hf21, hf20, hf19, hf18, hf17, hf16, hf15, hf14, hf13, hf12, hf11, hf10, hf9, hf8, hf7, hf6, hf5, va_up]) dX12_init_477 ?_
  refine lv_bipush (v := (8 : Int32)) hC.1 hC.2.1 dX12_init_480 (by decide) ?_
  refine lv_iconst (v := (4 : Int32)) hC.1 hC.2.1 dX12_init_482 (by decide) ?_
  refine va_iast hC.1 hC.2.1 hC.2.2.2.2.1 hP hD hS 2 0 rfl rfl (inb_in (by decide)) dX12_init_483 (fun H locs hP9 hD9 hS9 => ?_)
  clear hP hD hS
  have hP := hP9
  have hD := hD9
  have hS := hS9
  clear hP9 hD9 hS9
  replace hP : va_P (gD g) vwCl ([(h0, .inr (13, mfs f48)), (q3, .inl (gc g 2, 10, .inl (upd (upd (upd (upd (upd (upd (upd (upd (upd (upd (fun _ => 0) 0 (1 : Int32)) 1 (1 : Int32)) 2 (1 : Int32)) 3 (1 : Int32)) 4 (1 : Int32)) 5 (1 : Int32)) 6 (1 : Int32)) 7 (1 : Int32)) 8 (1 : Int32)) 9 (1 : Int32)))), (q5, .inl (gc g 0, 10, .inl (upd (upd (upd (upd (upd (upd (upd (upd (upd (upd (upd (upd (upd (fun _ => 0) 0 (-1 : Int32)) 1 (-1 : Int32)) 2 (-1 : Int32)) 3 (-1 : Int32)) 4 (-1 : Int32)) 5 (-1 : Int32)) 6 (-1 : Int32)) 7 (-1 : Int32)) 8 (-1 : Int32)) 9 (-1 : Int32)) 6 (0 : Int32)) 7 (2 : Int32)) 8 (4 : Int32)))), (q21, .inl (gc g 0, 3, .inl (fun _ => 0))), (q32, .inl (gc g 0, 12, .inl (upd (upd (upd (upd (upd (upd (upd (upd (upd (upd (upd (upd (fun _ => 0) 0 (-1 : Int32)) 1 (-1 : Int32)) 2 (-1 : Int32)) 3 (-1 : Int32)) 4 (-1 : Int32)) 5 (-1 : Int32)) 6 (-1 : Int32)) 7 (-1 : Int32)) 8 (-1 : Int32)) 9 (-1 : Int32)) 10 (-1 : Int32)) 11 (-1 : Int32))))] ++ T41) H := hP
  replace hD : va_D A ([(h0, .inr (13, mfs f48)), (q3, .inl (gc g 2, 10, .inl (upd (upd (upd (upd (upd (upd (upd (upd (upd (upd (fun _ => 0) 0 (1 : Int32)) 1 (1 : Int32)) 2 (1 : Int32)) 3 (1 : Int32)) 4 (1 : Int32)) 5 (1 : Int32)) 6 (1 : Int32)) 7 (1 : Int32)) 8 (1 : Int32)) 9 (1 : Int32)))), (q5, .inl (gc g 0, 10, .inl (upd (upd (upd (upd (upd (upd (upd (upd (upd (upd (upd (upd (upd (fun _ => 0) 0 (-1 : Int32)) 1 (-1 : Int32)) 2 (-1 : Int32)) 3 (-1 : Int32)) 4 (-1 : Int32)) 5 (-1 : Int32)) 6 (-1 : Int32)) 7 (-1 : Int32)) 8 (-1 : Int32)) 9 (-1 : Int32)) 6 (0 : Int32)) 7 (2 : Int32)) 8 (4 : Int32)))), (q21, .inl (gc g 0, 3, .inl (fun _ => 0))), (q32, .inl (gc g 0, 12, .inl (upd (upd (upd (upd (upd (upd (upd (upd (upd (upd (upd (upd (fun _ => 0) 0 (-1 : Int32)) 1 (-1 : Int32)) 2 (-1 : Int32)) 3 (-1 : Int32)) 4 (-1 : Int32)) 5 (-1 : Int32)) 6 (-1 : Int32)) 7 (-1 : Int32)) 8 (-1 : Int32)) 9 (-1 : Int32)) 10 (-1 : Int32)) 11 (-1 : Int32))))] ++ T41) := hD
  refine lv_aload_n hC.1 hC.2.1 dX12_init_484 rfl (lv_at hl 1 rfl) ?_
  refine mp_get hC hP 11 (by decide) wd_1133 (v := .ref q5) (by simp [hf48, hf47, hf46, hf45, hf44, hf43, hf42, hf41, hf40, hf39, hf38, hf37, hf36, hf35, hf34, hf33, hf32, hf31, hf30, hf29, hf28, hf27, hf26, hf25, hf24, hf23, hf22, hf21, hf20, hf19, hf18, hf17, hf16, hf15, hf14, hf13, hf12, hf11, hf10, hf9, hf8, hf7, hf6, hf5, va_up]) dX12_init_485 ?_
  refine lv_bipush (v := (9 : Int32)) hC.1 hC.2.1 dX12_init_488 (by decide) ?_
  refine lv_bipush (v := (6 : Int32)) hC.1 hC.2.1 dX12_init_490 (by decide) ?_
  refine va_iast hC.1 hC.2.1 hC.2.2.2.2.1 hP hD hS 2 0 rfl rfl (inb_in (by decide)) dX12_init_492 (fun H locs hP9 hD9 hS9 => ?_)
  clear hP hD hS
  have hP := hP9
  have hD := hD9
  have hS := hS9
  clear hP9 hD9 hS9
  replace hP : va_P (gD g) vwCl ([(h0, .inr (13, mfs f48)), (q3, .inl (gc g 2, 10, .inl (upd (upd (upd (upd (upd (upd (upd (upd (upd (upd (fun _ => 0) 0 (1 : Int32)) 1 (1 : Int32)) 2 (1 : Int32)) 3 (1 : Int32)) 4 (1 : Int32)) 5 (1 : Int32)) 6 (1 : Int32)) 7 (1 : Int32)) 8 (1 : Int32)) 9 (1 : Int32)))), (q5, .inl (gc g 0, 10, .inl (upd (upd (upd (upd (upd (upd (upd (upd (upd (upd (upd (upd (upd (upd (fun _ => 0) 0 (-1 : Int32)) 1 (-1 : Int32)) 2 (-1 : Int32)) 3 (-1 : Int32)) 4 (-1 : Int32)) 5 (-1 : Int32)) 6 (-1 : Int32)) 7 (-1 : Int32)) 8 (-1 : Int32)) 9 (-1 : Int32)) 6 (0 : Int32)) 7 (2 : Int32)) 8 (4 : Int32)) 9 (6 : Int32)))), (q21, .inl (gc g 0, 3, .inl (fun _ => 0))), (q32, .inl (gc g 0, 12, .inl (upd (upd (upd (upd (upd (upd (upd (upd (upd (upd (upd (upd (fun _ => 0) 0 (-1 : Int32)) 1 (-1 : Int32)) 2 (-1 : Int32)) 3 (-1 : Int32)) 4 (-1 : Int32)) 5 (-1 : Int32)) 6 (-1 : Int32)) 7 (-1 : Int32)) 8 (-1 : Int32)) 9 (-1 : Int32)) 10 (-1 : Int32)) 11 (-1 : Int32))))] ++ T41) H := hP
  replace hD : va_D A ([(h0, .inr (13, mfs f48)), (q3, .inl (gc g 2, 10, .inl (upd (upd (upd (upd (upd (upd (upd (upd (upd (upd (fun _ => 0) 0 (1 : Int32)) 1 (1 : Int32)) 2 (1 : Int32)) 3 (1 : Int32)) 4 (1 : Int32)) 5 (1 : Int32)) 6 (1 : Int32)) 7 (1 : Int32)) 8 (1 : Int32)) 9 (1 : Int32)))), (q5, .inl (gc g 0, 10, .inl (upd (upd (upd (upd (upd (upd (upd (upd (upd (upd (upd (upd (upd (upd (fun _ => 0) 0 (-1 : Int32)) 1 (-1 : Int32)) 2 (-1 : Int32)) 3 (-1 : Int32)) 4 (-1 : Int32)) 5 (-1 : Int32)) 6 (-1 : Int32)) 7 (-1 : Int32)) 8 (-1 : Int32)) 9 (-1 : Int32)) 6 (0 : Int32)) 7 (2 : Int32)) 8 (4 : Int32)) 9 (6 : Int32)))), (q21, .inl (gc g 0, 3, .inl (fun _ => 0))), (q32, .inl (gc g 0, 12, .inl (upd (upd (upd (upd (upd (upd (upd (upd (upd (upd (upd (upd (fun _ => 0) 0 (-1 : Int32)) 1 (-1 : Int32)) 2 (-1 : Int32)) 3 (-1 : Int32)) 4 (-1 : Int32)) 5 (-1 : Int32)) 6 (-1 : Int32)) 7 (-1 : Int32)) 8 (-1 : Int32)) 9 (-1 : Int32)) 10 (-1 : Int32)) 11 (-1 : Int32))))] ++ T41) := hD
  refine lv_aload_n hC.1 hC.2.1 dX12_init_493 rfl (lv_at hl 1 rfl) ?_
  refine mp_get hC hP 28 (by decide) wd_1150 (v := .ref q21) (by simp [hf48, hf47, hf46, hf45, hf44, hf43, hf42, hf41, hf40, hf39, hf38, hf37, hf36, hf35, hf34, hf33, hf32, hf31, hf30, hf29, hf28, hf27, hf26, hf25, hf24, hf23, hf22, hf21, va_up]) dX12_init_494 ?_
  refine lv_iconst (v := (0 : Int32)) hC.1 hC.2.1 dX12_init_497 (by decide) ?_
  refine lv_iconst (v := (1 : Int32)) hC.1 hC.2.1 dX12_init_498 (by decide) ?_
  refine va_iast hC.1 hC.2.1 hC.2.2.2.2.1 hP hD hS 3 0 rfl rfl (inb_in (by decide)) dX12_init_499 (fun H locs hP9 hD9 hS9 => ?_)
  clear hP hD hS
  have hP := hP9
  have hD := hD9
  have hS := hS9
  clear hP9 hD9 hS9
  replace hP : va_P (gD g) vwCl ([(h0, .inr (13, mfs f48)), (q3, .inl (gc g 2, 10, .inl (upd (upd (upd (upd (upd (upd (upd (upd (upd (upd (fun _ => 0) 0 (1 : Int32)) 1 (1 : Int32)) 2 (1 : Int32)) 3 (1 : Int32)) 4 (1 : Int32)) 5 (1 : Int32)) 6 (1 : Int32)) 7 (1 : Int32)) 8 (1 : Int32)) 9 (1 : Int32)))), (q5, .inl (gc g 0, 10, .inl (upd (upd (upd (upd (upd (upd (upd (upd (upd (upd (upd (upd (upd (upd (fun _ => 0) 0 (-1 : Int32)) 1 (-1 : Int32)) 2 (-1 : Int32)) 3 (-1 : Int32)) 4 (-1 : Int32)) 5 (-1 : Int32)) 6 (-1 : Int32)) 7 (-1 : Int32)) 8 (-1 : Int32)) 9 (-1 : Int32)) 6 (0 : Int32)) 7 (2 : Int32)) 8 (4 : Int32)) 9 (6 : Int32)))), (q21, .inl (gc g 0, 3, .inl (upd (fun _ => 0) 0 (1 : Int32)))), (q32, .inl (gc g 0, 12, .inl (upd (upd (upd (upd (upd (upd (upd (upd (upd (upd (upd (upd (fun _ => 0) 0 (-1 : Int32)) 1 (-1 : Int32)) 2 (-1 : Int32)) 3 (-1 : Int32)) 4 (-1 : Int32)) 5 (-1 : Int32)) 6 (-1 : Int32)) 7 (-1 : Int32)) 8 (-1 : Int32)) 9 (-1 : Int32)) 10 (-1 : Int32)) 11 (-1 : Int32))))] ++ T41) H := hP
  replace hD : va_D A ([(h0, .inr (13, mfs f48)), (q3, .inl (gc g 2, 10, .inl (upd (upd (upd (upd (upd (upd (upd (upd (upd (upd (fun _ => 0) 0 (1 : Int32)) 1 (1 : Int32)) 2 (1 : Int32)) 3 (1 : Int32)) 4 (1 : Int32)) 5 (1 : Int32)) 6 (1 : Int32)) 7 (1 : Int32)) 8 (1 : Int32)) 9 (1 : Int32)))), (q5, .inl (gc g 0, 10, .inl (upd (upd (upd (upd (upd (upd (upd (upd (upd (upd (upd (upd (upd (upd (fun _ => 0) 0 (-1 : Int32)) 1 (-1 : Int32)) 2 (-1 : Int32)) 3 (-1 : Int32)) 4 (-1 : Int32)) 5 (-1 : Int32)) 6 (-1 : Int32)) 7 (-1 : Int32)) 8 (-1 : Int32)) 9 (-1 : Int32)) 6 (0 : Int32)) 7 (2 : Int32)) 8 (4 : Int32)) 9 (6 : Int32)))), (q21, .inl (gc g 0, 3, .inl (upd (fun _ => 0) 0 (1 : Int32)))), (q32, .inl (gc g 0, 12, .inl (upd (upd (upd (upd (upd (upd (upd (upd (upd (upd (upd (upd (fun _ => 0) 0 (-1 : Int32)) 1 (-1 : Int32)) 2 (-1 : Int32)) 3 (-1 : Int32)) 4 (-1 : Int32)) 5 (-1 : Int32)) 6 (-1 : Int32)) 7 (-1 : Int32)) 8 (-1 : Int32)) 9 (-1 : Int32)) 10 (-1 : Int32)) 11 (-1 : Int32))))] ++ T41) := hD
  refine lv_aload_n hC.1 hC.2.1 dX12_init_500 rfl (lv_at hl 1 rfl) ?_
  refine mp_get hC hP 28 (by decide) wd_1150 (v := .ref q21) (by simp [hf48, hf47, hf46, hf45, hf44, hf43, hf42, hf41, hf40, hf39, hf38, hf37, hf36, hf35, hf34, hf33, hf32, hf31, hf30, hf29, hf28, hf27, hf26, hf25, hf24, hf23, hf22, hf21, va_up]) dX12_init_501 ?_
  refine lv_iconst (v := (1 : Int32)) hC.1 hC.2.1 dX12_init_504 (by decide) ?_
  refine lv_iconst (v := (1 : Int32)) hC.1 hC.2.1 dX12_init_505 (by decide) ?_
  refine va_iast hC.1 hC.2.1 hC.2.2.2.2.1 hP hD hS 3 0 rfl rfl (inb_in (by decide)) dX12_init_506 (fun H locs hP9 hD9 hS9 => ?_)
  clear hP hD hS
  have hP := hP9
  have hD := hD9
  have hS := hS9
  clear hP9 hD9 hS9
  replace hP : va_P (gD g) vwCl ([(h0, .inr (13, mfs f48)), (q3, .inl (gc g 2, 10, .inl (upd (upd (upd (upd (upd (upd (upd (upd (upd (upd (fun _ => 0) 0 (1 : Int32)) 1 (1 : Int32)) 2 (1 : Int32)) 3 (1 : Int32)) 4 (1 : Int32)) 5 (1 : Int32)) 6 (1 : Int32)) 7 (1 : Int32)) 8 (1 : Int32)) 9 (1 : Int32)))), (q5, .inl (gc g 0, 10, .inl (upd (upd (upd (upd (upd (upd (upd (upd (upd (upd (upd (upd (upd (upd (fun _ => 0) 0 (-1 : Int32)) 1 (-1 : Int32)) 2 (-1 : Int32)) 3 (-1 : Int32)) 4 (-1 : Int32)) 5 (-1 : Int32)) 6 (-1 : Int32)) 7 (-1 : Int32)) 8 (-1 : Int32)) 9 (-1 : Int32)) 6 (0 : Int32)) 7 (2 : Int32)) 8 (4 : Int32)) 9 (6 : Int32)))), (q21, .inl (gc g 0, 3, .inl (upd (upd (fun _ => 0) 0 (1 : Int32)) 1 (1 : Int32)))), (q32, .inl (gc g 0, 12, .inl (upd (upd (upd (upd (upd (upd (upd (upd (upd (upd (upd (upd (fun _ => 0) 0 (-1 : Int32)) 1 (-1 : Int32)) 2 (-1 : Int32)) 3 (-1 : Int32)) 4 (-1 : Int32)) 5 (-1 : Int32)) 6 (-1 : Int32)) 7 (-1 : Int32)) 8 (-1 : Int32)) 9 (-1 : Int32)) 10 (-1 : Int32)) 11 (-1 : Int32))))] ++ T41) H := hP
  replace hD : va_D A ([(h0, .inr (13, mfs f48)), (q3, .inl (gc g 2, 10, .inl (upd (upd (upd (upd (upd (upd (upd (upd (upd (upd (fun _ => 0) 0 (1 : Int32)) 1 (1 : Int32)) 2 (1 : Int32)) 3 (1 : Int32)) 4 (1 : Int32)) 5 (1 : Int32)) 6 (1 : Int32)) 7 (1 : Int32)) 8 (1 : Int32)) 9 (1 : Int32)))), (q5, .inl (gc g 0, 10, .inl (upd (upd (upd (upd (upd (upd (upd (upd (upd (upd (upd (upd (upd (upd (fun _ => 0) 0 (-1 : Int32)) 1 (-1 : Int32)) 2 (-1 : Int32)) 3 (-1 : Int32)) 4 (-1 : Int32)) 5 (-1 : Int32)) 6 (-1 : Int32)) 7 (-1 : Int32)) 8 (-1 : Int32)) 9 (-1 : Int32)) 6 (0 : Int32)) 7 (2 : Int32)) 8 (4 : Int32)) 9 (6 : Int32)))), (q21, .inl (gc g 0, 3, .inl (upd (upd (fun _ => 0) 0 (1 : Int32)) 1 (1 : Int32)))), (q32, .inl (gc g 0, 12, .inl (upd (upd (upd (upd (upd (upd (upd (upd (upd (upd (upd (upd (fun _ => 0) 0 (-1 : Int32)) 1 (-1 : Int32)) 2 (-1 : Int32)) 3 (-1 : Int32)) 4 (-1 : Int32)) 5 (-1 : Int32)) 6 (-1 : Int32)) 7 (-1 : Int32)) 8 (-1 : Int32)) 9 (-1 : Int32)) 10 (-1 : Int32)) 11 (-1 : Int32))))] ++ T41) := hD
  refine lv_aload_n hC.1 hC.2.1 dX12_init_507 rfl (lv_at hl 1 rfl) ?_
  refine mp_get hC hP 28 (by decide) wd_1150 (v := .ref q21) (by simp [hf48, hf47, hf46, hf45, hf44, hf43, hf42, hf41, hf40, hf39, hf38, hf37, hf36, hf35, hf34, hf33, hf32, hf31, hf30, hf29, hf28, hf27, hf26, hf25, hf24, hf23, hf22, hf21, va_up]) dX12_init_508 ?_
  refine lv_iconst (v := (2 : Int32)) hC.1 hC.2.1 dX12_init_511 (by decide) ?_
  refine lv_aload_n hC.1 hC.2.1 dX12_init_512 rfl (lv_at hl 1 rfl) ?_
  refine mp_get hC hP 1 (by decide) wd_1123 (v := .int (btw x2 (1 : Int32) (6 : Int32))) (by simp [hf48, hf47, va_up]) dX12_init_513 ?_
  refine va_iast hC.1 hC.2.1 hC.2.2.2.2.1 hP hD hS 3 0 rfl rfl (inb_in (by decide)) dX12_init_516 (fun H locs hP9 hD9 hS9 => ?_)
  clear hP hD hS
  have hP := hP9
  have hD := hD9
  have hS := hS9
  clear hP9 hD9 hS9
  replace hP : va_P (gD g) vwCl ([(h0, .inr (13, mfs f48)), (q3, .inl (gc g 2, 10, .inl (upd (upd (upd (upd (upd (upd (upd (upd (upd (upd (fun _ => 0) 0 (1 : Int32)) 1 (1 : Int32)) 2 (1 : Int32)) 3 (1 : Int32)) 4 (1 : Int32)) 5 (1 : Int32)) 6 (1 : Int32)) 7 (1 : Int32)) 8 (1 : Int32)) 9 (1 : Int32)))), (q5, .inl (gc g 0, 10, .inl (upd (upd (upd (upd (upd (upd (upd (upd (upd (upd (upd (upd (upd (upd (fun _ => 0) 0 (-1 : Int32)) 1 (-1 : Int32)) 2 (-1 : Int32)) 3 (-1 : Int32)) 4 (-1 : Int32)) 5 (-1 : Int32)) 6 (-1 : Int32)) 7 (-1 : Int32)) 8 (-1 : Int32)) 9 (-1 : Int32)) 6 (0 : Int32)) 7 (2 : Int32)) 8 (4 : Int32)) 9 (6 : Int32)))), (q21, .inl (gc g 0, 3, .inl (upd (upd (upd (fun _ => 0) 0 (1 : Int32)) 1 (1 : Int32)) 2 (btw x2 (1 : Int32) (6 : Int32))))), (q32, .inl (gc g 0, 12, .inl (upd (upd (upd (upd (upd (upd (upd (upd (upd (upd (upd (upd (fun _ => 0) 0 (-1 : Int32)) 1 (-1 : Int32)) 2 (-1 : Int32)) 3 (-1 : Int32)) 4 (-1 : Int32)) 5 (-1 : Int32)) 6 (-1 : Int32)) 7 (-1 : Int32)) 8 (-1 : Int32)) 9 (-1 : Int32)) 10 (-1 : Int32)) 11 (-1 : Int32))))] ++ T41) H := hP
  replace hD : va_D A ([(h0, .inr (13, mfs f48)), (q3, .inl (gc g 2, 10, .inl (upd (upd (upd (upd (upd (upd (upd (upd (upd (upd (fun _ => 0) 0 (1 : Int32)) 1 (1 : Int32)) 2 (1 : Int32)) 3 (1 : Int32)) 4 (1 : Int32)) 5 (1 : Int32)) 6 (1 : Int32)) 7 (1 : Int32)) 8 (1 : Int32)) 9 (1 : Int32)))), (q5, .inl (gc g 0, 10, .inl (upd (upd (upd (upd (upd (upd (upd (upd (upd (upd (upd (upd (upd (upd (fun _ => 0) 0 (-1 : Int32)) 1 (-1 : Int32)) 2 (-1 : Int32)) 3 (-1 : Int32)) 4 (-1 : Int32)) 5 (-1 : Int32)) 6 (-1 : Int32)) 7 (-1 : Int32)) 8 (-1 : Int32)) 9 (-1 : Int32)) 6 (0 : Int32)) 7 (2 : Int32)) 8 (4 : Int32)) 9 (6 : Int32)))), (q21, .inl (gc g 0, 3, .inl (upd (upd (upd (fun _ => 0) 0 (1 : Int32)) 1 (1 : Int32)) 2 (btw x2 (1 : Int32) (6 : Int32))))), (q32, .inl (gc g 0, 12, .inl (upd (upd (upd (upd (upd (upd (upd (upd (upd (upd (upd (upd (fun _ => 0) 0 (-1 : Int32)) 1 (-1 : Int32)) 2 (-1 : Int32)) 3 (-1 : Int32)) 4 (-1 : Int32)) 5 (-1 : Int32)) 6 (-1 : Int32)) 7 (-1 : Int32)) 8 (-1 : Int32)) 9 (-1 : Int32)) 10 (-1 : Int32)) 11 (-1 : Int32))))] ++ T41) := hD
  have hlast : mfs f48 = [.int (btw x1 (4 : Int32) (12 : Int32)), .int (btw x2 (1 : Int32) (6 : Int32)), .int (btw x3 (1 : Int32) (9 : Int32)), .ref q1, .int 0, .int 0, .int 0, .int 0, .ref q2, .ref q3, .ref q4, .ref q5, .ref q6, .ref q7, .ref q8, .ref q9, .ref q10, .ref q11, .ref q12, .ref q13, .ref q14, .ref q15, .ref q16, .ref q17, .ref q18, .int 0, .ref q19, .ref q20, .ref q21, .ref q22, .ref q23, .ref q24, .ref q25, .ref q26, .ref q27, .ref q28, .ref q29, .ref q30, .ref q31, .ref q32, .ref q33, .ref q34, .ref q35, .ref q36, .int 0, .int 0, .int 0, .int 0, .int 0, .int 0, .int 0, .int 0, .int 0, .int 0, .int 0, .int 0, .ref q37, .ref q38, .ref q39, .ref q40, .int 0, .int 0, .int 0, .ref q41, .ref q42, .ref q43, .ref q44, .int 0, .int 0, .int 0, .ref q45] := by
    rw [hf48, hf47, hf46, hf45, hf44, hf43, hf42, hf41, hf40, hf39, hf38, hf37, hf36, hf35, hf34, hf33, hf32, hf31, hf30, hf29, hf28, hf27, hf26, hf25, hf24, hf23, hf22, hf21, hf20, hf19, hf18, hf17, hf16, hf15, hf14, hf13, hf12, hf11, hf10, hf9, hf8, hf7, hf6, hf5, hf4, hf3, hf2, hf1, hf0]
    rfl
  rw [hlast] at hP hD
  subst hAd
  subst hT41
  subst hT40
  subst hT39
  subst hT38
  subst hT37
  subst hT36
  subst hT35
  subst hT34
  subst hT33
  subst hT32
  subst hT31
  subst hT30
  subst hT29
  subst hT28
  subst hT27
  subst hT26
  subst hT25
  subst hT24
  subst hT23
  subst hT22
  subst hT21
  subst hT20
  subst hT19
  subst hT18
  subst hT17
  subst hT16
  subst hT15
  subst hT14
  subst hT13
  subst hT12
  subst hT11
  subst hT10
  subst hT9
  subst hT8
  subst hT7
  subst hT6
  subst hT5
  subst hT4
  subst hT3
  subst hT2
  subst hT1
  subst hT0
  exact lret_v hC hr hlk hP hD hS ⟨q1, q2, q3, q4, q5, q6, q7, q8, q9, q10, q11, q12, q13, q14, q15, q16, q17, q18, q19, q20, q21, q22, q23, q24, q25, q26, q27, q28, q29, q30, q31, q32, q33, q34, q35, q36, q37, q38, q39, q40, q41, q42, q43, q44, q45, rfl⟩ (Nat.le_of_ble_eq_true rfl) (Nat.le_of_ble_eq_true rfl) dX12_init_517
