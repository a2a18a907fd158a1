def F_X12_between_19  (t0 : Int32) (C : St) : Option (Int32 × St) := some (t0, C)
set_option maxHeartbeats 4000000 in
set_option maxRecDepth 100000 in
theorem B_X12_between_19 {p : Program} {l : Launch} {e : Env} {s : State} {m : MethodId} {args : Array Value} {below : List Frame} {meth : Method} {c : Code} {g : GP} {Z : St} (hC : CX p s m args c cX12_between RX12 g) (hE : EZ g s s.heap) (hml : c.maxLocals = 3) (hr : meth.sig.returnType = (some .int)) (hlk : meth.locks = false) {r : Int32} {C2 : St} {t0 : Int32} {C : St} (h : F_X12_between_19  t0 C = some (r, C2)) {ed : Nat → Nat} {H : Heap} {locs : List Loc} {ls : Array Slot} (hH : HW g ed Z C H) (hS : va_S (gP g) s.heap H locs) (hl : lv_has ls 3 []) : W p l e ({ frames := 0, cells := 0, slots := 0, locals := 0 } : Room) s m args below meth c H locs 0 0 (MQ below (QG (some (.int r)) g Z C2) args s 0 0 (gP g)) (F0 m 19 ls [.int t0]) := by
  unfold F_X12_between_19 at h
  cases h
  exact gret_i hC hr hlk hH hS (Nat.le_of_ble_eq_true rfl) (Nat.le_of_ble_eq_true rfl) dX12_between_19
def F_X12_between (x0 : Int32) (x1 : Int32) (x2 : Int32) (C : St) : Option (Int32 × St) := if x1 ≤ x0 then (if x0 ≤ x2 then (F_X12_between_19 x0 C) else (F_X12_between_19 x2 C)) else (F_X12_between_19 x1 C)
set_option maxHeartbeats 4000000 in
set_option maxRecDepth 100000 in
theorem c_X12_between {l : Launch} {g : GP} {ed : Nat → Nat} {Z : St} {x0 : Int32} {x1 : Int32} {x2 : Int32} {C : St} {r : Int32} {C2 : St} (h : F_X12_between x0 x1 x2 C = some (r, C2)) : Met l yX12_between (Cond.code yX12_between cX12_between 3 (some .int) :: lwG) ({ frames := 0, cells := 0, slots := 0, locals := 0 } : Room) (va_Pc [.int x0, .int x1, .int x2] (PW g Z C ed)) (QG (some (.int r)) g Z C2) 0 0 (gP g) := by
  refine Met.ofW (cc := cX12_between) (maxL := 3) (ret := (some .int)) (by decide +kernel) rfl ?_
  intro p e s m args below meth c s₁ B hml hv
  obtain ⟨ha, hC, hE, hr, hlk, hH⟩ := g_start B hv
  subst ha
  have hC : CX p s m ([.int x0, .int x1, .int x2] : List Value).toArray c cX12_between RX12 g := hC
  have hS : va_S (gP g) s.heap s.heap [] := va_S.rf
  obtain ⟨ls, he, hl⟩ := g_entry m (vs := [.int x0, .int x1, .int x2]) (n := 3) (List.forall_mem_cons.mpr ⟨rfl, (List.forall_mem_cons.mpr ⟨rfl, (List.forall_mem_cons.mpr ⟨rfl, (fun _ h => absurd h List.not_mem_nil)⟩)⟩)⟩) (Nat.le_of_ble_eq_true rfl)
  rw [he]
  have hl : lv_has ls 3 [(0, .int x0), (1, .int x1), (2, .int x2)] := hl
  unfold F_X12_between at h
  refine lv_iload_n hC.1 hC.2.1 dX12_between_0 rfl (lv_at hl 0 rfl) ?_
  refine lv_iload_n hC.1 hC.2.1 dX12_between_1 rfl (lv_at hl 1 rfl) ?_
  refine lv_icmp_ge (tgt := 9) hC.1 hC.2.1 dX12_between_2 (by decide) (fun hc1 => ?_) (fun hc1 => ?_)
  · rw [if_pos hc1] at h
    refine lv_iload_n hC.1 hC.2.1 dX12_between_9 rfl (lv_at hl 0 rfl) ?_
    refine lv_iload_n hC.1 hC.2.1 dX12_between_10 rfl (lv_at hl 2 rfl) ?_
    refine lv_icmp_le (tgt := 18) hC.1 hC.2.1 dX12_between_11 (by decide) (fun hc2 => ?_) (fun hc2 => ?_)
    · rw [if_pos hc2] at h
      refine lv_iload_n hC.1 hC.2.1 dX12_between_18 rfl (lv_at hl 0 rfl) ?_
      exact B_X12_between_19 hC hE hml hr hlk h hH hS (lv_sub hl [] rfl)
    · rw [if_neg hc2] at h
      refine lv_iload_n hC.1 hC.2.1 dX12_between_14 rfl (lv_at hl 2 rfl) ?_
      refine lv_goto (tgt := 19) hC.1 hC.2.1 dX12_between_15 (by decide) ?_
      exact B_X12_between_19 hC hE hml hr hlk h hH hS (lv_sub hl [] rfl)
  · rw [if_neg hc1] at h
    refine lv_iload_n hC.1 hC.2.1 dX12_between_5 rfl (lv_at hl 1 rfl) ?_
    refine lv_goto (tgt := 19) hC.1 hC.2.1 dX12_between_6 (by decide) ?_
    exact B_X12_between_19 hC hE hml hr hlk h hH hS (lv_sub hl [] rfl)
def F_X12_wake (x1 : Int32) (C : St) : Option (Int32 × St) := gd (inb x1 10) (st (up C 110 0 0 x1.toNatClampNeg (0 : Int32)) (fun D2 => st (up D2 111 0 0 x1.toNatClampNeg (-1 : Int32)) (fun D4 => st (up D4 109 0 0 x1.toNatClampNeg (0 : Int32)) (fun D6 => gd (inb (D6 50 0 6 0) 10) (st (up D6 108 0 0 (D6 50 0 6 0).toNatClampNeg x1) (fun D9 => st (up D9 50 0 6 0 ((D9 50 0 6 0) + (1 : Int32))) (fun D11 => some (0, D11))))))))
set_option maxHeartbeats 4000000 in
set_option maxRecDepth 100000 in
theorem c_X12_wake {l : Launch} {g : GP} {ed : Nat → Nat} {Z : St} {x1 : Int32} {C : St} {r : Int32} {C2 : St} (h : F_X12_wake x1 C = some (r, C2)) : Met l yX12_wake (Cond.code yX12_wake cX12_wake 2 none :: lwG) ({ frames := 0, cells := 0, slots := 0, locals := 0 } : Room) (va_Pc [.ref (gA g 50 0), .int x1] (PW g Z C ed)) (QG none g Z C2) 0 0 (gP g) := by
  refine Met.ofW (cc := cX12_wake) (maxL := 2) (ret := none) (by decide +kernel) rfl ?_
  intro p e s m args below meth c s₁ B hml hv
  obtain ⟨ha, hC, hE, hr, hlk, hH⟩ := g_start B hv
  subst ha
  have hC : CX p s m ([.ref (gA g 50 0), .int x1] : List Value).toArray c cX12_wake RX12 g := hC
  have hS : va_S (gP g) s.heap s.heap [] := va_S.rf
  obtain ⟨ls, he, hl⟩ := g_entry m (vs := [.ref (gA g 50 0), .int x1]) (n := 2) (List.forall_mem_cons.mpr ⟨rfl, (List.forall_mem_cons.mpr ⟨rfl, (fun _ h => absurd h List.not_mem_nil)⟩)⟩) (Nat.le_of_ble_eq_true rfl)
  rw [he]
  have hl : lv_has ls 2 [(0, .ref (gA g 50 0)), (1, .int x1)] := hl
  unfold F_X12_wake at h
  refine lv_aload_n hC.1 hC.2.1 dX12_wake_0 rfl (lv_at hl 0 rfl) ?_
  refine gf_RX12_20 hC hH rfl dX12_wake_1 ?_
  refine lv_iload_n hC.1 hC.2.1 dX12_wake_4 rfl (lv_at hl 1 rfl) ?_
  refine lv_iconst (v := (0 : Int32)) hC.1 hC.2.1 dX12_wake_5 (by decide) ?_
  obtain ⟨hg1, h⟩ := gd_some h
  obtain ⟨D2, e3, h⟩ := st_some h
  refine as_110 hC hH hS hg1 rfl dX12_wake_6 (fun H locs hH hS => ?_)
  rw [← e3] at hH
  refine lv_aload_n hC.1 hC.2.1 dX12_wake_7 rfl (lv_at hl 0 rfl) ?_
  refine gf_RX12_23 hC hH rfl dX12_wake_8 ?_
  refine lv_iload_n hC.1 hC.2.1 dX12_wake_11 rfl (lv_at hl 1 rfl) ?_
  refine lv_iconst (v := (-1 : Int32)) hC.1 hC.2.1 dX12_wake_12 (by decide) ?_
  obtain ⟨D4, e5, h⟩ := st_some h
  refine as_111 hC hH hS hg1 rfl dX12_wake_13 (fun H locs hH hS => ?_)
  rw [← e5] at hH
  refine lv_aload_n hC.1 hC.2.1 dX12_wake_14 rfl (lv_at hl 0 rfl) ?_
  refine gf_RX12_16 hC hH rfl dX12_wake_15 ?_
  refine lv_iload_n hC.1 hC.2.1 dX12_wake_18 rfl (lv_at hl 1 rfl) ?_
  refine lv_iconst (v := (0 : Int32)) hC.1 hC.2.1 dX12_wake_19 (by decide) ?_
  obtain ⟨D6, e7, h⟩ := st_some h
  refine as_109 hC hH hS hg1 (by decide) rfl dX12_wake_20 (fun H locs hH hS => ?_)
  rw [← e7] at hH
  refine lv_aload_n hC.1 hC.2.1 dX12_wake_21 rfl (lv_at hl 0 rfl) ?_
  refine gf_RX12_13 hC hH rfl dX12_wake_22 ?_
  refine lv_aload_n hC.1 hC.2.1 dX12_wake_25 rfl (lv_at hl 0 rfl) ?_
  refine gf_RX12_160 hC hH rfl dX12_wake_26 ?_
  refine lv_iload_n hC.1 hC.2.1 dX12_wake_29 rfl (lv_at hl 1 rfl) ?_
  obtain ⟨hg8, h⟩ := gd_some h
  obtain ⟨D9, e10, h⟩ := st_some h
  refine as_108 hC hH hS hg8 rfl dX12_wake_30 (fun H locs hH hS => ?_)
  rw [← e10] at hH
  refine lv_aload_n hC.1 hC.2.1 dX12_wake_31 rfl (lv_at hl 0 rfl) ?_
  refine lv_dup hC.1 hC.2.1 dX12_wake_32 rfl ?_
  refine gf_RX12_160 hC hH rfl dX12_wake_33 ?_
  refine lv_iconst (v := (1 : Int32)) hC.1 hC.2.1 dX12_wake_36 (by decide) ?_
  refine lv_iadd hC.1 hC.2.1 dX12_wake_37 ?_
  obtain ⟨D11, e12, h⟩ := st_some h
  refine pf_RX12_160 hC hH hS  rfl dX12_wake_38 (fun H locs hH hS => ?_)
  rw [← e12] at hH
  cases h
  exact gret_v hC hr hlk hH hS (Nat.le_of_ble_eq_true rfl) (Nat.le_of_ble_eq_true rfl) dX12_wake_41
def F_X12_raise_23 (k5 : Int32 → Int32 → Int32 → St → Option (Int32 × St)) (x1 : Int32) (x2 : Int32) (x3 : Int32) (C : St) : Option (Int32 × St) := k5 x1 x2 (x3 + 1) C
set_option maxHeartbeats 4000000 in
set_option maxRecDepth 100000 in
theorem B_X12_raise_23 {p : Program} {l : Launch} {e : Env} {s : State} {m : MethodId} {args : Array Value} {below : List Frame} {meth : Method} {c : Code} {g : GP} {Z : St} (hC : CX p s m args c cX12_raise RX12 g) (hE : EZ g s s.heap) (hml : c.maxLocals = 4) (hr : meth.sig.returnType = none) (hlk : meth.locks = false) {r : Int32} {C2 : St} {k5 : Int32 → Int32 → Int32 → St → Option (Int32 × St)} (hk5 : ∀ (x1 : Int32) (x2 : Int32) (x3 : Int32) (C : St), k5 x1 x2 x3 C = some (r, C2) → ∀ (ed : Nat → Nat) (H : Heap) (locs : List Loc) (ls : Array Slot), HW g ed Z C H → va_S (gP g) s.heap H locs → lv_has ls 4 [(0, .ref (gA g 50 0)), (1, .int x1), (2, .int x2), (3, .int x3)] → W p l e ({ frames := 1, cells := 0, slots := 0, locals := 21 } : Room) s m args below meth c H locs 0 0 (MQ below (QG none g Z C2) args s 0 0 (gP g)) (F0 m 5 ls [])) {x1 : Int32} {x2 : Int32} {x3 : Int32} {C : St} (h : F_X12_raise_23 k5 x1 x2 x3 C = some (r, C2)) {ed : Nat → Nat} {H : Heap} {locs : List Loc} {ls : Array Slot} (hH : HW g ed Z C H) (hS : va_S (gP g) s.heap H locs) (hl : lv_has ls 4 [(0, .ref (gA g 50 0)), (1, .int x1), (2, .int x2), (3, .int x3)]) : W p l e ({ frames := 1, cells := 0, slots := 0, locals := 21 } : Room) s m args below meth c H locs 0 0 (MQ below (QG none g Z C2) args s 0 0 (gP g)) (F0 m 23 ls []) := by
  unfold F_X12_raise_23 at h
  refine lv_iinc (v := x3 + 1) (lv' := [(3, .int (x3 + 1)), (0, .ref (gA g 50 0)), (1, .int x1), (2, .int x2)]) hC.1 hC.2.1 dX12_raise_23 hl (k := 3) rfl rfl (by decide) rfl (fun ls hl => ?_)
  refine lv_goto (tgt := 5) hC.1 hC.2.1 dX12_raise_26 (by decide) ?_
  exact hk5 _ _ _ _ h _ _ _ _ hH hS (lv_sub hl [1, 2, 3, 0] rfl)
def F_X12_raise_52   (C : St) : Option (Int32 × St) := some (0, C)
set_option maxHeartbeats 4000000 in
set_option maxRecDepth 100000 in
theorem B_X12_raise_52 {p : Program} {l : Launch} {e : Env} {s : State} {m : MethodId} {args : Array Value} {below : List Frame} {meth : Method} {c : Code} {g : GP} {Z : St} (hC : CX p s m args c cX12_raise RX12 g) (hE : EZ g s s.heap) (hml : c.maxLocals = 4) (hr : meth.sig.returnType = none) (hlk : meth.locks = false) {r : Int32} {C2 : St}  {C : St} (h : F_X12_raise_52   C = some (r, C2)) {ed : Nat → Nat} {H : Heap} {locs : List Loc} {ls : Array Slot} (hH : HW g ed Z C H) (hS : va_S (gP g) s.heap H locs) (hl : lv_has ls 4 []) : W p l e ({ frames := 1, cells := 0, slots := 0, locals := 21 } : Room) s m args below meth c H locs 0 0 (MQ below (QG none g Z C2) args s 0 0 (gP g)) (F0 m 52 ls []) := by
  unfold F_X12_raise_52 at h
  cases h
  exact gret_v hC hr hlk hH hS (Nat.le_of_ble_eq_true rfl) (Nat.le_of_ble_eq_true rfl) dX12_raise_52
def F_X12_raise_5  : Nat → Int32 → Int32 → Int32 → St → Option (Int32 × St)
  | 0, _, _, _, _ => none
  | fu + 1, x1, x2, x3, C => if (10 : Int32) ≤ x3 then (if x2 = (-1 : Int32) then (gd (inb x1 7) (st (up C 113 0 0 x1.toNatClampNeg ((C 113 0 0 x1.toNatClampNeg) + (1 : Int32))) (fun D7 => F_X12_raise_52  D7))) else (bd2 (F_X12_wake x2 C) (fun r3 D4 => F_X12_raise_52  D4))) else (gd (inb x3 10) (if (C 111 0 0 x3.toNatClampNeg) = x1 then (F_X12_raise_23 (F_X12_raise_5 fu) x1 x3 x3 C) else (F_X12_raise_23 (F_X12_raise_5 fu) x1 x2 x3 C)))
set_option maxHeartbeats 4000000 in
set_option maxRecDepth 100000 in
theorem B_X12_raise_5 {p : Program} {l : Launch} {e : Env} {s : State} {m : MethodId} {args : Array Value} {below : List Frame} {meth : Method} {c : Code} {g : GP} {Z : St} (hC : CX p s m args c cX12_raise RX12 g) (hE : EZ g s s.heap) (hml : c.maxLocals = 4) (hr : meth.sig.returnType = none) (hlk : meth.locks = false) {r : Int32} {C2 : St} : ∀ (fu : Nat) (x1 : Int32) (x2 : Int32) (x3 : Int32) (C : St), F_X12_raise_5  fu x1 x2 x3 C = some (r, C2) → ∀ (ed : Nat → Nat) (H : Heap) (locs : List Loc) (ls : Array Slot), HW g ed Z C H → va_S (gP g) s.heap H locs → lv_has ls 4 [(0, .ref (gA g 50 0)), (1, .int x1), (2, .int x2), (3, .int x3)] → W p l e ({ frames := 1, cells := 0, slots := 0, locals := 21 } : Room) s m args below meth c H locs 0 0 (MQ below (QG none g Z C2) args s 0 0 (gP g)) (F0 m 5 ls []) := by
  intro fu
  induction fu with
  | zero =>
    intro x1 x2 x3 C h
    cases h
  | succ fu ih =>
    intro x1 x2 x3 C h ed H locs ls hH hS hl
    rw [F_X12_raise_5] at h
    refine lv_iload_n hC.1 hC.2.1 dX12_raise_5 rfl (lv_at hl 3 rfl) ?_
    refine lv_bipush (v := (10 : Int32)) hC.1 hC.2.1 dX12_raise_6 (by decide) ?_
    refine lv_icmp_ge (tgt := 29) hC.1 hC.2.1 dX12_raise_8 (by decide) (fun hc1 => ?_) (fun hc1 => ?_)
    · rw [if_pos hc1] at h
      refine lv_iload_n hC.1 hC.2.1 dX12_raise_29 rfl (lv_at hl 2 rfl) ?_
      refine lv_iconst (v := (-1 : Int32)) hC.1 hC.2.1 dX12_raise_30 (by decide) ?_
      refine lv_icmp_ne (tgt := 47) hC.1 hC.2.1 dX12_raise_31 (by decide) (fun hc2 => ?_) (fun hc2 => ?_)
      · rw [if_neg hc2] at h
        refine lv_aload_n hC.1 hC.2.1 dX12_raise_47 rfl (lv_at hl 0 rfl) ?_
        refine lv_iload_n hC.1 hC.2.1 dX12_raise_48 rfl (lv_at hl 2 rfl) ?_
        obtain ⟨r3, D4, hF5, h⟩ := bd2_some h
        refine gcallV (As := [.int x2]) (rest := []) (Cn := RX12) hC hE hml hH hS (c_X12_wake hF5) ⟨wd_1400, wd_1402, wp_46, wd_17, wd_1403⟩ hd_X12_wake rfl rfl ⟨Nat.le_of_ble_eq_true rfl, Nat.le_of_ble_eq_true rfl⟩ rfl (hw_recv (q := 50) (i := 0) hC hH ⟨Nat.zero_lt_one, fun h => absurd h (by decide)⟩ rfl rfl) rfl hl.1 rfl (Nat.le_of_ble_eq_true rfl) dX12_raise_49 ⟨Nat.le_of_ble_eq_true rfl, Nat.le_of_ble_eq_true rfl⟩ (fun ed H locs hH hS => ?_)
        refine W.eq (g2 := F0 m 52 ls []) rfl ?_
        exact B_X12_raise_52 hC hE hml hr hlk h hH hS (lv_sub hl [] rfl)
      · rw [if_pos hc2] at h
        refine lv_aload_n hC.1 hC.2.1 dX12_raise_34 rfl (lv_at hl 0 rfl) ?_
        refine gf_RX12_29 hC hH rfl dX12_raise_35 ?_
        refine lv_iload_n hC.1 hC.2.1 dX12_raise_38 rfl (lv_at hl 1 rfl) ?_
        refine lv_dup2_11 hC.1 hC.2.1 dX12_raise_39 rfl rfl ?_
        obtain ⟨hg6, h⟩ := gd_some h
        refine al_113 hC hH hg6 rfl dX12_raise_40 ?_
        refine lv_iconst (v := (1 : Int32)) hC.1 hC.2.1 dX12_raise_41 (by decide) ?_
        refine lv_iadd hC.1 hC.2.1 dX12_raise_42 ?_
        obtain ⟨D7, e8, h⟩ := st_some h
        refine as_113 hC hH hS hg6 rfl dX12_raise_43 (fun H locs hH hS => ?_)
        rw [← e8] at hH
        refine lv_goto (tgt := 52) hC.1 hC.2.1 dX12_raise_44 (by decide) ?_
        exact B_X12_raise_52 hC hE hml hr hlk h hH hS (lv_sub hl [] rfl)
    · rw [if_neg hc1] at h
      refine lv_aload_n hC.1 hC.2.1 dX12_raise_11 rfl (lv_at hl 0 rfl) ?_
      refine gf_RX12_23 hC hH rfl dX12_raise_12 ?_
      refine lv_iload_n hC.1 hC.2.1 dX12_raise_15 rfl (lv_at hl 3 rfl) ?_
      obtain ⟨hg9, h⟩ := gd_some h
      refine al_111 hC hH hg9 rfl dX12_raise_16 ?_
      refine lv_iload_n hC.1 hC.2.1 dX12_raise_17 rfl (lv_at hl 1 rfl) ?_
      refine lv_icmp_ne (tgt := 23) hC.1 hC.2.1 dX12_raise_18 (by decide) (fun hc10 => ?_) (fun hc10 => ?_)
      · rw [if_neg hc10] at h
        exact B_X12_raise_23 hC hE hml hr hlk ih h hH hS (lv_sub hl [0, 1, 2, 3] rfl)
      · rw [if_pos hc10] at h
        refine lv_iload_n hC.1 hC.2.1 dX12_raise_21 rfl (lv_at hl 3 rfl) ?_
        refine lv_istore_n (i := 2) (lv' := [(2, .int x3), (0, .ref (gA g 50 0)), (1, .int x1), (3, .int x3)]) hC.1 hC.2.1 dX12_raise_22 rfl hl (by decide) rfl (fun ls hl => ?_)
        exact B_X12_raise_23 hC hE hml hr hlk ih h hH hS (lv_sub hl [1, 2, 0, 3] rfl)
def F_X12_raise (x1 : Int32) (C : St) : Option (Int32 × St) := F_X12_raise_5 1000 x1 (-1 : Int32) (6 : Int32) C
set_option maxHeartbeats 4000000 in
set_option maxRecDepth 100000 in
theorem c_X12_raise {l : Launch} {g : GP} {ed : Nat → Nat} {Z : St} {x1 : Int32} {C : St} {r : Int32} {C2 : St} (h : F_X12_raise x1 C = some (r, C2)) : Met l yX12_raise (Cond.code yX12_raise cX12_raise 4 none :: lwG) ({ frames := 1, cells := 0, slots := 0, locals := 21 } : Room) (va_Pc [.ref (gA g 50 0), .int x1] (PW g Z C ed)) (QG none g Z C2) 0 0 (gP g) := by
  refine Met.ofW (cc := cX12_raise) (maxL := 4) (ret := none) (by decide +kernel) rfl ?_
  intro p e s m args below meth c s₁ B hml hv
  obtain ⟨ha, hC, hE, hr, hlk, hH⟩ := g_start B hv
  subst ha
  have hC : CX p s m ([.ref (gA g 50 0), .int x1] : List Value).toArray c cX12_raise RX12 g := hC
  have hS : va_S (gP g) s.heap s.heap [] := va_S.rf
  obtain ⟨ls, he, hl⟩ := g_entry m (vs := [.ref (gA g 50 0), .int x1]) (n := 4) (List.forall_mem_cons.mpr ⟨rfl, (List.forall_mem_cons.mpr ⟨rfl, (fun _ h => absurd h List.not_mem_nil)⟩)⟩) (Nat.le_of_ble_eq_true rfl)
  rw [he]
  have hl : lv_has ls 4 [(0, .ref (gA g 50 0)), (1, .int x1)] := hl
  unfold F_X12_raise at h
  refine lv_iconst (v := (-1 : Int32)) hC.1 hC.2.1 dX12_raise_0 (by decide) ?_
  refine lv_istore_n (i := 2) (lv' := [(2, .int (-1 : Int32)), (0, .ref (gA g 50 0)), (1, .int x1)]) hC.1 hC.2.1 dX12_raise_1 rfl hl (by decide) rfl (fun ls hl => ?_)
  refine lv_bipush (v := (6 : Int32)) hC.1 hC.2.1 dX12_raise_2 (by decide) ?_
  refine lv_istore_n (i := 3) (lv' := [(3, .int (6 : Int32)), (2, .int (-1 : Int32)), (0, .ref (gA g 50 0)), (1, .int x1)]) hC.1 hC.2.1 dX12_raise_4 rfl hl (by decide) rfl (fun ls hl => ?_)
  exact B_X12_raise_5 hC hE hml hr hlk 1000 _ _ _ _ h _ _ _ _ hH hS (lv_sub hl [2, 3, 1, 0] rfl)
def F_X12_waitFor (x1 : Int32) (x2 : Int32) (x3 : Int32) (C : St) : Option (Int32 × St) := gd (inb x1 10) (st (up C 112 0 0 x1.toNatClampNeg x3) (fun D2 => gd (inb x2 7) (if (D2 113 0 0 x2.toNatClampNeg) ≤ 0 then (st (up D2 111 0 0 x1.toNatClampNeg x2) (fun D6 => st (up D6 109 0 0 x1.toNatClampNeg (1 : Int32)) (fun D8 => some (0, D8)))) else (st (up D2 113 0 0 x2.toNatClampNeg ((D2 113 0 0 x2.toNatClampNeg) - (1 : Int32))) (fun D10 => some (0, D10))))))
set_option maxHeartbeats 4000000 in
set_option maxRecDepth 100000 in
theorem c_X12_waitFor {l : Launch} {g : GP} {ed : Nat → Nat} {Z : St} {x1 : Int32} {x2 : Int32} {x3 : Int32} {C : St} {r : Int32} {C2 : St} (h : F_X12_waitFor x1 x2 x3 C = some (r, C2)) : Met l yX12_waitFor (Cond.code yX12_waitFor cX12_waitFor 4 none :: lwG) ({ frames := 0, cells := 0, slots := 0, locals := 0 } : Room) (va_Pc [.ref (gA g 50 0), .int x1, .int x2, .int x3] (PW g Z C ed)) (QG none g Z C2) 0 0 (gP g) := by
  refine Met.ofW (cc := cX12_waitFor) (maxL := 4) (ret := none) (by decide +kernel) rfl ?_
  intro p e s m args below meth c s₁ B hml hv
  obtain ⟨ha, hC, hE, hr, hlk, hH⟩ := g_start B hv
  subst ha
  have hC : CX p s m ([.ref (gA g 50 0), .int x1, .int x2, .int x3] : List Value).toArray c cX12_waitFor RX12 g := hC
  have hS : va_S (gP g) s.heap s.heap [] := va_S.rf
  obtain ⟨ls, he, hl⟩ := g_entry m (vs := [.ref (gA g 50 0), .int x1, .int x2, .int x3]) (n := 4) (List.forall_mem_cons.mpr ⟨rfl, (List.forall_mem_cons.mpr ⟨rfl, (List.forall_mem_cons.mpr ⟨rfl, (List.forall_mem_cons.mpr ⟨rfl, (fun _ h => absurd h List.not_mem_nil)⟩)⟩)⟩)⟩) (Nat.le_of_ble_eq_true rfl)
  rw [he]
  have hl : lv_has ls 4 [(0, .ref (gA g 50 0)), (1, .int x1), (2, .int x2), (3, .int x3)] := hl
  unfold F_X12_waitFor at h
  refine lv_aload_n hC.1 hC.2.1 dX12_waitFor_0 rfl (lv_at hl 0 rfl) ?_
  refine gf_RX12_26 hC hH rfl dX12_waitFor_1 ?_
  refine lv_iload_n hC.1 hC.2.1 dX12_waitFor_4 rfl (lv_at hl 1 rfl) ?_
  refine lv_iload_n hC.1 hC.2.1 dX12_waitFor_5 rfl (lv_at hl 3 rfl) ?_
  obtain ⟨hg1, h⟩ := gd_some h
  obtain ⟨D2, e3, h⟩ := st_some h
  refine as_112 hC hH hS hg1 rfl dX12_waitFor_6 (fun H locs hH hS => ?_)
  rw [← e3] at hH
  refine lv_aload_n hC.1 hC.2.1 dX12_waitFor_7 rfl (lv_at hl 0 rfl) ?_
  refine gf_RX12_29 hC hH rfl dX12_waitFor_8 ?_
  refine lv_iload_n hC.1 hC.2.1 dX12_waitFor_11 rfl (lv_at hl 2 rfl) ?_
  obtain ⟨hg4, h⟩ := gd_some h
  refine al_113 hC hH hg4 rfl dX12_waitFor_12 ?_
  refine lv_if_le (tgt := 27) hC.1 hC.2.1 dX12_waitFor_13 (by decide) (fun hc5 => ?_) (fun hc5 => ?_)
  · rw [if_pos hc5] at h
    refine lv_aload_n hC.1 hC.2.1 dX12_waitFor_27 rfl (lv_at hl 0 rfl) ?_
    refine gf_RX12_23 hC hH rfl dX12_waitFor_28 ?_
    refine lv_iload_n hC.1 hC.2.1 dX12_waitFor_31 rfl (lv_at hl 1 rfl) ?_
    refine lv_iload_n hC.1 hC.2.1 dX12_waitFor_32 rfl (lv_at hl 2 rfl) ?_
    obtain ⟨D6, e7, h⟩ := st_some h
    refine as_111 hC hH hS hg1 rfl dX12_waitFor_33 (fun H locs hH hS => ?_)
    rw [← e7] at hH
    refine lv_aload_n hC.1 hC.2.1 dX12_waitFor_34 rfl (lv_at hl 0 rfl) ?_
    refine gf_RX12_16 hC hH rfl dX12_waitFor_35 ?_
    refine lv_iload_n hC.1 hC.2.1 dX12_waitFor_38 rfl (lv_at hl 1 rfl) ?_
    refine lv_iconst (v := (1 : Int32)) hC.1 hC.2.1 dX12_waitFor_39 (by decide) ?_
    obtain ⟨D8, e9, h⟩ := st_some h
    refine as_109 hC hH hS hg1 (by decide) rfl dX12_waitFor_40 (fun H locs hH hS => ?_)
    rw [← e9] at hH
    cases h
    exact gret_v hC hr hlk hH hS (Nat.le_of_ble_eq_true rfl) (Nat.le_of_ble_eq_true rfl) dX12_waitFor_41
  · rw [if_neg hc5] at h
    refine lv_aload_n hC.1 hC.2.1 dX12_waitFor_16 rfl (lv_at hl 0 rfl) ?_
    refine gf_RX12_29 hC hH rfl dX12_waitFor_17 ?_
    refine lv_iload_n hC.1 hC.2.1 dX12_waitFor_20 rfl (lv_at hl 2 rfl) ?_
    refine lv_dup2_11 hC.1 hC.2.1 dX12_waitFor_21 rfl rfl ?_
    refine al_113 hC hH hg4 rfl dX12_waitFor_22 ?_
    refine lv_iconst (v := (1 : Int32)) hC.1 hC.2.1 dX12_waitFor_23 (by decide) ?_
    refine lv_isub hC.1 hC.2.1 dX12_waitFor_24 ?_
    obtain ⟨D10, e11, h⟩ := st_some h
    refine as_113 hC hH hS hg4 rfl dX12_waitFor_25 (fun H locs hH hS => ?_)
    rw [← e11] at hH
    cases h
    exact gret_v hC hr hlk hH hS (Nat.le_of_ble_eq_true rfl) (Nat.le_of_ble_eq_true rfl) dX12_waitFor_26
def F_X12_pause (x1 : Int32) (x2 : Int32) (C : St) : Option (Int32 × St) := gd (inb x1 10) (st (up C 110 0 0 x1.toNatClampNeg x2) (fun D2 => st (up D2 109 0 0 x1.toNatClampNeg (1 : Int32)) (fun D4 => some (0, D4))))
set_option maxHeartbeats 4000000 in
set_option maxRecDepth 100000 in
theorem c_X12_pause {l : Launch} {g : GP} {ed : Nat → Nat} {Z : St} {x1 : Int32} {x2 : Int32} {C : St} {r : Int32} {C2 : St} (h : F_X12_pause x1 x2 C = some (r, C2)) : Met l yX12_pause (Cond.code yX12_pause cX12_pause 3 none :: lwG) ({ frames := 0, cells := 0, slots := 0, locals := 0 } : Room) (va_Pc [.ref (gA g 50 0), .int x1, .int x2] (PW g Z C ed)) (QG none g Z C2) 0 0 (gP g) := by
  refine Met.ofW (cc := cX12_pause) (maxL := 3) (ret := none) (by decide +kernel) rfl ?_
  intro p e s m args below meth c s₁ B hml hv
  obtain ⟨ha, hC, hE, hr, hlk, hH⟩ := g_start B hv
  subst ha
  have hC : CX p s m ([.ref (gA g 50 0), .int x1, .int x2] : List Value).toArray c cX12_pause RX12 g := hC
  have hS : va_S (gP g) s.heap s.heap [] := va_S.rf
  obtain ⟨ls, he, hl⟩ := g_entry m (vs := [.ref (gA g 50 0), .int x1, .int x2]) (n := 3) (List.forall_mem_cons.mpr ⟨rfl, (List.forall_mem_cons.mpr ⟨rfl, (List.forall_mem_cons.mpr ⟨rfl, (fun _ h => absurd h List.not_mem_nil)⟩)⟩)⟩) (Nat.le_of_ble_eq_true rfl)
  rw [he]
  have hl : lv_has ls 3 [(0, .ref (gA g 50 0)), (1, .int x1), (2, .int x2)] := hl
  unfold F_X12_pause at h
  refine lv_aload_n hC.1 hC.2.1 dX12_pause_0 rfl (lv_at hl 0 rfl) ?_
  refine gf_RX12_20 hC hH rfl dX12_pause_1 ?_
  refine lv_iload_n hC.1 hC.2.1 dX12_pause_4 rfl (lv_at hl 1 rfl) ?_
  refine lv_iload_n hC.1 hC.2.1 dX12_pause_5 rfl (lv_at hl 2 rfl) ?_
  obtain ⟨hg1, h⟩ := gd_some h
  obtain ⟨D2, e3, h⟩ := st_some h
  refine as_110 hC hH hS hg1 rfl dX12_pause_6 (fun H locs hH hS => ?_)
  rw [← e3] at hH
  refine lv_aload_n hC.1 hC.2.1 dX12_pause_7 rfl (lv_at hl 0 rfl) ?_
  refine gf_RX12_16 hC hH rfl dX12_pause_8 ?_
  refine lv_iload_n hC.1 hC.2.1 dX12_pause_11 rfl (lv_at hl 1 rfl) ?_
  refine lv_iconst (v := (1 : Int32)) hC.1 hC.2.1 dX12_pause_12 (by decide) ?_
  obtain ⟨D4, e5, h⟩ := st_some h
  refine as_109 hC hH hS hg1 (by decide) rfl dX12_pause_13 (fun H locs hH hS => ?_)
  rw [← e5] at hH
  cases h
  exact gret_v hC hr hlk hH hS (Nat.le_of_ble_eq_true rfl) (Nat.le_of_ble_eq_true rfl) dX12_pause_14
def F_X12_say_20   (C : St) : Option (Int32 × St) := st (up C 50 0 69 0 ((C 50 0 69 0) + (1 : Int32))) (fun D1 => some (0, D1))
set_option maxHeartbeats 4000000 in
set_option maxRecDepth 100000 in
theorem B_X12_say_20 {p : Program} {l : Launch} {e : Env} {s : State} {m : MethodId} {args : Array Value} {below : List Frame} {meth : Method} {c : Code} {g : GP} {Z : St} (hC : CX p s m args c cX12_say RX12 g) (hE : EZ g s s.heap) (hml : c.maxLocals = 2) (hr : meth.sig.returnType = none) (hlk : meth.locks = false) {r : Int32} {C2 : St}  {C : St} (h : F_X12_say_20   C = some (r, C2)) {ed : Nat → Nat} {H : Heap} {locs : List Loc} {ls : Array Slot} (hH : HW g ed Z C H) (hS : va_S (gP g) s.heap H locs) (hl : lv_has ls 2 [(0, .ref (gA g 50 0))]) : W p l e ({ frames := 0, cells := 0, slots := 0, locals := 0 } : Room) s m args below meth c H locs 0 0 (MQ below (QG none g Z C2) args s 0 0 (gP g)) (F0 m 20 ls []) := by
  unfold F_X12_say_20 at h
  refine lv_aload_n hC.1 hC.2.1 dX12_say_20 rfl (lv_at hl 0 rfl) ?_
  refine lv_dup hC.1 hC.2.1 dX12_say_21 rfl ?_
  refine gf_RX12_316 hC hH rfl dX12_say_22 ?_
  refine lv_iconst (v := (1 : Int32)) hC.1 hC.2.1 dX12_say_25 (by decide) ?_
  refine lv_iadd hC.1 hC.2.1 dX12_say_26 ?_
  obtain ⟨D1, e2, h⟩ := st_some h
  refine pf_RX12_316 hC hH hS  rfl dX12_say_27 (fun H locs hH hS => ?_)
  rw [← e2] at hH
  cases h
  exact gret_v hC hr hlk hH hS (Nat.le_of_ble_eq_true rfl) (Nat.le_of_ble_eq_true rfl) dX12_say_30
def F_X12_say (x1 : Int32) (C : St) : Option (Int32 × St) := if (600 : Int32) ≤ (C 50 0 69 0) then (F_X12_say_20  C) else (gd (inb (C 50 0 69 0) 600) (st (up C 166 0 0 (C 50 0 69 0).toNatClampNeg x1) (fun D3 => F_X12_say_20  D3)))
set_option maxHeartbeats 4000000 in
set_option maxRecDepth 100000 in
theorem c_X12_say {l : Launch} {g : GP} {ed : Nat → Nat} {Z : St} {x1 : Int32} {C : St} {r : Int32} {C2 : St} (h : F_X12_say x1 C = some (r, C2)) : Met l yX12_say (Cond.code yX12_say cX12_say 2 none :: lwG) ({ frames := 0, cells := 0, slots := 0, locals := 0 } : Room) (va_Pc [.ref (gA g 50 0), .int x1] (PW g Z C ed)) (QG none g Z C2) 0 0 (gP g) := by
  refine Met.ofW (cc := cX12_say) (maxL := 2) (ret := none) (by decide +kernel) rfl ?_
  intro p e s m args below meth c s₁ B hml hv
  obtain ⟨ha, hC, hE, hr, hlk, hH⟩ := g_start B hv
  subst ha
  have hC : CX p s m ([.ref (gA g 50 0), .int x1] : List Value).toArray c cX12_say RX12 g := hC
  have hS : va_S (gP g) s.heap s.heap [] := va_S.rf
  obtain ⟨ls, he, hl⟩ := g_entry m (vs := [.ref (gA g 50 0), .int x1]) (n := 2) (List.forall_mem_cons.mpr ⟨rfl, (List.forall_mem_cons.mpr ⟨rfl, (fun _ h => absurd h List.not_mem_nil)⟩)⟩) (Nat.le_of_ble_eq_true rfl)
  rw [he]
  have hl : lv_has ls 2 [(0, .ref (gA g 50 0)), (1, .int x1)] := hl
  unfold F_X12_say at h
  refine lv_aload_n hC.1 hC.2.1 dX12_say_0 rfl (lv_at hl 0 rfl) ?_
  refine gf_RX12_316 hC hH rfl dX12_say_1 ?_
  refine lv_sipush (v := (600 : Int32)) hC.1 hC.2.1 dX12_say_4 (by decide) ?_
  refine lv_icmp_ge (tgt := 20) hC.1 hC.2.1 dX12_say_7 (by decide) (fun hc1 => ?_) (fun hc1 => ?_)
  · rw [if_pos hc1] at h
    exact B_X12_say_20 hC hE hml hr hlk h hH hS (lv_sub hl [0] rfl)
  · rw [if_neg hc1] at h
    refine lv_aload_n hC.1 hC.2.1 dX12_say_10 rfl (lv_at hl 0 rfl) ?_
    refine gf_RX12_140 hC hH rfl dX12_say_11 ?_
    refine lv_aload_n hC.1 hC.2.1 dX12_say_14 rfl (lv_at hl 0 rfl) ?_
    refine gf_RX12_316 hC hH rfl dX12_say_15 ?_
    refine lv_iload_n hC.1 hC.2.1 dX12_say_18 rfl (lv_at hl 1 rfl) ?_
    obtain ⟨hg2, h⟩ := gd_some h
    obtain ⟨D3, e4, h⟩ := st_some h
    refine as_166 hC hH hS hg2 rfl dX12_say_19 (fun H locs hH hS => ?_)
    rw [← e4] at hH
    exact B_X12_say_20 hC hE hml hr hlk h hH hS (lv_sub hl [0] rfl)
def F_X12_claimed (x1 : Int32) (x2 : Int32) (C : St) : Option (Int32 × St) := gd (inb (((3 : Int32) * x1) + x2) 18) (some ((C 126 0 0 (((3 : Int32) * x1) + x2).toNatClampNeg) - (C 127 0 0 (((3 : Int32) * x1) + x2).toNatClampNeg), C))
set_option maxHeartbeats 4000000 in
set_option maxRecDepth 100000 in
theorem c_X12_claimed {l : Launch} {g : GP} {ed : Nat → Nat} {Z : St} {x1 : Int32} {x2 : Int32} {C : St} {r : Int32} {C2 : St} (h : F_X12_claimed x1 x2 C = some (r, C2)) : Met l yX12_claimed (Cond.code yX12_claimed cX12_claimed 3 (some .int) :: lwG) ({ frames := 0, cells := 0, slots := 0, locals := 0 } : Room) (va_Pc [.ref (gA g 50 0), .int x1, .int x2] (PW g Z C ed)) (QG (some (.int r)) g Z C2) 0 0 (gP g) := by
  refine Met.ofW (cc := cX12_claimed) (maxL := 3) (ret := (some .int)) (by decide +kernel) rfl ?_
  intro p e s m args below meth c s₁ B hml hv
  obtain ⟨ha, hC, hE, hr, hlk, hH⟩ := g_start B hv
  subst ha
  have hC : CX p s m ([.ref (gA g 50 0), .int x1, .int x2] : List Value).toArray c cX12_claimed RX12 g := hC
  have hS : va_S (gP g) s.heap s.heap [] := va_S.rf
  obtain ⟨ls, he, hl⟩ := g_entry m (vs := [.ref (gA g 50 0), .int x1, .int x2]) (n := 3) (List.forall_mem_cons.mpr ⟨rfl, (List.forall_mem_cons.mpr ⟨rfl, (List.forall_mem_cons.mpr ⟨rfl, (fun _ h => absurd h List.not_mem_nil)⟩)⟩)⟩) (Nat.le_of_ble_eq_true rfl)
  rw [he]
  have hl : lv_has ls 3 [(0, .ref (gA g 50 0)), (1, .int x1), (2, .int x2)] := hl
  unfold F_X12_claimed at h
  refine lv_aload_n hC.1 hC.2.1 dX12_claimed_0 rfl (lv_at hl 0 rfl) ?_
  refine gf_RX12_65 hC hH rfl dX12_claimed_1 ?_
  refine lv_iconst (v := (3 : Int32)) hC.1 hC.2.1 dX12_claimed_4 (by decide) ?_
  refine lv_iload_n hC.1 hC.2.1 dX12_claimed_5 rfl (lv_at hl 1 rfl) ?_
  refine lv_imul hC.1 hC.2.1 dX12_claimed_6 ?_
  refine lv_iload_n hC.1 hC.2.1 dX12_claimed_7 rfl (lv_at hl 2 rfl) ?_
  refine lv_iadd hC.1 hC.2.1 dX12_claimed_8 ?_
  obtain ⟨hg1, h⟩ := gd_some h
  refine al_126 hC hH hg1 rfl dX12_claimed_9 ?_
  refine lv_aload_n hC.1 hC.2.1 dX12_claimed_10 rfl (lv_at hl 0 rfl) ?_
  refine gf_RX12_68 hC hH rfl dX12_claimed_11 ?_
  refine lv_iconst (v := (3 : Int32)) hC.1 hC.2.1 dX12_claimed_14 (by decide) ?_
  refine lv_iload_n hC.1 hC.2.1 dX12_claimed_15 rfl (lv_at hl 1 rfl) ?_
  refine lv_imul hC.1 hC.2.1 dX12_claimed_16 ?_
  refine lv_iload_n hC.1 hC.2.1 dX12_claimed_17 rfl (lv_at hl 2 rfl) ?_
  refine lv_iadd hC.1 hC.2.1 dX12_claimed_18 ?_
  refine al_127 hC hH hg1 rfl dX12_claimed_19 ?_
  refine lv_isub hC.1 hC.2.1 dX12_claimed_20 ?_
  cases h
  exact gret_i hC hr hlk hH hS (Nat.le_of_ble_eq_true rfl) (Nat.le_of_ble_eq_true rfl) dX12_claimed_21
def F_X12_isNext_58 (k5 : Int32 → Int32 → Int32 → Int32 → St → Option (Int32 × St)) (k23 : Int32 → Int32 → Int32 → Int32 → Int32 → Int32 → St → Option (Int32 × St)) (x1 : Int32) (x2 : Int32) (x3 : Int32) (x4 : Int32) (x6 : Int32) (t0 : Int32) (t1 : Int32) (C : St) : Option (Int32 × St) := k23 x1 x2 x3 x4 (t1 + t0) (x6 + 1) C
set_option maxHeartbeats 4000000 in
set_option maxRecDepth 100000 in
theorem B_X12_isNext_58 {p : Program} {l : Launch} {e : Env} {s : State} {m : MethodId} {args : Array Value} {below : List Frame} {meth : Method} {c : Code} {g : GP} {Z : St} (hC : CX p s m args c cX12_isNext RX12 g) (hE : EZ g s s.heap) (hml : c.maxLocals = 7) (hr : meth.sig.returnType = (some .boolean)) (hlk : meth.locks = false) {r : Int32} {C2 : St} {k5 : Int32 → Int32 → Int32 → Int32 → St → Option (Int32 × St)} (hk5 : ∀ (x1 : Int32) (x2 : Int32) (x3 : Int32) (x4 : Int32) (C : St), k5 x1 x2 x3 x4 C = some (r, C2) → ∀ (ed : Nat → Nat) (H : Heap) (locs : List Loc) (ls : Array Slot), HW g ed Z C H → va_S (gP g) s.heap H locs → lv_has ls 7 [(0, .ref (gA g 50 0)), (1, .int x1), (2, .int x2), (3, .int x3), (4, .int x4)] → W p l e ({ frames := 1, cells := 0, slots := 0, locals := 22 } : Room) s m args below meth c H locs 0 0 (MQ below (QG (some (.int r)) g Z C2) args s 0 0 (gP g)) (F0 m 5 ls [])) {k23 : Int32 → Int32 → Int32 → Int32 → Int32 → Int32 → St → Option (Int32 × St)} (hk23 : ∀ (x1 : Int32) (x2 : Int32) (x3 : Int32) (x4 : Int32) (x5 : Int32) (x6 : Int32) (C : St), k23 x1 x2 x3 x4 x5 x6 C = some (r, C2) → ∀ (ed : Nat → Nat) (H : Heap) (locs : List Loc) (ls : Array Slot), HW g ed Z C H → va_S (gP g) s.heap H locs → lv_has ls 7 [(0, .ref (gA g 50 0)), (1, .int x1), (2, .int x2), (3, .int x3), (4, .int x4), (5, .int x5), (6, .int x6)] → W p l e ({ frames := 1, cells := 0, slots := 0, locals := 22 } : Room) s m args below meth c H locs 0 0 (MQ below (QG (some (.int r)) g Z C2) args s 0 0 (gP g)) (F0 m 23 ls [])) {x1 : Int32} {x2 : Int32} {x3 : Int32} {x4 : Int32} {x6 : Int32} {t0 : Int32} {t1 : Int32} {C : St} (h : F_X12_isNext_58 k5 k23 x1 x2 x3 x4 x6 t0 t1 C = some (r, C2)) {ed : Nat → Nat} {H : Heap} {locs : List Loc} {ls : Array Slot} (hH : HW g ed Z C H) (hS : va_S (gP g) s.heap H locs) (hl : lv_has ls 7 [(0, .ref (gA g 50 0)), (1, .int x1), (2, .int x2), (3, .int x3), (4, .int x4), (6, .int x6)]) : W p l e ({ frames := 1, cells := 0, slots := 0, locals := 22 } : Room) s m args below meth c H locs 0 0 (MQ below (QG (some (.int r)) g Z C2) args s 0 0 (gP g)) (F0 m 58 ls [.int t0, .int t1]) := by
  unfold F_X12_isNext_58 at h
  refine lv_iadd hC.1 hC.2.1 dX12_isNext_58 ?_
  refine lv_istore (lv' := [(5, .int (t1 + t0)), (0, .ref (gA g 50 0)), (1, .int x1), (2, .int x2), (3, .int x3), (4, .int x4), (6, .int x6)]) hC.1 hC.2.1 dX12_isNext_59 hl (by decide) rfl (fun ls hl => ?_)
  refine lv_iinc (v := x6 + 1) (lv' := [(6, .int (x6 + 1)), (5, .int (t1 + t0)), (0, .ref (gA g 50 0)), (1, .int x1), (2, .int x2), (3, .int x3), (4, .int x4)]) hC.1 hC.2.1 dX12_isNext_61 hl (k := 6) rfl rfl (by decide) rfl (fun ls hl => ?_)
  refine lv_goto (tgt := 23) hC.1 hC.2.1 dX12_isNext_64 (by decide) ?_
  exact hk23 _ _ _ _ _ _ _ h _ _ _ _ hH hS (lv_sub hl [2, 3, 4, 5, 6, 1, 0] rfl)
def F_X12_isNext_88 (k5 : Int32 → Int32 → Int32 → Int32 → St → Option (Int32 × St)) (x1 : Int32) (x2 : Int32) (x4 : Int32) (t0 : Int32) (C : St) : Option (Int32 × St) := k5 x1 x2 t0 (x4 + 1) C
set_option maxHeartbeats 4000000 in
set_option maxRecDepth 100000 in
theorem B_X12_isNext_88 {p : Program} {l : Launch} {e : Env} {s : State} {m : MethodId} {args : Array Value} {below : List Frame} {meth : Method} {c : Code} {g : GP} {Z : St} (hC : CX p s m args c cX12_isNext RX12 g) (hE : EZ g s s.heap) (hml : c.maxLocals = 7) (hr : meth.sig.returnType = (some .boolean)) (hlk : meth.locks = false) {r : Int32} {C2 : St} {k5 : Int32 → Int32 → Int32 → Int32 → St → Option (Int32 × St)} (hk5 : ∀ (x1 : Int32) (x2 : Int32) (x3 : Int32) (x4 : Int32) (C : St), k5 x1 x2 x3 x4 C = some (r, C2) → ∀ (ed : Nat → Nat) (H : Heap) (locs : List Loc) (ls : Array Slot), HW g ed Z C H → va_S (gP g) s.heap H locs → lv_has ls 7 [(0, .ref (gA g 50 0)), (1, .int x1), (2, .int x2), (3, .int x3), (4, .int x4)] → W p l e ({ frames := 1, cells := 0, slots := 0, locals := 22 } : Room) s m args below meth c H locs 0 0 (MQ below (QG (some (.int r)) g Z C2) args s 0 0 (gP g)) (F0 m 5 ls [])) {x1 : Int32} {x2 : Int32} {x4 : Int32} {t0 : Int32} {C : St} (h : F_X12_isNext_88 k5 x1 x2 x4 t0 C = some (r, C2)) {ed : Nat → Nat} {H : Heap} {locs : List Loc} {ls : Array Slot} (hH : HW g ed Z C H) (hS : va_S (gP g) s.heap H locs) (hl : lv_has ls 7 [(0, .ref (gA g 50 0)), (1, .int x1), (2, .int x2), (4, .int x4)]) : W p l e ({ frames := 1, cells := 0, slots := 0, locals := 22 } : Room) s m args below meth c H locs 0 0 (MQ below (QG (some (.int r)) g Z C2) args s 0 0 (gP g)) (F0 m 88 ls [.int t0]) := by
  unfold F_X12_isNext_88 at h
  refine lv_istore_n (i := 3) (lv' := [(3, .int t0), (0, .ref (gA g 50 0)), (1, .int x1), (2, .int x2), (4, .int x4)]) hC.1 hC.2.1 dX12_isNext_88 rfl hl (by decide) rfl (fun ls hl => ?_)
  refine lv_iinc (v := x4 + 1) (lv' := [(4, .int (x4 + 1)), (3, .int t0), (0, .ref (gA g 50 0)), (1, .int x1), (2, .int x2)]) hC.1 hC.2.1 dX12_isNext_89 hl (k := 4) rfl rfl (by decide) rfl (fun ls hl => ?_)
  refine lv_goto (tgt := 5) hC.1 hC.2.1 dX12_isNext_92 (by decide) ?_
  exact hk5 _ _ _ _ _ h _ _ _ _ hH hS (lv_sub hl [2, 3, 4, 1, 0] rfl)
def F_X12_isNext_87 (k5 : Int32 → Int32 → Int32 → Int32 → St → Option (Int32 × St)) (x1 : Int32) (x2 : Int32) (x4 : Int32) (C : St) : Option (Int32 × St) := F_X12_isNext_88 k5 x1 x2 x4 (0 : Int32) C
set_option maxHeartbeats 4000000 in
set_option maxRecDepth 100000 in
theorem B_X12_isNext_87 {p : Program} {l : Launch} {e : Env} {s : State} {m : MethodId} {args : Array Value} {below : List Frame} {meth : Method} {c : Code} {g : GP} {Z : St} (hC : CX p s m args c cX12_isNext RX12 g) (hE : EZ g s s.heap) (hml : c.maxLocals = 7) (hr : meth.sig.returnType = (some .boolean)) (hlk : meth.locks = false) {r : Int32} {C2 : St} {k5 : Int32 → Int32 → Int32 → Int32 → St → Option (Int32 × St)} (hk5 : ∀ (x1 : Int32) (x2 : Int32) (x3 : Int32) (x4 : Int32) (C : St), k5 x1 x2 x3 x4 C = some (r, C2) → ∀ (ed : Nat → Nat) (H : Heap) (locs : List Loc) (ls : Array Slot), HW g ed Z C H → va_S (gP g) s.heap H locs → lv_has ls 7 [(0, .ref (gA g 50 0)), (1, .int x1), (2, .int x2), (3, .int x3), (4, .int x4)] → W p l e ({ frames := 1, cells := 0, slots := 0, locals := 22 } : Room) s m args below meth c H locs 0 0 (MQ below (QG (some (.int r)) g Z C2) args s 0 0 (gP g)) (F0 m 5 ls [])) {x1 : Int32} {x2 : Int32} {x4 : Int32} {C : St} (h : F_X12_isNext_87 k5 x1 x2 x4 C = some (r, C2)) {ed : Nat → Nat} {H : Heap} {locs : List Loc} {ls : Array Slot} (hH : HW g ed Z C H) (hS : va_S (gP g) s.heap H locs) (hl : lv_has ls 7 [(0, .ref (gA g 50 0)), (1, .int x1), (2, .int x2), (4, .int x4)]) : W p l e ({ frames := 1, cells := 0, slots := 0, locals := 22 } : Room) s m args below meth c H locs 0 0 (MQ below (QG (some (.int r)) g Z C2) args s 0 0 (gP g)) (F0 m 87 ls []) := by
  unfold F_X12_isNext_87 at h
  refine lv_iconst (v := (0 : Int32)) hC.1 hC.2.1 dX12_isNext_87 (by decide) ?_
  exact B_X12_isNext_88 hC hE hml hr hlk hk5 h hH hS (lv_sub hl [0, 1, 2, 3] rfl)
def F_X12_isNext_23 (k5 : Int32 → Int32 → Int32 → Int32 → St → Option (Int32 × St)) : Nat → Int32 → Int32 → Int32 → Int32 → Int32 → Int32 → St → Option (Int32 × St)
  | 0, _, _, _, _, _, _, _ => none
  | fu + 1, x1, x2, x3, x4, x5, x6, C => if (6 : Int32) ≤ x6 then (if x3 = 0 then (F_X12_isNext_87 k5 x1 x2 x4 C) else (bd2 (F_X12_claimed x2 x4 C) (fun r3 D4 => if x5 < r3 then (F_X12_isNext_87 k5 x1 x2 x4 D4) else (F_X12_isNext_88 k5 x1 x2 x4 (1 : Int32) D4)))) else (if ((x1 >>> (x6 &&& 31)) &&& (1 : Int32)) = (1 : Int32) then (gd (inb (((3 : Int32) * x6) + x4) 18) (F_X12_isNext_58 k5 (F_X12_isNext_23 k5 fu) x1 x2 x3 x4 x6 (C 127 0 0 (((3 : Int32) * x6) + x4).toNatClampNeg) x5 C)) else (F_X12_isNext_58 k5 (F_X12_isNext_23 k5 fu) x1 x2 x3 x4 x6 (0 : Int32) x5 C))
set_option maxHeartbeats 4000000 in
set_option maxRecDepth 100000 in
theorem B_X12_isNext_23 {p : Program} {l : Launch} {e : Env} {s : State} {m : MethodId} {args : Array Value} {below : List Frame} {meth : Method} {c : Code} {g : GP} {Z : St} (hC : CX p s m args c cX12_isNext RX12 g) (hE : EZ g s s.heap) (hml : c.maxLocals = 7) (hr : meth.sig.returnType = (some .boolean)) (hlk : meth.locks = false) {r : Int32} {C2 : St} {k5 : Int32 → Int32 → Int32 → Int32 → St → Option (Int32 × St)} (hk5 : ∀ (x1 : Int32) (x2 : Int32) (x3 : Int32) (x4 : Int32) (C : St), k5 x1 x2 x3 x4 C = some (r, C2) → ∀ (ed : Nat → Nat) (H : Heap) (locs : List Loc) (ls : Array Slot), HW g ed Z C H → va_S (gP g) s.heap H locs → lv_has ls 7 [(0, .ref (gA g 50 0)), (1, .int x1), (2, .int x2), (3, .int x3), (4, .int x4)] → W p l e ({ frames := 1, cells := 0, slots := 0, locals := 22 } : Room) s m args below meth c H locs 0 0 (MQ below (QG (some (.int r)) g Z C2) args s 0 0 (gP g)) (F0 m 5 ls [])) : ∀ (fu : Nat) (x1 : Int32) (x2 : Int32) (x3 : Int32) (x4 : Int32) (x5 : Int32) (x6 : Int32) (C : St), F_X12_isNext_23 k5 fu x1 x2 x3 x4 x5 x6 C = some (r, C2) → ∀ (ed : Nat → Nat) (H : Heap) (locs : List Loc) (ls : Array Slot), HW g ed Z C H → va_S (gP g) s.heap H locs → lv_has ls 7 [(0, .ref (gA g 50 0)), (1, .int x1), (2, .int x2), (3, .int x3), (4, .int x4), (5, .int x5), (6, .int x6)] → W p l e ({ frames := 1, cells := 0, slots := 0, locals := 22 } : Room) s m args below meth c H locs 0 0 (MQ below (QG (some (.int r)) g Z C2) args s 0 0 (gP g)) (F0 m 23 ls []) := by
  intro fu
  induction fu with
  | zero =>
    intro x1 x2 x3 x4 x5 x6 C h
    cases h
  | succ fu ih =>
    intro x1 x2 x3 x4 x5 x6 C h ed H locs ls hH hS hl
    rw [F_X12_isNext_23] at h
    refine lv_iload hC.1 hC.2.1 dX12_isNext_23 (lv_at hl 6 rfl) ?_
    refine lv_bipush (v := (6 : Int32)) hC.1 hC.2.1 dX12_isNext_25 (by decide) ?_
    refine lv_icmp_ge (tgt := 67) hC.1 hC.2.1 dX12_isNext_27 (by decide) (fun hc1 => ?_) (fun hc1 => ?_)
    · rw [if_pos hc1] at h
      refine lv_iload_n hC.1 hC.2.1 dX12_isNext_67 rfl (lv_at hl 3 rfl) ?_
      refine lv_if_eq (tgt := 87) hC.1 hC.2.1 dX12_isNext_68 (by decide) (fun hc2 => ?_) (fun hc2 => ?_)
      · rw [if_pos hc2] at h
        exact B_X12_isNext_87 hC hE hml hr hlk hk5 h hH hS (lv_sub hl [0, 1, 2, 4] rfl)
      · rw [if_neg hc2] at h
        refine lv_aload_n hC.1 hC.2.1 dX12_isNext_71 rfl (lv_at hl 0 rfl) ?_
        refine lv_iload_n hC.1 hC.2.1 dX12_isNext_72 rfl (lv_at hl 2 rfl) ?_
        refine lv_iload hC.1 hC.2.1 dX12_isNext_73 (lv_at hl 4 rfl) ?_
        obtain ⟨r3, D4, hF5, h⟩ := bd2_some h
        refine gcallV (As := [.int x2, .int x4]) (rest := []) (Cn := RX12) hC hE hml hH hS (c_X12_claimed hF5) ⟨wd_1384, wd_1386, wp_42, wd_17, wd_1387⟩ hd_X12_claimed rfl rfl ⟨Nat.le_of_ble_eq_true rfl, Nat.le_of_ble_eq_true rfl⟩ rfl (hw_recv (q := 50) (i := 0) hC hH ⟨Nat.zero_lt_one, fun h => absurd h (by decide)⟩ rfl rfl) rfl hl.1 rfl (Nat.le_of_ble_eq_true rfl) dX12_isNext_75 ⟨Nat.le_of_ble_eq_true rfl, Nat.le_of_ble_eq_true rfl⟩ (fun ed H locs hH hS => ?_)
        refine W.eq (g2 := F0 m 78 ls [.int r3]) rfl ?_
        refine lv_iload hC.1 hC.2.1 dX12_isNext_78 (lv_at hl 5 rfl) ?_
        refine lv_icmp_gt (tgt := 87) hC.1 hC.2.1 dX12_isNext_80 (by decide) (fun hc6 => ?_) (fun hc6 => ?_)
        · rw [if_pos hc6] at h
          exact B_X12_isNext_87 hC hE hml hr hlk hk5 h hH hS (lv_sub hl [0, 1, 2, 4] rfl)
        · rw [if_neg hc6] at h
          refine lv_iconst (v := (1 : Int32)) hC.1 hC.2.1 dX12_isNext_83 (by decide) ?_
          refine lv_goto (tgt := 88) hC.1 hC.2.1 dX12_isNext_84 (by decide) ?_
          exact B_X12_isNext_88 hC hE hml hr hlk hk5 h hH hS (lv_sub hl [0, 1, 2, 4] rfl)
    · rw [if_neg hc1] at h
      refine lv_iload hC.1 hC.2.1 dX12_isNext_30 (lv_at hl 5 rfl) ?_
      refine lv_iload_n hC.1 hC.2.1 dX12_isNext_32 rfl (lv_at hl 1 rfl) ?_
      refine lv_iload hC.1 hC.2.1 dX12_isNext_33 (lv_at hl 6 rfl) ?_
      refine lv_ishr hC.1 hC.2.1 dX12_isNext_35 ?_
      refine lv_iconst (v := (1 : Int32)) hC.1 hC.2.1 dX12_isNext_36 (by decide) ?_
      refine lv_iand hC.1 hC.2.1 dX12_isNext_37 ?_
      refine lv_iconst (v := (1 : Int32)) hC.1 hC.2.1 dX12_isNext_38 (by decide) ?_
      refine lv_icmp_ne (tgt := 57) hC.1 hC.2.1 dX12_isNext_39 (by decide) (fun hc7 => ?_) (fun hc7 => ?_)
      · rw [if_neg hc7] at h
        refine lv_iconst (v := (0 : Int32)) hC.1 hC.2.1 dX12_isNext_57 (by decide) ?_
        exact B_X12_isNext_58 hC hE hml hr hlk hk5 ih h hH hS (lv_sub hl [0, 1, 2, 3, 4, 6] rfl)
      · rw [if_pos hc7] at h
        refine lv_aload_n hC.1 hC.2.1 dX12_isNext_42 rfl (lv_at hl 0 rfl) ?_
        refine gf_RX12_68 hC hH rfl dX12_isNext_43 ?_
        refine lv_iconst (v := (3 : Int32)) hC.1 hC.2.1 dX12_isNext_46 (by decide) ?_
        refine lv_iload hC.1 hC.2.1 dX12_isNext_47 (lv_at hl 6 rfl) ?_
        refine lv_imul hC.1 hC.2.1 dX12_isNext_49 ?_
        refine lv_iload hC.1 hC.2.1 dX12_isNext_50 (lv_at hl 4 rfl) ?_
        refine lv_iadd hC.1 hC.2.1 dX12_isNext_52 ?_
        obtain ⟨hg8, h⟩ := gd_some h
        refine al_127 hC hH hg8 rfl dX12_isNext_53 ?_
        refine lv_goto (tgt := 58) hC.1 hC.2.1 dX12_isNext_54 (by decide) ?_
        exact B_X12_isNext_58 hC hE hml hr hlk hk5 ih h hH hS (lv_sub hl [0, 1, 2, 3, 4, 6] rfl)
def F_X12_isNext_5  : Nat → Int32 → Int32 → Int32 → Int32 → St → Option (Int32 × St)
  | 0, _, _, _, _, _ => none
  | fu + 1, x1, x2, x3, x4, C => if (3 : Int32) ≤ x4 then (gd (isb x3) (some (x3, C))) else (gd (inb x4 3) (F_X12_isNext_23 (F_X12_isNext_5 fu) 1000 x1 x2 x3 x4 (C 128 0 0 x4.toNatClampNeg) (0 : Int32) C))
set_option maxHeartbeats 4000000 in
set_option maxRecDepth 100000 in
theorem B_X12_isNext_5 {p : Program} {l : Launch} {e : Env} {s : State} {m : MethodId} {args : Array Value} {below : List Frame} {meth : Method} {c : Code} {g : GP} {Z : St} (hC : CX p s m args c cX12_isNext RX12 g) (hE : EZ g s s.heap) (hml : c.maxLocals = 7) (hr : meth.sig.returnType = (some .boolean)) (hlk : meth.locks = false) {r : Int32} {C2 : St} : ∀ (fu : Nat) (x1 : Int32) (x2 : Int32) (x3 : Int32) (x4 : Int32) (C : St), F_X12_isNext_5  fu x1 x2 x3 x4 C = some (r, C2) → ∀ (ed : Nat → Nat) (H : Heap) (locs : List Loc) (ls : Array Slot), HW g ed Z C H → va_S (gP g) s.heap H locs → lv_has ls 7 [(0, .ref (gA g 50 0)), (1, .int x1), (2, .int x2), (3, .int x3), (4, .int x4)] → W p l e ({ frames := 1, cells := 0, slots := 0, locals := 22 } : Room) s m args below meth c H locs 0 0 (MQ below (QG (some (.int r)) g Z C2) args s 0 0 (gP g)) (F0 m 5 ls []) := by
  intro fu
  induction fu with
  | zero =>
    intro x1 x2 x3 x4 C h
    cases h
  | succ fu ih =>
    intro x1 x2 x3 x4 C h ed H locs ls hH hS hl
    rw [F_X12_isNext_5] at h
    refine lv_iload hC.1 hC.2.1 dX12_isNext_5 (lv_at hl 4 rfl) ?_
    refine lv_iconst (v := (3 : Int32)) hC.1 hC.2.1 dX12_isNext_7 (by decide) ?_
    refine lv_icmp_ge (tgt := 95) hC.1 hC.2.1 dX12_isNext_8 (by decide) (fun hc1 => ?_) (fun hc1 => ?_)
    · rw [if_pos hc1] at h
      refine lv_iload_n hC.1 hC.2.1 dX12_isNext_95 rfl (lv_at hl 3 rfl) ?_
      obtain ⟨hg2, h⟩ := gd_some h
      cases h
      exact gret_z hC hr hlk hg2 hH hS (Nat.le_of_ble_eq_true rfl) (Nat.le_of_ble_eq_true rfl) dX12_isNext_96
    · rw [if_neg hc1] at h
      refine lv_aload_n hC.1 hC.2.1 dX12_isNext_11 rfl (lv_at hl 0 rfl) ?_
      refine gf_RX12_71 hC hH rfl dX12_isNext_12 ?_
      refine lv_iload hC.1 hC.2.1 dX12_isNext_15 (lv_at hl 4 rfl) ?_
      obtain ⟨hg3, h⟩ := gd_some h
      refine al_128 hC hH hg3 rfl dX12_isNext_17 ?_
      refine lv_istore (lv' := [(5, .int (C 128 0 0 x4.toNatClampNeg)), (0, .ref (gA g 50 0)), (1, .int x1), (2, .int x2), (3, .int x3), (4, .int x4)]) hC.1 hC.2.1 dX12_isNext_18 hl (by decide) rfl (fun ls hl => ?_)
      refine lv_iconst (v := (0 : Int32)) hC.1 hC.2.1 dX12_isNext_20 (by decide) ?_
      refine lv_istore (lv' := [(6, .int (0 : Int32)), (5, .int (C 128 0 0 x4.toNatClampNeg)), (0, .ref (gA g 50 0)), (1, .int x1), (2, .int x2), (3, .int x3), (4, .int x4)]) hC.1 hC.2.1 dX12_isNext_21 hl (by decide) rfl (fun ls hl => ?_)
      exact B_X12_isNext_23 hC hE hml hr hlk ih 1000 _ _ _ _ _ _ _ h _ _ _ _ hH hS (lv_sub hl [2, 3, 4, 5, 6, 1, 0] rfl)
def F_X12_isNext (x1 : Int32) (x2 : Int32) (C : St) : Option (Int32 × St) := F_X12_isNext_5 1000 x1 x2 (1 : Int32) (0 : Int32) C
set_option maxHeartbeats 4000000 in
set_option maxRecDepth 100000 in
theorem c_X12_isNext {l : Launch} {g : GP} {ed : Nat → Nat} {Z : St} {x1 : Int32} {x2 : Int32} {C : St} {r : Int32} {C2 : St} (h : F_X12_isNext x1 x2 C = some (r, C2)) : Met l yX12_isNext (Cond.code yX12_isNext cX12_isNext 7 (some .boolean) :: lwG) ({ frames := 1, cells := 0, slots := 0, locals := 22 } : Room) (va_Pc [.ref (gA g 50 0), .int x1, .int x2] (PW g Z C ed)) (QG (some (.int r)) g Z C2) 0 0 (gP g) := by
  refine Met.ofW (cc := cX12_isNext) (maxL := 7) (ret := (some .boolean)) (by decide +kernel) rfl ?_
  intro p e s m args below meth c s₁ B hml hv
  obtain ⟨ha, hC, hE, hr, hlk, hH⟩ := g_start B hv
  subst ha
  have hC : CX p s m ([.ref (gA g 50 0), .int x1, .int x2] : List Value).toArray c cX12_isNext RX12 g := hC
  have hS : va_S (gP g) s.heap s.heap [] := va_S.rf
  obtain ⟨ls, he, hl⟩ := g_entry m (vs := [.ref (gA g 50 0), .int x1, .int x2]) (n := 7) (List.forall_mem_cons.mpr ⟨rfl, (List.forall_mem_cons.mpr ⟨rfl, (List.forall_mem_cons.mpr ⟨rfl, (fun _ h => absurd h List.not_mem_nil)⟩)⟩)⟩) (Nat.le_of_ble_eq_true rfl)
  rw [he]
  have hl : lv_has ls 7 [(0, .ref (gA g 50 0)), (1, .int x1), (2, .int x2)] := hl
  unfold F_X12_isNext at h
  refine lv_iconst (v := (1 : Int32)) hC.1 hC.2.1 dX12_isNext_0 (by decide) ?_
  refine lv_istore_n (i := 3) (lv' := [(3, .int (1 : Int32)), (0, .ref (gA g 50 0)), (1, .int x1), (2, .int x2)]) hC.1 hC.2.1 dX12_isNext_1 rfl hl (by decide) rfl (fun ls hl => ?_)
  refine lv_iconst (v := (0 : Int32)) hC.1 hC.2.1 dX12_isNext_2 (by decide) ?_
  refine lv_istore (lv' := [(4, .int (0 : Int32)), (3, .int (1 : Int32)), (0, .ref (gA g 50 0)), (1, .int x1), (2, .int x2)]) hC.1 hC.2.1 dX12_isNext_3 hl (by decide) rfl (fun ls hl => ?_)
  exact B_X12_isNext_5 hC hE hml hr hlk 1000 _ _ _ _ _ h _ _ _ _ hH hS (lv_sub hl [2, 3, 4, 1, 0] rfl)
def F_X12_isSafe_33 (k9 : Int32 → Int32 → St → Option (Int32 × St)) (x3 : Int32) (t0 : Int32) (t1 : Int32) (C : St) : Option (Int32 × St) := k9 (t1 ||| t0) (x3 + 1) C
set_option maxHeartbeats 4000000 in
set_option maxRecDepth 100000 in
theorem B_X12_isSafe_33 {p : Program} {l : Launch} {e : Env} {s : State} {m : MethodId} {args : Array Value} {below : List Frame} {meth : Method} {c : Code} {g : GP} {Z : St} (hC : CX p s m args c cX12_isSafe RX12 g) (hE : EZ g s s.heap) (hml : c.maxLocals = 5) (hr : meth.sig.returnType = (some .boolean)) (hlk : meth.locks = false) {r : Int32} {C2 : St} {k9 : Int32 → Int32 → St → Option (Int32 × St)} (hk9 : ∀ (x2 : Int32) (x3 : Int32) (C : St), k9 x2 x3 C = some (r, C2) → ∀ (ed : Nat → Nat) (H : Heap) (locs : List Loc) (ls : Array Slot), HW g ed Z C H → va_S (gP g) s.heap H locs → lv_has ls 5 [(0, .ref (gA g 50 0)), (1, .ref (gA g 170 0)), (2, .int x2), (3, .int x3)] → W p l e ({ frames := 2, cells := 0, slots := 0, locals := 48 } : Room) s m args below meth c H locs 0 0 (MQ below (QG (some (.int r)) g Z C2) args s 0 0 (gP g)) (F0 m 9 ls [])) {x3 : Int32} {t0 : Int32} {t1 : Int32} {C : St} (h : F_X12_isSafe_33 k9 x3 t0 t1 C = some (r, C2)) {ed : Nat → Nat} {H : Heap} {locs : List Loc} {ls : Array Slot} (hH : HW g ed Z C H) (hS : va_S (gP g) s.heap H locs) (hl : lv_has ls 5 [(0, .ref (gA g 50 0)), (1, .ref (gA g 170 0)), (3, .int x3)]) : W p l e ({ frames := 2, cells := 0, slots := 0, locals := 48 } : Room) s m args below meth c H locs 0 0 (MQ below (QG (some (.int r)) g Z C2) args s 0 0 (gP g)) (F0 m 33 ls [.int t0, .int t1]) := by
  unfold F_X12_isSafe_33 at h
  refine lv_ior hC.1 hC.2.1 dX12_isSafe_33 ?_
  refine lv_istore_n (i := 2) (lv' := [(2, .int (t1 ||| t0)), (0, .ref (gA g 50 0)), (1, .ref (gA g 170 0)), (3, .int x3)]) hC.1 hC.2.1 dX12_isSafe_34 rfl hl (by decide) rfl (fun ls hl => ?_)
  refine lv_iinc (v := x3 + 1) (lv' := [(3, .int (x3 + 1)), (2, .int (t1 ||| t0)), (0, .ref (gA g 50 0)), (1, .ref (gA g 170 0))]) hC.1 hC.2.1 dX12_isSafe_35 hl (k := 3) rfl rfl (by decide) rfl (fun ls hl => ?_)
  refine lv_goto (tgt := 9) hC.1 hC.2.1 dX12_isSafe_38 (by decide) ?_
  exact hk9 _ _ _ h _ _ _ _ hH hS (lv_sub hl [2, 3, 1, 0] rfl)
def F_X12_isSafe_60 (k43 : Int32 → Int32 → St → Option (Int32 × St)) (x2 : Int32) (x3 : Int32) (t0 : Int32) (t1 : Int32) (C : St) : Option (Int32 × St) := gd (inb t1 64) (gd (isb t0) (st (up C 170 0 0 t1.toNatClampNeg t0) (fun D3 => k43 x2 (x3 + 1) D3)))
set_option maxHeartbeats 4000000 in
set_option maxRecDepth 100000 in
theorem B_X12_isSafe_60 {p : Program} {l : Launch} {e : Env} {s : State} {m : MethodId} {args : Array Value} {below : List Frame} {meth : Method} {c : Code} {g : GP} {Z : St} (hC : CX p s m args c cX12_isSafe RX12 g) (hE : EZ g s s.heap) (hml : c.maxLocals = 5) (hr : meth.sig.returnType = (some .boolean)) (hlk : meth.locks = false) {r : Int32} {C2 : St} {k43 : Int32 → Int32 → St → Option (Int32 × St)} (hk43 : ∀ (x2 : Int32) (x3 : Int32) (C : St), k43 x2 x3 C = some (r, C2) → ∀ (ed : Nat → Nat) (H : Heap) (locs : List Loc) (ls : Array Slot), HW g ed Z C H → va_S (gP g) s.heap H locs → lv_has ls 5 [(0, .ref (gA g 50 0)), (1, .ref (gA g 170 0)), (2, .int x2), (3, .int x3)] → W p l e ({ frames := 2, cells := 0, slots := 0, locals := 48 } : Room) s m args below meth c H locs 0 0 (MQ below (QG (some (.int r)) g Z C2) args s 0 0 (gP g)) (F0 m 43 ls [])) {x2 : Int32} {x3 : Int32} {t0 : Int32} {t1 : Int32} {C : St} (h : F_X12_isSafe_60 k43 x2 x3 t0 t1 C = some (r, C2)) {ed : Nat → Nat} {H : Heap} {locs : List Loc} {ls : Array Slot} (hH : HW g ed Z C H) (hS : va_S (gP g) s.heap H locs) (hl : lv_has ls 5 [(0, .ref (gA g 50 0)), (1, .ref (gA g 170 0)), (2, .int x2), (3, .int x3)]) : W p l e ({ frames := 2, cells := 0, slots := 0, locals := 48 } : Room) s m args below meth c H locs 0 0 (MQ below (QG (some (.int r)) g Z C2) args s 0 0 (gP g)) (F0 m 60 ls [.int t0, .int t1, .ref (gA g 170 0)]) := by
  unfold F_X12_isSafe_60 at h
  obtain ⟨hg1, h⟩ := gd_some h
  obtain ⟨hg2, h⟩ := gd_some h
  obtain ⟨D3, e4, h⟩ := st_some h
  refine as_170 hC hH hS hg1 hg2 rfl dX12_isSafe_60 (fun H locs hH hS => ?_)
  rw [← e4] at hH
  refine lv_iinc (v := x3 + 1) (lv' := [(3, .int (x3 + 1)), (0, .ref (gA g 50 0)), (1, .ref (gA g 170 0)), (2, .int x2)]) hC.1 hC.2.1 dX12_isSafe_61 hl (k := 3) rfl rfl (by decide) rfl (fun ls hl => ?_)
  refine lv_goto (tgt := 43) hC.1 hC.2.1 dX12_isSafe_64 (by decide) ?_
  exact hk43 _ _ _ h _ _ _ _ hH hS (lv_sub hl [1, 2, 3, 0] rfl)
def F_X12_isSafe_129 (k69 : Int32 → Int32 → St → Option (Int32 × St)) (k78 : Int32 → Int32 → Int32 → St → Option (Int32 × St)) (x2 : Int32) (x3 : Int32) (x4 : Int32) (C : St) : Option (Int32 × St) := k78 x2 x3 (x4 + 1) C
set_option maxHeartbeats 4000000 in
set_option maxRecDepth 100000 in
theorem B_X12_isSafe_129 {p : Program} {l : Launch} {e : Env} {s : State} {m : MethodId} {args : Array Value} {below : List Frame} {meth : Method} {c : Code} {g : GP} {Z : St} (hC : CX p s m args c cX12_isSafe RX12 g) (hE : EZ g s s.heap) (hml : c.maxLocals = 5) (hr : meth.sig.returnType = (some .boolean)) (hlk : meth.locks = false) {r : Int32} {C2 : St} {k69 : Int32 → Int32 → St → Option (Int32 × St)} (hk69 : ∀ (x2 : Int32) (x3 : Int32) (C : St), k69 x2 x3 C = some (r, C2) → ∀ (ed : Nat → Nat) (H : Heap) (locs : List Loc) (ls : Array Slot), HW g ed Z C H → va_S (gP g) s.heap H locs → lv_has ls 5 [(0, .ref (gA g 50 0)), (1, .ref (gA g 170 0)), (2, .int x2), (3, .int x3)] → W p l e ({ frames := 2, cells := 0, slots := 0, locals := 48 } : Room) s m args below meth c H locs 0 0 (MQ below (QG (some (.int r)) g Z C2) args s 0 0 (gP g)) (F0 m 69 ls [])) {k78 : Int32 → Int32 → Int32 → St → Option (Int32 × St)} (hk78 : ∀ (x2 : Int32) (x3 : Int32) (x4 : Int32) (C : St), k78 x2 x3 x4 C = some (r, C2) → ∀ (ed : Nat → Nat) (H : Heap) (locs : List Loc) (ls : Array Slot), HW g ed Z C H → va_S (gP g) s.heap H locs → lv_has ls 5 [(0, .ref (gA g 50 0)), (1, .ref (gA g 170 0)), (2, .int x2), (3, .int x3), (4, .int x4)] → W p l e ({ frames := 2, cells := 0, slots := 0, locals := 48 } : Room) s m args below meth c H locs 0 0 (MQ below (QG (some (.int r)) g Z C2) args s 0 0 (gP g)) (F0 m 78 ls [])) {x2 : Int32} {x3 : Int32} {x4 : Int32} {C : St} (h : F_X12_isSafe_129 k69 k78 x2 x3 x4 C = some (r, C2)) {ed : Nat → Nat} {H : Heap} {locs : List Loc} {ls : Array Slot} (hH : HW g ed Z C H) (hS : va_S (gP g) s.heap H locs) (hl : lv_has ls 5 [(0, .ref (gA g 50 0)), (1, .ref (gA g 170 0)), (2, .int x2), (3, .int x3), (4, .int x4)]) : W p l e ({ frames := 2, cells := 0, slots := 0, locals := 48 } : Room) s m args below meth c H locs 0 0 (MQ below (QG (some (.int r)) g Z C2) args s 0 0 (gP g)) (F0 m 129 ls []) := by
  unfold F_X12_isSafe_129 at h
  refine lv_iinc (v := x4 + 1) (lv' := [(4, .int (x4 + 1)), (0, .ref (gA g 50 0)), (1, .ref (gA g 170 0)), (2, .int x2), (3, .int x3)]) hC.1 hC.2.1 dX12_isSafe_129 hl (k := 4) rfl rfl (by decide) rfl (fun ls hl => ?_)
  refine lv_goto (tgt := 78) hC.1 hC.2.1 dX12_isSafe_132 (by decide) ?_
  exact hk78 _ _ _ _ h _ _ _ _ hH hS (lv_sub hl [1, 2, 3, 4, 0] rfl)
def F_X12_isSafe_135 (k69 : Int32 → Int32 → St → Option (Int32 × St)) (x2 : Int32) (x3 : Int32) (C : St) : Option (Int32 × St) := k69 x2 (x3 + 1) C
set_option maxHeartbeats 4000000 in
set_option maxRecDepth 100000 in
theorem B_X12_isSafe_135 {p : Program} {l : Launch} {e : Env} {s : State} {m : MethodId} {args : Array Value} {below : List Frame} {meth : Method} {c : Code} {g : GP} {Z : St} (hC : CX p s m args c cX12_isSafe RX12 g) (hE : EZ g s s.heap) (hml : c.maxLocals = 5) (hr : meth.sig.returnType = (some .boolean)) (hlk : meth.locks = false) {r : Int32} {C2 : St} {k69 : Int32 → Int32 → St → Option (Int32 × St)} (hk69 : ∀ (x2 : Int32) (x3 : Int32) (C : St), k69 x2 x3 C = some (r, C2) → ∀ (ed : Nat → Nat) (H : Heap) (locs : List Loc) (ls : Array Slot), HW g ed Z C H → va_S (gP g) s.heap H locs → lv_has ls 5 [(0, .ref (gA g 50 0)), (1, .ref (gA g 170 0)), (2, .int x2), (3, .int x3)] → W p l e ({ frames := 2, cells := 0, slots := 0, locals := 48 } : Room) s m args below meth c H locs 0 0 (MQ below (QG (some (.int r)) g Z C2) args s 0 0 (gP g)) (F0 m 69 ls [])) {x2 : Int32} {x3 : Int32} {C : St} (h : F_X12_isSafe_135 k69 x2 x3 C = some (r, C2)) {ed : Nat → Nat} {H : Heap} {locs : List Loc} {ls : Array Slot} (hH : HW g ed Z C H) (hS : va_S (gP g) s.heap H locs) (hl : lv_has ls 5 [(0, .ref (gA g 50 0)), (1, .ref (gA g 170 0)), (2, .int x2), (3, .int x3)]) : W p l e ({ frames := 2, cells := 0, slots := 0, locals := 48 } : Room) s m args below meth c H locs 0 0 (MQ below (QG (some (.int r)) g Z C2) args s 0 0 (gP g)) (F0 m 135 ls []) := by
  unfold F_X12_isSafe_135 at h
  refine lv_iinc (v := x3 + 1) (lv' := [(3, .int (x3 + 1)), (0, .ref (gA g 50 0)), (1, .ref (gA g 170 0)), (2, .int x2)]) hC.1 hC.2.1 dX12_isSafe_135 hl (k := 3) rfl rfl (by decide) rfl (fun ls hl => ?_)
  refine lv_goto (tgt := 69) hC.1 hC.2.1 dX12_isSafe_138 (by decide) ?_
  exact hk69 _ _ _ h _ _ _ _ hH hS (lv_sub hl [1, 2, 3, 0] rfl)
def F_X12_isSafe_78 (k69 : Int32 → Int32 → St → Option (Int32 × St)) : Nat → Int32 → Int32 → Int32 → St → Option (Int32 × St)
  | 0, _, _, _, _ => none
  | fu + 1, x2, x3, x4, C => if (6 : Int32) ≤ x4 then (F_X12_isSafe_135 k69 x2 x3 C) else (gd (inb x3 64) (if (C 170 0 0 x3.toNatClampNeg) = 0 then (F_X12_isSafe_135 k69 x2 x3 C) else (if ((x2 >>> (x4 &&& 31)) &&& (1 : Int32)) = (1 : Int32) then (if ((x3 >>> (x4 &&& 31)) &&& (1 : Int32)) = 0 then (bd2 (F_X12_isNext x3 x4 C) (fun r6 D7 => if r6 = 0 then (F_X12_isSafe_129 k69 (F_X12_isSafe_78 k69 fu) x2 x3 x4 D7) else (gd (inb (x3 ||| ((1 : Int32) <<< (x4 &&& 31))) 64) (st (up D7 170 0 0 (x3 ||| ((1 : Int32) <<< (x4 &&& 31))).toNatClampNeg (1 : Int32)) (fun D11 => F_X12_isSafe_129 k69 (F_X12_isSafe_78 k69 fu) x2 x3 x4 D11))))) else (F_X12_isSafe_129 k69 (F_X12_isSafe_78 k69 fu) x2 x3 x4 C)) else (F_X12_isSafe_129 k69 (F_X12_isSafe_78 k69 fu) x2 x3 x4 C))))
set_option maxHeartbeats 4000000 in
set_option maxRecDepth 100000 in
theorem B_X12_isSafe_78 {p : Program} {l : Launch} {e : Env} {s : State} {m : MethodId} {args : Array Value} {below : List Frame} {meth : Method} {c : Code} {g : GP} {Z : St} (hC : CX p s m args c cX12_isSafe RX12 g) (hE : EZ g s s.heap) (hml : c.maxLocals = 5) (hr : meth.sig.returnType = (some .boolean)) (hlk : meth.locks = false) {r : Int32} {C2 : St} {k69 : Int32 → Int32 → St → Option (Int32 × St)} (hk69 : ∀ (x2 : Int32) (x3 : Int32) (C : St), k69 x2 x3 C = some (r, C2) → ∀ (ed : Nat → Nat) (H : Heap) (locs : List Loc) (ls : Array Slot), HW g ed Z C H → va_S (gP g) s.heap H locs → lv_has ls 5 [(0, .ref (gA g 50 0)), (1, .ref (gA g 170 0)), (2, .int x2), (3, .int x3)] → W p l e ({ frames := 2, cells := 0, slots := 0, locals := 48 } : Room) s m args below meth c H locs 0 0 (MQ below (QG (some (.int r)) g Z C2) args s 0 0 (gP g)) (F0 m 69 ls [])) : ∀ (fu : Nat) (x2 : Int32) (x3 : Int32) (x4 : Int32) (C : St), F_X12_isSafe_78 k69 fu x2 x3 x4 C = some (r, C2) → ∀ (ed : Nat → Nat) (H : Heap) (locs : List Loc) (ls : Array Slot), HW g ed Z C H → va_S (gP g) s.heap H locs → lv_has ls 5 [(0, .ref (gA g 50 0)), (1, .ref (gA g 170 0)), (2, .int x2), (3, .int x3), (4, .int x4)] → W p l e ({ frames := 2, cells := 0, slots := 0, locals := 48 } : Room) s m args below meth c H locs 0 0 (MQ below (QG (some (.int r)) g Z C2) args s 0 0 (gP g)) (F0 m 78 ls []) := by
  intro fu
  induction fu with
  | zero =>
    intro x2 x3 x4 C h
    cases h
  | succ fu ih =>
    intro x2 x3 x4 C h ed H locs ls hH hS hl
    rw [F_X12_isSafe_78] at h
    refine lv_iload hC.1 hC.2.1 dX12_isSafe_78 (lv_at hl 4 rfl) ?_
    refine lv_bipush (v := (6 : Int32)) hC.1 hC.2.1 dX12_isSafe_80 (by decide) ?_
    refine lv_icmp_ge (tgt := 135) hC.1 hC.2.1 dX12_isSafe_82 (by decide) (fun hc1 => ?_) (fun hc1 => ?_)
    · rw [if_pos hc1] at h
      exact B_X12_isSafe_135 hC hE hml hr hlk hk69 h hH hS (lv_sub hl [0, 1, 2, 3] rfl)
    · rw [if_neg hc1] at h
      refine lv_aload_n hC.1 hC.2.1 dX12_isSafe_85 rfl (lv_at hl 1 rfl) ?_
      refine lv_iload_n hC.1 hC.2.1 dX12_isSafe_86 rfl (lv_at hl 3 rfl) ?_
      obtain ⟨hg2, h⟩ := gd_some h
      refine al_170 hC hH hg2 rfl dX12_isSafe_87 ?_
      refine lv_if_eq (tgt := 135) hC.1 hC.2.1 dX12_isSafe_88 (by decide) (fun hc3 => ?_) (fun hc3 => ?_)
      · rw [if_pos hc3] at h
        exact B_X12_isSafe_135 hC hE hml hr hlk hk69 h hH hS (lv_sub hl [0, 1, 2, 3] rfl)
      · rw [if_neg hc3] at h
        refine lv_iload_n hC.1 hC.2.1 dX12_isSafe_91 rfl (lv_at hl 2 rfl) ?_
        refine lv_iload hC.1 hC.2.1 dX12_isSafe_92 (lv_at hl 4 rfl) ?_
        refine lv_ishr hC.1 hC.2.1 dX12_isSafe_94 ?_
        refine lv_iconst (v := (1 : Int32)) hC.1 hC.2.1 dX12_isSafe_95 (by decide) ?_
        refine lv_iand hC.1 hC.2.1 dX12_isSafe_96 ?_
        refine lv_iconst (v := (1 : Int32)) hC.1 hC.2.1 dX12_isSafe_97 (by decide) ?_
        refine lv_icmp_ne (tgt := 129) hC.1 hC.2.1 dX12_isSafe_98 (by decide) (fun hc4 => ?_) (fun hc4 => ?_)
        · rw [if_neg hc4] at h
          exact B_X12_isSafe_129 hC hE hml hr hlk hk69 ih h hH hS (lv_sub hl [0, 1, 2, 3, 4] rfl)
        · rw [if_pos hc4] at h
          refine lv_iload_n hC.1 hC.2.1 dX12_isSafe_101 rfl (lv_at hl 3 rfl) ?_
          refine lv_iload hC.1 hC.2.1 dX12_isSafe_102 (lv_at hl 4 rfl) ?_
          refine lv_ishr hC.1 hC.2.1 dX12_isSafe_104 ?_
          refine lv_iconst (v := (1 : Int32)) hC.1 hC.2.1 dX12_isSafe_105 (by decide) ?_
          refine lv_iand hC.1 hC.2.1 dX12_isSafe_106 ?_
          refine lv_if_ne (tgt := 129) hC.1 hC.2.1 dX12_isSafe_107 (by decide) (fun hc5 => ?_) (fun hc5 => ?_)
          · rw [if_neg hc5] at h
            exact B_X12_isSafe_129 hC hE hml hr hlk hk69 ih h hH hS (lv_sub hl [0, 1, 2, 3, 4] rfl)
          · rw [if_pos hc5] at h
            refine lv_aload_n hC.1 hC.2.1 dX12_isSafe_110 rfl (lv_at hl 0 rfl) ?_
            refine lv_iload_n hC.1 hC.2.1 dX12_isSafe_111 rfl (lv_at hl 3 rfl) ?_
            refine lv_iload hC.1 hC.2.1 dX12_isSafe_112 (lv_at hl 4 rfl) ?_
            obtain ⟨r6, D7, hF8, h⟩ := bd2_some h
            refine gcallV (As := [.int x3, .int x4]) (rest := []) (Cn := RX12) hC hE hml hH hS (c_X12_isNext hF8) ⟨wd_1380, wd_1382, wp_41, wd_17, wd_1383⟩ hd_X12_isNext rfl rfl ⟨Nat.le_of_ble_eq_true rfl, Nat.le_of_ble_eq_true rfl⟩ rfl (hw_recv (q := 50) (i := 0) hC hH ⟨Nat.zero_lt_one, fun h => absurd h (by decide)⟩ rfl rfl) rfl hl.1 rfl (Nat.le_of_ble_eq_true rfl) dX12_isSafe_114 ⟨Nat.le_of_ble_eq_true rfl, Nat.le_of_ble_eq_true rfl⟩ (fun ed H locs hH hS => ?_)
            refine W.eq (g2 := F0 m 117 ls [.int r6]) rfl ?_
            refine lv_if_eq (tgt := 129) hC.1 hC.2.1 dX12_isSafe_117 (by decide) (fun hc9 => ?_) (fun hc9 => ?_)
            · rw [if_pos hc9] at h
              exact B_X12_isSafe_129 hC hE hml hr hlk hk69 ih h hH hS (lv_sub hl [0, 1, 2, 3, 4] rfl)
            · rw [if_neg hc9] at h
              refine lv_aload_n hC.1 hC.2.1 dX12_isSafe_120 rfl (lv_at hl 1 rfl) ?_
              refine lv_iload_n hC.1 hC.2.1 dX12_isSafe_121 rfl (lv_at hl 3 rfl) ?_
              refine lv_iconst (v := (1 : Int32)) hC.1 hC.2.1 dX12_isSafe_122 (by decide) ?_
              refine lv_iload hC.1 hC.2.1 dX12_isSafe_123 (lv_at hl 4 rfl) ?_
              refine lv_ishl hC.1 hC.2.1 dX12_isSafe_125 ?_
              refine lv_ior hC.1 hC.2.1 dX12_isSafe_126 ?_
              refine lv_iconst (v := (1 : Int32)) hC.1 hC.2.1 dX12_isSafe_127 (by decide) ?_
              obtain ⟨hg10, h⟩ := gd_some h
              obtain ⟨D11, e12, h⟩ := st_some h
              refine as_170 hC hH hS hg10 (by decide) rfl dX12_isSafe_128 (fun H locs hH hS => ?_)
              rw [← e12] at hH
              exact B_X12_isSafe_129 hC hE hml hr hlk hk69 ih h hH hS (lv_sub hl [0, 1, 2, 3, 4] rfl)
def F_X12_isSafe_69  : Nat → Int32 → Int32 → St → Option (Int32 × St)
  | 0, _, _, _ => none
  | fu + 1, x2, x3, C => if (64 : Int32) ≤ x3 then (gd (inb x2 64) (gd (isb (C 170 0 0 x2.toNatClampNeg)) (some (C 170 0 0 x2.toNatClampNeg, C)))) else (F_X12_isSafe_78 (F_X12_isSafe_69 fu) 1000 x2 x3 (0 : Int32) C)
set_option maxHeartbeats 4000000 in
set_option maxRecDepth 100000 in
theorem B_X12_isSafe_69 {p : Program} {l : Launch} {e : Env} {s : State} {m : MethodId} {args : Array Value} {below : List Frame} {meth : Method} {c : Code} {g : GP} {Z : St} (hC : CX p s m args c cX12_isSafe RX12 g) (hE : EZ g s s.heap) (hml : c.maxLocals = 5) (hr : meth.sig.returnType = (some .boolean)) (hlk : meth.locks = false) {r : Int32} {C2 : St} : ∀ (fu : Nat) (x2 : Int32) (x3 : Int32) (C : St), F_X12_isSafe_69  fu x2 x3 C = some (r, C2) → ∀ (ed : Nat → Nat) (H : Heap) (locs : List Loc) (ls : Array Slot), HW g ed Z C H → va_S (gP g) s.heap H locs → lv_has ls 5 [(0, .ref (gA g 50 0)), (1, .ref (gA g 170 0)), (2, .int x2), (3, .int x3)] → W p l e ({ frames := 2, cells := 0, slots := 0, locals := 48 } : Room) s m args below meth c H locs 0 0 (MQ below (QG (some (.int r)) g Z C2) args s 0 0 (gP g)) (F0 m 69 ls []) := by
  intro fu
  induction fu with
  | zero =>
    intro x2 x3 C h
    cases h
  | succ fu ih =>
    intro x2 x3 C h ed H locs ls hH hS hl
    rw [F_X12_isSafe_69] at h
    refine lv_iload_n hC.1 hC.2.1 dX12_isSafe_69 rfl (lv_at hl 3 rfl) ?_
    refine lv_bipush (v := (64 : Int32)) hC.1 hC.2.1 dX12_isSafe_70 (by decide) ?_
    refine lv_icmp_ge (tgt := 141) hC.1 hC.2.1 dX12_isSafe_72 (by decide) (fun hc1 => ?_) (fun hc1 => ?_)
    · rw [if_pos hc1] at h
      refine lv_aload_n hC.1 hC.2.1 dX12_isSafe_141 rfl (lv_at hl 1 rfl) ?_
      refine lv_iload_n hC.1 hC.2.1 dX12_isSafe_142 rfl (lv_at hl 2 rfl) ?_
      obtain ⟨hg2, h⟩ := gd_some h
      refine al_170 hC hH hg2 rfl dX12_isSafe_143 ?_
      obtain ⟨hg3, h⟩ := gd_some h
      cases h
      exact gret_z hC hr hlk hg3 hH hS (Nat.le_of_ble_eq_true rfl) (Nat.le_of_ble_eq_true rfl) dX12_isSafe_144
    · rw [if_neg hc1] at h
      refine lv_iconst (v := (0 : Int32)) hC.1 hC.2.1 dX12_isSafe_75 (by decide) ?_
      refine lv_istore (lv' := [(4, .int (0 : Int32)), (0, .ref (gA g 50 0)), (1, .ref (gA g 170 0)), (2, .int x2), (3, .int x3)]) hC.1 hC.2.1 dX12_isSafe_76 hl (by decide) rfl (fun ls hl => ?_)
      exact B_X12_isSafe_78 hC hE hml hr hlk ih 1000 _ _ _ _ h _ _ _ _ hH hS (lv_sub hl [1, 2, 3, 4, 0] rfl)
def F_X12_isSafe_43  : Nat → Int32 → Int32 → St → Option (Int32 × St)
  | 0, _, _, _ => none
  | fu + 1, x2, x3, C => if (64 : Int32) ≤ x3 then (F_X12_isSafe_69 1000 x2 (0 : Int32) C) else (if x3 = 0 then (F_X12_isSafe_60 (F_X12_isSafe_43 fu) x2 x3 (1 : Int32) x3 C) else (F_X12_isSafe_60 (F_X12_isSafe_43 fu) x2 x3 (0 : Int32) x3 C))
set_option maxHeartbeats 4000000 in
set_option maxRecDepth 100000 in
theorem B_X12_isSafe_43 {p : Program} {l : Launch} {e : Env} {s : State} {m : MethodId} {args : Array Value} {below : List Frame} {meth : Method} {c : Code} {g : GP} {Z : St} (hC : CX p s m args c cX12_isSafe RX12 g) (hE : EZ g s s.heap) (hml : c.maxLocals = 5) (hr : meth.sig.returnType = (some .boolean)) (hlk : meth.locks = false) {r : Int32} {C2 : St} : ∀ (fu : Nat) (x2 : Int32) (x3 : Int32) (C : St), F_X12_isSafe_43  fu x2 x3 C = some (r, C2) → ∀ (ed : Nat → Nat) (H : Heap) (locs : List Loc) (ls : Array Slot), HW g ed Z C H → va_S (gP g) s.heap H locs → lv_has ls 5 [(0, .ref (gA g 50 0)), (1, .ref (gA g 170 0)), (2, .int x2), (3, .int x3)] → W p l e ({ frames := 2, cells := 0, slots := 0, locals := 48 } : Room) s m args below meth c H locs 0 0 (MQ below (QG (some (.int r)) g Z C2) args s 0 0 (gP g)) (F0 m 43 ls []) := by
  intro fu
  induction fu with
  | zero =>
    intro x2 x3 C h
    cases h
  | succ fu ih =>
    intro x2 x3 C h ed H locs ls hH hS hl
    rw [F_X12_isSafe_43] at h
    refine lv_iload_n hC.1 hC.2.1 dX12_isSafe_43 rfl (lv_at hl 3 rfl) ?_
    refine lv_bipush (v := (64 : Int32)) hC.1 hC.2.1 dX12_isSafe_44 (by decide) ?_
    refine lv_icmp_ge (tgt := 67) hC.1 hC.2.1 dX12_isSafe_46 (by decide) (fun hc1 => ?_) (fun hc1 => ?_)
    · rw [if_pos hc1] at h
      refine lv_iconst (v := (0 : Int32)) hC.1 hC.2.1 dX12_isSafe_67 (by decide) ?_
      refine lv_istore_n (i := 3) (lv' := [(3, .int (0 : Int32)), (0, .ref (gA g 50 0)), (1, .ref (gA g 170 0)), (2, .int x2)]) hC.1 hC.2.1 dX12_isSafe_68 rfl hl (by decide) rfl (fun ls hl => ?_)
      exact B_X12_isSafe_69 hC hE hml hr hlk 1000 _ _ _ h _ _ _ _ hH hS (lv_sub hl [1, 2, 3, 0] rfl)
    · rw [if_neg hc1] at h
      refine lv_aload_n hC.1 hC.2.1 dX12_isSafe_49 rfl (lv_at hl 1 rfl) ?_
      refine lv_iload_n hC.1 hC.2.1 dX12_isSafe_50 rfl (lv_at hl 3 rfl) ?_
      refine lv_iload_n hC.1 hC.2.1 dX12_isSafe_51 rfl (lv_at hl 3 rfl) ?_
      refine lv_if_ne (tgt := 59) hC.1 hC.2.1 dX12_isSafe_52 (by decide) (fun hc2 => ?_) (fun hc2 => ?_)
      · rw [if_neg hc2] at h
        refine lv_iconst (v := (0 : Int32)) hC.1 hC.2.1 dX12_isSafe_59 (by decide) ?_
        exact B_X12_isSafe_60 hC hE hml hr hlk ih h hH hS (lv_sub hl [0, 1, 2, 3] rfl)
      · rw [if_pos hc2] at h
        refine lv_iconst (v := (1 : Int32)) hC.1 hC.2.1 dX12_isSafe_55 (by decide) ?_
        refine lv_goto (tgt := 60) hC.1 hC.2.1 dX12_isSafe_56 (by decide) ?_
        exact B_X12_isSafe_60 hC hE hml hr hlk ih h hH hS (lv_sub hl [0, 1, 2, 3] rfl)
def F_X12_isSafe_9  : Nat → Int32 → Int32 → St → Option (Int32 × St)
  | 0, _, _, _ => none
  | fu + 1, x2, x3, C => if (6 : Int32) ≤ x3 then (F_X12_isSafe_43 1000 x2 (0 : Int32) C) else (gd (inb x3 6) (if (C 114 0 0 x3.toNatClampNeg) = (2 : Int32) then (F_X12_isSafe_33 (F_X12_isSafe_9 fu) x3 ((1 : Int32) <<< (x3 &&& 31)) x2 C) else (F_X12_isSafe_33 (F_X12_isSafe_9 fu) x3 (0 : Int32) x2 C)))
set_option maxHeartbeats 4000000 in
set_option maxRecDepth 100000 in
theorem B_X12_isSafe_9 {p : Program} {l : Launch} {e : Env} {s : State} {m : MethodId} {args : Array Value} {below : List Frame} {meth : Method} {c : Code} {g : GP} {Z : St} (hC : CX p s m args c cX12_isSafe RX12 g) (hE : EZ g s s.heap) (hml : c.maxLocals = 5) (hr : meth.sig.returnType = (some .boolean)) (hlk : meth.locks = false) {r : Int32} {C2 : St} : ∀ (fu : Nat) (x2 : Int32) (x3 : Int32) (C : St), F_X12_isSafe_9  fu x2 x3 C = some (r, C2) → ∀ (ed : Nat → Nat) (H : Heap) (locs : List Loc) (ls : Array Slot), HW g ed Z C H → va_S (gP g) s.heap H locs → lv_has ls 5 [(0, .ref (gA g 50 0)), (1, .ref (gA g 170 0)), (2, .int x2), (3, .int x3)] → W p l e ({ frames := 2, cells := 0, slots := 0, locals := 48 } : Room) s m args below meth c H locs 0 0 (MQ below (QG (some (.int r)) g Z C2) args s 0 0 (gP g)) (F0 m 9 ls []) := by
  intro fu
  induction fu with
  | zero =>
    intro x2 x3 C h
    cases h
  | succ fu ih =>
    intro x2 x3 C h ed H locs ls hH hS hl
    rw [F_X12_isSafe_9] at h
    refine lv_iload_n hC.1 hC.2.1 dX12_isSafe_9 rfl (lv_at hl 3 rfl) ?_
    refine lv_bipush (v := (6 : Int32)) hC.1 hC.2.1 dX12_isSafe_10 (by decide) ?_
    refine lv_icmp_ge (tgt := 41) hC.1 hC.2.1 dX12_isSafe_12 (by decide) (fun hc1 => ?_) (fun hc1 => ?_)
    · rw [if_pos hc1] at h
      refine lv_iconst (v := (0 : Int32)) hC.1 hC.2.1 dX12_isSafe_41 (by decide) ?_
      refine lv_istore_n (i := 3) (lv' := [(3, .int (0 : Int32)), (0, .ref (gA g 50 0)), (1, .ref (gA g 170 0)), (2, .int x2)]) hC.1 hC.2.1 dX12_isSafe_42 rfl hl (by decide) rfl (fun ls hl => ?_)
      exact B_X12_isSafe_43 hC hE hml hr hlk 1000 _ _ _ h _ _ _ _ hH hS (lv_sub hl [1, 2, 3, 0] rfl)
    · rw [if_neg hc1] at h
      refine lv_iload_n hC.1 hC.2.1 dX12_isSafe_15 rfl (lv_at hl 2 rfl) ?_
      refine lv_aload_n hC.1 hC.2.1 dX12_isSafe_16 rfl (lv_at hl 0 rfl) ?_
      refine gf_RX12_32 hC hH rfl dX12_isSafe_17 ?_
      refine lv_iload_n hC.1 hC.2.1 dX12_isSafe_20 rfl (lv_at hl 3 rfl) ?_
      obtain ⟨hg2, h⟩ := gd_some h
      refine al_114 hC hH hg2 rfl dX12_isSafe_21 ?_
      refine lv_iconst (v := (2 : Int32)) hC.1 hC.2.1 dX12_isSafe_22 (by decide) ?_
      refine lv_icmp_ne (tgt := 32) hC.1 hC.2.1 dX12_isSafe_23 (by decide) (fun hc3 => ?_) (fun hc3 => ?_)
      · rw [if_neg hc3] at h
        refine lv_iconst (v := (0 : Int32)) hC.1 hC.2.1 dX12_isSafe_32 (by decide) ?_
        exact B_X12_isSafe_33 hC hE hml hr hlk ih h hH hS (lv_sub hl [0, 1, 3] rfl)
      · rw [if_pos hc3] at h
        refine lv_iconst (v := (1 : Int32)) hC.1 hC.2.1 dX12_isSafe_26 (by decide) ?_
        refine lv_iload_n hC.1 hC.2.1 dX12_isSafe_27 rfl (lv_at hl 3 rfl) ?_
        refine lv_ishl hC.1 hC.2.1 dX12_isSafe_28 ?_
        refine lv_goto (tgt := 33) hC.1 hC.2.1 dX12_isSafe_29 (by decide) ?_
        exact B_X12_isSafe_33 hC hE hml hr hlk ih h hH hS (lv_sub hl [0, 1, 3] rfl)
def F_X12_isSafe  (C : St) : Option (Int32 × St) := F_X12_isSafe_9 1000 (0 : Int32) (0 : Int32) C
set_option maxHeartbeats 4000000 in
set_option maxRecDepth 100000 in
theorem c_X12_isSafe {l : Launch} {g : GP} {ed : Nat → Nat} {Z : St}  {C : St} {r : Int32} {C2 : St} (h : F_X12_isSafe  C = some (r, C2)) : Met l yX12_isSafe (Cond.code yX12_isSafe cX12_isSafe 5 (some .boolean) :: lwG) ({ frames := 2, cells := 0, slots := 0, locals := 48 } : Room) (va_Pc [.ref (gA g 50 0)] (PW g Z C ed)) (QG (some (.int r)) g Z C2) 0 0 (gP g) := by
  refine Met.ofW (cc := cX12_isSafe) (maxL := 5) (ret := (some .boolean)) (by decide +kernel) rfl ?_
  intro p e s m args below meth c s₁ B hml hv
  obtain ⟨ha, hC, hE, hr, hlk, hH⟩ := g_start B hv
  subst ha
  have hC : CX p s m ([.ref (gA g 50 0)] : List Value).toArray c cX12_isSafe RX12 g := hC
  have hS : va_S (gP g) s.heap s.heap [] := va_S.rf
  obtain ⟨ls, he, hl⟩ := g_entry m (vs := [.ref (gA g 50 0)]) (n := 5) (List.forall_mem_cons.mpr ⟨rfl, (fun _ h => absurd h List.not_mem_nil)⟩) (Nat.le_of_ble_eq_true rfl)
  rw [he]
  have hl : lv_has ls 5 [(0, .ref (gA g 50 0))] := hl
  unfold F_X12_isSafe at h
  refine lv_aload_n hC.1 hC.2.1 dX12_isSafe_0 rfl (lv_at hl 0 rfl) ?_
  refine gf_RX12_143 hC hH rfl dX12_isSafe_1 ?_
  refine lv_astore_n (i := 1) (lv' := [(1, .ref (gA g 170 0)), (0, .ref (gA g 50 0))]) hC.1 hC.2.1 dX12_isSafe_4 rfl hl (by decide) rfl (fun ls hl => ?_)
  refine lv_iconst (v := (0 : Int32)) hC.1 hC.2.1 dX12_isSafe_5 (by decide) ?_
  refine lv_istore_n (i := 2) (lv' := [(2, .int (0 : Int32)), (1, .ref (gA g 170 0)), (0, .ref (gA g 50 0))]) hC.1 hC.2.1 dX12_isSafe_6 rfl hl (by decide) rfl (fun ls hl => ?_)
  refine lv_iconst (v := (0 : Int32)) hC.1 hC.2.1 dX12_isSafe_7 (by decide) ?_
  refine lv_istore_n (i := 3) (lv' := [(3, .int (0 : Int32)), (2, .int (0 : Int32)), (1, .ref (gA g 170 0)), (0, .ref (gA g 50 0))]) hC.1 hC.2.1 dX12_isSafe_8 rfl hl (by decide) rfl (fun ls hl => ?_)
  exact B_X12_isSafe_9 hC hE hml hr hlk 1000 _ _ _ h _ _ _ _ hH hS (lv_sub hl [3, 2, 1, 0] rfl)
def F_X12_grants (x1 : Int32) (x2 : Int32) (C : St) : Option (Int32 × St) := gd (inb x2 3) (if (C 128 0 0 x2.toNatClampNeg) = 0 then (some ((0 : Int32), C)) else (st (up C 128 0 0 x2.toNatClampNeg ((C 128 0 0 x2.toNatClampNeg) - (1 : Int32))) (fun D3 => gd (inb (((3 : Int32) * x1) + x2) 18) (st (up D3 127 0 0 (((3 : Int32) * x1) + x2).toNatClampNeg ((D3 127 0 0 (((3 : Int32) * x1) + x2).toNatClampNeg) + (1 : Int32))) (fun D6 => bd2 (F_X12_isSafe  D6) (fun r8 D9 => if r8 = 0 then (st (up D9 128 0 0 x2.toNatClampNeg ((D9 128 0 0 x2.toNatClampNeg) + (1 : Int32))) (fun D12 => st (up D12 127 0 0 (((3 : Int32) * x1) + x2).toNatClampNeg ((D12 127 0 0 (((3 : Int32) * x1) + x2).toNatClampNeg) - (1 : Int32))) (fun D14 => some ((0 : Int32), D14)))) else (some ((1 : Int32), D9))))))))
set_option maxHeartbeats 4000000 in
set_option maxRecDepth 100000 in
theorem c_X12_grants {l : Launch} {g : GP} {ed : Nat → Nat} {Z : St} {x1 : Int32} {x2 : Int32} {C : St} {r : Int32} {C2 : St} (h : F_X12_grants x1 x2 C = some (r, C2)) : Met l yX12_grants (Cond.code yX12_grants cX12_grants 3 (some .boolean) :: lwG) ({ frames := 3, cells := 0, slots := 0, locals := 72 } : Room) (va_Pc [.ref (gA g 50 0), .int x1, .int x2] (PW g Z C ed)) (QG (some (.int r)) g Z C2) 0 0 (gP g) := by
  refine Met.ofW (cc := cX12_grants) (maxL := 3) (ret := (some .boolean)) (by decide +kernel) rfl ?_
  intro p e s m args below meth c s₁ B hml hv
  obtain ⟨ha, hC, hE, hr, hlk, hH⟩ := g_start B hv
  subst ha
  have hC : CX p s m ([.ref (gA g 50 0), .int x1, .int x2] : List Value).toArray c cX12_grants RX12 g := hC
  have hS : va_S (gP g) s.heap s.heap [] := va_S.rf
  obtain ⟨ls, he, hl⟩ := g_entry m (vs := [.ref (gA g 50 0), .int x1, .int x2]) (n := 3) (List.forall_mem_cons.mpr ⟨rfl, (List.forall_mem_cons.mpr ⟨rfl, (List.forall_mem_cons.mpr ⟨rfl, (fun _ h => absurd h List.not_mem_nil)⟩)⟩)⟩) (Nat.le_of_ble_eq_true rfl)
  rw [he]
  have hl : lv_has ls 3 [(0, .ref (gA g 50 0)), (1, .int x1), (2, .int x2)] := hl
  unfold F_X12_grants at h
  refine lv_aload_n hC.1 hC.2.1 dX12_grants_0 rfl (lv_at hl 0 rfl) ?_
  refine gf_RX12_71 hC hH rfl dX12_grants_1 ?_
  refine lv_iload_n hC.1 hC.2.1 dX12_grants_4 rfl (lv_at hl 2 rfl) ?_
  obtain ⟨hg1, h⟩ := gd_some h
  refine al_128 hC hH hg1 rfl dX12_grants_5 ?_
  refine lv_if_ne (tgt := 11) hC.1 hC.2.1 dX12_grants_6 (by decide) (fun hc2 => ?_) (fun hc2 => ?_)
  · rw [if_neg hc2] at h
    refine lv_aload_n hC.1 hC.2.1 dX12_grants_11 rfl (lv_at hl 0 rfl) ?_
    refine gf_RX12_71 hC hH rfl dX12_grants_12 ?_
    refine lv_iload_n hC.1 hC.2.1 dX12_grants_15 rfl (lv_at hl 2 rfl) ?_
    refine lv_dup2_11 hC.1 hC.2.1 dX12_grants_16 rfl rfl ?_
    refine al_128 hC hH hg1 rfl dX12_grants_17 ?_
    refine lv_iconst (v := (1 : Int32)) hC.1 hC.2.1 dX12_grants_18 (by decide) ?_
    refine lv_isub hC.1 hC.2.1 dX12_grants_19 ?_
    obtain ⟨D3, e4, h⟩ := st_some h
    refine as_128 hC hH hS hg1 rfl dX12_grants_20 (fun H locs hH hS => ?_)
    rw [← e4] at hH
    refine lv_aload_n hC.1 hC.2.1 dX12_grants_21 rfl (lv_at hl 0 rfl) ?_
    refine gf_RX12_68 hC hH rfl dX12_grants_22 ?_
    refine lv_iconst (v := (3 : Int32)) hC.1 hC.2.1 dX12_grants_25 (by decide) ?_
    refine lv_iload_n hC.1 hC.2.1 dX12_grants_26 rfl (lv_at hl 1 rfl) ?_
    refine lv_imul hC.1 hC.2.1 dX12_grants_27 ?_
    refine lv_iload_n hC.1 hC.2.1 dX12_grants_28 rfl (lv_at hl 2 rfl) ?_
    refine lv_iadd hC.1 hC.2.1 dX12_grants_29 ?_
    refine lv_dup2_11 hC.1 hC.2.1 dX12_grants_30 rfl rfl ?_
    obtain ⟨hg5, h⟩ := gd_some h
    refine al_127 hC hH hg5 rfl dX12_grants_31 ?_
    refine lv_iconst (v := (1 : Int32)) hC.1 hC.2.1 dX12_grants_32 (by decide) ?_
    refine lv_iadd hC.1 hC.2.1 dX12_grants_33 ?_
    obtain ⟨D6, e7, h⟩ := st_some h
    refine as_127 hC hH hS hg5 rfl dX12_grants_34 (fun H locs hH hS => ?_)
    rw [← e7] at hH
    refine lv_aload_n hC.1 hC.2.1 dX12_grants_35 rfl (lv_at hl 0 rfl) ?_
    obtain ⟨r8, D9, hF10, h⟩ := bd2_some h
    refine gcallV (As := []) (rest := []) (Cn := RX12) hC hE hml hH hS (c_X12_isSafe hF10) ⟨wd_1376, wd_1378, wp_40, wd_17, wd_1379⟩ hd_X12_isSafe rfl rfl ⟨Nat.le_of_ble_eq_true rfl, Nat.le_of_ble_eq_true rfl⟩ rfl (hw_recv (q := 50) (i := 0) hC hH ⟨Nat.zero_lt_one, fun h => absurd h (by decide)⟩ rfl rfl) rfl hl.1 rfl (Nat.le_of_ble_eq_true rfl) dX12_grants_36 ⟨Nat.le_of_ble_eq_true rfl, Nat.le_of_ble_eq_true rfl⟩ (fun ed H locs hH hS => ?_)
    refine W.eq (g2 := F0 m 39 ls [.int r8]) rfl ?_
    refine lv_if_eq (tgt := 44) hC.1 hC.2.1 dX12_grants_39 (by decide) (fun hc11 => ?_) (fun hc11 => ?_)
    · rw [if_pos hc11] at h
      refine lv_aload_n hC.1 hC.2.1 dX12_grants_44 rfl (lv_at hl 0 rfl) ?_
      refine gf_RX12_71 hC hH rfl dX12_grants_45 ?_
      refine lv_iload_n hC.1 hC.2.1 dX12_grants_48 rfl (lv_at hl 2 rfl) ?_
      refine lv_dup2_11 hC.1 hC.2.1 dX12_grants_49 rfl rfl ?_
      refine al_128 hC hH hg1 rfl dX12_grants_50 ?_
      refine lv_iconst (v := (1 : Int32)) hC.1 hC.2.1 dX12_grants_51 (by decide) ?_
      refine lv_iadd hC.1 hC.2.1 dX12_grants_52 ?_
      obtain ⟨D12, e13, h⟩ := st_some h
      refine as_128 hC hH hS hg1 rfl dX12_grants_53 (fun H locs hH hS => ?_)
      rw [← e13] at hH
      refine lv_aload_n hC.1 hC.2.1 dX12_grants_54 rfl (lv_at hl 0 rfl) ?_
      refine gf_RX12_68 hC hH rfl dX12_grants_55 ?_
      refine lv_iconst (v := (3 : Int32)) hC.1 hC.2.1 dX12_grants_58 (by decide) ?_
      refine lv_iload_n hC.1 hC.2.1 dX12_grants_59 rfl (lv_at hl 1 rfl) ?_
      refine lv_imul hC.1 hC.2.1 dX12_grants_60 ?_
      refine lv_iload_n hC.1 hC.2.1 dX12_grants_61 rfl (lv_at hl 2 rfl) ?_
      refine lv_iadd hC.1 hC.2.1 dX12_grants_62 ?_
      refine lv_dup2_11 hC.1 hC.2.1 dX12_grants_63 rfl rfl ?_
      refine al_127 hC hH hg5 rfl dX12_grants_64 ?_
      refine lv_iconst (v := (1 : Int32)) hC.1 hC.2.1 dX12_grants_65 (by decide) ?_
      refine lv_isub hC.1 hC.2.1 dX12_grants_66 ?_
      obtain ⟨D14, e15, h⟩ := st_some h
      refine as_127 hC hH hS hg5 rfl dX12_grants_67 (fun H locs hH hS => ?_)
      rw [← e15] at hH
      refine lv_iconst (v := (0 : Int32)) hC.1 hC.2.1 dX12_grants_68 (by decide) ?_
      cases h
      exact gret_z hC hr hlk (by decide) hH hS (Nat.le_of_ble_eq_true rfl) (Nat.le_of_ble_eq_true rfl) dX12_grants_69
    · rw [if_neg hc11] at h
      refine lv_iconst (v := (1 : Int32)) hC.1 hC.2.1 dX12_grants_42 (by decide) ?_
      cases h
      exact gret_z hC hr hlk (by decide) hH hS (Nat.le_of_ble_eq_true rfl) (Nat.le_of_ble_eq_true rfl) dX12_grants_43
  · rw [if_pos hc2] at h
    refine lv_iconst (v := (0 : Int32)) hC.1 hC.2.1 dX12_grants_9 (by decide) ?_
    cases h
    exact gret_z hC hr hlk (by decide) hH hS (Nat.le_of_ble_eq_true rfl) (Nat.le_of_ble_eq_true rfl) dX12_grants_10
def F_X12_leaveGets_4  : Nat → Int32 → St → Option (Int32 × St)
  | 0, _, _ => none
  | fu + 1, x2, C => if (C 50 0 62 0) ≤ x2 then (st (up C 50 0 62 0 ((C 50 0 62 0) - (1 : Int32))) (fun D2 => some (0, D2))) else (gd (inb x2 6) (gd (inb (x2 - (1 : Int32)) 6) (st (up C 159 0 0 (x2 - (1 : Int32)).toNatClampNeg (C 159 0 0 x2.toNatClampNeg)) (fun D6 => F_X12_leaveGets_4 fu (x2 + 1) D6))))
set_option maxHeartbeats 4000000 in
set_option maxRecDepth 100000 in
theorem B_X12_leaveGets_4 {p : Program} {l : Launch} {e : Env} {s : State} {m : MethodId} {args : Array Value} {below : List Frame} {meth : Method} {c : Code} {g : GP} {Z : St} (hC : CX p s m args c cX12_leaveGets RX12 g) (hE : EZ g s s.heap) (hml : c.maxLocals = 3) (hr : meth.sig.returnType = none) (hlk : meth.locks = false) {r : Int32} {C2 : St} : ∀ (fu : Nat) (x2 : Int32) (C : St), F_X12_leaveGets_4  fu x2 C = some (r, C2) → ∀ (ed : Nat → Nat) (H : Heap) (locs : List Loc) (ls : Array Slot), HW g ed Z C H → va_S (gP g) s.heap H locs → lv_has ls 3 [(0, .ref (gA g 50 0)), (2, .int x2)] → W p l e ({ frames := 0, cells := 0, slots := 0, locals := 0 } : Room) s m args below meth c H locs 0 0 (MQ below (QG none g Z C2) args s 0 0 (gP g)) (F0 m 4 ls []) := by
  intro fu
  induction fu with
  | zero =>
    intro x2 C h
    cases h
  | succ fu ih =>
    intro x2 C h ed H locs ls hH hS hl
    rw [F_X12_leaveGets_4] at h
    refine lv_iload_n hC.1 hC.2.1 dX12_leaveGets_4 rfl (lv_at hl 1 rfl) ?_
    refine lv_aload_n hC.1 hC.2.1 dX12_leaveGets_5 rfl (lv_at hl 0 rfl) ?_
    refine gf_RX12_291 hC hH rfl dX12_leaveGets_6 ?_
    refine lv_icmp_ge (tgt := 32) hC.1 hC.2.1 dX12_leaveGets_9 (by decide) (fun hc1 => ?_) (fun hc1 => ?_)
    · rw [if_pos hc1] at h
      refine lv_aload_n hC.1 hC.2.1 dX12_leaveGets_32 rfl (lv_at hl 0 rfl) ?_
      refine lv_dup hC.1 hC.2.1 dX12_leaveGets_33 rfl ?_
      refine gf_RX12_291 hC hH rfl dX12_leaveGets_34 ?_
      refine lv_iconst (v := (1 : Int32)) hC.1 hC.2.1 dX12_leaveGets_37 (by decide) ?_
      refine lv_isub hC.1 hC.2.1 dX12_leaveGets_38 ?_
      obtain ⟨D2, e3, h⟩ := st_some h
      refine pf_RX12_291 hC hH hS  rfl dX12_leaveGets_39 (fun H locs hH hS => ?_)
      rw [← e3] at hH
      cases h
      exact gret_v hC hr hlk hH hS (Nat.le_of_ble_eq_true rfl) (Nat.le_of_ble_eq_true rfl) dX12_leaveGets_42
    · rw [if_neg hc1] at h
      refine lv_aload_n hC.1 hC.2.1 dX12_leaveGets_12 rfl (lv_at hl 0 rfl) ?_
      refine gf_RX12_128 hC hH rfl dX12_leaveGets_13 ?_
      refine lv_iload_n hC.1 hC.2.1 dX12_leaveGets_16 rfl (lv_at hl 1 rfl) ?_
      refine lv_iconst (v := (1 : Int32)) hC.1 hC.2.1 dX12_leaveGets_17 (by decide) ?_
      refine lv_isub hC.1 hC.2.1 dX12_leaveGets_18 ?_
      refine lv_aload_n hC.1 hC.2.1 dX12_leaveGets_19 rfl (lv_at hl 0 rfl) ?_
      refine gf_RX12_128 hC hH rfl dX12_leaveGets_20 ?_
      refine lv_iload_n hC.1 hC.2.1 dX12_leaveGets_23 rfl (lv_at hl 1 rfl) ?_
      obtain ⟨hg4, h⟩ := gd_some h
      refine al_159 hC hH hg4 rfl dX12_leaveGets_24 ?_
      obtain ⟨hg5, h⟩ := gd_some h
      obtain ⟨D6, e7, h⟩ := st_some h
      refine as_159 hC hH hS hg5 rfl dX12_leaveGets_25 (fun H locs hH hS => ?_)
      rw [← e7] at hH
      refine lv_iinc (v := x2 + 1) (lv' := [(2, .int (x2 + 1)), (0, .ref (gA g 50 0))]) hC.1 hC.2.1 dX12_leaveGets_26 hl (k := 1) rfl rfl (by decide) rfl (fun ls hl => ?_)
      refine lv_goto (tgt := 4) hC.1 hC.2.1 dX12_leaveGets_29 (by decide) ?_
      exact ih _ _ h _ _ _ _ hH hS (lv_sub hl [1, 0] rfl)
def F_X12_leaveGets (x1 : Int32) (C : St) : Option (Int32 × St) := F_X12_leaveGets_4 1000 (x1 + (1 : Int32)) C
set_option maxHeartbeats 4000000 in
set_option maxRecDepth 100000 in
theorem c_X12_leaveGets {l : Launch} {g : GP} {ed : Nat → Nat} {Z : St} {x1 : Int32} {C : St} {r : Int32} {C2 : St} (h : F_X12_leaveGets x1 C = some (r, C2)) : Met l yX12_leaveGets (Cond.code yX12_leaveGets cX12_leaveGets 3 none :: lwG) ({ frames := 0, cells := 0, slots := 0, locals := 0 } : Room) (va_Pc [.ref (gA g 50 0), .int x1] (PW g Z C ed)) (QG none g Z C2) 0 0 (gP g) := by
  refine Met.ofW (cc := cX12_leaveGets) (maxL := 3) (ret := none) (by decide +kernel) rfl ?_
  intro p e s m args below meth c s₁ B hml hv
  obtain ⟨ha, hC, hE, hr, hlk, hH⟩ := g_start B hv
  subst ha
  have hC : CX p s m ([.ref (gA g 50 0), .int x1] : List Value).toArray c cX12_leaveGets RX12 g := hC
  have hS : va_S (gP g) s.heap s.heap [] := va_S.rf
  obtain ⟨ls, he, hl⟩ := g_entry m (vs := [.ref (gA g 50 0), .int x1]) (n := 3) (List.forall_mem_cons.mpr ⟨rfl, (List.forall_mem_cons.mpr ⟨rfl, (fun _ h => absurd h List.not_mem_nil)⟩)⟩) (Nat.le_of_ble_eq_true rfl)
  rw [he]
  have hl : lv_has ls 3 [(0, .ref (gA g 50 0)), (1, .int x1)] := hl
  unfold F_X12_leaveGets at h
  refine lv_iload_n hC.1 hC.2.1 dX12_leaveGets_0 rfl (lv_at hl 1 rfl) ?_
  refine lv_iconst (v := (1 : Int32)) hC.1 hC.2.1 dX12_leaveGets_1 (by decide) ?_
  refine lv_iadd hC.1 hC.2.1 dX12_leaveGets_2 ?_
  refine lv_istore_n (i := 2) (lv' := [(2, .int (x1 + (1 : Int32))), (0, .ref (gA g 50 0)), (1, .int x1)]) hC.1 hC.2.1 dX12_leaveGets_3 rfl hl (by decide) rfl (fun ls hl => ?_)
  exact B_X12_leaveGets_4 hC hE hml hr hlk 1000 _ _ h _ _ _ _ hH hS (lv_sub hl [1, 0] rfl)
def F_X12_unpin_27 (k2 : Int32 → Int32 → St → Option (Int32 × St)) (x1 : Int32) (x2 : Int32) (C : St) : Option (Int32 × St) := k2 x1 (x2 + 1) C
set_option maxHeartbeats 4000000 in
set_option maxRecDepth 100000 in
theorem B_X12_unpin_27 {p : Program} {l : Launch} {e : Env} {s : State} {m : MethodId} {args : Array Value} {below : List Frame} {meth : Method} {c : Code} {g : GP} {Z : St} (hC : CX p s m args c cX12_unpin RX12 g) (hE : EZ g s s.heap) (hml : c.maxLocals = 3) (hr : meth.sig.returnType = none) (hlk : meth.locks = false) {r : Int32} {C2 : St} {k2 : Int32 → Int32 → St → Option (Int32 × St)} (hk2 : ∀ (x1 : Int32) (x2 : Int32) (C : St), k2 x1 x2 C = some (r, C2) → ∀ (ed : Nat → Nat) (H : Heap) (locs : List Loc) (ls : Array Slot), HW g ed Z C H → va_S (gP g) s.heap H locs → lv_has ls 3 [(0, .ref (gA g 50 0)), (1, .int x1), (2, .int x2)] → W p l e ({ frames := 0, cells := 0, slots := 0, locals := 0 } : Room) s m args below meth c H locs 0 0 (MQ below (QG none g Z C2) args s 0 0 (gP g)) (F0 m 2 ls [])) {x1 : Int32} {x2 : Int32} {C : St} (h : F_X12_unpin_27 k2 x1 x2 C = some (r, C2)) {ed : Nat → Nat} {H : Heap} {locs : List Loc} {ls : Array Slot} (hH : HW g ed Z C H) (hS : va_S (gP g) s.heap H locs) (hl : lv_has ls 3 [(0, .ref (gA g 50 0)), (1, .int x1), (2, .int x2)]) : W p l e ({ frames := 0, cells := 0, slots := 0, locals := 0 } : Room) s m args below meth c H locs 0 0 (MQ below (QG none g Z C2) args s 0 0 (gP g)) (F0 m 27 ls []) := by
  unfold F_X12_unpin_27 at h
  refine lv_iinc (v := x2 + 1) (lv' := [(2, .int (x2 + 1)), (0, .ref (gA g 50 0)), (1, .int x1)]) hC.1 hC.2.1 dX12_unpin_27 hl (k := 2) rfl rfl (by decide) rfl (fun ls hl => ?_)
  refine lv_goto (tgt := 2) hC.1 hC.2.1 dX12_unpin_30 (by decide) ?_
  exact hk2 _ _ _ h _ _ _ _ hH hS (lv_sub hl [1, 2, 0] rfl)
def F_X12_unpin_2  : Nat → Int32 → Int32 → St → Option (Int32 × St)
  | 0, _, _, _ => none
  | fu + 1, x1, x2, C => if (C 50 0 0 0) ≤ x2 then (some (0, C)) else (gd (inb x2 12) (if (C 139 0 0 x2.toNatClampNeg) = x1 then (st (up C 143 0 0 x2.toNatClampNeg (0 : Int32)) (fun D4 => F_X12_unpin_27 (F_X12_unpin_2 fu) x1 x2 D4)) else (F_X12_unpin_27 (F_X12_unpin_2 fu) x1 x2 C)))
set_option maxHeartbeats 4000000 in
set_option maxRecDepth 100000 in
theorem B_X12_unpin_2 {p : Program} {l : Launch} {e : Env} {s : State} {m : MethodId} {args : Array Value} {below : List Frame} {meth : Method} {c : Code} {g : GP} {Z : St} (hC : CX p s m args c cX12_unpin RX12 g) (hE : EZ g s s.heap) (hml : c.maxLocals = 3) (hr : meth.sig.returnType = none) (hlk : meth.locks = false) {r : Int32} {C2 : St} : ∀ (fu : Nat) (x1 : Int32) (x2 : Int32) (C : St), F_X12_unpin_2  fu x1 x2 C = some (r, C2) → ∀ (ed : Nat → Nat) (H : Heap) (locs : List Loc) (ls : Array Slot), HW g ed Z C H → va_S (gP g) s.heap H locs → lv_has ls 3 [(0, .ref (gA g 50 0)), (1, .int x1), (2, .int x2)] → W p l e ({ frames := 0, cells := 0, slots := 0, locals := 0 } : Room) s m args below meth c H locs 0 0 (MQ below (QG none g Z C2) args s 0 0 (gP g)) (F0 m 2 ls []) := by
  intro fu
  induction fu with
  | zero =>
    intro x1 x2 C h
    cases h
  | succ fu ih =>
    intro x1 x2 C h ed H locs ls hH hS hl
    rw [F_X12_unpin_2] at h
    refine lv_iload_n hC.1 hC.2.1 dX12_unpin_2 rfl (lv_at hl 2 rfl) ?_
    refine lv_aload_n hC.1 hC.2.1 dX12_unpin_3 rfl (lv_at hl 0 rfl) ?_
    refine gf_RX12_150 hC hH rfl dX12_unpin_4 ?_
    refine lv_icmp_ge (tgt := 33) hC.1 hC.2.1 dX12_unpin_7 (by decide) (fun hc1 => ?_) (fun hc1 => ?_)
    · rw [if_pos hc1] at h
      cases h
      exact gret_v hC hr hlk hH hS (Nat.le_of_ble_eq_true rfl) (Nat.le_of_ble_eq_true rfl) dX12_unpin_33
    · rw [if_neg hc1] at h
      refine lv_aload_n hC.1 hC.2.1 dX12_unpin_10 rfl (lv_at hl 0 rfl) ?_
      refine gf_RX12_104 hC hH rfl dX12_unpin_11 ?_
      refine lv_iload_n hC.1 hC.2.1 dX12_unpin_14 rfl (lv_at hl 2 rfl) ?_
      obtain ⟨hg2, h⟩ := gd_some h
      refine al_139 hC hH hg2 rfl dX12_unpin_15 ?_
      refine lv_iload_n hC.1 hC.2.1 dX12_unpin_16 rfl (lv_at hl 1 rfl) ?_
      refine lv_icmp_ne (tgt := 27) hC.1 hC.2.1 dX12_unpin_17 (by decide) (fun hc3 => ?_) (fun hc3 => ?_)
      · rw [if_neg hc3] at h
        exact B_X12_unpin_27 hC hE hml hr hlk ih h hH hS (lv_sub hl [0, 1, 2] rfl)
      · rw [if_pos hc3] at h
        refine lv_aload_n hC.1 hC.2.1 dX12_unpin_20 rfl (lv_at hl 0 rfl) ?_
        refine gf_RX12_116 hC hH rfl dX12_unpin_21 ?_
        refine lv_iload_n hC.1 hC.2.1 dX12_unpin_24 rfl (lv_at hl 2 rfl) ?_
        refine lv_iconst (v := (0 : Int32)) hC.1 hC.2.1 dX12_unpin_25 (by decide) ?_
        obtain ⟨D4, e5, h⟩ := st_some h
        refine as_143 hC hH hS hg2 (by decide) rfl dX12_unpin_26 (fun H locs hH hS => ?_)
        rw [← e5] at hH
        exact B_X12_unpin_27 hC hE hml hr hlk ih h hH hS (lv_sub hl [0, 1, 2] rfl)
def F_X12_unpin (x1 : Int32) (C : St) : Option (Int32 × St) := F_X12_unpin_2 1000 x1 (0 : Int32) C
set_option maxHeartbeats 4000000 in
set_option maxRecDepth 100000 in
theorem c_X12_unpin {l : Launch} {g : GP} {ed : Nat → Nat} {Z : St} {x1 : Int32} {C : St} {r : Int32} {C2 : St} (h : F_X12_unpin x1 C = some (r, C2)) : Met l yX12_unpin (Cond.code yX12_unpin cX12_unpin 3 none :: lwG) ({ frames := 0, cells := 0, slots := 0, locals := 0 } : Room) (va_Pc [.ref (gA g 50 0), .int x1] (PW g Z C ed)) (QG none g Z C2) 0 0 (gP g) := by
  refine Met.ofW (cc := cX12_unpin) (maxL := 3) (ret := none) (by decide +kernel) rfl ?_
  intro p e s m args below meth c s₁ B hml hv
  obtain ⟨ha, hC, hE, hr, hlk, hH⟩ := g_start B hv
  subst ha
  have hC : CX p s m ([.ref (gA g 50 0), .int x1] : List Value).toArray c cX12_unpin RX12 g := hC
  have hS : va_S (gP g) s.heap s.heap [] := va_S.rf
  obtain ⟨ls, he, hl⟩ := g_entry m (vs := [.ref (gA g 50 0), .int x1]) (n := 3) (List.forall_mem_cons.mpr ⟨rfl, (List.forall_mem_cons.mpr ⟨rfl, (fun _ h => absurd h List.not_mem_nil)⟩)⟩) (Nat.le_of_ble_eq_true rfl)
  rw [he]
  have hl : lv_has ls 3 [(0, .ref (gA g 50 0)), (1, .int x1)] := hl
  unfold F_X12_unpin at h
  refine lv_iconst (v := (0 : Int32)) hC.1 hC.2.1 dX12_unpin_0 (by decide) ?_
  refine lv_istore_n (i := 2) (lv' := [(2, .int (0 : Int32)), (0, .ref (gA g 50 0)), (1, .int x1)]) hC.1 hC.2.1 dX12_unpin_1 rfl hl (by decide) rfl (fun ls hl => ?_)
  exact B_X12_unpin_2 hC hE hml hr hlk 1000 _ _ _ h _ _ _ _ hH hS (lv_sub hl [1, 2, 0] rfl)
def F_X12_finish (x1 : Int32) (C : St) : Option (Int32 × St) := gd (inb x1 6) (st (up C 117 0 0 x1.toNatClampNeg ((C 117 0 0 x1.toNatClampNeg) + (1 : Int32))) (fun D2 => st (up D2 118 0 0 x1.toNatClampNeg ((D2 118 0 0 x1.toNatClampNeg) + (1 : Int32))) (fun D4 => bd2 (F_X12_unpin x1 D4) (fun r6 D7 => some (0, D7)))))
set_option maxHeartbeats 4000000 in
set_option maxRecDepth 100000 in
theorem c_X12_finish {l : Launch} {g : GP} {ed : Nat → Nat} {Z : St} {x1 : Int32} {C : St} {r : Int32} {C2 : St} (h : F_X12_finish x1 C = some (r, C2)) : Met l yX12_finish (Cond.code yX12_finish cX12_finish 2 none :: lwG) ({ frames := 1, cells := 0, slots := 0, locals := 22 } : Room) (va_Pc [.ref (gA g 50 0), .int x1] (PW g Z C ed)) (QG none g Z C2) 0 0 (gP g) := by
  refine Met.ofW (cc := cX12_finish) (maxL := 2) (ret := none) (by decide +kernel) rfl ?_
  intro p e s m args below meth c s₁ B hml hv
  obtain ⟨ha, hC, hE, hr, hlk, hH⟩ := g_start B hv
  subst ha
  have hC : CX p s m ([.ref (gA g 50 0), .int x1] : List Value).toArray c cX12_finish RX12 g := hC
  have hS : va_S (gP g) s.heap s.heap [] := va_S.rf
  obtain ⟨ls, he, hl⟩ := g_entry m (vs := [.ref (gA g 50 0), .int x1]) (n := 2) (List.forall_mem_cons.mpr ⟨rfl, (List.forall_mem_cons.mpr ⟨rfl, (fun _ h => absurd h List.not_mem_nil)⟩)⟩) (Nat.le_of_ble_eq_true rfl)
  rw [he]
  have hl : lv_has ls 2 [(0, .ref (gA g 50 0)), (1, .int x1)] := hl
  unfold F_X12_finish at h
  refine lv_aload_n hC.1 hC.2.1 dX12_finish_0 rfl (lv_at hl 0 rfl) ?_
  refine gf_RX12_41 hC hH rfl dX12_finish_1 ?_
  refine lv_iload_n hC.1 hC.2.1 dX12_finish_4 rfl (lv_at hl 1 rfl) ?_
  refine lv_dup2_11 hC.1 hC.2.1 dX12_finish_5 rfl rfl ?_
  obtain ⟨hg1, h⟩ := gd_some h
  refine al_117 hC hH hg1 rfl dX12_finish_6 ?_
  refine lv_iconst (v := (1 : Int32)) hC.1 hC.2.1 dX12_finish_7 (by decide) ?_
  refine lv_iadd hC.1 hC.2.1 dX12_finish_8 ?_
  obtain ⟨D2, e3, h⟩ := st_some h
  refine as_117 hC hH hS hg1 rfl dX12_finish_9 (fun H locs hH hS => ?_)
  rw [← e3] at hH
  refine lv_aload_n hC.1 hC.2.1 dX12_finish_10 rfl (lv_at hl 0 rfl) ?_
  refine gf_RX12_44 hC hH rfl dX12_finish_11 ?_
  refine lv_iload_n hC.1 hC.2.1 dX12_finish_14 rfl (lv_at hl 1 rfl) ?_
  refine lv_dup2_11 hC.1 hC.2.1 dX12_finish_15 rfl rfl ?_
  refine al_118 hC hH hg1 rfl dX12_finish_16 ?_
  refine lv_iconst (v := (1 : Int32)) hC.1 hC.2.1 dX12_finish_17 (by decide) ?_
  refine lv_iadd hC.1 hC.2.1 dX12_finish_18 ?_
  obtain ⟨D4, e5, h⟩ := st_some h
  refine as_118 hC hH hS hg1 rfl dX12_finish_19 (fun H locs hH hS => ?_)
  rw [← e5] at hH
  refine lv_aload_n hC.1 hC.2.1 dX12_finish_20 rfl (lv_at hl 0 rfl) ?_
  refine lv_iload_n hC.1 hC.2.1 dX12_finish_21 rfl (lv_at hl 1 rfl) ?_
  obtain ⟨r6, D7, hF8, h⟩ := bd2_some h
  refine gcallV (As := [.int x1]) (rest := []) (Cn := RX12) hC hE hml hH hS (c_X12_unpin hF8) ⟨wd_1396, wd_1398, wp_45, wd_17, wd_1399⟩ hd_X12_unpin rfl rfl ⟨Nat.le_of_ble_eq_true rfl, Nat.le_of_ble_eq_true rfl⟩ rfl (hw_recv (q := 50) (i := 0) hC hH ⟨Nat.zero_lt_one, fun h => absurd h (by decide)⟩ rfl rfl) rfl hl.1 rfl (Nat.le_of_ble_eq_true rfl) dX12_finish_22 ⟨Nat.le_of_ble_eq_true rfl, Nat.le_of_ble_eq_true rfl⟩ (fun ed H locs hH hS => ?_)
  refine W.eq (g2 := F0 m 25 ls []) rfl ?_
  cases h
  exact gret_v hC hr hlk hH hS (Nat.le_of_ble_eq_true rfl) (Nat.le_of_ble_eq_true rfl) dX12_finish_25
def F_X12_goThroughGets_52 (k2 : Int32 → St → Option (Int32 × St)) (x1 : Int32) (C : St) : Option (Int32 × St) := k2 x1 C
set_option maxHeartbeats 4000000 in
set_option maxRecDepth 100000 in
theorem B_X12_goThroughGets_52 {p : Program} {l : Launch} {e : Env} {s : State} {m : MethodId} {args : Array Value} {below : List Frame} {meth : Method} {c : Code} {g : GP} {Z : St} (hC : CX p s m args c cX12_goThroughGets RX12 g) (hE : EZ g s s.heap) (hml : c.maxLocals = 3) (hr : meth.sig.returnType = none) (hlk : meth.locks = false) {r : Int32} {C2 : St} {k2 : Int32 → St → Option (Int32 × St)} (hk2 : ∀ (x1 : Int32) (C : St), k2 x1 C = some (r, C2) → ∀ (ed : Nat → Nat) (H : Heap) (locs : List Loc) (ls : Array Slot), HW g ed Z C H → va_S (gP g) s.heap H locs → lv_has ls 3 [(0, .ref (gA g 50 0)), (1, .int x1)] → W p l e ({ frames := 4, cells := 0, slots := 0, locals := 94 } : Room) s m args below meth c H locs 0 0 (MQ below (QG none g Z C2) args s 0 0 (gP g)) (F0 m 2 ls [])) {x1 : Int32} {C : St} (h : F_X12_goThroughGets_52 k2 x1 C = some (r, C2)) {ed : Nat → Nat} {H : Heap} {locs : List Loc} {ls : Array Slot} (hH : HW g ed Z C H) (hS : va_S (gP g) s.heap H locs) (hl : lv_has ls 3 [(0, .ref (gA g 50 0)), (1, .int x1)]) : W p l e ({ frames := 4, cells := 0, slots := 0, locals := 94 } : Room) s m args below meth c H locs 0 0 (MQ below (QG none g Z C2) args s 0 0 (gP g)) (F0 m 52 ls []) := by
  unfold F_X12_goThroughGets_52 at h
  refine lv_goto (tgt := 2) hC.1 hC.2.1 dX12_goThroughGets_52 (by decide) ?_
  exact hk2 _ _ h _ _ _ _ hH hS (lv_sub hl [0, 1] rfl)
def F_X12_goThroughGets_2  : Nat → Int32 → St → Option (Int32 × St)
  | 0, _, _ => none
  | fu + 1, x1, C => if (C 50 0 62 0) ≤ x1 then (some (0, C)) else (gd (inb x1 6) (gd (inb (C 159 0 0 x1.toNatClampNeg) 6) (bd2 (F_X12_grants (C 159 0 0 x1.toNatClampNeg) (C 129 0 0 (C 159 0 0 x1.toNatClampNeg).toNatClampNeg) C) (fun r4 D5 => if r4 = 0 then (F_X12_goThroughGets_52 (F_X12_goThroughGets_2 fu) (x1 + 1) D5) else (bd2 (F_X12_leaveGets x1 D5) (fun r8 D9 => bd2 (F_X12_finish (C 159 0 0 x1.toNatClampNeg) D9) (fun r11 D12 => bd2 (F_X12_wake (C 159 0 0 x1.toNatClampNeg) D12) (fun r14 D15 => F_X12_goThroughGets_52 (F_X12_goThroughGets_2 fu) x1 D15))))))))
set_option maxHeartbeats 4000000 in
set_option maxRecDepth 100000 in
theorem B_X12_goThroughGets_2 {p : Program} {l : Launch} {e : Env} {s : State} {m : MethodId} {args : Array Value} {below : List Frame} {meth : Method} {c : Code} {g : GP} {Z : St} (hC : CX p s m args c cX12_goThroughGets RX12 g) (hE : EZ g s s.heap) (hml : c.maxLocals = 3) (hr : meth.sig.returnType = none) (hlk : meth.locks = false) {r : Int32} {C2 : St} : ∀ (fu : Nat) (x1 : Int32) (C : St), F_X12_goThroughGets_2  fu x1 C = some (r, C2) → ∀ (ed : Nat → Nat) (H : Heap) (locs : List Loc) (ls : Array Slot), HW g ed Z C H → va_S (gP g) s.heap H locs → lv_has ls 3 [(0, .ref (gA g 50 0)), (1, .int x1)] → W p l e ({ frames := 4, cells := 0, slots := 0, locals := 94 } : Room) s m args below meth c H locs 0 0 (MQ below (QG none g Z C2) args s 0 0 (gP g)) (F0 m 2 ls []) := by
  intro fu
  induction fu with
  | zero =>
    intro x1 C h
    cases h
  | succ fu ih =>
    intro x1 C h ed H locs ls hH hS hl
    rw [F_X12_goThroughGets_2] at h
    refine lv_iload_n hC.1 hC.2.1 dX12_goThroughGets_2 rfl (lv_at hl 1 rfl) ?_
    refine lv_aload_n hC.1 hC.2.1 dX12_goThroughGets_3 rfl (lv_at hl 0 rfl) ?_
    refine gf_RX12_291 hC hH rfl dX12_goThroughGets_4 ?_
    refine lv_icmp_ge (tgt := 55) hC.1 hC.2.1 dX12_goThroughGets_7 (by decide) (fun hc1 => ?_) (fun hc1 => ?_)
    · rw [if_pos hc1] at h
      cases h
      exact gret_v hC hr hlk hH hS (Nat.le_of_ble_eq_true rfl) (Nat.le_of_ble_eq_true rfl) dX12_goThroughGets_55
    · rw [if_neg hc1] at h
      refine lv_aload_n hC.1 hC.2.1 dX12_goThroughGets_10 rfl (lv_at hl 0 rfl) ?_
      refine gf_RX12_128 hC hH rfl dX12_goThroughGets_11 ?_
      refine lv_iload_n hC.1 hC.2.1 dX12_goThroughGets_14 rfl (lv_at hl 1 rfl) ?_
      obtain ⟨hg2, h⟩ := gd_some h
      refine al_159 hC hH hg2 rfl dX12_goThroughGets_15 ?_
      refine lv_istore_n (i := 2) (lv' := [(2, .int (C 159 0 0 x1.toNatClampNeg)), (0, .ref (gA g 50 0)), (1, .int x1)]) hC.1 hC.2.1 dX12_goThroughGets_16 rfl hl (by decide) rfl (fun ls hl => ?_)
      refine lv_aload_n hC.1 hC.2.1 dX12_goThroughGets_17 rfl (lv_at hl 1 rfl) ?_
      refine lv_iload_n hC.1 hC.2.1 dX12_goThroughGets_18 rfl (lv_at hl 0 rfl) ?_
      refine lv_aload_n hC.1 hC.2.1 dX12_goThroughGets_19 rfl (lv_at hl 1 rfl) ?_
      refine gf_RX12_74 hC hH rfl dX12_goThroughGets_20 ?_
      refine lv_iload_n hC.1 hC.2.1 dX12_goThroughGets_23 rfl (lv_at hl 0 rfl) ?_
      obtain ⟨hg3, h⟩ := gd_some h
      refine al_129 hC hH hg3 rfl dX12_goThroughGets_24 ?_
      obtain ⟨r4, D5, hF6, h⟩ := bd2_some h
      refine gcallV (As := [.int (C 159 0 0 x1.toNatClampNeg), .int (C 129 0 0 (C 159 0 0 x1.toNatClampNeg).toNatClampNeg)]) (rest := []) (Cn := RX12) hC hE hml hH hS (c_X12_grants hF6) ⟨wd_1372, wd_1374, wp_39, wd_17, wd_1375⟩ hd_X12_grants rfl rfl ⟨Nat.le_of_ble_eq_true rfl, Nat.le_of_ble_eq_true rfl⟩ rfl (hw_recv (q := 50) (i := 0) hC hH ⟨Nat.zero_lt_one, fun h => absurd h (by decide)⟩ rfl rfl) rfl hl.1 rfl (Nat.le_of_ble_eq_true rfl) dX12_goThroughGets_25 ⟨Nat.le_of_ble_eq_true rfl, Nat.le_of_ble_eq_true rfl⟩ (fun ed H locs hH hS => ?_)
      refine W.eq (g2 := F0 m 28 ls [.int r4]) rfl ?_
      refine lv_if_eq (tgt := 49) hC.1 hC.2.1 dX12_goThroughGets_28 (by decide) (fun hc7 => ?_) (fun hc7 => ?_)
      · rw [if_pos hc7] at h
        refine lv_iinc (v := x1 + 1) (lv' := [(1, .int (x1 + 1)), (2, .int (C 159 0 0 x1.toNatClampNeg)), (0, .ref (gA g 50 0))]) hC.1 hC.2.1 dX12_goThroughGets_49 hl (k := 2) rfl rfl (by decide) rfl (fun ls hl => ?_)
        exact B_X12_goThroughGets_52 hC hE hml hr hlk ih h hH hS (lv_sub hl [2, 0] rfl)
      · rw [if_neg hc7] at h
        refine lv_aload_n hC.1 hC.2.1 dX12_goThroughGets_31 rfl (lv_at hl 1 rfl) ?_
        refine lv_iload_n hC.1 hC.2.1 dX12_goThroughGets_32 rfl (lv_at hl 2 rfl) ?_
        obtain ⟨r8, D9, hF10, h⟩ := bd2_some h
        refine gcallV (As := [.int x1]) (rest := []) (Cn := RX12) hC hE hml hH hS (c_X12_leaveGets hF10) ⟨wd_1388, wd_1390, wp_43, wd_17, wd_1391⟩ hd_X12_leaveGets rfl rfl ⟨Nat.le_of_ble_eq_true rfl, Nat.le_of_ble_eq_true rfl⟩ rfl (hw_recv (q := 50) (i := 0) hC hH ⟨Nat.zero_lt_one, fun h => absurd h (by decide)⟩ rfl rfl) rfl hl.1 rfl (Nat.le_of_ble_eq_true rfl) dX12_goThroughGets_33 ⟨Nat.le_of_ble_eq_true rfl, Nat.le_of_ble_eq_true rfl⟩ (fun ed H locs hH hS => ?_)
        refine W.eq (g2 := F0 m 36 ls []) rfl ?_
        refine lv_aload_n hC.1 hC.2.1 dX12_goThroughGets_36 rfl (lv_at hl 1 rfl) ?_
        refine lv_iload_n hC.1 hC.2.1 dX12_goThroughGets_37 rfl (lv_at hl 0 rfl) ?_
        obtain ⟨r11, D12, hF13, h⟩ := bd2_some h
        refine gcallV (As := [.int (C 159 0 0 x1.toNatClampNeg)]) (rest := []) (Cn := RX12) hC hE hml hH hS (c_X12_finish hF13) ⟨wd_1392, wd_1394, wp_44, wd_17, wd_1395⟩ hd_X12_finish rfl rfl ⟨Nat.le_of_ble_eq_true rfl, Nat.le_of_ble_eq_true rfl⟩ rfl (hw_recv (q := 50) (i := 0) hC hH ⟨Nat.zero_lt_one, fun h => absurd h (by decide)⟩ rfl rfl) rfl hl.1 rfl (Nat.le_of_ble_eq_true rfl) dX12_goThroughGets_38 ⟨Nat.le_of_ble_eq_true rfl, Nat.le_of_ble_eq_true rfl⟩ (fun ed H locs hH hS => ?_)
        refine W.eq (g2 := F0 m 41 ls []) rfl ?_
        refine lv_aload_n hC.1 hC.2.1 dX12_goThroughGets_41 rfl (lv_at hl 1 rfl) ?_
        refine lv_iload_n hC.1 hC.2.1 dX12_goThroughGets_42 rfl (lv_at hl 0 rfl) ?_
        obtain ⟨r14, D15, hF16, h⟩ := bd2_some h
        refine gcallV (As := [.int (C 159 0 0 x1.toNatClampNeg)]) (rest := []) (Cn := RX12) hC hE hml hH hS (c_X12_wake hF16) ⟨wd_1400, wd_1402, wp_46, wd_17, wd_1403⟩ hd_X12_wake rfl rfl ⟨Nat.le_of_ble_eq_true rfl, Nat.le_of_ble_eq_true rfl⟩ rfl (hw_recv (q := 50) (i := 0) hC hH ⟨Nat.zero_lt_one, fun h => absurd h (by decide)⟩ rfl rfl) rfl hl.1 rfl (Nat.le_of_ble_eq_true rfl) dX12_goThroughGets_43 ⟨Nat.le_of_ble_eq_true rfl, Nat.le_of_ble_eq_true rfl⟩ (fun ed H locs hH hS => ?_)
        refine W.eq (g2 := F0 m 46 ls []) rfl ?_
        refine lv_goto (tgt := 52) hC.1 hC.2.1 dX12_goThroughGets_46 (by decide) ?_
        exact B_X12_goThroughGets_52 hC hE hml hr hlk ih h hH hS (lv_sub hl [1, 2] rfl)
def F_X12_goThroughGets  (C : St) : Option (Int32 × St) := F_X12_goThroughGets_2 1000 (0 : Int32) C
set_option maxHeartbeats 4000000 in
set_option maxRecDepth 100000 in
theorem c_X12_goThroughGets {l : Launch} {g : GP} {ed : Nat → Nat} {Z : St}  {C : St} {r : Int32} {C2 : St} (h : F_X12_goThroughGets  C = some (r, C2)) : Met l yX12_goThroughGets (Cond.code yX12_goThroughGets cX12_goThroughGets 3 none :: lwG) ({ frames := 4, cells := 0, slots := 0, locals := 94 } : Room) (va_Pc [.ref (gA g 50 0)] (PW g Z C ed)) (QG none g Z C2) 0 0 (gP g) := by
  refine Met.ofW (cc := cX12_goThroughGets) (maxL := 3) (ret := none) (by decide +kernel) rfl ?_
  intro p e s m args below meth c s₁ B hml hv
  obtain ⟨ha, hC, hE, hr, hlk, hH⟩ := g_start B hv
  subst ha
  have hC : CX p s m ([.ref (gA g 50 0)] : List Value).toArray c cX12_goThroughGets RX12 g := hC
  have hS : va_S (gP g) s.heap s.heap [] := va_S.rf
  obtain ⟨ls, he, hl⟩ := g_entry m (vs := [.ref (gA g 50 0)]) (n := 3) (List.forall_mem_cons.mpr ⟨rfl, (fun _ h => absurd h List.not_mem_nil)⟩) (Nat.le_of_ble_eq_true rfl)
  rw [he]
  have hl : lv_has ls 3 [(0, .ref (gA g 50 0))] := hl
  unfold F_X12_goThroughGets at h
  refine lv_iconst (v := (0 : Int32)) hC.1 hC.2.1 dX12_goThroughGets_0 (by decide) ?_
  refine lv_istore_n (i := 1) (lv' := [(1, .int (0 : Int32)), (0, .ref (gA g 50 0))]) hC.1 hC.2.1 dX12_goThroughGets_1 rfl hl (by decide) rfl (fun ls hl => ?_)
  exact B_X12_goThroughGets_2 hC hE hml hr hlk 1000 _ _ h _ _ _ _ hH hS (lv_sub hl [1, 0] rfl)
def F_X12_endingStep_51 (k18 : Int32 → Int32 → St → Option (Int32 × St)) (x1 : Int32) (x2 : Int32) (t0 : Int32) (t1 : Int32) (C : St) : Option (Int32 × St) := gd (inb t1 12) (st (up C 139 0 0 t1.toNatClampNeg t0) (fun D2 => k18 x1 (x2 + 1) D2))
set_option maxHeartbeats 4000000 in
set_option maxRecDepth 100000 in
theorem B_X12_endingStep_51 {p : Program} {l : Launch} {e : Env} {s : State} {m : MethodId} {args : Array Value} {below : List Frame} {meth : Method} {c : Code} {g : GP} {Z : St} (hC : CX p s m args c cX12_endingStep RX12 g) (hE : EZ g s s.heap) (hml : c.maxLocals = 3) (hr : meth.sig.returnType = none) (hlk : meth.locks = false) {r : Int32} {C2 : St} {k18 : Int32 → Int32 → St → Option (Int32 × St)} (hk18 : ∀ (x1 : Int32) (x2 : Int32) (C : St), k18 x1 x2 C = some (r, C2) → ∀ (ed : Nat → Nat) (H : Heap) (locs : List Loc) (ls : Array Slot), HW g ed Z C H → va_S (gP g) s.heap H locs → lv_has ls 3 [(0, .ref (gA g 50 0)), (1, .int x1), (2, .int x2)] → W p l e ({ frames := 5, cells := 0, slots := 0, locals := 116 } : Room) s m args below meth c H locs 0 0 (MQ below (QG none g Z C2) args s 0 0 (gP g)) (F0 m 18 ls [])) {x1 : Int32} {x2 : Int32} {t0 : Int32} {t1 : Int32} {C : St} (h : F_X12_endingStep_51 k18 x1 x2 t0 t1 C = some (r, C2)) {ed : Nat → Nat} {H : Heap} {locs : List Loc} {ls : Array Slot} (hH : HW g ed Z C H) (hS : va_S (gP g) s.heap H locs) (hl : lv_has ls 3 [(0, .ref (gA g 50 0)), (1, .int x1), (2, .int x2)]) : W p l e ({ frames := 5, cells := 0, slots := 0, locals := 116 } : Room) s m args below meth c H locs 0 0 (MQ below (QG none g Z C2) args s 0 0 (gP g)) (F0 m 51 ls [.int t0, .int t1, .ref (gA g 139 0)]) := by
  unfold F_X12_endingStep_51 at h
  obtain ⟨hg1, h⟩ := gd_some h
  obtain ⟨D2, e3, h⟩ := st_some h
  refine as_139 hC hH hS hg1 rfl dX12_endingStep_51 (fun H locs hH hS => ?_)
  rw [← e3] at hH
  refine lv_iinc (v := x2 + 1) (lv' := [(2, .int (x2 + 1)), (0, .ref (gA g 50 0)), (1, .int x1)]) hC.1 hC.2.1 dX12_endingStep_52 hl (k := 2) rfl rfl (by decide) rfl (fun ls hl => ?_)
  refine lv_goto (tgt := 18) hC.1 hC.2.1 dX12_endingStep_55 (by decide) ?_
  exact hk18 _ _ _ h _ _ _ _ hH hS (lv_sub hl [1, 2, 0] rfl)
def F_X12_endingStep_60  : Nat → Int32 → Int32 → St → Option (Int32 × St)
  | 0, _, _, _ => none
  | fu + 1, x1, x2, C => if (3 : Int32) ≤ x2 then (gd (inb x1 6) (st (up C 114 0 0 x1.toNatClampNeg (3 : Int32)) (fun D3 => st (up D3 115 0 0 x1.toNatClampNeg (D3 116 0 0 x1.toNatClampNeg)) (fun D5 => st (up D5 116 0 0 x1.toNatClampNeg (0 : Int32)) (fun D7 => gd (inb x1 10) (st (up D7 109 0 0 x1.toNatClampNeg (1 : Int32)) (fun D10 => bd2 (F_X12_say ((48 : Int32) + x1) D10) (fun r12 D13 => bd2 (F_X12_say (61 : Int32) D13) (fun r15 D16 => bd2 (F_X12_say ((48 : Int32) + (D16 115 0 0 x1.toNatClampNeg)) D16) (fun r18 D19 => bd2 (F_X12_say (10 : Int32) D19) (fun r21 D22 => bd2 (F_X12_goThroughGets  D22) (fun r24 D25 => some (0, D25))))))))))))) else (gd (inb x2 3) (gd (inb (((3 : Int32) * x1) + x2) 18) (st (up C 128 0 0 x2.toNatClampNeg ((C 128 0 0 x2.toNatClampNeg) + (C 127 0 0 (((3 : Int32) * x1) + x2).toNatClampNeg))) (fun D29 => F_X12_endingStep_60 fu x1 (x2 + 1) D29))))
set_option maxHeartbeats 4000000 in
set_option maxRecDepth 100000 in
theorem B_X12_endingStep_60 {p : Program} {l : Launch} {e : Env} {s : State} {m : MethodId} {args : Array Value} {below : List Frame} {meth : Method} {c : Code} {g : GP} {Z : St} (hC : CX p s m args c cX12_endingStep RX12 g) (hE : EZ g s s.heap) (hml : c.maxLocals = 3) (hr : meth.sig.returnType = none) (hlk : meth.locks = false) {r : Int32} {C2 : St} : ∀ (fu : Nat) (x1 : Int32) (x2 : Int32) (C : St), F_X12_endingStep_60  fu x1 x2 C = some (r, C2) → ∀ (ed : Nat → Nat) (H : Heap) (locs : List Loc) (ls : Array Slot), HW g ed Z C H → va_S (gP g) s.heap H locs → lv_has ls 3 [(0, .ref (gA g 50 0)), (1, .int x1), (2, .int x2)] → W p l e ({ frames := 5, cells := 0, slots := 0, locals := 116 } : Room) s m args below meth c H locs 0 0 (MQ below (QG none g Z C2) args s 0 0 (gP g)) (F0 m 60 ls []) := by
  intro fu
  induction fu with
  | zero =>
    intro x1 x2 C h
    cases h
  | succ fu ih =>
    intro x1 x2 C h ed H locs ls hH hS hl
    rw [F_X12_endingStep_60] at h
    refine lv_iload_n hC.1 hC.2.1 dX12_endingStep_60 rfl (lv_at hl 2 rfl) ?_
    refine lv_iconst (v := (3 : Int32)) hC.1 hC.2.1 dX12_endingStep_61 (by decide) ?_
    refine lv_icmp_ge (tgt := 90) hC.1 hC.2.1 dX12_endingStep_62 (by decide) (fun hc1 => ?_) (fun hc1 => ?_)
    · rw [if_pos hc1] at h
      refine lv_aload_n hC.1 hC.2.1 dX12_endingStep_90 rfl (lv_at hl 0 rfl) ?_
      refine gf_RX12_32 hC hH rfl dX12_endingStep_91 ?_
      refine lv_iload_n hC.1 hC.2.1 dX12_endingStep_94 rfl (lv_at hl 1 rfl) ?_
      refine lv_iconst (v := (3 : Int32)) hC.1 hC.2.1 dX12_endingStep_95 (by decide) ?_
      obtain ⟨hg2, h⟩ := gd_some h
      obtain ⟨D3, e4, h⟩ := st_some h
      refine as_114 hC hH hS hg2 rfl dX12_endingStep_96 (fun H locs hH hS => ?_)
      rw [← e4] at hH
      refine lv_aload_n hC.1 hC.2.1 dX12_endingStep_97 rfl (lv_at hl 0 rfl) ?_
      refine gf_RX12_35 hC hH rfl dX12_endingStep_98 ?_
      refine lv_iload_n hC.1 hC.2.1 dX12_endingStep_101 rfl (lv_at hl 1 rfl) ?_
      refine lv_aload_n hC.1 hC.2.1 dX12_endingStep_102 rfl (lv_at hl 0 rfl) ?_
      refine gf_RX12_38 hC hH rfl dX12_endingStep_103 ?_
      refine lv_iload_n hC.1 hC.2.1 dX12_endingStep_106 rfl (lv_at hl 1 rfl) ?_
      refine al_116 hC hH hg2 rfl dX12_endingStep_107 ?_
      obtain ⟨D5, e6, h⟩ := st_some h
      refine as_115 hC hH hS hg2 rfl dX12_endingStep_108 (fun H locs hH hS => ?_)
      rw [← e6] at hH
      refine lv_aload_n hC.1 hC.2.1 dX12_endingStep_109 rfl (lv_at hl 0 rfl) ?_
      refine gf_RX12_38 hC hH rfl dX12_endingStep_110 ?_
      refine lv_iload_n hC.1 hC.2.1 dX12_endingStep_113 rfl (lv_at hl 1 rfl) ?_
      refine lv_iconst (v := (0 : Int32)) hC.1 hC.2.1 dX12_endingStep_114 (by decide) ?_
      obtain ⟨D7, e8, h⟩ := st_some h
      refine as_116 hC hH hS hg2 rfl dX12_endingStep_115 (fun H locs hH hS => ?_)
      rw [← e8] at hH
      refine lv_aload_n hC.1 hC.2.1 dX12_endingStep_116 rfl (lv_at hl 0 rfl) ?_
      refine gf_RX12_16 hC hH rfl dX12_endingStep_117 ?_
      refine lv_iload_n hC.1 hC.2.1 dX12_endingStep_120 rfl (lv_at hl 1 rfl) ?_
      refine lv_iconst (v := (1 : Int32)) hC.1 hC.2.1 dX12_endingStep_121 (by decide) ?_
      obtain ⟨hg9, h⟩ := gd_some h
      obtain ⟨D10, e11, h⟩ := st_some h
      refine as_109 hC hH hS hg9 (by decide) rfl dX12_endingStep_122 (fun H locs hH hS => ?_)
      rw [← e11] at hH
      refine lv_aload_n hC.1 hC.2.1 dX12_endingStep_123 rfl (lv_at hl 0 rfl) ?_
      refine lv_bipush (v := (48 : Int32)) hC.1 hC.2.1 dX12_endingStep_124 (by decide) ?_
      refine lv_iload_n hC.1 hC.2.1 dX12_endingStep_126 rfl (lv_at hl 1 rfl) ?_
      refine lv_iadd hC.1 hC.2.1 dX12_endingStep_127 ?_
      obtain ⟨r12, D13, hF14, h⟩ := bd2_some h
      refine gcallV (As := [.int ((48 : Int32) + x1)]) (rest := []) (Cn := RX12) hC hE hml hH hS (c_X12_say hF14) ⟨wd_1364, wd_1366, wp_37, wd_17, wd_1367⟩ hd_X12_say rfl rfl ⟨Nat.le_of_ble_eq_true rfl, Nat.le_of_ble_eq_true rfl⟩ rfl (hw_recv (q := 50) (i := 0) hC hH ⟨Nat.zero_lt_one, fun h => absurd h (by decide)⟩ rfl rfl) rfl hl.1 rfl (Nat.le_of_ble_eq_true rfl) dX12_endingStep_128 ⟨Nat.le_of_ble_eq_true rfl, Nat.le_of_ble_eq_true rfl⟩ (fun ed H locs hH hS => ?_)
      refine W.eq (g2 := F0 m 131 ls []) rfl ?_
      refine lv_aload_n hC.1 hC.2.1 dX12_endingStep_131 rfl (lv_at hl 0 rfl) ?_
      refine lv_bipush (v := (61 : Int32)) hC.1 hC.2.1 dX12_endingStep_132 (by decide) ?_
      obtain ⟨r15, D16, hF17, h⟩ := bd2_some h
      refine gcallV (As := [.int (61 : Int32)]) (rest := []) (Cn := RX12) hC hE hml hH hS (c_X12_say hF17) ⟨wd_1364, wd_1366, wp_37, wd_17, wd_1367⟩ hd_X12_say rfl rfl ⟨Nat.le_of_ble_eq_true rfl, Nat.le_of_ble_eq_true rfl⟩ rfl (hw_recv (q := 50) (i := 0) hC hH ⟨Nat.zero_lt_one, fun h => absurd h (by decide)⟩ rfl rfl) rfl hl.1 rfl (Nat.le_of_ble_eq_true rfl) dX12_endingStep_134 ⟨Nat.le_of_ble_eq_true rfl, Nat.le_of_ble_eq_true rfl⟩ (fun ed H locs hH hS => ?_)
      refine W.eq (g2 := F0 m 137 ls []) rfl ?_
      refine lv_aload_n hC.1 hC.2.1 dX12_endingStep_137 rfl (lv_at hl 0 rfl) ?_
      refine lv_bipush (v := (48 : Int32)) hC.1 hC.2.1 dX12_endingStep_138 (by decide) ?_
      refine lv_aload_n hC.1 hC.2.1 dX12_endingStep_140 rfl (lv_at hl 0 rfl) ?_
      refine gf_RX12_35 hC hH rfl dX12_endingStep_141 ?_
      refine lv_iload_n hC.1 hC.2.1 dX12_endingStep_144 rfl (lv_at hl 1 rfl) ?_
      refine al_115 hC hH hg2 rfl dX12_endingStep_145 ?_
      refine lv_iadd hC.1 hC.2.1 dX12_endingStep_146 ?_
      obtain ⟨r18, D19, hF20, h⟩ := bd2_some h
      refine gcallV (As := [.int ((48 : Int32) + (D16 115 0 0 x1.toNatClampNeg))]) (rest := []) (Cn := RX12) hC hE hml hH hS (c_X12_say hF20) ⟨wd_1364, wd_1366, wp_37, wd_17, wd_1367⟩ hd_X12_say rfl rfl ⟨Nat.le_of_ble_eq_true rfl, Nat.le_of_ble_eq_true rfl⟩ rfl (hw_recv (q := 50) (i := 0) hC hH ⟨Nat.zero_lt_one, fun h => absurd h (by decide)⟩ rfl rfl) rfl hl.1 rfl (Nat.le_of_ble_eq_true rfl) dX12_endingStep_147 ⟨Nat.le_of_ble_eq_true rfl, Nat.le_of_ble_eq_true rfl⟩ (fun ed H locs hH hS => ?_)
      refine W.eq (g2 := F0 m 150 ls []) rfl ?_
      refine lv_aload_n hC.1 hC.2.1 dX12_endingStep_150 rfl (lv_at hl 0 rfl) ?_
      refine lv_bipush (v := (10 : Int32)) hC.1 hC.2.1 dX12_endingStep_151 (by decide) ?_
      obtain ⟨r21, D22, hF23, h⟩ := bd2_some h
      refine gcallV (As := [.int (10 : Int32)]) (rest := []) (Cn := RX12) hC hE hml hH hS (c_X12_say hF23) ⟨wd_1364, wd_1366, wp_37, wd_17, wd_1367⟩ hd_X12_say rfl rfl ⟨Nat.le_of_ble_eq_true rfl, Nat.le_of_ble_eq_true rfl⟩ rfl (hw_recv (q := 50) (i := 0) hC hH ⟨Nat.zero_lt_one, fun h => absurd h (by decide)⟩ rfl rfl) rfl hl.1 rfl (Nat.le_of_ble_eq_true rfl) dX12_endingStep_153 ⟨Nat.le_of_ble_eq_true rfl, Nat.le_of_ble_eq_true rfl⟩ (fun ed H locs hH hS => ?_)
      refine W.eq (g2 := F0 m 156 ls []) rfl ?_
      refine lv_aload_n hC.1 hC.2.1 dX12_endingStep_156 rfl (lv_at hl 0 rfl) ?_
      obtain ⟨r24, D25, hF26, h⟩ := bd2_some h
      refine gcallV (As := []) (rest := []) (Cn := RX12) hC hE hml hH hS (c_X12_goThroughGets hF26) ⟨wd_1368, wd_1370, wp_38, wd_17, wd_1371⟩ hd_X12_goThroughGets rfl rfl ⟨Nat.le_of_ble_eq_true rfl, Nat.le_of_ble_eq_true rfl⟩ rfl (hw_recv (q := 50) (i := 0) hC hH ⟨Nat.zero_lt_one, fun h => absurd h (by decide)⟩ rfl rfl) rfl hl.1 rfl (Nat.le_of_ble_eq_true rfl) dX12_endingStep_157 ⟨Nat.le_of_ble_eq_true rfl, Nat.le_of_ble_eq_true rfl⟩ (fun ed H locs hH hS => ?_)
      refine W.eq (g2 := F0 m 160 ls []) rfl ?_
      cases h
      exact gret_v hC hr hlk hH hS (Nat.le_of_ble_eq_true rfl) (Nat.le_of_ble_eq_true rfl) dX12_endingStep_160
    · rw [if_neg hc1] at h
      refine lv_aload_n hC.1 hC.2.1 dX12_endingStep_65 rfl (lv_at hl 0 rfl) ?_
      refine gf_RX12_71 hC hH rfl dX12_endingStep_66 ?_
      refine lv_iload_n hC.1 hC.2.1 dX12_endingStep_69 rfl (lv_at hl 2 rfl) ?_
      refine lv_dup2_11 hC.1 hC.2.1 dX12_endingStep_70 rfl rfl ?_
      obtain ⟨hg27, h⟩ := gd_some h
      refine al_128 hC hH hg27 rfl dX12_endingStep_71 ?_
      refine lv_aload_n hC.1 hC.2.1 dX12_endingStep_72 rfl (lv_at hl 0 rfl) ?_
      refine gf_RX12_68 hC hH rfl dX12_endingStep_73 ?_
      refine lv_iconst (v := (3 : Int32)) hC.1 hC.2.1 dX12_endingStep_76 (by decide) ?_
      refine lv_iload_n hC.1 hC.2.1 dX12_endingStep_77 rfl (lv_at hl 1 rfl) ?_
      refine lv_imul hC.1 hC.2.1 dX12_endingStep_78 ?_
      refine lv_iload_n hC.1 hC.2.1 dX12_endingStep_79 rfl (lv_at hl 2 rfl) ?_
      refine lv_iadd hC.1 hC.2.1 dX12_endingStep_80 ?_
      obtain ⟨hg28, h⟩ := gd_some h
      refine al_127 hC hH hg28 rfl dX12_endingStep_81 ?_
      refine lv_iadd hC.1 hC.2.1 dX12_endingStep_82 ?_
      obtain ⟨D29, e30, h⟩ := st_some h
      refine as_128 hC hH hS hg27 rfl dX12_endingStep_83 (fun H locs hH hS => ?_)
      rw [← e30] at hH
      refine lv_iinc (v := x2 + 1) (lv' := [(2, .int (x2 + 1)), (0, .ref (gA g 50 0)), (1, .int x1)]) hC.1 hC.2.1 dX12_endingStep_84 hl (k := 2) rfl rfl (by decide) rfl (fun ls hl => ?_)
      refine lv_goto (tgt := 60) hC.1 hC.2.1 dX12_endingStep_87 (by decide) ?_
      exact ih _ _ _ h _ _ _ _ hH hS (lv_sub hl [1, 2, 0] rfl)
def F_X12_endingStep_18  : Nat → Int32 → Int32 → St → Option (Int32 × St)
  | 0, _, _, _ => none
  | fu + 1, x1, x2, C => if (C 50 0 0 0) ≤ x2 then (F_X12_endingStep_60 1000 x1 (0 : Int32) C) else (gd (inb x2 12) (if (C 139 0 0 x2.toNatClampNeg) = x1 then (F_X12_endingStep_51 (F_X12_endingStep_18 fu) x1 x2 (-1 : Int32) x2 C) else (F_X12_endingStep_51 (F_X12_endingStep_18 fu) x1 x2 (C 139 0 0 x2.toNatClampNeg) x2 C)))
set_option maxHeartbeats 4000000 in
set_option maxRecDepth 100000 in
theorem B_X12_endingStep_18 {p : Program} {l : Launch} {e : Env} {s : State} {m : MethodId} {args : Array Value} {below : List Frame} {meth : Method} {c : Code} {g : GP} {Z : St} (hC : CX p s m args c cX12_endingStep RX12 g) (hE : EZ g s s.heap) (hml : c.maxLocals = 3) (hr : meth.sig.returnType = none) (hlk : meth.locks = false) {r : Int32} {C2 : St} : ∀ (fu : Nat) (x1 : Int32) (x2 : Int32) (C : St), F_X12_endingStep_18  fu x1 x2 C = some (r, C2) → ∀ (ed : Nat → Nat) (H : Heap) (locs : List Loc) (ls : Array Slot), HW g ed Z C H → va_S (gP g) s.heap H locs → lv_has ls 3 [(0, .ref (gA g 50 0)), (1, .int x1), (2, .int x2)] → W p l e ({ frames := 5, cells := 0, slots := 0, locals := 116 } : Room) s m args below meth c H locs 0 0 (MQ below (QG none g Z C2) args s 0 0 (gP g)) (F0 m 18 ls []) := by
  intro fu
  induction fu with
  | zero =>
    intro x1 x2 C h
    cases h
  | succ fu ih =>
    intro x1 x2 C h ed H locs ls hH hS hl
    rw [F_X12_endingStep_18] at h
    refine lv_iload_n hC.1 hC.2.1 dX12_endingStep_18 rfl (lv_at hl 2 rfl) ?_
    refine lv_aload_n hC.1 hC.2.1 dX12_endingStep_19 rfl (lv_at hl 0 rfl) ?_
    refine gf_RX12_150 hC hH rfl dX12_endingStep_20 ?_
    refine lv_icmp_ge (tgt := 58) hC.1 hC.2.1 dX12_endingStep_23 (by decide) (fun hc1 => ?_) (fun hc1 => ?_)
    · rw [if_pos hc1] at h
      refine lv_iconst (v := (0 : Int32)) hC.1 hC.2.1 dX12_endingStep_58 (by decide) ?_
      refine lv_istore_n (i := 2) (lv' := [(2, .int (0 : Int32)), (0, .ref (gA g 50 0)), (1, .int x1)]) hC.1 hC.2.1 dX12_endingStep_59 rfl hl (by decide) rfl (fun ls hl => ?_)
      exact B_X12_endingStep_60 hC hE hml hr hlk 1000 _ _ _ h _ _ _ _ hH hS (lv_sub hl [1, 2, 0] rfl)
    · rw [if_neg hc1] at h
      refine lv_aload_n hC.1 hC.2.1 dX12_endingStep_26 rfl (lv_at hl 0 rfl) ?_
      refine gf_RX12_104 hC hH rfl dX12_endingStep_27 ?_
      refine lv_iload_n hC.1 hC.2.1 dX12_endingStep_30 rfl (lv_at hl 2 rfl) ?_
      refine lv_aload_n hC.1 hC.2.1 dX12_endingStep_31 rfl (lv_at hl 0 rfl) ?_
      refine gf_RX12_104 hC hH rfl dX12_endingStep_32 ?_
      refine lv_iload_n hC.1 hC.2.1 dX12_endingStep_35 rfl (lv_at hl 2 rfl) ?_
      obtain ⟨hg2, h⟩ := gd_some h
      refine al_139 hC hH hg2 rfl dX12_endingStep_36 ?_
      refine lv_iload_n hC.1 hC.2.1 dX12_endingStep_37 rfl (lv_at hl 1 rfl) ?_
      refine lv_icmp_ne (tgt := 45) hC.1 hC.2.1 dX12_endingStep_38 (by decide) (fun hc3 => ?_) (fun hc3 => ?_)
      · rw [if_neg hc3] at h
        refine lv_aload_n hC.1 hC.2.1 dX12_endingStep_45 rfl (lv_at hl 0 rfl) ?_
        refine gf_RX12_104 hC hH rfl dX12_endingStep_46 ?_
        refine lv_iload_n hC.1 hC.2.1 dX12_endingStep_49 rfl (lv_at hl 2 rfl) ?_
        refine al_139 hC hH hg2 rfl dX12_endingStep_50 ?_
        exact B_X12_endingStep_51 hC hE hml hr hlk ih h hH hS (lv_sub hl [0, 1, 2] rfl)
      · rw [if_pos hc3] at h
        refine lv_iconst (v := (-1 : Int32)) hC.1 hC.2.1 dX12_endingStep_41 (by decide) ?_
        refine lv_goto (tgt := 51) hC.1 hC.2.1 dX12_endingStep_42 (by decide) ?_
        exact B_X12_endingStep_51 hC hE hml hr hlk ih h hH hS (lv_sub hl [0, 1, 2] rfl)
def F_X12_endingStep (x1 : Int32) (C : St) : Option (Int32 × St) := gd (inb x1 6) (if (C 134 0 0 x1.toNatClampNeg) ≤ 0 then (F_X12_endingStep_18 1000 x1 (0 : Int32) C) else (bd2 (F_X12_pause x1 (4 : Int32) C) (fun r3 D4 => some (0, D4))))
set_option maxHeartbeats 4000000 in
set_option maxRecDepth 100000 in
theorem c_X12_endingStep {l : Launch} {g : GP} {ed : Nat → Nat} {Z : St} {x1 : Int32} {C : St} {r : Int32} {C2 : St} (h : F_X12_endingStep x1 C = some (r, C2)) : Met l yX12_endingStep (Cond.code yX12_endingStep cX12_endingStep 3 none :: lwG) ({ frames := 5, cells := 0, slots := 0, locals := 116 } : Room) (va_Pc [.ref (gA g 50 0), .int x1] (PW g Z C ed)) (QG none g Z C2) 0 0 (gP g) := by
  refine Met.ofW (cc := cX12_endingStep) (maxL := 3) (ret := none) (by decide +kernel) rfl ?_
  intro p e s m args below meth c s₁ B hml hv
  obtain ⟨ha, hC, hE, hr, hlk, hH⟩ := g_start B hv
  subst ha
  have hC : CX p s m ([.ref (gA g 50 0), .int x1] : List Value).toArray c cX12_endingStep RX12 g := hC
  have hS : va_S (gP g) s.heap s.heap [] := va_S.rf
  obtain ⟨ls, he, hl⟩ := g_entry m (vs := [.ref (gA g 50 0), .int x1]) (n := 3) (List.forall_mem_cons.mpr ⟨rfl, (List.forall_mem_cons.mpr ⟨rfl, (fun _ h => absurd h List.not_mem_nil)⟩)⟩) (Nat.le_of_ble_eq_true rfl)
  rw [he]
  have hl : lv_has ls 3 [(0, .ref (gA g 50 0)), (1, .int x1)] := hl
  unfold F_X12_endingStep at h
  refine lv_aload_n hC.1 hC.2.1 dX12_endingStep_0 rfl (lv_at hl 0 rfl) ?_
  refine gf_RX12_89 hC hH rfl dX12_endingStep_1 ?_
  refine lv_iload_n hC.1 hC.2.1 dX12_endingStep_4 rfl (lv_at hl 1 rfl) ?_
  obtain ⟨hg1, h⟩ := gd_some h
  refine al_134 hC hH hg1 rfl dX12_endingStep_5 ?_
  refine lv_if_le (tgt := 16) hC.1 hC.2.1 dX12_endingStep_6 (by decide) (fun hc2 => ?_) (fun hc2 => ?_)
  · rw [if_pos hc2] at h
    refine lv_iconst (v := (0 : Int32)) hC.1 hC.2.1 dX12_endingStep_16 (by decide) ?_
    refine lv_istore_n (i := 2) (lv' := [(2, .int (0 : Int32)), (0, .ref (gA g 50 0)), (1, .int x1)]) hC.1 hC.2.1 dX12_endingStep_17 rfl hl (by decide) rfl (fun ls hl => ?_)
    exact B_X12_endingStep_18 hC hE hml hr hlk 1000 _ _ _ h _ _ _ _ hH hS (lv_sub hl [1, 2, 0] rfl)
  · rw [if_neg hc2] at h
    refine lv_aload_n hC.1 hC.2.1 dX12_endingStep_9 rfl (lv_at hl 0 rfl) ?_
    refine lv_iload_n hC.1 hC.2.1 dX12_endingStep_10 rfl (lv_at hl 1 rfl) ?_
    refine lv_iconst (v := (4 : Int32)) hC.1 hC.2.1 dX12_endingStep_11 (by decide) ?_
    obtain ⟨r3, D4, hF5, h⟩ := bd2_some h
    refine gcallV (As := [.int x1, .int (4 : Int32)]) (rest := []) (Cn := RX12) hC hE hml hH hS (c_X12_pause hF5) ⟨wd_1360, wd_1362, wp_36, wd_17, wd_1363⟩ hd_X12_pause rfl rfl ⟨Nat.le_of_ble_eq_true rfl, Nat.le_of_ble_eq_true rfl⟩ rfl (hw_recv (q := 50) (i := 0) hC hH ⟨Nat.zero_lt_one, fun h => absurd h (by decide)⟩ rfl rfl) rfl hl.1 rfl (Nat.le_of_ble_eq_true rfl) dX12_endingStep_12 ⟨Nat.le_of_ble_eq_true rfl, Nat.le_of_ble_eq_true rfl⟩ (fun ed H locs hH hS => ?_)
    refine W.eq (g2 := F0 m 15 ls []) rfl ?_
    cases h
    exact gret_v hC hr hlk hH hS (Nat.le_of_ble_eq_true rfl) (Nat.le_of_ble_eq_true rfl) dX12_endingStep_15
def F_X12_frameOf_39 (k5 : Int32 → Int32 → Int32 → Int32 → St → Option (Int32 × St)) (x1 : Int32) (x2 : Int32) (x3 : Int32) (x4 : Int32) (C : St) : Option (Int32 × St) := k5 x1 x2 x3 (x4 + 1) C
set_option maxHeartbeats 4000000 in
set_option maxRecDepth 100000 in
theorem B_X12_frameOf_39 {p : Program} {l : Launch} {e : Env} {s : State} {m : MethodId} {args : Array Value} {below : List Frame} {meth : Method} {c : Code} {g : GP} {Z : St} (hC : CX p s m args c cX12_frameOf RX12 g) (hE : EZ g s s.heap) (hml : c.maxLocals = 5) (hr : meth.sig.returnType = (some .int)) (hlk : meth.locks = false) {r : Int32} {C2 : St} {k5 : Int32 → Int32 → Int32 → Int32 → St → Option (Int32 × St)} (hk5 : ∀ (x1 : Int32) (x2 : Int32) (x3 : Int32) (x4 : Int32) (C : St), k5 x1 x2 x3 x4 C = some (r, C2) → ∀ (ed : Nat → Nat) (H : Heap) (locs : List Loc) (ls : Array Slot), HW g ed Z C H → va_S (gP g) s.heap H locs → lv_has ls 5 [(0, .ref (gA g 50 0)), (1, .int x1), (2, .int x2), (3, .int x3), (4, .int x4)] → W p l e ({ frames := 0, cells := 0, slots := 0, locals := 0 } : Room) s m args below meth c H locs 0 0 (MQ below (QG (some (.int r)) g Z C2) args s 0 0 (gP g)) (F0 m 5 ls [])) {x1 : Int32} {x2 : Int32} {x3 : Int32} {x4 : Int32} {C : St} (h : F_X12_frameOf_39 k5 x1 x2 x3 x4 C = some (r, C2)) {ed : Nat → Nat} {H : Heap} {locs : List Loc} {ls : Array Slot} (hH : HW g ed Z C H) (hS : va_S (gP g) s.heap H locs) (hl : lv_has ls 5 [(0, .ref (gA g 50 0)), (1, .int x1), (2, .int x2), (3, .int x3), (4, .int x4)]) : W p l e ({ frames := 0, cells := 0, slots := 0, locals := 0 } : Room) s m args below meth c H locs 0 0 (MQ below (QG (some (.int r)) g Z C2) args s 0 0 (gP g)) (F0 m 39 ls []) := by
  unfold F_X12_frameOf_39 at h
  refine lv_iinc (v := x4 + 1) (lv' := [(4, .int (x4 + 1)), (0, .ref (gA g 50 0)), (1, .int x1), (2, .int x2), (3, .int x3)]) hC.1 hC.2.1 dX12_frameOf_39 hl (k := 4) rfl rfl (by decide) rfl (fun ls hl => ?_)
  refine lv_goto (tgt := 5) hC.1 hC.2.1 dX12_frameOf_42 (by decide) ?_
  exact hk5 _ _ _ _ _ h _ _ _ _ hH hS (lv_sub hl [1, 2, 3, 4, 0] rfl)
def F_X12_frameOf_5  : Nat → Int32 → Int32 → Int32 → Int32 → St → Option (Int32 × St)
  | 0, _, _, _, _, _ => none
  | fu + 1, x1, x2, x3, x4, C => if (C 50 0 0 0) ≤ x4 then (some (x3, C)) else (gd (inb x4 12) (if (C 139 0 0 x4.toNatClampNeg) = x1 then (if (C 140 0 0 x4.toNatClampNeg) = x2 then (F_X12_frameOf_39 (F_X12_frameOf_5 fu) x1 x2 x4 x4 C) else (F_X12_frameOf_39 (F_X12_frameOf_5 fu) x1 x2 x3 x4 C)) else (F_X12_frameOf_39 (F_X12_frameOf_5 fu) x1 x2 x3 x4 C)))
set_option maxHeartbeats 4000000 in
set_option maxRecDepth 100000 in
theorem B_X12_frameOf_5 {p : Program} {l : Launch} {e : Env} {s : State} {m : MethodId} {args : Array Value} {below : List Frame} {meth : Method} {c : Code} {g : GP} {Z : St} (hC : CX p s m args c cX12_frameOf RX12 g) (hE : EZ g s s.heap) (hml : c.maxLocals = 5) (hr : meth.sig.returnType = (some .int)) (hlk : meth.locks = false) {r : Int32} {C2 : St} : ∀ (fu : Nat) (x1 : Int32) (x2 : Int32) (x3 : Int32) (x4 : Int32) (C : St), F_X12_frameOf_5  fu x1 x2 x3 x4 C = some (r, C2) → ∀ (ed : Nat → Nat) (H : Heap) (locs : List Loc) (ls : Array Slot), HW g ed Z C H → va_S (gP g) s.heap H locs → lv_has ls 5 [(0, .ref (gA g 50 0)), (1, .int x1), (2, .int x2), (3, .int x3), (4, .int x4)] → W p l e ({ frames := 0, cells := 0, slots := 0, locals := 0 } : Room) s m args below meth c H locs 0 0 (MQ below (QG (some (.int r)) g Z C2) args s 0 0 (gP g)) (F0 m 5 ls []) := by
  intro fu
  induction fu with
  | zero =>
    intro x1 x2 x3 x4 C h
    cases h
  | succ fu ih =>
    intro x1 x2 x3 x4 C h ed H locs ls hH hS hl
    rw [F_X12_frameOf_5] at h
    refine lv_iload hC.1 hC.2.1 dX12_frameOf_5 (lv_at hl 4 rfl) ?_
    refine lv_aload_n hC.1 hC.2.1 dX12_frameOf_7 rfl (lv_at hl 0 rfl) ?_
    refine gf_RX12_150 hC hH rfl dX12_frameOf_8 ?_
    refine lv_icmp_ge (tgt := 45) hC.1 hC.2.1 dX12_frameOf_11 (by decide) (fun hc1 => ?_) (fun hc1 => ?_)
    · rw [if_pos hc1] at h
      refine lv_iload_n hC.1 hC.2.1 dX12_frameOf_45 rfl (lv_at hl 3 rfl) ?_
      cases h
      exact gret_i hC hr hlk hH hS (Nat.le_of_ble_eq_true rfl) (Nat.le_of_ble_eq_true rfl) dX12_frameOf_46
    · rw [if_neg hc1] at h
      refine lv_aload_n hC.1 hC.2.1 dX12_frameOf_14 rfl (lv_at hl 0 rfl) ?_
      refine gf_RX12_104 hC hH rfl dX12_frameOf_15 ?_
      refine lv_iload hC.1 hC.2.1 dX12_frameOf_18 (lv_at hl 4 rfl) ?_
      obtain ⟨hg2, h⟩ := gd_some h
      refine al_139 hC hH hg2 rfl dX12_frameOf_20 ?_
      refine lv_iload_n hC.1 hC.2.1 dX12_frameOf_21 rfl (lv_at hl 1 rfl) ?_
      refine lv_icmp_ne (tgt := 39) hC.1 hC.2.1 dX12_frameOf_22 (by decide) (fun hc3 => ?_) (fun hc3 => ?_)
      · rw [if_neg hc3] at h
        exact B_X12_frameOf_39 hC hE hml hr hlk ih h hH hS (lv_sub hl [0, 1, 2, 3, 4] rfl)
      · rw [if_pos hc3] at h
        refine lv_aload_n hC.1 hC.2.1 dX12_frameOf_25 rfl (lv_at hl 0 rfl) ?_
        refine gf_RX12_107 hC hH rfl dX12_frameOf_26 ?_
        refine lv_iload hC.1 hC.2.1 dX12_frameOf_29 (lv_at hl 4 rfl) ?_
        refine al_140 hC hH hg2 rfl dX12_frameOf_31 ?_
        refine lv_iload_n hC.1 hC.2.1 dX12_frameOf_32 rfl (lv_at hl 2 rfl) ?_
        refine lv_icmp_ne (tgt := 39) hC.1 hC.2.1 dX12_frameOf_33 (by decide) (fun hc4 => ?_) (fun hc4 => ?_)
        · rw [if_neg hc4] at h
          exact B_X12_frameOf_39 hC hE hml hr hlk ih h hH hS (lv_sub hl [0, 1, 2, 3, 4] rfl)
        · rw [if_pos hc4] at h
          refine lv_iload hC.1 hC.2.1 dX12_frameOf_36 (lv_at hl 4 rfl) ?_
          refine lv_istore_n (i := 3) (lv' := [(3, .int x4), (0, .ref (gA g 50 0)), (1, .int x1), (2, .int x2), (4, .int x4)]) hC.1 hC.2.1 dX12_frameOf_38 rfl hl (by decide) rfl (fun ls hl => ?_)
          exact B_X12_frameOf_39 hC hE hml hr hlk ih h hH hS (lv_sub hl [1, 2, 3, 0, 4] rfl)
def F_X12_frameOf (x1 : Int32) (x2 : Int32) (C : St) : Option (Int32 × St) := F_X12_frameOf_5 1000 x1 x2 (-1 : Int32) (0 : Int32) C
set_option maxHeartbeats 4000000 in
set_option maxRecDepth 100000 in
theorem c_X12_frameOf {l : Launch} {g : GP} {ed : Nat → Nat} {Z : St} {x1 : Int32} {x2 : Int32} {C : St} {r : Int32} {C2 : St} (h : F_X12_frameOf x1 x2 C = some (r, C2)) : Met l yX12_frameOf (Cond.code yX12_frameOf cX12_frameOf 5 (some .int) :: lwG) ({ frames := 0, cells := 0, slots := 0, locals := 0 } : Room) (va_Pc [.ref (gA g 50 0), .int x1, .int x2] (PW g Z C ed)) (QG (some (.int r)) g Z C2) 0 0 (gP g) := by
  refine Met.ofW (cc := cX12_frameOf) (maxL := 5) (ret := (some .int)) (by decide +kernel) rfl ?_
  intro p e s m args below meth c s₁ B hml hv
  obtain ⟨ha, hC, hE, hr, hlk, hH⟩ := g_start B hv
  subst ha
  have hC : CX p s m ([.ref (gA g 50 0), .int x1, .int x2] : List Value).toArray c cX12_frameOf RX12 g := hC
  have hS : va_S (gP g) s.heap s.heap [] := va_S.rf
  obtain ⟨ls, he, hl⟩ := g_entry m (vs := [.ref (gA g 50 0), .int x1, .int x2]) (n := 5) (List.forall_mem_cons.mpr ⟨rfl, (List.forall_mem_cons.mpr ⟨rfl, (List.forall_mem_cons.mpr ⟨rfl, (fun _ h => absurd h List.not_mem_nil)⟩)⟩)⟩) (Nat.le_of_ble_eq_true rfl)
  rw [he]
  have hl : lv_has ls 5 [(0, .ref (gA g 50 0)), (1, .int x1), (2, .int x2)] := hl
  unfold F_X12_frameOf at h
  refine lv_iconst (v := (-1 : Int32)) hC.1 hC.2.1 dX12_frameOf_0 (by decide) ?_
  refine lv_istore_n (i := 3) (lv' := [(3, .int (-1 : Int32)), (0, .ref (gA g 50 0)), (1, .int x1), (2, .int x2)]) hC.1 hC.2.1 dX12_frameOf_1 rfl hl (by decide) rfl (fun ls hl => ?_)
  refine lv_iconst (v := (0 : Int32)) hC.1 hC.2.1 dX12_frameOf_2 (by decide) ?_
  refine lv_istore (lv' := [(4, .int (0 : Int32)), (3, .int (-1 : Int32)), (0, .ref (gA g 50 0)), (1, .int x1), (2, .int x2)]) hC.1 hC.2.1 dX12_frameOf_3 hl (by decide) rfl (fun ls hl => ?_)
  exact B_X12_frameOf_5 hC hE hml hr hlk 1000 _ _ _ _ _ h _ _ _ _ hH hS (lv_sub hl [2, 3, 4, 1, 0] rfl)
def F_X12_want (x1 : Int32) (x2 : Int32) (C : St) : Option (Int32 × St) := gd (inb (C 50 0 60 0) 6) (st (up C 156 0 0 (C 50 0 60 0).toNatClampNeg x1) (fun D2 => gd (inb (D2 50 0 60 0) 6) (st (up D2 157 0 0 (D2 50 0 60 0).toNatClampNeg x2) (fun D5 => st (up D5 50 0 60 0 ((D5 50 0 60 0) + (1 : Int32))) (fun D7 => bd2 (F_X12_pause x1 (1 : Int32) D7) (fun r9 D10 => bd2 (F_X12_raise (0 : Int32) D10) (fun r12 D13 => some (0, D13))))))))
set_option maxHeartbeats 4000000 in
set_option maxRecDepth 100000 in
theorem c_X12_want {l : Launch} {g : GP} {ed : Nat → Nat} {Z : St} {x1 : Int32} {x2 : Int32} {C : St} {r : Int32} {C2 : St} (h : F_X12_want x1 x2 C = some (r, C2)) : Met l yX12_want (Cond.code yX12_want cX12_want 3 none :: lwG) ({ frames := 2, cells := 0, slots := 0, locals := 44 } : Room) (va_Pc [.ref (gA g 50 0), .int x1, .int x2] (PW g Z C ed)) (QG none g Z C2) 0 0 (gP g) := by
  refine Met.ofW (cc := cX12_want) (maxL := 3) (ret := none) (by decide +kernel) rfl ?_
  intro p e s m args below meth c s₁ B hml hv
  obtain ⟨ha, hC, hE, hr, hlk, hH⟩ := g_start B hv
  subst ha
  have hC : CX p s m ([.ref (gA g 50 0), .int x1, .int x2] : List Value).toArray c cX12_want RX12 g := hC
  have hS : va_S (gP g) s.heap s.heap [] := va_S.rf
  obtain ⟨ls, he, hl⟩ := g_entry m (vs := [.ref (gA g 50 0), .int x1, .int x2]) (n := 3) (List.forall_mem_cons.mpr ⟨rfl, (List.forall_mem_cons.mpr ⟨rfl, (List.forall_mem_cons.mpr ⟨rfl, (fun _ h => absurd h List.not_mem_nil)⟩)⟩)⟩) (Nat.le_of_ble_eq_true rfl)
  rw [he]
  have hl : lv_has ls 3 [(0, .ref (gA g 50 0)), (1, .int x1), (2, .int x2)] := hl
  unfold F_X12_want at h
  refine lv_aload_n hC.1 hC.2.1 dX12_want_0 rfl (lv_at hl 0 rfl) ?_
  refine gf_RX12_119 hC hH rfl dX12_want_1 ?_
  refine lv_aload_n hC.1 hC.2.1 dX12_want_4 rfl (lv_at hl 0 rfl) ?_
  refine gf_RX12_191 hC hH rfl dX12_want_5 ?_
  refine lv_iload_n hC.1 hC.2.1 dX12_want_8 rfl (lv_at hl 1 rfl) ?_
  obtain ⟨hg1, h⟩ := gd_some h
  obtain ⟨D2, e3, h⟩ := st_some h
  refine as_156 hC hH hS hg1 rfl dX12_want_9 (fun H locs hH hS => ?_)
  rw [← e3] at hH
  refine lv_aload_n hC.1 hC.2.1 dX12_want_10 rfl (lv_at hl 0 rfl) ?_
  refine gf_RX12_122 hC hH rfl dX12_want_11 ?_
  refine lv_aload_n hC.1 hC.2.1 dX12_want_14 rfl (lv_at hl 0 rfl) ?_
  refine gf_RX12_191 hC hH rfl dX12_want_15 ?_
  refine lv_iload_n hC.1 hC.2.1 dX12_want_18 rfl (lv_at hl 2 rfl) ?_
  obtain ⟨hg4, h⟩ := gd_some h
  obtain ⟨D5, e6, h⟩ := st_some h
  refine as_157 hC hH hS hg4 rfl dX12_want_19 (fun H locs hH hS => ?_)
  rw [← e6] at hH
  refine lv_aload_n hC.1 hC.2.1 dX12_want_20 rfl (lv_at hl 0 rfl) ?_
  refine lv_dup hC.1 hC.2.1 dX12_want_21 rfl ?_
  refine gf_RX12_191 hC hH rfl dX12_want_22 ?_
  refine lv_iconst (v := (1 : Int32)) hC.1 hC.2.1 dX12_want_25 (by decide) ?_
  refine lv_iadd hC.1 hC.2.1 dX12_want_26 ?_
  obtain ⟨D7, e8, h⟩ := st_some h
  refine pf_RX12_191 hC hH hS  rfl dX12_want_27 (fun H locs hH hS => ?_)
  rw [← e8] at hH
  refine lv_aload_n hC.1 hC.2.1 dX12_want_30 rfl (lv_at hl 0 rfl) ?_
  refine lv_iload_n hC.1 hC.2.1 dX12_want_31 rfl (lv_at hl 1 rfl) ?_
  refine lv_iconst (v := (1 : Int32)) hC.1 hC.2.1 dX12_want_32 (by decide) ?_
  obtain ⟨r9, D10, hF11, h⟩ := bd2_some h
  refine gcallV (As := [.int x1, .int (1 : Int32)]) (rest := []) (Cn := RX12) hC hE hml hH hS (c_X12_pause hF11) ⟨wd_1360, wd_1362, wp_36, wd_17, wd_1363⟩ hd_X12_pause rfl rfl ⟨Nat.le_of_ble_eq_true rfl, Nat.le_of_ble_eq_true rfl⟩ rfl (hw_recv (q := 50) (i := 0) hC hH ⟨Nat.zero_lt_one, fun h => absurd h (by decide)⟩ rfl rfl) rfl hl.1 rfl (Nat.le_of_ble_eq_true rfl) dX12_want_33 ⟨Nat.le_of_ble_eq_true rfl, Nat.le_of_ble_eq_true rfl⟩ (fun ed H locs hH hS => ?_)
  refine W.eq (g2 := F0 m 36 ls []) rfl ?_
  refine lv_aload_n hC.1 hC.2.1 dX12_want_36 rfl (lv_at hl 0 rfl) ?_
  refine lv_iconst (v := (0 : Int32)) hC.1 hC.2.1 dX12_want_37 (by decide) ?_
  obtain ⟨r12, D13, hF14, h⟩ := bd2_some h
  refine gcallV (As := [.int (0 : Int32)]) (rest := []) (Cn := RX12) hC hE hml hH hS (c_X12_raise hF14) ⟨wd_1416, wd_1418, wp_50, wd_17, wd_1419⟩ hd_X12_raise rfl rfl ⟨Nat.le_of_ble_eq_true rfl, Nat.le_of_ble_eq_true rfl⟩ rfl (hw_recv (q := 50) (i := 0) hC hH ⟨Nat.zero_lt_one, fun h => absurd h (by decide)⟩ rfl rfl) rfl hl.1 rfl (Nat.le_of_ble_eq_true rfl) dX12_want_38 ⟨Nat.le_of_ble_eq_true rfl, Nat.le_of_ble_eq_true rfl⟩ (fun ed H locs hH hS => ?_)
  refine W.eq (g2 := F0 m 41 ls []) rfl ?_
  cases h
  exact gret_v hC hr hlk hH hS (Nat.le_of_ble_eq_true rfl) (Nat.le_of_ble_eq_true rfl) dX12_want_41
def F_X12_withWord_173  (x1 : Int32) (C : St) : Option (Int32 × St) := bd2 (F_X12_finish x1 C) (fun r1 D2 => some (0, D2))
set_option maxHeartbeats 4000000 in
set_option maxRecDepth 100000 in
theorem B_X12_withWord_173 {p : Program} {l : Launch} {e : Env} {s : State} {m : MethodId} {args : Array Value} {below : List Frame} {meth : Method} {c : Code} {g : GP} {Z : St} (hC : CX p s m args c cX12_withWord RX12 g) (hE : EZ g s s.heap) (hml : c.maxLocals = 6) (hr : meth.sig.returnType = none) (hlk : meth.locks = false) {r : Int32} {C2 : St} {x1 : Int32} {C : St} (h : F_X12_withWord_173  x1 C = some (r, C2)) {ed : Nat → Nat} {H : Heap} {locs : List Loc} {ls : Array Slot} (hH : HW g ed Z C H) (hS : va_S (gP g) s.heap H locs) (hl : lv_has ls 6 [(0, .ref (gA g 50 0)), (1, .int x1)]) : W p l e ({ frames := 2, cells := 0, slots := 0, locals := 43 } : Room) s m args below meth c H locs 0 0 (MQ below (QG none g Z C2) args s 0 0 (gP g)) (F0 m 173 ls []) := by
  unfold F_X12_withWord_173 at h
  refine lv_aload_n hC.1 hC.2.1 dX12_withWord_173 rfl (lv_at hl 0 rfl) ?_
  refine lv_iload_n hC.1 hC.2.1 dX12_withWord_174 rfl (lv_at hl 1 rfl) ?_
  obtain ⟨r1, D2, hF3, h⟩ := bd2_some h
  refine gcallV (As := [.int x1]) (rest := []) (Cn := RX12) hC hE hml hH hS (c_X12_finish hF3) ⟨wd_1392, wd_1394, wp_44, wd_17, wd_1395⟩ hd_X12_finish rfl rfl ⟨Nat.le_of_ble_eq_true rfl, Nat.le_of_ble_eq_true rfl⟩ rfl (hw_recv (q := 50) (i := 0) hC hH ⟨Nat.zero_lt_one, fun h => absurd h (by decide)⟩ rfl rfl) rfl hl.1 rfl (Nat.le_of_ble_eq_true rfl) dX12_withWord_175 ⟨Nat.le_of_ble_eq_true rfl, Nat.le_of_ble_eq_true rfl⟩ (fun ed H locs hH hS => ?_)
  refine W.eq (g2 := F0 m 178 ls []) rfl ?_
  cases h
  exact gret_v hC hr hlk hH hS (Nat.le_of_ble_eq_true rfl) (Nat.le_of_ble_eq_true rfl) dX12_withWord_178
def F_X12_withWord_159  (x1 : Int32) (x2 : Int32) (x5 : Int32) (C : St) : Option (Int32 × St) := if x2 = (10 : Int32) then (gd (inb x1 6) (st (up C 120 0 0 x1.toNatClampNeg x5) (fun D3 => F_X12_withWord_173 x1 D3))) else (F_X12_withWord_173 x1 C)
set_option maxHeartbeats 4000000 in
set_option maxRecDepth 100000 in
theorem B_X12_withWord_159 {p : Program} {l : Launch} {e : Env} {s : State} {m : MethodId} {args : Array Value} {below : List Frame} {meth : Method} {c : Code} {g : GP} {Z : St} (hC : CX p s m args c cX12_withWord RX12 g) (hE : EZ g s s.heap) (hml : c.maxLocals = 6) (hr : meth.sig.returnType = none) (hlk : meth.locks = false) {r : Int32} {C2 : St} {x1 : Int32} {x2 : Int32} {x5 : Int32} {C : St} (h : F_X12_withWord_159  x1 x2 x5 C = some (r, C2)) {ed : Nat → Nat} {H : Heap} {locs : List Loc} {ls : Array Slot} (hH : HW g ed Z C H) (hS : va_S (gP g) s.heap H locs) (hl : lv_has ls 6 [(0, .ref (gA g 50 0)), (1, .int x1), (2, .int x2), (5, .int x5)]) : W p l e ({ frames := 2, cells := 0, slots := 0, locals := 43 } : Room) s m args below meth c H locs 0 0 (MQ below (QG none g Z C2) args s 0 0 (gP g)) (F0 m 159 ls []) := by
  unfold F_X12_withWord_159 at h
  refine lv_iload_n hC.1 hC.2.1 dX12_withWord_159 rfl (lv_at hl 2 rfl) ?_
  refine lv_bipush (v := (10 : Int32)) hC.1 hC.2.1 dX12_withWord_160 (by decide) ?_
  refine lv_icmp_ne (tgt := 173) hC.1 hC.2.1 dX12_withWord_162 (by decide) (fun hc1 => ?_) (fun hc1 => ?_)
  · rw [if_neg hc1] at h
    exact B_X12_withWord_173 hC hE hml hr hlk h hH hS (lv_sub hl [0, 1] rfl)
  · rw [if_pos hc1] at h
    refine lv_aload_n hC.1 hC.2.1 dX12_withWord_165 rfl (lv_at hl 0 rfl) ?_
    refine gf_RX12_50 hC hH rfl dX12_withWord_166 ?_
    refine lv_iload_n hC.1 hC.2.1 dX12_withWord_169 rfl (lv_at hl 1 rfl) ?_
    refine lv_iload hC.1 hC.2.1 dX12_withWord_170 (lv_at hl 3 rfl) ?_
    obtain ⟨hg2, h⟩ := gd_some h
    obtain ⟨D3, e4, h⟩ := st_some h
    refine as_120 hC hH hS hg2 rfl dX12_withWord_172 (fun H locs hH hS => ?_)
    rw [← e4] at hH
    exact B_X12_withWord_173 hC hE hml hr hlk h hH hS (lv_sub hl [0, 1] rfl)
def F_X12_withWord_138  (x1 : Int32) (x2 : Int32) (x5 : Int32) (C : St) : Option (Int32 × St) := if x2 = (6 : Int32) then (gd (inb x1 6) (gd (decide (¬ x5 = 0)) (st (up C 119 0 0 x1.toNatClampNeg ((C 119 0 0 x1.toNatClampNeg) / x5)) (fun D4 => F_X12_withWord_159 x1 x2 x5 D4)))) else (F_X12_withWord_159 x1 x2 x5 C)
set_option maxHeartbeats 4000000 in
set_option maxRecDepth 100000 in
theorem B_X12_withWord_138 {p : Program} {l : Launch} {e : Env} {s : State} {m : MethodId} {args : Array Value} {below : List Frame} {meth : Method} {c : Code} {g : GP} {Z : St} (hC : CX p s m args c cX12_withWord RX12 g) (hE : EZ g s s.heap) (hml : c.maxLocals = 6) (hr : meth.sig.returnType = none) (hlk : meth.locks = false) {r : Int32} {C2 : St} {x1 : Int32} {x2 : Int32} {x5 : Int32} {C : St} (h : F_X12_withWord_138  x1 x2 x5 C = some (r, C2)) {ed : Nat → Nat} {H : Heap} {locs : List Loc} {ls : Array Slot} (hH : HW g ed Z C H) (hS : va_S (gP g) s.heap H locs) (hl : lv_has ls 6 [(0, .ref (gA g 50 0)), (1, .int x1), (2, .int x2), (5, .int x5)]) : W p l e ({ frames := 2, cells := 0, slots := 0, locals := 43 } : Room) s m args below meth c H locs 0 0 (MQ below (QG none g Z C2) args s 0 0 (gP g)) (F0 m 138 ls []) := by
  unfold F_X12_withWord_138 at h
  refine lv_iload_n hC.1 hC.2.1 dX12_withWord_138 rfl (lv_at hl 2 rfl) ?_
  refine lv_bipush (v := (6 : Int32)) hC.1 hC.2.1 dX12_withWord_139 (by decide) ?_
  refine lv_icmp_ne (tgt := 159) hC.1 hC.2.1 dX12_withWord_141 (by decide) (fun hc1 => ?_) (fun hc1 => ?_)
  · rw [if_neg hc1] at h
    exact B_X12_withWord_159 hC hE hml hr hlk h hH hS (lv_sub hl [0, 1, 2, 3] rfl)
  · rw [if_pos hc1] at h
    refine lv_aload_n hC.1 hC.2.1 dX12_withWord_144 rfl (lv_at hl 0 rfl) ?_
    refine gf_RX12_47 hC hH rfl dX12_withWord_145 ?_
    refine lv_iload_n hC.1 hC.2.1 dX12_withWord_148 rfl (lv_at hl 1 rfl) ?_
    refine lv_aload_n hC.1 hC.2.1 dX12_withWord_149 rfl (lv_at hl 0 rfl) ?_
    refine gf_RX12_47 hC hH rfl dX12_withWord_150 ?_
    refine lv_iload_n hC.1 hC.2.1 dX12_withWord_153 rfl (lv_at hl 1 rfl) ?_
    obtain ⟨hg2, h⟩ := gd_some h
    refine al_119 hC hH hg2 rfl dX12_withWord_154 ?_
    refine lv_iload hC.1 hC.2.1 dX12_withWord_155 (lv_at hl 3 rfl) ?_
    obtain ⟨hg3, h⟩ := gd_some h
    refine lv_idiv hC.1 hC.2.1 dX12_withWord_157 (of_decide_eq_true hg3) ?_
    obtain ⟨D4, e5, h⟩ := st_some h
    refine as_119 hC hH hS hg2 rfl dX12_withWord_158 (fun H locs hH hS => ?_)
    rw [← e5] at hH
    exact B_X12_withWord_159 hC hE hml hr hlk h hH hS (lv_sub hl [0, 1, 2, 3] rfl)
def F_X12_withWord_118  (x1 : Int32) (x2 : Int32) (x5 : Int32) (C : St) : Option (Int32 × St) := if x2 = (5 : Int32) then (gd (inb x1 6) (st (up C 119 0 0 x1.toNatClampNeg ((C 119 0 0 x1.toNatClampNeg) * x5)) (fun D3 => F_X12_withWord_138 x1 x2 x5 D3))) else (F_X12_withWord_138 x1 x2 x5 C)
set_option maxHeartbeats 4000000 in
set_option maxRecDepth 100000 in
theorem B_X12_withWord_118 {p : Program} {l : Launch} {e : Env} {s : State} {m : MethodId} {args : Array Value} {below : List Frame} {meth : Method} {c : Code} {g : GP} {Z : St} (hC : CX p s m args c cX12_withWord RX12 g) (hE : EZ g s s.heap) (hml : c.maxLocals = 6) (hr : meth.sig.returnType = none) (hlk : meth.locks = false) {r : Int32} {C2 : St} {x1 : Int32} {x2 : Int32} {x5 : Int32} {C : St} (h : F_X12_withWord_118  x1 x2 x5 C = some (r, C2)) {ed : Nat → Nat} {H : Heap} {locs : List Loc} {ls : Array Slot} (hH : HW g ed Z C H) (hS : va_S (gP g) s.heap H locs) (hl : lv_has ls 6 [(0, .ref (gA g 50 0)), (1, .int x1), (2, .int x2), (5, .int x5)]) : W p l e ({ frames := 2, cells := 0, slots := 0, locals := 43 } : Room) s m args below meth c H locs 0 0 (MQ below (QG none g Z C2) args s 0 0 (gP g)) (F0 m 118 ls []) := by
  unfold F_X12_withWord_118 at h
  refine lv_iload_n hC.1 hC.2.1 dX12_withWord_118 rfl (lv_at hl 2 rfl) ?_
  refine lv_iconst (v := (5 : Int32)) hC.1 hC.2.1 dX12_withWord_119 (by decide) ?_
  refine lv_icmp_ne (tgt := 138) hC.1 hC.2.1 dX12_withWord_120 (by decide) (fun hc1 => ?_) (fun hc1 => ?_)
  · rw [if_neg hc1] at h
    exact B_X12_withWord_138 hC hE hml hr hlk h hH hS (lv_sub hl [0, 1, 2, 3] rfl)
  · rw [if_pos hc1] at h
    refine lv_aload_n hC.1 hC.2.1 dX12_withWord_123 rfl (lv_at hl 0 rfl) ?_
    refine gf_RX12_47 hC hH rfl dX12_withWord_124 ?_
    refine lv_iload_n hC.1 hC.2.1 dX12_withWord_127 rfl (lv_at hl 1 rfl) ?_
    refine lv_aload_n hC.1 hC.2.1 dX12_withWord_128 rfl (lv_at hl 0 rfl) ?_
    refine gf_RX12_47 hC hH rfl dX12_withWord_129 ?_
    refine lv_iload_n hC.1 hC.2.1 dX12_withWord_132 rfl (lv_at hl 1 rfl) ?_
    obtain ⟨hg2, h⟩ := gd_some h
    refine al_119 hC hH hg2 rfl dX12_withWord_133 ?_
    refine lv_iload hC.1 hC.2.1 dX12_withWord_134 (lv_at hl 3 rfl) ?_
    refine lv_imul hC.1 hC.2.1 dX12_withWord_136 ?_
    obtain ⟨D3, e4, h⟩ := st_some h
    refine as_119 hC hH hS hg2 rfl dX12_withWord_137 (fun H locs hH hS => ?_)
    rw [← e4] at hH
    exact B_X12_withWord_138 hC hE hml hr hlk h hH hS (lv_sub hl [0, 1, 2, 3] rfl)
def F_X12_withWord_98  (x1 : Int32) (x2 : Int32) (x5 : Int32) (C : St) : Option (Int32 × St) := if x2 = (4 : Int32) then (gd (inb x1 6) (st (up C 119 0 0 x1.toNatClampNeg ((C 119 0 0 x1.toNatClampNeg) - x5)) (fun D3 => F_X12_withWord_118 x1 x2 x5 D3))) else (F_X12_withWord_118 x1 x2 x5 C)
set_option maxHeartbeats 4000000 in
set_option maxRecDepth 100000 in
theorem B_X12_withWord_98 {p : Program} {l : Launch} {e : Env} {s : State} {m : MethodId} {args : Array Value} {below : List Frame} {meth : Method} {c : Code} {g : GP} {Z : St} (hC : CX p s m args c cX12_withWord RX12 g) (hE : EZ g s s.heap) (hml : c.maxLocals = 6) (hr : meth.sig.returnType = none) (hlk : meth.locks = false) {r : Int32} {C2 : St} {x1 : Int32} {x2 : Int32} {x5 : Int32} {C : St} (h : F_X12_withWord_98  x1 x2 x5 C = some (r, C2)) {ed : Nat → Nat} {H : Heap} {locs : List Loc} {ls : Array Slot} (hH : HW g ed Z C H) (hS : va_S (gP g) s.heap H locs) (hl : lv_has ls 6 [(0, .ref (gA g 50 0)), (1, .int x1), (2, .int x2), (5, .int x5)]) : W p l e ({ frames := 2, cells := 0, slots := 0, locals := 43 } : Room) s m args below meth c H locs 0 0 (MQ below (QG none g Z C2) args s 0 0 (gP g)) (F0 m 98 ls []) := by
  unfold F_X12_withWord_98 at h
  refine lv_iload_n hC.1 hC.2.1 dX12_withWord_98 rfl (lv_at hl 2 rfl) ?_
  refine lv_iconst (v := (4 : Int32)) hC.1 hC.2.1 dX12_withWord_99 (by decide) ?_
  refine lv_icmp_ne (tgt := 118) hC.1 hC.2.1 dX12_withWord_100 (by decide) (fun hc1 => ?_) (fun hc1 => ?_)
  · rw [if_neg hc1] at h
    exact B_X12_withWord_118 hC hE hml hr hlk h hH hS (lv_sub hl [0, 1, 2, 3] rfl)
  · rw [if_pos hc1] at h
    refine lv_aload_n hC.1 hC.2.1 dX12_withWord_103 rfl (lv_at hl 0 rfl) ?_
    refine gf_RX12_47 hC hH rfl dX12_withWord_104 ?_
    refine lv_iload_n hC.1 hC.2.1 dX12_withWord_107 rfl (lv_at hl 1 rfl) ?_
    refine lv_aload_n hC.1 hC.2.1 dX12_withWord_108 rfl (lv_at hl 0 rfl) ?_
    refine gf_RX12_47 hC hH rfl dX12_withWord_109 ?_
    refine lv_iload_n hC.1 hC.2.1 dX12_withWord_112 rfl (lv_at hl 1 rfl) ?_
    obtain ⟨hg2, h⟩ := gd_some h
    refine al_119 hC hH hg2 rfl dX12_withWord_113 ?_
    refine lv_iload hC.1 hC.2.1 dX12_withWord_114 (lv_at hl 3 rfl) ?_
    refine lv_isub hC.1 hC.2.1 dX12_withWord_116 ?_
    obtain ⟨D3, e4, h⟩ := st_some h
    refine as_119 hC hH hS hg2 rfl dX12_withWord_117 (fun H locs hH hS => ?_)
    rw [← e4] at hH
    exact B_X12_withWord_118 hC hE hml hr hlk h hH hS (lv_sub hl [0, 1, 2, 3] rfl)
def F_X12_withWord_78  (x1 : Int32) (x2 : Int32) (x5 : Int32) (C : St) : Option (Int32 × St) := if x2 = (3 : Int32) then (gd (inb x1 6) (st (up C 119 0 0 x1.toNatClampNeg ((C 119 0 0 x1.toNatClampNeg) + x5)) (fun D3 => F_X12_withWord_98 x1 x2 x5 D3))) else (F_X12_withWord_98 x1 x2 x5 C)
set_option maxHeartbeats 4000000 in
set_option maxRecDepth 100000 in
theorem B_X12_withWord_78 {p : Program} {l : Launch} {e : Env} {s : State} {m : MethodId} {args : Array Value} {below : List Frame} {meth : Method} {c : Code} {g : GP} {Z : St} (hC : CX p s m args c cX12_withWord RX12 g) (hE : EZ g s s.heap) (hml : c.maxLocals = 6) (hr : meth.sig.returnType = none) (hlk : meth.locks = false) {r : Int32} {C2 : St} {x1 : Int32} {x2 : Int32} {x5 : Int32} {C : St} (h : F_X12_withWord_78  x1 x2 x5 C = some (r, C2)) {ed : Nat → Nat} {H : Heap} {locs : List Loc} {ls : Array Slot} (hH : HW g ed Z C H) (hS : va_S (gP g) s.heap H locs) (hl : lv_has ls 6 [(0, .ref (gA g 50 0)), (1, .int x1), (2, .int x2), (5, .int x5)]) : W p l e ({ frames := 2, cells := 0, slots := 0, locals := 43 } : Room) s m args below meth c H locs 0 0 (MQ below (QG none g Z C2) args s 0 0 (gP g)) (F0 m 78 ls []) := by
  unfold F_X12_withWord_78 at h
  refine lv_iload_n hC.1 hC.2.1 dX12_withWord_78 rfl (lv_at hl 2 rfl) ?_
  refine lv_iconst (v := (3 : Int32)) hC.1 hC.2.1 dX12_withWord_79 (by decide) ?_
  refine lv_icmp_ne (tgt := 98) hC.1 hC.2.1 dX12_withWord_80 (by decide) (fun hc1 => ?_) (fun hc1 => ?_)
  · rw [if_neg hc1] at h
    exact B_X12_withWord_98 hC hE hml hr hlk h hH hS (lv_sub hl [0, 1, 2, 3] rfl)
  · rw [if_pos hc1] at h
    refine lv_aload_n hC.1 hC.2.1 dX12_withWord_83 rfl (lv_at hl 0 rfl) ?_
    refine gf_RX12_47 hC hH rfl dX12_withWord_84 ?_
    refine lv_iload_n hC.1 hC.2.1 dX12_withWord_87 rfl (lv_at hl 1 rfl) ?_
    refine lv_aload_n hC.1 hC.2.1 dX12_withWord_88 rfl (lv_at hl 0 rfl) ?_
    refine gf_RX12_47 hC hH rfl dX12_withWord_89 ?_
    refine lv_iload_n hC.1 hC.2.1 dX12_withWord_92 rfl (lv_at hl 1 rfl) ?_
    obtain ⟨hg2, h⟩ := gd_some h
    refine al_119 hC hH hg2 rfl dX12_withWord_93 ?_
    refine lv_iload hC.1 hC.2.1 dX12_withWord_94 (lv_at hl 3 rfl) ?_
    refine lv_iadd hC.1 hC.2.1 dX12_withWord_96 ?_
    obtain ⟨D3, e4, h⟩ := st_some h
    refine as_119 hC hH hS hg2 rfl dX12_withWord_97 (fun H locs hH hS => ?_)
    rw [← e4] at hH
    exact B_X12_withWord_98 hC hE hml hr hlk h hH hS (lv_sub hl [0, 1, 2, 3] rfl)
def F_X12_withWord_70  (x1 : Int32) (x2 : Int32) (x5 : Int32) (C : St) : Option (Int32 × St) := gd (inb x1 6) (st (up C 119 0 0 x1.toNatClampNeg x5) (fun D2 => F_X12_withWord_78 x1 x2 x5 D2))
set_option maxHeartbeats 4000000 in
set_option maxRecDepth 100000 in
theorem B_X12_withWord_70 {p : Program} {l : Launch} {e : Env} {s : State} {m : MethodId} {args : Array Value} {below : List Frame} {meth : Method} {c : Code} {g : GP} {Z : St} (hC : CX p s m args c cX12_withWord RX12 g) (hE : EZ g s s.heap) (hml : c.maxLocals = 6) (hr : meth.sig.returnType = none) (hlk : meth.locks = false) {r : Int32} {C2 : St} {x1 : Int32} {x2 : Int32} {x5 : Int32} {C : St} (h : F_X12_withWord_70  x1 x2 x5 C = some (r, C2)) {ed : Nat → Nat} {H : Heap} {locs : List Loc} {ls : Array Slot} (hH : HW g ed Z C H) (hS : va_S (gP g) s.heap H locs) (hl : lv_has ls 6 [(0, .ref (gA g 50 0)), (1, .int x1), (2, .int x2), (5, .int x5)]) : W p l e ({ frames := 2, cells := 0, slots := 0, locals := 43 } : Room) s m args below meth c H locs 0 0 (MQ below (QG none g Z C2) args s 0 0 (gP g)) (F0 m 70 ls []) := by
  unfold F_X12_withWord_70 at h
  refine lv_aload_n hC.1 hC.2.1 dX12_withWord_70 rfl (lv_at hl 0 rfl) ?_
  refine gf_RX12_47 hC hH rfl dX12_withWord_71 ?_
  refine lv_iload_n hC.1 hC.2.1 dX12_withWord_74 rfl (lv_at hl 1 rfl) ?_
  refine lv_iload hC.1 hC.2.1 dX12_withWord_75 (lv_at hl 3 rfl) ?_
  obtain ⟨hg1, h⟩ := gd_some h
  obtain ⟨D2, e3, h⟩ := st_some h
  refine as_119 hC hH hS hg1 rfl dX12_withWord_77 (fun H locs hH hS => ?_)
  rw [← e3] at hH
  exact B_X12_withWord_78 hC hE hml hr hlk h hH hS (lv_sub hl [0, 1, 2, 3] rfl)
def F_X12_withWord_59  (x1 : Int32) (x2 : Int32) (x5 : Int32) (C : St) : Option (Int32 × St) := if x2 = (1 : Int32) then (F_X12_withWord_70 x1 x2 x5 C) else (if x2 = (11 : Int32) then (F_X12_withWord_70 x1 x2 x5 C) else (F_X12_withWord_78 x1 x2 x5 C))
set_option maxHeartbeats 4000000 in
set_option maxRecDepth 100000 in
theorem B_X12_withWord_59 {p : Program} {l : Launch} {e : Env} {s : State} {m : MethodId} {args : Array Value} {below : List Frame} {meth : Method} {c : Code} {g : GP} {Z : St} (hC : CX p s m args c cX12_withWord RX12 g) (hE : EZ g s s.heap) (hml : c.maxLocals = 6) (hr : meth.sig.returnType = none) (hlk : meth.locks = false) {r : Int32} {C2 : St} {x1 : Int32} {x2 : Int32} {x5 : Int32} {C : St} (h : F_X12_withWord_59  x1 x2 x5 C = some (r, C2)) {ed : Nat → Nat} {H : Heap} {locs : List Loc} {ls : Array Slot} (hH : HW g ed Z C H) (hS : va_S (gP g) s.heap H locs) (hl : lv_has ls 6 [(0, .ref (gA g 50 0)), (1, .int x1), (2, .int x2), (5, .int x5)]) : W p l e ({ frames := 2, cells := 0, slots := 0, locals := 43 } : Room) s m args below meth c H locs 0 0 (MQ below (QG none g Z C2) args s 0 0 (gP g)) (F0 m 59 ls []) := by
  unfold F_X12_withWord_59 at h
  refine lv_iload_n hC.1 hC.2.1 dX12_withWord_59 rfl (lv_at hl 2 rfl) ?_
  refine lv_iconst (v := (1 : Int32)) hC.1 hC.2.1 dX12_withWord_60 (by decide) ?_
  refine lv_icmp_eq (tgt := 70) hC.1 hC.2.1 dX12_withWord_61 (by decide) (fun hc1 => ?_) (fun hc1 => ?_)
  · rw [if_pos hc1] at h
    exact B_X12_withWord_70 hC hE hml hr hlk h hH hS (lv_sub hl [0, 1, 2, 3] rfl)
  · rw [if_neg hc1] at h
    refine lv_iload_n hC.1 hC.2.1 dX12_withWord_64 rfl (lv_at hl 2 rfl) ?_
    refine lv_bipush (v := (11 : Int32)) hC.1 hC.2.1 dX12_withWord_65 (by decide) ?_
    refine lv_icmp_ne (tgt := 78) hC.1 hC.2.1 dX12_withWord_67 (by decide) (fun hc2 => ?_) (fun hc2 => ?_)
    · rw [if_neg hc2] at h
      exact B_X12_withWord_78 hC hE hml hr hlk h hH hS (lv_sub hl [0, 1, 2, 3] rfl)
    · rw [if_pos hc2] at h
      exact B_X12_withWord_70 hC hE hml hr hlk h hH hS (lv_sub hl [0, 1, 2, 3] rfl)
def F_X12_withWord_39  (x1 : Int32) (x2 : Int32) (x3 : Int32) (x4 : Int32) (x5 : Int32) (C : St) : Option (Int32 × St) := gd (inb x1 6) (gd (inb x4 192) (st (up C 138 0 0 x4.toNatClampNeg (C 119 0 0 x1.toNatClampNeg)) (fun D3 => gd (inb x3 12) (st (up D3 142 0 0 x3.toNatClampNeg (1 : Int32)) (fun D6 => F_X12_withWord_59 x1 x2 x5 D6)))))
set_option maxHeartbeats 4000000 in
set_option maxRecDepth 100000 in
theorem B_X12_withWord_39 {p : Program} {l : Launch} {e : Env} {s : State} {m : MethodId} {args : Array Value} {below : List Frame} {meth : Method} {c : Code} {g : GP} {Z : St} (hC : CX p s m args c cX12_withWord RX12 g) (hE : EZ g s s.heap) (hml : c.maxLocals = 6) (hr : meth.sig.returnType = none) (hlk : meth.locks = false) {r : Int32} {C2 : St} {x1 : Int32} {x2 : Int32} {x3 : Int32} {x4 : Int32} {x5 : Int32} {C : St} (h : F_X12_withWord_39  x1 x2 x3 x4 x5 C = some (r, C2)) {ed : Nat → Nat} {H : Heap} {locs : List Loc} {ls : Array Slot} (hH : HW g ed Z C H) (hS : va_S (gP g) s.heap H locs) (hl : lv_has ls 6 [(0, .ref (gA g 50 0)), (1, .int x1), (2, .int x2), (3, .int x3), (4, .int x4), (5, .int x5)]) : W p l e ({ frames := 2, cells := 0, slots := 0, locals := 43 } : Room) s m args below meth c H locs 0 0 (MQ below (QG none g Z C2) args s 0 0 (gP g)) (F0 m 39 ls []) := by
  unfold F_X12_withWord_39 at h
  refine lv_aload_n hC.1 hC.2.1 dX12_withWord_39 rfl (lv_at hl 0 rfl) ?_
  refine gf_RX12_101 hC hH rfl dX12_withWord_40 ?_
  refine lv_iload hC.1 hC.2.1 dX12_withWord_43 (lv_at hl 4 rfl) ?_
  refine lv_aload_n hC.1 hC.2.1 dX12_withWord_45 rfl (lv_at hl 0 rfl) ?_
  refine gf_RX12_47 hC hH rfl dX12_withWord_46 ?_
  refine lv_iload_n hC.1 hC.2.1 dX12_withWord_49 rfl (lv_at hl 1 rfl) ?_
  obtain ⟨hg1, h⟩ := gd_some h
  refine al_119 hC hH hg1 rfl dX12_withWord_50 ?_
  obtain ⟨hg2, h⟩ := gd_some h
  obtain ⟨D3, e4, h⟩ := st_some h
  refine as_138 hC hH hS hg2 rfl dX12_withWord_51 (fun H locs hH hS => ?_)
  rw [← e4] at hH
  refine lv_aload_n hC.1 hC.2.1 dX12_withWord_52 rfl (lv_at hl 0 rfl) ?_
  refine gf_RX12_113 hC hH rfl dX12_withWord_53 ?_
  refine lv_iload_n hC.1 hC.2.1 dX12_withWord_56 rfl (lv_at hl 3 rfl) ?_
  refine lv_iconst (v := (1 : Int32)) hC.1 hC.2.1 dX12_withWord_57 (by decide) ?_
  obtain ⟨hg5, h⟩ := gd_some h
  obtain ⟨D6, e7, h⟩ := st_some h
  refine as_142 hC hH hS hg5 (by decide) rfl dX12_withWord_58 (fun H locs hH hS => ?_)
  rw [← e7] at hH
  exact B_X12_withWord_59 hC hE hml hr hlk h hH hS (lv_sub hl [0, 1, 2, 5] rfl)
def F_X12_withWord_28  (x1 : Int32) (x2 : Int32) (x3 : Int32) (x4 : Int32) (x5 : Int32) (C : St) : Option (Int32 × St) := if x2 = (2 : Int32) then (F_X12_withWord_39 x1 x2 x3 x4 x5 C) else (if x2 = (12 : Int32) then (F_X12_withWord_39 x1 x2 x3 x4 x5 C) else (F_X12_withWord_59 x1 x2 x5 C))
set_option maxHeartbeats 4000000 in
set_option maxRecDepth 100000 in
theorem B_X12_withWord_28 {p : Program} {l : Launch} {e : Env} {s : State} {m : MethodId} {args : Array Value} {below : List Frame} {meth : Method} {c : Code} {g : GP} {Z : St} (hC : CX p s m args c cX12_withWord RX12 g) (hE : EZ g s s.heap) (hml : c.maxLocals = 6) (hr : meth.sig.returnType = none) (hlk : meth.locks = false) {r : Int32} {C2 : St} {x1 : Int32} {x2 : Int32} {x3 : Int32} {x4 : Int32} {x5 : Int32} {C : St} (h : F_X12_withWord_28  x1 x2 x3 x4 x5 C = some (r, C2)) {ed : Nat → Nat} {H : Heap} {locs : List Loc} {ls : Array Slot} (hH : HW g ed Z C H) (hS : va_S (gP g) s.heap H locs) (hl : lv_has ls 6 [(0, .ref (gA g 50 0)), (1, .int x1), (2, .int x2), (3, .int x3), (4, .int x4), (5, .int x5)]) : W p l e ({ frames := 2, cells := 0, slots := 0, locals := 43 } : Room) s m args below meth c H locs 0 0 (MQ below (QG none g Z C2) args s 0 0 (gP g)) (F0 m 28 ls []) := by
  unfold F_X12_withWord_28 at h
  refine lv_iload_n hC.1 hC.2.1 dX12_withWord_28 rfl (lv_at hl 2 rfl) ?_
  refine lv_iconst (v := (2 : Int32)) hC.1 hC.2.1 dX12_withWord_29 (by decide) ?_
  refine lv_icmp_eq (tgt := 39) hC.1 hC.2.1 dX12_withWord_30 (by decide) (fun hc1 => ?_) (fun hc1 => ?_)
  · rw [if_pos hc1] at h
    exact B_X12_withWord_39 hC hE hml hr hlk h hH hS (lv_sub hl [0, 1, 2, 3, 4, 5] rfl)
  · rw [if_neg hc1] at h
    refine lv_iload_n hC.1 hC.2.1 dX12_withWord_33 rfl (lv_at hl 2 rfl) ?_
    refine lv_bipush (v := (12 : Int32)) hC.1 hC.2.1 dX12_withWord_34 (by decide) ?_
    refine lv_icmp_ne (tgt := 59) hC.1 hC.2.1 dX12_withWord_36 (by decide) (fun hc2 => ?_) (fun hc2 => ?_)
    · rw [if_neg hc2] at h
      exact B_X12_withWord_59 hC hE hml hr hlk h hH hS (lv_sub hl [0, 1, 2, 5] rfl)
    · rw [if_pos hc2] at h
      exact B_X12_withWord_39 hC hE hml hr hlk h hH hS (lv_sub hl [0, 1, 2, 3, 4, 5] rfl)
def F_X12_withWord (x1 : Int32) (x2 : Int32) (x3 : Int32) (x4 : Int32) (C : St) : Option (Int32 × St) := gd (inb x4 192) (if x2 = (6 : Int32) then (if (C 138 0 0 x4.toNatClampNeg) = 0 then (gd (inb x1 6) (st (up C 116 0 0 x1.toNatClampNeg (4 : Int32)) (fun D5 => some (0, D5)))) else (F_X12_withWord_28 x1 x2 x3 x4 (C 138 0 0 x4.toNatClampNeg) C)) else (F_X12_withWord_28 x1 x2 x3 x4 (C 138 0 0 x4.toNatClampNeg) C))
set_option maxHeartbeats 4000000 in
set_option maxRecDepth 100000 in
theorem c_X12_withWord {l : Launch} {g : GP} {ed : Nat → Nat} {Z : St} {x1 : Int32} {x2 : Int32} {x3 : Int32} {x4 : Int32} {C : St} {r : Int32} {C2 : St} (h : F_X12_withWord x1 x2 x3 x4 C = some (r, C2)) : Met l yX12_withWord (Cond.code yX12_withWord cX12_withWord 6 none :: lwG) ({ frames := 2, cells := 0, slots := 0, locals := 43 } : Room) (va_Pc [.ref (gA g 50 0), .int x1, .int x2, .int x3, .int x4] (PW g Z C ed)) (QG none g Z C2) 0 0 (gP g) := by
  refine Met.ofW (cc := cX12_withWord) (maxL := 6) (ret := none) (by decide +kernel) rfl ?_
  intro p e s m args below meth c s₁ B hml hv
  obtain ⟨ha, hC, hE, hr, hlk, hH⟩ := g_start B hv
  subst ha
  have hC : CX p s m ([.ref (gA g 50 0), .int x1, .int x2, .int x3, .int x4] : List Value).toArray c cX12_withWord RX12 g := hC
  have hS : va_S (gP g) s.heap s.heap [] := va_S.rf
  obtain ⟨ls, he, hl⟩ := g_entry m (vs := [.ref (gA g 50 0), .int x1, .int x2, .int x3, .int x4]) (n := 6) (List.forall_mem_cons.mpr ⟨rfl, (List.forall_mem_cons.mpr ⟨rfl, (List.forall_mem_cons.mpr ⟨rfl, (List.forall_mem_cons.mpr ⟨rfl, (List.forall_mem_cons.mpr ⟨rfl, (fun _ h => absurd h List.not_mem_nil)⟩)⟩)⟩)⟩)⟩) (Nat.le_of_ble_eq_true rfl)
  rw [he]
  have hl : lv_has ls 6 [(0, .ref (gA g 50 0)), (1, .int x1), (2, .int x2), (3, .int x3), (4, .int x4)] := hl
  unfold F_X12_withWord at h
  refine lv_aload_n hC.1 hC.2.1 dX12_withWord_0 rfl (lv_at hl 0 rfl) ?_
  refine gf_RX12_101 hC hH rfl dX12_withWord_1 ?_
  refine lv_iload hC.1 hC.2.1 dX12_withWord_4 (lv_at hl 4 rfl) ?_
  obtain ⟨hg1, h⟩ := gd_some h
  refine al_138 hC hH hg1 rfl dX12_withWord_6 ?_
  refine lv_istore (lv' := [(5, .int (C 138 0 0 x4.toNatClampNeg)), (0, .ref (gA g 50 0)), (1, .int x1), (2, .int x2), (3, .int x3), (4, .int x4)]) hC.1 hC.2.1 dX12_withWord_7 hl (by decide) rfl (fun ls hl => ?_)
  refine lv_iload_n hC.1 hC.2.1 dX12_withWord_9 rfl (lv_at hl 3 rfl) ?_
  refine lv_bipush (v := (6 : Int32)) hC.1 hC.2.1 dX12_withWord_10 (by decide) ?_
  refine lv_icmp_ne (tgt := 28) hC.1 hC.2.1 dX12_withWord_12 (by decide) (fun hc2 => ?_) (fun hc2 => ?_)
  · rw [if_neg hc2] at h
    exact B_X12_withWord_28 hC hE hml hr hlk h hH hS (lv_sub hl [1, 2, 3, 4, 5, 0] rfl)
  · rw [if_pos hc2] at h
    refine lv_iload hC.1 hC.2.1 dX12_withWord_15 (lv_at hl 0 rfl) ?_
    refine lv_if_ne (tgt := 28) hC.1 hC.2.1 dX12_withWord_17 (by decide) (fun hc3 => ?_) (fun hc3 => ?_)
    · rw [if_neg hc3] at h
      exact B_X12_withWord_28 hC hE hml hr hlk h hH hS (lv_sub hl [1, 2, 3, 4, 5, 0] rfl)
    · rw [if_pos hc3] at h
      refine lv_aload_n hC.1 hC.2.1 dX12_withWord_20 rfl (lv_at hl 1 rfl) ?_
      refine gf_RX12_38 hC hH rfl dX12_withWord_21 ?_
      refine lv_iload_n hC.1 hC.2.1 dX12_withWord_24 rfl (lv_at hl 2 rfl) ?_
      refine lv_iconst (v := (4 : Int32)) hC.1 hC.2.1 dX12_withWord_25 (by decide) ?_
      obtain ⟨hg4, h⟩ := gd_some h
      obtain ⟨D5, e6, h⟩ := st_some h
      refine as_116 hC hH hS hg4 rfl dX12_withWord_26 (fun H locs hH hS => ?_)
      rw [← e6] at hH
      cases h
      exact gret_v hC hr hlk hH hS (Nat.le_of_ble_eq_true rfl) (Nat.le_of_ble_eq_true rfl) dX12_withWord_27
def F_X12_read_26  (x1 : Int32) (C : St) : Option (Int32 × St) := gd (inb x1 6) (st (up C 116 0 0 x1.toNatClampNeg (4 : Int32)) (fun D2 => some (0, D2)))
set_option maxHeartbeats 4000000 in
set_option maxRecDepth 100000 in
theorem B_X12_read_26 {p : Program} {l : Launch} {e : Env} {s : State} {m : MethodId} {args : Array Value} {below : List Frame} {meth : Method} {c : Code} {g : GP} {Z : St} (hC : CX p s m args c cX12_read RX12 g) (hE : EZ g s s.heap) (hml : c.maxLocals = 2) (hr : meth.sig.returnType = none) (hlk : meth.locks = false) {r : Int32} {C2 : St} {x1 : Int32} {C : St} (h : F_X12_read_26  x1 C = some (r, C2)) {ed : Nat → Nat} {H : Heap} {locs : List Loc} {ls : Array Slot} (hH : HW g ed Z C H) (hS : va_S (gP g) s.heap H locs) (hl : lv_has ls 2 [(0, .ref (gA g 50 0)), (1, .int x1)]) : W p l e ({ frames := 2, cells := 0, slots := 0, locals := 44 } : Room) s m args below meth c H locs 0 0 (MQ below (QG none g Z C2) args s 0 0 (gP g)) (F0 m 26 ls []) := by
  unfold F_X12_read_26 at h
  refine lv_aload_n hC.1 hC.2.1 dX12_read_26 rfl (lv_at hl 0 rfl) ?_
  refine gf_RX12_38 hC hH rfl dX12_read_27 ?_
  refine lv_iload_n hC.1 hC.2.1 dX12_read_30 rfl (lv_at hl 1 rfl) ?_
  refine lv_iconst (v := (4 : Int32)) hC.1 hC.2.1 dX12_read_31 (by decide) ?_
  obtain ⟨hg1, h⟩ := gd_some h
  obtain ⟨D2, e3, h⟩ := st_some h
  refine as_116 hC hH hS hg1 rfl dX12_read_32 (fun H locs hH hS => ?_)
  rw [← e3] at hH
  cases h
  exact gret_v hC hr hlk hH hS (Nat.le_of_ble_eq_true rfl) (Nat.le_of_ble_eq_true rfl) dX12_read_33
def F_X12_read (x1 : Int32) (C : St) : Option (Int32 × St) := gd (inb ((3 : Int32) * x1) 18) (if (C 127 0 0 ((3 : Int32) * x1).toNatClampNeg) = 0 then (F_X12_read_26 x1 C) else (gd (inb x1 6) (if (C 132 0 0 x1.toNatClampNeg) = (C 131 0 0 x1.toNatClampNeg) then (F_X12_read_26 x1 C) else (gd (inb (C 50 0 61 0) 6) (st (up C 158 0 0 (C 50 0 61 0).toNatClampNeg x1) (fun D6 => st (up D6 50 0 61 0 ((D6 50 0 61 0) + (1 : Int32))) (fun D8 => bd2 (F_X12_pause x1 (2 : Int32) D8) (fun r10 D11 => bd2 (F_X12_raise (2 : Int32) D11) (fun r13 D14 => some (0, D14))))))))))
set_option maxHeartbeats 4000000 in
set_option maxRecDepth 100000 in
theorem c_X12_read {l : Launch} {g : GP} {ed : Nat → Nat} {Z : St} {x1 : Int32} {C : St} {r : Int32} {C2 : St} (h : F_X12_read x1 C = some (r, C2)) : Met l yX12_read (Cond.code yX12_read cX12_read 2 none :: lwG) ({ frames := 2, cells := 0, slots := 0, locals := 44 } : Room) (va_Pc [.ref (gA g 50 0), .int x1] (PW g Z C ed)) (QG none g Z C2) 0 0 (gP g) := by
  refine Met.ofW (cc := cX12_read) (maxL := 2) (ret := none) (by decide +kernel) rfl ?_
  intro p e s m args below meth c s₁ B hml hv
  obtain ⟨ha, hC, hE, hr, hlk, hH⟩ := g_start B hv
  subst ha
  have hC : CX p s m ([.ref (gA g 50 0), .int x1] : List Value).toArray c cX12_read RX12 g := hC
  have hS : va_S (gP g) s.heap s.heap [] := va_S.rf
  obtain ⟨ls, he, hl⟩ := g_entry m (vs := [.ref (gA g 50 0), .int x1]) (n := 2) (List.forall_mem_cons.mpr ⟨rfl, (List.forall_mem_cons.mpr ⟨rfl, (fun _ h => absurd h List.not_mem_nil)⟩)⟩) (Nat.le_of_ble_eq_true rfl)
  rw [he]
  have hl : lv_has ls 2 [(0, .ref (gA g 50 0)), (1, .int x1)] := hl
  unfold F_X12_read at h
  refine lv_aload_n hC.1 hC.2.1 dX12_read_0 rfl (lv_at hl 0 rfl) ?_
  refine gf_RX12_68 hC hH rfl dX12_read_1 ?_
  refine lv_iconst (v := (3 : Int32)) hC.1 hC.2.1 dX12_read_4 (by decide) ?_
  refine lv_iload_n hC.1 hC.2.1 dX12_read_5 rfl (lv_at hl 1 rfl) ?_
  refine lv_imul hC.1 hC.2.1 dX12_read_6 ?_
  obtain ⟨hg1, h⟩ := gd_some h
  refine al_127 hC hH hg1 rfl dX12_read_7 ?_
  refine lv_if_eq (tgt := 26) hC.1 hC.2.1 dX12_read_8 (by decide) (fun hc2 => ?_) (fun hc2 => ?_)
  · rw [if_pos hc2] at h
    exact B_X12_read_26 hC hE hml hr hlk h hH hS (lv_sub hl [0, 1] rfl)
  · rw [if_neg hc2] at h
    refine lv_aload_n hC.1 hC.2.1 dX12_read_11 rfl (lv_at hl 0 rfl) ?_
    refine gf_RX12_83 hC hH rfl dX12_read_12 ?_
    refine lv_iload_n hC.1 hC.2.1 dX12_read_15 rfl (lv_at hl 1 rfl) ?_
    obtain ⟨hg3, h⟩ := gd_some h
    refine al_132 hC hH hg3 rfl dX12_read_16 ?_
    refine lv_aload_n hC.1 hC.2.1 dX12_read_17 rfl (lv_at hl 0 rfl) ?_
    refine gf_RX12_80 hC hH rfl dX12_read_18 ?_
    refine lv_iload_n hC.1 hC.2.1 dX12_read_21 rfl (lv_at hl 1 rfl) ?_
    refine al_131 hC hH hg3 rfl dX12_read_22 ?_
    refine lv_icmp_ne (tgt := 34) hC.1 hC.2.1 dX12_read_23 (by decide) (fun hc4 => ?_) (fun hc4 => ?_)
    · rw [if_neg hc4] at h
      refine lv_aload_n hC.1 hC.2.1 dX12_read_34 rfl (lv_at hl 0 rfl) ?_
      refine gf_RX12_125 hC hH rfl dX12_read_35 ?_
      refine lv_aload_n hC.1 hC.2.1 dX12_read_38 rfl (lv_at hl 0 rfl) ?_
      refine gf_RX12_300 hC hH rfl dX12_read_39 ?_
      refine lv_iload_n hC.1 hC.2.1 dX12_read_42 rfl (lv_at hl 1 rfl) ?_
      obtain ⟨hg5, h⟩ := gd_some h
      obtain ⟨D6, e7, h⟩ := st_some h
      refine as_158 hC hH hS hg5 rfl dX12_read_43 (fun H locs hH hS => ?_)
      rw [← e7] at hH
      refine lv_aload_n hC.1 hC.2.1 dX12_read_44 rfl (lv_at hl 0 rfl) ?_
      refine lv_dup hC.1 hC.2.1 dX12_read_45 rfl ?_
      refine gf_RX12_300 hC hH rfl dX12_read_46 ?_
      refine lv_iconst (v := (1 : Int32)) hC.1 hC.2.1 dX12_read_49 (by decide) ?_
      refine lv_iadd hC.1 hC.2.1 dX12_read_50 ?_
      obtain ⟨D8, e9, h⟩ := st_some h
      refine pf_RX12_300 hC hH hS  rfl dX12_read_51 (fun H locs hH hS => ?_)
      rw [← e9] at hH
      refine lv_aload_n hC.1 hC.2.1 dX12_read_54 rfl (lv_at hl 0 rfl) ?_
      refine lv_iload_n hC.1 hC.2.1 dX12_read_55 rfl (lv_at hl 1 rfl) ?_
      refine lv_iconst (v := (2 : Int32)) hC.1 hC.2.1 dX12_read_56 (by decide) ?_
      obtain ⟨r10, D11, hF12, h⟩ := bd2_some h
      refine gcallV (As := [.int x1, .int (2 : Int32)]) (rest := []) (Cn := RX12) hC hE hml hH hS (c_X12_pause hF12) ⟨wd_1360, wd_1362, wp_36, wd_17, wd_1363⟩ hd_X12_pause rfl rfl ⟨Nat.le_of_ble_eq_true rfl, Nat.le_of_ble_eq_true rfl⟩ rfl (hw_recv (q := 50) (i := 0) hC hH ⟨Nat.zero_lt_one, fun h => absurd h (by decide)⟩ rfl rfl) rfl hl.1 rfl (Nat.le_of_ble_eq_true rfl) dX12_read_57 ⟨Nat.le_of_ble_eq_true rfl, Nat.le_of_ble_eq_true rfl⟩ (fun ed H locs hH hS => ?_)
      refine W.eq (g2 := F0 m 60 ls []) rfl ?_
      refine lv_aload_n hC.1 hC.2.1 dX12_read_60 rfl (lv_at hl 0 rfl) ?_
      refine lv_iconst (v := (2 : Int32)) hC.1 hC.2.1 dX12_read_61 (by decide) ?_
      obtain ⟨r13, D14, hF15, h⟩ := bd2_some h
      refine gcallV (As := [.int (2 : Int32)]) (rest := []) (Cn := RX12) hC hE hml hH hS (c_X12_raise hF15) ⟨wd_1416, wd_1418, wp_50, wd_17, wd_1419⟩ hd_X12_raise rfl rfl ⟨Nat.le_of_ble_eq_true rfl, Nat.le_of_ble_eq_true rfl⟩ rfl (hw_recv (q := 50) (i := 0) hC hH ⟨Nat.zero_lt_one, fun h => absurd h (by decide)⟩ rfl rfl) rfl hl.1 rfl (Nat.le_of_ble_eq_true rfl) dX12_read_62 ⟨Nat.le_of_ble_eq_true rfl, Nat.le_of_ble_eq_true rfl⟩ (fun ed H locs hH hS => ?_)
      refine W.eq (g2 := F0 m 65 ls []) rfl ?_
      cases h
      exact gret_v hC hr hlk hH hS (Nat.le_of_ble_eq_true rfl) (Nat.le_of_ble_eq_true rfl) dX12_read_65
    · rw [if_pos hc4] at h
      exact B_X12_read_26 hC hE hml hr hlk h hH hS (lv_sub hl [0, 1] rfl)
def F_X12_print_108   (C : St) : Option (Int32 × St) := some (0, C)
set_option maxHeartbeats 4000000 in
set_option maxRecDepth 100000 in
theorem B_X12_print_108 {p : Program} {l : Launch} {e : Env} {s : State} {m : MethodId} {args : Array Value} {below : List Frame} {meth : Method} {c : Code} {g : GP} {Z : St} (hC : CX p s m args c cX12_print RX12 g) (hE : EZ g s s.heap) (hml : c.maxLocals = 2) (hr : meth.sig.returnType = none) (hlk : meth.locks = false) {r : Int32} {C2 : St}  {C : St} (h : F_X12_print_108   C = some (r, C2)) {ed : Nat → Nat} {H : Heap} {locs : List Loc} {ls : Array Slot} (hH : HW g ed Z C H) (hS : va_S (gP g) s.heap H locs) (hl : lv_has ls 2 []) : W p l e ({ frames := 2, cells := 0, slots := 0, locals := 44 } : Room) s m args below meth c H locs 0 0 (MQ below (QG none g Z C2) args s 0 0 (gP g)) (F0 m 108 ls []) := by
  unfold F_X12_print_108 at h
  cases h
  exact gret_v hC hr hlk hH hS (Nat.le_of_ble_eq_true rfl) (Nat.le_of_ble_eq_true rfl) dX12_print_108
def F_X12_print_26  (x1 : Int32) (C : St) : Option (Int32 × St) := gd (inb x1 6) (st (up C 116 0 0 x1.toNatClampNeg (4 : Int32)) (fun D2 => F_X12_print_108  D2))
set_option maxHeartbeats 4000000 in
set_option maxRecDepth 100000 in
theorem B_X12_print_26 {p : Program} {l : Launch} {e : Env} {s : State} {m : MethodId} {args : Array Value} {below : List Frame} {meth : Method} {c : Code} {g : GP} {Z : St} (hC : CX p s m args c cX12_print RX12 g) (hE : EZ g s s.heap) (hml : c.maxLocals = 2) (hr : meth.sig.returnType = none) (hlk : meth.locks = false) {r : Int32} {C2 : St} {x1 : Int32} {C : St} (h : F_X12_print_26  x1 C = some (r, C2)) {ed : Nat → Nat} {H : Heap} {locs : List Loc} {ls : Array Slot} (hH : HW g ed Z C H) (hS : va_S (gP g) s.heap H locs) (hl : lv_has ls 2 [(0, .ref (gA g 50 0)), (1, .int x1)]) : W p l e ({ frames := 2, cells := 0, slots := 0, locals := 44 } : Room) s m args below meth c H locs 0 0 (MQ below (QG none g Z C2) args s 0 0 (gP g)) (F0 m 26 ls []) := by
  unfold F_X12_print_26 at h
  refine lv_aload_n hC.1 hC.2.1 dX12_print_26 rfl (lv_at hl 0 rfl) ?_
  refine gf_RX12_38 hC hH rfl dX12_print_27 ?_
  refine lv_iload_n hC.1 hC.2.1 dX12_print_30 rfl (lv_at hl 1 rfl) ?_
  refine lv_iconst (v := (4 : Int32)) hC.1 hC.2.1 dX12_print_31 (by decide) ?_
  obtain ⟨hg1, h⟩ := gd_some h
  obtain ⟨D2, e3, h⟩ := st_some h
  refine as_116 hC hH hS hg1 rfl dX12_print_32 (fun H locs hH hS => ?_)
  rw [← e3] at hH
  refine lv_goto (tgt := 108) hC.1 hC.2.1 dX12_print_33 (by decide) ?_
  exact B_X12_print_108 hC hE hml hr hlk h hH hS (lv_sub hl [] rfl)
def F_X12_print (x1 : Int32) (C : St) : Option (Int32 × St) := gd (inb (((3 : Int32) * x1) + (1 : Int32)) 18) (if (C 127 0 0 (((3 : Int32) * x1) + (1 : Int32)).toNatClampNeg) = 0 then (F_X12_print_26 x1 C) else (gd (inb (((3 : Int32) * x1) + (2 : Int32)) 18) (if (C 127 0 0 (((3 : Int32) * x1) + (2 : Int32)).toNatClampNeg) = 0 then (F_X12_print_26 x1 C) else (gd (inb x1 6) (if (C 134 0 0 x1.toNatClampNeg) < ((4 : Int32) * (C 127 0 0 (((3 : Int32) * x1) + (2 : Int32)).toNatClampNeg)) then (gd (inb (((24 : Int32) * x1) + (C 134 0 0 x1.toNatClampNeg)) 144) (st (up C 133 0 0 (((24 : Int32) * x1) + (C 134 0 0 x1.toNatClampNeg)).toNatClampNeg (C 119 0 0 x1.toNatClampNeg)) (fun D8 => st (up D8 134 0 0 x1.toNatClampNeg ((D8 134 0 0 x1.toNatClampNeg) + (1 : Int32))) (fun D10 => bd2 (F_X12_raise (4 : Int32) D10) (fun r12 D13 => bd2 (F_X12_finish x1 D13) (fun r15 D16 => F_X12_print_108  D16)))))) else (bd2 (F_X12_pause x1 (3 : Int32) C) (fun r18 D19 => F_X12_print_108  D19)))))))
set_option maxHeartbeats 4000000 in
set_option maxRecDepth 100000 in
theorem c_X12_print {l : Launch} {g : GP} {ed : Nat → Nat} {Z : St} {x1 : Int32} {C : St} {r : Int32} {C2 : St} (h : F_X12_print x1 C = some (r, C2)) : Met l yX12_print (Cond.code yX12_print cX12_print 2 none :: lwG) ({ frames := 2, cells := 0, slots := 0, locals := 44 } : Room) (va_Pc [.ref (gA g 50 0), .int x1] (PW g Z C ed)) (QG none g Z C2) 0 0 (gP g) := by
  refine Met.ofW (cc := cX12_print) (maxL := 2) (ret := none) (by decide +kernel) rfl ?_
  intro p e s m args below meth c s₁ B hml hv
  obtain ⟨ha, hC, hE, hr, hlk, hH⟩ := g_start B hv
  subst ha
  have hC : CX p s m ([.ref (gA g 50 0), .int x1] : List Value).toArray c cX12_print RX12 g := hC
  have hS : va_S (gP g) s.heap s.heap [] := va_S.rf
  obtain ⟨ls, he, hl⟩ := g_entry m (vs := [.ref (gA g 50 0), .int x1]) (n := 2) (List.forall_mem_cons.mpr ⟨rfl, (List.forall_mem_cons.mpr ⟨rfl, (fun _ h => absurd h List.not_mem_nil)⟩)⟩) (Nat.le_of_ble_eq_true rfl)
  rw [he]
  have hl : lv_has ls 2 [(0, .ref (gA g 50 0)), (1, .int x1)] := hl
  unfold F_X12_print at h
  refine lv_aload_n hC.1 hC.2.1 dX12_print_0 rfl (lv_at hl 0 rfl) ?_
  refine gf_RX12_68 hC hH rfl dX12_print_1 ?_
  refine lv_iconst (v := (3 : Int32)) hC.1 hC.2.1 dX12_print_4 (by decide) ?_
  refine lv_iload_n hC.1 hC.2.1 dX12_print_5 rfl (lv_at hl 1 rfl) ?_
  refine lv_imul hC.1 hC.2.1 dX12_print_6 ?_
  refine lv_iconst (v := (1 : Int32)) hC.1 hC.2.1 dX12_print_7 (by decide) ?_
  refine lv_iadd hC.1 hC.2.1 dX12_print_8 ?_
  obtain ⟨hg1, h⟩ := gd_some h
  refine al_127 hC hH hg1 rfl dX12_print_9 ?_
  refine lv_if_eq (tgt := 26) hC.1 hC.2.1 dX12_print_10 (by decide) (fun hc2 => ?_) (fun hc2 => ?_)
  · rw [if_pos hc2] at h
    exact B_X12_print_26 hC hE hml hr hlk h hH hS (lv_sub hl [0, 1] rfl)
  · rw [if_neg hc2] at h
    refine lv_aload_n hC.1 hC.2.1 dX12_print_13 rfl (lv_at hl 0 rfl) ?_
    refine gf_RX12_68 hC hH rfl dX12_print_14 ?_
    refine lv_iconst (v := (3 : Int32)) hC.1 hC.2.1 dX12_print_17 (by decide) ?_
    refine lv_iload_n hC.1 hC.2.1 dX12_print_18 rfl (lv_at hl 1 rfl) ?_
    refine lv_imul hC.1 hC.2.1 dX12_print_19 ?_
    refine lv_iconst (v := (2 : Int32)) hC.1 hC.2.1 dX12_print_20 (by decide) ?_
    refine lv_iadd hC.1 hC.2.1 dX12_print_21 ?_
    obtain ⟨hg3, h⟩ := gd_some h
    refine al_127 hC hH hg3 rfl dX12_print_22 ?_
    refine lv_if_ne (tgt := 36) hC.1 hC.2.1 dX12_print_23 (by decide) (fun hc4 => ?_) (fun hc4 => ?_)
    · rw [if_neg hc4] at h
      refine lv_aload_n hC.1 hC.2.1 dX12_print_36 rfl (lv_at hl 0 rfl) ?_
      refine gf_RX12_89 hC hH rfl dX12_print_37 ?_
      refine lv_iload_n hC.1 hC.2.1 dX12_print_40 rfl (lv_at hl 1 rfl) ?_
      obtain ⟨hg5, h⟩ := gd_some h
      refine al_134 hC hH hg5 rfl dX12_print_41 ?_
      refine lv_iconst (v := (4 : Int32)) hC.1 hC.2.1 dX12_print_42 (by decide) ?_
      refine lv_aload_n hC.1 hC.2.1 dX12_print_43 rfl (lv_at hl 0 rfl) ?_
      refine gf_RX12_68 hC hH rfl dX12_print_44 ?_
      refine lv_iconst (v := (3 : Int32)) hC.1 hC.2.1 dX12_print_47 (by decide) ?_
      refine lv_iload_n hC.1 hC.2.1 dX12_print_48 rfl (lv_at hl 1 rfl) ?_
      refine lv_imul hC.1 hC.2.1 dX12_print_49 ?_
      refine lv_iconst (v := (2 : Int32)) hC.1 hC.2.1 dX12_print_50 (by decide) ?_
      refine lv_iadd hC.1 hC.2.1 dX12_print_51 ?_
      refine al_127 hC hH hg3 rfl dX12_print_52 ?_
      refine lv_imul hC.1 hC.2.1 dX12_print_53 ?_
      refine lv_icmp_lt (tgt := 66) hC.1 hC.2.1 dX12_print_54 (by decide) (fun hc6 => ?_) (fun hc6 => ?_)
      · rw [if_pos hc6] at h
        refine lv_aload_n hC.1 hC.2.1 dX12_print_66 rfl (lv_at hl 0 rfl) ?_
        refine gf_RX12_86 hC hH rfl dX12_print_67 ?_
        refine lv_bipush (v := (24 : Int32)) hC.1 hC.2.1 dX12_print_70 (by decide) ?_
        refine lv_iload_n hC.1 hC.2.1 dX12_print_72 rfl (lv_at hl 1 rfl) ?_
        refine lv_imul hC.1 hC.2.1 dX12_print_73 ?_
        refine lv_aload_n hC.1 hC.2.1 dX12_print_74 rfl (lv_at hl 0 rfl) ?_
        refine gf_RX12_89 hC hH rfl dX12_print_75 ?_
        refine lv_iload_n hC.1 hC.2.1 dX12_print_78 rfl (lv_at hl 1 rfl) ?_
        refine al_134 hC hH hg5 rfl dX12_print_79 ?_
        refine lv_iadd hC.1 hC.2.1 dX12_print_80 ?_
        refine lv_aload_n hC.1 hC.2.1 dX12_print_81 rfl (lv_at hl 0 rfl) ?_
        refine gf_RX12_47 hC hH rfl dX12_print_82 ?_
        refine lv_iload_n hC.1 hC.2.1 dX12_print_85 rfl (lv_at hl 1 rfl) ?_
        refine al_119 hC hH hg5 rfl dX12_print_86 ?_
        obtain ⟨hg7, h⟩ := gd_some h
        obtain ⟨D8, e9, h⟩ := st_some h
        refine as_133 hC hH hS hg7 rfl dX12_print_87 (fun H locs hH hS => ?_)
        rw [← e9] at hH
        refine lv_aload_n hC.1 hC.2.1 dX12_print_88 rfl (lv_at hl 0 rfl) ?_
        refine gf_RX12_89 hC hH rfl dX12_print_89 ?_
        refine lv_iload_n hC.1 hC.2.1 dX12_print_92 rfl (lv_at hl 1 rfl) ?_
        refine lv_dup2_11 hC.1 hC.2.1 dX12_print_93 rfl rfl ?_
        refine al_134 hC hH hg5 rfl dX12_print_94 ?_
        refine lv_iconst (v := (1 : Int32)) hC.1 hC.2.1 dX12_print_95 (by decide) ?_
        refine lv_iadd hC.1 hC.2.1 dX12_print_96 ?_
        obtain ⟨D10, e11, h⟩ := st_some h
        refine as_134 hC hH hS hg5 rfl dX12_print_97 (fun H locs hH hS => ?_)
        rw [← e11] at hH
        refine lv_aload_n hC.1 hC.2.1 dX12_print_98 rfl (lv_at hl 0 rfl) ?_
        refine lv_iconst (v := (4 : Int32)) hC.1 hC.2.1 dX12_print_99 (by decide) ?_
        obtain ⟨r12, D13, hF14, h⟩ := bd2_some h
        refine gcallV (As := [.int (4 : Int32)]) (rest := []) (Cn := RX12) hC hE hml hH hS (c_X12_raise hF14) ⟨wd_1416, wd_1418, wp_50, wd_17, wd_1419⟩ hd_X12_raise rfl rfl ⟨Nat.le_of_ble_eq_true rfl, Nat.le_of_ble_eq_true rfl⟩ rfl (hw_recv (q := 50) (i := 0) hC hH ⟨Nat.zero_lt_one, fun h => absurd h (by decide)⟩ rfl rfl) rfl hl.1 rfl (Nat.le_of_ble_eq_true rfl) dX12_print_100 ⟨Nat.le_of_ble_eq_true rfl, Nat.le_of_ble_eq_true rfl⟩ (fun ed H locs hH hS => ?_)
        refine W.eq (g2 := F0 m 103 ls []) rfl ?_
        refine lv_aload_n hC.1 hC.2.1 dX12_print_103 rfl (lv_at hl 0 rfl) ?_
        refine lv_iload_n hC.1 hC.2.1 dX12_print_104 rfl (lv_at hl 1 rfl) ?_
        obtain ⟨r15, D16, hF17, h⟩ := bd2_some h
        refine gcallV (As := [.int x1]) (rest := []) (Cn := RX12) hC hE hml hH hS (c_X12_finish hF17) ⟨wd_1392, wd_1394, wp_44, wd_17, wd_1395⟩ hd_X12_finish rfl rfl ⟨Nat.le_of_ble_eq_true rfl, Nat.le_of_ble_eq_true rfl⟩ rfl (hw_recv (q := 50) (i := 0) hC hH ⟨Nat.zero_lt_one, fun h => absurd h (by decide)⟩ rfl rfl) rfl hl.1 rfl (Nat.le_of_ble_eq_true rfl) dX12_print_105 ⟨Nat.le_of_ble_eq_true rfl, Nat.le_of_ble_eq_true rfl⟩ (fun ed H locs hH hS => ?_)
        refine W.eq (g2 := F0 m 108 ls []) rfl ?_
        exact B_X12_print_108 hC hE hml hr hlk h hH hS (lv_sub hl [] rfl)
      · rw [if_neg hc6] at h
        refine lv_aload_n hC.1 hC.2.1 dX12_print_57 rfl (lv_at hl 0 rfl) ?_
        refine lv_iload_n hC.1 hC.2.1 dX12_print_58 rfl (lv_at hl 1 rfl) ?_
        refine lv_iconst (v := (3 : Int32)) hC.1 hC.2.1 dX12_print_59 (by decide) ?_
        obtain ⟨r18, D19, hF20, h⟩ := bd2_some h
        refine gcallV (As := [.int x1, .int (3 : Int32)]) (rest := []) (Cn := RX12) hC hE hml hH hS (c_X12_pause hF20) ⟨wd_1360, wd_1362, wp_36, wd_17, wd_1363⟩ hd_X12_pause rfl rfl ⟨Nat.le_of_ble_eq_true rfl, Nat.le_of_ble_eq_true rfl⟩ rfl (hw_recv (q := 50) (i := 0) hC hH ⟨Nat.zero_lt_one, fun h => absurd h (by decide)⟩ rfl rfl) rfl hl.1 rfl (Nat.le_of_ble_eq_true rfl) dX12_print_60 ⟨Nat.le_of_ble_eq_true rfl, Nat.le_of_ble_eq_true rfl⟩ (fun ed H locs hH hS => ?_)
        refine W.eq (g2 := F0 m 63 ls []) rfl ?_
        refine lv_goto (tgt := 108) hC.1 hC.2.1 dX12_print_63 (by decide) ?_
        exact B_X12_print_108 hC hE hml hr hlk h hH hS (lv_sub hl [] rfl)
    · rw [if_pos hc4] at h
      exact B_X12_print_26 hC hE hml hr hlk h hH hS (lv_sub hl [0, 1] rfl)
def F_X12_get_86   (C : St) : Option (Int32 × St) := some (0, C)
set_option maxHeartbeats 4000000 in
set_option maxRecDepth 100000 in
theorem B_X12_get_86 {p : Program} {l : Launch} {e : Env} {s : State} {m : MethodId} {args : Array Value} {below : List Frame} {meth : Method} {c : Code} {g : GP} {Z : St} (hC : CX p s m args c cX12_get RX12 g) (hE : EZ g s s.heap) (hml : c.maxLocals = 3) (hr : meth.sig.returnType = none) (hlk : meth.locks = false) {r : Int32} {C2 : St}  {C : St} (h : F_X12_get_86   C = some (r, C2)) {ed : Nat → Nat} {H : Heap} {locs : List Loc} {ls : Array Slot} (hH : HW g ed Z C H) (hS : va_S (gP g) s.heap H locs) (hl : lv_has ls 3 []) : W p l e ({ frames := 4, cells := 0, slots := 0, locals := 94 } : Room) s m args below meth c H locs 0 0 (MQ below (QG none g Z C2) args s 0 0 (gP g)) (F0 m 86 ls []) := by
  unfold F_X12_get_86 at h
  cases h
  exact gret_v hC hr hlk hH hS (Nat.le_of_ble_eq_true rfl) (Nat.le_of_ble_eq_true rfl) dX12_get_86
def F_X12_get (x1 : Int32) (x2 : Int32) (C : St) : Option (Int32 × St) := if x2 ≤ (2 : Int32) then (bd2 (F_X12_claimed x1 x2 C) (fun r2 D3 => if (1 : Int32) ≤ r2 then (bd2 (F_X12_grants x1 x2 D3) (fun r6 D7 => if r6 = 0 then (gd (inb x1 6) (st (up D7 129 0 0 x1.toNatClampNeg x2) (fun D11 => gd (inb (D11 50 0 62 0) 6) (st (up D11 159 0 0 (D11 50 0 62 0).toNatClampNeg x1) (fun D14 => st (up D14 50 0 62 0 ((D14 50 0 62 0) + (1 : Int32))) (fun D16 => bd2 (F_X12_pause x1 (6 : Int32) D16) (fun r18 D19 => F_X12_get_86  D19))))))) else (bd2 (F_X12_finish x1 D7) (fun r21 D22 => F_X12_get_86  D22)))) else (gd (inb x1 6) (st (up D3 116 0 0 x1.toNatClampNeg (3 : Int32)) (fun D25 => F_X12_get_86  D25))))) else (gd (inb x1 6) (st (up C 116 0 0 x1.toNatClampNeg (4 : Int32)) (fun D28 => F_X12_get_86  D28)))
set_option maxHeartbeats 4000000 in
set_option maxRecDepth 100000 in
theorem c_X12_get {l : Launch} {g : GP} {ed : Nat → Nat} {Z : St} {x1 : Int32} {x2 : Int32} {C : St} {r : Int32} {C2 : St} (h : F_X12_get x1 x2 C = some (r, C2)) : Met l yX12_get (Cond.code yX12_get cX12_get 3 none :: lwG) ({ frames := 4, cells := 0, slots := 0, locals := 94 } : Room) (va_Pc [.ref (gA g 50 0), .int x1, .int x2] (PW g Z C ed)) (QG none g Z C2) 0 0 (gP g) := by
  refine Met.ofW (cc := cX12_get) (maxL := 3) (ret := none) (by decide +kernel) rfl ?_
  intro p e s m args below meth c s₁ B hml hv
  obtain ⟨ha, hC, hE, hr, hlk, hH⟩ := g_start B hv
  subst ha
  have hC : CX p s m ([.ref (gA g 50 0), .int x1, .int x2] : List Value).toArray c cX12_get RX12 g := hC
  have hS : va_S (gP g) s.heap s.heap [] := va_S.rf
  obtain ⟨ls, he, hl⟩ := g_entry m (vs := [.ref (gA g 50 0), .int x1, .int x2]) (n := 3) (List.forall_mem_cons.mpr ⟨rfl, (List.forall_mem_cons.mpr ⟨rfl, (List.forall_mem_cons.mpr ⟨rfl, (fun _ h => absurd h List.not_mem_nil)⟩)⟩)⟩) (Nat.le_of_ble_eq_true rfl)
  rw [he]
  have hl : lv_has ls 3 [(0, .ref (gA g 50 0)), (1, .int x1), (2, .int x2)] := hl
  unfold F_X12_get at h
  refine lv_iload_n hC.1 hC.2.1 dX12_get_0 rfl (lv_at hl 2 rfl) ?_
  refine lv_iconst (v := (2 : Int32)) hC.1 hC.2.1 dX12_get_1 (by decide) ?_
  refine lv_icmp_le (tgt := 15) hC.1 hC.2.1 dX12_get_2 (by decide) (fun hc1 => ?_) (fun hc1 => ?_)
  · rw [if_pos hc1] at h
    refine lv_aload_n hC.1 hC.2.1 dX12_get_15 rfl (lv_at hl 0 rfl) ?_
    refine lv_iload_n hC.1 hC.2.1 dX12_get_16 rfl (lv_at hl 1 rfl) ?_
    refine lv_iload_n hC.1 hC.2.1 dX12_get_17 rfl (lv_at hl 2 rfl) ?_
    obtain ⟨r2, D3, hF4, h⟩ := bd2_some h
    refine gcallV (As := [.int x1, .int x2]) (rest := []) (Cn := RX12) hC hE hml hH hS (c_X12_claimed hF4) ⟨wd_1384, wd_1386, wp_42, wd_17, wd_1387⟩ hd_X12_claimed rfl rfl ⟨Nat.le_of_ble_eq_true rfl, Nat.le_of_ble_eq_true rfl⟩ rfl (hw_recv (q := 50) (i := 0) hC hH ⟨Nat.zero_lt_one, fun h => absurd h (by decide)⟩ rfl rfl) rfl hl.1 rfl (Nat.le_of_ble_eq_true rfl) dX12_get_18 ⟨Nat.le_of_ble_eq_true rfl, Nat.le_of_ble_eq_true rfl⟩ (fun ed H locs hH hS => ?_)
    refine W.eq (g2 := F0 m 21 ls [.int r2]) rfl ?_
    refine lv_iconst (v := (1 : Int32)) hC.1 hC.2.1 dX12_get_21 (by decide) ?_
    refine lv_icmp_ge (tgt := 35) hC.1 hC.2.1 dX12_get_22 (by decide) (fun hc5 => ?_) (fun hc5 => ?_)
    · rw [if_pos hc5] at h
      refine lv_aload_n hC.1 hC.2.1 dX12_get_35 rfl (lv_at hl 0 rfl) ?_
      refine lv_iload_n hC.1 hC.2.1 dX12_get_36 rfl (lv_at hl 1 rfl) ?_
      refine lv_iload_n hC.1 hC.2.1 dX12_get_37 rfl (lv_at hl 2 rfl) ?_
      obtain ⟨r6, D7, hF8, h⟩ := bd2_some h
      refine gcallV (As := [.int x1, .int x2]) (rest := []) (Cn := RX12) hC hE hml hH hS (c_X12_grants hF8) ⟨wd_1372, wd_1374, wp_39, wd_17, wd_1375⟩ hd_X12_grants rfl rfl ⟨Nat.le_of_ble_eq_true rfl, Nat.le_of_ble_eq_true rfl⟩ rfl (hw_recv (q := 50) (i := 0) hC hH ⟨Nat.zero_lt_one, fun h => absurd h (by decide)⟩ rfl rfl) rfl hl.1 rfl (Nat.le_of_ble_eq_true rfl) dX12_get_38 ⟨Nat.le_of_ble_eq_true rfl, Nat.le_of_ble_eq_true rfl⟩ (fun ed H locs hH hS => ?_)
      refine W.eq (g2 := F0 m 41 ls [.int r6]) rfl ?_
      refine lv_if_eq (tgt := 52) hC.1 hC.2.1 dX12_get_41 (by decide) (fun hc9 => ?_) (fun hc9 => ?_)
      · rw [if_pos hc9] at h
        refine lv_aload_n hC.1 hC.2.1 dX12_get_52 rfl (lv_at hl 0 rfl) ?_
        refine gf_RX12_74 hC hH rfl dX12_get_53 ?_
        refine lv_iload_n hC.1 hC.2.1 dX12_get_56 rfl (lv_at hl 1 rfl) ?_
        refine lv_iload_n hC.1 hC.2.1 dX12_get_57 rfl (lv_at hl 2 rfl) ?_
        obtain ⟨hg10, h⟩ := gd_some h
        obtain ⟨D11, e12, h⟩ := st_some h
        refine as_129 hC hH hS hg10 rfl dX12_get_58 (fun H locs hH hS => ?_)
        rw [← e12] at hH
        refine lv_aload_n hC.1 hC.2.1 dX12_get_59 rfl (lv_at hl 0 rfl) ?_
        refine gf_RX12_128 hC hH rfl dX12_get_60 ?_
        refine lv_aload_n hC.1 hC.2.1 dX12_get_63 rfl (lv_at hl 0 rfl) ?_
        refine gf_RX12_291 hC hH rfl dX12_get_64 ?_
        refine lv_iload_n hC.1 hC.2.1 dX12_get_67 rfl (lv_at hl 1 rfl) ?_
        obtain ⟨hg13, h⟩ := gd_some h
        obtain ⟨D14, e15, h⟩ := st_some h
        refine as_159 hC hH hS hg13 rfl dX12_get_68 (fun H locs hH hS => ?_)
        rw [← e15] at hH
        refine lv_aload_n hC.1 hC.2.1 dX12_get_69 rfl (lv_at hl 0 rfl) ?_
        refine lv_dup hC.1 hC.2.1 dX12_get_70 rfl ?_
        refine gf_RX12_291 hC hH rfl dX12_get_71 ?_
        refine lv_iconst (v := (1 : Int32)) hC.1 hC.2.1 dX12_get_74 (by decide) ?_
        refine lv_iadd hC.1 hC.2.1 dX12_get_75 ?_
        obtain ⟨D16, e17, h⟩ := st_some h
        refine pf_RX12_291 hC hH hS  rfl dX12_get_76 (fun H locs hH hS => ?_)
        rw [← e17] at hH
        refine lv_aload_n hC.1 hC.2.1 dX12_get_79 rfl (lv_at hl 0 rfl) ?_
        refine lv_iload_n hC.1 hC.2.1 dX12_get_80 rfl (lv_at hl 1 rfl) ?_
        refine lv_bipush (v := (6 : Int32)) hC.1 hC.2.1 dX12_get_81 (by decide) ?_
        obtain ⟨r18, D19, hF20, h⟩ := bd2_some h
        refine gcallV (As := [.int x1, .int (6 : Int32)]) (rest := []) (Cn := RX12) hC hE hml hH hS (c_X12_pause hF20) ⟨wd_1360, wd_1362, wp_36, wd_17, wd_1363⟩ hd_X12_pause rfl rfl ⟨Nat.le_of_ble_eq_true rfl, Nat.le_of_ble_eq_true rfl⟩ rfl (hw_recv (q := 50) (i := 0) hC hH ⟨Nat.zero_lt_one, fun h => absurd h (by decide)⟩ rfl rfl) rfl hl.1 rfl (Nat.le_of_ble_eq_true rfl) dX12_get_83 ⟨Nat.le_of_ble_eq_true rfl, Nat.le_of_ble_eq_true rfl⟩ (fun ed H locs hH hS => ?_)
        refine W.eq (g2 := F0 m 86 ls []) rfl ?_
        exact B_X12_get_86 hC hE hml hr hlk h hH hS (lv_sub hl [] rfl)
      · rw [if_neg hc9] at h
        refine lv_aload_n hC.1 hC.2.1 dX12_get_44 rfl (lv_at hl 0 rfl) ?_
        refine lv_iload_n hC.1 hC.2.1 dX12_get_45 rfl (lv_at hl 1 rfl) ?_
        obtain ⟨r21, D22, hF23, h⟩ := bd2_some h
        refine gcallV (As := [.int x1]) (rest := []) (Cn := RX12) hC hE hml hH hS (c_X12_finish hF23) ⟨wd_1392, wd_1394, wp_44, wd_17, wd_1395⟩ hd_X12_finish rfl rfl ⟨Nat.le_of_ble_eq_true rfl, Nat.le_of_ble_eq_true rfl⟩ rfl (hw_recv (q := 50) (i := 0) hC hH ⟨Nat.zero_lt_one, fun h => absurd h (by decide)⟩ rfl rfl) rfl hl.1 rfl (Nat.le_of_ble_eq_true rfl) dX12_get_46 ⟨Nat.le_of_ble_eq_true rfl, Nat.le_of_ble_eq_true rfl⟩ (fun ed H locs hH hS => ?_)
        refine W.eq (g2 := F0 m 49 ls []) rfl ?_
        refine lv_goto (tgt := 86) hC.1 hC.2.1 dX12_get_49 (by decide) ?_
        exact B_X12_get_86 hC hE hml hr hlk h hH hS (lv_sub hl [] rfl)
    · rw [if_neg hc5] at h
      refine lv_aload_n hC.1 hC.2.1 dX12_get_25 rfl (lv_at hl 0 rfl) ?_
      refine gf_RX12_38 hC hH rfl dX12_get_26 ?_
      refine lv_iload_n hC.1 hC.2.1 dX12_get_29 rfl (lv_at hl 1 rfl) ?_
      refine lv_iconst (v := (3 : Int32)) hC.1 hC.2.1 dX12_get_30 (by decide) ?_
      obtain ⟨hg24, h⟩ := gd_some h
      obtain ⟨D25, e26, h⟩ := st_some h
      refine as_116 hC hH hS hg24 rfl dX12_get_31 (fun H locs hH hS => ?_)
      rw [← e26] at hH
      refine lv_goto (tgt := 86) hC.1 hC.2.1 dX12_get_32 (by decide) ?_
      exact B_X12_get_86 hC hE hml hr hlk h hH hS (lv_sub hl [] rfl)
  · rw [if_neg hc1] at h
    refine lv_aload_n hC.1 hC.2.1 dX12_get_5 rfl (lv_at hl 0 rfl) ?_
    refine gf_RX12_38 hC hH rfl dX12_get_6 ?_
    refine lv_iload_n hC.1 hC.2.1 dX12_get_9 rfl (lv_at hl 1 rfl) ?_
    refine lv_iconst (v := (4 : Int32)) hC.1 hC.2.1 dX12_get_10 (by decide) ?_
    obtain ⟨hg27, h⟩ := gd_some h
    obtain ⟨D28, e29, h⟩ := st_some h
    refine as_116 hC hH hS hg27 rfl dX12_get_11 (fun H locs hH hS => ?_)
    rw [← e29] at hH
    refine lv_goto (tgt := 86) hC.1 hC.2.1 dX12_get_12 (by decide) ?_
    exact B_X12_get_86 hC hE hml hr hlk h hH hS (lv_sub hl [] rfl)
def F_X12_give_18  (x1 : Int32) (C : St) : Option (Int32 × St) := gd (inb x1 6) (st (up C 116 0 0 x1.toNatClampNeg (4 : Int32)) (fun D2 => some (0, D2)))
set_option maxHeartbeats 4000000 in
set_option maxRecDepth 100000 in
theorem B_X12_give_18 {p : Program} {l : Launch} {e : Env} {s : State} {m : MethodId} {args : Array Value} {below : List Frame} {meth : Method} {c : Code} {g : GP} {Z : St} (hC : CX p s m args c cX12_give RX12 g) (hE : EZ g s s.heap) (hml : c.maxLocals = 3) (hr : meth.sig.returnType = none) (hlk : meth.locks = false) {r : Int32} {C2 : St} {x1 : Int32} {C : St} (h : F_X12_give_18  x1 C = some (r, C2)) {ed : Nat → Nat} {H : Heap} {locs : List Loc} {ls : Array Slot} (hH : HW g ed Z C H) (hS : va_S (gP g) s.heap H locs) (hl : lv_has ls 3 [(0, .ref (gA g 50 0)), (1, .int x1)]) : W p l e ({ frames := 5, cells := 0, slots := 0, locals := 116 } : Room) s m args below meth c H locs 0 0 (MQ below (QG none g Z C2) args s 0 0 (gP g)) (F0 m 18 ls []) := by
  unfold F_X12_give_18 at h
  refine lv_aload_n hC.1 hC.2.1 dX12_give_18 rfl (lv_at hl 0 rfl) ?_
  refine gf_RX12_38 hC hH rfl dX12_give_19 ?_
  refine lv_iload_n hC.1 hC.2.1 dX12_give_22 rfl (lv_at hl 1 rfl) ?_
  refine lv_iconst (v := (4 : Int32)) hC.1 hC.2.1 dX12_give_23 (by decide) ?_
  obtain ⟨hg1, h⟩ := gd_some h
  obtain ⟨D2, e3, h⟩ := st_some h
  refine as_116 hC hH hS hg1 rfl dX12_give_24 (fun H locs hH hS => ?_)
  rw [← e3] at hH
  cases h
  exact gret_v hC hr hlk hH hS (Nat.le_of_ble_eq_true rfl) (Nat.le_of_ble_eq_true rfl) dX12_give_25
def F_X12_give_46  (x1 : Int32) (x2 : Int32) (C : St) : Option (Int32 × St) := gd (inb (((3 : Int32) * x1) + x2) 18) (st (up C 127 0 0 (((3 : Int32) * x1) + x2).toNatClampNeg ((C 127 0 0 (((3 : Int32) * x1) + x2).toNatClampNeg) - (1 : Int32))) (fun D2 => gd (inb x2 3) (st (up D2 128 0 0 x2.toNatClampNeg ((D2 128 0 0 x2.toNatClampNeg) + (1 : Int32))) (fun D5 => bd2 (F_X12_finish x1 D5) (fun r7 D8 => bd2 (F_X12_goThroughGets  D8) (fun r10 D11 => some (0, D11)))))))
set_option maxHeartbeats 4000000 in
set_option maxRecDepth 100000 in
theorem B_X12_give_46 {p : Program} {l : Launch} {e : Env} {s : State} {m : MethodId} {args : Array Value} {below : List Frame} {meth : Method} {c : Code} {g : GP} {Z : St} (hC : CX p s m args c cX12_give RX12 g) (hE : EZ g s s.heap) (hml : c.maxLocals = 3) (hr : meth.sig.returnType = none) (hlk : meth.locks = false) {r : Int32} {C2 : St} {x1 : Int32} {x2 : Int32} {C : St} (h : F_X12_give_46  x1 x2 C = some (r, C2)) {ed : Nat → Nat} {H : Heap} {locs : List Loc} {ls : Array Slot} (hH : HW g ed Z C H) (hS : va_S (gP g) s.heap H locs) (hl : lv_has ls 3 [(0, .ref (gA g 50 0)), (1, .int x1), (2, .int x2)]) : W p l e ({ frames := 5, cells := 0, slots := 0, locals := 116 } : Room) s m args below meth c H locs 0 0 (MQ below (QG none g Z C2) args s 0 0 (gP g)) (F0 m 46 ls []) := by
  unfold F_X12_give_46 at h
  refine lv_aload_n hC.1 hC.2.1 dX12_give_46 rfl (lv_at hl 0 rfl) ?_
  refine gf_RX12_68 hC hH rfl dX12_give_47 ?_
  refine lv_iconst (v := (3 : Int32)) hC.1 hC.2.1 dX12_give_50 (by decide) ?_
  refine lv_iload_n hC.1 hC.2.1 dX12_give_51 rfl (lv_at hl 1 rfl) ?_
  refine lv_imul hC.1 hC.2.1 dX12_give_52 ?_
  refine lv_iload_n hC.1 hC.2.1 dX12_give_53 rfl (lv_at hl 2 rfl) ?_
  refine lv_iadd hC.1 hC.2.1 dX12_give_54 ?_
  refine lv_dup2_11 hC.1 hC.2.1 dX12_give_55 rfl rfl ?_
  obtain ⟨hg1, h⟩ := gd_some h
  refine al_127 hC hH hg1 rfl dX12_give_56 ?_
  refine lv_iconst (v := (1 : Int32)) hC.1 hC.2.1 dX12_give_57 (by decide) ?_
  refine lv_isub hC.1 hC.2.1 dX12_give_58 ?_
  obtain ⟨D2, e3, h⟩ := st_some h
  refine as_127 hC hH hS hg1 rfl dX12_give_59 (fun H locs hH hS => ?_)
  rw [← e3] at hH
  refine lv_aload_n hC.1 hC.2.1 dX12_give_60 rfl (lv_at hl 0 rfl) ?_
  refine gf_RX12_71 hC hH rfl dX12_give_61 ?_
  refine lv_iload_n hC.1 hC.2.1 dX12_give_64 rfl (lv_at hl 2 rfl) ?_
  refine lv_dup2_11 hC.1 hC.2.1 dX12_give_65 rfl rfl ?_
  obtain ⟨hg4, h⟩ := gd_some h
  refine al_128 hC hH hg4 rfl dX12_give_66 ?_
  refine lv_iconst (v := (1 : Int32)) hC.1 hC.2.1 dX12_give_67 (by decide) ?_
  refine lv_iadd hC.1 hC.2.1 dX12_give_68 ?_
  obtain ⟨D5, e6, h⟩ := st_some h
  refine as_128 hC hH hS hg4 rfl dX12_give_69 (fun H locs hH hS => ?_)
  rw [← e6] at hH
  refine lv_aload_n hC.1 hC.2.1 dX12_give_70 rfl (lv_at hl 0 rfl) ?_
  refine lv_iload_n hC.1 hC.2.1 dX12_give_71 rfl (lv_at hl 1 rfl) ?_
  obtain ⟨r7, D8, hF9, h⟩ := bd2_some h
  refine gcallV (As := [.int x1]) (rest := []) (Cn := RX12) hC hE hml hH hS (c_X12_finish hF9) ⟨wd_1392, wd_1394, wp_44, wd_17, wd_1395⟩ hd_X12_finish rfl rfl ⟨Nat.le_of_ble_eq_true rfl, Nat.le_of_ble_eq_true rfl⟩ rfl (hw_recv (q := 50) (i := 0) hC hH ⟨Nat.zero_lt_one, fun h => absurd h (by decide)⟩ rfl rfl) rfl hl.1 rfl (Nat.le_of_ble_eq_true rfl) dX12_give_72 ⟨Nat.le_of_ble_eq_true rfl, Nat.le_of_ble_eq_true rfl⟩ (fun ed H locs hH hS => ?_)
  refine W.eq (g2 := F0 m 75 ls []) rfl ?_
  refine lv_aload_n hC.1 hC.2.1 dX12_give_75 rfl (lv_at hl 0 rfl) ?_
  obtain ⟨r10, D11, hF12, h⟩ := bd2_some h
  refine gcallV (As := []) (rest := []) (Cn := RX12) hC hE hml hH hS (c_X12_goThroughGets hF12) ⟨wd_1368, wd_1370, wp_38, wd_17, wd_1371⟩ hd_X12_goThroughGets rfl rfl ⟨Nat.le_of_ble_eq_true rfl, Nat.le_of_ble_eq_true rfl⟩ rfl (hw_recv (q := 50) (i := 0) hC hH ⟨Nat.zero_lt_one, fun h => absurd h (by decide)⟩ rfl rfl) rfl hl.1 rfl (Nat.le_of_ble_eq_true rfl) dX12_give_76 ⟨Nat.le_of_ble_eq_true rfl, Nat.le_of_ble_eq_true rfl⟩ (fun ed H locs hH hS => ?_)
  refine W.eq (g2 := F0 m 79 ls []) rfl ?_
  cases h
  exact gret_v hC hr hlk hH hS (Nat.le_of_ble_eq_true rfl) (Nat.le_of_ble_eq_true rfl) dX12_give_79
def F_X12_give (x1 : Int32) (x2 : Int32) (C : St) : Option (Int32 × St) := if (2 : Int32) < x2 then (F_X12_give_18 x1 C) else (gd (inb (((3 : Int32) * x1) + x2) 18) (if (C 127 0 0 (((3 : Int32) * x1) + x2).toNatClampNeg) = 0 then (F_X12_give_18 x1 C) else (if x2 ≤ 0 then (F_X12_give_46 x1 x2 C) else (gd (inb x1 6) (if (C 134 0 0 x1.toNatClampNeg) ≤ 0 then (F_X12_give_46 x1 x2 C) else (bd2 (F_X12_pause x1 (4 : Int32) C) (fun r7 D8 => some (0, D8))))))))
set_option maxHeartbeats 4000000 in
set_option maxRecDepth 100000 in
theorem c_X12_give {l : Launch} {g : GP} {ed : Nat → Nat} {Z : St} {x1 : Int32} {x2 : Int32} {C : St} {r : Int32} {C2 : St} (h : F_X12_give x1 x2 C = some (r, C2)) : Met l yX12_give (Cond.code yX12_give cX12_give 3 none :: lwG) ({ frames := 5, cells := 0, slots := 0, locals := 116 } : Room) (va_Pc [.ref (gA g 50 0), .int x1, .int x2] (PW g Z C ed)) (QG none g Z C2) 0 0 (gP g) := by
  refine Met.ofW (cc := cX12_give) (maxL := 3) (ret := none) (by decide +kernel) rfl ?_
  intro p e s m args below meth c s₁ B hml hv
  obtain ⟨ha, hC, hE, hr, hlk, hH⟩ := g_start B hv
  subst ha
  have hC : CX p s m ([.ref (gA g 50 0), .int x1, .int x2] : List Value).toArray c cX12_give RX12 g := hC
  have hS : va_S (gP g) s.heap s.heap [] := va_S.rf
  obtain ⟨ls, he, hl⟩ := g_entry m (vs := [.ref (gA g 50 0), .int x1, .int x2]) (n := 3) (List.forall_mem_cons.mpr ⟨rfl, (List.forall_mem_cons.mpr ⟨rfl, (List.forall_mem_cons.mpr ⟨rfl, (fun _ h => absurd h List.not_mem_nil)⟩)⟩)⟩) (Nat.le_of_ble_eq_true rfl)
  rw [he]
  have hl : lv_has ls 3 [(0, .ref (gA g 50 0)), (1, .int x1), (2, .int x2)] := hl
  unfold F_X12_give at h
  refine lv_iload_n hC.1 hC.2.1 dX12_give_0 rfl (lv_at hl 2 rfl) ?_
  refine lv_iconst (v := (2 : Int32)) hC.1 hC.2.1 dX12_give_1 (by decide) ?_
  refine lv_icmp_gt (tgt := 18) hC.1 hC.2.1 dX12_give_2 (by decide) (fun hc1 => ?_) (fun hc1 => ?_)
  · rw [if_pos hc1] at h
    exact B_X12_give_18 hC hE hml hr hlk h hH hS (lv_sub hl [0, 1] rfl)
  · rw [if_neg hc1] at h
    refine lv_aload_n hC.1 hC.2.1 dX12_give_5 rfl (lv_at hl 0 rfl) ?_
    refine gf_RX12_68 hC hH rfl dX12_give_6 ?_
    refine lv_iconst (v := (3 : Int32)) hC.1 hC.2.1 dX12_give_9 (by decide) ?_
    refine lv_iload_n hC.1 hC.2.1 dX12_give_10 rfl (lv_at hl 1 rfl) ?_
    refine lv_imul hC.1 hC.2.1 dX12_give_11 ?_
    refine lv_iload_n hC.1 hC.2.1 dX12_give_12 rfl (lv_at hl 2 rfl) ?_
    refine lv_iadd hC.1 hC.2.1 dX12_give_13 ?_
    obtain ⟨hg2, h⟩ := gd_some h
    refine al_127 hC hH hg2 rfl dX12_give_14 ?_
    refine lv_if_ne (tgt := 26) hC.1 hC.2.1 dX12_give_15 (by decide) (fun hc3 => ?_) (fun hc3 => ?_)
    · rw [if_neg hc3] at h
      refine lv_iload_n hC.1 hC.2.1 dX12_give_26 rfl (lv_at hl 2 rfl) ?_
      refine lv_if_le (tgt := 46) hC.1 hC.2.1 dX12_give_27 (by decide) (fun hc4 => ?_) (fun hc4 => ?_)
      · rw [if_pos hc4] at h
        exact B_X12_give_46 hC hE hml hr hlk h hH hS (lv_sub hl [0, 1, 2] rfl)
      · rw [if_neg hc4] at h
        refine lv_aload_n hC.1 hC.2.1 dX12_give_30 rfl (lv_at hl 0 rfl) ?_
        refine gf_RX12_89 hC hH rfl dX12_give_31 ?_
        refine lv_iload_n hC.1 hC.2.1 dX12_give_34 rfl (lv_at hl 1 rfl) ?_
        obtain ⟨hg5, h⟩ := gd_some h
        refine al_134 hC hH hg5 rfl dX12_give_35 ?_
        refine lv_if_le (tgt := 46) hC.1 hC.2.1 dX12_give_36 (by decide) (fun hc6 => ?_) (fun hc6 => ?_)
        · rw [if_pos hc6] at h
          exact B_X12_give_46 hC hE hml hr hlk h hH hS (lv_sub hl [0, 1, 2] rfl)
        · rw [if_neg hc6] at h
          refine lv_aload_n hC.1 hC.2.1 dX12_give_39 rfl (lv_at hl 0 rfl) ?_
          refine lv_iload_n hC.1 hC.2.1 dX12_give_40 rfl (lv_at hl 1 rfl) ?_
          refine lv_iconst (v := (4 : Int32)) hC.1 hC.2.1 dX12_give_41 (by decide) ?_
          obtain ⟨r7, D8, hF9, h⟩ := bd2_some h
          refine gcallV (As := [.int x1, .int (4 : Int32)]) (rest := []) (Cn := RX12) hC hE hml hH hS (c_X12_pause hF9) ⟨wd_1360, wd_1362, wp_36, wd_17, wd_1363⟩ hd_X12_pause rfl rfl ⟨Nat.le_of_ble_eq_true rfl, Nat.le_of_ble_eq_true rfl⟩ rfl (hw_recv (q := 50) (i := 0) hC hH ⟨Nat.zero_lt_one, fun h => absurd h (by decide)⟩ rfl rfl) rfl hl.1 rfl (Nat.le_of_ble_eq_true rfl) dX12_give_42 ⟨Nat.le_of_ble_eq_true rfl, Nat.le_of_ble_eq_true rfl⟩ (fun ed H locs hH hS => ?_)
          refine W.eq (g2 := F0 m 45 ls []) rfl ?_
          cases h
          exact gret_v hC hr hlk hH hS (Nat.le_of_ble_eq_true rfl) (Nat.le_of_ble_eq_true rfl) dX12_give_45
    · rw [if_pos hc3] at h
      exact B_X12_give_18 hC hE hml hr hlk h hH hS (lv_sub hl [0, 1] rfl)
def F_X12_without_274   (C : St) : Option (Int32 × St) := some (0, C)
set_option maxHeartbeats 4000000 in
set_option maxRecDepth 100000 in
theorem B_X12_without_274 {p : Program} {l : Launch} {e : Env} {s : State} {m : MethodId} {args : Array Value} {below : List Frame} {meth : Method} {c : Code} {g : GP} {Z : St} (hC : CX p s m args c cX12_without RX12 g) (hE : EZ g s s.heap) (hml : c.maxLocals = 5) (hr : meth.sig.returnType = none) (hlk : meth.locks = false) {r : Int32} {C2 : St}  {C : St} (h : F_X12_without_274   C = some (r, C2)) {ed : Nat → Nat} {H : Heap} {locs : List Loc} {ls : Array Slot} (hH : HW g ed Z C H) (hS : va_S (gP g) s.heap H locs) (hl : lv_has ls 5 []) : W p l e ({ frames := 6, cells := 0, slots := 0, locals := 138 } : Room) s m args below meth c H locs 0 0 (MQ below (QG none g Z C2) args s 0 0 (gP g)) (F0 m 274 ls []) := by
  unfold F_X12_without_274 at h
  cases h
  exact gret_v hC hr hlk hH hS (Nat.le_of_ble_eq_true rfl) (Nat.le_of_ble_eq_true rfl) dX12_without_274
def F_X12_without_175  (t0 : Int32) (t1 : Int32) (C : St) : Option (Int32 × St) := gd (inb t1 6) (st (up C 118 0 0 t1.toNatClampNeg t0) (fun D2 => F_X12_without_274  D2))
set_option maxHeartbeats 4000000 in
set_option maxRecDepth 100000 in
theorem B_X12_without_175 {p : Program} {l : Launch} {e : Env} {s : State} {m : MethodId} {args : Array Value} {below : List Frame} {meth : Method} {c : Code} {g : GP} {Z : St} (hC : CX p s m args c cX12_without RX12 g) (hE : EZ g s s.heap) (hml : c.maxLocals = 5) (hr : meth.sig.returnType = none) (hlk : meth.locks = false) {r : Int32} {C2 : St} {t0 : Int32} {t1 : Int32} {C : St} (h : F_X12_without_175  t0 t1 C = some (r, C2)) {ed : Nat → Nat} {H : Heap} {locs : List Loc} {ls : Array Slot} (hH : HW g ed Z C H) (hS : va_S (gP g) s.heap H locs) (hl : lv_has ls 5 []) : W p l e ({ frames := 6, cells := 0, slots := 0, locals := 138 } : Room) s m args below meth c H locs 0 0 (MQ below (QG none g Z C2) args s 0 0 (gP g)) (F0 m 175 ls [.int t0, .int t1, .ref (gA g 118 0)]) := by
  unfold F_X12_without_175 at h
  obtain ⟨hg1, h⟩ := gd_some h
  obtain ⟨D2, e3, h⟩ := st_some h
  refine as_118 hC hH hS hg1 rfl dX12_without_175 (fun H locs hH hS => ?_)
  rw [← e3] at hH
  refine lv_goto (tgt := 274) hC.1 hC.2.1 dX12_without_176 (by decide) ?_
  exact B_X12_without_274 hC hE hml hr hlk h hH hS (lv_sub hl [] rfl)
def F_X12_without_148  (x1 : Int32) (x3 : Int32) (t0 : Int32) (C : St) : Option (Int32 × St) := bd2 (F_X12_finish x1 C) (fun r1 D2 => if t0 = 0 then (gd (inb x1 6) (F_X12_without_175 (D2 118 0 0 x1.toNatClampNeg) x1 D2)) else (F_X12_without_175 x3 x1 D2))
set_option maxHeartbeats 4000000 in
set_option maxRecDepth 100000 in
theorem B_X12_without_148 {p : Program} {l : Launch} {e : Env} {s : State} {m : MethodId} {args : Array Value} {below : List Frame} {meth : Method} {c : Code} {g : GP} {Z : St} (hC : CX p s m args c cX12_without RX12 g) (hE : EZ g s s.heap) (hml : c.maxLocals = 5) (hr : meth.sig.returnType = none) (hlk : meth.locks = false) {r : Int32} {C2 : St} {x1 : Int32} {x3 : Int32} {t0 : Int32} {C : St} (h : F_X12_without_148  x1 x3 t0 C = some (r, C2)) {ed : Nat → Nat} {H : Heap} {locs : List Loc} {ls : Array Slot} (hH : HW g ed Z C H) (hS : va_S (gP g) s.heap H locs) (hl : lv_has ls 5 [(0, .ref (gA g 50 0)), (1, .int x1), (3, .int x3)]) : W p l e ({ frames := 6, cells := 0, slots := 0, locals := 138 } : Room) s m args below meth c H locs 0 0 (MQ below (QG none g Z C2) args s 0 0 (gP g)) (F0 m 148 ls [.int t0]) := by
  unfold F_X12_without_148 at h
  refine lv_istore (lv' := [(4, .int t0), (0, .ref (gA g 50 0)), (1, .int x1), (3, .int x3)]) hC.1 hC.2.1 dX12_without_148 hl (by decide) rfl (fun ls hl => ?_)
  refine lv_aload_n hC.1 hC.2.1 dX12_without_150 rfl (lv_at hl 1 rfl) ?_
  refine lv_iload_n hC.1 hC.2.1 dX12_without_151 rfl (lv_at hl 2 rfl) ?_
  obtain ⟨r1, D2, hF3, h⟩ := bd2_some h
  refine gcallV (As := [.int x1]) (rest := []) (Cn := RX12) hC hE hml hH hS (c_X12_finish hF3) ⟨wd_1392, wd_1394, wp_44, wd_17, wd_1395⟩ hd_X12_finish rfl rfl ⟨Nat.le_of_ble_eq_true rfl, Nat.le_of_ble_eq_true rfl⟩ rfl (hw_recv (q := 50) (i := 0) hC hH ⟨Nat.zero_lt_one, fun h => absurd h (by decide)⟩ rfl rfl) rfl hl.1 rfl (Nat.le_of_ble_eq_true rfl) dX12_without_152 ⟨Nat.le_of_ble_eq_true rfl, Nat.le_of_ble_eq_true rfl⟩ (fun ed H locs hH hS => ?_)
  refine W.eq (g2 := F0 m 155 ls []) rfl ?_
  refine lv_aload_n hC.1 hC.2.1 dX12_without_155 rfl (lv_at hl 1 rfl) ?_
  refine gf_RX12_44 hC hH rfl dX12_without_156 ?_
  refine lv_iload_n hC.1 hC.2.1 dX12_without_159 rfl (lv_at hl 2 rfl) ?_
  refine lv_iload hC.1 hC.2.1 dX12_without_160 (lv_at hl 0 rfl) ?_
  refine lv_if_eq (tgt := 169) hC.1 hC.2.1 dX12_without_162 (by decide) (fun hc4 => ?_) (fun hc4 => ?_)
  · rw [if_pos hc4] at h
    refine lv_aload_n hC.1 hC.2.1 dX12_without_169 rfl (lv_at hl 1 rfl) ?_
    refine gf_RX12_44 hC hH rfl dX12_without_170 ?_
    refine lv_iload_n hC.1 hC.2.1 dX12_without_173 rfl (lv_at hl 2 rfl) ?_
    obtain ⟨hg5, h⟩ := gd_some h
    refine al_118 hC hH hg5 rfl dX12_without_174 ?_
    exact B_X12_without_175 hC hE hml hr hlk h hH hS (lv_sub hl [] rfl)
  · rw [if_neg hc4] at h
    refine lv_iload_n hC.1 hC.2.1 dX12_without_165 rfl (lv_at hl 3 rfl) ?_
    refine lv_goto (tgt := 175) hC.1 hC.2.1 dX12_without_166 (by decide) ?_
    exact B_X12_without_175 hC hE hml hr hlk h hH hS (lv_sub hl [] rfl)
def F_X12_without_143  (x1 : Int32) (x3 : Int32) (C : St) : Option (Int32 × St) := F_X12_without_148 x1 x3 (1 : Int32) C
set_option maxHeartbeats 4000000 in
set_option maxRecDepth 100000 in
theorem B_X12_without_143 {p : Program} {l : Launch} {e : Env} {s : State} {m : MethodId} {args : Array Value} {below : List Frame} {meth : Method} {c : Code} {g : GP} {Z : St} (hC : CX p s m args c cX12_without RX12 g) (hE : EZ g s s.heap) (hml : c.maxLocals = 5) (hr : meth.sig.returnType = none) (hlk : meth.locks = false) {r : Int32} {C2 : St} {x1 : Int32} {x3 : Int32} {C : St} (h : F_X12_without_143  x1 x3 C = some (r, C2)) {ed : Nat → Nat} {H : Heap} {locs : List Loc} {ls : Array Slot} (hH : HW g ed Z C H) (hS : va_S (gP g) s.heap H locs) (hl : lv_has ls 5 [(0, .ref (gA g 50 0)), (1, .int x1), (3, .int x3)]) : W p l e ({ frames := 6, cells := 0, slots := 0, locals := 138 } : Room) s m args below meth c H locs 0 0 (MQ below (QG none g Z C2) args s 0 0 (gP g)) (F0 m 143 ls []) := by
  unfold F_X12_without_143 at h
  refine lv_iconst (v := (1 : Int32)) hC.1 hC.2.1 dX12_without_143 (by decide) ?_
  refine lv_goto (tgt := 148) hC.1 hC.2.1 dX12_without_144 (by decide) ?_
  exact B_X12_without_148 hC hE hml hr hlk h hH hS (lv_sub hl [0, 1, 2] rfl)
def F_X12_without_147  (x1 : Int32) (x3 : Int32) (C : St) : Option (Int32 × St) := F_X12_without_148 x1 x3 (0 : Int32) C
set_option maxHeartbeats 4000000 in
set_option maxRecDepth 100000 in
theorem B_X12_without_147 {p : Program} {l : Launch} {e : Env} {s : State} {m : MethodId} {args : Array Value} {below : List Frame} {meth : Method} {c : Code} {g : GP} {Z : St} (hC : CX p s m args c cX12_without RX12 g) (hE : EZ g s s.heap) (hml : c.maxLocals = 5) (hr : meth.sig.returnType = none) (hlk : meth.locks = false) {r : Int32} {C2 : St} {x1 : Int32} {x3 : Int32} {C : St} (h : F_X12_without_147  x1 x3 C = some (r, C2)) {ed : Nat → Nat} {H : Heap} {locs : List Loc} {ls : Array Slot} (hH : HW g ed Z C H) (hS : va_S (gP g) s.heap H locs) (hl : lv_has ls 5 [(0, .ref (gA g 50 0)), (1, .int x1), (3, .int x3)]) : W p l e ({ frames := 6, cells := 0, slots := 0, locals := 138 } : Room) s m args below meth c H locs 0 0 (MQ below (QG none g Z C2) args s 0 0 (gP g)) (F0 m 147 ls []) := by
  unfold F_X12_without_147 at h
  refine lv_iconst (v := (0 : Int32)) hC.1 hC.2.1 dX12_without_147 (by decide) ?_
  exact B_X12_without_148 hC hE hml hr hlk h hH hS (lv_sub hl [0, 1, 2] rfl)
def F_X12_without_128  (x1 : Int32) (x2 : Int32) (x3 : Int32) (C : St) : Option (Int32 × St) := if x2 = (9 : Int32) then (gd (inb x1 6) (if (C 119 0 0 x1.toNatClampNeg) = 0 then (F_X12_without_143 x1 x3 C) else (F_X12_without_147 x1 x3 C))) else (F_X12_without_147 x1 x3 C)
set_option maxHeartbeats 4000000 in
set_option maxRecDepth 100000 in
theorem B_X12_without_128 {p : Program} {l : Launch} {e : Env} {s : State} {m : MethodId} {args : Array Value} {below : List Frame} {meth : Method} {c : Code} {g : GP} {Z : St} (hC : CX p s m args c cX12_without RX12 g) (hE : EZ g s s.heap) (hml : c.maxLocals = 5) (hr : meth.sig.returnType = none) (hlk : meth.locks = false) {r : Int32} {C2 : St} {x1 : Int32} {x2 : Int32} {x3 : Int32} {C : St} (h : F_X12_without_128  x1 x2 x3 C = some (r, C2)) {ed : Nat → Nat} {H : Heap} {locs : List Loc} {ls : Array Slot} (hH : HW g ed Z C H) (hS : va_S (gP g) s.heap H locs) (hl : lv_has ls 5 [(0, .ref (gA g 50 0)), (1, .int x1), (2, .int x2), (3, .int x3)]) : W p l e ({ frames := 6, cells := 0, slots := 0, locals := 138 } : Room) s m args below meth c H locs 0 0 (MQ below (QG none g Z C2) args s 0 0 (gP g)) (F0 m 128 ls []) := by
  unfold F_X12_without_128 at h
  refine lv_iload_n hC.1 hC.2.1 dX12_without_128 rfl (lv_at hl 2 rfl) ?_
  refine lv_bipush (v := (9 : Int32)) hC.1 hC.2.1 dX12_without_129 (by decide) ?_
  refine lv_icmp_ne (tgt := 147) hC.1 hC.2.1 dX12_without_131 (by decide) (fun hc1 => ?_) (fun hc1 => ?_)
  · rw [if_neg hc1] at h
    exact B_X12_without_147 hC hE hml hr hlk h hH hS (lv_sub hl [0, 1, 3] rfl)
  · rw [if_pos hc1] at h
    refine lv_aload_n hC.1 hC.2.1 dX12_without_134 rfl (lv_at hl 0 rfl) ?_
    refine gf_RX12_47 hC hH rfl dX12_without_135 ?_
    refine lv_iload_n hC.1 hC.2.1 dX12_without_138 rfl (lv_at hl 1 rfl) ?_
    obtain ⟨hg2, h⟩ := gd_some h
    refine al_119 hC hH hg2 rfl dX12_without_139 ?_
    refine lv_if_ne (tgt := 147) hC.1 hC.2.1 dX12_without_140 (by decide) (fun hc3 => ?_) (fun hc3 => ?_)
    · rw [if_neg hc3] at h
      exact B_X12_without_147 hC hE hml hr hlk h hH hS (lv_sub hl [0, 1, 3] rfl)
    · rw [if_pos hc3] at h
      exact B_X12_without_143 hC hE hml hr hlk h hH hS (lv_sub hl [0, 1, 3] rfl)
def F_X12_without_107  (x1 : Int32) (x2 : Int32) (x3 : Int32) (C : St) : Option (Int32 × St) := if x2 = (7 : Int32) then (F_X12_without_143 x1 x3 C) else (if x2 = (8 : Int32) then (gd (inb x1 6) (if (C 119 0 0 x1.toNatClampNeg) < 0 then (F_X12_without_143 x1 x3 C) else (F_X12_without_128 x1 x2 x3 C))) else (F_X12_without_128 x1 x2 x3 C))
set_option maxHeartbeats 4000000 in
set_option maxRecDepth 100000 in
theorem B_X12_without_107 {p : Program} {l : Launch} {e : Env} {s : State} {m : MethodId} {args : Array Value} {below : List Frame} {meth : Method} {c : Code} {g : GP} {Z : St} (hC : CX p s m args c cX12_without RX12 g) (hE : EZ g s s.heap) (hml : c.maxLocals = 5) (hr : meth.sig.returnType = none) (hlk : meth.locks = false) {r : Int32} {C2 : St} {x1 : Int32} {x2 : Int32} {x3 : Int32} {C : St} (h : F_X12_without_107  x1 x2 x3 C = some (r, C2)) {ed : Nat → Nat} {H : Heap} {locs : List Loc} {ls : Array Slot} (hH : HW g ed Z C H) (hS : va_S (gP g) s.heap H locs) (hl : lv_has ls 5 [(0, .ref (gA g 50 0)), (1, .int x1), (2, .int x2), (3, .int x3)]) : W p l e ({ frames := 6, cells := 0, slots := 0, locals := 138 } : Room) s m args below meth c H locs 0 0 (MQ below (QG none g Z C2) args s 0 0 (gP g)) (F0 m 107 ls []) := by
  unfold F_X12_without_107 at h
  refine lv_iload_n hC.1 hC.2.1 dX12_without_107 rfl (lv_at hl 2 rfl) ?_
  refine lv_bipush (v := (7 : Int32)) hC.1 hC.2.1 dX12_without_108 (by decide) ?_
  refine lv_icmp_eq (tgt := 143) hC.1 hC.2.1 dX12_without_110 (by decide) (fun hc1 => ?_) (fun hc1 => ?_)
  · rw [if_pos hc1] at h
    exact B_X12_without_143 hC hE hml hr hlk h hH hS (lv_sub hl [0, 1, 3] rfl)
  · rw [if_neg hc1] at h
    refine lv_iload_n hC.1 hC.2.1 dX12_without_113 rfl (lv_at hl 2 rfl) ?_
    refine lv_bipush (v := (8 : Int32)) hC.1 hC.2.1 dX12_without_114 (by decide) ?_
    refine lv_icmp_ne (tgt := 128) hC.1 hC.2.1 dX12_without_116 (by decide) (fun hc2 => ?_) (fun hc2 => ?_)
    · rw [if_neg hc2] at h
      exact B_X12_without_128 hC hE hml hr hlk h hH hS (lv_sub hl [0, 1, 2, 3] rfl)
    · rw [if_pos hc2] at h
      refine lv_aload_n hC.1 hC.2.1 dX12_without_119 rfl (lv_at hl 0 rfl) ?_
      refine gf_RX12_47 hC hH rfl dX12_without_120 ?_
      refine lv_iload_n hC.1 hC.2.1 dX12_without_123 rfl (lv_at hl 1 rfl) ?_
      obtain ⟨hg3, h⟩ := gd_some h
      refine al_119 hC hH hg3 rfl dX12_without_124 ?_
      refine lv_if_lt (tgt := 143) hC.1 hC.2.1 dX12_without_125 (by decide) (fun hc4 => ?_) (fun hc4 => ?_)
      · rw [if_pos hc4] at h
        exact B_X12_without_143 hC hE hml hr hlk h hH hS (lv_sub hl [0, 1, 3] rfl)
      · rw [if_neg hc4] at h
        exact B_X12_without_128 hC hE hml hr hlk h hH hS (lv_sub hl [0, 1, 2, 3] rfl)
def F_X12_without_257  (x1 : Int32) (C : St) : Option (Int32 × St) := gd (inb x1 6) (st (up C 119 0 0 x1.toNatClampNeg (C 120 0 0 x1.toNatClampNeg)) (fun D2 => bd2 (F_X12_finish x1 D2) (fun r4 D5 => F_X12_without_274  D5)))
set_option maxHeartbeats 4000000 in
set_option maxRecDepth 100000 in
theorem B_X12_without_257 {p : Program} {l : Launch} {e : Env} {s : State} {m : MethodId} {args : Array Value} {below : List Frame} {meth : Method} {c : Code} {g : GP} {Z : St} (hC : CX p s m args c cX12_without RX12 g) (hE : EZ g s s.heap) (hml : c.maxLocals = 5) (hr : meth.sig.returnType = none) (hlk : meth.locks = false) {r : Int32} {C2 : St} {x1 : Int32} {C : St} (h : F_X12_without_257  x1 C = some (r, C2)) {ed : Nat → Nat} {H : Heap} {locs : List Loc} {ls : Array Slot} (hH : HW g ed Z C H) (hS : va_S (gP g) s.heap H locs) (hl : lv_has ls 5 [(0, .ref (gA g 50 0)), (1, .int x1)]) : W p l e ({ frames := 6, cells := 0, slots := 0, locals := 138 } : Room) s m args below meth c H locs 0 0 (MQ below (QG none g Z C2) args s 0 0 (gP g)) (F0 m 257 ls []) := by
  unfold F_X12_without_257 at h
  refine lv_aload_n hC.1 hC.2.1 dX12_without_257 rfl (lv_at hl 0 rfl) ?_
  refine gf_RX12_47 hC hH rfl dX12_without_258 ?_
  refine lv_iload_n hC.1 hC.2.1 dX12_without_261 rfl (lv_at hl 1 rfl) ?_
  refine lv_aload_n hC.1 hC.2.1 dX12_without_262 rfl (lv_at hl 0 rfl) ?_
  refine gf_RX12_50 hC hH rfl dX12_without_263 ?_
  refine lv_iload_n hC.1 hC.2.1 dX12_without_266 rfl (lv_at hl 1 rfl) ?_
  obtain ⟨hg1, h⟩ := gd_some h
  refine al_120 hC hH hg1 rfl dX12_without_267 ?_
  obtain ⟨D2, e3, h⟩ := st_some h
  refine as_119 hC hH hS hg1 rfl dX12_without_268 (fun H locs hH hS => ?_)
  rw [← e3] at hH
  refine lv_aload_n hC.1 hC.2.1 dX12_without_269 rfl (lv_at hl 0 rfl) ?_
  refine lv_iload_n hC.1 hC.2.1 dX12_without_270 rfl (lv_at hl 1 rfl) ?_
  obtain ⟨r4, D5, hF6, h⟩ := bd2_some h
  refine gcallV (As := [.int x1]) (rest := []) (Cn := RX12) hC hE hml hH hS (c_X12_finish hF6) ⟨wd_1392, wd_1394, wp_44, wd_17, wd_1395⟩ hd_X12_finish rfl rfl ⟨Nat.le_of_ble_eq_true rfl, Nat.le_of_ble_eq_true rfl⟩ rfl (hw_recv (q := 50) (i := 0) hC hH ⟨Nat.zero_lt_one, fun h => absurd h (by decide)⟩ rfl rfl) rfl hl.1 rfl (Nat.le_of_ble_eq_true rfl) dX12_without_271 ⟨Nat.le_of_ble_eq_true rfl, Nat.le_of_ble_eq_true rfl⟩ (fun ed H locs hH hS => ?_)
  refine W.eq (g2 := F0 m 274 ls []) rfl ?_
  exact B_X12_without_274 hC hE hml hr hlk h hH hS (lv_sub hl [] rfl)
def F_X12_without (x1 : Int32) (x2 : Int32) (x3 : Int32) (C : St) : Option (Int32 × St) := if x2 = 0 then (bd2 (F_X12_finish x1 C) (fun r2 D3 => gd (inb x1 6) (st (up D3 116 0 0 x1.toNatClampNeg (1 : Int32)) (fun D6 => F_X12_without_274  D6)))) else (if x2 = 1 then (F_X12_without_257 x1 C) else (if x2 = 2 then (F_X12_without_257 x1 C) else (if x2 = 3 then (F_X12_without_257 x1 C) else (if x2 = 4 then (F_X12_without_257 x1 C) else (if x2 = 5 then (F_X12_without_257 x1 C) else (if x2 = 6 then (F_X12_without_257 x1 C) else (if x2 = 7 then (F_X12_without_107 x1 x2 x3 C) else (if x2 = 8 then (F_X12_without_107 x1 x2 x3 C) else (if x2 = 9 then (F_X12_without_107 x1 x2 x3 C) else (if x2 = 10 then (F_X12_without_257 x1 C) else (if x2 = 11 then (F_X12_without_257 x1 C) else (if x2 = 12 then (F_X12_without_257 x1 C) else (if x2 = 13 then (bd2 (F_X12_read x1 C) (fun r21 D22 => F_X12_without_274  D22)) else (if x2 = 14 then (bd2 (F_X12_print x1 C) (fun r25 D26 => F_X12_without_274  D26)) else (if x2 = 15 then (bd2 (F_X12_say ((48 : Int32) + x1) C) (fun r29 D30 => bd2 (F_X12_say (63 : Int32) D30) (fun r32 D33 => bd2 (F_X12_say (10 : Int32) D33) (fun r35 D36 => bd2 (F_X12_pause x1 (5 : Int32) D36) (fun r38 D39 => F_X12_without_274  D39))))) else (if x2 = 16 then (bd2 (F_X12_get x1 x3 C) (fun r42 D43 => F_X12_without_274  D43)) else (if x2 = 17 then (bd2 (F_X12_give x1 x3 C) (fun r46 D47 => F_X12_without_274  D47)) else (if x2 = 18 then (gd (inb x1 6) (st (up C 119 0 0 x1.toNatClampNeg x3) (fun D51 => bd2 (F_X12_finish x1 D51) (fun r53 D54 => F_X12_without_274  D54)))) else (F_X12_without_257 x1 C)))))))))))))))))))
set_option maxHeartbeats 4000000 in
set_option maxRecDepth 100000 in
theorem c_X12_without {l : Launch} {g : GP} {ed : Nat → Nat} {Z : St} {x1 : Int32} {x2 : Int32} {x3 : Int32} {C : St} {r : Int32} {C2 : St} (h : F_X12_without x1 x2 x3 C = some (r, C2)) : Met l yX12_without (Cond.code yX12_without cX12_without 5 none :: lwG) ({ frames := 6, cells := 0, slots := 0, locals := 138 } : Room) (va_Pc [.ref (gA g 50 0), .int x1, .int x2, .int x3] (PW g Z C ed)) (QG none g Z C2) 0 0 (gP g) := by
  refine Met.ofW (cc := cX12_without) (maxL := 5) (ret := none) (by decide +kernel) rfl ?_
  intro p e s m args below meth c s₁ B hml hv
  obtain ⟨ha, hC, hE, hr, hlk, hH⟩ := g_start B hv
  subst ha
  have hC : CX p s m ([.ref (gA g 50 0), .int x1, .int x2, .int x3] : List Value).toArray c cX12_without RX12 g := hC
  have hS : va_S (gP g) s.heap s.heap [] := va_S.rf
  obtain ⟨ls, he, hl⟩ := g_entry m (vs := [.ref (gA g 50 0), .int x1, .int x2, .int x3]) (n := 5) (List.forall_mem_cons.mpr ⟨rfl, (List.forall_mem_cons.mpr ⟨rfl, (List.forall_mem_cons.mpr ⟨rfl, (List.forall_mem_cons.mpr ⟨rfl, (fun _ h => absurd h List.not_mem_nil)⟩)⟩)⟩)⟩) (Nat.le_of_ble_eq_true rfl)
  rw [he]
  have hl : lv_has ls 5 [(0, .ref (gA g 50 0)), (1, .int x1), (2, .int x2), (3, .int x3)] := hl
  unfold F_X12_without at h
  refine lv_iload_n hC.1 hC.2.1 dX12_without_0 rfl (lv_at hl 2 rfl) ?_
  by_cases hs1 : x2 = 0
  · rw [if_pos hs1] at h
    refine lv_tableIn (x := x2) (off := 91) (tgt := 92) hC.1 hC.2.1 dX12_without_1 (by rw [hs1]; decide) (by rw [hs1]; decide) (by rw [hs1]; rfl) (by decide) ?_
    refine lv_aload_n hC.1 hC.2.1 dX12_without_92 rfl (lv_at hl 0 rfl) ?_
    refine lv_iload_n hC.1 hC.2.1 dX12_without_93 rfl (lv_at hl 1 rfl) ?_
    obtain ⟨r2, D3, hF4, h⟩ := bd2_some h
    refine gcallV (As := [.int x1]) (rest := []) (Cn := RX12) hC hE hml hH hS (c_X12_finish hF4) ⟨wd_1392, wd_1394, wp_44, wd_17, wd_1395⟩ hd_X12_finish rfl rfl ⟨Nat.le_of_ble_eq_true rfl, Nat.le_of_ble_eq_true rfl⟩ rfl (hw_recv (q := 50) (i := 0) hC hH ⟨Nat.zero_lt_one, fun h => absurd h (by decide)⟩ rfl rfl) rfl hl.1 rfl (Nat.le_of_ble_eq_true rfl) dX12_without_94 ⟨Nat.le_of_ble_eq_true rfl, Nat.le_of_ble_eq_true rfl⟩ (fun ed H locs hH hS => ?_)
    refine W.eq (g2 := F0 m 97 ls []) rfl ?_
    refine lv_aload_n hC.1 hC.2.1 dX12_without_97 rfl (lv_at hl 0 rfl) ?_
    refine gf_RX12_38 hC hH rfl dX12_without_98 ?_
    refine lv_iload_n hC.1 hC.2.1 dX12_without_101 rfl (lv_at hl 1 rfl) ?_
    refine lv_iconst (v := (1 : Int32)) hC.1 hC.2.1 dX12_without_102 (by decide) ?_
    obtain ⟨hg5, h⟩ := gd_some h
    obtain ⟨D6, e7, h⟩ := st_some h
    refine as_116 hC hH hS hg5 rfl dX12_without_103 (fun H locs hH hS => ?_)
    rw [← e7] at hH
    refine lv_goto (tgt := 274) hC.1 hC.2.1 dX12_without_104 (by decide) ?_
    exact B_X12_without_274 hC hE hml hr hlk h hH hS (lv_sub hl [] rfl)
  · rw [if_neg hs1] at h
    by_cases hs8 : x2 = 1
    · rw [if_pos hs8] at h
      refine lv_tableIn (x := x2) (off := 256) (tgt := 257) hC.1 hC.2.1 dX12_without_1 (by rw [hs8]; decide) (by rw [hs8]; decide) (by rw [hs8]; rfl) (by decide) ?_
      exact B_X12_without_257 hC hE hml hr hlk h hH hS (lv_sub hl [0, 1] rfl)
    · rw [if_neg hs8] at h
      by_cases hs9 : x2 = 2
      · rw [if_pos hs9] at h
        refine lv_tableIn (x := x2) (off := 256) (tgt := 257) hC.1 hC.2.1 dX12_without_1 (by rw [hs9]; decide) (by rw [hs9]; decide) (by rw [hs9]; rfl) (by decide) ?_
        exact B_X12_without_257 hC hE hml hr hlk h hH hS (lv_sub hl [0, 1] rfl)
      · rw [if_neg hs9] at h
        by_cases hs10 : x2 = 3
        · rw [if_pos hs10] at h
          refine lv_tableIn (x := x2) (off := 256) (tgt := 257) hC.1 hC.2.1 dX12_without_1 (by rw [hs10]; decide) (by rw [hs10]; decide) (by rw [hs10]; rfl) (by decide) ?_
          exact B_X12_without_257 hC hE hml hr hlk h hH hS (lv_sub hl [0, 1] rfl)
        · rw [if_neg hs10] at h
          by_cases hs11 : x2 = 4
          · rw [if_pos hs11] at h
            refine lv_tableIn (x := x2) (off := 256) (tgt := 257) hC.1 hC.2.1 dX12_without_1 (by rw [hs11]; decide) (by rw [hs11]; decide) (by rw [hs11]; rfl) (by decide) ?_
            exact B_X12_without_257 hC hE hml hr hlk h hH hS (lv_sub hl [0, 1] rfl)
          · rw [if_neg hs11] at h
            by_cases hs12 : x2 = 5
            · rw [if_pos hs12] at h
              refine lv_tableIn (x := x2) (off := 256) (tgt := 257) hC.1 hC.2.1 dX12_without_1 (by rw [hs12]; decide) (by rw [hs12]; decide) (by rw [hs12]; rfl) (by decide) ?_
              exact B_X12_without_257 hC hE hml hr hlk h hH hS (lv_sub hl [0, 1] rfl)
            · rw [if_neg hs12] at h
              by_cases hs13 : x2 = 6
              · rw [if_pos hs13] at h
                refine lv_tableIn (x := x2) (off := 256) (tgt := 257) hC.1 hC.2.1 dX12_without_1 (by rw [hs13]; decide) (by rw [hs13]; decide) (by rw [hs13]; rfl) (by decide) ?_
                exact B_X12_without_257 hC hE hml hr hlk h hH hS (lv_sub hl [0, 1] rfl)
              · rw [if_neg hs13] at h
                by_cases hs14 : x2 = 7
                · rw [if_pos hs14] at h
                  refine lv_tableIn (x := x2) (off := 106) (tgt := 107) hC.1 hC.2.1 dX12_without_1 (by rw [hs14]; decide) (by rw [hs14]; decide) (by rw [hs14]; rfl) (by decide) ?_
                  exact B_X12_without_107 hC hE hml hr hlk h hH hS (lv_sub hl [0, 1, 2, 3] rfl)
                · rw [if_neg hs14] at h
                  by_cases hs15 : x2 = 8
                  · rw [if_pos hs15] at h
                    refine lv_tableIn (x := x2) (off := 106) (tgt := 107) hC.1 hC.2.1 dX12_without_1 (by rw [hs15]; decide) (by rw [hs15]; decide) (by rw [hs15]; rfl) (by decide) ?_
                    exact B_X12_without_107 hC hE hml hr hlk h hH hS (lv_sub hl [0, 1, 2, 3] rfl)
                  · rw [if_neg hs15] at h
                    by_cases hs16 : x2 = 9
                    · rw [if_pos hs16] at h
                      refine lv_tableIn (x := x2) (off := 106) (tgt := 107) hC.1 hC.2.1 dX12_without_1 (by rw [hs16]; decide) (by rw [hs16]; decide) (by rw [hs16]; rfl) (by decide) ?_
                      exact B_X12_without_107 hC hE hml hr hlk h hH hS (lv_sub hl [0, 1, 2, 3] rfl)
                    · rw [if_neg hs16] at h
                      by_cases hs17 : x2 = 10
                      · rw [if_pos hs17] at h
                        refine lv_tableIn (x := x2) (off := 256) (tgt := 257) hC.1 hC.2.1 dX12_without_1 (by rw [hs17]; decide) (by rw [hs17]; decide) (by rw [hs17]; rfl) (by decide) ?_
                        exact B_X12_without_257 hC hE hml hr hlk h hH hS (lv_sub hl [0, 1] rfl)
                      · rw [if_neg hs17] at h
                        by_cases hs18 : x2 = 11
                        · rw [if_pos hs18] at h
                          refine lv_tableIn (x := x2) (off := 256) (tgt := 257) hC.1 hC.2.1 dX12_without_1 (by rw [hs18]; decide) (by rw [hs18]; decide) (by rw [hs18]; rfl) (by decide) ?_
                          exact B_X12_without_257 hC hE hml hr hlk h hH hS (lv_sub hl [0, 1] rfl)
                        · rw [if_neg hs18] at h
                          by_cases hs19 : x2 = 12
                          · rw [if_pos hs19] at h
                            refine lv_tableIn (x := x2) (off := 256) (tgt := 257) hC.1 hC.2.1 dX12_without_1 (by rw [hs19]; decide) (by rw [hs19]; decide) (by rw [hs19]; rfl) (by decide) ?_
                            exact B_X12_without_257 hC hE hml hr hlk h hH hS (lv_sub hl [0, 1] rfl)
                          · rw [if_neg hs19] at h
                            by_cases hs20 : x2 = 13
                            · rw [if_pos hs20] at h
                              refine lv_tableIn (x := x2) (off := 178) (tgt := 179) hC.1 hC.2.1 dX12_without_1 (by rw [hs20]; decide) (by rw [hs20]; decide) (by rw [hs20]; rfl) (by decide) ?_
                              refine lv_aload_n hC.1 hC.2.1 dX12_without_179 rfl (lv_at hl 0 rfl) ?_
                              refine lv_iload_n hC.1 hC.2.1 dX12_without_180 rfl (lv_at hl 1 rfl) ?_
                              obtain ⟨r21, D22, hF23, h⟩ := bd2_some h
                              refine gcallV (As := [.int x1]) (rest := []) (Cn := RX12) hC hE hml hH hS (c_X12_read hF23) ⟨wd_1429, wd_1431, wp_53, wd_17, wd_1432⟩ hd_X12_read rfl rfl ⟨Nat.le_of_ble_eq_true rfl, Nat.le_of_ble_eq_true rfl⟩ rfl (hw_recv (q := 50) (i := 0) hC hH ⟨Nat.zero_lt_one, fun h => absurd h (by decide)⟩ rfl rfl) rfl hl.1 rfl (Nat.le_of_ble_eq_true rfl) dX12_without_181 ⟨Nat.le_of_ble_eq_true rfl, Nat.le_of_ble_eq_true rfl⟩ (fun ed H locs hH hS => ?_)
                              refine W.eq (g2 := F0 m 184 ls []) rfl ?_
                              refine lv_goto (tgt := 274) hC.1 hC.2.1 dX12_without_184 (by decide) ?_
                              exact B_X12_without_274 hC hE hml hr hlk h hH hS (lv_sub hl [] rfl)
                            · rw [if_neg hs20] at h
                              by_cases hs24 : x2 = 14
                              · rw [if_pos hs24] at h
                                refine lv_tableIn (x := x2) (off := 186) (tgt := 187) hC.1 hC.2.1 dX12_without_1 (by rw [hs24]; decide) (by rw [hs24]; decide) (by rw [hs24]; rfl) (by decide) ?_
                                refine lv_aload_n hC.1 hC.2.1 dX12_without_187 rfl (lv_at hl 0 rfl) ?_
                                refine lv_iload_n hC.1 hC.2.1 dX12_without_188 rfl (lv_at hl 1 rfl) ?_
                                obtain ⟨r25, D26, hF27, h⟩ := bd2_some h
                                refine gcallV (As := [.int x1]) (rest := []) (Cn := RX12) hC hE hml hH hS (c_X12_print hF27) ⟨wd_1433, wd_1435, wp_54, wd_17, wd_1436⟩ hd_X12_print rfl rfl ⟨Nat.le_of_ble_eq_true rfl, Nat.le_of_ble_eq_true rfl⟩ rfl (hw_recv (q := 50) (i := 0) hC hH ⟨Nat.zero_lt_one, fun h => absurd h (by decide)⟩ rfl rfl) rfl hl.1 rfl (Nat.le_of_ble_eq_true rfl) dX12_without_189 ⟨Nat.le_of_ble_eq_true rfl, Nat.le_of_ble_eq_true rfl⟩ (fun ed H locs hH hS => ?_)
                                refine W.eq (g2 := F0 m 192 ls []) rfl ?_
                                refine lv_goto (tgt := 274) hC.1 hC.2.1 dX12_without_192 (by decide) ?_
                                exact B_X12_without_274 hC hE hml hr hlk h hH hS (lv_sub hl [] rfl)
                              · rw [if_neg hs24] at h
                                by_cases hs28 : x2 = 15
                                · rw [if_pos hs28] at h
                                  refine lv_tableIn (x := x2) (off := 194) (tgt := 195) hC.1 hC.2.1 dX12_without_1 (by rw [hs28]; decide) (by rw [hs28]; decide) (by rw [hs28]; rfl) (by decide) ?_
                                  refine lv_aload_n hC.1 hC.2.1 dX12_without_195 rfl (lv_at hl 0 rfl) ?_
                                  refine lv_bipush (v := (48 : Int32)) hC.1 hC.2.1 dX12_without_196 (by decide) ?_
                                  refine lv_iload_n hC.1 hC.2.1 dX12_without_198 rfl (lv_at hl 1 rfl) ?_
                                  refine lv_iadd hC.1 hC.2.1 dX12_without_199 ?_
                                  obtain ⟨r29, D30, hF31, h⟩ := bd2_some h
                                  refine gcallV (As := [.int ((48 : Int32) + x1)]) (rest := []) (Cn := RX12) hC hE hml hH hS (c_X12_say hF31) ⟨wd_1364, wd_1366, wp_37, wd_17, wd_1367⟩ hd_X12_say rfl rfl ⟨Nat.le_of_ble_eq_true rfl, Nat.le_of_ble_eq_true rfl⟩ rfl (hw_recv (q := 50) (i := 0) hC hH ⟨Nat.zero_lt_one, fun h => absurd h (by decide)⟩ rfl rfl) rfl hl.1 rfl (Nat.le_of_ble_eq_true rfl) dX12_without_200 ⟨Nat.le_of_ble_eq_true rfl, Nat.le_of_ble_eq_true rfl⟩ (fun ed H locs hH hS => ?_)
                                  refine W.eq (g2 := F0 m 203 ls []) rfl ?_
                                  refine lv_aload_n hC.1 hC.2.1 dX12_without_203 rfl (lv_at hl 0 rfl) ?_
                                  refine lv_bipush (v := (63 : Int32)) hC.1 hC.2.1 dX12_without_204 (by decide) ?_
                                  obtain ⟨r32, D33, hF34, h⟩ := bd2_some h
                                  refine gcallV (As := [.int (63 : Int32)]) (rest := []) (Cn := RX12) hC hE hml hH hS (c_X12_say hF34) ⟨wd_1364, wd_1366, wp_37, wd_17, wd_1367⟩ hd_X12_say rfl rfl ⟨Nat.le_of_ble_eq_true rfl, Nat.le_of_ble_eq_true rfl⟩ rfl (hw_recv (q := 50) (i := 0) hC hH ⟨Nat.zero_lt_one, fun h => absurd h (by decide)⟩ rfl rfl) rfl hl.1 rfl (Nat.le_of_ble_eq_true rfl) dX12_without_206 ⟨Nat.le_of_ble_eq_true rfl, Nat.le_of_ble_eq_true rfl⟩ (fun ed H locs hH hS => ?_)
                                  refine W.eq (g2 := F0 m 209 ls []) rfl ?_
                                  refine lv_aload_n hC.1 hC.2.1 dX12_without_209 rfl (lv_at hl 0 rfl) ?_
                                  refine lv_bipush (v := (10 : Int32)) hC.1 hC.2.1 dX12_without_210 (by decide) ?_
                                  obtain ⟨r35, D36, hF37, h⟩ := bd2_some h
                                  refine gcallV (As := [.int (10 : Int32)]) (rest := []) (Cn := RX12) hC hE hml hH hS (c_X12_say hF37) ⟨wd_1364, wd_1366, wp_37, wd_17, wd_1367⟩ hd_X12_say rfl rfl ⟨Nat.le_of_ble_eq_true rfl, Nat.le_of_ble_eq_true rfl⟩ rfl (hw_recv (q := 50) (i := 0) hC hH ⟨Nat.zero_lt_one, fun h => absurd h (by decide)⟩ rfl rfl) rfl hl.1 rfl (Nat.le_of_ble_eq_true rfl) dX12_without_212 ⟨Nat.le_of_ble_eq_true rfl, Nat.le_of_ble_eq_true rfl⟩ (fun ed H locs hH hS => ?_)
                                  refine W.eq (g2 := F0 m 215 ls []) rfl ?_
                                  refine lv_aload_n hC.1 hC.2.1 dX12_without_215 rfl (lv_at hl 0 rfl) ?_
                                  refine lv_iload_n hC.1 hC.2.1 dX12_without_216 rfl (lv_at hl 1 rfl) ?_
                                  refine lv_iconst (v := (5 : Int32)) hC.1 hC.2.1 dX12_without_217 (by decide) ?_
                                  obtain ⟨r38, D39, hF40, h⟩ := bd2_some h
                                  refine gcallV (As := [.int x1, .int (5 : Int32)]) (rest := []) (Cn := RX12) hC hE hml hH hS (c_X12_pause hF40) ⟨wd_1360, wd_1362, wp_36, wd_17, wd_1363⟩ hd_X12_pause rfl rfl ⟨Nat.le_of_ble_eq_true rfl, Nat.le_of_ble_eq_true rfl⟩ rfl (hw_recv (q := 50) (i := 0) hC hH ⟨Nat.zero_lt_one, fun h => absurd h (by decide)⟩ rfl rfl) rfl hl.1 rfl (Nat.le_of_ble_eq_true rfl) dX12_without_218 ⟨Nat.le_of_ble_eq_true rfl, Nat.le_of_ble_eq_true rfl⟩ (fun ed H locs hH hS => ?_)
                                  refine W.eq (g2 := F0 m 221 ls []) rfl ?_
                                  refine lv_goto (tgt := 274) hC.1 hC.2.1 dX12_without_221 (by decide) ?_
                                  exact B_X12_without_274 hC hE hml hr hlk h hH hS (lv_sub hl [] rfl)
                                · rw [if_neg hs28] at h
                                  by_cases hs41 : x2 = 16
                                  · rw [if_pos hs41] at h
                                    refine lv_tableIn (x := x2) (off := 223) (tgt := 224) hC.1 hC.2.1 dX12_without_1 (by rw [hs41]; decide) (by rw [hs41]; decide) (by rw [hs41]; rfl) (by decide) ?_
                                    refine lv_aload_n hC.1 hC.2.1 dX12_without_224 rfl (lv_at hl 0 rfl) ?_
                                    refine lv_iload_n hC.1 hC.2.1 dX12_without_225 rfl (lv_at hl 1 rfl) ?_
                                    refine lv_iload_n hC.1 hC.2.1 dX12_without_226 rfl (lv_at hl 3 rfl) ?_
                                    obtain ⟨r42, D43, hF44, h⟩ := bd2_some h
                                    refine gcallV (As := [.int x1, .int x3]) (rest := []) (Cn := RX12) hC hE hml hH hS (c_X12_get hF44) ⟨wd_1437, wd_1439, wp_55, wd_17, wd_1440⟩ hd_X12_get rfl rfl ⟨Nat.le_of_ble_eq_true rfl, Nat.le_of_ble_eq_true rfl⟩ rfl (hw_recv (q := 50) (i := 0) hC hH ⟨Nat.zero_lt_one, fun h => absurd h (by decide)⟩ rfl rfl) rfl hl.1 rfl (Nat.le_of_ble_eq_true rfl) dX12_without_227 ⟨Nat.le_of_ble_eq_true rfl, Nat.le_of_ble_eq_true rfl⟩ (fun ed H locs hH hS => ?_)
                                    refine W.eq (g2 := F0 m 230 ls []) rfl ?_
                                    refine lv_goto (tgt := 274) hC.1 hC.2.1 dX12_without_230 (by decide) ?_
                                    exact B_X12_without_274 hC hE hml hr hlk h hH hS (lv_sub hl [] rfl)
                                  · rw [if_neg hs41] at h
                                    by_cases hs45 : x2 = 17
                                    · rw [if_pos hs45] at h
                                      refine lv_tableIn (x := x2) (off := 232) (tgt := 233) hC.1 hC.2.1 dX12_without_1 (by rw [hs45]; decide) (by rw [hs45]; decide) (by rw [hs45]; rfl) (by decide) ?_
                                      refine lv_aload_n hC.1 hC.2.1 dX12_without_233 rfl (lv_at hl 0 rfl) ?_
                                      refine lv_iload_n hC.1 hC.2.1 dX12_without_234 rfl (lv_at hl 1 rfl) ?_
                                      refine lv_iload_n hC.1 hC.2.1 dX12_without_235 rfl (lv_at hl 3 rfl) ?_
                                      obtain ⟨r46, D47, hF48, h⟩ := bd2_some h
                                      refine gcallV (As := [.int x1, .int x3]) (rest := []) (Cn := RX12) hC hE hml hH hS (c_X12_give hF48) ⟨wd_1441, wd_1443, wp_56, wd_17, wd_1444⟩ hd_X12_give rfl rfl ⟨Nat.le_of_ble_eq_true rfl, Nat.le_of_ble_eq_true rfl⟩ rfl (hw_recv (q := 50) (i := 0) hC hH ⟨Nat.zero_lt_one, fun h => absurd h (by decide)⟩ rfl rfl) rfl hl.1 rfl (Nat.le_of_ble_eq_true rfl) dX12_without_236 ⟨Nat.le_of_ble_eq_true rfl, Nat.le_of_ble_eq_true rfl⟩ (fun ed H locs hH hS => ?_)
                                      refine W.eq (g2 := F0 m 239 ls []) rfl ?_
                                      refine lv_goto (tgt := 274) hC.1 hC.2.1 dX12_without_239 (by decide) ?_
                                      exact B_X12_without_274 hC hE hml hr hlk h hH hS (lv_sub hl [] rfl)
                                    · rw [if_neg hs45] at h
                                      by_cases hs49 : x2 = 18
                                      · rw [if_pos hs49] at h
                                        refine lv_tableIn (x := x2) (off := 241) (tgt := 242) hC.1 hC.2.1 dX12_without_1 (by rw [hs49]; decide) (by rw [hs49]; decide) (by rw [hs49]; rfl) (by decide) ?_
                                        refine lv_aload_n hC.1 hC.2.1 dX12_without_242 rfl (lv_at hl 0 rfl) ?_
                                        refine gf_RX12_47 hC hH rfl dX12_without_243 ?_
                                        refine lv_iload_n hC.1 hC.2.1 dX12_without_246 rfl (lv_at hl 1 rfl) ?_
                                        refine lv_iload_n hC.1 hC.2.1 dX12_without_247 rfl (lv_at hl 3 rfl) ?_
                                        obtain ⟨hg50, h⟩ := gd_some h
                                        obtain ⟨D51, e52, h⟩ := st_some h
                                        refine as_119 hC hH hS hg50 rfl dX12_without_248 (fun H locs hH hS => ?_)
                                        rw [← e52] at hH
                                        refine lv_aload_n hC.1 hC.2.1 dX12_without_249 rfl (lv_at hl 0 rfl) ?_
                                        refine lv_iload_n hC.1 hC.2.1 dX12_without_250 rfl (lv_at hl 1 rfl) ?_
                                        obtain ⟨r53, D54, hF55, h⟩ := bd2_some h
                                        refine gcallV (As := [.int x1]) (rest := []) (Cn := RX12) hC hE hml hH hS (c_X12_finish hF55) ⟨wd_1392, wd_1394, wp_44, wd_17, wd_1395⟩ hd_X12_finish rfl rfl ⟨Nat.le_of_ble_eq_true rfl, Nat.le_of_ble_eq_true rfl⟩ rfl (hw_recv (q := 50) (i := 0) hC hH ⟨Nat.zero_lt_one, fun h => absurd h (by decide)⟩ rfl rfl) rfl hl.1 rfl (Nat.le_of_ble_eq_true rfl) dX12_without_251 ⟨Nat.le_of_ble_eq_true rfl, Nat.le_of_ble_eq_true rfl⟩ (fun ed H locs hH hS => ?_)
                                        refine W.eq (g2 := F0 m 254 ls []) rfl ?_
                                        refine lv_goto (tgt := 274) hC.1 hC.2.1 dX12_without_254 (by decide) ?_
                                        exact B_X12_without_274 hC hE hml hr hlk h hH hS (lv_sub hl [] rfl)
                                      · rw [if_neg hs49] at h
                                        have q0 := lv_neT (a := 0) hs1 (by decide)
                                        have q1 := lv_neT (a := 1) hs8 (by decide)
                                        have q2 := lv_neT (a := 2) hs9 (by decide)
                                        have q3 := lv_neT (a := 3) hs10 (by decide)
                                        have q4 := lv_neT (a := 4) hs11 (by decide)
                                        have q5 := lv_neT (a := 5) hs12 (by decide)
                                        have q6 := lv_neT (a := 6) hs13 (by decide)
                                        have q7 := lv_neT (a := 7) hs14 (by decide)
                                        have q8 := lv_neT (a := 8) hs15 (by decide)
                                        have q9 := lv_neT (a := 9) hs16 (by decide)
                                        have q10 := lv_neT (a := 10) hs17 (by decide)
                                        have q11 := lv_neT (a := 11) hs18 (by decide)
                                        have q12 := lv_neT (a := 12) hs19 (by decide)
                                        have q13 := lv_neT (a := 13) hs20 (by decide)
                                        have q14 := lv_neT (a := 14) hs24 (by decide)
                                        have q15 := lv_neT (a := 15) hs28 (by decide)
                                        have q16 := lv_neT (a := 16) hs41 (by decide)
                                        have q17 := lv_neT (a := 17) hs45 (by decide)
                                        have q18 := lv_neT (a := 18) hs49 (by decide)
                                        refine lv_tableOut (x := x2) (tgt := 257) hC.1 hC.2.1 dX12_without_1 (by omega) (by decide) ?_
                                        exact B_X12_without_257 hC hE hml hr hlk h hH hS (lv_sub hl [0, 1] rfl)
def F_X12_instruction_73  (x1 : Int32) (x2 : Int32) (C : St) : Option (Int32 × St) := gd (inb x2 12) (st (up C 141 0 0 x2.toNatClampNeg (C 50 0 5 0)) (fun D2 => gd (inb x1 6) (st (up D2 116 0 0 x1.toNatClampNeg (4 : Int32)) (fun D5 => some (0, D5)))))
set_option maxHeartbeats 4000000 in
set_option maxRecDepth 100000 in
theorem B_X12_instruction_73 {p : Program} {l : Launch} {e : Env} {s : State} {m : MethodId} {args : Array Value} {below : List Frame} {meth : Method} {c : Code} {g : GP} {Z : St} (hC : CX p s m args c cX12_instruction RX12 g) (hE : EZ g s s.heap) (hml : c.maxLocals = 9) (hr : meth.sig.returnType = none) (hlk : meth.locks = false) {r : Int32} {C2 : St} {x1 : Int32} {x2 : Int32} {C : St} (h : F_X12_instruction_73  x1 x2 C = some (r, C2)) {ed : Nat → Nat} {H : Heap} {locs : List Loc} {ls : Array Slot} (hH : HW g ed Z C H) (hS : va_S (gP g) s.heap H locs) (hl : lv_has ls 9 [(0, .ref (gA g 50 0)), (1, .int x1), (2, .int x2)]) : W p l e ({ frames := 7, cells := 0, slots := 0, locals := 162 } : Room) s m args below meth c H locs 0 0 (MQ below (QG none g Z C2) args s 0 0 (gP g)) (F0 m 73 ls []) := by
  unfold F_X12_instruction_73 at h
  refine lv_aload_n hC.1 hC.2.1 dX12_instruction_73 rfl (lv_at hl 0 rfl) ?_
  refine gf_RX12_110 hC hH rfl dX12_instruction_74 ?_
  refine lv_iload_n hC.1 hC.2.1 dX12_instruction_77 rfl (lv_at hl 2 rfl) ?_
  refine lv_aload_n hC.1 hC.2.1 dX12_instruction_78 rfl (lv_at hl 0 rfl) ?_
  refine gf_RX12_167 hC hH rfl dX12_instruction_79 ?_
  obtain ⟨hg1, h⟩ := gd_some h
  obtain ⟨D2, e3, h⟩ := st_some h
  refine as_141 hC hH hS hg1 rfl dX12_instruction_82 (fun H locs hH hS => ?_)
  rw [← e3] at hH
  refine lv_aload_n hC.1 hC.2.1 dX12_instruction_83 rfl (lv_at hl 0 rfl) ?_
  refine gf_RX12_38 hC hH rfl dX12_instruction_84 ?_
  refine lv_iload_n hC.1 hC.2.1 dX12_instruction_87 rfl (lv_at hl 1 rfl) ?_
  refine lv_iconst (v := (4 : Int32)) hC.1 hC.2.1 dX12_instruction_88 (by decide) ?_
  obtain ⟨hg4, h⟩ := gd_some h
  obtain ⟨D5, e6, h⟩ := st_some h
  refine as_116 hC hH hS hg4 rfl dX12_instruction_89 (fun H locs hH hS => ?_)
  rw [← e6] at hH
  cases h
  exact gret_v hC hr hlk hH hS (Nat.le_of_ble_eq_true rfl) (Nat.le_of_ble_eq_true rfl) dX12_instruction_90
def F_X12_instruction_186  (x1 : Int32) (x2 : Int32) (C : St) : Option (Int32 × St) := gd (inb x2 12) (st (up C 141 0 0 x2.toNatClampNeg (C 50 0 5 0)) (fun D2 => gd (inb x1 6) (st (up D2 116 0 0 x1.toNatClampNeg (4 : Int32)) (fun D5 => some (0, D5)))))
set_option maxHeartbeats 4000000 in
set_option maxRecDepth 100000 in
theorem B_X12_instruction_186 {p : Program} {l : Launch} {e : Env} {s : State} {m : MethodId} {args : Array Value} {below : List Frame} {meth : Method} {c : Code} {g : GP} {Z : St} (hC : CX p s m args c cX12_instruction RX12 g) (hE : EZ g s s.heap) (hml : c.maxLocals = 9) (hr : meth.sig.returnType = none) (hlk : meth.locks = false) {r : Int32} {C2 : St} {x1 : Int32} {x2 : Int32} {C : St} (h : F_X12_instruction_186  x1 x2 C = some (r, C2)) {ed : Nat → Nat} {H : Heap} {locs : List Loc} {ls : Array Slot} (hH : HW g ed Z C H) (hS : va_S (gP g) s.heap H locs) (hl : lv_has ls 9 [(0, .ref (gA g 50 0)), (1, .int x1), (2, .int x2)]) : W p l e ({ frames := 7, cells := 0, slots := 0, locals := 162 } : Room) s m args below meth c H locs 0 0 (MQ below (QG none g Z C2) args s 0 0 (gP g)) (F0 m 186 ls []) := by
  unfold F_X12_instruction_186 at h
  refine lv_aload_n hC.1 hC.2.1 dX12_instruction_186 rfl (lv_at hl 0 rfl) ?_
  refine gf_RX12_110 hC hH rfl dX12_instruction_187 ?_
  refine lv_iload_n hC.1 hC.2.1 dX12_instruction_190 rfl (lv_at hl 2 rfl) ?_
  refine lv_aload_n hC.1 hC.2.1 dX12_instruction_191 rfl (lv_at hl 0 rfl) ?_
  refine gf_RX12_167 hC hH rfl dX12_instruction_192 ?_
  obtain ⟨hg1, h⟩ := gd_some h
  obtain ⟨D2, e3, h⟩ := st_some h
  refine as_141 hC hH hS hg1 rfl dX12_instruction_195 (fun H locs hH hS => ?_)
  rw [← e3] at hH
  refine lv_aload_n hC.1 hC.2.1 dX12_instruction_196 rfl (lv_at hl 0 rfl) ?_
  refine gf_RX12_38 hC hH rfl dX12_instruction_197 ?_
  refine lv_iload_n hC.1 hC.2.1 dX12_instruction_200 rfl (lv_at hl 1 rfl) ?_
  refine lv_iconst (v := (4 : Int32)) hC.1 hC.2.1 dX12_instruction_201 (by decide) ?_
  obtain ⟨hg4, h⟩ := gd_some h
  obtain ⟨D5, e6, h⟩ := st_some h
  refine as_116 hC hH hS hg4 rfl dX12_instruction_202 (fun H locs hH hS => ?_)
  rw [← e6] at hH
  cases h
  exact gret_v hC hr hlk hH hS (Nat.le_of_ble_eq_true rfl) (Nat.le_of_ble_eq_true rfl) dX12_instruction_203
def F_X12_instruction_159  (x1 : Int32) (x2 : Int32) (x4 : Int32) (t0 : Int64) (t1 : Int64) (C : St) : Option (Int32 × St) := if (lg_cmp (t1 + t0) (0 : Int64)) < 0 then (F_X12_instruction_186 x1 x2 C) else (gd (inb x1 6) (if (lg_cmp (t1 + t0) ((16 : Int64) * ((C 122 0 0 x1.toNatClampNeg).toInt64))) < 0 then (bd2 (F_X12_frameOf x1 (((t1 + t0).toInt32) / (16 : Int32)) C) (fun r4 D5 => if r4 = (-1 : Int32) then (bd2 (F_X12_want x1 (((t1 + t0).toInt32) / (16 : Int32)) D5) (fun r17 D18 => some (0, D18))) else (gd (inb x2 12) (st (up D5 141 0 0 x2.toNatClampNeg (D5 50 0 5 0)) (fun D9 => gd (inb r4 12) (st (up D9 141 0 0 r4.toNatClampNeg (D9 50 0 5 0)) (fun D12 => bd2 (F_X12_withWord x1 x4 r4 (((16 : Int32) * r4) + (((t1 + t0).toInt32) - ((t1 + t0).toInt32) / (16 : Int32) * (16 : Int32))) D12) (fun r14 D15 => some (0, D15))))))))) else (F_X12_instruction_186 x1 x2 C)))
set_option maxHeartbeats 4000000 in
set_option maxRecDepth 100000 in
theorem B_X12_instruction_159 {p : Program} {l : Launch} {e : Env} {s : State} {m : MethodId} {args : Array Value} {below : List Frame} {meth : Method} {c : Code} {g : GP} {Z : St} (hC : CX p s m args c cX12_instruction RX12 g) (hE : EZ g s s.heap) (hml : c.maxLocals = 9) (hr : meth.sig.returnType = none) (hlk : meth.locks = false) {r : Int32} {C2 : St} {x1 : Int32} {x2 : Int32} {x4 : Int32} {t0 : Int64} {t1 : Int64} {C : St} (h : F_X12_instruction_159  x1 x2 x4 t0 t1 C = some (r, C2)) {ed : Nat → Nat} {H : Heap} {locs : List Loc} {ls : Array Slot} (hH : HW g ed Z C H) (hS : va_S (gP g) s.heap H locs) (hl : lv_has ls 9 [(0, .ref (gA g 50 0)), (1, .int x1), (2, .int x2), (4, .int x4)]) : W p l e ({ frames := 7, cells := 0, slots := 0, locals := 162 } : Room) s m args below meth c H locs 0 0 (MQ below (QG none g Z C2) args s 0 0 (gP g)) (F0 m 159 ls [.long t0, .long t1]) := by
  unfold F_X12_instruction_159 at h
  refine lv_ladd hC.1 hC.2.1 dX12_instruction_159 ?_
  refine lv_lstore (lv' := [(6, .long (t1 + t0)), (0, .ref (gA g 50 0)), (1, .int x1), (2, .int x2), (4, .int x4)]) hC.1 hC.2.1 dX12_instruction_160 hl (by decide) rfl (fun ls hl => ?_)
  refine lv_lload hC.1 hC.2.1 dX12_instruction_162 (lv_at hl 0 rfl) ?_
  refine lv_lconst (v := (0 : Int64)) hC.1 hC.2.1 dX12_instruction_164 (by decide) ?_
  refine W.lcmp hC.1 hC.2.1 dX12_instruction_165 ?_
  refine lv_if_lt (tgt := 186) hC.1 hC.2.1 dX12_instruction_166 (by decide) (fun hc1 => ?_) (fun hc1 => ?_)
  · rw [if_pos hc1] at h
    exact B_X12_instruction_186 hC hE hml hr hlk h hH hS (lv_sub hl [1, 2, 3] rfl)
  · rw [if_neg hc1] at h
    refine lv_lload hC.1 hC.2.1 dX12_instruction_169 (lv_at hl 0 rfl) ?_
    refine lv_ldc2 hC.1 hC.2.1 hC.2.2.1 (hC.2.2.2.1 _ wd_1420) dX12_instruction_171 ?_
    refine lv_aload_n hC.1 hC.2.1 dX12_instruction_174 rfl (lv_at hl 1 rfl) ?_
    refine gf_RX12_56 hC hH rfl dX12_instruction_175 ?_
    refine lv_iload_n hC.1 hC.2.1 dX12_instruction_178 rfl (lv_at hl 2 rfl) ?_
    obtain ⟨hg2, h⟩ := gd_some h
    refine al_122 hC hH hg2 rfl dX12_instruction_179 ?_
    refine lv_i2l hC.1 hC.2.1 dX12_instruction_180 rfl ?_
    refine lv_lmul hC.1 hC.2.1 dX12_instruction_181 ?_
    refine W.lcmp hC.1 hC.2.1 dX12_instruction_182 ?_
    refine lv_if_lt (tgt := 204) hC.1 hC.2.1 dX12_instruction_183 (by decide) (fun hc3 => ?_) (fun hc3 => ?_)
    · rw [if_pos hc3] at h
      refine lv_aload_n hC.1 hC.2.1 dX12_instruction_204 rfl (lv_at hl 1 rfl) ?_
      refine lv_iload_n hC.1 hC.2.1 dX12_instruction_205 rfl (lv_at hl 2 rfl) ?_
      refine lv_lload hC.1 hC.2.1 dX12_instruction_206 (lv_at hl 0 rfl) ?_
      refine lv_l2i hC.1 hC.2.1 dX12_instruction_208 rfl ?_
      refine lv_bipush (v := (16 : Int32)) hC.1 hC.2.1 dX12_instruction_209 (by decide) ?_
      refine lv_idiv hC.1 hC.2.1 dX12_instruction_211 (by decide) ?_
      obtain ⟨r4, D5, hF6, h⟩ := bd2_some h
      refine gcallV (As := [.int x1, .int (((t1 + t0).toInt32) / (16 : Int32))]) (rest := []) (Cn := RX12) hC hE hml hH hS (c_X12_frameOf hF6) ⟨wd_1408, wd_1410, wp_48, wd_17, wd_1411⟩ hd_X12_frameOf rfl rfl ⟨Nat.le_of_ble_eq_true rfl, Nat.le_of_ble_eq_true rfl⟩ rfl (hw_recv (q := 50) (i := 0) hC hH ⟨Nat.zero_lt_one, fun h => absurd h (by decide)⟩ rfl rfl) rfl hl.1 rfl (Nat.le_of_ble_eq_true rfl) dX12_instruction_212 ⟨Nat.le_of_ble_eq_true rfl, Nat.le_of_ble_eq_true rfl⟩ (fun ed H locs hH hS => ?_)
      refine W.eq (g2 := F0 m 215 ls [.int r4]) rfl ?_
      refine lv_istore (lv' := [(8, .int r4), (6, .long (t1 + t0)), (0, .ref (gA g 50 0)), (1, .int x1), (2, .int x2), (4, .int x4)]) hC.1 hC.2.1 dX12_instruction_215 hl (by decide) rfl (fun ls hl => ?_)
      refine lv_iload hC.1 hC.2.1 dX12_instruction_217 (lv_at hl 0 rfl) ?_
      refine lv_iconst (v := (-1 : Int32)) hC.1 hC.2.1 dX12_instruction_219 (by decide) ?_
      refine lv_icmp_ne (tgt := 235) hC.1 hC.2.1 dX12_instruction_220 (by decide) (fun hc7 => ?_) (fun hc7 => ?_)
      · rw [if_neg hc7] at h
        refine lv_aload_n hC.1 hC.2.1 dX12_instruction_235 rfl (lv_at hl 2 rfl) ?_
        refine gf_RX12_110 hC hH rfl dX12_instruction_236 ?_
        refine lv_iload_n hC.1 hC.2.1 dX12_instruction_239 rfl (lv_at hl 4 rfl) ?_
        refine lv_aload_n hC.1 hC.2.1 dX12_instruction_240 rfl (lv_at hl 2 rfl) ?_
        refine gf_RX12_167 hC hH rfl dX12_instruction_241 ?_
        obtain ⟨hg8, h⟩ := gd_some h
        obtain ⟨D9, e10, h⟩ := st_some h
        refine as_141 hC hH hS hg8 rfl dX12_instruction_244 (fun H locs hH hS => ?_)
        rw [← e10] at hH
        refine lv_aload_n hC.1 hC.2.1 dX12_instruction_245 rfl (lv_at hl 2 rfl) ?_
        refine gf_RX12_110 hC hH rfl dX12_instruction_246 ?_
        refine lv_iload hC.1 hC.2.1 dX12_instruction_249 (lv_at hl 0 rfl) ?_
        refine lv_aload_n hC.1 hC.2.1 dX12_instruction_251 rfl (lv_at hl 2 rfl) ?_
        refine gf_RX12_167 hC hH rfl dX12_instruction_252 ?_
        obtain ⟨hg11, h⟩ := gd_some h
        obtain ⟨D12, e13, h⟩ := st_some h
        refine as_141 hC hH hS hg11 rfl dX12_instruction_255 (fun H locs hH hS => ?_)
        rw [← e13] at hH
        refine lv_aload_n hC.1 hC.2.1 dX12_instruction_256 rfl (lv_at hl 2 rfl) ?_
        refine lv_iload_n hC.1 hC.2.1 dX12_instruction_257 rfl (lv_at hl 3 rfl) ?_
        refine lv_iload hC.1 hC.2.1 dX12_instruction_258 (lv_at hl 5 rfl) ?_
        refine lv_iload hC.1 hC.2.1 dX12_instruction_260 (lv_at hl 0 rfl) ?_
        refine lv_bipush (v := (16 : Int32)) hC.1 hC.2.1 dX12_instruction_262 (by decide) ?_
        refine lv_iload hC.1 hC.2.1 dX12_instruction_264 (lv_at hl 0 rfl) ?_
        refine lv_imul hC.1 hC.2.1 dX12_instruction_266 ?_
        refine lv_lload hC.1 hC.2.1 dX12_instruction_267 (lv_at hl 1 rfl) ?_
        refine lv_l2i hC.1 hC.2.1 dX12_instruction_269 rfl ?_
        refine lv_bipush (v := (16 : Int32)) hC.1 hC.2.1 dX12_instruction_270 (by decide) ?_
        refine lv_irem hC.1 hC.2.1 dX12_instruction_272 (by decide) ?_
        refine lv_iadd hC.1 hC.2.1 dX12_instruction_273 ?_
        obtain ⟨r14, D15, hF16, h⟩ := bd2_some h
        refine gcallV (As := [.int x1, .int x4, .int r4, .int (((16 : Int32) * r4) + (((t1 + t0).toInt32) - ((t1 + t0).toInt32) / (16 : Int32) * (16 : Int32)))]) (rest := []) (Cn := RX12) hC hE hml hH hS (c_X12_withWord hF16) ⟨wd_1421, wd_1423, wp_51, wd_17, wd_1424⟩ hd_X12_withWord rfl rfl ⟨Nat.le_of_ble_eq_true rfl, Nat.le_of_ble_eq_true rfl⟩ rfl (hw_recv (q := 50) (i := 0) hC hH ⟨Nat.zero_lt_one, fun h => absurd h (by decide)⟩ rfl rfl) rfl hl.1 rfl (Nat.le_of_ble_eq_true rfl) dX12_instruction_274 ⟨Nat.le_of_ble_eq_true rfl, Nat.le_of_ble_eq_true rfl⟩ (fun ed H locs hH hS => ?_)
        refine W.eq (g2 := F0 m 277 ls []) rfl ?_
        cases h
        exact gret_v hC hr hlk hH hS (Nat.le_of_ble_eq_true rfl) (Nat.le_of_ble_eq_true rfl) dX12_instruction_277
      · rw [if_pos hc7] at h
        refine lv_aload_n hC.1 hC.2.1 dX12_instruction_223 rfl (lv_at hl 2 rfl) ?_
        refine lv_iload_n hC.1 hC.2.1 dX12_instruction_224 rfl (lv_at hl 3 rfl) ?_
        refine lv_lload hC.1 hC.2.1 dX12_instruction_225 (lv_at hl 1 rfl) ?_
        refine lv_l2i hC.1 hC.2.1 dX12_instruction_227 rfl ?_
        refine lv_bipush (v := (16 : Int32)) hC.1 hC.2.1 dX12_instruction_228 (by decide) ?_
        refine lv_idiv hC.1 hC.2.1 dX12_instruction_230 (by decide) ?_
        obtain ⟨r17, D18, hF19, h⟩ := bd2_some h
        refine gcallV (As := [.int x1, .int (((t1 + t0).toInt32) / (16 : Int32))]) (rest := []) (Cn := RX12) hC hE hml hH hS (c_X12_want hF19) ⟨wd_1412, wd_1414, wp_49, wd_17, wd_1415⟩ hd_X12_want rfl rfl ⟨Nat.le_of_ble_eq_true rfl, Nat.le_of_ble_eq_true rfl⟩ rfl (hw_recv (q := 50) (i := 0) hC hH ⟨Nat.zero_lt_one, fun h => absurd h (by decide)⟩ rfl rfl) rfl hl.1 rfl (Nat.le_of_ble_eq_true rfl) dX12_instruction_231 ⟨Nat.le_of_ble_eq_true rfl, Nat.le_of_ble_eq_true rfl⟩ (fun ed H locs hH hS => ?_)
        refine W.eq (g2 := F0 m 234 ls []) rfl ?_
        cases h
        exact gret_v hC hr hlk hH hS (Nat.le_of_ble_eq_true rfl) (Nat.le_of_ble_eq_true rfl) dX12_instruction_234
    · rw [if_neg hc3] at h
      exact B_X12_instruction_186 hC hE hml hr hlk h hH hS (lv_sub hl [1, 2, 3] rfl)
def F_X12_instruction_137  (x1 : Int32) (x2 : Int32) (x3 : Int32) (x4 : Int32) (x5 : Int32) (C : St) : Option (Int32 × St) := if x5 = 0 then (F_X12_instruction_159 x1 x2 x4 (0 : Int64) ((x3 - x3 / (256 : Int32) * (256 : Int32)).toInt64) C) else (gd (inb x1 6) (F_X12_instruction_159 x1 x2 x4 ((C 120 0 0 x1.toNatClampNeg).toInt64) ((x3 - x3 / (256 : Int32) * (256 : Int32)).toInt64) C))
set_option maxHeartbeats 4000000 in
set_option maxRecDepth 100000 in
theorem B_X12_instruction_137 {p : Program} {l : Launch} {e : Env} {s : State} {m : MethodId} {args : Array Value} {below : List Frame} {meth : Method} {c : Code} {g : GP} {Z : St} (hC : CX p s m args c cX12_instruction RX12 g) (hE : EZ g s s.heap) (hml : c.maxLocals = 9) (hr : meth.sig.returnType = none) (hlk : meth.locks = false) {r : Int32} {C2 : St} {x1 : Int32} {x2 : Int32} {x3 : Int32} {x4 : Int32} {x5 : Int32} {C : St} (h : F_X12_instruction_137  x1 x2 x3 x4 x5 C = some (r, C2)) {ed : Nat → Nat} {H : Heap} {locs : List Loc} {ls : Array Slot} (hH : HW g ed Z C H) (hS : va_S (gP g) s.heap H locs) (hl : lv_has ls 9 [(0, .ref (gA g 50 0)), (1, .int x1), (2, .int x2), (3, .int x3), (4, .int x4), (5, .int x5)]) : W p l e ({ frames := 7, cells := 0, slots := 0, locals := 162 } : Room) s m args below meth c H locs 0 0 (MQ below (QG none g Z C2) args s 0 0 (gP g)) (F0 m 137 ls []) := by
  unfold F_X12_instruction_137 at h
  refine lv_iload_n hC.1 hC.2.1 dX12_instruction_137 rfl (lv_at hl 3 rfl) ?_
  refine lv_sipush (v := (256 : Int32)) hC.1 hC.2.1 dX12_instruction_138 (by decide) ?_
  refine lv_irem hC.1 hC.2.1 dX12_instruction_141 (by decide) ?_
  refine lv_i2l hC.1 hC.2.1 dX12_instruction_142 rfl ?_
  refine lv_iload hC.1 hC.2.1 dX12_instruction_143 (lv_at hl 5 rfl) ?_
  refine lv_if_eq (tgt := 158) hC.1 hC.2.1 dX12_instruction_145 (by decide) (fun hc1 => ?_) (fun hc1 => ?_)
  · rw [if_pos hc1] at h
    refine lv_lconst (v := (0 : Int64)) hC.1 hC.2.1 dX12_instruction_158 (by decide) ?_
    exact B_X12_instruction_159 hC hE hml hr hlk h hH hS (lv_sub hl [0, 1, 2, 4] rfl)
  · rw [if_neg hc1] at h
    refine lv_aload_n hC.1 hC.2.1 dX12_instruction_148 rfl (lv_at hl 0 rfl) ?_
    refine gf_RX12_50 hC hH rfl dX12_instruction_149 ?_
    refine lv_iload_n hC.1 hC.2.1 dX12_instruction_152 rfl (lv_at hl 1 rfl) ?_
    obtain ⟨hg2, h⟩ := gd_some h
    refine al_120 hC hH hg2 rfl dX12_instruction_153 ?_
    refine lv_i2l hC.1 hC.2.1 dX12_instruction_154 rfl ?_
    refine lv_goto (tgt := 159) hC.1 hC.2.1 dX12_instruction_155 (by decide) ?_
    exact B_X12_instruction_159 hC hE hml hr hlk h hH hS (lv_sub hl [0, 1, 2, 4] rfl)
def F_X12_instruction_125  (x1 : Int32) (x2 : Int32) (x3 : Int32) (x4 : Int32) (x5 : Int32) (C : St) : Option (Int32 × St) := if x4 = (10 : Int32) then (F_X12_instruction_137 x1 x2 x3 x4 x5 C) else (if x5 = 0 then (gd (inb x2 12) (st (up C 141 0 0 x2.toNatClampNeg (C 50 0 5 0)) (fun D4 => bd2 (F_X12_without x1 x4 (x3 - x3 / (256 : Int32) * (256 : Int32)) D4) (fun r6 D7 => some (0, D7))))) else (F_X12_instruction_137 x1 x2 x3 x4 x5 C))
set_option maxHeartbeats 4000000 in
set_option maxRecDepth 100000 in
theorem B_X12_instruction_125 {p : Program} {l : Launch} {e : Env} {s : State} {m : MethodId} {args : Array Value} {below : List Frame} {meth : Method} {c : Code} {g : GP} {Z : St} (hC : CX p s m args c cX12_instruction RX12 g) (hE : EZ g s s.heap) (hml : c.maxLocals = 9) (hr : meth.sig.returnType = none) (hlk : meth.locks = false) {r : Int32} {C2 : St} {x1 : Int32} {x2 : Int32} {x3 : Int32} {x4 : Int32} {x5 : Int32} {C : St} (h : F_X12_instruction_125  x1 x2 x3 x4 x5 C = some (r, C2)) {ed : Nat → Nat} {H : Heap} {locs : List Loc} {ls : Array Slot} (hH : HW g ed Z C H) (hS : va_S (gP g) s.heap H locs) (hl : lv_has ls 9 [(0, .ref (gA g 50 0)), (1, .int x1), (2, .int x2), (3, .int x3), (4, .int x4), (5, .int x5)]) : W p l e ({ frames := 7, cells := 0, slots := 0, locals := 162 } : Room) s m args below meth c H locs 0 0 (MQ below (QG none g Z C2) args s 0 0 (gP g)) (F0 m 125 ls []) := by
  unfold F_X12_instruction_125 at h
  refine lv_iload hC.1 hC.2.1 dX12_instruction_125 (lv_at hl 4 rfl) ?_
  refine lv_bipush (v := (10 : Int32)) hC.1 hC.2.1 dX12_instruction_127 (by decide) ?_
  refine lv_icmp_eq (tgt := 137) hC.1 hC.2.1 dX12_instruction_129 (by decide) (fun hc1 => ?_) (fun hc1 => ?_)
  · rw [if_pos hc1] at h
    exact B_X12_instruction_137 hC hE hml hr hlk h hH hS (lv_sub hl [0, 1, 2, 3, 4, 5] rfl)
  · rw [if_neg hc1] at h
    refine lv_iload hC.1 hC.2.1 dX12_instruction_132 (lv_at hl 5 rfl) ?_
    refine lv_if_eq (tgt := 278) hC.1 hC.2.1 dX12_instruction_134 (by decide) (fun hc2 => ?_) (fun hc2 => ?_)
    · rw [if_pos hc2] at h
      refine lv_aload_n hC.1 hC.2.1 dX12_instruction_278 rfl (lv_at hl 0 rfl) ?_
      refine gf_RX12_110 hC hH rfl dX12_instruction_279 ?_
      refine lv_iload_n hC.1 hC.2.1 dX12_instruction_282 rfl (lv_at hl 2 rfl) ?_
      refine lv_aload_n hC.1 hC.2.1 dX12_instruction_283 rfl (lv_at hl 0 rfl) ?_
      refine gf_RX12_167 hC hH rfl dX12_instruction_284 ?_
      obtain ⟨hg3, h⟩ := gd_some h
      obtain ⟨D4, e5, h⟩ := st_some h
      refine as_141 hC hH hS hg3 rfl dX12_instruction_287 (fun H locs hH hS => ?_)
      rw [← e5] at hH
      refine lv_aload_n hC.1 hC.2.1 dX12_instruction_288 rfl (lv_at hl 0 rfl) ?_
      refine lv_iload_n hC.1 hC.2.1 dX12_instruction_289 rfl (lv_at hl 1 rfl) ?_
      refine lv_iload hC.1 hC.2.1 dX12_instruction_290 (lv_at hl 4 rfl) ?_
      refine lv_iload_n hC.1 hC.2.1 dX12_instruction_292 rfl (lv_at hl 3 rfl) ?_
      refine lv_sipush (v := (256 : Int32)) hC.1 hC.2.1 dX12_instruction_293 (by decide) ?_
      refine lv_irem hC.1 hC.2.1 dX12_instruction_296 (by decide) ?_
      obtain ⟨r6, D7, hF8, h⟩ := bd2_some h
      refine gcallV (As := [.int x1, .int x4, .int (x3 - x3 / (256 : Int32) * (256 : Int32))]) (rest := []) (Cn := RX12) hC hE hml hH hS (c_X12_without hF8) ⟨wd_1425, wd_1427, wp_52, wd_17, wd_1428⟩ hd_X12_without rfl rfl ⟨Nat.le_of_ble_eq_true rfl, Nat.le_of_ble_eq_true rfl⟩ rfl (hw_recv (q := 50) (i := 0) hC hH ⟨Nat.zero_lt_one, fun h => absurd h (by decide)⟩ rfl rfl) rfl hl.1 rfl (Nat.le_of_ble_eq_true rfl) dX12_instruction_297 ⟨Nat.le_of_ble_eq_true rfl, Nat.le_of_ble_eq_true rfl⟩ (fun ed H locs hH hS => ?_)
      refine W.eq (g2 := F0 m 300 ls []) rfl ?_
      cases h
      exact gret_v hC hr hlk hH hS (Nat.le_of_ble_eq_true rfl) (Nat.le_of_ble_eq_true rfl) dX12_instruction_300
    · rw [if_neg hc2] at h
      exact B_X12_instruction_137 hC hE hml hr hlk h hH hS (lv_sub hl [0, 1, 2, 3, 4, 5] rfl)
def F_X12_instruction_110  (x1 : Int32) (x2 : Int32) (x3 : Int32) (x4 : Int32) (t0 : Int32) (C : St) : Option (Int32 × St) := if x4 < (1 : Int32) then (F_X12_instruction_125 x1 x2 x3 x4 t0 C) else (if x4 ≤ (6 : Int32) then (F_X12_instruction_137 x1 x2 x3 x4 t0 C) else (F_X12_instruction_125 x1 x2 x3 x4 t0 C))
set_option maxHeartbeats 4000000 in
set_option maxRecDepth 100000 in
theorem B_X12_instruction_110 {p : Program} {l : Launch} {e : Env} {s : State} {m : MethodId} {args : Array Value} {below : List Frame} {meth : Method} {c : Code} {g : GP} {Z : St} (hC : CX p s m args c cX12_instruction RX12 g) (hE : EZ g s s.heap) (hml : c.maxLocals = 9) (hr : meth.sig.returnType = none) (hlk : meth.locks = false) {r : Int32} {C2 : St} {x1 : Int32} {x2 : Int32} {x3 : Int32} {x4 : Int32} {t0 : Int32} {C : St} (h : F_X12_instruction_110  x1 x2 x3 x4 t0 C = some (r, C2)) {ed : Nat → Nat} {H : Heap} {locs : List Loc} {ls : Array Slot} (hH : HW g ed Z C H) (hS : va_S (gP g) s.heap H locs) (hl : lv_has ls 9 [(0, .ref (gA g 50 0)), (1, .int x1), (2, .int x2), (3, .int x3), (4, .int x4)]) : W p l e ({ frames := 7, cells := 0, slots := 0, locals := 162 } : Room) s m args below meth c H locs 0 0 (MQ below (QG none g Z C2) args s 0 0 (gP g)) (F0 m 110 ls [.int t0]) := by
  unfold F_X12_instruction_110 at h
  refine lv_istore (lv' := [(5, .int t0), (0, .ref (gA g 50 0)), (1, .int x1), (2, .int x2), (3, .int x3), (4, .int x4)]) hC.1 hC.2.1 dX12_instruction_110 hl (by decide) rfl (fun ls hl => ?_)
  refine lv_iload hC.1 hC.2.1 dX12_instruction_112 (lv_at hl 5 rfl) ?_
  refine lv_iconst (v := (1 : Int32)) hC.1 hC.2.1 dX12_instruction_114 (by decide) ?_
  refine lv_icmp_lt (tgt := 125) hC.1 hC.2.1 dX12_instruction_115 (by decide) (fun hc1 => ?_) (fun hc1 => ?_)
  · rw [if_pos hc1] at h
    exact B_X12_instruction_125 hC hE hml hr hlk h hH hS (lv_sub hl [1, 2, 3, 4, 5, 0] rfl)
  · rw [if_neg hc1] at h
    refine lv_iload hC.1 hC.2.1 dX12_instruction_118 (lv_at hl 5 rfl) ?_
    refine lv_bipush (v := (6 : Int32)) hC.1 hC.2.1 dX12_instruction_120 (by decide) ?_
    refine lv_icmp_le (tgt := 137) hC.1 hC.2.1 dX12_instruction_122 (by decide) (fun hc2 => ?_) (fun hc2 => ?_)
    · rw [if_pos hc2] at h
      exact B_X12_instruction_137 hC hE hml hr hlk h hH hS (lv_sub hl [1, 2, 3, 4, 5, 0] rfl)
    · rw [if_neg hc2] at h
      exact B_X12_instruction_125 hC hE hml hr hlk h hH hS (lv_sub hl [1, 2, 3, 4, 5, 0] rfl)
def F_X12_instruction_105  (x1 : Int32) (x2 : Int32) (x3 : Int32) (x4 : Int32) (C : St) : Option (Int32 × St) := F_X12_instruction_110 x1 x2 x3 x4 (1 : Int32) C
set_option maxHeartbeats 4000000 in
set_option maxRecDepth 100000 in
theorem B_X12_instruction_105 {p : Program} {l : Launch} {e : Env} {s : State} {m : MethodId} {args : Array Value} {below : List Frame} {meth : Method} {c : Code} {g : GP} {Z : St} (hC : CX p s m args c cX12_instruction RX12 g) (hE : EZ g s s.heap) (hml : c.maxLocals = 9) (hr : meth.sig.returnType = none) (hlk : meth.locks = false) {r : Int32} {C2 : St} {x1 : Int32} {x2 : Int32} {x3 : Int32} {x4 : Int32} {C : St} (h : F_X12_instruction_105  x1 x2 x3 x4 C = some (r, C2)) {ed : Nat → Nat} {H : Heap} {locs : List Loc} {ls : Array Slot} (hH : HW g ed Z C H) (hS : va_S (gP g) s.heap H locs) (hl : lv_has ls 9 [(0, .ref (gA g 50 0)), (1, .int x1), (2, .int x2), (3, .int x3), (4, .int x4)]) : W p l e ({ frames := 7, cells := 0, slots := 0, locals := 162 } : Room) s m args below meth c H locs 0 0 (MQ below (QG none g Z C2) args s 0 0 (gP g)) (F0 m 105 ls []) := by
  unfold F_X12_instruction_105 at h
  refine lv_iconst (v := (1 : Int32)) hC.1 hC.2.1 dX12_instruction_105 (by decide) ?_
  refine lv_goto (tgt := 110) hC.1 hC.2.1 dX12_instruction_106 (by decide) ?_
  exact B_X12_instruction_110 hC hE hml hr hlk h hH hS (lv_sub hl [0, 1, 2, 3, 4] rfl)
def F_X12_instruction (x1 : Int32) (C : St) : Option (Int32 × St) := gd (inb x1 6) (bd2 (F_X12_frameOf x1 ((C 118 0 0 x1.toNatClampNeg) / (16 : Int32)) C) (fun r2 D3 => if r2 = (-1 : Int32) then (bd2 (F_X12_want x1 ((D3 118 0 0 x1.toNatClampNeg) / (16 : Int32)) D3) (fun r11 D12 => some (0, D12))) else (gd (inb (((16 : Int32) * r2) + ((D3 118 0 0 x1.toNatClampNeg) - (D3 118 0 0 x1.toNatClampNeg) / (16 : Int32) * (16 : Int32))) 192) (if (D3 138 0 0 (((16 : Int32) * r2) + ((D3 118 0 0 x1.toNatClampNeg) - (D3 118 0 0 x1.toNatClampNeg) / (16 : Int32) * (16 : Int32))).toNatClampNeg) < 0 then (F_X12_instruction_73 x1 r2 D3) else (if ((D3 138 0 0 (((16 : Int32) * r2) + ((D3 118 0 0 x1.toNatClampNeg) - (D3 118 0 0 x1.toNatClampNeg) / (16 : Int32) * (16 : Int32))).toNatClampNeg) / (256 : Int32)) ≤ (19 : Int32) then (if ((D3 138 0 0 (((16 : Int32) * r2) + ((D3 118 0 0 x1.toNatClampNeg) - (D3 118 0 0 x1.toNatClampNeg) / (16 : Int32) * (16 : Int32))).toNatClampNeg) / (256 : Int32)) = (11 : Int32) then (F_X12_instruction_105 x1 r2 (D3 138 0 0 (((16 : Int32) * r2) + ((D3 118 0 0 x1.toNatClampNeg) - (D3 118 0 0 x1.toNatClampNeg) / (16 : Int32) * (16 : Int32))).toNatClampNeg) ((D3 138 0 0 (((16 : Int32) * r2) + ((D3 118 0 0 x1.toNatClampNeg) - (D3 118 0 0 x1.toNatClampNeg) / (16 : Int32) * (16 : Int32))).toNatClampNeg) / (256 : Int32)) D3) else (if ((D3 138 0 0 (((16 : Int32) * r2) + ((D3 118 0 0 x1.toNatClampNeg) - (D3 118 0 0 x1.toNatClampNeg) / (16 : Int32) * (16 : Int32))).toNatClampNeg) / (256 : Int32)) = (12 : Int32) then (F_X12_instruction_105 x1 r2 (D3 138 0 0 (((16 : Int32) * r2) + ((D3 118 0 0 x1.toNatClampNeg) - (D3 118 0 0 x1.toNatClampNeg) / (16 : Int32) * (16 : Int32))).toNatClampNeg) ((D3 138 0 0 (((16 : Int32) * r2) + ((D3 118 0 0 x1.toNatClampNeg) - (D3 118 0 0 x1.toNatClampNeg) / (16 : Int32) * (16 : Int32))).toNatClampNeg) / (256 : Int32)) D3) else (F_X12_instruction_110 x1 r2 (D3 138 0 0 (((16 : Int32) * r2) + ((D3 118 0 0 x1.toNatClampNeg) - (D3 118 0 0 x1.toNatClampNeg) / (16 : Int32) * (16 : Int32))).toNatClampNeg) ((D3 138 0 0 (((16 : Int32) * r2) + ((D3 118 0 0 x1.toNatClampNeg) - (D3 118 0 0 x1.toNatClampNeg) / (16 : Int32) * (16 : Int32))).toNatClampNeg) / (256 : Int32)) (0 : Int32) D3))) else (F_X12_instruction_73 x1 r2 D3))))))
set_option maxHeartbeats 4000000 in
set_option maxRecDepth 100000 in
theorem c_X12_instruction {l : Launch} {g : GP} {ed : Nat → Nat} {Z : St} {x1 : Int32} {C : St} {r : Int32} {C2 : St} (h : F_X12_instruction x1 C = some (r, C2)) : Met l yX12_instruction (Cond.code yX12_instruction cX12_instruction 9 none :: lwG) ({ frames := 7, cells := 0, slots := 0, locals := 162 } : Room) (va_Pc [.ref (gA g 50 0), .int x1] (PW g Z C ed)) (QG none g Z C2) 0 0 (gP g) := by
  refine Met.ofW (cc := cX12_instruction) (maxL := 9) (ret := none) (by decide +kernel) rfl ?_
  intro p e s m args below meth c s₁ B hml hv
  obtain ⟨ha, hC, hE, hr, hlk, hH⟩ := g_start B hv
  subst ha
  have hC : CX p s m ([.ref (gA g 50 0), .int x1] : List Value).toArray c cX12_instruction RX12 g := hC
  have hS : va_S (gP g) s.heap s.heap [] := va_S.rf
  obtain ⟨ls, he, hl⟩ := g_entry m (vs := [.ref (gA g 50 0), .int x1]) (n := 9) (List.forall_mem_cons.mpr ⟨rfl, (List.forall_mem_cons.mpr ⟨rfl, (fun _ h => absurd h List.not_mem_nil)⟩)⟩) (Nat.le_of_ble_eq_true rfl)
  rw [he]
  have hl : lv_has ls 9 [(0, .ref (gA g 50 0)), (1, .int x1)] := hl
  unfold F_X12_instruction at h
  refine lv_aload_n hC.1 hC.2.1 dX12_instruction_0 rfl (lv_at hl 0 rfl) ?_
  refine lv_iload_n hC.1 hC.2.1 dX12_instruction_1 rfl (lv_at hl 1 rfl) ?_
  refine lv_aload_n hC.1 hC.2.1 dX12_instruction_2 rfl (lv_at hl 0 rfl) ?_
  refine gf_RX12_44 hC hH rfl dX12_instruction_3 ?_
  refine lv_iload_n hC.1 hC.2.1 dX12_instruction_6 rfl (lv_at hl 1 rfl) ?_
  obtain ⟨hg1, h⟩ := gd_some h
  refine al_118 hC hH hg1 rfl dX12_instruction_7 ?_
  refine lv_bipush (v := (16 : Int32)) hC.1 hC.2.1 dX12_instruction_8 (by decide) ?_
  refine lv_idiv hC.1 hC.2.1 dX12_instruction_10 (by decide) ?_
  obtain ⟨r2, D3, hF4, h⟩ := bd2_some h
  refine gcallV (As := [.int x1, .int ((C 118 0 0 x1.toNatClampNeg) / (16 : Int32))]) (rest := []) (Cn := RX12) hC hE hml hH hS (c_X12_frameOf hF4) ⟨wd_1408, wd_1410, wp_48, wd_17, wd_1411⟩ hd_X12_frameOf rfl rfl ⟨Nat.le_of_ble_eq_true rfl, Nat.le_of_ble_eq_true rfl⟩ rfl (hw_recv (q := 50) (i := 0) hC hH ⟨Nat.zero_lt_one, fun h => absurd h (by decide)⟩ rfl rfl) rfl hl.1 rfl (Nat.le_of_ble_eq_true rfl) dX12_instruction_11 ⟨Nat.le_of_ble_eq_true rfl, Nat.le_of_ble_eq_true rfl⟩ (fun ed H locs hH hS => ?_)
  refine W.eq (g2 := F0 m 14 ls [.int r2]) rfl ?_
  refine lv_istore_n (i := 2) (lv' := [(2, .int r2), (0, .ref (gA g 50 0)), (1, .int x1)]) hC.1 hC.2.1 dX12_instruction_14 rfl hl (by decide) rfl (fun ls hl => ?_)
  refine lv_iload_n hC.1 hC.2.1 dX12_instruction_15 rfl (lv_at hl 0 rfl) ?_
  refine lv_iconst (v := (-1 : Int32)) hC.1 hC.2.1 dX12_instruction_16 (by decide) ?_
  refine lv_icmp_ne (tgt := 35) hC.1 hC.2.1 dX12_instruction_17 (by decide) (fun hc5 => ?_) (fun hc5 => ?_)
  · rw [if_neg hc5] at h
    refine lv_aload_n hC.1 hC.2.1 dX12_instruction_35 rfl (lv_at hl 1 rfl) ?_
    refine gf_RX12_101 hC hH rfl dX12_instruction_36 ?_
    refine lv_bipush (v := (16 : Int32)) hC.1 hC.2.1 dX12_instruction_39 (by decide) ?_
    refine lv_iload_n hC.1 hC.2.1 dX12_instruction_41 rfl (lv_at hl 0 rfl) ?_
    refine lv_imul hC.1 hC.2.1 dX12_instruction_42 ?_
    refine lv_aload_n hC.1 hC.2.1 dX12_instruction_43 rfl (lv_at hl 1 rfl) ?_
    refine gf_RX12_44 hC hH rfl dX12_instruction_44 ?_
    refine lv_iload_n hC.1 hC.2.1 dX12_instruction_47 rfl (lv_at hl 2 rfl) ?_
    refine al_118 hC hH hg1 rfl dX12_instruction_48 ?_
    refine lv_bipush (v := (16 : Int32)) hC.1 hC.2.1 dX12_instruction_49 (by decide) ?_
    refine lv_irem hC.1 hC.2.1 dX12_instruction_51 (by decide) ?_
    refine lv_iadd hC.1 hC.2.1 dX12_instruction_52 ?_
    obtain ⟨hg6, h⟩ := gd_some h
    refine al_138 hC hH hg6 rfl dX12_instruction_53 ?_
    refine lv_istore_n (i := 3) (lv' := [(3, .int (D3 138 0 0 (((16 : Int32) * r2) + ((D3 118 0 0 x1.toNatClampNeg) - (D3 118 0 0 x1.toNatClampNeg) / (16 : Int32) * (16 : Int32))).toNatClampNeg)), (2, .int r2), (0, .ref (gA g 50 0)), (1, .int x1)]) hC.1 hC.2.1 dX12_instruction_54 rfl hl (by decide) rfl (fun ls hl => ?_)
    refine lv_iload_n hC.1 hC.2.1 dX12_instruction_55 rfl (lv_at hl 0 rfl) ?_
    refine lv_sipush (v := (256 : Int32)) hC.1 hC.2.1 dX12_instruction_56 (by decide) ?_
    refine lv_idiv hC.1 hC.2.1 dX12_instruction_59 (by decide) ?_
    refine lv_istore (lv' := [(4, .int ((D3 138 0 0 (((16 : Int32) * r2) + ((D3 118 0 0 x1.toNatClampNeg) - (D3 118 0 0 x1.toNatClampNeg) / (16 : Int32) * (16 : Int32))).toNatClampNeg) / (256 : Int32))), (3, .int (D3 138 0 0 (((16 : Int32) * r2) + ((D3 118 0 0 x1.toNatClampNeg) - (D3 118 0 0 x1.toNatClampNeg) / (16 : Int32) * (16 : Int32))).toNatClampNeg)), (2, .int r2), (0, .ref (gA g 50 0)), (1, .int x1)]) hC.1 hC.2.1 dX12_instruction_60 hl (by decide) rfl (fun ls hl => ?_)
    refine lv_iload_n hC.1 hC.2.1 dX12_instruction_62 rfl (lv_at hl 1 rfl) ?_
    refine lv_if_lt (tgt := 73) hC.1 hC.2.1 dX12_instruction_63 (by decide) (fun hc7 => ?_) (fun hc7 => ?_)
    · rw [if_pos hc7] at h
      exact B_X12_instruction_73 hC hE hml hr hlk h hH hS (lv_sub hl [3, 4, 2] rfl)
    · rw [if_neg hc7] at h
      refine lv_iload hC.1 hC.2.1 dX12_instruction_66 (lv_at hl 0 rfl) ?_
      refine lv_bipush (v := (19 : Int32)) hC.1 hC.2.1 dX12_instruction_68 (by decide) ?_
      refine lv_icmp_le (tgt := 91) hC.1 hC.2.1 dX12_instruction_70 (by decide) (fun hc8 => ?_) (fun hc8 => ?_)
      · rw [if_pos hc8] at h
        refine lv_iload hC.1 hC.2.1 dX12_instruction_91 (lv_at hl 0 rfl) ?_
        refine lv_bipush (v := (11 : Int32)) hC.1 hC.2.1 dX12_instruction_93 (by decide) ?_
        refine lv_icmp_eq (tgt := 105) hC.1 hC.2.1 dX12_instruction_95 (by decide) (fun hc9 => ?_) (fun hc9 => ?_)
        · rw [if_pos hc9] at h
          exact B_X12_instruction_105 hC hE hml hr hlk h hH hS (lv_sub hl [3, 4, 2, 1, 0] rfl)
        · rw [if_neg hc9] at h
          refine lv_iload hC.1 hC.2.1 dX12_instruction_98 (lv_at hl 0 rfl) ?_
          refine lv_bipush (v := (12 : Int32)) hC.1 hC.2.1 dX12_instruction_100 (by decide) ?_
          refine lv_icmp_ne (tgt := 109) hC.1 hC.2.1 dX12_instruction_102 (by decide) (fun hc10 => ?_) (fun hc10 => ?_)
          · rw [if_neg hc10] at h
            refine lv_iconst (v := (0 : Int32)) hC.1 hC.2.1 dX12_instruction_109 (by decide) ?_
            exact B_X12_instruction_110 hC hE hml hr hlk h hH hS (lv_sub hl [3, 4, 2, 1, 0] rfl)
          · rw [if_pos hc10] at h
            exact B_X12_instruction_105 hC hE hml hr hlk h hH hS (lv_sub hl [3, 4, 2, 1, 0] rfl)
      · rw [if_neg hc8] at h
        exact B_X12_instruction_73 hC hE hml hr hlk h hH hS (lv_sub hl [3, 4, 2] rfl)
  · rw [if_pos hc5] at h
    refine lv_aload_n hC.1 hC.2.1 dX12_instruction_20 rfl (lv_at hl 1 rfl) ?_
    refine lv_iload_n hC.1 hC.2.1 dX12_instruction_21 rfl (lv_at hl 2 rfl) ?_
    refine lv_aload_n hC.1 hC.2.1 dX12_instruction_22 rfl (lv_at hl 1 rfl) ?_
    refine gf_RX12_44 hC hH rfl dX12_instruction_23 ?_
    refine lv_iload_n hC.1 hC.2.1 dX12_instruction_26 rfl (lv_at hl 2 rfl) ?_
    refine al_118 hC hH hg1 rfl dX12_instruction_27 ?_
    refine lv_bipush (v := (16 : Int32)) hC.1 hC.2.1 dX12_instruction_28 (by decide) ?_
    refine lv_idiv hC.1 hC.2.1 dX12_instruction_30 (by decide) ?_
    obtain ⟨r11, D12, hF13, h⟩ := bd2_some h
    refine gcallV (As := [.int x1, .int ((D3 118 0 0 x1.toNatClampNeg) / (16 : Int32))]) (rest := []) (Cn := RX12) hC hE hml hH hS (c_X12_want hF13) ⟨wd_1412, wd_1414, wp_49, wd_17, wd_1415⟩ hd_X12_want rfl rfl ⟨Nat.le_of_ble_eq_true rfl, Nat.le_of_ble_eq_true rfl⟩ rfl (hw_recv (q := 50) (i := 0) hC hH ⟨Nat.zero_lt_one, fun h => absurd h (by decide)⟩ rfl rfl) rfl hl.1 rfl (Nat.le_of_ble_eq_true rfl) dX12_instruction_31 ⟨Nat.le_of_ble_eq_true rfl, Nat.le_of_ble_eq_true rfl⟩ (fun ed H locs hH hS => ?_)
    refine W.eq (g2 := F0 m 34 ls []) rfl ?_
    cases h
    exact gret_v hC hr hlk hH hS (Nat.le_of_ble_eq_true rfl) (Nat.le_of_ble_eq_true rfl) dX12_instruction_34
def F_X12_jobStep_103   (C : St) : Option (Int32 × St) := some (0, C)
set_option maxHeartbeats 4000000 in
set_option maxRecDepth 100000 in
theorem B_X12_jobStep_103 {p : Program} {l : Launch} {e : Env} {s : State} {m : MethodId} {args : Array Value} {below : List Frame} {meth : Method} {c : Code} {g : GP} {Z : St} (hC : CX p s m args c cX12_jobStep RX12 g) (hE : EZ g s s.heap) (hml : c.maxLocals = 2) (hr : meth.sig.returnType = none) (hlk : meth.locks = false) {r : Int32} {C2 : St}  {C : St} (h : F_X12_jobStep_103   C = some (r, C2)) {ed : Nat → Nat} {H : Heap} {locs : List Loc} {ls : Array Slot} (hH : HW g ed Z C H) (hS : va_S (gP g) s.heap H locs) (hl : lv_has ls 2 []) : W p l e ({ frames := 8, cells := 0, slots := 0, locals := 190 } : Room) s m args below meth c H locs 0 0 (MQ below (QG none g Z C2) args s 0 0 (gP g)) (F0 m 103 ls []) := by
  unfold F_X12_jobStep_103 at h
  cases h
  exact gret_v hC hr hlk hH hS (Nat.le_of_ble_eq_true rfl) (Nat.le_of_ble_eq_true rfl) dX12_jobStep_103
def F_X12_jobStep_88  (x1 : Int32) (C : St) : Option (Int32 × St) := gd (inb x1 6) (st (up C 116 0 0 x1.toNatClampNeg (4 : Int32)) (fun D2 => F_X12_jobStep_103  D2))
set_option maxHeartbeats 4000000 in
set_option maxRecDepth 100000 in
theorem B_X12_jobStep_88 {p : Program} {l : Launch} {e : Env} {s : State} {m : MethodId} {args : Array Value} {below : List Frame} {meth : Method} {c : Code} {g : GP} {Z : St} (hC : CX p s m args c cX12_jobStep RX12 g) (hE : EZ g s s.heap) (hml : c.maxLocals = 2) (hr : meth.sig.returnType = none) (hlk : meth.locks = false) {r : Int32} {C2 : St} {x1 : Int32} {C : St} (h : F_X12_jobStep_88  x1 C = some (r, C2)) {ed : Nat → Nat} {H : Heap} {locs : List Loc} {ls : Array Slot} (hH : HW g ed Z C H) (hS : va_S (gP g) s.heap H locs) (hl : lv_has ls 2 [(0, .ref (gA g 50 0)), (1, .int x1)]) : W p l e ({ frames := 8, cells := 0, slots := 0, locals := 190 } : Room) s m args below meth c H locs 0 0 (MQ below (QG none g Z C2) args s 0 0 (gP g)) (F0 m 88 ls []) := by
  unfold F_X12_jobStep_88 at h
  refine lv_aload_n hC.1 hC.2.1 dX12_jobStep_88 rfl (lv_at hl 0 rfl) ?_
  refine gf_RX12_38 hC hH rfl dX12_jobStep_89 ?_
  refine lv_iload_n hC.1 hC.2.1 dX12_jobStep_92 rfl (lv_at hl 1 rfl) ?_
  refine lv_iconst (v := (4 : Int32)) hC.1 hC.2.1 dX12_jobStep_93 (by decide) ?_
  obtain ⟨hg1, h⟩ := gd_some h
  obtain ⟨D2, e3, h⟩ := st_some h
  refine as_116 hC hH hS hg1 rfl dX12_jobStep_94 (fun H locs hH hS => ?_)
  rw [← e3] at hH
  refine lv_goto (tgt := 103) hC.1 hC.2.1 dX12_jobStep_95 (by decide) ?_
  exact B_X12_jobStep_103 hC hE hml hr hlk h hH hS (lv_sub hl [] rfl)
def F_X12_jobStep (x1 : Int32) (C : St) : Option (Int32 × St) := gd (inb x1 6) (if (C 116 0 0 x1.toNatClampNeg) ≤ 0 then (if (C 124 0 0 x1.toNatClampNeg) = 0 then (if (C 117 0 0 x1.toNatClampNeg) < (C 121 0 0 x1.toNatClampNeg) then (if (C 118 0 0 x1.toNatClampNeg) < 0 then (F_X12_jobStep_88 x1 C) else (if (C 118 0 0 x1.toNatClampNeg) < ((16 : Int32) * (C 122 0 0 x1.toNatClampNeg)) then (bd2 (F_X12_instruction x1 C) (fun r7 D8 => F_X12_jobStep_103  D8)) else (F_X12_jobStep_88 x1 C))) else (st (up C 116 0 0 x1.toNatClampNeg (2 : Int32)) (fun D10 => F_X12_jobStep_103  D10))) else (st (up C 116 0 0 x1.toNatClampNeg (5 : Int32)) (fun D12 => F_X12_jobStep_103  D12))) else (bd2 (F_X12_endingStep x1 C) (fun r14 D15 => F_X12_jobStep_103  D15)))
set_option maxHeartbeats 4000000 in
set_option maxRecDepth 100000 in
theorem c_X12_jobStep {l : Launch} {g : GP} {ed : Nat → Nat} {Z : St} {x1 : Int32} {C : St} {r : Int32} {C2 : St} (h : F_X12_jobStep x1 C = some (r, C2)) : Met l yX12_jobStep (Cond.code yX12_jobStep cX12_jobStep 2 none :: lwG) ({ frames := 8, cells := 0, slots := 0, locals := 190 } : Room) (va_Pc [.ref (gA g 50 0), .int x1] (PW g Z C ed)) (QG none g Z C2) 0 0 (gP g) := by
  refine Met.ofW (cc := cX12_jobStep) (maxL := 2) (ret := none) (by decide +kernel) rfl ?_
  intro p e s m args below meth c s₁ B hml hv
  obtain ⟨ha, hC, hE, hr, hlk, hH⟩ := g_start B hv
  subst ha
  have hC : CX p s m ([.ref (gA g 50 0), .int x1] : List Value).toArray c cX12_jobStep RX12 g := hC
  have hS : va_S (gP g) s.heap s.heap [] := va_S.rf
  obtain ⟨ls, he, hl⟩ := g_entry m (vs := [.ref (gA g 50 0), .int x1]) (n := 2) (List.forall_mem_cons.mpr ⟨rfl, (List.forall_mem_cons.mpr ⟨rfl, (fun _ h => absurd h List.not_mem_nil)⟩)⟩) (Nat.le_of_ble_eq_true rfl)
  rw [he]
  have hl : lv_has ls 2 [(0, .ref (gA g 50 0)), (1, .int x1)] := hl
  unfold F_X12_jobStep at h
  refine lv_aload_n hC.1 hC.2.1 dX12_jobStep_0 rfl (lv_at hl 0 rfl) ?_
  refine gf_RX12_38 hC hH rfl dX12_jobStep_1 ?_
  refine lv_iload_n hC.1 hC.2.1 dX12_jobStep_4 rfl (lv_at hl 1 rfl) ?_
  obtain ⟨hg1, h⟩ := gd_some h
  refine al_116 hC hH hg1 rfl dX12_jobStep_5 ?_
  refine lv_if_le (tgt := 17) hC.1 hC.2.1 dX12_jobStep_6 (by decide) (fun hc2 => ?_) (fun hc2 => ?_)
  · rw [if_pos hc2] at h
    refine lv_aload_n hC.1 hC.2.1 dX12_jobStep_17 rfl (lv_at hl 0 rfl) ?_
    refine gf_RX12_62 hC hH rfl dX12_jobStep_18 ?_
    refine lv_iload_n hC.1 hC.2.1 dX12_jobStep_21 rfl (lv_at hl 1 rfl) ?_
    refine al_124 hC hH hg1 rfl dX12_jobStep_22 ?_
    refine lv_if_eq (tgt := 36) hC.1 hC.2.1 dX12_jobStep_23 (by decide) (fun hc3 => ?_) (fun hc3 => ?_)
    · rw [if_pos hc3] at h
      refine lv_aload_n hC.1 hC.2.1 dX12_jobStep_36 rfl (lv_at hl 0 rfl) ?_
      refine gf_RX12_41 hC hH rfl dX12_jobStep_37 ?_
      refine lv_iload_n hC.1 hC.2.1 dX12_jobStep_40 rfl (lv_at hl 1 rfl) ?_
      refine al_117 hC hH hg1 rfl dX12_jobStep_41 ?_
      refine lv_aload_n hC.1 hC.2.1 dX12_jobStep_42 rfl (lv_at hl 0 rfl) ?_
      refine gf_RX12_53 hC hH rfl dX12_jobStep_43 ?_
      refine lv_iload_n hC.1 hC.2.1 dX12_jobStep_46 rfl (lv_at hl 1 rfl) ?_
      refine al_121 hC hH hg1 rfl dX12_jobStep_47 ?_
      refine lv_icmp_lt (tgt := 61) hC.1 hC.2.1 dX12_jobStep_48 (by decide) (fun hc4 => ?_) (fun hc4 => ?_)
      · rw [if_pos hc4] at h
        refine lv_aload_n hC.1 hC.2.1 dX12_jobStep_61 rfl (lv_at hl 0 rfl) ?_
        refine gf_RX12_44 hC hH rfl dX12_jobStep_62 ?_
        refine lv_iload_n hC.1 hC.2.1 dX12_jobStep_65 rfl (lv_at hl 1 rfl) ?_
        refine al_118 hC hH hg1 rfl dX12_jobStep_66 ?_
        refine lv_if_lt (tgt := 88) hC.1 hC.2.1 dX12_jobStep_67 (by decide) (fun hc5 => ?_) (fun hc5 => ?_)
        · rw [if_pos hc5] at h
          exact B_X12_jobStep_88 hC hE hml hr hlk h hH hS (lv_sub hl [0, 1] rfl)
        · rw [if_neg hc5] at h
          refine lv_aload_n hC.1 hC.2.1 dX12_jobStep_70 rfl (lv_at hl 0 rfl) ?_
          refine gf_RX12_44 hC hH rfl dX12_jobStep_71 ?_
          refine lv_iload_n hC.1 hC.2.1 dX12_jobStep_74 rfl (lv_at hl 1 rfl) ?_
          refine al_118 hC hH hg1 rfl dX12_jobStep_75 ?_
          refine lv_bipush (v := (16 : Int32)) hC.1 hC.2.1 dX12_jobStep_76 (by decide) ?_
          refine lv_aload_n hC.1 hC.2.1 dX12_jobStep_78 rfl (lv_at hl 0 rfl) ?_
          refine gf_RX12_56 hC hH rfl dX12_jobStep_79 ?_
          refine lv_iload_n hC.1 hC.2.1 dX12_jobStep_82 rfl (lv_at hl 1 rfl) ?_
          refine al_122 hC hH hg1 rfl dX12_jobStep_83 ?_
          refine lv_imul hC.1 hC.2.1 dX12_jobStep_84 ?_
          refine lv_icmp_lt (tgt := 98) hC.1 hC.2.1 dX12_jobStep_85 (by decide) (fun hc6 => ?_) (fun hc6 => ?_)
          · rw [if_pos hc6] at h
            refine lv_aload_n hC.1 hC.2.1 dX12_jobStep_98 rfl (lv_at hl 0 rfl) ?_
            refine lv_iload_n hC.1 hC.2.1 dX12_jobStep_99 rfl (lv_at hl 1 rfl) ?_
            obtain ⟨r7, D8, hF9, h⟩ := bd2_some h
            refine gcallV (As := [.int x1]) (rest := []) (Cn := RX12) hC hE hml hH hS (c_X12_instruction hF9) ⟨wd_1404, wd_1406, wp_47, wd_17, wd_1407⟩ hd_X12_instruction rfl rfl ⟨Nat.le_of_ble_eq_true rfl, Nat.le_of_ble_eq_true rfl⟩ rfl (hw_recv (q := 50) (i := 0) hC hH ⟨Nat.zero_lt_one, fun h => absurd h (by decide)⟩ rfl rfl) rfl hl.1 rfl (Nat.le_of_ble_eq_true rfl) dX12_jobStep_100 ⟨Nat.le_of_ble_eq_true rfl, Nat.le_of_ble_eq_true rfl⟩ (fun ed H locs hH hS => ?_)
            refine W.eq (g2 := F0 m 103 ls []) rfl ?_
            exact B_X12_jobStep_103 hC hE hml hr hlk h hH hS (lv_sub hl [] rfl)
          · rw [if_neg hc6] at h
            exact B_X12_jobStep_88 hC hE hml hr hlk h hH hS (lv_sub hl [0, 1] rfl)
      · rw [if_neg hc4] at h
        refine lv_aload_n hC.1 hC.2.1 dX12_jobStep_51 rfl (lv_at hl 0 rfl) ?_
        refine gf_RX12_38 hC hH rfl dX12_jobStep_52 ?_
        refine lv_iload_n hC.1 hC.2.1 dX12_jobStep_55 rfl (lv_at hl 1 rfl) ?_
        refine lv_iconst (v := (2 : Int32)) hC.1 hC.2.1 dX12_jobStep_56 (by decide) ?_
        obtain ⟨D10, e11, h⟩ := st_some h
        refine as_116 hC hH hS hg1 rfl dX12_jobStep_57 (fun H locs hH hS => ?_)
        rw [← e11] at hH
        refine lv_goto (tgt := 103) hC.1 hC.2.1 dX12_jobStep_58 (by decide) ?_
        exact B_X12_jobStep_103 hC hE hml hr hlk h hH hS (lv_sub hl [] rfl)
    · rw [if_neg hc3] at h
      refine lv_aload_n hC.1 hC.2.1 dX12_jobStep_26 rfl (lv_at hl 0 rfl) ?_
      refine gf_RX12_38 hC hH rfl dX12_jobStep_27 ?_
      refine lv_iload_n hC.1 hC.2.1 dX12_jobStep_30 rfl (lv_at hl 1 rfl) ?_
      refine lv_iconst (v := (5 : Int32)) hC.1 hC.2.1 dX12_jobStep_31 (by decide) ?_
      obtain ⟨D12, e13, h⟩ := st_some h
      refine as_116 hC hH hS hg1 rfl dX12_jobStep_32 (fun H locs hH hS => ?_)
      rw [← e13] at hH
      refine lv_goto (tgt := 103) hC.1 hC.2.1 dX12_jobStep_33 (by decide) ?_
      exact B_X12_jobStep_103 hC hE hml hr hlk h hH hS (lv_sub hl [] rfl)
  · rw [if_neg hc2] at h
    refine lv_aload_n hC.1 hC.2.1 dX12_jobStep_9 rfl (lv_at hl 0 rfl) ?_
    refine lv_iload_n hC.1 hC.2.1 dX12_jobStep_10 rfl (lv_at hl 1 rfl) ?_
    obtain ⟨r14, D15, hF16, h⟩ := bd2_some h
    refine gcallV (As := [.int x1]) (rest := []) (Cn := RX12) hC hE hml hH hS (c_X12_endingStep hF16) ⟨wd_1356, wd_1358, wp_35, wd_17, wd_1359⟩ hd_X12_endingStep rfl rfl ⟨Nat.le_of_ble_eq_true rfl, Nat.le_of_ble_eq_true rfl⟩ rfl (hw_recv (q := 50) (i := 0) hC hH ⟨Nat.zero_lt_one, fun h => absurd h (by decide)⟩ rfl rfl) rfl hl.1 rfl (Nat.le_of_ble_eq_true rfl) dX12_jobStep_11 ⟨Nat.le_of_ble_eq_true rfl, Nat.le_of_ble_eq_true rfl⟩ (fun ed H locs hH hS => ?_)
    refine W.eq (g2 := F0 m 14 ls []) rfl ?_
    refine lv_goto (tgt := 103) hC.1 hC.2.1 dX12_jobStep_14 (by decide) ?_
    exact B_X12_jobStep_103 hC hE hml hr hlk h hH hS (lv_sub hl [] rfl)
def F_X12_choose_85 (k32 : Int32 → Int32 → St → Option (Int32 × St)) (x1 : Int32) (x2 : Int32) (C : St) : Option (Int32 × St) := k32 x1 (x2 + 1) C
set_option maxHeartbeats 4000000 in
set_option maxRecDepth 100000 in
theorem B_X12_choose_85 {p : Program} {l : Launch} {e : Env} {s : State} {m : MethodId} {args : Array Value} {below : List Frame} {meth : Method} {c : Code} {g : GP} {Z : St} (hC : CX p s m args c cX12_choose RX12 g) (hE : EZ g s s.heap) (hml : c.maxLocals = 3) (hr : meth.sig.returnType = (some .int)) (hlk : meth.locks = false) {r : Int32} {C2 : St} {k32 : Int32 → Int32 → St → Option (Int32 × St)} (hk32 : ∀ (x1 : Int32) (x2 : Int32) (C : St), k32 x1 x2 C = some (r, C2) → ∀ (ed : Nat → Nat) (H : Heap) (locs : List Loc) (ls : Array Slot), HW g ed Z C H → va_S (gP g) s.heap H locs → lv_has ls 3 [(0, .ref (gA g 50 0)), (1, .int x1), (2, .int x2)] → W p l e ({ frames := 0, cells := 0, slots := 0, locals := 0 } : Room) s m args below meth c H locs 0 0 (MQ below (QG (some (.int r)) g Z C2) args s 0 0 (gP g)) (F0 m 32 ls [])) {x1 : Int32} {x2 : Int32} {C : St} (h : F_X12_choose_85 k32 x1 x2 C = some (r, C2)) {ed : Nat → Nat} {H : Heap} {locs : List Loc} {ls : Array Slot} (hH : HW g ed Z C H) (hS : va_S (gP g) s.heap H locs) (hl : lv_has ls 3 [(0, .ref (gA g 50 0)), (1, .int x1), (2, .int x2)]) : W p l e ({ frames := 0, cells := 0, slots := 0, locals := 0 } : Room) s m args below meth c H locs 0 0 (MQ below (QG (some (.int r)) g Z C2) args s 0 0 (gP g)) (F0 m 85 ls []) := by
  unfold F_X12_choose_85 at h
  refine lv_iinc (v := x2 + 1) (lv' := [(2, .int (x2 + 1)), (0, .ref (gA g 50 0)), (1, .int x1)]) hC.1 hC.2.1 dX12_choose_85 hl (k := 2) rfl rfl (by decide) rfl (fun ls hl => ?_)
  refine lv_goto (tgt := 32) hC.1 hC.2.1 dX12_choose_88 (by decide) ?_
  exact hk32 _ _ _ h _ _ _ _ hH hS (lv_sub hl [1, 2, 0] rfl)
def F_X12_choose_83 (k32 : Int32 → Int32 → St → Option (Int32 × St)) (x2 : Int32) (C : St) : Option (Int32 × St) := F_X12_choose_85 k32 x2 x2 C
set_option maxHeartbeats 4000000 in
set_option maxRecDepth 100000 in
theorem B_X12_choose_83 {p : Program} {l : Launch} {e : Env} {s : State} {m : MethodId} {args : Array Value} {below : List Frame} {meth : Method} {c : Code} {g : GP} {Z : St} (hC : CX p s m args c cX12_choose RX12 g) (hE : EZ g s s.heap) (hml : c.maxLocals = 3) (hr : meth.sig.returnType = (some .int)) (hlk : meth.locks = false) {r : Int32} {C2 : St} {k32 : Int32 → Int32 → St → Option (Int32 × St)} (hk32 : ∀ (x1 : Int32) (x2 : Int32) (C : St), k32 x1 x2 C = some (r, C2) → ∀ (ed : Nat → Nat) (H : Heap) (locs : List Loc) (ls : Array Slot), HW g ed Z C H → va_S (gP g) s.heap H locs → lv_has ls 3 [(0, .ref (gA g 50 0)), (1, .int x1), (2, .int x2)] → W p l e ({ frames := 0, cells := 0, slots := 0, locals := 0 } : Room) s m args below meth c H locs 0 0 (MQ below (QG (some (.int r)) g Z C2) args s 0 0 (gP g)) (F0 m 32 ls [])) {x2 : Int32} {C : St} (h : F_X12_choose_83 k32 x2 C = some (r, C2)) {ed : Nat → Nat} {H : Heap} {locs : List Loc} {ls : Array Slot} (hH : HW g ed Z C H) (hS : va_S (gP g) s.heap H locs) (hl : lv_has ls 3 [(0, .ref (gA g 50 0)), (2, .int x2)]) : W p l e ({ frames := 0, cells := 0, slots := 0, locals := 0 } : Room) s m args below meth c H locs 0 0 (MQ below (QG (some (.int r)) g Z C2) args s 0 0 (gP g)) (F0 m 83 ls []) := by
  unfold F_X12_choose_83 at h
  refine lv_iload_n hC.1 hC.2.1 dX12_choose_83 rfl (lv_at hl 1 rfl) ?_
  refine lv_istore_n (i := 1) (lv' := [(1, .int x2), (0, .ref (gA g 50 0)), (2, .int x2)]) hC.1 hC.2.1 dX12_choose_84 rfl hl (by decide) rfl (fun ls hl => ?_)
  exact B_X12_choose_85 hC hE hml hr hlk hk32 h hH hS (lv_sub hl [1, 0, 2] rfl)
def F_X12_choose_32  : Nat → Int32 → Int32 → St → Option (Int32 × St)
  | 0, _, _, _ => none
  | fu + 1, x1, x2, C => if (C 50 0 0 0) ≤ x2 then (some (x1, C)) else (gd (inb x2 12) (if (C 139 0 0 x2.toNatClampNeg) = (-2 : Int32) then (F_X12_choose_85 (F_X12_choose_32 fu) x1 x2 C) else (if (C 143 0 0 x2.toNatClampNeg) = 0 then (if x1 = (-1 : Int32) then (F_X12_choose_83 (F_X12_choose_32 fu) x2 C) else (gd (inb x1 12) (if (C 141 0 0 x1.toNatClampNeg) ≤ (C 141 0 0 x2.toNatClampNeg) then (F_X12_choose_85 (F_X12_choose_32 fu) x1 x2 C) else (F_X12_choose_83 (F_X12_choose_32 fu) x2 C)))) else (F_X12_choose_85 (F_X12_choose_32 fu) x1 x2 C))))
set_option maxHeartbeats 4000000 in
set_option maxRecDepth 100000 in
theorem B_X12_choose_32 {p : Program} {l : Launch} {e : Env} {s : State} {m : MethodId} {args : Array Value} {below : List Frame} {meth : Method} {c : Code} {g : GP} {Z : St} (hC : CX p s m args c cX12_choose RX12 g) (hE : EZ g s s.heap) (hml : c.maxLocals = 3) (hr : meth.sig.returnType = (some .int)) (hlk : meth.locks = false) {r : Int32} {C2 : St} : ∀ (fu : Nat) (x1 : Int32) (x2 : Int32) (C : St), F_X12_choose_32  fu x1 x2 C = some (r, C2) → ∀ (ed : Nat → Nat) (H : Heap) (locs : List Loc) (ls : Array Slot), HW g ed Z C H → va_S (gP g) s.heap H locs → lv_has ls 3 [(0, .ref (gA g 50 0)), (1, .int x1), (2, .int x2)] → W p l e ({ frames := 0, cells := 0, slots := 0, locals := 0 } : Room) s m args below meth c H locs 0 0 (MQ below (QG (some (.int r)) g Z C2) args s 0 0 (gP g)) (F0 m 32 ls []) := by
  intro fu
  induction fu with
  | zero =>
    intro x1 x2 C h
    cases h
  | succ fu ih =>
    intro x1 x2 C h ed H locs ls hH hS hl
    rw [F_X12_choose_32] at h
    refine lv_iload_n hC.1 hC.2.1 dX12_choose_32 rfl (lv_at hl 2 rfl) ?_
    refine lv_aload_n hC.1 hC.2.1 dX12_choose_33 rfl (lv_at hl 0 rfl) ?_
    refine gf_RX12_150 hC hH rfl dX12_choose_34 ?_
    refine lv_icmp_ge (tgt := 91) hC.1 hC.2.1 dX12_choose_37 (by decide) (fun hc1 => ?_) (fun hc1 => ?_)
    · rw [if_pos hc1] at h
      refine lv_iload_n hC.1 hC.2.1 dX12_choose_91 rfl (lv_at hl 1 rfl) ?_
      cases h
      exact gret_i hC hr hlk hH hS (Nat.le_of_ble_eq_true rfl) (Nat.le_of_ble_eq_true rfl) dX12_choose_92
    · rw [if_neg hc1] at h
      refine lv_aload_n hC.1 hC.2.1 dX12_choose_40 rfl (lv_at hl 0 rfl) ?_
      refine gf_RX12_104 hC hH rfl dX12_choose_41 ?_
      refine lv_iload_n hC.1 hC.2.1 dX12_choose_44 rfl (lv_at hl 2 rfl) ?_
      obtain ⟨hg2, h⟩ := gd_some h
      refine al_139 hC hH hg2 rfl dX12_choose_45 ?_
      refine lv_bipush (v := (-2 : Int32)) hC.1 hC.2.1 dX12_choose_46 (by decide) ?_
      refine lv_icmp_eq (tgt := 85) hC.1 hC.2.1 dX12_choose_48 (by decide) (fun hc3 => ?_) (fun hc3 => ?_)
      · rw [if_pos hc3] at h
        exact B_X12_choose_85 hC hE hml hr hlk ih h hH hS (lv_sub hl [0, 1, 2] rfl)
      · rw [if_neg hc3] at h
        refine lv_aload_n hC.1 hC.2.1 dX12_choose_51 rfl (lv_at hl 0 rfl) ?_
        refine gf_RX12_116 hC hH rfl dX12_choose_52 ?_
        refine lv_iload_n hC.1 hC.2.1 dX12_choose_55 rfl (lv_at hl 2 rfl) ?_
        refine al_143 hC hH hg2 rfl dX12_choose_56 ?_
        refine lv_if_eq (tgt := 63) hC.1 hC.2.1 dX12_choose_57 (by decide) (fun hc4 => ?_) (fun hc4 => ?_)
        · rw [if_pos hc4] at h
          refine lv_iload_n hC.1 hC.2.1 dX12_choose_63 rfl (lv_at hl 1 rfl) ?_
          refine lv_iconst (v := (-1 : Int32)) hC.1 hC.2.1 dX12_choose_64 (by decide) ?_
          refine lv_icmp_eq (tgt := 83) hC.1 hC.2.1 dX12_choose_65 (by decide) (fun hc5 => ?_) (fun hc5 => ?_)
          · rw [if_pos hc5] at h
            exact B_X12_choose_83 hC hE hml hr hlk ih h hH hS (lv_sub hl [0, 2] rfl)
          · rw [if_neg hc5] at h
            refine lv_aload_n hC.1 hC.2.1 dX12_choose_68 rfl (lv_at hl 0 rfl) ?_
            refine gf_RX12_110 hC hH rfl dX12_choose_69 ?_
            refine lv_iload_n hC.1 hC.2.1 dX12_choose_72 rfl (lv_at hl 2 rfl) ?_
            refine al_141 hC hH hg2 rfl dX12_choose_73 ?_
            refine lv_aload_n hC.1 hC.2.1 dX12_choose_74 rfl (lv_at hl 0 rfl) ?_
            refine gf_RX12_110 hC hH rfl dX12_choose_75 ?_
            refine lv_iload_n hC.1 hC.2.1 dX12_choose_78 rfl (lv_at hl 1 rfl) ?_
            obtain ⟨hg6, h⟩ := gd_some h
            refine al_141 hC hH hg6 rfl dX12_choose_79 ?_
            refine lv_icmp_ge (tgt := 85) hC.1 hC.2.1 dX12_choose_80 (by decide) (fun hc7 => ?_) (fun hc7 => ?_)
            · rw [if_pos hc7] at h
              exact B_X12_choose_85 hC hE hml hr hlk ih h hH hS (lv_sub hl [0, 1, 2] rfl)
            · rw [if_neg hc7] at h
              exact B_X12_choose_83 hC hE hml hr hlk ih h hH hS (lv_sub hl [0, 2] rfl)
        · rw [if_neg hc4] at h
          refine lv_goto (tgt := 85) hC.1 hC.2.1 dX12_choose_60 (by decide) ?_
          exact B_X12_choose_85 hC hE hml hr hlk ih h hH hS (lv_sub hl [0, 1, 2] rfl)
def F_X12_choose_2  : Nat → Int32 → St → Option (Int32 × St)
  | 0, _, _ => none
  | fu + 1, x1, C => if (C 50 0 0 0) ≤ x1 then (F_X12_choose_32 1000 (-1 : Int32) (0 : Int32) C) else (gd (inb x1 12) (if (C 139 0 0 x1.toNatClampNeg) = (-1 : Int32) then (some (x1, C)) else (F_X12_choose_2 fu (x1 + 1) C)))
set_option maxHeartbeats 4000000 in
set_option maxRecDepth 100000 in
theorem B_X12_choose_2 {p : Program} {l : Launch} {e : Env} {s : State} {m : MethodId} {args : Array Value} {below : List Frame} {meth : Method} {c : Code} {g : GP} {Z : St} (hC : CX p s m args c cX12_choose RX12 g) (hE : EZ g s s.heap) (hml : c.maxLocals = 3) (hr : meth.sig.returnType = (some .int)) (hlk : meth.locks = false) {r : Int32} {C2 : St} : ∀ (fu : Nat) (x1 : Int32) (C : St), F_X12_choose_2  fu x1 C = some (r, C2) → ∀ (ed : Nat → Nat) (H : Heap) (locs : List Loc) (ls : Array Slot), HW g ed Z C H → va_S (gP g) s.heap H locs → lv_has ls 3 [(0, .ref (gA g 50 0)), (1, .int x1)] → W p l e ({ frames := 0, cells := 0, slots := 0, locals := 0 } : Room) s m args below meth c H locs 0 0 (MQ below (QG (some (.int r)) g Z C2) args s 0 0 (gP g)) (F0 m 2 ls []) := by
  intro fu
  induction fu with
  | zero =>
    intro x1 C h
    cases h
  | succ fu ih =>
    intro x1 C h ed H locs ls hH hS hl
    rw [F_X12_choose_2] at h
    refine lv_iload_n hC.1 hC.2.1 dX12_choose_2 rfl (lv_at hl 1 rfl) ?_
    refine lv_aload_n hC.1 hC.2.1 dX12_choose_3 rfl (lv_at hl 0 rfl) ?_
    refine gf_RX12_150 hC hH rfl dX12_choose_4 ?_
    refine lv_icmp_ge (tgt := 28) hC.1 hC.2.1 dX12_choose_7 (by decide) (fun hc1 => ?_) (fun hc1 => ?_)
    · rw [if_pos hc1] at h
      refine lv_iconst (v := (-1 : Int32)) hC.1 hC.2.1 dX12_choose_28 (by decide) ?_
      refine lv_istore_n (i := 1) (lv' := [(1, .int (-1 : Int32)), (0, .ref (gA g 50 0))]) hC.1 hC.2.1 dX12_choose_29 rfl hl (by decide) rfl (fun ls hl => ?_)
      refine lv_iconst (v := (0 : Int32)) hC.1 hC.2.1 dX12_choose_30 (by decide) ?_
      refine lv_istore_n (i := 2) (lv' := [(2, .int (0 : Int32)), (1, .int (-1 : Int32)), (0, .ref (gA g 50 0))]) hC.1 hC.2.1 dX12_choose_31 rfl hl (by decide) rfl (fun ls hl => ?_)
      exact B_X12_choose_32 hC hE hml hr hlk 1000 _ _ _ h _ _ _ _ hH hS (lv_sub hl [2, 1, 0] rfl)
    · rw [if_neg hc1] at h
      refine lv_aload_n hC.1 hC.2.1 dX12_choose_10 rfl (lv_at hl 0 rfl) ?_
      refine gf_RX12_104 hC hH rfl dX12_choose_11 ?_
      refine lv_iload_n hC.1 hC.2.1 dX12_choose_14 rfl (lv_at hl 1 rfl) ?_
      obtain ⟨hg2, h⟩ := gd_some h
      refine al_139 hC hH hg2 rfl dX12_choose_15 ?_
      refine lv_iconst (v := (-1 : Int32)) hC.1 hC.2.1 dX12_choose_16 (by decide) ?_
      refine lv_icmp_ne (tgt := 22) hC.1 hC.2.1 dX12_choose_17 (by decide) (fun hc3 => ?_) (fun hc3 => ?_)
      · rw [if_neg hc3] at h
        refine lv_iinc (v := x1 + 1) (lv' := [(1, .int (x1 + 1)), (0, .ref (gA g 50 0))]) hC.1 hC.2.1 dX12_choose_22 hl (k := 1) rfl rfl (by decide) rfl (fun ls hl => ?_)
        refine lv_goto (tgt := 2) hC.1 hC.2.1 dX12_choose_25 (by decide) ?_
        exact ih _ _ h _ _ _ _ hH hS (lv_sub hl [1, 0] rfl)
      · rw [if_pos hc3] at h
        refine lv_iload_n hC.1 hC.2.1 dX12_choose_20 rfl (lv_at hl 1 rfl) ?_
        cases h
        exact gret_i hC hr hlk hH hS (Nat.le_of_ble_eq_true rfl) (Nat.le_of_ble_eq_true rfl) dX12_choose_21
def F_X12_choose  (C : St) : Option (Int32 × St) := F_X12_choose_2 1000 (0 : Int32) C
set_option maxHeartbeats 4000000 in
set_option maxRecDepth 100000 in
theorem c_X12_choose {l : Launch} {g : GP} {ed : Nat → Nat} {Z : St}  {C : St} {r : Int32} {C2 : St} (h : F_X12_choose  C = some (r, C2)) : Met l yX12_choose (Cond.code yX12_choose cX12_choose 3 (some .int) :: lwG) ({ frames := 0, cells := 0, slots := 0, locals := 0 } : Room) (va_Pc [.ref (gA g 50 0)] (PW g Z C ed)) (QG (some (.int r)) g Z C2) 0 0 (gP g) := by
  refine Met.ofW (cc := cX12_choose) (maxL := 3) (ret := (some .int)) (by decide +kernel) rfl ?_
  intro p e s m args below meth c s₁ B hml hv
  obtain ⟨ha, hC, hE, hr, hlk, hH⟩ := g_start B hv
  subst ha
  have hC : CX p s m ([.ref (gA g 50 0)] : List Value).toArray c cX12_choose RX12 g := hC
  have hS : va_S (gP g) s.heap s.heap [] := va_S.rf
  obtain ⟨ls, he, hl⟩ := g_entry m (vs := [.ref (gA g 50 0)]) (n := 3) (List.forall_mem_cons.mpr ⟨rfl, (fun _ h => absurd h List.not_mem_nil)⟩) (Nat.le_of_ble_eq_true rfl)
  rw [he]
  have hl : lv_has ls 3 [(0, .ref (gA g 50 0))] := hl
  unfold F_X12_choose at h
  refine lv_iconst (v := (0 : Int32)) hC.1 hC.2.1 dX12_choose_0 (by decide) ?_
  refine lv_istore_n (i := 1) (lv' := [(1, .int (0 : Int32)), (0, .ref (gA g 50 0))]) hC.1 hC.2.1 dX12_choose_1 rfl hl (by decide) rfl (fun ls hl => ?_)
  exact B_X12_choose_2 hC hE hml hr hlk 1000 _ _ h _ _ _ _ hH hS (lv_sub hl [1, 0] rfl)
def F_X12_segmentsStep_314   (C : St) : Option (Int32 × St) := some (0, C)
set_option maxHeartbeats 4000000 in
set_option maxRecDepth 100000 in
theorem B_X12_segmentsStep_314 {p : Program} {l : Launch} {e : Env} {s : State} {m : MethodId} {args : Array Value} {below : List Frame} {meth : Method} {c : Code} {g : GP} {Z : St} (hC : CX p s m args c cX12_segmentsStep RX12 g) (hE : EZ g s s.heap) (hml : c.maxLocals = 2) (hr : meth.sig.returnType = none) (hlk : meth.locks = false) {r : Int32} {C2 : St}  {C : St} (h : F_X12_segmentsStep_314   C = some (r, C2)) {ed : Nat → Nat} {H : Heap} {locs : List Loc} {ls : Array Slot} (hH : HW g ed Z C H) (hS : va_S (gP g) s.heap H locs) (hl : lv_has ls 2 []) : W p l e ({ frames := 1, cells := 0, slots := 0, locals := 23 } : Room) s m args below meth c H locs 0 0 (MQ below (QG none g Z C2) args s 0 0 (gP g)) (F0 m 314 ls []) := by
  unfold F_X12_segmentsStep_314 at h
  cases h
  exact gret_v hC hr hlk hH hS (Nat.le_of_ble_eq_true rfl) (Nat.le_of_ble_eq_true rfl) dX12_segmentsStep_314
def F_X12_segmentsStep_185  (t0 : Int32) (C : St) : Option (Int32 × St) := st (up C 50 0 45 0 t0) (fun D1 => bd2 (F_X12_waitFor (6 : Int32) (1 : Int32) (D1 50 0 45 0) D1) (fun r3 D4 => F_X12_segmentsStep_314  D4))
set_option maxHeartbeats 4000000 in
set_option maxRecDepth 100000 in
theorem B_X12_segmentsStep_185 {p : Program} {l : Launch} {e : Env} {s : State} {m : MethodId} {args : Array Value} {below : List Frame} {meth : Method} {c : Code} {g : GP} {Z : St} (hC : CX p s m args c cX12_segmentsStep RX12 g) (hE : EZ g s s.heap) (hml : c.maxLocals = 2) (hr : meth.sig.returnType = none) (hlk : meth.locks = false) {r : Int32} {C2 : St} {t0 : Int32} {C : St} (h : F_X12_segmentsStep_185  t0 C = some (r, C2)) {ed : Nat → Nat} {H : Heap} {locs : List Loc} {ls : Array Slot} (hH : HW g ed Z C H) (hS : va_S (gP g) s.heap H locs) (hl : lv_has ls 2 [(0, .ref (gA g 50 0))]) : W p l e ({ frames := 1, cells := 0, slots := 0, locals := 23 } : Room) s m args below meth c H locs 0 0 (MQ below (QG none g Z C2) args s 0 0 (gP g)) (F0 m 185 ls [.int t0, .ref (gA g 50 0)]) := by
  unfold F_X12_segmentsStep_185 at h
  obtain ⟨D1, e2, h⟩ := st_some h
  refine pf_RX12_264 hC hH hS  rfl dX12_segmentsStep_185 (fun H locs hH hS => ?_)
  rw [← e2] at hH
  refine lv_aload_n hC.1 hC.2.1 dX12_segmentsStep_188 rfl (lv_at hl 0 rfl) ?_
  refine lv_bipush (v := (6 : Int32)) hC.1 hC.2.1 dX12_segmentsStep_189 (by decide) ?_
  refine lv_iconst (v := (1 : Int32)) hC.1 hC.2.1 dX12_segmentsStep_191 (by decide) ?_
  refine lv_aload_n hC.1 hC.2.1 dX12_segmentsStep_192 rfl (lv_at hl 0 rfl) ?_
  refine gf_RX12_264 hC hH rfl dX12_segmentsStep_193 ?_
  obtain ⟨r3, D4, hF5, h⟩ := bd2_some h
  refine gcallV (As := [.int (6 : Int32), .int (1 : Int32), .int (D1 50 0 45 0)]) (rest := []) (Cn := RX12) hC hE hml hH hS (c_X12_waitFor hF5) ⟨wd_1453, wd_1455, wp_59, wd_17, wd_1456⟩ hd_X12_waitFor rfl rfl ⟨Nat.le_of_ble_eq_true rfl, Nat.le_of_ble_eq_true rfl⟩ rfl (hw_recv (q := 50) (i := 0) hC hH ⟨Nat.zero_lt_one, fun h => absurd h (by decide)⟩ rfl rfl) rfl hl.1 rfl (Nat.le_of_ble_eq_true rfl) dX12_segmentsStep_196 ⟨Nat.le_of_ble_eq_true rfl, Nat.le_of_ble_eq_true rfl⟩ (fun ed H locs hH hS => ?_)
  refine W.eq (g2 := F0 m 199 ls []) rfl ?_
  refine lv_goto (tgt := 314) hC.1 hC.2.1 dX12_segmentsStep_199 (by decide) ?_
  exact B_X12_segmentsStep_314 hC hE hml hr hlk h hH hS (lv_sub hl [] rfl)
def F_X12_segmentsStep_161  (x1 : Int32) (t0 : Int32) (C : St) : Option (Int32 × St) := st (up C 50 0 51 0 t0) (fun D1 => gd (inb (D1 50 0 46 0) 12) (st (up D1 139 0 0 (D1 50 0 46 0).toNatClampNeg (-2 : Int32)) (fun D4 => if x1 = 0 then (F_X12_segmentsStep_185 (2 : Int32) D4) else (F_X12_segmentsStep_185 (1 : Int32) D4))))
set_option maxHeartbeats 4000000 in
set_option maxRecDepth 100000 in
theorem B_X12_segmentsStep_161 {p : Program} {l : Launch} {e : Env} {s : State} {m : MethodId} {args : Array Value} {below : List Frame} {meth : Method} {c : Code} {g : GP} {Z : St} (hC : CX p s m args c cX12_segmentsStep RX12 g) (hE : EZ g s s.heap) (hml : c.maxLocals = 2) (hr : meth.sig.returnType = none) (hlk : meth.locks = false) {r : Int32} {C2 : St} {x1 : Int32} {t0 : Int32} {C : St} (h : F_X12_segmentsStep_161  x1 t0 C = some (r, C2)) {ed : Nat → Nat} {H : Heap} {locs : List Loc} {ls : Array Slot} (hH : HW g ed Z C H) (hS : va_S (gP g) s.heap H locs) (hl : lv_has ls 2 [(0, .ref (gA g 50 0)), (1, .int x1)]) : W p l e ({ frames := 1, cells := 0, slots := 0, locals := 23 } : Room) s m args below meth c H locs 0 0 (MQ below (QG none g Z C2) args s 0 0 (gP g)) (F0 m 161 ls [.int t0, .ref (gA g 50 0)]) := by
  unfold F_X12_segmentsStep_161 at h
  obtain ⟨D1, e2, h⟩ := st_some h
  refine pf_RX12_261 hC hH hS  rfl dX12_segmentsStep_161 (fun H locs hH hS => ?_)
  rw [← e2] at hH
  refine lv_aload_n hC.1 hC.2.1 dX12_segmentsStep_164 rfl (lv_at hl 0 rfl) ?_
  refine gf_RX12_104 hC hH rfl dX12_segmentsStep_165 ?_
  refine lv_aload_n hC.1 hC.2.1 dX12_segmentsStep_168 rfl (lv_at hl 0 rfl) ?_
  refine gf_RX12_252 hC hH rfl dX12_segmentsStep_169 ?_
  refine lv_bipush (v := (-2 : Int32)) hC.1 hC.2.1 dX12_segmentsStep_172 (by decide) ?_
  obtain ⟨hg3, h⟩ := gd_some h
  obtain ⟨D4, e5, h⟩ := st_some h
  refine as_139 hC hH hS hg3 rfl dX12_segmentsStep_174 (fun H locs hH hS => ?_)
  rw [← e5] at hH
  refine lv_aload_n hC.1 hC.2.1 dX12_segmentsStep_175 rfl (lv_at hl 0 rfl) ?_
  refine lv_iload_n hC.1 hC.2.1 dX12_segmentsStep_176 rfl (lv_at hl 1 rfl) ?_
  refine lv_if_eq (tgt := 184) hC.1 hC.2.1 dX12_segmentsStep_177 (by decide) (fun hc6 => ?_) (fun hc6 => ?_)
  · rw [if_pos hc6] at h
    refine lv_iconst (v := (2 : Int32)) hC.1 hC.2.1 dX12_segmentsStep_184 (by decide) ?_
    exact B_X12_segmentsStep_185 hC hE hml hr hlk h hH hS (lv_sub hl [0] rfl)
  · rw [if_neg hc6] at h
    refine lv_iconst (v := (1 : Int32)) hC.1 hC.2.1 dX12_segmentsStep_180 (by decide) ?_
    refine lv_goto (tgt := 185) hC.1 hC.2.1 dX12_segmentsStep_181 (by decide) ?_
    exact B_X12_segmentsStep_185 hC hE hml hr hlk h hH hS (lv_sub hl [0] rfl)
def F_X12_segmentsStep_142  (t0 : Int32) (C : St) : Option (Int32 × St) := if t0 = 0 then (F_X12_segmentsStep_161 t0 (0 : Int32) C) else (gd (inb (C 50 0 49 0) 6) (F_X12_segmentsStep_161 t0 (C 123 0 0 (C 50 0 49 0).toNatClampNeg) C))
set_option maxHeartbeats 4000000 in
set_option maxRecDepth 100000 in
theorem B_X12_segmentsStep_142 {p : Program} {l : Launch} {e : Env} {s : State} {m : MethodId} {args : Array Value} {below : List Frame} {meth : Method} {c : Code} {g : GP} {Z : St} (hC : CX p s m args c cX12_segmentsStep RX12 g) (hE : EZ g s s.heap) (hml : c.maxLocals = 2) (hr : meth.sig.returnType = none) (hlk : meth.locks = false) {r : Int32} {C2 : St} {t0 : Int32} {C : St} (h : F_X12_segmentsStep_142  t0 C = some (r, C2)) {ed : Nat → Nat} {H : Heap} {locs : List Loc} {ls : Array Slot} (hH : HW g ed Z C H) (hS : va_S (gP g) s.heap H locs) (hl : lv_has ls 2 [(0, .ref (gA g 50 0))]) : W p l e ({ frames := 1, cells := 0, slots := 0, locals := 23 } : Room) s m args below meth c H locs 0 0 (MQ below (QG none g Z C2) args s 0 0 (gP g)) (F0 m 142 ls [.int t0]) := by
  unfold F_X12_segmentsStep_142 at h
  refine lv_istore_n (i := 1) (lv' := [(1, .int t0), (0, .ref (gA g 50 0))]) hC.1 hC.2.1 dX12_segmentsStep_142 rfl hl (by decide) rfl (fun ls hl => ?_)
  refine lv_aload_n hC.1 hC.2.1 dX12_segmentsStep_143 rfl (lv_at hl 1 rfl) ?_
  refine lv_iload_n hC.1 hC.2.1 dX12_segmentsStep_144 rfl (lv_at hl 0 rfl) ?_
  refine lv_if_eq (tgt := 160) hC.1 hC.2.1 dX12_segmentsStep_145 (by decide) (fun hc1 => ?_) (fun hc1 => ?_)
  · rw [if_pos hc1] at h
    refine lv_iconst (v := (0 : Int32)) hC.1 hC.2.1 dX12_segmentsStep_160 (by decide) ?_
    exact B_X12_segmentsStep_161 hC hE hml hr hlk h hH hS (lv_sub hl [1, 0] rfl)
  · rw [if_neg hc1] at h
    refine lv_aload_n hC.1 hC.2.1 dX12_segmentsStep_148 rfl (lv_at hl 1 rfl) ?_
    refine gf_RX12_59 hC hH rfl dX12_segmentsStep_149 ?_
    refine lv_aload_n hC.1 hC.2.1 dX12_segmentsStep_152 rfl (lv_at hl 1 rfl) ?_
    refine gf_RX12_255 hC hH rfl dX12_segmentsStep_153 ?_
    obtain ⟨hg2, h⟩ := gd_some h
    refine al_123 hC hH hg2 rfl dX12_segmentsStep_156 ?_
    refine lv_goto (tgt := 161) hC.1 hC.2.1 dX12_segmentsStep_157 (by decide) ?_
    exact B_X12_segmentsStep_161 hC hE hml hr hlk h hH hS (lv_sub hl [1, 0] rfl)
def F_X12_segmentsStep_141   (C : St) : Option (Int32 × St) := F_X12_segmentsStep_142 (0 : Int32) C
set_option maxHeartbeats 4000000 in
set_option maxRecDepth 100000 in
theorem B_X12_segmentsStep_141 {p : Program} {l : Launch} {e : Env} {s : State} {m : MethodId} {args : Array Value} {below : List Frame} {meth : Method} {c : Code} {g : GP} {Z : St} (hC : CX p s m args c cX12_segmentsStep RX12 g) (hE : EZ g s s.heap) (hml : c.maxLocals = 2) (hr : meth.sig.returnType = none) (hlk : meth.locks = false) {r : Int32} {C2 : St}  {C : St} (h : F_X12_segmentsStep_141   C = some (r, C2)) {ed : Nat → Nat} {H : Heap} {locs : List Loc} {ls : Array Slot} (hH : HW g ed Z C H) (hS : va_S (gP g) s.heap H locs) (hl : lv_has ls 2 [(0, .ref (gA g 50 0))]) : W p l e ({ frames := 1, cells := 0, slots := 0, locals := 23 } : Room) s m args below meth c H locs 0 0 (MQ below (QG none g Z C2) args s 0 0 (gP g)) (F0 m 141 ls []) := by
  unfold F_X12_segmentsStep_141 at h
  refine lv_iconst (v := (0 : Int32)) hC.1 hC.2.1 dX12_segmentsStep_141 (by decide) ?_
  exact B_X12_segmentsStep_142 hC hE hml hr hlk h hH hS (lv_sub hl [0] rfl)
def F_X12_segmentsStep_32  : Nat → Int32 → St → Option (Int32 × St)
  | 0, _, _ => none
  | fu + 1, x1, C => if (C 50 0 60 0) ≤ x1 then (st (up C 50 0 60 0 ((C 50 0 60 0) - (1 : Int32))) (fun D2 => bd2 (F_X12_choose  D2) (fun r4 D5 => st (up D5 50 0 46 0 r4) (fun D7 => gd (inb (D7 50 0 46 0) 12) (st (up D7 50 0 49 0 (D7 139 0 0 (D7 50 0 46 0).toNatClampNeg)) (fun D10 => gd (inb (D10 50 0 46 0) 12) (st (up D10 50 0 50 0 (D10 140 0 0 (D10 50 0 46 0).toNatClampNeg)) (fun D13 => if (D13 50 0 49 0) < 0 then (F_X12_segmentsStep_141  D13) else (gd (inb (D13 50 0 46 0) 12) (if (D13 142 0 0 (D13 50 0 46 0).toNatClampNeg) = 0 then (F_X12_segmentsStep_141  D13) else (F_X12_segmentsStep_142 (1 : Int32) D13))))))))))) else (gd (inb x1 6) (gd (inb (x1 - (1 : Int32)) 6) (st (up C 156 0 0 (x1 - (1 : Int32)).toNatClampNeg (C 156 0 0 x1.toNatClampNeg)) (fun D20 => st (up D20 157 0 0 (x1 - (1 : Int32)).toNatClampNeg (D20 157 0 0 x1.toNatClampNeg)) (fun D22 => F_X12_segmentsStep_32 fu (x1 + 1) D22)))))
set_option maxHeartbeats 4000000 in
set_option maxRecDepth 100000 in
theorem B_X12_segmentsStep_32 {p : Program} {l : Launch} {e : Env} {s : State} {m : MethodId} {args : Array Value} {below : List Frame} {meth : Method} {c : Code} {g : GP} {Z : St} (hC : CX p s m args c cX12_segmentsStep RX12 g) (hE : EZ g s s.heap) (hml : c.maxLocals = 2) (hr : meth.sig.returnType = none) (hlk : meth.locks = false) {r : Int32} {C2 : St} : ∀ (fu : Nat) (x1 : Int32) (C : St), F_X12_segmentsStep_32  fu x1 C = some (r, C2) → ∀ (ed : Nat → Nat) (H : Heap) (locs : List Loc) (ls : Array Slot), HW g ed Z C H → va_S (gP g) s.heap H locs → lv_has ls 2 [(0, .ref (gA g 50 0)), (1, .int x1)] → W p l e ({ frames := 1, cells := 0, slots := 0, locals := 23 } : Room) s m args below meth c H locs 0 0 (MQ below (QG none g Z C2) args s 0 0 (gP g)) (F0 m 32 ls []) := by
  intro fu
  induction fu with
  | zero =>
    intro x1 C h
    cases h
  | succ fu ih =>
    intro x1 C h ed H locs ls hH hS hl
    rw [F_X12_segmentsStep_32] at h
    refine lv_iload_n hC.1 hC.2.1 dX12_segmentsStep_32 rfl (lv_at hl 1 rfl) ?_
    refine lv_aload_n hC.1 hC.2.1 dX12_segmentsStep_33 rfl (lv_at hl 0 rfl) ?_
    refine gf_RX12_191 hC hH rfl dX12_segmentsStep_34 ?_
    refine lv_icmp_ge (tgt := 74) hC.1 hC.2.1 dX12_segmentsStep_37 (by decide) (fun hc1 => ?_) (fun hc1 => ?_)
    · rw [if_pos hc1] at h
      refine lv_aload_n hC.1 hC.2.1 dX12_segmentsStep_74 rfl (lv_at hl 0 rfl) ?_
      refine lv_dup hC.1 hC.2.1 dX12_segmentsStep_75 rfl ?_
      refine gf_RX12_191 hC hH rfl dX12_segmentsStep_76 ?_
      refine lv_iconst (v := (1 : Int32)) hC.1 hC.2.1 dX12_segmentsStep_79 (by decide) ?_
      refine lv_isub hC.1 hC.2.1 dX12_segmentsStep_80 ?_
      obtain ⟨D2, e3, h⟩ := st_some h
      refine pf_RX12_191 hC hH hS  rfl dX12_segmentsStep_81 (fun H locs hH hS => ?_)
      rw [← e3] at hH
      refine lv_aload_n hC.1 hC.2.1 dX12_segmentsStep_84 rfl (lv_at hl 0 rfl) ?_
      refine lv_aload_n hC.1 hC.2.1 dX12_segmentsStep_85 rfl (lv_at hl 0 rfl) ?_
      obtain ⟨r4, D5, hF6, h⟩ := bd2_some h
      refine gcallV (As := []) (rest := [.ref (gA g 50 0)]) (Cn := RX12) hC hE hml hH hS (c_X12_choose hF6) ⟨wd_1449, wd_1451, wp_58, wd_17, wd_1452⟩ hd_X12_choose rfl rfl ⟨Nat.le_of_ble_eq_true rfl, Nat.le_of_ble_eq_true rfl⟩ rfl (hw_recv (q := 50) (i := 0) hC hH ⟨Nat.zero_lt_one, fun h => absurd h (by decide)⟩ rfl rfl) rfl hl.1 rfl (Nat.le_of_ble_eq_true rfl) dX12_segmentsStep_86 ⟨Nat.le_of_ble_eq_true rfl, Nat.le_of_ble_eq_true rfl⟩ (fun ed H locs hH hS => ?_)
      refine W.eq (g2 := F0 m 89 ls [.int r4, .ref (gA g 50 0)]) rfl ?_
      obtain ⟨D7, e8, h⟩ := st_some h
      refine pf_RX12_252 hC hH hS  rfl dX12_segmentsStep_89 (fun H locs hH hS => ?_)
      rw [← e8] at hH
      refine lv_aload_n hC.1 hC.2.1 dX12_segmentsStep_92 rfl (lv_at hl 0 rfl) ?_
      refine lv_aload_n hC.1 hC.2.1 dX12_segmentsStep_93 rfl (lv_at hl 0 rfl) ?_
      refine gf_RX12_104 hC hH rfl dX12_segmentsStep_94 ?_
      refine lv_aload_n hC.1 hC.2.1 dX12_segmentsStep_97 rfl (lv_at hl 0 rfl) ?_
      refine gf_RX12_252 hC hH rfl dX12_segmentsStep_98 ?_
      obtain ⟨hg9, h⟩ := gd_some h
      refine al_139 hC hH hg9 rfl dX12_segmentsStep_101 ?_
      obtain ⟨D10, e11, h⟩ := st_some h
      refine pf_RX12_255 hC hH hS  rfl dX12_segmentsStep_102 (fun H locs hH hS => ?_)
      rw [← e11] at hH
      refine lv_aload_n hC.1 hC.2.1 dX12_segmentsStep_105 rfl (lv_at hl 0 rfl) ?_
      refine lv_aload_n hC.1 hC.2.1 dX12_segmentsStep_106 rfl (lv_at hl 0 rfl) ?_
      refine gf_RX12_107 hC hH rfl dX12_segmentsStep_107 ?_
      refine lv_aload_n hC.1 hC.2.1 dX12_segmentsStep_110 rfl (lv_at hl 0 rfl) ?_
      refine gf_RX12_252 hC hH rfl dX12_segmentsStep_111 ?_
      obtain ⟨hg12, h⟩ := gd_some h
      refine al_140 hC hH hg12 rfl dX12_segmentsStep_114 ?_
      obtain ⟨D13, e14, h⟩ := st_some h
      refine pf_RX12_258 hC hH hS  rfl dX12_segmentsStep_115 (fun H locs hH hS => ?_)
      rw [← e14] at hH
      refine lv_aload_n hC.1 hC.2.1 dX12_segmentsStep_118 rfl (lv_at hl 0 rfl) ?_
      refine gf_RX12_255 hC hH rfl dX12_segmentsStep_119 ?_
      refine lv_if_lt (tgt := 141) hC.1 hC.2.1 dX12_segmentsStep_122 (by decide) (fun hc15 => ?_) (fun hc15 => ?_)
      · rw [if_pos hc15] at h
        exact B_X12_segmentsStep_141 hC hE hml hr hlk h hH hS (lv_sub hl [0] rfl)
      · rw [if_neg hc15] at h
        refine lv_aload_n hC.1 hC.2.1 dX12_segmentsStep_125 rfl (lv_at hl 0 rfl) ?_
        refine gf_RX12_113 hC hH rfl dX12_segmentsStep_126 ?_
        refine lv_aload_n hC.1 hC.2.1 dX12_segmentsStep_129 rfl (lv_at hl 0 rfl) ?_
        refine gf_RX12_252 hC hH rfl dX12_segmentsStep_130 ?_
        obtain ⟨hg16, h⟩ := gd_some h
        refine al_142 hC hH hg16 rfl dX12_segmentsStep_133 ?_
        refine lv_if_eq (tgt := 141) hC.1 hC.2.1 dX12_segmentsStep_134 (by decide) (fun hc17 => ?_) (fun hc17 => ?_)
        · rw [if_pos hc17] at h
          exact B_X12_segmentsStep_141 hC hE hml hr hlk h hH hS (lv_sub hl [0] rfl)
        · rw [if_neg hc17] at h
          refine lv_iconst (v := (1 : Int32)) hC.1 hC.2.1 dX12_segmentsStep_137 (by decide) ?_
          refine lv_goto (tgt := 142) hC.1 hC.2.1 dX12_segmentsStep_138 (by decide) ?_
          exact B_X12_segmentsStep_142 hC hE hml hr hlk h hH hS (lv_sub hl [0] rfl)
    · rw [if_neg hc1] at h
      refine lv_aload_n hC.1 hC.2.1 dX12_segmentsStep_40 rfl (lv_at hl 0 rfl) ?_
      refine gf_RX12_119 hC hH rfl dX12_segmentsStep_41 ?_
      refine lv_iload_n hC.1 hC.2.1 dX12_segmentsStep_44 rfl (lv_at hl 1 rfl) ?_
      refine lv_iconst (v := (1 : Int32)) hC.1 hC.2.1 dX12_segmentsStep_45 (by decide) ?_
      refine lv_isub hC.1 hC.2.1 dX12_segmentsStep_46 ?_
      refine lv_aload_n hC.1 hC.2.1 dX12_segmentsStep_47 rfl (lv_at hl 0 rfl) ?_
      refine gf_RX12_119 hC hH rfl dX12_segmentsStep_48 ?_
      refine lv_iload_n hC.1 hC.2.1 dX12_segmentsStep_51 rfl (lv_at hl 1 rfl) ?_
      obtain ⟨hg18, h⟩ := gd_some h
      refine al_156 hC hH hg18 rfl dX12_segmentsStep_52 ?_
      obtain ⟨hg19, h⟩ := gd_some h
      obtain ⟨D20, e21, h⟩ := st_some h
      refine as_156 hC hH hS hg19 rfl dX12_segmentsStep_53 (fun H locs hH hS => ?_)
      rw [← e21] at hH
      refine lv_aload_n hC.1 hC.2.1 dX12_segmentsStep_54 rfl (lv_at hl 0 rfl) ?_
      refine gf_RX12_122 hC hH rfl dX12_segmentsStep_55 ?_
      refine lv_iload_n hC.1 hC.2.1 dX12_segmentsStep_58 rfl (lv_at hl 1 rfl) ?_
      refine lv_iconst (v := (1 : Int32)) hC.1 hC.2.1 dX12_segmentsStep_59 (by decide) ?_
      refine lv_isub hC.1 hC.2.1 dX12_segmentsStep_60 ?_
      refine lv_aload_n hC.1 hC.2.1 dX12_segmentsStep_61 rfl (lv_at hl 0 rfl) ?_
      refine gf_RX12_122 hC hH rfl dX12_segmentsStep_62 ?_
      refine lv_iload_n hC.1 hC.2.1 dX12_segmentsStep_65 rfl (lv_at hl 1 rfl) ?_
      refine al_157 hC hH hg18 rfl dX12_segmentsStep_66 ?_
      obtain ⟨D22, e23, h⟩ := st_some h
      refine as_157 hC hH hS hg19 rfl dX12_segmentsStep_67 (fun H locs hH hS => ?_)
      rw [← e23] at hH
      refine lv_iinc (v := x1 + 1) (lv' := [(1, .int (x1 + 1)), (0, .ref (gA g 50 0))]) hC.1 hC.2.1 dX12_segmentsStep_68 hl (k := 1) rfl rfl (by decide) rfl (fun ls hl => ?_)
      refine lv_goto (tgt := 32) hC.1 hC.2.1 dX12_segmentsStep_71 (by decide) ?_
      exact ih _ _ h _ _ _ _ hH hS (lv_sub hl [1, 0] rfl)
def F_X12_segmentsStep  (C : St) : Option (Int32 × St) := gd (inb (6 : Int32) 10) (if (C 112 0 0 (6 : Int32).toNatClampNeg) = 0 then (gd (inb (0 : Int32) 6) (st (up C 50 0 47 0 (C 156 0 0 (0 : Int32).toNatClampNeg)) (fun D33 => st (up D33 50 0 48 0 (D33 157 0 0 (0 : Int32).toNatClampNeg)) (fun D35 => F_X12_segmentsStep_32 1000 (1 : Int32) D35)))) else (if (C 112 0 0 (6 : Int32).toNatClampNeg) = (1 : Int32) then (st (up C 50 0 45 0 (2 : Int32)) (fun D27 => bd2 (F_X12_waitFor (6 : Int32) (1 : Int32) (2 : Int32) D27) (fun r29 D30 => F_X12_segmentsStep_314  D30))) else (gd (inb (C 50 0 46 0) 12) (st (up C 139 0 0 (C 50 0 46 0).toNatClampNeg (C 50 0 47 0)) (fun D5 => gd (inb (D5 50 0 46 0) 12) (st (up D5 140 0 0 (D5 50 0 46 0).toNatClampNeg (D5 50 0 48 0)) (fun D8 => gd (inb (D8 50 0 46 0) 12) (st (up D8 142 0 0 (D8 50 0 46 0).toNatClampNeg (0 : Int32)) (fun D11 => gd (inb (D11 50 0 46 0) 12) (st (up D11 143 0 0 (D11 50 0 46 0).toNatClampNeg (1 : Int32)) (fun D14 => gd (inb (D14 50 0 46 0) 12) (st (up D14 141 0 0 (D14 50 0 46 0).toNatClampNeg (D14 50 0 5 0)) (fun D17 => st (up D17 50 0 44 0 ((D17 50 0 44 0) + (1 : Int32))) (fun D19 => bd2 (F_X12_wake (D19 50 0 47 0) D19) (fun r21 D22 => bd2 (F_X12_waitFor (6 : Int32) (0 : Int32) (0 : Int32) D22) (fun r24 D25 => F_X12_segmentsStep_314  D25))))))))))))))))
set_option maxHeartbeats 4000000 in
set_option maxRecDepth 100000 in
theorem c_X12_segmentsStep {l : Launch} {g : GP} {ed : Nat → Nat} {Z : St}  {C : St} {r : Int32} {C2 : St} (h : F_X12_segmentsStep  C = some (r, C2)) : Met l yX12_segmentsStep (Cond.code yX12_segmentsStep cX12_segmentsStep 2 none :: lwG) ({ frames := 1, cells := 0, slots := 0, locals := 23 } : Room) (va_Pc [.ref (gA g 50 0)] (PW g Z C ed)) (QG none g Z C2) 0 0 (gP g) := by
  refine Met.ofW (cc := cX12_segmentsStep) (maxL := 2) (ret := none) (by decide +kernel) rfl ?_
  intro p e s m args below meth c s₁ B hml hv
  obtain ⟨ha, hC, hE, hr, hlk, hH⟩ := g_start B hv
  subst ha
  have hC : CX p s m ([.ref (gA g 50 0)] : List Value).toArray c cX12_segmentsStep RX12 g := hC
  have hS : va_S (gP g) s.heap s.heap [] := va_S.rf
  obtain ⟨ls, he, hl⟩ := g_entry m (vs := [.ref (gA g 50 0)]) (n := 2) (List.forall_mem_cons.mpr ⟨rfl, (fun _ h => absurd h List.not_mem_nil)⟩) (Nat.le_of_ble_eq_true rfl)
  rw [he]
  have hl : lv_has ls 2 [(0, .ref (gA g 50 0))] := hl
  unfold F_X12_segmentsStep at h
  refine lv_aload_n hC.1 hC.2.1 dX12_segmentsStep_0 rfl (lv_at hl 0 rfl) ?_
  refine gf_RX12_26 hC hH rfl dX12_segmentsStep_1 ?_
  refine lv_bipush (v := (6 : Int32)) hC.1 hC.2.1 dX12_segmentsStep_4 (by decide) ?_
  obtain ⟨hg1, h⟩ := gd_some h
  refine al_112 hC hH hg1 rfl dX12_segmentsStep_6 ?_
  refine lv_if_ne (tgt := 202) hC.1 hC.2.1 dX12_segmentsStep_7 (by decide) (fun hc2 => ?_) (fun hc2 => ?_)
  · rw [if_neg hc2] at h
    refine lv_aload_n hC.1 hC.2.1 dX12_segmentsStep_202 rfl (lv_at hl 0 rfl) ?_
    refine gf_RX12_26 hC hH rfl dX12_segmentsStep_203 ?_
    refine lv_bipush (v := (6 : Int32)) hC.1 hC.2.1 dX12_segmentsStep_206 (by decide) ?_
    refine al_112 hC hH hg1 rfl dX12_segmentsStep_208 ?_
    refine lv_iconst (v := (1 : Int32)) hC.1 hC.2.1 dX12_segmentsStep_209 (by decide) ?_
    refine lv_icmp_ne (tgt := 229) hC.1 hC.2.1 dX12_segmentsStep_210 (by decide) (fun hc3 => ?_) (fun hc3 => ?_)
    · rw [if_neg hc3] at h
      refine lv_aload_n hC.1 hC.2.1 dX12_segmentsStep_229 rfl (lv_at hl 0 rfl) ?_
      refine gf_RX12_104 hC hH rfl dX12_segmentsStep_230 ?_
      refine lv_aload_n hC.1 hC.2.1 dX12_segmentsStep_233 rfl (lv_at hl 0 rfl) ?_
      refine gf_RX12_252 hC hH rfl dX12_segmentsStep_234 ?_
      refine lv_aload_n hC.1 hC.2.1 dX12_segmentsStep_237 rfl (lv_at hl 0 rfl) ?_
      refine gf_RX12_242 hC hH rfl dX12_segmentsStep_238 ?_
      obtain ⟨hg4, h⟩ := gd_some h
      obtain ⟨D5, e6, h⟩ := st_some h
      refine as_139 hC hH hS hg4 rfl dX12_segmentsStep_241 (fun H locs hH hS => ?_)
      rw [← e6] at hH
      refine lv_aload_n hC.1 hC.2.1 dX12_segmentsStep_242 rfl (lv_at hl 0 rfl) ?_
      refine gf_RX12_107 hC hH rfl dX12_segmentsStep_243 ?_
      refine lv_aload_n hC.1 hC.2.1 dX12_segmentsStep_246 rfl (lv_at hl 0 rfl) ?_
      refine gf_RX12_252 hC hH rfl dX12_segmentsStep_247 ?_
      refine lv_aload_n hC.1 hC.2.1 dX12_segmentsStep_250 rfl (lv_at hl 0 rfl) ?_
      refine gf_RX12_245 hC hH rfl dX12_segmentsStep_251 ?_
      obtain ⟨hg7, h⟩ := gd_some h
      obtain ⟨D8, e9, h⟩ := st_some h
      refine as_140 hC hH hS hg7 rfl dX12_segmentsStep_254 (fun H locs hH hS => ?_)
      rw [← e9] at hH
      refine lv_aload_n hC.1 hC.2.1 dX12_segmentsStep_255 rfl (lv_at hl 0 rfl) ?_
      refine gf_RX12_113 hC hH rfl dX12_segmentsStep_256 ?_
      refine lv_aload_n hC.1 hC.2.1 dX12_segmentsStep_259 rfl (lv_at hl 0 rfl) ?_
      refine gf_RX12_252 hC hH rfl dX12_segmentsStep_260 ?_
      refine lv_iconst (v := (0 : Int32)) hC.1 hC.2.1 dX12_segmentsStep_263 (by decide) ?_
      obtain ⟨hg10, h⟩ := gd_some h
      obtain ⟨D11, e12, h⟩ := st_some h
      refine as_142 hC hH hS hg10 (by decide) rfl dX12_segmentsStep_264 (fun H locs hH hS => ?_)
      rw [← e12] at hH
      refine lv_aload_n hC.1 hC.2.1 dX12_segmentsStep_265 rfl (lv_at hl 0 rfl) ?_
      refine gf_RX12_116 hC hH rfl dX12_segmentsStep_266 ?_
      refine lv_aload_n hC.1 hC.2.1 dX12_segmentsStep_269 rfl (lv_at hl 0 rfl) ?_
      refine gf_RX12_252 hC hH rfl dX12_segmentsStep_270 ?_
      refine lv_iconst (v := (1 : Int32)) hC.1 hC.2.1 dX12_segmentsStep_273 (by decide) ?_
      obtain ⟨hg13, h⟩ := gd_some h
      obtain ⟨D14, e15, h⟩ := st_some h
      refine as_143 hC hH hS hg13 (by decide) rfl dX12_segmentsStep_274 (fun H locs hH hS => ?_)
      rw [← e15] at hH
      refine lv_aload_n hC.1 hC.2.1 dX12_segmentsStep_275 rfl (lv_at hl 0 rfl) ?_
      refine gf_RX12_110 hC hH rfl dX12_segmentsStep_276 ?_
      refine lv_aload_n hC.1 hC.2.1 dX12_segmentsStep_279 rfl (lv_at hl 0 rfl) ?_
      refine gf_RX12_252 hC hH rfl dX12_segmentsStep_280 ?_
      refine lv_aload_n hC.1 hC.2.1 dX12_segmentsStep_283 rfl (lv_at hl 0 rfl) ?_
      refine gf_RX12_167 hC hH rfl dX12_segmentsStep_284 ?_
      obtain ⟨hg16, h⟩ := gd_some h
      obtain ⟨D17, e18, h⟩ := st_some h
      refine as_141 hC hH hS hg16 rfl dX12_segmentsStep_287 (fun H locs hH hS => ?_)
      rw [← e18] at hH
      refine lv_aload_n hC.1 hC.2.1 dX12_segmentsStep_288 rfl (lv_at hl 0 rfl) ?_
      refine lv_dup hC.1 hC.2.1 dX12_segmentsStep_289 rfl ?_
      refine gf_RX12_270 hC hH rfl dX12_segmentsStep_290 ?_
      refine lv_iconst (v := (1 : Int32)) hC.1 hC.2.1 dX12_segmentsStep_293 (by decide) ?_
      refine lv_iadd hC.1 hC.2.1 dX12_segmentsStep_294 ?_
      obtain ⟨D19, e20, h⟩ := st_some h
      refine pf_RX12_270 hC hH hS  rfl dX12_segmentsStep_295 (fun H locs hH hS => ?_)
      rw [← e20] at hH
      refine lv_aload_n hC.1 hC.2.1 dX12_segmentsStep_298 rfl (lv_at hl 0 rfl) ?_
      refine lv_aload_n hC.1 hC.2.1 dX12_segmentsStep_299 rfl (lv_at hl 0 rfl) ?_
      refine gf_RX12_242 hC hH rfl dX12_segmentsStep_300 ?_
      obtain ⟨r21, D22, hF23, h⟩ := bd2_some h
      refine gcallV (As := [.int (D19 50 0 47 0)]) (rest := []) (Cn := RX12) hC hE hml hH hS (c_X12_wake hF23) ⟨wd_1400, wd_1402, wp_46, wd_17, wd_1403⟩ hd_X12_wake rfl rfl ⟨Nat.le_of_ble_eq_true rfl, Nat.le_of_ble_eq_true rfl⟩ rfl (hw_recv (q := 50) (i := 0) hC hH ⟨Nat.zero_lt_one, fun h => absurd h (by decide)⟩ rfl rfl) rfl hl.1 rfl (Nat.le_of_ble_eq_true rfl) dX12_segmentsStep_303 ⟨Nat.le_of_ble_eq_true rfl, Nat.le_of_ble_eq_true rfl⟩ (fun ed H locs hH hS => ?_)
      refine W.eq (g2 := F0 m 306 ls []) rfl ?_
      refine lv_aload_n hC.1 hC.2.1 dX12_segmentsStep_306 rfl (lv_at hl 0 rfl) ?_
      refine lv_bipush (v := (6 : Int32)) hC.1 hC.2.1 dX12_segmentsStep_307 (by decide) ?_
      refine lv_iconst (v := (0 : Int32)) hC.1 hC.2.1 dX12_segmentsStep_309 (by decide) ?_
      refine lv_iconst (v := (0 : Int32)) hC.1 hC.2.1 dX12_segmentsStep_310 (by decide) ?_
      obtain ⟨r24, D25, hF26, h⟩ := bd2_some h
      refine gcallV (As := [.int (6 : Int32), .int (0 : Int32), .int (0 : Int32)]) (rest := []) (Cn := RX12) hC hE hml hH hS (c_X12_waitFor hF26) ⟨wd_1453, wd_1455, wp_59, wd_17, wd_1456⟩ hd_X12_waitFor rfl rfl ⟨Nat.le_of_ble_eq_true rfl, Nat.le_of_ble_eq_true rfl⟩ rfl (hw_recv (q := 50) (i := 0) hC hH ⟨Nat.zero_lt_one, fun h => absurd h (by decide)⟩ rfl rfl) rfl hl.1 rfl (Nat.le_of_ble_eq_true rfl) dX12_segmentsStep_311 ⟨Nat.le_of_ble_eq_true rfl, Nat.le_of_ble_eq_true rfl⟩ (fun ed H locs hH hS => ?_)
      refine W.eq (g2 := F0 m 314 ls []) rfl ?_
      exact B_X12_segmentsStep_314 hC hE hml hr hlk h hH hS (lv_sub hl [] rfl)
    · rw [if_pos hc3] at h
      refine lv_aload_n hC.1 hC.2.1 dX12_segmentsStep_213 rfl (lv_at hl 0 rfl) ?_
      refine lv_iconst (v := (2 : Int32)) hC.1 hC.2.1 dX12_segmentsStep_214 (by decide) ?_
      obtain ⟨D27, e28, h⟩ := st_some h
      refine pf_RX12_264 hC hH hS  rfl dX12_segmentsStep_215 (fun H locs hH hS => ?_)
      rw [← e28] at hH
      refine lv_aload_n hC.1 hC.2.1 dX12_segmentsStep_218 rfl (lv_at hl 0 rfl) ?_
      refine lv_bipush (v := (6 : Int32)) hC.1 hC.2.1 dX12_segmentsStep_219 (by decide) ?_
      refine lv_iconst (v := (1 : Int32)) hC.1 hC.2.1 dX12_segmentsStep_221 (by decide) ?_
      refine lv_iconst (v := (2 : Int32)) hC.1 hC.2.1 dX12_segmentsStep_222 (by decide) ?_
      obtain ⟨r29, D30, hF31, h⟩ := bd2_some h
      refine gcallV (As := [.int (6 : Int32), .int (1 : Int32), .int (2 : Int32)]) (rest := []) (Cn := RX12) hC hE hml hH hS (c_X12_waitFor hF31) ⟨wd_1453, wd_1455, wp_59, wd_17, wd_1456⟩ hd_X12_waitFor rfl rfl ⟨Nat.le_of_ble_eq_true rfl, Nat.le_of_ble_eq_true rfl⟩ rfl (hw_recv (q := 50) (i := 0) hC hH ⟨Nat.zero_lt_one, fun h => absurd h (by decide)⟩ rfl rfl) rfl hl.1 rfl (Nat.le_of_ble_eq_true rfl) dX12_segmentsStep_223 ⟨Nat.le_of_ble_eq_true rfl, Nat.le_of_ble_eq_true rfl⟩ (fun ed H locs hH hS => ?_)
      refine W.eq (g2 := F0 m 226 ls []) rfl ?_
      refine lv_goto (tgt := 314) hC.1 hC.2.1 dX12_segmentsStep_226 (by decide) ?_
      exact B_X12_segmentsStep_314 hC hE hml hr hlk h hH hS (lv_sub hl [] rfl)
  · rw [if_pos hc2] at h
    refine lv_aload_n hC.1 hC.2.1 dX12_segmentsStep_10 rfl (lv_at hl 0 rfl) ?_
    refine lv_aload_n hC.1 hC.2.1 dX12_segmentsStep_11 rfl (lv_at hl 0 rfl) ?_
    refine gf_RX12_119 hC hH rfl dX12_segmentsStep_12 ?_
    refine lv_iconst (v := (0 : Int32)) hC.1 hC.2.1 dX12_segmentsStep_15 (by decide) ?_
    obtain ⟨hg32, h⟩ := gd_some h
    refine al_156 hC hH hg32 rfl dX12_segmentsStep_16 ?_
    obtain ⟨D33, e34, h⟩ := st_some h
    refine pf_RX12_242 hC hH hS  rfl dX12_segmentsStep_17 (fun H locs hH hS => ?_)
    rw [← e34] at hH
    refine lv_aload_n hC.1 hC.2.1 dX12_segmentsStep_20 rfl (lv_at hl 0 rfl) ?_
    refine lv_aload_n hC.1 hC.2.1 dX12_segmentsStep_21 rfl (lv_at hl 0 rfl) ?_
    refine gf_RX12_122 hC hH rfl dX12_segmentsStep_22 ?_
    refine lv_iconst (v := (0 : Int32)) hC.1 hC.2.1 dX12_segmentsStep_25 (by decide) ?_
    refine al_157 hC hH hg32 rfl dX12_segmentsStep_26 ?_
    obtain ⟨D35, e36, h⟩ := st_some h
    refine pf_RX12_245 hC hH hS  rfl dX12_segmentsStep_27 (fun H locs hH hS => ?_)
    rw [← e36] at hH
    refine lv_iconst (v := (1 : Int32)) hC.1 hC.2.1 dX12_segmentsStep_30 (by decide) ?_
    refine lv_istore_n (i := 1) (lv' := [(1, .int (1 : Int32)), (0, .ref (gA g 50 0))]) hC.1 hC.2.1 dX12_segmentsStep_31 rfl hl (by decide) rfl (fun ls hl => ?_)
    exact B_X12_segmentsStep_32 hC hE hml hr hlk 1000 _ _ h _ _ _ _ hH hS (lv_sub hl [1, 0] rfl)
def F_X12_readingStep_22  : Nat → Int32 → St → Option (Int32 × St)
  | 0, _, _ => none
  | fu + 1, x1, C => if (C 50 0 61 0) ≤ x1 then (st (up C 50 0 61 0 ((C 50 0 61 0) - (1 : Int32))) (fun D2 => st (up D2 50 0 52 0 (1 : Int32)) (fun D4 => bd2 (F_X12_waitFor (7 : Int32) (3 : Int32) (1 : Int32) D4) (fun r6 D7 => some (0, D7))))) else (gd (inb x1 6) (gd (inb (x1 - (1 : Int32)) 6) (st (up C 158 0 0 (x1 - (1 : Int32)).toNatClampNeg (C 158 0 0 x1.toNatClampNeg)) (fun D11 => F_X12_readingStep_22 fu (x1 + 1) D11))))
set_option maxHeartbeats 4000000 in
set_option maxRecDepth 100000 in
theorem B_X12_readingStep_22 {p : Program} {l : Launch} {e : Env} {s : State} {m : MethodId} {args : Array Value} {below : List Frame} {meth : Method} {c : Code} {g : GP} {Z : St} (hC : CX p s m args c cX12_readingStep RX12 g) (hE : EZ g s s.heap) (hml : c.maxLocals = 2) (hr : meth.sig.returnType = none) (hlk : meth.locks = false) {r : Int32} {C2 : St} : ∀ (fu : Nat) (x1 : Int32) (C : St), F_X12_readingStep_22  fu x1 C = some (r, C2) → ∀ (ed : Nat → Nat) (H : Heap) (locs : List Loc) (ls : Array Slot), HW g ed Z C H → va_S (gP g) s.heap H locs → lv_has ls 2 [(0, .ref (gA g 50 0)), (1, .int x1)] → W p l e ({ frames := 2, cells := 0, slots := 0, locals := 43 } : Room) s m args below meth c H locs 0 0 (MQ below (QG none g Z C2) args s 0 0 (gP g)) (F0 m 22 ls []) := by
  intro fu
  induction fu with
  | zero =>
    intro x1 C h
    cases h
  | succ fu ih =>
    intro x1 C h ed H locs ls hH hS hl
    rw [F_X12_readingStep_22] at h
    refine lv_iload_n hC.1 hC.2.1 dX12_readingStep_22 rfl (lv_at hl 1 rfl) ?_
    refine lv_aload_n hC.1 hC.2.1 dX12_readingStep_23 rfl (lv_at hl 0 rfl) ?_
    refine gf_RX12_300 hC hH rfl dX12_readingStep_24 ?_
    refine lv_icmp_ge (tgt := 50) hC.1 hC.2.1 dX12_readingStep_27 (by decide) (fun hc1 => ?_) (fun hc1 => ?_)
    · rw [if_pos hc1] at h
      refine lv_aload_n hC.1 hC.2.1 dX12_readingStep_50 rfl (lv_at hl 0 rfl) ?_
      refine lv_dup hC.1 hC.2.1 dX12_readingStep_51 rfl ?_
      refine gf_RX12_300 hC hH rfl dX12_readingStep_52 ?_
      refine lv_iconst (v := (1 : Int32)) hC.1 hC.2.1 dX12_readingStep_55 (by decide) ?_
      refine lv_isub hC.1 hC.2.1 dX12_readingStep_56 ?_
      obtain ⟨D2, e3, h⟩ := st_some h
      refine pf_RX12_300 hC hH hS  rfl dX12_readingStep_57 (fun H locs hH hS => ?_)
      rw [← e3] at hH
      refine lv_aload_n hC.1 hC.2.1 dX12_readingStep_60 rfl (lv_at hl 0 rfl) ?_
      refine lv_iconst (v := (1 : Int32)) hC.1 hC.2.1 dX12_readingStep_61 (by decide) ?_
      obtain ⟨D4, e5, h⟩ := st_some h
      refine pf_RX12_306 hC hH hS (by decide) rfl dX12_readingStep_62 (fun H locs hH hS => ?_)
      rw [← e5] at hH
      refine lv_aload_n hC.1 hC.2.1 dX12_readingStep_65 rfl (lv_at hl 0 rfl) ?_
      refine lv_bipush (v := (7 : Int32)) hC.1 hC.2.1 dX12_readingStep_66 (by decide) ?_
      refine lv_iconst (v := (3 : Int32)) hC.1 hC.2.1 dX12_readingStep_68 (by decide) ?_
      refine lv_iconst (v := (1 : Int32)) hC.1 hC.2.1 dX12_readingStep_69 (by decide) ?_
      obtain ⟨r6, D7, hF8, h⟩ := bd2_some h
      refine gcallV (As := [.int (7 : Int32), .int (3 : Int32), .int (1 : Int32)]) (rest := []) (Cn := RX12) hC hE hml hH hS (c_X12_waitFor hF8) ⟨wd_1453, wd_1455, wp_59, wd_17, wd_1456⟩ hd_X12_waitFor rfl rfl ⟨Nat.le_of_ble_eq_true rfl, Nat.le_of_ble_eq_true rfl⟩ rfl (hw_recv (q := 50) (i := 0) hC hH ⟨Nat.zero_lt_one, fun h => absurd h (by decide)⟩ rfl rfl) rfl hl.1 rfl (Nat.le_of_ble_eq_true rfl) dX12_readingStep_70 ⟨Nat.le_of_ble_eq_true rfl, Nat.le_of_ble_eq_true rfl⟩ (fun ed H locs hH hS => ?_)
      refine W.eq (g2 := F0 m 73 ls []) rfl ?_
      cases h
      exact gret_v hC hr hlk hH hS (Nat.le_of_ble_eq_true rfl) (Nat.le_of_ble_eq_true rfl) dX12_readingStep_73
    · rw [if_neg hc1] at h
      refine lv_aload_n hC.1 hC.2.1 dX12_readingStep_30 rfl (lv_at hl 0 rfl) ?_
      refine gf_RX12_125 hC hH rfl dX12_readingStep_31 ?_
      refine lv_iload_n hC.1 hC.2.1 dX12_readingStep_34 rfl (lv_at hl 1 rfl) ?_
      refine lv_iconst (v := (1 : Int32)) hC.1 hC.2.1 dX12_readingStep_35 (by decide) ?_
      refine lv_isub hC.1 hC.2.1 dX12_readingStep_36 ?_
      refine lv_aload_n hC.1 hC.2.1 dX12_readingStep_37 rfl (lv_at hl 0 rfl) ?_
      refine gf_RX12_125 hC hH rfl dX12_readingStep_38 ?_
      refine lv_iload_n hC.1 hC.2.1 dX12_readingStep_41 rfl (lv_at hl 1 rfl) ?_
      obtain ⟨hg9, h⟩ := gd_some h
      refine al_158 hC hH hg9 rfl dX12_readingStep_42 ?_
      obtain ⟨hg10, h⟩ := gd_some h
      obtain ⟨D11, e12, h⟩ := st_some h
      refine as_158 hC hH hS hg10 rfl dX12_readingStep_43 (fun H locs hH hS => ?_)
      rw [← e12] at hH
      refine lv_iinc (v := x1 + 1) (lv' := [(1, .int (x1 + 1)), (0, .ref (gA g 50 0))]) hC.1 hC.2.1 dX12_readingStep_44 hl (k := 1) rfl rfl (by decide) rfl (fun ls hl => ?_)
      refine lv_goto (tgt := 22) hC.1 hC.2.1 dX12_readingStep_47 (by decide) ?_
      exact ih _ _ h _ _ _ _ hH hS (lv_sub hl [1, 0] rfl)
def F_X12_readingStep  (C : St) : Option (Int32 × St) := gd (inb (7 : Int32) 10) (if (C 112 0 0 (7 : Int32).toNatClampNeg) = 0 then (gd (inb (0 : Int32) 6) (st (up C 50 0 54 0 (C 158 0 0 (0 : Int32).toNatClampNeg)) (fun D19 => F_X12_readingStep_22 1000 (1 : Int32) D19))) else (gd (inb (C 50 0 54 0) 6) (gd (inb (((40 : Int32) * (C 50 0 54 0)) + (C 132 0 0 (C 50 0 54 0).toNatClampNeg)) 240) (st (up C 119 0 0 (C 50 0 54 0).toNatClampNeg (C 130 0 0 (((40 : Int32) * (C 50 0 54 0)) + (C 132 0 0 (C 50 0 54 0).toNatClampNeg)).toNatClampNeg)) (fun D5 => st (up D5 132 0 0 (C 50 0 54 0).toNatClampNeg ((D5 132 0 0 (C 50 0 54 0).toNatClampNeg) + (1 : Int32))) (fun D7 => bd2 (F_X12_finish (C 50 0 54 0) D7) (fun r9 D10 => bd2 (F_X12_wake (C 50 0 54 0) D10) (fun r12 D13 => bd2 (F_X12_waitFor (7 : Int32) (2 : Int32) (0 : Int32) D13) (fun r15 D16 => some (0, D16))))))))))
set_option maxHeartbeats 4000000 in
set_option maxRecDepth 100000 in
theorem c_X12_readingStep {l : Launch} {g : GP} {ed : Nat → Nat} {Z : St}  {C : St} {r : Int32} {C2 : St} (h : F_X12_readingStep  C = some (r, C2)) : Met l yX12_readingStep (Cond.code yX12_readingStep cX12_readingStep 2 none :: lwG) ({ frames := 2, cells := 0, slots := 0, locals := 43 } : Room) (va_Pc [.ref (gA g 50 0)] (PW g Z C ed)) (QG none g Z C2) 0 0 (gP g) := by
  refine Met.ofW (cc := cX12_readingStep) (maxL := 2) (ret := none) (by decide +kernel) rfl ?_
  intro p e s m args below meth c s₁ B hml hv
  obtain ⟨ha, hC, hE, hr, hlk, hH⟩ := g_start B hv
  subst ha
  have hC : CX p s m ([.ref (gA g 50 0)] : List Value).toArray c cX12_readingStep RX12 g := hC
  have hS : va_S (gP g) s.heap s.heap [] := va_S.rf
  obtain ⟨ls, he, hl⟩ := g_entry m (vs := [.ref (gA g 50 0)]) (n := 2) (List.forall_mem_cons.mpr ⟨rfl, (fun _ h => absurd h List.not_mem_nil)⟩) (Nat.le_of_ble_eq_true rfl)
  rw [he]
  have hl : lv_has ls 2 [(0, .ref (gA g 50 0))] := hl
  unfold F_X12_readingStep at h
  refine lv_aload_n hC.1 hC.2.1 dX12_readingStep_0 rfl (lv_at hl 0 rfl) ?_
  refine gf_RX12_26 hC hH rfl dX12_readingStep_1 ?_
  refine lv_bipush (v := (7 : Int32)) hC.1 hC.2.1 dX12_readingStep_4 (by decide) ?_
  obtain ⟨hg1, h⟩ := gd_some h
  refine al_112 hC hH hg1 rfl dX12_readingStep_6 ?_
  refine lv_if_ne (tgt := 74) hC.1 hC.2.1 dX12_readingStep_7 (by decide) (fun hc2 => ?_) (fun hc2 => ?_)
  · rw [if_neg hc2] at h
    refine lv_aload_n hC.1 hC.2.1 dX12_readingStep_74 rfl (lv_at hl 0 rfl) ?_
    refine gf_RX12_303 hC hH rfl dX12_readingStep_75 ?_
    refine lv_istore_n (i := 1) (lv' := [(1, .int (C 50 0 54 0)), (0, .ref (gA g 50 0))]) hC.1 hC.2.1 dX12_readingStep_78 rfl hl (by decide) rfl (fun ls hl => ?_)
    refine lv_aload_n hC.1 hC.2.1 dX12_readingStep_79 rfl (lv_at hl 1 rfl) ?_
    refine gf_RX12_47 hC hH rfl dX12_readingStep_80 ?_
    refine lv_iload_n hC.1 hC.2.1 dX12_readingStep_83 rfl (lv_at hl 0 rfl) ?_
    refine lv_aload_n hC.1 hC.2.1 dX12_readingStep_84 rfl (lv_at hl 1 rfl) ?_
    refine gf_RX12_77 hC hH rfl dX12_readingStep_85 ?_
    refine lv_bipush (v := (40 : Int32)) hC.1 hC.2.1 dX12_readingStep_88 (by decide) ?_
    refine lv_iload_n hC.1 hC.2.1 dX12_readingStep_90 rfl (lv_at hl 0 rfl) ?_
    refine lv_imul hC.1 hC.2.1 dX12_readingStep_91 ?_
    refine lv_aload_n hC.1 hC.2.1 dX12_readingStep_92 rfl (lv_at hl 1 rfl) ?_
    refine gf_RX12_83 hC hH rfl dX12_readingStep_93 ?_
    refine lv_iload_n hC.1 hC.2.1 dX12_readingStep_96 rfl (lv_at hl 0 rfl) ?_
    obtain ⟨hg3, h⟩ := gd_some h
    refine al_132 hC hH hg3 rfl dX12_readingStep_97 ?_
    refine lv_iadd hC.1 hC.2.1 dX12_readingStep_98 ?_
    obtain ⟨hg4, h⟩ := gd_some h
    refine al_130 hC hH hg4 rfl dX12_readingStep_99 ?_
    obtain ⟨D5, e6, h⟩ := st_some h
    refine as_119 hC hH hS hg3 rfl dX12_readingStep_100 (fun H locs hH hS => ?_)
    rw [← e6] at hH
    refine lv_aload_n hC.1 hC.2.1 dX12_readingStep_101 rfl (lv_at hl 1 rfl) ?_
    refine gf_RX12_83 hC hH rfl dX12_readingStep_102 ?_
    refine lv_iload_n hC.1 hC.2.1 dX12_readingStep_105 rfl (lv_at hl 0 rfl) ?_
    refine lv_dup2_11 hC.1 hC.2.1 dX12_readingStep_106 rfl rfl ?_
    refine al_132 hC hH hg3 rfl dX12_readingStep_107 ?_
    refine lv_iconst (v := (1 : Int32)) hC.1 hC.2.1 dX12_readingStep_108 (by decide) ?_
    refine lv_iadd hC.1 hC.2.1 dX12_readingStep_109 ?_
    obtain ⟨D7, e8, h⟩ := st_some h
    refine as_132 hC hH hS hg3 rfl dX12_readingStep_110 (fun H locs hH hS => ?_)
    rw [← e8] at hH
    refine lv_aload_n hC.1 hC.2.1 dX12_readingStep_111 rfl (lv_at hl 1 rfl) ?_
    refine lv_iload_n hC.1 hC.2.1 dX12_readingStep_112 rfl (lv_at hl 0 rfl) ?_
    obtain ⟨r9, D10, hF11, h⟩ := bd2_some h
    refine gcallV (As := [.int (C 50 0 54 0)]) (rest := []) (Cn := RX12) hC hE hml hH hS (c_X12_finish hF11) ⟨wd_1392, wd_1394, wp_44, wd_17, wd_1395⟩ hd_X12_finish rfl rfl ⟨Nat.le_of_ble_eq_true rfl, Nat.le_of_ble_eq_true rfl⟩ rfl (hw_recv (q := 50) (i := 0) hC hH ⟨Nat.zero_lt_one, fun h => absurd h (by decide)⟩ rfl rfl) rfl hl.1 rfl (Nat.le_of_ble_eq_true rfl) dX12_readingStep_113 ⟨Nat.le_of_ble_eq_true rfl, Nat.le_of_ble_eq_true rfl⟩ (fun ed H locs hH hS => ?_)
    refine W.eq (g2 := F0 m 116 ls []) rfl ?_
    refine lv_aload_n hC.1 hC.2.1 dX12_readingStep_116 rfl (lv_at hl 1 rfl) ?_
    refine lv_iload_n hC.1 hC.2.1 dX12_readingStep_117 rfl (lv_at hl 0 rfl) ?_
    obtain ⟨r12, D13, hF14, h⟩ := bd2_some h
    refine gcallV (As := [.int (C 50 0 54 0)]) (rest := []) (Cn := RX12) hC hE hml hH hS (c_X12_wake hF14) ⟨wd_1400, wd_1402, wp_46, wd_17, wd_1403⟩ hd_X12_wake rfl rfl ⟨Nat.le_of_ble_eq_true rfl, Nat.le_of_ble_eq_true rfl⟩ rfl (hw_recv (q := 50) (i := 0) hC hH ⟨Nat.zero_lt_one, fun h => absurd h (by decide)⟩ rfl rfl) rfl hl.1 rfl (Nat.le_of_ble_eq_true rfl) dX12_readingStep_118 ⟨Nat.le_of_ble_eq_true rfl, Nat.le_of_ble_eq_true rfl⟩ (fun ed H locs hH hS => ?_)
    refine W.eq (g2 := F0 m 121 ls []) rfl ?_
    refine lv_aload_n hC.1 hC.2.1 dX12_readingStep_121 rfl (lv_at hl 1 rfl) ?_
    refine lv_bipush (v := (7 : Int32)) hC.1 hC.2.1 dX12_readingStep_122 (by decide) ?_
    refine lv_iconst (v := (2 : Int32)) hC.1 hC.2.1 dX12_readingStep_124 (by decide) ?_
    refine lv_iconst (v := (0 : Int32)) hC.1 hC.2.1 dX12_readingStep_125 (by decide) ?_
    obtain ⟨r15, D16, hF17, h⟩ := bd2_some h
    refine gcallV (As := [.int (7 : Int32), .int (2 : Int32), .int (0 : Int32)]) (rest := []) (Cn := RX12) hC hE hml hH hS (c_X12_waitFor hF17) ⟨wd_1453, wd_1455, wp_59, wd_17, wd_1456⟩ hd_X12_waitFor rfl rfl ⟨Nat.le_of_ble_eq_true rfl, Nat.le_of_ble_eq_true rfl⟩ rfl (hw_recv (q := 50) (i := 0) hC hH ⟨Nat.zero_lt_one, fun h => absurd h (by decide)⟩ rfl rfl) rfl hl.1 rfl (Nat.le_of_ble_eq_true rfl) dX12_readingStep_126 ⟨Nat.le_of_ble_eq_true rfl, Nat.le_of_ble_eq_true rfl⟩ (fun ed H locs hH hS => ?_)
    refine W.eq (g2 := F0 m 129 ls []) rfl ?_
    cases h
    exact gret_v hC hr hlk hH hS (Nat.le_of_ble_eq_true rfl) (Nat.le_of_ble_eq_true rfl) dX12_readingStep_129
  · rw [if_pos hc2] at h
    refine lv_aload_n hC.1 hC.2.1 dX12_readingStep_10 rfl (lv_at hl 0 rfl) ?_
    refine lv_aload_n hC.1 hC.2.1 dX12_readingStep_11 rfl (lv_at hl 0 rfl) ?_
    refine gf_RX12_125 hC hH rfl dX12_readingStep_12 ?_
    refine lv_iconst (v := (0 : Int32)) hC.1 hC.2.1 dX12_readingStep_15 (by decide) ?_
    obtain ⟨hg18, h⟩ := gd_some h
    refine al_158 hC hH hg18 rfl dX12_readingStep_16 ?_
    obtain ⟨D19, e20, h⟩ := st_some h
    refine pf_RX12_303 hC hH hS  rfl dX12_readingStep_17 (fun H locs hH hS => ?_)
    rw [← e20] at hH
    refine lv_iconst (v := (1 : Int32)) hC.1 hC.2.1 dX12_readingStep_20 (by decide) ?_
    refine lv_istore_n (i := 1) (lv' := [(1, .int (1 : Int32)), (0, .ref (gA g 50 0))]) hC.1 hC.2.1 dX12_readingStep_21 rfl hl (by decide) rfl (fun ls hl => ?_)
    exact B_X12_readingStep_22 hC hE hml hr hlk 1000 _ _ h _ _ _ _ hH hS (lv_sub hl [1, 0] rfl)
def F_X12_printingStep_47 (k12 : Int32 → St → Option (Int32 × St)) (x1 : Int32) (C : St) : Option (Int32 × St) := k12 (x1 + 1) C
set_option maxHeartbeats 4000000 in
set_option maxRecDepth 100000 in
theorem B_X12_printingStep_47 {p : Program} {l : Launch} {e : Env} {s : State} {m : MethodId} {args : Array Value} {below : List Frame} {meth : Method} {c : Code} {g : GP} {Z : St} (hC : CX p s m args c cX12_printingStep RX12 g) (hE : EZ g s s.heap) (hml : c.maxLocals = 3) (hr : meth.sig.returnType = none) (hlk : meth.locks = false) {r : Int32} {C2 : St} {k12 : Int32 → St → Option (Int32 × St)} (hk12 : ∀ (x1 : Int32) (C : St), k12 x1 C = some (r, C2) → ∀ (ed : Nat → Nat) (H : Heap) (locs : List Loc) (ls : Array Slot), HW g ed Z C H → va_S (gP g) s.heap H locs → lv_has ls 3 [(0, .ref (gA g 50 0)), (1, .int x1)] → W p l e ({ frames := 1, cells := 0, slots := 0, locals := 23 } : Room) s m args below meth c H locs 0 0 (MQ below (QG none g Z C2) args s 0 0 (gP g)) (F0 m 12 ls [])) {x1 : Int32} {C : St} (h : F_X12_printingStep_47 k12 x1 C = some (r, C2)) {ed : Nat → Nat} {H : Heap} {locs : List Loc} {ls : Array Slot} (hH : HW g ed Z C H) (hS : va_S (gP g) s.heap H locs) (hl : lv_has ls 3 [(0, .ref (gA g 50 0)), (1, .int x1)]) : W p l e ({ frames := 1, cells := 0, slots := 0, locals := 23 } : Room) s m args below meth c H locs 0 0 (MQ below (QG none g Z C2) args s 0 0 (gP g)) (F0 m 47 ls []) := by
  unfold F_X12_printingStep_47 at h
  refine lv_iinc (v := x1 + 1) (lv' := [(1, .int (x1 + 1)), (0, .ref (gA g 50 0))]) hC.1 hC.2.1 dX12_printingStep_47 hl (k := 1) rfl rfl (by decide) rfl (fun ls hl => ?_)
  refine lv_goto (tgt := 12) hC.1 hC.2.1 dX12_printingStep_50 (by decide) ?_
  exact hk12 _ _ h _ _ _ _ hH hS (lv_sub hl [1, 0] rfl)
def F_X12_printingStep_12  : Nat → Int32 → St → Option (Int32 × St)
  | 0, _, _ => none
  | fu + 1, x1, C => if (6 : Int32) ≤ x1 then (st (up C 50 0 53 0 (1 : Int32)) (fun D2 => bd2 (F_X12_waitFor (8 : Int32) (5 : Int32) (1 : Int32) D2) (fun r4 D5 => some (0, D5)))) else (gd (inb x1 6) (if (C 114 0 0 x1.toNatClampNeg) = (2 : Int32) then (gd (inb (((3 : Int32) * x1) + (1 : Int32)) 18) (if (C 127 0 0 (((3 : Int32) * x1) + (1 : Int32)).toNatClampNeg) = (1 : Int32) then (st (up C 50 0 55 0 x1) (fun D11 => F_X12_printingStep_47 (F_X12_printingStep_12 fu) x1 D11)) else (F_X12_printingStep_47 (F_X12_printingStep_12 fu) x1 C))) else (F_X12_printingStep_47 (F_X12_printingStep_12 fu) x1 C)))
set_option maxHeartbeats 4000000 in
set_option maxRecDepth 100000 in
theorem B_X12_printingStep_12 {p : Program} {l : Launch} {e : Env} {s : State} {m : MethodId} {args : Array Value} {below : List Frame} {meth : Method} {c : Code} {g : GP} {Z : St} (hC : CX p s m args c cX12_printingStep RX12 g) (hE : EZ g s s.heap) (hml : c.maxLocals = 3) (hr : meth.sig.returnType = none) (hlk : meth.locks = false) {r : Int32} {C2 : St} : ∀ (fu : Nat) (x1 : Int32) (C : St), F_X12_printingStep_12  fu x1 C = some (r, C2) → ∀ (ed : Nat → Nat) (H : Heap) (locs : List Loc) (ls : Array Slot), HW g ed Z C H → va_S (gP g) s.heap H locs → lv_has ls 3 [(0, .ref (gA g 50 0)), (1, .int x1)] → W p l e ({ frames := 1, cells := 0, slots := 0, locals := 23 } : Room) s m args below meth c H locs 0 0 (MQ below (QG none g Z C2) args s 0 0 (gP g)) (F0 m 12 ls []) := by
  intro fu
  induction fu with
  | zero =>
    intro x1 C h
    cases h
  | succ fu ih =>
    intro x1 C h ed H locs ls hH hS hl
    rw [F_X12_printingStep_12] at h
    refine lv_iload_n hC.1 hC.2.1 dX12_printingStep_12 rfl (lv_at hl 1 rfl) ?_
    refine lv_bipush (v := (6 : Int32)) hC.1 hC.2.1 dX12_printingStep_13 (by decide) ?_
    refine lv_icmp_ge (tgt := 53) hC.1 hC.2.1 dX12_printingStep_15 (by decide) (fun hc1 => ?_) (fun hc1 => ?_)
    · rw [if_pos hc1] at h
      refine lv_aload_n hC.1 hC.2.1 dX12_printingStep_53 rfl (lv_at hl 0 rfl) ?_
      refine lv_iconst (v := (1 : Int32)) hC.1 hC.2.1 dX12_printingStep_54 (by decide) ?_
      obtain ⟨D2, e3, h⟩ := st_some h
      refine pf_RX12_313 hC hH hS (by decide) rfl dX12_printingStep_55 (fun H locs hH hS => ?_)
      rw [← e3] at hH
      refine lv_aload_n hC.1 hC.2.1 dX12_printingStep_58 rfl (lv_at hl 0 rfl) ?_
      refine lv_bipush (v := (8 : Int32)) hC.1 hC.2.1 dX12_printingStep_59 (by decide) ?_
      refine lv_iconst (v := (5 : Int32)) hC.1 hC.2.1 dX12_printingStep_61 (by decide) ?_
      refine lv_iconst (v := (1 : Int32)) hC.1 hC.2.1 dX12_printingStep_62 (by decide) ?_
      obtain ⟨r4, D5, hF6, h⟩ := bd2_some h
      refine gcallV (As := [.int (8 : Int32), .int (5 : Int32), .int (1 : Int32)]) (rest := []) (Cn := RX12) hC hE hml hH hS (c_X12_waitFor hF6) ⟨wd_1453, wd_1455, wp_59, wd_17, wd_1456⟩ hd_X12_waitFor rfl rfl ⟨Nat.le_of_ble_eq_true rfl, Nat.le_of_ble_eq_true rfl⟩ rfl (hw_recv (q := 50) (i := 0) hC hH ⟨Nat.zero_lt_one, fun h => absurd h (by decide)⟩ rfl rfl) rfl hl.1 rfl (Nat.le_of_ble_eq_true rfl) dX12_printingStep_63 ⟨Nat.le_of_ble_eq_true rfl, Nat.le_of_ble_eq_true rfl⟩ (fun ed H locs hH hS => ?_)
      refine W.eq (g2 := F0 m 66 ls []) rfl ?_
      cases h
      exact gret_v hC hr hlk hH hS (Nat.le_of_ble_eq_true rfl) (Nat.le_of_ble_eq_true rfl) dX12_printingStep_66
    · rw [if_neg hc1] at h
      refine lv_aload_n hC.1 hC.2.1 dX12_printingStep_18 rfl (lv_at hl 0 rfl) ?_
      refine gf_RX12_32 hC hH rfl dX12_printingStep_19 ?_
      refine lv_iload_n hC.1 hC.2.1 dX12_printingStep_22 rfl (lv_at hl 1 rfl) ?_
      obtain ⟨hg7, h⟩ := gd_some h
      refine al_114 hC hH hg7 rfl dX12_printingStep_23 ?_
      refine lv_iconst (v := (2 : Int32)) hC.1 hC.2.1 dX12_printingStep_24 (by decide) ?_
      refine lv_icmp_ne (tgt := 47) hC.1 hC.2.1 dX12_printingStep_25 (by decide) (fun hc8 => ?_) (fun hc8 => ?_)
      · rw [if_neg hc8] at h
        exact B_X12_printingStep_47 hC hE hml hr hlk ih h hH hS (lv_sub hl [0, 1] rfl)
      · rw [if_pos hc8] at h
        refine lv_aload_n hC.1 hC.2.1 dX12_printingStep_28 rfl (lv_at hl 0 rfl) ?_
        refine gf_RX12_68 hC hH rfl dX12_printingStep_29 ?_
        refine lv_iconst (v := (3 : Int32)) hC.1 hC.2.1 dX12_printingStep_32 (by decide) ?_
        refine lv_iload_n hC.1 hC.2.1 dX12_printingStep_33 rfl (lv_at hl 1 rfl) ?_
        refine lv_imul hC.1 hC.2.1 dX12_printingStep_34 ?_
        refine lv_iconst (v := (1 : Int32)) hC.1 hC.2.1 dX12_printingStep_35 (by decide) ?_
        refine lv_iadd hC.1 hC.2.1 dX12_printingStep_36 ?_
        obtain ⟨hg9, h⟩ := gd_some h
        refine al_127 hC hH hg9 rfl dX12_printingStep_37 ?_
        refine lv_iconst (v := (1 : Int32)) hC.1 hC.2.1 dX12_printingStep_38 (by decide) ?_
        refine lv_icmp_ne (tgt := 47) hC.1 hC.2.1 dX12_printingStep_39 (by decide) (fun hc10 => ?_) (fun hc10 => ?_)
        · rw [if_neg hc10] at h
          exact B_X12_printingStep_47 hC hE hml hr hlk ih h hH hS (lv_sub hl [0, 1] rfl)
        · rw [if_pos hc10] at h
          refine lv_aload_n hC.1 hC.2.1 dX12_printingStep_42 rfl (lv_at hl 0 rfl) ?_
          refine lv_iload_n hC.1 hC.2.1 dX12_printingStep_43 rfl (lv_at hl 1 rfl) ?_
          obtain ⟨D11, e12, h⟩ := st_some h
          refine pf_RX12_310 hC hH hS  rfl dX12_printingStep_44 (fun H locs hH hS => ?_)
          rw [← e12] at hH
          exact B_X12_printingStep_47 hC hE hml hr hlk ih h hH hS (lv_sub hl [0, 1] rfl)
def F_X12_printingStep_194   (C : St) : Option (Int32 × St) := bd2 (F_X12_waitFor (8 : Int32) (4 : Int32) (0 : Int32) C) (fun r1 D2 => some (0, D2))
set_option maxHeartbeats 4000000 in
set_option maxRecDepth 100000 in
theorem B_X12_printingStep_194 {p : Program} {l : Launch} {e : Env} {s : State} {m : MethodId} {args : Array Value} {below : List Frame} {meth : Method} {c : Code} {g : GP} {Z : St} (hC : CX p s m args c cX12_printingStep RX12 g) (hE : EZ g s s.heap) (hml : c.maxLocals = 3) (hr : meth.sig.returnType = none) (hlk : meth.locks = false) {r : Int32} {C2 : St}  {C : St} (h : F_X12_printingStep_194   C = some (r, C2)) {ed : Nat → Nat} {H : Heap} {locs : List Loc} {ls : Array Slot} (hH : HW g ed Z C H) (hS : va_S (gP g) s.heap H locs) (hl : lv_has ls 3 [(0, .ref (gA g 50 0))]) : W p l e ({ frames := 1, cells := 0, slots := 0, locals := 23 } : Room) s m args below meth c H locs 0 0 (MQ below (QG none g Z C2) args s 0 0 (gP g)) (F0 m 194 ls []) := by
  unfold F_X12_printingStep_194 at h
  refine lv_aload_n hC.1 hC.2.1 dX12_printingStep_194 rfl (lv_at hl 0 rfl) ?_
  refine lv_bipush (v := (8 : Int32)) hC.1 hC.2.1 dX12_printingStep_195 (by decide) ?_
  refine lv_iconst (v := (4 : Int32)) hC.1 hC.2.1 dX12_printingStep_197 (by decide) ?_
  refine lv_iconst (v := (0 : Int32)) hC.1 hC.2.1 dX12_printingStep_198 (by decide) ?_
  obtain ⟨r1, D2, hF3, h⟩ := bd2_some h
  refine gcallV (As := [.int (8 : Int32), .int (4 : Int32), .int (0 : Int32)]) (rest := []) (Cn := RX12) hC hE hml hH hS (c_X12_waitFor hF3) ⟨wd_1453, wd_1455, wp_59, wd_17, wd_1456⟩ hd_X12_waitFor rfl rfl ⟨Nat.le_of_ble_eq_true rfl, Nat.le_of_ble_eq_true rfl⟩ rfl (hw_recv (q := 50) (i := 0) hC hH ⟨Nat.zero_lt_one, fun h => absurd h (by decide)⟩ rfl rfl) rfl hl.1 rfl (Nat.le_of_ble_eq_true rfl) dX12_printingStep_199 ⟨Nat.le_of_ble_eq_true rfl, Nat.le_of_ble_eq_true rfl⟩ (fun ed H locs hH hS => ?_)
  refine W.eq (g2 := F0 m 202 ls []) rfl ?_
  cases h
  exact gret_v hC hr hlk hH hS (Nat.le_of_ble_eq_true rfl) (Nat.le_of_ble_eq_true rfl) dX12_printingStep_202
def F_X12_printingStep_189  (x1 : Int32) (C : St) : Option (Int32 × St) := bd2 (F_X12_wake x1 C) (fun r1 D2 => F_X12_printingStep_194  D2)
set_option maxHeartbeats 4000000 in
set_option maxRecDepth 100000 in
theorem B_X12_printingStep_189 {p : Program} {l : Launch} {e : Env} {s : State} {m : MethodId} {args : Array Value} {below : List Frame} {meth : Method} {c : Code} {g : GP} {Z : St} (hC : CX p s m args c cX12_printingStep RX12 g) (hE : EZ g s s.heap) (hml : c.maxLocals = 3) (hr : meth.sig.returnType = none) (hlk : meth.locks = false) {r : Int32} {C2 : St} {x1 : Int32} {C : St} (h : F_X12_printingStep_189  x1 C = some (r, C2)) {ed : Nat → Nat} {H : Heap} {locs : List Loc} {ls : Array Slot} (hH : HW g ed Z C H) (hS : va_S (gP g) s.heap H locs) (hl : lv_has ls 3 [(0, .ref (gA g 50 0)), (1, .int x1)]) : W p l e ({ frames := 1, cells := 0, slots := 0, locals := 23 } : Room) s m args below meth c H locs 0 0 (MQ below (QG none g Z C2) args s 0 0 (gP g)) (F0 m 189 ls []) := by
  unfold F_X12_printingStep_189 at h
  refine lv_aload_n hC.1 hC.2.1 dX12_printingStep_189 rfl (lv_at hl 0 rfl) ?_
  refine lv_iload_n hC.1 hC.2.1 dX12_printingStep_190 rfl (lv_at hl 1 rfl) ?_
  obtain ⟨r1, D2, hF3, h⟩ := bd2_some h
  refine gcallV (As := [.int x1]) (rest := []) (Cn := RX12) hC hE hml hH hS (c_X12_wake hF3) ⟨wd_1400, wd_1402, wp_46, wd_17, wd_1403⟩ hd_X12_wake rfl rfl ⟨Nat.le_of_ble_eq_true rfl, Nat.le_of_ble_eq_true rfl⟩ rfl (hw_recv (q := 50) (i := 0) hC hH ⟨Nat.zero_lt_one, fun h => absurd h (by decide)⟩ rfl rfl) rfl hl.1 rfl (Nat.le_of_ble_eq_true rfl) dX12_printingStep_191 ⟨Nat.le_of_ble_eq_true rfl, Nat.le_of_ble_eq_true rfl⟩ (fun ed H locs hH hS => ?_)
  refine W.eq (g2 := F0 m 194 ls []) rfl ?_
  exact B_X12_printingStep_194 hC hE hml hr hlk h hH hS (lv_sub hl [0] rfl)
def F_X12_printingStep_110  : Nat → Int32 → Int32 → St → Option (Int32 × St)
  | 0, _, _, _ => none
  | fu + 1, x1, x2, C => gd (inb x1 6) (if (C 134 0 0 x1.toNatClampNeg) ≤ x2 then (st (up C 134 0 0 x1.toNatClampNeg ((C 134 0 0 x1.toNatClampNeg) - (1 : Int32))) (fun D3 => gd (inb x1 10) (if (D3 110 0 0 x1.toNatClampNeg) = (3 : Int32) then (F_X12_printingStep_189 x1 D3) else (if (D3 110 0 0 x1.toNatClampNeg) = (4 : Int32) then (if (D3 134 0 0 x1.toNatClampNeg) = 0 then (F_X12_printingStep_189 x1 D3) else (F_X12_printingStep_194  D3)) else (F_X12_printingStep_194  D3))))) else (gd (inb (((24 : Int32) * x1) + x2) 144) (gd (inb ((((24 : Int32) * x1) + x2) - (1 : Int32)) 144) (st (up C 133 0 0 ((((24 : Int32) * x1) + x2) - (1 : Int32)).toNatClampNeg (C 133 0 0 (((24 : Int32) * x1) + x2).toNatClampNeg)) (fun D11 => F_X12_printingStep_110 fu x1 (x2 + 1) D11)))))
set_option maxHeartbeats 4000000 in
set_option maxRecDepth 100000 in
theorem B_X12_printingStep_110 {p : Program} {l : Launch} {e : Env} {s : State} {m : MethodId} {args : Array Value} {below : List Frame} {meth : Method} {c : Code} {g : GP} {Z : St} (hC : CX p s m args c cX12_printingStep RX12 g) (hE : EZ g s s.heap) (hml : c.maxLocals = 3) (hr : meth.sig.returnType = none) (hlk : meth.locks = false) {r : Int32} {C2 : St} : ∀ (fu : Nat) (x1 : Int32) (x2 : Int32) (C : St), F_X12_printingStep_110  fu x1 x2 C = some (r, C2) → ∀ (ed : Nat → Nat) (H : Heap) (locs : List Loc) (ls : Array Slot), HW g ed Z C H → va_S (gP g) s.heap H locs → lv_has ls 3 [(0, .ref (gA g 50 0)), (1, .int x1), (2, .int x2)] → W p l e ({ frames := 1, cells := 0, slots := 0, locals := 23 } : Room) s m args below meth c H locs 0 0 (MQ below (QG none g Z C2) args s 0 0 (gP g)) (F0 m 110 ls []) := by
  intro fu
  induction fu with
  | zero =>
    intro x1 x2 C h
    cases h
  | succ fu ih =>
    intro x1 x2 C h ed H locs ls hH hS hl
    rw [F_X12_printingStep_110] at h
    refine lv_iload_n hC.1 hC.2.1 dX12_printingStep_110 rfl (lv_at hl 2 rfl) ?_
    refine lv_aload_n hC.1 hC.2.1 dX12_printingStep_111 rfl (lv_at hl 0 rfl) ?_
    refine gf_RX12_89 hC hH rfl dX12_printingStep_112 ?_
    refine lv_iload_n hC.1 hC.2.1 dX12_printingStep_115 rfl (lv_at hl 1 rfl) ?_
    obtain ⟨hg1, h⟩ := gd_some h
    refine al_134 hC hH hg1 rfl dX12_printingStep_116 ?_
    refine lv_icmp_ge (tgt := 150) hC.1 hC.2.1 dX12_printingStep_117 (by decide) (fun hc2 => ?_) (fun hc2 => ?_)
    · rw [if_pos hc2] at h
      refine lv_aload_n hC.1 hC.2.1 dX12_printingStep_150 rfl (lv_at hl 0 rfl) ?_
      refine gf_RX12_89 hC hH rfl dX12_printingStep_151 ?_
      refine lv_iload_n hC.1 hC.2.1 dX12_printingStep_154 rfl (lv_at hl 1 rfl) ?_
      refine lv_dup2_11 hC.1 hC.2.1 dX12_printingStep_155 rfl rfl ?_
      refine al_134 hC hH hg1 rfl dX12_printingStep_156 ?_
      refine lv_iconst (v := (1 : Int32)) hC.1 hC.2.1 dX12_printingStep_157 (by decide) ?_
      refine lv_isub hC.1 hC.2.1 dX12_printingStep_158 ?_
      obtain ⟨D3, e4, h⟩ := st_some h
      refine as_134 hC hH hS hg1 rfl dX12_printingStep_159 (fun H locs hH hS => ?_)
      rw [← e4] at hH
      refine lv_aload_n hC.1 hC.2.1 dX12_printingStep_160 rfl (lv_at hl 0 rfl) ?_
      refine gf_RX12_20 hC hH rfl dX12_printingStep_161 ?_
      refine lv_iload_n hC.1 hC.2.1 dX12_printingStep_164 rfl (lv_at hl 1 rfl) ?_
      obtain ⟨hg5, h⟩ := gd_some h
      refine al_110 hC hH hg5 rfl dX12_printingStep_165 ?_
      refine lv_iconst (v := (3 : Int32)) hC.1 hC.2.1 dX12_printingStep_166 (by decide) ?_
      refine lv_icmp_eq (tgt := 189) hC.1 hC.2.1 dX12_printingStep_167 (by decide) (fun hc6 => ?_) (fun hc6 => ?_)
      · rw [if_pos hc6] at h
        exact B_X12_printingStep_189 hC hE hml hr hlk h hH hS (lv_sub hl [0, 1] rfl)
      · rw [if_neg hc6] at h
        refine lv_aload_n hC.1 hC.2.1 dX12_printingStep_170 rfl (lv_at hl 0 rfl) ?_
        refine gf_RX12_20 hC hH rfl dX12_printingStep_171 ?_
        refine lv_iload_n hC.1 hC.2.1 dX12_printingStep_174 rfl (lv_at hl 1 rfl) ?_
        refine al_110 hC hH hg5 rfl dX12_printingStep_175 ?_
        refine lv_iconst (v := (4 : Int32)) hC.1 hC.2.1 dX12_printingStep_176 (by decide) ?_
        refine lv_icmp_ne (tgt := 194) hC.1 hC.2.1 dX12_printingStep_177 (by decide) (fun hc7 => ?_) (fun hc7 => ?_)
        · rw [if_neg hc7] at h
          exact B_X12_printingStep_194 hC hE hml hr hlk h hH hS (lv_sub hl [0] rfl)
        · rw [if_pos hc7] at h
          refine lv_aload_n hC.1 hC.2.1 dX12_printingStep_180 rfl (lv_at hl 0 rfl) ?_
          refine gf_RX12_89 hC hH rfl dX12_printingStep_181 ?_
          refine lv_iload_n hC.1 hC.2.1 dX12_printingStep_184 rfl (lv_at hl 1 rfl) ?_
          refine al_134 hC hH hg1 rfl dX12_printingStep_185 ?_
          refine lv_if_ne (tgt := 194) hC.1 hC.2.1 dX12_printingStep_186 (by decide) (fun hc8 => ?_) (fun hc8 => ?_)
          · rw [if_neg hc8] at h
            exact B_X12_printingStep_194 hC hE hml hr hlk h hH hS (lv_sub hl [0] rfl)
          · rw [if_pos hc8] at h
            exact B_X12_printingStep_189 hC hE hml hr hlk h hH hS (lv_sub hl [0, 1] rfl)
    · rw [if_neg hc2] at h
      refine lv_aload_n hC.1 hC.2.1 dX12_printingStep_120 rfl (lv_at hl 0 rfl) ?_
      refine gf_RX12_86 hC hH rfl dX12_printingStep_121 ?_
      refine lv_bipush (v := (24 : Int32)) hC.1 hC.2.1 dX12_printingStep_124 (by decide) ?_
      refine lv_iload_n hC.1 hC.2.1 dX12_printingStep_126 rfl (lv_at hl 1 rfl) ?_
      refine lv_imul hC.1 hC.2.1 dX12_printingStep_127 ?_
      refine lv_iload_n hC.1 hC.2.1 dX12_printingStep_128 rfl (lv_at hl 2 rfl) ?_
      refine lv_iadd hC.1 hC.2.1 dX12_printingStep_129 ?_
      refine lv_iconst (v := (1 : Int32)) hC.1 hC.2.1 dX12_printingStep_130 (by decide) ?_
      refine lv_isub hC.1 hC.2.1 dX12_printingStep_131 ?_
      refine lv_aload_n hC.1 hC.2.1 dX12_printingStep_132 rfl (lv_at hl 0 rfl) ?_
      refine gf_RX12_86 hC hH rfl dX12_printingStep_133 ?_
      refine lv_bipush (v := (24 : Int32)) hC.1 hC.2.1 dX12_printingStep_136 (by decide) ?_
      refine lv_iload_n hC.1 hC.2.1 dX12_printingStep_138 rfl (lv_at hl 1 rfl) ?_
      refine lv_imul hC.1 hC.2.1 dX12_printingStep_139 ?_
      refine lv_iload_n hC.1 hC.2.1 dX12_printingStep_140 rfl (lv_at hl 2 rfl) ?_
      refine lv_iadd hC.1 hC.2.1 dX12_printingStep_141 ?_
      obtain ⟨hg9, h⟩ := gd_some h
      refine al_133 hC hH hg9 rfl dX12_printingStep_142 ?_
      obtain ⟨hg10, h⟩ := gd_some h
      obtain ⟨D11, e12, h⟩ := st_some h
      refine as_133 hC hH hS hg10 rfl dX12_printingStep_143 (fun H locs hH hS => ?_)
      rw [← e12] at hH
      refine lv_iinc (v := x2 + 1) (lv' := [(2, .int (x2 + 1)), (0, .ref (gA g 50 0)), (1, .int x1)]) hC.1 hC.2.1 dX12_printingStep_144 hl (k := 2) rfl rfl (by decide) rfl (fun ls hl => ?_)
      refine lv_goto (tgt := 110) hC.1 hC.2.1 dX12_printingStep_147 (by decide) ?_
      exact ih _ _ _ h _ _ _ _ hH hS (lv_sub hl [1, 2, 0] rfl)
def F_X12_printingStep  (C : St) : Option (Int32 × St) := gd (inb (8 : Int32) 10) (if (C 112 0 0 (8 : Int32).toNatClampNeg) = 0 then (F_X12_printingStep_12 1000 (0 : Int32) C) else (gd (inb (C 50 0 55 0) 6) (gd (inb ((24 : Int32) * (C 50 0 55 0)) 144) (gd (inb (((5000 : Int32) * (C 50 0 55 0)) + (C 136 0 0 (C 50 0 55 0).toNatClampNeg)) 30000) (st (up C 135 0 0 (((5000 : Int32) * (C 50 0 55 0)) + (C 136 0 0 (C 50 0 55 0).toNatClampNeg)).toNatClampNeg (C 133 0 0 ((24 : Int32) * (C 50 0 55 0)).toNatClampNeg)) (fun D6 => st (up D6 136 0 0 (C 50 0 55 0).toNatClampNeg ((D6 136 0 0 (C 50 0 55 0).toNatClampNeg) + (1 : Int32))) (fun D8 => F_X12_printingStep_110 1000 (C 50 0 55 0) (1 : Int32) D8)))))))
set_option maxHeartbeats 4000000 in
set_option maxRecDepth 100000 in
theorem c_X12_printingStep {l : Launch} {g : GP} {ed : Nat → Nat} {Z : St}  {C : St} {r : Int32} {C2 : St} (h : F_X12_printingStep  C = some (r, C2)) : Met l yX12_printingStep (Cond.code yX12_printingStep cX12_printingStep 3 none :: lwG) ({ frames := 1, cells := 0, slots := 0, locals := 23 } : Room) (va_Pc [.ref (gA g 50 0)] (PW g Z C ed)) (QG none g Z C2) 0 0 (gP g) := by
  refine Met.ofW (cc := cX12_printingStep) (maxL := 3) (ret := none) (by decide +kernel) rfl ?_
  intro p e s m args below meth c s₁ B hml hv
  obtain ⟨ha, hC, hE, hr, hlk, hH⟩ := g_start B hv
  subst ha
  have hC : CX p s m ([.ref (gA g 50 0)] : List Value).toArray c cX12_printingStep RX12 g := hC
  have hS : va_S (gP g) s.heap s.heap [] := va_S.rf
  obtain ⟨ls, he, hl⟩ := g_entry m (vs := [.ref (gA g 50 0)]) (n := 3) (List.forall_mem_cons.mpr ⟨rfl, (fun _ h => absurd h List.not_mem_nil)⟩) (Nat.le_of_ble_eq_true rfl)
  rw [he]
  have hl : lv_has ls 3 [(0, .ref (gA g 50 0))] := hl
  unfold F_X12_printingStep at h
  refine lv_aload_n hC.1 hC.2.1 dX12_printingStep_0 rfl (lv_at hl 0 rfl) ?_
  refine gf_RX12_26 hC hH rfl dX12_printingStep_1 ?_
  refine lv_bipush (v := (8 : Int32)) hC.1 hC.2.1 dX12_printingStep_4 (by decide) ?_
  obtain ⟨hg1, h⟩ := gd_some h
  refine al_112 hC hH hg1 rfl dX12_printingStep_6 ?_
  refine lv_if_ne (tgt := 67) hC.1 hC.2.1 dX12_printingStep_7 (by decide) (fun hc2 => ?_) (fun hc2 => ?_)
  · rw [if_neg hc2] at h
    refine lv_aload_n hC.1 hC.2.1 dX12_printingStep_67 rfl (lv_at hl 0 rfl) ?_
    refine gf_RX12_310 hC hH rfl dX12_printingStep_68 ?_
    refine lv_istore_n (i := 1) (lv' := [(1, .int (C 50 0 55 0)), (0, .ref (gA g 50 0))]) hC.1 hC.2.1 dX12_printingStep_71 rfl hl (by decide) rfl (fun ls hl => ?_)
    refine lv_aload_n hC.1 hC.2.1 dX12_printingStep_72 rfl (lv_at hl 1 rfl) ?_
    refine gf_RX12_92 hC hH rfl dX12_printingStep_73 ?_
    refine lv_sipush (v := (5000 : Int32)) hC.1 hC.2.1 dX12_printingStep_76 (by decide) ?_
    refine lv_iload_n hC.1 hC.2.1 dX12_printingStep_79 rfl (lv_at hl 0 rfl) ?_
    refine lv_imul hC.1 hC.2.1 dX12_printingStep_80 ?_
    refine lv_aload_n hC.1 hC.2.1 dX12_printingStep_81 rfl (lv_at hl 1 rfl) ?_
    refine gf_RX12_95 hC hH rfl dX12_printingStep_82 ?_
    refine lv_iload_n hC.1 hC.2.1 dX12_printingStep_85 rfl (lv_at hl 0 rfl) ?_
    obtain ⟨hg3, h⟩ := gd_some h
    refine al_136 hC hH hg3 rfl dX12_printingStep_86 ?_
    refine lv_iadd hC.1 hC.2.1 dX12_printingStep_87 ?_
    refine lv_aload_n hC.1 hC.2.1 dX12_printingStep_88 rfl (lv_at hl 1 rfl) ?_
    refine gf_RX12_86 hC hH rfl dX12_printingStep_89 ?_
    refine lv_bipush (v := (24 : Int32)) hC.1 hC.2.1 dX12_printingStep_92 (by decide) ?_
    refine lv_iload_n hC.1 hC.2.1 dX12_printingStep_94 rfl (lv_at hl 0 rfl) ?_
    refine lv_imul hC.1 hC.2.1 dX12_printingStep_95 ?_
    obtain ⟨hg4, h⟩ := gd_some h
    refine al_133 hC hH hg4 rfl dX12_printingStep_96 ?_
    obtain ⟨hg5, h⟩ := gd_some h
    obtain ⟨D6, e7, h⟩ := st_some h
    refine as_135 hC hH hS hg5 rfl dX12_printingStep_97 (fun H locs hH hS => ?_)
    rw [← e7] at hH
    refine lv_aload_n hC.1 hC.2.1 dX12_printingStep_98 rfl (lv_at hl 1 rfl) ?_
    refine gf_RX12_95 hC hH rfl dX12_printingStep_99 ?_
    refine lv_iload_n hC.1 hC.2.1 dX12_printingStep_102 rfl (lv_at hl 0 rfl) ?_
    refine lv_dup2_11 hC.1 hC.2.1 dX12_printingStep_103 rfl rfl ?_
    refine al_136 hC hH hg3 rfl dX12_printingStep_104 ?_
    refine lv_iconst (v := (1 : Int32)) hC.1 hC.2.1 dX12_printingStep_105 (by decide) ?_
    refine lv_iadd hC.1 hC.2.1 dX12_printingStep_106 ?_
    obtain ⟨D8, e9, h⟩ := st_some h
    refine as_136 hC hH hS hg3 rfl dX12_printingStep_107 (fun H locs hH hS => ?_)
    rw [← e9] at hH
    refine lv_iconst (v := (1 : Int32)) hC.1 hC.2.1 dX12_printingStep_108 (by decide) ?_
    refine lv_istore_n (i := 2) (lv' := [(2, .int (1 : Int32)), (1, .int (C 50 0 55 0)), (0, .ref (gA g 50 0))]) hC.1 hC.2.1 dX12_printingStep_109 rfl hl (by decide) rfl (fun ls hl => ?_)
    exact B_X12_printingStep_110 hC hE hml hr hlk 1000 _ _ _ h _ _ _ _ hH hS (lv_sub hl [2, 1, 0] rfl)
  · rw [if_pos hc2] at h
    refine lv_iconst (v := (0 : Int32)) hC.1 hC.2.1 dX12_printingStep_10 (by decide) ?_
    refine lv_istore_n (i := 1) (lv' := [(1, .int (0 : Int32)), (0, .ref (gA g 50 0))]) hC.1 hC.2.1 dX12_printingStep_11 rfl hl (by decide) rfl (fun ls hl => ?_)
    exact B_X12_printingStep_12 hC hE hml hr hlk 1000 _ _ h _ _ _ _ hH hS (lv_sub hl [1, 0] rfl)
def F_X12_admitted_26 (k4 : Int32 → Int32 → St → Option (Int32 × St)) (x2 : Int32) (t0 : Int32) (t1 : Int32) (C : St) : Option (Int32 × St) := k4 (t1 + t0) (x2 + 1) C
set_option maxHeartbeats 4000000 in
set_option maxRecDepth 100000 in
theorem B_X12_admitted_26 {p : Program} {l : Launch} {e : Env} {s : State} {m : MethodId} {args : Array Value} {below : List Frame} {meth : Method} {c : Code} {g : GP} {Z : St} (hC : CX p s m args c cX12_admitted RX12 g) (hE : EZ g s s.heap) (hml : c.maxLocals = 3) (hr : meth.sig.returnType = (some .int)) (hlk : meth.locks = false) {r : Int32} {C2 : St} {k4 : Int32 → Int32 → St → Option (Int32 × St)} (hk4 : ∀ (x1 : Int32) (x2 : Int32) (C : St), k4 x1 x2 C = some (r, C2) → ∀ (ed : Nat → Nat) (H : Heap) (locs : List Loc) (ls : Array Slot), HW g ed Z C H → va_S (gP g) s.heap H locs → lv_has ls 3 [(0, .ref (gA g 50 0)), (1, .int x1), (2, .int x2)] → W p l e ({ frames := 0, cells := 0, slots := 0, locals := 0 } : Room) s m args below meth c H locs 0 0 (MQ below (QG (some (.int r)) g Z C2) args s 0 0 (gP g)) (F0 m 4 ls [])) {x2 : Int32} {t0 : Int32} {t1 : Int32} {C : St} (h : F_X12_admitted_26 k4 x2 t0 t1 C = some (r, C2)) {ed : Nat → Nat} {H : Heap} {locs : List Loc} {ls : Array Slot} (hH : HW g ed Z C H) (hS : va_S (gP g) s.heap H locs) (hl : lv_has ls 3 [(0, .ref (gA g 50 0)), (2, .int x2)]) : W p l e ({ frames := 0, cells := 0, slots := 0, locals := 0 } : Room) s m args below meth c H locs 0 0 (MQ below (QG (some (.int r)) g Z C2) args s 0 0 (gP g)) (F0 m 26 ls [.int t0, .int t1]) := by
  unfold F_X12_admitted_26 at h
  refine lv_iadd hC.1 hC.2.1 dX12_admitted_26 ?_
  refine lv_istore_n (i := 1) (lv' := [(1, .int (t1 + t0)), (0, .ref (gA g 50 0)), (2, .int x2)]) hC.1 hC.2.1 dX12_admitted_27 rfl hl (by decide) rfl (fun ls hl => ?_)
  refine lv_iinc (v := x2 + 1) (lv' := [(2, .int (x2 + 1)), (1, .int (t1 + t0)), (0, .ref (gA g 50 0))]) hC.1 hC.2.1 dX12_admitted_28 hl (k := 2) rfl rfl (by decide) rfl (fun ls hl => ?_)
  refine lv_goto (tgt := 4) hC.1 hC.2.1 dX12_admitted_31 (by decide) ?_
  exact hk4 _ _ _ h _ _ _ _ hH hS (lv_sub hl [2, 1, 0] rfl)
def F_X12_admitted_4  : Nat → Int32 → Int32 → St → Option (Int32 × St)
  | 0, _, _, _ => none
  | fu + 1, x1, x2, C => if (6 : Int32) ≤ x2 then (some (x1, C)) else (gd (inb x2 6) (if (C 114 0 0 x2.toNatClampNeg) = (2 : Int32) then (F_X12_admitted_26 (F_X12_admitted_4 fu) x2 (1 : Int32) x1 C) else (F_X12_admitted_26 (F_X12_admitted_4 fu) x2 (0 : Int32) x1 C)))
set_option maxHeartbeats 4000000 in
set_option maxRecDepth 100000 in
theorem B_X12_admitted_4 {p : Program} {l : Launch} {e : Env} {s : State} {m : MethodId} {args : Array Value} {below : List Frame} {meth : Method} {c : Code} {g : GP} {Z : St} (hC : CX p s m args c cX12_admitted RX12 g) (hE : EZ g s s.heap) (hml : c.maxLocals = 3) (hr : meth.sig.returnType = (some .int)) (hlk : meth.locks = false) {r : Int32} {C2 : St} : ∀ (fu : Nat) (x1 : Int32) (x2 : Int32) (C : St), F_X12_admitted_4  fu x1 x2 C = some (r, C2) → ∀ (ed : Nat → Nat) (H : Heap) (locs : List Loc) (ls : Array Slot), HW g ed Z C H → va_S (gP g) s.heap H locs → lv_has ls 3 [(0, .ref (gA g 50 0)), (1, .int x1), (2, .int x2)] → W p l e ({ frames := 0, cells := 0, slots := 0, locals := 0 } : Room) s m args below meth c H locs 0 0 (MQ below (QG (some (.int r)) g Z C2) args s 0 0 (gP g)) (F0 m 4 ls []) := by
  intro fu
  induction fu with
  | zero =>
    intro x1 x2 C h
    cases h
  | succ fu ih =>
    intro x1 x2 C h ed H locs ls hH hS hl
    rw [F_X12_admitted_4] at h
    refine lv_iload_n hC.1 hC.2.1 dX12_admitted_4 rfl (lv_at hl 2 rfl) ?_
    refine lv_bipush (v := (6 : Int32)) hC.1 hC.2.1 dX12_admitted_5 (by decide) ?_
    refine lv_icmp_ge (tgt := 34) hC.1 hC.2.1 dX12_admitted_7 (by decide) (fun hc1 => ?_) (fun hc1 => ?_)
    · rw [if_pos hc1] at h
      refine lv_iload_n hC.1 hC.2.1 dX12_admitted_34 rfl (lv_at hl 1 rfl) ?_
      cases h
      exact gret_i hC hr hlk hH hS (Nat.le_of_ble_eq_true rfl) (Nat.le_of_ble_eq_true rfl) dX12_admitted_35
    · rw [if_neg hc1] at h
      refine lv_iload_n hC.1 hC.2.1 dX12_admitted_10 rfl (lv_at hl 1 rfl) ?_
      refine lv_aload_n hC.1 hC.2.1 dX12_admitted_11 rfl (lv_at hl 0 rfl) ?_
      refine gf_RX12_32 hC hH rfl dX12_admitted_12 ?_
      refine lv_iload_n hC.1 hC.2.1 dX12_admitted_15 rfl (lv_at hl 2 rfl) ?_
      obtain ⟨hg2, h⟩ := gd_some h
      refine al_114 hC hH hg2 rfl dX12_admitted_16 ?_
      refine lv_iconst (v := (2 : Int32)) hC.1 hC.2.1 dX12_admitted_17 (by decide) ?_
      refine lv_icmp_ne (tgt := 25) hC.1 hC.2.1 dX12_admitted_18 (by decide) (fun hc3 => ?_) (fun hc3 => ?_)
      · rw [if_neg hc3] at h
        refine lv_iconst (v := (0 : Int32)) hC.1 hC.2.1 dX12_admitted_25 (by decide) ?_
        exact B_X12_admitted_26 hC hE hml hr hlk ih h hH hS (lv_sub hl [0, 2] rfl)
      · rw [if_pos hc3] at h
        refine lv_iconst (v := (1 : Int32)) hC.1 hC.2.1 dX12_admitted_21 (by decide) ?_
        refine lv_goto (tgt := 26) hC.1 hC.2.1 dX12_admitted_22 (by decide) ?_
        exact B_X12_admitted_26 hC hE hml hr hlk ih h hH hS (lv_sub hl [0, 2] rfl)
def F_X12_admitted  (C : St) : Option (Int32 × St) := F_X12_admitted_4 1000 (0 : Int32) (0 : Int32) C
set_option maxHeartbeats 4000000 in
set_option maxRecDepth 100000 in
theorem c_X12_admitted {l : Launch} {g : GP} {ed : Nat → Nat} {Z : St}  {C : St} {r : Int32} {C2 : St} (h : F_X12_admitted  C = some (r, C2)) : Met l yX12_admitted (Cond.code yX12_admitted cX12_admitted 3 (some .int) :: lwG) ({ frames := 0, cells := 0, slots := 0, locals := 0 } : Room) (va_Pc [.ref (gA g 50 0)] (PW g Z C ed)) (QG (some (.int r)) g Z C2) 0 0 (gP g) := by
  refine Met.ofW (cc := cX12_admitted) (maxL := 3) (ret := (some .int)) (by decide +kernel) rfl ?_
  intro p e s m args below meth c s₁ B hml hv
  obtain ⟨ha, hC, hE, hr, hlk, hH⟩ := g_start B hv
  subst ha
  have hC : CX p s m ([.ref (gA g 50 0)] : List Value).toArray c cX12_admitted RX12 g := hC
  have hS : va_S (gP g) s.heap s.heap [] := va_S.rf
  obtain ⟨ls, he, hl⟩ := g_entry m (vs := [.ref (gA g 50 0)]) (n := 3) (List.forall_mem_cons.mpr ⟨rfl, (fun _ h => absurd h List.not_mem_nil)⟩) (Nat.le_of_ble_eq_true rfl)
  rw [he]
  have hl : lv_has ls 3 [(0, .ref (gA g 50 0))] := hl
  unfold F_X12_admitted at h
  refine lv_iconst (v := (0 : Int32)) hC.1 hC.2.1 dX12_admitted_0 (by decide) ?_
  refine lv_istore_n (i := 1) (lv' := [(1, .int (0 : Int32)), (0, .ref (gA g 50 0))]) hC.1 hC.2.1 dX12_admitted_1 rfl hl (by decide) rfl (fun ls hl => ?_)
  refine lv_iconst (v := (0 : Int32)) hC.1 hC.2.1 dX12_admitted_2 (by decide) ?_
  refine lv_istore_n (i := 2) (lv' := [(2, .int (0 : Int32)), (1, .int (0 : Int32)), (0, .ref (gA g 50 0))]) hC.1 hC.2.1 dX12_admitted_3 rfl hl (by decide) rfl (fun ls hl => ?_)
  exact B_X12_admitted_4 hC hE hml hr hlk 1000 _ _ _ h _ _ _ _ hH hS (lv_sub hl [2, 1, 0] rfl)
def F_X12_admits_25   (C : St) : Option (Int32 × St) := some ((0 : Int32), C)
set_option maxHeartbeats 4000000 in
set_option maxRecDepth 100000 in
theorem B_X12_admits_25 {p : Program} {l : Launch} {e : Env} {s : State} {m : MethodId} {args : Array Value} {below : List Frame} {meth : Method} {c : Code} {g : GP} {Z : St} (hC : CX p s m args c cX12_admits RX12 g) (hE : EZ g s s.heap) (hml : c.maxLocals = 2) (hr : meth.sig.returnType = (some .boolean)) (hlk : meth.locks = false) {r : Int32} {C2 : St}  {C : St} (h : F_X12_admits_25   C = some (r, C2)) {ed : Nat → Nat} {H : Heap} {locs : List Loc} {ls : Array Slot} (hH : HW g ed Z C H) (hS : va_S (gP g) s.heap H locs) (hl : lv_has ls 2 []) : W p l e ({ frames := 1, cells := 0, slots := 0, locals := 22 } : Room) s m args below meth c H locs 0 0 (MQ below (QG (some (.int r)) g Z C2) args s 0 0 (gP g)) (F0 m 25 ls []) := by
  unfold F_X12_admits_25 at h
  refine lv_iconst (v := (0 : Int32)) hC.1 hC.2.1 dX12_admits_25 (by decide) ?_
  cases h
  exact gret_z hC hr hlk (by decide) hH hS (Nat.le_of_ble_eq_true rfl) (Nat.le_of_ble_eq_true rfl) dX12_admits_26
def F_X12_admits (x1 : Int32) (C : St) : Option (Int32 × St) := gd (inb x1 6) (if (C 114 0 0 x1.toNatClampNeg) = (1 : Int32) then (bd2 (F_X12_admitted  C) (fun r3 D4 => if ((2 : Int32) * (r3 + (1 : Int32))) ≤ (D4 50 0 0 0) then (st (up D4 114 0 0 x1.toNatClampNeg (2 : Int32)) (fun D7 => bd2 (F_X12_wake x1 D7) (fun r9 D10 => some ((1 : Int32), D10)))) else (F_X12_admits_25  D4))) else (F_X12_admits_25  C))
set_option maxHeartbeats 4000000 in
set_option maxRecDepth 100000 in
theorem c_X12_admits {l : Launch} {g : GP} {ed : Nat → Nat} {Z : St} {x1 : Int32} {C : St} {r : Int32} {C2 : St} (h : F_X12_admits x1 C = some (r, C2)) : Met l yX12_admits (Cond.code yX12_admits cX12_admits 2 (some .boolean) :: lwG) ({ frames := 1, cells := 0, slots := 0, locals := 22 } : Room) (va_Pc [.ref (gA g 50 0), .int x1] (PW g Z C ed)) (QG (some (.int r)) g Z C2) 0 0 (gP g) := by
  refine Met.ofW (cc := cX12_admits) (maxL := 2) (ret := (some .boolean)) (by decide +kernel) rfl ?_
  intro p e s m args below meth c s₁ B hml hv
  obtain ⟨ha, hC, hE, hr, hlk, hH⟩ := g_start B hv
  subst ha
  have hC : CX p s m ([.ref (gA g 50 0), .int x1] : List Value).toArray c cX12_admits RX12 g := hC
  have hS : va_S (gP g) s.heap s.heap [] := va_S.rf
  obtain ⟨ls, he, hl⟩ := g_entry m (vs := [.ref (gA g 50 0), .int x1]) (n := 2) (List.forall_mem_cons.mpr ⟨rfl, (List.forall_mem_cons.mpr ⟨rfl, (fun _ h => absurd h List.not_mem_nil)⟩)⟩) (Nat.le_of_ble_eq_true rfl)
  rw [he]
  have hl : lv_has ls 2 [(0, .ref (gA g 50 0)), (1, .int x1)] := hl
  unfold F_X12_admits at h
  refine lv_aload_n hC.1 hC.2.1 dX12_admits_0 rfl (lv_at hl 0 rfl) ?_
  refine gf_RX12_32 hC hH rfl dX12_admits_1 ?_
  refine lv_iload_n hC.1 hC.2.1 dX12_admits_4 rfl (lv_at hl 1 rfl) ?_
  obtain ⟨hg1, h⟩ := gd_some h
  refine al_114 hC hH hg1 rfl dX12_admits_5 ?_
  refine lv_iconst (v := (1 : Int32)) hC.1 hC.2.1 dX12_admits_6 (by decide) ?_
  refine lv_icmp_ne (tgt := 25) hC.1 hC.2.1 dX12_admits_7 (by decide) (fun hc2 => ?_) (fun hc2 => ?_)
  · rw [if_neg hc2] at h
    exact B_X12_admits_25 hC hE hml hr hlk h hH hS (lv_sub hl [] rfl)
  · rw [if_pos hc2] at h
    refine lv_iconst (v := (2 : Int32)) hC.1 hC.2.1 dX12_admits_10 (by decide) ?_
    refine lv_aload_n hC.1 hC.2.1 dX12_admits_11 rfl (lv_at hl 0 rfl) ?_
    obtain ⟨r3, D4, hF5, h⟩ := bd2_some h
    refine gcallV (As := []) (rest := [.int (2 : Int32)]) (Cn := RX12) hC hE hml hH hS (c_X12_admitted hF5) ⟨wd_1477, wd_1479, wp_65, wd_17, wd_1480⟩ hd_X12_admitted rfl rfl ⟨Nat.le_of_ble_eq_true rfl, Nat.le_of_ble_eq_true rfl⟩ rfl (hw_recv (q := 50) (i := 0) hC hH ⟨Nat.zero_lt_one, fun h => absurd h (by decide)⟩ rfl rfl) rfl hl.1 rfl (Nat.le_of_ble_eq_true rfl) dX12_admits_12 ⟨Nat.le_of_ble_eq_true rfl, Nat.le_of_ble_eq_true rfl⟩ (fun ed H locs hH hS => ?_)
    refine W.eq (g2 := F0 m 15 ls [.int r3, .int (2 : Int32)]) rfl ?_
    refine lv_iconst (v := (1 : Int32)) hC.1 hC.2.1 dX12_admits_15 (by decide) ?_
    refine lv_iadd hC.1 hC.2.1 dX12_admits_16 ?_
    refine lv_imul hC.1 hC.2.1 dX12_admits_17 ?_
    refine lv_aload_n hC.1 hC.2.1 dX12_admits_18 rfl (lv_at hl 0 rfl) ?_
    refine gf_RX12_150 hC hH rfl dX12_admits_19 ?_
    refine lv_icmp_le (tgt := 27) hC.1 hC.2.1 dX12_admits_22 (by decide) (fun hc6 => ?_) (fun hc6 => ?_)
    · rw [if_pos hc6] at h
      refine lv_aload_n hC.1 hC.2.1 dX12_admits_27 rfl (lv_at hl 0 rfl) ?_
      refine gf_RX12_32 hC hH rfl dX12_admits_28 ?_
      refine lv_iload_n hC.1 hC.2.1 dX12_admits_31 rfl (lv_at hl 1 rfl) ?_
      refine lv_iconst (v := (2 : Int32)) hC.1 hC.2.1 dX12_admits_32 (by decide) ?_
      obtain ⟨D7, e8, h⟩ := st_some h
      refine as_114 hC hH hS hg1 rfl dX12_admits_33 (fun H locs hH hS => ?_)
      rw [← e8] at hH
      refine lv_aload_n hC.1 hC.2.1 dX12_admits_34 rfl (lv_at hl 0 rfl) ?_
      refine lv_iload_n hC.1 hC.2.1 dX12_admits_35 rfl (lv_at hl 1 rfl) ?_
      obtain ⟨r9, D10, hF11, h⟩ := bd2_some h
      refine gcallV (As := [.int x1]) (rest := []) (Cn := RX12) hC hE hml hH hS (c_X12_wake hF11) ⟨wd_1400, wd_1402, wp_46, wd_17, wd_1403⟩ hd_X12_wake rfl rfl ⟨Nat.le_of_ble_eq_true rfl, Nat.le_of_ble_eq_true rfl⟩ rfl (hw_recv (q := 50) (i := 0) hC hH ⟨Nat.zero_lt_one, fun h => absurd h (by decide)⟩ rfl rfl) rfl hl.1 rfl (Nat.le_of_ble_eq_true rfl) dX12_admits_36 ⟨Nat.le_of_ble_eq_true rfl, Nat.le_of_ble_eq_true rfl⟩ (fun ed H locs hH hS => ?_)
      refine W.eq (g2 := F0 m 39 ls []) rfl ?_
      refine lv_iconst (v := (1 : Int32)) hC.1 hC.2.1 dX12_admits_39 (by decide) ?_
      cases h
      exact gret_z hC hr hlk (by decide) hH hS (Nat.le_of_ble_eq_true rfl) (Nat.le_of_ble_eq_true rfl) dX12_admits_40
    · rw [if_neg hc6] at h
      exact B_X12_admits_25 hC hE hml hr hlk h hH hS (lv_sub hl [] rfl)
def F_X12_cancels_56 (k37 : Int32 → Int32 → St → Option (Int32 × St)) (x1 : Int32) (x2 : Int32) (C : St) : Option (Int32 × St) := k37 x1 (x2 + (-1)) C
set_option maxHeartbeats 4000000 in
set_option maxRecDepth 100000 in
theorem B_X12_cancels_56 {p : Program} {l : Launch} {e : Env} {s : State} {m : MethodId} {args : Array Value} {below : List Frame} {meth : Method} {c : Code} {g : GP} {Z : St} (hC : CX p s m args c cX12_cancels RX12 g) (hE : EZ g s s.heap) (hml : c.maxLocals = 3) (hr : meth.sig.returnType = (some .boolean)) (hlk : meth.locks = false) {r : Int32} {C2 : St} {k37 : Int32 → Int32 → St → Option (Int32 × St)} (hk37 : ∀ (x1 : Int32) (x2 : Int32) (C : St), k37 x1 x2 C = some (r, C2) → ∀ (ed : Nat → Nat) (H : Heap) (locs : List Loc) (ls : Array Slot), HW g ed Z C H → va_S (gP g) s.heap H locs → lv_has ls 3 [(0, .ref (gA g 50 0)), (1, .int x1), (2, .int x2)] → W p l e ({ frames := 1, cells := 0, slots := 0, locals := 22 } : Room) s m args below meth c H locs 0 0 (MQ below (QG (some (.int r)) g Z C2) args s 0 0 (gP g)) (F0 m 37 ls [])) {x1 : Int32} {x2 : Int32} {C : St} (h : F_X12_cancels_56 k37 x1 x2 C = some (r, C2)) {ed : Nat → Nat} {H : Heap} {locs : List Loc} {ls : Array Slot} (hH : HW g ed Z C H) (hS : va_S (gP g) s.heap H locs) (hl : lv_has ls 3 [(0, .ref (gA g 50 0)), (1, .int x1), (2, .int x2)]) : W p l e ({ frames := 1, cells := 0, slots := 0, locals := 22 } : Room) s m args below meth c H locs 0 0 (MQ below (QG (some (.int r)) g Z C2) args s 0 0 (gP g)) (F0 m 56 ls []) := by
  unfold F_X12_cancels_56 at h
  refine lv_iinc (v := x2 + (-1)) (lv' := [(2, .int (x2 + (-1))), (0, .ref (gA g 50 0)), (1, .int x1)]) hC.1 hC.2.1 dX12_cancels_56 hl (k := 2) rfl rfl (by decide) rfl (fun ls hl => ?_)
  refine lv_goto (tgt := 37) hC.1 hC.2.1 dX12_cancels_59 (by decide) ?_
  exact hk37 _ _ _ h _ _ _ _ hH hS (lv_sub hl [1, 2, 0] rfl)
def F_X12_cancels_85   (C : St) : Option (Int32 × St) := some ((1 : Int32), C)
set_option maxHeartbeats 4000000 in
set_option maxRecDepth 100000 in
theorem B_X12_cancels_85 {p : Program} {l : Launch} {e : Env} {s : State} {m : MethodId} {args : Array Value} {below : List Frame} {meth : Method} {c : Code} {g : GP} {Z : St} (hC : CX p s m args c cX12_cancels RX12 g) (hE : EZ g s s.heap) (hml : c.maxLocals = 3) (hr : meth.sig.returnType = (some .boolean)) (hlk : meth.locks = false) {r : Int32} {C2 : St}  {C : St} (h : F_X12_cancels_85   C = some (r, C2)) {ed : Nat → Nat} {H : Heap} {locs : List Loc} {ls : Array Slot} (hH : HW g ed Z C H) (hS : va_S (gP g) s.heap H locs) (hl : lv_has ls 3 []) : W p l e ({ frames := 1, cells := 0, slots := 0, locals := 22 } : Room) s m args below meth c H locs 0 0 (MQ below (QG (some (.int r)) g Z C2) args s 0 0 (gP g)) (F0 m 85 ls []) := by
  unfold F_X12_cancels_85 at h
  refine lv_iconst (v := (1 : Int32)) hC.1 hC.2.1 dX12_cancels_85 (by decide) ?_
  cases h
  exact gret_z hC hr hlk (by decide) hH hS (Nat.le_of_ble_eq_true rfl) (Nat.le_of_ble_eq_true rfl) dX12_cancels_86
def F_X12_cancels_37  : Nat → Int32 → Int32 → St → Option (Int32 × St)
  | 0, _, _, _ => none
  | fu + 1, x1, x2, C => if x2 < 0 then (bd2 (F_X12_wake x1 C) (fun r2 D3 => F_X12_cancels_85  D3)) else (gd (inb x2 6) (if (C 159 0 0 x2.toNatClampNeg) = x1 then (bd2 (F_X12_leaveGets x2 C) (fun r7 D8 => F_X12_cancels_56 (F_X12_cancels_37 fu) x1 x2 D8)) else (F_X12_cancels_56 (F_X12_cancels_37 fu) x1 x2 C)))
set_option maxHeartbeats 4000000 in
set_option maxRecDepth 100000 in
theorem B_X12_cancels_37 {p : Program} {l : Launch} {e : Env} {s : State} {m : MethodId} {args : Array Value} {below : List Frame} {meth : Method} {c : Code} {g : GP} {Z : St} (hC : CX p s m args c cX12_cancels RX12 g) (hE : EZ g s s.heap) (hml : c.maxLocals = 3) (hr : meth.sig.returnType = (some .boolean)) (hlk : meth.locks = false) {r : Int32} {C2 : St} : ∀ (fu : Nat) (x1 : Int32) (x2 : Int32) (C : St), F_X12_cancels_37  fu x1 x2 C = some (r, C2) → ∀ (ed : Nat → Nat) (H : Heap) (locs : List Loc) (ls : Array Slot), HW g ed Z C H → va_S (gP g) s.heap H locs → lv_has ls 3 [(0, .ref (gA g 50 0)), (1, .int x1), (2, .int x2)] → W p l e ({ frames := 1, cells := 0, slots := 0, locals := 22 } : Room) s m args below meth c H locs 0 0 (MQ below (QG (some (.int r)) g Z C2) args s 0 0 (gP g)) (F0 m 37 ls []) := by
  intro fu
  induction fu with
  | zero =>
    intro x1 x2 C h
    cases h
  | succ fu ih =>
    intro x1 x2 C h ed H locs ls hH hS hl
    rw [F_X12_cancels_37] at h
    refine lv_iload_n hC.1 hC.2.1 dX12_cancels_37 rfl (lv_at hl 2 rfl) ?_
    refine lv_if_lt (tgt := 62) hC.1 hC.2.1 dX12_cancels_38 (by decide) (fun hc1 => ?_) (fun hc1 => ?_)
    · rw [if_pos hc1] at h
      refine lv_aload_n hC.1 hC.2.1 dX12_cancels_62 rfl (lv_at hl 0 rfl) ?_
      refine lv_iload_n hC.1 hC.2.1 dX12_cancels_63 rfl (lv_at hl 1 rfl) ?_
      obtain ⟨r2, D3, hF4, h⟩ := bd2_some h
      refine gcallV (As := [.int x1]) (rest := []) (Cn := RX12) hC hE hml hH hS (c_X12_wake hF4) ⟨wd_1400, wd_1402, wp_46, wd_17, wd_1403⟩ hd_X12_wake rfl rfl ⟨Nat.le_of_ble_eq_true rfl, Nat.le_of_ble_eq_true rfl⟩ rfl (hw_recv (q := 50) (i := 0) hC hH ⟨Nat.zero_lt_one, fun h => absurd h (by decide)⟩ rfl rfl) rfl hl.1 rfl (Nat.le_of_ble_eq_true rfl) dX12_cancels_64 ⟨Nat.le_of_ble_eq_true rfl, Nat.le_of_ble_eq_true rfl⟩ (fun ed H locs hH hS => ?_)
      refine W.eq (g2 := F0 m 67 ls []) rfl ?_
      refine lv_goto (tgt := 85) hC.1 hC.2.1 dX12_cancels_67 (by decide) ?_
      exact B_X12_cancels_85 hC hE hml hr hlk h hH hS (lv_sub hl [] rfl)
    · rw [if_neg hc1] at h
      refine lv_aload_n hC.1 hC.2.1 dX12_cancels_41 rfl (lv_at hl 0 rfl) ?_
      refine gf_RX12_128 hC hH rfl dX12_cancels_42 ?_
      refine lv_iload_n hC.1 hC.2.1 dX12_cancels_45 rfl (lv_at hl 2 rfl) ?_
      obtain ⟨hg5, h⟩ := gd_some h
      refine al_159 hC hH hg5 rfl dX12_cancels_46 ?_
      refine lv_iload_n hC.1 hC.2.1 dX12_cancels_47 rfl (lv_at hl 1 rfl) ?_
      refine lv_icmp_ne (tgt := 56) hC.1 hC.2.1 dX12_cancels_48 (by decide) (fun hc6 => ?_) (fun hc6 => ?_)
      · rw [if_neg hc6] at h
        exact B_X12_cancels_56 hC hE hml hr hlk ih h hH hS (lv_sub hl [0, 1, 2] rfl)
      · rw [if_pos hc6] at h
        refine lv_aload_n hC.1 hC.2.1 dX12_cancels_51 rfl (lv_at hl 0 rfl) ?_
        refine lv_iload_n hC.1 hC.2.1 dX12_cancels_52 rfl (lv_at hl 2 rfl) ?_
        obtain ⟨r7, D8, hF9, h⟩ := bd2_some h
        refine gcallV (As := [.int x2]) (rest := []) (Cn := RX12) hC hE hml hH hS (c_X12_leaveGets hF9) ⟨wd_1388, wd_1390, wp_43, wd_17, wd_1391⟩ hd_X12_leaveGets rfl rfl ⟨Nat.le_of_ble_eq_true rfl, Nat.le_of_ble_eq_true rfl⟩ rfl (hw_recv (q := 50) (i := 0) hC hH ⟨Nat.zero_lt_one, fun h => absurd h (by decide)⟩ rfl rfl) rfl hl.1 rfl (Nat.le_of_ble_eq_true rfl) dX12_cancels_53 ⟨Nat.le_of_ble_eq_true rfl, Nat.le_of_ble_eq_true rfl⟩ (fun ed H locs hH hS => ?_)
        refine W.eq (g2 := F0 m 56 ls []) rfl ?_
        exact B_X12_cancels_56 hC hE hml hr hlk ih h hH hS (lv_sub hl [0, 1, 2] rfl)
def F_X12_cancels (x1 : Int32) (C : St) : Option (Int32 × St) := gd (inb x1 6) (if (C 114 0 0 x1.toNatClampNeg) = (2 : Int32) then (st (up C 124 0 0 x1.toNatClampNeg (1 : Int32)) (fun D3 => gd (inb x1 10) (if (D3 110 0 0 x1.toNatClampNeg) = (6 : Int32) then (F_X12_cancels_37 1000 x1 ((D3 50 0 62 0) - (1 : Int32)) D3) else (if (D3 110 0 0 x1.toNatClampNeg) = (5 : Int32) then (bd2 (F_X12_wake x1 D3) (fun r8 D9 => F_X12_cancels_85  D9)) else (F_X12_cancels_85  D3))))) else (some ((0 : Int32), C)))
set_option maxHeartbeats 4000000 in
set_option maxRecDepth 100000 in
theorem c_X12_cancels {l : Launch} {g : GP} {ed : Nat → Nat} {Z : St} {x1 : Int32} {C : St} {r : Int32} {C2 : St} (h : F_X12_cancels x1 C = some (r, C2)) : Met l yX12_cancels (Cond.code yX12_cancels cX12_cancels 3 (some .boolean) :: lwG) ({ frames := 1, cells := 0, slots := 0, locals := 22 } : Room) (va_Pc [.ref (gA g 50 0), .int x1] (PW g Z C ed)) (QG (some (.int r)) g Z C2) 0 0 (gP g) := by
  refine Met.ofW (cc := cX12_cancels) (maxL := 3) (ret := (some .boolean)) (by decide +kernel) rfl ?_
  intro p e s m args below meth c s₁ B hml hv
  obtain ⟨ha, hC, hE, hr, hlk, hH⟩ := g_start B hv
  subst ha
  have hC : CX p s m ([.ref (gA g 50 0), .int x1] : List Value).toArray c cX12_cancels RX12 g := hC
  have hS : va_S (gP g) s.heap s.heap [] := va_S.rf
  obtain ⟨ls, he, hl⟩ := g_entry m (vs := [.ref (gA g 50 0), .int x1]) (n := 3) (List.forall_mem_cons.mpr ⟨rfl, (List.forall_mem_cons.mpr ⟨rfl, (fun _ h => absurd h List.not_mem_nil)⟩)⟩) (Nat.le_of_ble_eq_true rfl)
  rw [he]
  have hl : lv_has ls 3 [(0, .ref (gA g 50 0)), (1, .int x1)] := hl
  unfold F_X12_cancels at h
  refine lv_aload_n hC.1 hC.2.1 dX12_cancels_0 rfl (lv_at hl 0 rfl) ?_
  refine gf_RX12_32 hC hH rfl dX12_cancels_1 ?_
  refine lv_iload_n hC.1 hC.2.1 dX12_cancels_4 rfl (lv_at hl 1 rfl) ?_
  obtain ⟨hg1, h⟩ := gd_some h
  refine al_114 hC hH hg1 rfl dX12_cancels_5 ?_
  refine lv_iconst (v := (2 : Int32)) hC.1 hC.2.1 dX12_cancels_6 (by decide) ?_
  refine lv_icmp_eq (tgt := 12) hC.1 hC.2.1 dX12_cancels_7 (by decide) (fun hc2 => ?_) (fun hc2 => ?_)
  · rw [if_pos hc2] at h
    refine lv_aload_n hC.1 hC.2.1 dX12_cancels_12 rfl (lv_at hl 0 rfl) ?_
    refine gf_RX12_62 hC hH rfl dX12_cancels_13 ?_
    refine lv_iload_n hC.1 hC.2.1 dX12_cancels_16 rfl (lv_at hl 1 rfl) ?_
    refine lv_iconst (v := (1 : Int32)) hC.1 hC.2.1 dX12_cancels_17 (by decide) ?_
    obtain ⟨D3, e4, h⟩ := st_some h
    refine as_124 hC hH hS hg1 (by decide) rfl dX12_cancels_18 (fun H locs hH hS => ?_)
    rw [← e4] at hH
    refine lv_aload_n hC.1 hC.2.1 dX12_cancels_19 rfl (lv_at hl 0 rfl) ?_
    refine gf_RX12_20 hC hH rfl dX12_cancels_20 ?_
    refine lv_iload_n hC.1 hC.2.1 dX12_cancels_23 rfl (lv_at hl 1 rfl) ?_
    obtain ⟨hg5, h⟩ := gd_some h
    refine al_110 hC hH hg5 rfl dX12_cancels_24 ?_
    refine lv_bipush (v := (6 : Int32)) hC.1 hC.2.1 dX12_cancels_25 (by decide) ?_
    refine lv_icmp_ne (tgt := 70) hC.1 hC.2.1 dX12_cancels_27 (by decide) (fun hc6 => ?_) (fun hc6 => ?_)
    · rw [if_neg hc6] at h
      refine lv_aload_n hC.1 hC.2.1 dX12_cancels_70 rfl (lv_at hl 0 rfl) ?_
      refine gf_RX12_20 hC hH rfl dX12_cancels_71 ?_
      refine lv_iload_n hC.1 hC.2.1 dX12_cancels_74 rfl (lv_at hl 1 rfl) ?_
      refine al_110 hC hH hg5 rfl dX12_cancels_75 ?_
      refine lv_iconst (v := (5 : Int32)) hC.1 hC.2.1 dX12_cancels_76 (by decide) ?_
      refine lv_icmp_ne (tgt := 85) hC.1 hC.2.1 dX12_cancels_77 (by decide) (fun hc7 => ?_) (fun hc7 => ?_)
      · rw [if_neg hc7] at h
        exact B_X12_cancels_85 hC hE hml hr hlk h hH hS (lv_sub hl [] rfl)
      · rw [if_pos hc7] at h
        refine lv_aload_n hC.1 hC.2.1 dX12_cancels_80 rfl (lv_at hl 0 rfl) ?_
        refine lv_iload_n hC.1 hC.2.1 dX12_cancels_81 rfl (lv_at hl 1 rfl) ?_
        obtain ⟨r8, D9, hF10, h⟩ := bd2_some h
        refine gcallV (As := [.int x1]) (rest := []) (Cn := RX12) hC hE hml hH hS (c_X12_wake hF10) ⟨wd_1400, wd_1402, wp_46, wd_17, wd_1403⟩ hd_X12_wake rfl rfl ⟨Nat.le_of_ble_eq_true rfl, Nat.le_of_ble_eq_true rfl⟩ rfl (hw_recv (q := 50) (i := 0) hC hH ⟨Nat.zero_lt_one, fun h => absurd h (by decide)⟩ rfl rfl) rfl hl.1 rfl (Nat.le_of_ble_eq_true rfl) dX12_cancels_82 ⟨Nat.le_of_ble_eq_true rfl, Nat.le_of_ble_eq_true rfl⟩ (fun ed H locs hH hS => ?_)
        refine W.eq (g2 := F0 m 85 ls []) rfl ?_
        exact B_X12_cancels_85 hC hE hml hr hlk h hH hS (lv_sub hl [] rfl)
    · rw [if_pos hc6] at h
      refine lv_aload_n hC.1 hC.2.1 dX12_cancels_30 rfl (lv_at hl 0 rfl) ?_
      refine gf_RX12_291 hC hH rfl dX12_cancels_31 ?_
      refine lv_iconst (v := (1 : Int32)) hC.1 hC.2.1 dX12_cancels_34 (by decide) ?_
      refine lv_isub hC.1 hC.2.1 dX12_cancels_35 ?_
      refine lv_istore_n (i := 2) (lv' := [(2, .int ((D3 50 0 62 0) - (1 : Int32))), (0, .ref (gA g 50 0)), (1, .int x1)]) hC.1 hC.2.1 dX12_cancels_36 rfl hl (by decide) rfl (fun ls hl => ?_)
      exact B_X12_cancels_37 hC hE hml hr hlk 1000 _ _ _ h _ _ _ _ hH hS (lv_sub hl [1, 2, 0] rfl)
  · rw [if_neg hc2] at h
    refine lv_iconst (v := (0 : Int32)) hC.1 hC.2.1 dX12_cancels_10 (by decide) ?_
    cases h
    exact gret_z hC hr hlk (by decide) hH hS (Nat.le_of_ble_eq_true rfl) (Nat.le_of_ble_eq_true rfl) dX12_cancels_11
def F_X12_isDigit_17  (t0 : Int32) (C : St) : Option (Int32 × St) := gd (isb t0) (some (t0, C))
set_option maxHeartbeats 4000000 in
set_option maxRecDepth 100000 in
theorem B_X12_isDigit_17 {p : Program} {l : Launch} {e : Env} {s : State} {m : MethodId} {args : Array Value} {below : List Frame} {meth : Method} {c : Code} {g : GP} {Z : St} (hC : CX p s m args c cX12_isDigit RX12 g) (hE : EZ g s s.heap) (hml : c.maxLocals = 1) (hr : meth.sig.returnType = (some .boolean)) (hlk : meth.locks = false) {r : Int32} {C2 : St} {t0 : Int32} {C : St} (h : F_X12_isDigit_17  t0 C = some (r, C2)) {ed : Nat → Nat} {H : Heap} {locs : List Loc} {ls : Array Slot} (hH : HW g ed Z C H) (hS : va_S (gP g) s.heap H locs) (hl : lv_has ls 1 []) : W p l e ({ frames := 0, cells := 0, slots := 0, locals := 0 } : Room) s m args below meth c H locs 0 0 (MQ below (QG (some (.int r)) g Z C2) args s 0 0 (gP g)) (F0 m 17 ls [.int t0]) := by
  unfold F_X12_isDigit_17 at h
  obtain ⟨hg1, h⟩ := gd_some h
  cases h
  exact gret_z hC hr hlk hg1 hH hS (Nat.le_of_ble_eq_true rfl) (Nat.le_of_ble_eq_true rfl) dX12_isDigit_17
def F_X12_isDigit_16   (C : St) : Option (Int32 × St) := F_X12_isDigit_17 (0 : Int32) C
set_option maxHeartbeats 4000000 in
set_option maxRecDepth 100000 in
theorem B_X12_isDigit_16 {p : Program} {l : Launch} {e : Env} {s : State} {m : MethodId} {args : Array Value} {below : List Frame} {meth : Method} {c : Code} {g : GP} {Z : St} (hC : CX p s m args c cX12_isDigit RX12 g) (hE : EZ g s s.heap) (hml : c.maxLocals = 1) (hr : meth.sig.returnType = (some .boolean)) (hlk : meth.locks = false) {r : Int32} {C2 : St}  {C : St} (h : F_X12_isDigit_16   C = some (r, C2)) {ed : Nat → Nat} {H : Heap} {locs : List Loc} {ls : Array Slot} (hH : HW g ed Z C H) (hS : va_S (gP g) s.heap H locs) (hl : lv_has ls 1 []) : W p l e ({ frames := 0, cells := 0, slots := 0, locals := 0 } : Room) s m args below meth c H locs 0 0 (MQ below (QG (some (.int r)) g Z C2) args s 0 0 (gP g)) (F0 m 16 ls []) := by
  unfold F_X12_isDigit_16 at h
  refine lv_iconst (v := (0 : Int32)) hC.1 hC.2.1 dX12_isDigit_16 (by decide) ?_
  exact B_X12_isDigit_17 hC hE hml hr hlk h hH hS (lv_sub hl [] rfl)
def F_X12_isDigit (x0 : Int32) (C : St) : Option (Int32 × St) := if x0 < (48 : Int32) then (F_X12_isDigit_16  C) else (if (57 : Int32) < x0 then (F_X12_isDigit_16  C) else (F_X12_isDigit_17 (1 : Int32) C))
set_option maxHeartbeats 4000000 in
set_option maxRecDepth 100000 in
theorem c_X12_isDigit {l : Launch} {g : GP} {ed : Nat → Nat} {Z : St} {x0 : Int32} {C : St} {r : Int32} {C2 : St} (h : F_X12_isDigit x0 C = some (r, C2)) : Met l yX12_isDigit (Cond.code yX12_isDigit cX12_isDigit 1 (some .boolean) :: lwG) ({ frames := 0, cells := 0, slots := 0, locals := 0 } : Room) (va_Pc [.int x0] (PW g Z C ed)) (QG (some (.int r)) g Z C2) 0 0 (gP g) := by
  refine Met.ofW (cc := cX12_isDigit) (maxL := 1) (ret := (some .boolean)) (by decide +kernel) rfl ?_
  intro p e s m args below meth c s₁ B hml hv
  obtain ⟨ha, hC, hE, hr, hlk, hH⟩ := g_start B hv
  subst ha
  have hC : CX p s m ([.int x0] : List Value).toArray c cX12_isDigit RX12 g := hC
  have hS : va_S (gP g) s.heap s.heap [] := va_S.rf
  obtain ⟨ls, he, hl⟩ := g_entry m (vs := [.int x0]) (n := 1) (List.forall_mem_cons.mpr ⟨rfl, (fun _ h => absurd h List.not_mem_nil)⟩) (Nat.le_of_ble_eq_true rfl)
  rw [he]
  have hl : lv_has ls 1 [(0, .int x0)] := hl
  unfold F_X12_isDigit at h
  refine lv_iload_n hC.1 hC.2.1 dX12_isDigit_0 rfl (lv_at hl 0 rfl) ?_
  refine lv_bipush (v := (48 : Int32)) hC.1 hC.2.1 dX12_isDigit_1 (by decide) ?_
  refine lv_icmp_lt (tgt := 16) hC.1 hC.2.1 dX12_isDigit_3 (by decide) (fun hc1 => ?_) (fun hc1 => ?_)
  · rw [if_pos hc1] at h
    exact B_X12_isDigit_16 hC hE hml hr hlk h hH hS (lv_sub hl [] rfl)
  · rw [if_neg hc1] at h
    refine lv_iload_n hC.1 hC.2.1 dX12_isDigit_6 rfl (lv_at hl 0 rfl) ?_
    refine lv_bipush (v := (57 : Int32)) hC.1 hC.2.1 dX12_isDigit_7 (by decide) ?_
    refine lv_icmp_gt (tgt := 16) hC.1 hC.2.1 dX12_isDigit_9 (by decide) (fun hc2 => ?_) (fun hc2 => ?_)
    · rw [if_pos hc2] at h
      exact B_X12_isDigit_16 hC hE hml hr hlk h hH hS (lv_sub hl [] rfl)
    · rw [if_neg hc2] at h
      refine lv_iconst (v := (1 : Int32)) hC.1 hC.2.1 dX12_isDigit_12 (by decide) ?_
      refine lv_goto (tgt := 17) hC.1 hC.2.1 dX12_isDigit_13 (by decide) ?_
      exact B_X12_isDigit_17 hC hE hml hr hlk h hH hS (lv_sub hl [] rfl)
def F_X12_replies_48   (C : St) : Option (Int32 × St) := some ((0 : Int32), C)
set_option maxHeartbeats 4000000 in
set_option maxRecDepth 100000 in
theorem B_X12_replies_48 {p : Program} {l : Launch} {e : Env} {s : State} {m : MethodId} {args : Array Value} {below : List Frame} {meth : Method} {c : Code} {g : GP} {Z : St} (hC : CX p s m args c cX12_replies RX12 g) (hE : EZ g s s.heap) (hml : c.maxLocals = 7) (hr : meth.sig.returnType = (some .boolean)) (hlk : meth.locks = false) {r : Int32} {C2 : St}  {C : St} (h : F_X12_replies_48   C = some (r, C2)) {ed : Nat → Nat} {H : Heap} {locs : List Loc} {ls : Array Slot} (hH : HW g ed Z C H) (hS : va_S (gP g) s.heap H locs) (hl : lv_has ls 7 []) : W p l e ({ frames := 2, cells := 0, slots := 0, locals := 43 } : Room) s m args below meth c H locs 0 0 (MQ below (QG (some (.int r)) g Z C2) args s 0 0 (gP g)) (F0 m 48 ls []) := by
  unfold F_X12_replies_48 at h
  refine lv_iconst (v := (0 : Int32)) hC.1 hC.2.1 dX12_replies_48 (by decide) ?_
  cases h
  exact gret_z hC hr hlk (by decide) hH hS (Nat.le_of_ble_eq_true rfl) (Nat.le_of_ble_eq_true rfl) dX12_replies_49
def F_X12_replies_119   (C : St) : Option (Int32 × St) := some ((0 : Int32), C)
set_option maxHeartbeats 4000000 in
set_option maxRecDepth 100000 in
theorem B_X12_replies_119 {p : Program} {l : Launch} {e : Env} {s : State} {m : MethodId} {args : Array Value} {below : List Frame} {meth : Method} {c : Code} {g : GP} {Z : St} (hC : CX p s m args c cX12_replies RX12 g) (hE : EZ g s s.heap) (hml : c.maxLocals = 7) (hr : meth.sig.returnType = (some .boolean)) (hlk : meth.locks = false) {r : Int32} {C2 : St}  {C : St} (h : F_X12_replies_119   C = some (r, C2)) {ed : Nat → Nat} {H : Heap} {locs : List Loc} {ls : Array Slot} (hH : HW g ed Z C H) (hS : va_S (gP g) s.heap H locs) (hl : lv_has ls 7 []) : W p l e ({ frames := 2, cells := 0, slots := 0, locals := 43 } : Room) s m args below meth c H locs 0 0 (MQ below (QG (some (.int r)) g Z C2) args s 0 0 (gP g)) (F0 m 119 ls []) := by
  unfold F_X12_replies_119 at h
  refine lv_iconst (v := (0 : Int32)) hC.1 hC.2.1 dX12_replies_119 (by decide) ?_
  cases h
  exact gret_z hC hr hlk (by decide) hH hS (Nat.le_of_ble_eq_true rfl) (Nat.le_of_ble_eq_true rfl) dX12_replies_120
def F_X12_replies_138  (x1 : Int32) (t0 : Int32) (t1 : Int32) (C : St) : Option (Int32 × St) := gd (inb t1 6) (st (up C 119 0 0 t1.toNatClampNeg t0) (fun D2 => bd2 (F_X12_finish x1 D2) (fun r4 D5 => bd2 (F_X12_wake x1 D5) (fun r7 D8 => some ((1 : Int32), D8)))))
set_option maxHeartbeats 4000000 in
set_option maxRecDepth 100000 in
theorem B_X12_replies_138 {p : Program} {l : Launch} {e : Env} {s : State} {m : MethodId} {args : Array Value} {below : List Frame} {meth : Method} {c : Code} {g : GP} {Z : St} (hC : CX p s m args c cX12_replies RX12 g) (hE : EZ g s s.heap) (hml : c.maxLocals = 7) (hr : meth.sig.returnType = (some .boolean)) (hlk : meth.locks = false) {r : Int32} {C2 : St} {x1 : Int32} {t0 : Int32} {t1 : Int32} {C : St} (h : F_X12_replies_138  x1 t0 t1 C = some (r, C2)) {ed : Nat → Nat} {H : Heap} {locs : List Loc} {ls : Array Slot} (hH : HW g ed Z C H) (hS : va_S (gP g) s.heap H locs) (hl : lv_has ls 7 [(0, .ref (gA g 50 0)), (1, .int x1)]) : W p l e ({ frames := 2, cells := 0, slots := 0, locals := 43 } : Room) s m args below meth c H locs 0 0 (MQ below (QG (some (.int r)) g Z C2) args s 0 0 (gP g)) (F0 m 138 ls [.int t0, .int t1, .ref (gA g 119 0)]) := by
  unfold F_X12_replies_138 at h
  obtain ⟨hg1, h⟩ := gd_some h
  obtain ⟨D2, e3, h⟩ := st_some h
  refine as_119 hC hH hS hg1 rfl dX12_replies_138 (fun H locs hH hS => ?_)
  rw [← e3] at hH
  refine lv_aload_n hC.1 hC.2.1 dX12_replies_139 rfl (lv_at hl 0 rfl) ?_
  refine lv_iload_n hC.1 hC.2.1 dX12_replies_140 rfl (lv_at hl 1 rfl) ?_
  obtain ⟨r4, D5, hF6, h⟩ := bd2_some h
  refine gcallV (As := [.int x1]) (rest := []) (Cn := RX12) hC hE hml hH hS (c_X12_finish hF6) ⟨wd_1392, wd_1394, wp_44, wd_17, wd_1395⟩ hd_X12_finish rfl rfl ⟨Nat.le_of_ble_eq_true rfl, Nat.le_of_ble_eq_true rfl⟩ rfl (hw_recv (q := 50) (i := 0) hC hH ⟨Nat.zero_lt_one, fun h => absurd h (by decide)⟩ rfl rfl) rfl hl.1 rfl (Nat.le_of_ble_eq_true rfl) dX12_replies_141 ⟨Nat.le_of_ble_eq_true rfl, Nat.le_of_ble_eq_true rfl⟩ (fun ed H locs hH hS => ?_)
  refine W.eq (g2 := F0 m 144 ls []) rfl ?_
  refine lv_aload_n hC.1 hC.2.1 dX12_replies_144 rfl (lv_at hl 0 rfl) ?_
  refine lv_iload_n hC.1 hC.2.1 dX12_replies_145 rfl (lv_at hl 1 rfl) ?_
  obtain ⟨r7, D8, hF9, h⟩ := bd2_some h
  refine gcallV (As := [.int x1]) (rest := []) (Cn := RX12) hC hE hml hH hS (c_X12_wake hF9) ⟨wd_1400, wd_1402, wp_46, wd_17, wd_1403⟩ hd_X12_wake rfl rfl ⟨Nat.le_of_ble_eq_true rfl, Nat.le_of_ble_eq_true rfl⟩ rfl (hw_recv (q := 50) (i := 0) hC hH ⟨Nat.zero_lt_one, fun h => absurd h (by decide)⟩ rfl rfl) rfl hl.1 rfl (Nat.le_of_ble_eq_true rfl) dX12_replies_146 ⟨Nat.le_of_ble_eq_true rfl, Nat.le_of_ble_eq_true rfl⟩ (fun ed H locs hH hS => ?_)
  refine W.eq (g2 := F0 m 149 ls []) rfl ?_
  refine lv_iconst (v := (1 : Int32)) hC.1 hC.2.1 dX12_replies_149 (by decide) ?_
  cases h
  exact gret_z hC hr hlk (by decide) hH hS (Nat.le_of_ble_eq_true rfl) (Nat.le_of_ble_eq_true rfl) dX12_replies_150
def F_X12_replies_54  : Nat → Int32 → Int32 → Int32 → Int32 → Int32 → St → Option (Int32 × St)
  | 0, _, _, _, _, _, _ => none
  | fu + 1, x1, x2, x3, x5, x6, C => if x2 ≤ x6 then (gd (inb x1 6) (if (C 114 0 0 x1.toNatClampNeg) = (2 : Int32) then (gd (inb x1 10) (if (C 110 0 0 x1.toNatClampNeg) = (5 : Int32) then (if x3 = 0 then (F_X12_replies_138 x1 x5 x1 C) else (F_X12_replies_138 x1 (-x5) x1 C)) else (F_X12_replies_119  C))) else (F_X12_replies_119  C))) else (gd (inb x6 160) (bd2 (F_X12_isDigit (C 164 0 0 x6.toNatClampNeg) C) (fun r8 D9 => if r8 = 0 then (some ((0 : Int32), D9)) else (F_X12_replies_54 fu x1 x2 x3 ((((10 : Int32) * x5) + (D9 164 0 0 x6.toNatClampNeg)) - (48 : Int32)) (x6 + 1) D9))))
set_option maxHeartbeats 4000000 in
set_option maxRecDepth 100000 in
theorem B_X12_replies_54 {p : Program} {l : Launch} {e : Env} {s : State} {m : MethodId} {args : Array Value} {below : List Frame} {meth : Method} {c : Code} {g : GP} {Z : St} (hC : CX p s m args c cX12_replies RX12 g) (hE : EZ g s s.heap) (hml : c.maxLocals = 7) (hr : meth.sig.returnType = (some .boolean)) (hlk : meth.locks = false) {r : Int32} {C2 : St} : ∀ (fu : Nat) (x1 : Int32) (x2 : Int32) (x3 : Int32) (x5 : Int32) (x6 : Int32) (C : St), F_X12_replies_54  fu x1 x2 x3 x5 x6 C = some (r, C2) → ∀ (ed : Nat → Nat) (H : Heap) (locs : List Loc) (ls : Array Slot), HW g ed Z C H → va_S (gP g) s.heap H locs → lv_has ls 7 [(0, .ref (gA g 50 0)), (1, .int x1), (2, .int x2), (3, .int x3), (5, .int x5), (6, .int x6)] → W p l e ({ frames := 2, cells := 0, slots := 0, locals := 43 } : Room) s m args below meth c H locs 0 0 (MQ below (QG (some (.int r)) g Z C2) args s 0 0 (gP g)) (F0 m 54 ls []) := by
  intro fu
  induction fu with
  | zero =>
    intro x1 x2 x3 x5 x6 C h
    cases h
  | succ fu ih =>
    intro x1 x2 x3 x5 x6 C h ed H locs ls hH hS hl
    rw [F_X12_replies_54] at h
    refine lv_iload hC.1 hC.2.1 dX12_replies_54 (lv_at hl 5 rfl) ?_
    refine lv_iload_n hC.1 hC.2.1 dX12_replies_56 rfl (lv_at hl 2 rfl) ?_
    refine lv_icmp_ge (tgt := 99) hC.1 hC.2.1 dX12_replies_57 (by decide) (fun hc1 => ?_) (fun hc1 => ?_)
    · rw [if_pos hc1] at h
      refine lv_aload_n hC.1 hC.2.1 dX12_replies_99 rfl (lv_at hl 0 rfl) ?_
      refine gf_RX12_32 hC hH rfl dX12_replies_100 ?_
      refine lv_iload_n hC.1 hC.2.1 dX12_replies_103 rfl (lv_at hl 1 rfl) ?_
      obtain ⟨hg2, h⟩ := gd_some h
      refine al_114 hC hH hg2 rfl dX12_replies_104 ?_
      refine lv_iconst (v := (2 : Int32)) hC.1 hC.2.1 dX12_replies_105 (by decide) ?_
      refine lv_icmp_ne (tgt := 119) hC.1 hC.2.1 dX12_replies_106 (by decide) (fun hc3 => ?_) (fun hc3 => ?_)
      · rw [if_neg hc3] at h
        exact B_X12_replies_119 hC hE hml hr hlk h hH hS (lv_sub hl [] rfl)
      · rw [if_pos hc3] at h
        refine lv_aload_n hC.1 hC.2.1 dX12_replies_109 rfl (lv_at hl 0 rfl) ?_
        refine gf_RX12_20 hC hH rfl dX12_replies_110 ?_
        refine lv_iload_n hC.1 hC.2.1 dX12_replies_113 rfl (lv_at hl 1 rfl) ?_
        obtain ⟨hg4, h⟩ := gd_some h
        refine al_110 hC hH hg4 rfl dX12_replies_114 ?_
        refine lv_iconst (v := (5 : Int32)) hC.1 hC.2.1 dX12_replies_115 (by decide) ?_
        refine lv_icmp_eq (tgt := 121) hC.1 hC.2.1 dX12_replies_116 (by decide) (fun hc5 => ?_) (fun hc5 => ?_)
        · rw [if_pos hc5] at h
          refine lv_aload_n hC.1 hC.2.1 dX12_replies_121 rfl (lv_at hl 0 rfl) ?_
          refine gf_RX12_47 hC hH rfl dX12_replies_122 ?_
          refine lv_iload_n hC.1 hC.2.1 dX12_replies_125 rfl (lv_at hl 1 rfl) ?_
          refine lv_iload_n hC.1 hC.2.1 dX12_replies_126 rfl (lv_at hl 3 rfl) ?_
          refine lv_if_eq (tgt := 136) hC.1 hC.2.1 dX12_replies_127 (by decide) (fun hc6 => ?_) (fun hc6 => ?_)
          · rw [if_pos hc6] at h
            refine lv_iload hC.1 hC.2.1 dX12_replies_136 (lv_at hl 4 rfl) ?_
            exact B_X12_replies_138 hC hE hml hr hlk h hH hS (lv_sub hl [0, 1] rfl)
          · rw [if_neg hc6] at h
            refine lv_iload hC.1 hC.2.1 dX12_replies_130 (lv_at hl 4 rfl) ?_
            refine lv_ineg hC.1 hC.2.1 dX12_replies_132 ?_
            refine lv_goto (tgt := 138) hC.1 hC.2.1 dX12_replies_133 (by decide) ?_
            exact B_X12_replies_138 hC hE hml hr hlk h hH hS (lv_sub hl [0, 1] rfl)
        · rw [if_neg hc5] at h
          exact B_X12_replies_119 hC hE hml hr hlk h hH hS (lv_sub hl [] rfl)
    · rw [if_neg hc1] at h
      refine lv_aload_n hC.1 hC.2.1 dX12_replies_60 rfl (lv_at hl 0 rfl) ?_
      refine gf_RX12_134 hC hH rfl dX12_replies_61 ?_
      refine lv_iload hC.1 hC.2.1 dX12_replies_64 (lv_at hl 5 rfl) ?_
      obtain ⟨hg7, h⟩ := gd_some h
      refine al_164 hC hH hg7 rfl dX12_replies_66 ?_
      obtain ⟨r8, D9, hF10, h⟩ := bd2_some h
      refine gcallS (As := [.int (C 164 0 0 x6.toNatClampNeg)]) (rest := []) hC hE hml hH hS (c_X12_isDigit hF10) ⟨wd_1489, wd_1490, wd_17, wd_1491⟩ hd_X12_isDigit rfl rfl ⟨Nat.le_of_ble_eq_true rfl, Nat.le_of_ble_eq_true rfl⟩ rfl hl.1 rfl (Nat.le_of_ble_eq_true rfl) dX12_replies_67 ⟨Nat.le_of_ble_eq_true rfl, Nat.le_of_ble_eq_true rfl⟩ (fun ed H locs hH hS => ?_)
      refine W.eq (g2 := F0 m 70 ls [.int r8]) rfl ?_
      refine lv_if_ne (tgt := 75) hC.1 hC.2.1 dX12_replies_70 (by decide) (fun hc11 => ?_) (fun hc11 => ?_)
      · rw [if_neg hc11] at h
        refine lv_bipush (v := (10 : Int32)) hC.1 hC.2.1 dX12_replies_75 (by decide) ?_
        refine lv_iload hC.1 hC.2.1 dX12_replies_77 (lv_at hl 4 rfl) ?_
        refine lv_imul hC.1 hC.2.1 dX12_replies_79 ?_
        refine lv_aload_n hC.1 hC.2.1 dX12_replies_80 rfl (lv_at hl 0 rfl) ?_
        refine gf_RX12_134 hC hH rfl dX12_replies_81 ?_
        refine lv_iload hC.1 hC.2.1 dX12_replies_84 (lv_at hl 5 rfl) ?_
        refine al_164 hC hH hg7 rfl dX12_replies_86 ?_
        refine lv_iadd hC.1 hC.2.1 dX12_replies_87 ?_
        refine lv_bipush (v := (48 : Int32)) hC.1 hC.2.1 dX12_replies_88 (by decide) ?_
        refine lv_isub hC.1 hC.2.1 dX12_replies_90 ?_
        refine lv_istore (lv' := [(5, .int ((((10 : Int32) * x5) + (D9 164 0 0 x6.toNatClampNeg)) - (48 : Int32))), (0, .ref (gA g 50 0)), (1, .int x1), (2, .int x2), (3, .int x3), (6, .int x6)]) hC.1 hC.2.1 dX12_replies_91 hl (by decide) rfl (fun ls hl => ?_)
        refine lv_iinc (v := x6 + 1) (lv' := [(6, .int (x6 + 1)), (5, .int ((((10 : Int32) * x5) + (D9 164 0 0 x6.toNatClampNeg)) - (48 : Int32))), (0, .ref (gA g 50 0)), (1, .int x1), (2, .int x2), (3, .int x3)]) hC.1 hC.2.1 dX12_replies_93 hl (k := 5) rfl rfl (by decide) rfl (fun ls hl => ?_)
        refine lv_goto (tgt := 54) hC.1 hC.2.1 dX12_replies_96 (by decide) ?_
        exact ih _ _ _ _ _ _ h _ _ _ _ hH hS (lv_sub hl [2, 3, 4, 5, 1, 0] rfl)
      · rw [if_pos hc11] at h
        refine lv_iconst (v := (0 : Int32)) hC.1 hC.2.1 dX12_replies_73 (by decide) ?_
        cases h
        exact gret_z hC hr hlk (by decide) hH hS (Nat.le_of_ble_eq_true rfl) (Nat.le_of_ble_eq_true rfl) dX12_replies_74
def F_X12_replies_26  (x1 : Int32) (x2 : Int32) (x3 : Int32) (t0 : Int32) (C : St) : Option (Int32 × St) := if (x2 - t0) < (1 : Int32) then (F_X12_replies_48  C) else (if (x2 - t0) ≤ (9 : Int32) then (F_X12_replies_54 1000 x1 x2 x3 (0 : Int32) t0 C) else (F_X12_replies_48  C))
set_option maxHeartbeats 4000000 in
set_option maxRecDepth 100000 in
theorem B_X12_replies_26 {p : Program} {l : Launch} {e : Env} {s : State} {m : MethodId} {args : Array Value} {below : List Frame} {meth : Method} {c : Code} {g : GP} {Z : St} (hC : CX p s m args c cX12_replies RX12 g) (hE : EZ g s s.heap) (hml : c.maxLocals = 7) (hr : meth.sig.returnType = (some .boolean)) (hlk : meth.locks = false) {r : Int32} {C2 : St} {x1 : Int32} {x2 : Int32} {x3 : Int32} {t0 : Int32} {C : St} (h : F_X12_replies_26  x1 x2 x3 t0 C = some (r, C2)) {ed : Nat → Nat} {H : Heap} {locs : List Loc} {ls : Array Slot} (hH : HW g ed Z C H) (hS : va_S (gP g) s.heap H locs) (hl : lv_has ls 7 [(0, .ref (gA g 50 0)), (1, .int x1), (2, .int x2), (3, .int x3)]) : W p l e ({ frames := 2, cells := 0, slots := 0, locals := 43 } : Room) s m args below meth c H locs 0 0 (MQ below (QG (some (.int r)) g Z C2) args s 0 0 (gP g)) (F0 m 26 ls [.int t0]) := by
  unfold F_X12_replies_26 at h
  refine lv_istore (lv' := [(4, .int t0), (0, .ref (gA g 50 0)), (1, .int x1), (2, .int x2), (3, .int x3)]) hC.1 hC.2.1 dX12_replies_26 hl (by decide) rfl (fun ls hl => ?_)
  refine lv_iconst (v := (0 : Int32)) hC.1 hC.2.1 dX12_replies_28 (by decide) ?_
  refine lv_istore (lv' := [(5, .int (0 : Int32)), (4, .int t0), (0, .ref (gA g 50 0)), (1, .int x1), (2, .int x2), (3, .int x3)]) hC.1 hC.2.1 dX12_replies_29 hl (by decide) rfl (fun ls hl => ?_)
  refine lv_iload_n hC.1 hC.2.1 dX12_replies_31 rfl (lv_at hl 4 rfl) ?_
  refine lv_iload hC.1 hC.2.1 dX12_replies_32 (lv_at hl 1 rfl) ?_
  refine lv_isub hC.1 hC.2.1 dX12_replies_34 ?_
  refine lv_iconst (v := (1 : Int32)) hC.1 hC.2.1 dX12_replies_35 (by decide) ?_
  refine lv_icmp_lt (tgt := 48) hC.1 hC.2.1 dX12_replies_36 (by decide) (fun hc1 => ?_) (fun hc1 => ?_)
  · rw [if_pos hc1] at h
    exact B_X12_replies_48 hC hE hml hr hlk h hH hS (lv_sub hl [] rfl)
  · rw [if_neg hc1] at h
    refine lv_iload_n hC.1 hC.2.1 dX12_replies_39 rfl (lv_at hl 4 rfl) ?_
    refine lv_iload hC.1 hC.2.1 dX12_replies_40 (lv_at hl 1 rfl) ?_
    refine lv_isub hC.1 hC.2.1 dX12_replies_42 ?_
    refine lv_bipush (v := (9 : Int32)) hC.1 hC.2.1 dX12_replies_43 (by decide) ?_
    refine lv_icmp_le (tgt := 50) hC.1 hC.2.1 dX12_replies_45 (by decide) (fun hc2 => ?_) (fun hc2 => ?_)
    · rw [if_pos hc2] at h
      refine lv_iload hC.1 hC.2.1 dX12_replies_50 (lv_at hl 1 rfl) ?_
      refine lv_istore (lv' := [(6, .int t0), (5, .int (0 : Int32)), (4, .int t0), (0, .ref (gA g 50 0)), (1, .int x1), (2, .int x2), (3, .int x3)]) hC.1 hC.2.1 dX12_replies_52 hl (by decide) rfl (fun ls hl => ?_)
      exact B_X12_replies_54 hC hE hml hr hlk 1000 _ _ _ _ _ _ h _ _ _ _ hH hS (lv_sub hl [3, 4, 5, 6, 1, 0] rfl)
    · rw [if_neg hc2] at h
      exact B_X12_replies_48 hC hE hml hr hlk h hH hS (lv_sub hl [] rfl)
def F_X12_replies_16  (x1 : Int32) (x2 : Int32) (t0 : Int32) (C : St) : Option (Int32 × St) := if t0 = 0 then (F_X12_replies_26 x1 x2 t0 (3 : Int32) C) else (F_X12_replies_26 x1 x2 t0 (4 : Int32) C)
set_option maxHeartbeats 4000000 in
set_option maxRecDepth 100000 in
theorem B_X12_replies_16 {p : Program} {l : Launch} {e : Env} {s : State} {m : MethodId} {args : Array Value} {below : List Frame} {meth : Method} {c : Code} {g : GP} {Z : St} (hC : CX p s m args c cX12_replies RX12 g) (hE : EZ g s s.heap) (hml : c.maxLocals = 7) (hr : meth.sig.returnType = (some .boolean)) (hlk : meth.locks = false) {r : Int32} {C2 : St} {x1 : Int32} {x2 : Int32} {t0 : Int32} {C : St} (h : F_X12_replies_16  x1 x2 t0 C = some (r, C2)) {ed : Nat → Nat} {H : Heap} {locs : List Loc} {ls : Array Slot} (hH : HW g ed Z C H) (hS : va_S (gP g) s.heap H locs) (hl : lv_has ls 7 [(0, .ref (gA g 50 0)), (1, .int x1), (2, .int x2)]) : W p l e ({ frames := 2, cells := 0, slots := 0, locals := 43 } : Room) s m args below meth c H locs 0 0 (MQ below (QG (some (.int r)) g Z C2) args s 0 0 (gP g)) (F0 m 16 ls [.int t0]) := by
  unfold F_X12_replies_16 at h
  refine lv_istore_n (i := 3) (lv' := [(3, .int t0), (0, .ref (gA g 50 0)), (1, .int x1), (2, .int x2)]) hC.1 hC.2.1 dX12_replies_16 rfl hl (by decide) rfl (fun ls hl => ?_)
  refine lv_iload_n hC.1 hC.2.1 dX12_replies_17 rfl (lv_at hl 0 rfl) ?_
  refine lv_if_eq (tgt := 25) hC.1 hC.2.1 dX12_replies_18 (by decide) (fun hc1 => ?_) (fun hc1 => ?_)
  · rw [if_pos hc1] at h
    refine lv_iconst (v := (3 : Int32)) hC.1 hC.2.1 dX12_replies_25 (by decide) ?_
    exact B_X12_replies_26 hC hE hml hr hlk h hH hS (lv_sub hl [1, 2, 3, 0] rfl)
  · rw [if_neg hc1] at h
    refine lv_iconst (v := (4 : Int32)) hC.1 hC.2.1 dX12_replies_21 (by decide) ?_
    refine lv_goto (tgt := 26) hC.1 hC.2.1 dX12_replies_22 (by decide) ?_
    exact B_X12_replies_26 hC hE hml hr hlk h hH hS (lv_sub hl [1, 2, 3, 0] rfl)
def F_X12_replies (x1 : Int32) (x2 : Int32) (C : St) : Option (Int32 × St) := gd (inb (3 : Int32) 160) (if (C 164 0 0 (3 : Int32).toNatClampNeg) = (45 : Int32) then (F_X12_replies_16 x1 x2 (1 : Int32) C) else (F_X12_replies_16 x1 x2 (0 : Int32) C))
set_option maxHeartbeats 4000000 in
set_option maxRecDepth 100000 in
theorem c_X12_replies {l : Launch} {g : GP} {ed : Nat → Nat} {Z : St} {x1 : Int32} {x2 : Int32} {C : St} {r : Int32} {C2 : St} (h : F_X12_replies x1 x2 C = some (r, C2)) : Met l yX12_replies (Cond.code yX12_replies cX12_replies 7 (some .boolean) :: lwG) ({ frames := 2, cells := 0, slots := 0, locals := 43 } : Room) (va_Pc [.ref (gA g 50 0), .int x1, .int x2] (PW g Z C ed)) (QG (some (.int r)) g Z C2) 0 0 (gP g) := by
  refine Met.ofW (cc := cX12_replies) (maxL := 7) (ret := (some .boolean)) (by decide +kernel) rfl ?_
  intro p e s m args below meth c s₁ B hml hv
  obtain ⟨ha, hC, hE, hr, hlk, hH⟩ := g_start B hv
  subst ha
  have hC : CX p s m ([.ref (gA g 50 0), .int x1, .int x2] : List Value).toArray c cX12_replies RX12 g := hC
  have hS : va_S (gP g) s.heap s.heap [] := va_S.rf
  obtain ⟨ls, he, hl⟩ := g_entry m (vs := [.ref (gA g 50 0), .int x1, .int x2]) (n := 7) (List.forall_mem_cons.mpr ⟨rfl, (List.forall_mem_cons.mpr ⟨rfl, (List.forall_mem_cons.mpr ⟨rfl, (fun _ h => absurd h List.not_mem_nil)⟩)⟩)⟩) (Nat.le_of_ble_eq_true rfl)
  rw [he]
  have hl : lv_has ls 7 [(0, .ref (gA g 50 0)), (1, .int x1), (2, .int x2)] := hl
  unfold F_X12_replies at h
  refine lv_aload_n hC.1 hC.2.1 dX12_replies_0 rfl (lv_at hl 0 rfl) ?_
  refine gf_RX12_134 hC hH rfl dX12_replies_1 ?_
  refine lv_iconst (v := (3 : Int32)) hC.1 hC.2.1 dX12_replies_4 (by decide) ?_
  obtain ⟨hg1, h⟩ := gd_some h
  refine al_164 hC hH hg1 rfl dX12_replies_5 ?_
  refine lv_bipush (v := (45 : Int32)) hC.1 hC.2.1 dX12_replies_6 (by decide) ?_
  refine lv_icmp_ne (tgt := 15) hC.1 hC.2.1 dX12_replies_8 (by decide) (fun hc2 => ?_) (fun hc2 => ?_)
  · rw [if_neg hc2] at h
    refine lv_iconst (v := (0 : Int32)) hC.1 hC.2.1 dX12_replies_15 (by decide) ?_
    exact B_X12_replies_16 hC hE hml hr hlk h hH hS (lv_sub hl [0, 1, 2] rfl)
  · rw [if_pos hc2] at h
    refine lv_iconst (v := (1 : Int32)) hC.1 hC.2.1 dX12_replies_11 (by decide) ?_
    refine lv_goto (tgt := 16) hC.1 hC.2.1 dX12_replies_12 (by decide) ?_
    exact B_X12_replies_16 hC hE hml hr hlk h hH hS (lv_sub hl [0, 1, 2] rfl)
def F_X12_obeys_36   (C : St) : Option (Int32 × St) := some ((0 : Int32), C)
set_option maxHeartbeats 4000000 in
set_option maxRecDepth 100000 in
theorem B_X12_obeys_36 {p : Program} {l : Launch} {e : Env} {s : State} {m : MethodId} {args : Array Value} {below : List Frame} {meth : Method} {c : Code} {g : GP} {Z : St} (hC : CX p s m args c cX12_obeys RX12 g) (hE : EZ g s s.heap) (hml : c.maxLocals = 3) (hr : meth.sig.returnType = (some .boolean)) (hlk : meth.locks = false) {r : Int32} {C2 : St}  {C : St} (h : F_X12_obeys_36   C = some (r, C2)) {ed : Nat → Nat} {H : Heap} {locs : List Loc} {ls : Array Slot} (hH : HW g ed Z C H) (hS : va_S (gP g) s.heap H locs) (hl : lv_has ls 3 []) : W p l e ({ frames := 3, cells := 0, slots := 0, locals := 69 } : Room) s m args below meth c H locs 0 0 (MQ below (QG (some (.int r)) g Z C2) args s 0 0 (gP g)) (F0 m 36 ls []) := by
  unfold F_X12_obeys_36 at h
  refine lv_iconst (v := (0 : Int32)) hC.1 hC.2.1 dX12_obeys_36 (by decide) ?_
  cases h
  exact gret_z hC hr hlk (by decide) hH hS (Nat.le_of_ble_eq_true rfl) (Nat.le_of_ble_eq_true rfl) dX12_obeys_37
def F_X12_obeys_123  (t0 : Int32) (C : St) : Option (Int32 × St) := gd (isb t0) (some (t0, C))
set_option maxHeartbeats 4000000 in
set_option maxRecDepth 100000 in
theorem B_X12_obeys_123 {p : Program} {l : Launch} {e : Env} {s : State} {m : MethodId} {args : Array Value} {below : List Frame} {meth : Method} {c : Code} {g : GP} {Z : St} (hC : CX p s m args c cX12_obeys RX12 g) (hE : EZ g s s.heap) (hml : c.maxLocals = 3) (hr : meth.sig.returnType = (some .boolean)) (hlk : meth.locks = false) {r : Int32} {C2 : St} {t0 : Int32} {C : St} (h : F_X12_obeys_123  t0 C = some (r, C2)) {ed : Nat → Nat} {H : Heap} {locs : List Loc} {ls : Array Slot} (hH : HW g ed Z C H) (hS : va_S (gP g) s.heap H locs) (hl : lv_has ls 3 []) : W p l e ({ frames := 3, cells := 0, slots := 0, locals := 69 } : Room) s m args below meth c H locs 0 0 (MQ below (QG (some (.int r)) g Z C2) args s 0 0 (gP g)) (F0 m 123 ls [.int t0]) := by
  unfold F_X12_obeys_123 at h
  obtain ⟨hg1, h⟩ := gd_some h
  cases h
  exact gret_z hC hr hlk hg1 hH hS (Nat.le_of_ble_eq_true rfl) (Nat.le_of_ble_eq_true rfl) dX12_obeys_123
def F_X12_obeys_122   (C : St) : Option (Int32 × St) := F_X12_obeys_123 (0 : Int32) C
set_option maxHeartbeats 4000000 in
set_option maxRecDepth 100000 in
theorem B_X12_obeys_122 {p : Program} {l : Launch} {e : Env} {s : State} {m : MethodId} {args : Array Value} {below : List Frame} {meth : Method} {c : Code} {g : GP} {Z : St} (hC : CX p s m args c cX12_obeys RX12 g) (hE : EZ g s s.heap) (hml : c.maxLocals = 3) (hr : meth.sig.returnType = (some .boolean)) (hlk : meth.locks = false) {r : Int32} {C2 : St}  {C : St} (h : F_X12_obeys_122   C = some (r, C2)) {ed : Nat → Nat} {H : Heap} {locs : List Loc} {ls : Array Slot} (hH : HW g ed Z C H) (hS : va_S (gP g) s.heap H locs) (hl : lv_has ls 3 []) : W p l e ({ frames := 3, cells := 0, slots := 0, locals := 69 } : Room) s m args below meth c H locs 0 0 (MQ below (QG (some (.int r)) g Z C2) args s 0 0 (gP g)) (F0 m 122 ls []) := by
  unfold F_X12_obeys_122 at h
  refine lv_iconst (v := (0 : Int32)) hC.1 hC.2.1 dX12_obeys_122 (by decide) ?_
  exact B_X12_obeys_123 hC hE hml hr hlk h hH hS (lv_sub hl [] rfl)
def F_X12_obeys_82  (x1 : Int32) (x2 : Int32) (C : St) : Option (Int32 × St) := gd (inb (0 : Int32) 160) (if (C 164 0 0 (0 : Int32).toNatClampNeg) = (82 : Int32) then (if x1 ≤ (3 : Int32) then (F_X12_obeys_122  C) else (gd (inb (2 : Int32) 160) (if (C 164 0 0 (2 : Int32).toNatClampNeg) = (32 : Int32) then (bd2 (F_X12_replies x2 x1 C) (fun r6 D7 => if r6 = 0 then (F_X12_obeys_122  D7) else (F_X12_obeys_123 (1 : Int32) D7))) else (F_X12_obeys_122  C)))) else (F_X12_obeys_122  C))
set_option maxHeartbeats 4000000 in
set_option maxRecDepth 100000 in
theorem B_X12_obeys_82 {p : Program} {l : Launch} {e : Env} {s : State} {m : MethodId} {args : Array Value} {below : List Frame} {meth : Method} {c : Code} {g : GP} {Z : St} (hC : CX p s m args c cX12_obeys RX12 g) (hE : EZ g s s.heap) (hml : c.maxLocals = 3) (hr : meth.sig.returnType = (some .boolean)) (hlk : meth.locks = false) {r : Int32} {C2 : St} {x1 : Int32} {x2 : Int32} {C : St} (h : F_X12_obeys_82  x1 x2 C = some (r, C2)) {ed : Nat → Nat} {H : Heap} {locs : List Loc} {ls : Array Slot} (hH : HW g ed Z C H) (hS : va_S (gP g) s.heap H locs) (hl : lv_has ls 3 [(0, .ref (gA g 50 0)), (1, .int x1), (2, .int x2)]) : W p l e ({ frames := 3, cells := 0, slots := 0, locals := 69 } : Room) s m args below meth c H locs 0 0 (MQ below (QG (some (.int r)) g Z C2) args s 0 0 (gP g)) (F0 m 82 ls []) := by
  unfold F_X12_obeys_82 at h
  refine lv_aload_n hC.1 hC.2.1 dX12_obeys_82 rfl (lv_at hl 0 rfl) ?_
  refine gf_RX12_134 hC hH rfl dX12_obeys_83 ?_
  refine lv_iconst (v := (0 : Int32)) hC.1 hC.2.1 dX12_obeys_86 (by decide) ?_
  obtain ⟨hg1, h⟩ := gd_some h
  refine al_164 hC hH hg1 rfl dX12_obeys_87 ?_
  refine lv_bipush (v := (82 : Int32)) hC.1 hC.2.1 dX12_obeys_88 (by decide) ?_
  refine lv_icmp_ne (tgt := 122) hC.1 hC.2.1 dX12_obeys_90 (by decide) (fun hc2 => ?_) (fun hc2 => ?_)
  · rw [if_neg hc2] at h
    exact B_X12_obeys_122 hC hE hml hr hlk h hH hS (lv_sub hl [] rfl)
  · rw [if_pos hc2] at h
    refine lv_iload_n hC.1 hC.2.1 dX12_obeys_93 rfl (lv_at hl 1 rfl) ?_
    refine lv_iconst (v := (3 : Int32)) hC.1 hC.2.1 dX12_obeys_94 (by decide) ?_
    refine lv_icmp_le (tgt := 122) hC.1 hC.2.1 dX12_obeys_95 (by decide) (fun hc3 => ?_) (fun hc3 => ?_)
    · rw [if_pos hc3] at h
      exact B_X12_obeys_122 hC hE hml hr hlk h hH hS (lv_sub hl [] rfl)
    · rw [if_neg hc3] at h
      refine lv_aload_n hC.1 hC.2.1 dX12_obeys_98 rfl (lv_at hl 0 rfl) ?_
      refine gf_RX12_134 hC hH rfl dX12_obeys_99 ?_
      refine lv_iconst (v := (2 : Int32)) hC.1 hC.2.1 dX12_obeys_102 (by decide) ?_
      obtain ⟨hg4, h⟩ := gd_some h
      refine al_164 hC hH hg4 rfl dX12_obeys_103 ?_
      refine lv_bipush (v := (32 : Int32)) hC.1 hC.2.1 dX12_obeys_104 (by decide) ?_
      refine lv_icmp_ne (tgt := 122) hC.1 hC.2.1 dX12_obeys_106 (by decide) (fun hc5 => ?_) (fun hc5 => ?_)
      · rw [if_neg hc5] at h
        exact B_X12_obeys_122 hC hE hml hr hlk h hH hS (lv_sub hl [] rfl)
      · rw [if_pos hc5] at h
        refine lv_aload_n hC.1 hC.2.1 dX12_obeys_109 rfl (lv_at hl 0 rfl) ?_
        refine lv_iload_n hC.1 hC.2.1 dX12_obeys_110 rfl (lv_at hl 2 rfl) ?_
        refine lv_iload_n hC.1 hC.2.1 dX12_obeys_111 rfl (lv_at hl 1 rfl) ?_
        obtain ⟨r6, D7, hF8, h⟩ := bd2_some h
        refine gcallV (As := [.int x2, .int x1]) (rest := []) (Cn := RX12) hC hE hml hH hS (c_X12_replies hF8) ⟨wd_1485, wd_1487, wp_67, wd_17, wd_1488⟩ hd_X12_replies rfl rfl ⟨Nat.le_of_ble_eq_true rfl, Nat.le_of_ble_eq_true rfl⟩ rfl (hw_recv (q := 50) (i := 0) hC hH ⟨Nat.zero_lt_one, fun h => absurd h (by decide)⟩ rfl rfl) rfl hl.1 rfl (Nat.le_of_ble_eq_true rfl) dX12_obeys_112 ⟨Nat.le_of_ble_eq_true rfl, Nat.le_of_ble_eq_true rfl⟩ (fun ed H locs hH hS => ?_)
        refine W.eq (g2 := F0 m 115 ls [.int r6]) rfl ?_
        refine lv_if_eq (tgt := 122) hC.1 hC.2.1 dX12_obeys_115 (by decide) (fun hc9 => ?_) (fun hc9 => ?_)
        · rw [if_pos hc9] at h
          exact B_X12_obeys_122 hC hE hml hr hlk h hH hS (lv_sub hl [] rfl)
        · rw [if_neg hc9] at h
          refine lv_iconst (v := (1 : Int32)) hC.1 hC.2.1 dX12_obeys_118 (by decide) ?_
          refine lv_goto (tgt := 123) hC.1 hC.2.1 dX12_obeys_119 (by decide) ?_
          exact B_X12_obeys_123 hC hE hml hr hlk h hH hS (lv_sub hl [] rfl)
def F_X12_obeys_60  (x1 : Int32) (x2 : Int32) (C : St) : Option (Int32 × St) := gd (inb (0 : Int32) 160) (if (C 164 0 0 (0 : Int32).toNatClampNeg) = (67 : Int32) then (if x1 = (2 : Int32) then (bd2 (F_X12_cancels x2 C) (fun r4 D5 => gd (isb r4) (some (r4, D5)))) else (F_X12_obeys_82 x1 x2 C)) else (F_X12_obeys_82 x1 x2 C))
set_option maxHeartbeats 4000000 in
set_option maxRecDepth 100000 in
theorem B_X12_obeys_60 {p : Program} {l : Launch} {e : Env} {s : State} {m : MethodId} {args : Array Value} {below : List Frame} {meth : Method} {c : Code} {g : GP} {Z : St} (hC : CX p s m args c cX12_obeys RX12 g) (hE : EZ g s s.heap) (hml : c.maxLocals = 3) (hr : meth.sig.returnType = (some .boolean)) (hlk : meth.locks = false) {r : Int32} {C2 : St} {x1 : Int32} {x2 : Int32} {C : St} (h : F_X12_obeys_60  x1 x2 C = some (r, C2)) {ed : Nat → Nat} {H : Heap} {locs : List Loc} {ls : Array Slot} (hH : HW g ed Z C H) (hS : va_S (gP g) s.heap H locs) (hl : lv_has ls 3 [(0, .ref (gA g 50 0)), (1, .int x1), (2, .int x2)]) : W p l e ({ frames := 3, cells := 0, slots := 0, locals := 69 } : Room) s m args below meth c H locs 0 0 (MQ below (QG (some (.int r)) g Z C2) args s 0 0 (gP g)) (F0 m 60 ls []) := by
  unfold F_X12_obeys_60 at h
  refine lv_aload_n hC.1 hC.2.1 dX12_obeys_60 rfl (lv_at hl 0 rfl) ?_
  refine gf_RX12_134 hC hH rfl dX12_obeys_61 ?_
  refine lv_iconst (v := (0 : Int32)) hC.1 hC.2.1 dX12_obeys_64 (by decide) ?_
  obtain ⟨hg1, h⟩ := gd_some h
  refine al_164 hC hH hg1 rfl dX12_obeys_65 ?_
  refine lv_bipush (v := (67 : Int32)) hC.1 hC.2.1 dX12_obeys_66 (by decide) ?_
  refine lv_icmp_ne (tgt := 82) hC.1 hC.2.1 dX12_obeys_68 (by decide) (fun hc2 => ?_) (fun hc2 => ?_)
  · rw [if_neg hc2] at h
    exact B_X12_obeys_82 hC hE hml hr hlk h hH hS (lv_sub hl [0, 1, 2] rfl)
  · rw [if_pos hc2] at h
    refine lv_iload_n hC.1 hC.2.1 dX12_obeys_71 rfl (lv_at hl 1 rfl) ?_
    refine lv_iconst (v := (2 : Int32)) hC.1 hC.2.1 dX12_obeys_72 (by decide) ?_
    refine lv_icmp_ne (tgt := 82) hC.1 hC.2.1 dX12_obeys_73 (by decide) (fun hc3 => ?_) (fun hc3 => ?_)
    · rw [if_neg hc3] at h
      exact B_X12_obeys_82 hC hE hml hr hlk h hH hS (lv_sub hl [0, 1, 2] rfl)
    · rw [if_pos hc3] at h
      refine lv_aload_n hC.1 hC.2.1 dX12_obeys_76 rfl (lv_at hl 0 rfl) ?_
      refine lv_iload_n hC.1 hC.2.1 dX12_obeys_77 rfl (lv_at hl 2 rfl) ?_
      obtain ⟨r4, D5, hF6, h⟩ := bd2_some h
      refine gcallV (As := [.int x2]) (rest := []) (Cn := RX12) hC hE hml hH hS (c_X12_cancels hF6) ⟨wd_1481, wd_1483, wp_66, wd_17, wd_1484⟩ hd_X12_cancels rfl rfl ⟨Nat.le_of_ble_eq_true rfl, Nat.le_of_ble_eq_true rfl⟩ rfl (hw_recv (q := 50) (i := 0) hC hH ⟨Nat.zero_lt_one, fun h => absurd h (by decide)⟩ rfl rfl) rfl hl.1 rfl (Nat.le_of_ble_eq_true rfl) dX12_obeys_78 ⟨Nat.le_of_ble_eq_true rfl, Nat.le_of_ble_eq_true rfl⟩ (fun ed H locs hH hS => ?_)
      refine W.eq (g2 := F0 m 81 ls [.int r4]) rfl ?_
      obtain ⟨hg7, h⟩ := gd_some h
      cases h
      exact gret_z hC hr hlk hg7 hH hS (Nat.le_of_ble_eq_true rfl) (Nat.le_of_ble_eq_true rfl) dX12_obeys_81
def F_X12_obeys_25  (x1 : Int32) (t0 : Int32) (C : St) : Option (Int32 × St) := if t0 < 0 then (F_X12_obeys_36  C) else (if t0 < (6 : Int32) then (gd (inb (0 : Int32) 160) (if (C 164 0 0 (0 : Int32).toNatClampNeg) = (65 : Int32) then (if x1 = (2 : Int32) then (bd2 (F_X12_admits t0 C) (fun r6 D7 => gd (isb r6) (some (r6, D7)))) else (F_X12_obeys_60 x1 t0 C)) else (F_X12_obeys_60 x1 t0 C))) else (F_X12_obeys_36  C))
set_option maxHeartbeats 4000000 in
set_option maxRecDepth 100000 in
theorem B_X12_obeys_25 {p : Program} {l : Launch} {e : Env} {s : State} {m : MethodId} {args : Array Value} {below : List Frame} {meth : Method} {c : Code} {g : GP} {Z : St} (hC : CX p s m args c cX12_obeys RX12 g) (hE : EZ g s s.heap) (hml : c.maxLocals = 3) (hr : meth.sig.returnType = (some .boolean)) (hlk : meth.locks = false) {r : Int32} {C2 : St} {x1 : Int32} {t0 : Int32} {C : St} (h : F_X12_obeys_25  x1 t0 C = some (r, C2)) {ed : Nat → Nat} {H : Heap} {locs : List Loc} {ls : Array Slot} (hH : HW g ed Z C H) (hS : va_S (gP g) s.heap H locs) (hl : lv_has ls 3 [(0, .ref (gA g 50 0)), (1, .int x1)]) : W p l e ({ frames := 3, cells := 0, slots := 0, locals := 69 } : Room) s m args below meth c H locs 0 0 (MQ below (QG (some (.int r)) g Z C2) args s 0 0 (gP g)) (F0 m 25 ls [.int t0]) := by
  unfold F_X12_obeys_25 at h
  refine lv_istore_n (i := 2) (lv' := [(2, .int t0), (0, .ref (gA g 50 0)), (1, .int x1)]) hC.1 hC.2.1 dX12_obeys_25 rfl hl (by decide) rfl (fun ls hl => ?_)
  refine lv_iload_n hC.1 hC.2.1 dX12_obeys_26 rfl (lv_at hl 0 rfl) ?_
  refine lv_if_lt (tgt := 36) hC.1 hC.2.1 dX12_obeys_27 (by decide) (fun hc1 => ?_) (fun hc1 => ?_)
  · rw [if_pos hc1] at h
    exact B_X12_obeys_36 hC hE hml hr hlk h hH hS (lv_sub hl [] rfl)
  · rw [if_neg hc1] at h
    refine lv_iload_n hC.1 hC.2.1 dX12_obeys_30 rfl (lv_at hl 0 rfl) ?_
    refine lv_bipush (v := (6 : Int32)) hC.1 hC.2.1 dX12_obeys_31 (by decide) ?_
    refine lv_icmp_lt (tgt := 38) hC.1 hC.2.1 dX12_obeys_33 (by decide) (fun hc2 => ?_) (fun hc2 => ?_)
    · rw [if_pos hc2] at h
      refine lv_aload_n hC.1 hC.2.1 dX12_obeys_38 rfl (lv_at hl 1 rfl) ?_
      refine gf_RX12_134 hC hH rfl dX12_obeys_39 ?_
      refine lv_iconst (v := (0 : Int32)) hC.1 hC.2.1 dX12_obeys_42 (by decide) ?_
      obtain ⟨hg3, h⟩ := gd_some h
      refine al_164 hC hH hg3 rfl dX12_obeys_43 ?_
      refine lv_bipush (v := (65 : Int32)) hC.1 hC.2.1 dX12_obeys_44 (by decide) ?_
      refine lv_icmp_ne (tgt := 60) hC.1 hC.2.1 dX12_obeys_46 (by decide) (fun hc4 => ?_) (fun hc4 => ?_)
      · rw [if_neg hc4] at h
        exact B_X12_obeys_60 hC hE hml hr hlk h hH hS (lv_sub hl [1, 2, 0] rfl)
      · rw [if_pos hc4] at h
        refine lv_iload_n hC.1 hC.2.1 dX12_obeys_49 rfl (lv_at hl 2 rfl) ?_
        refine lv_iconst (v := (2 : Int32)) hC.1 hC.2.1 dX12_obeys_50 (by decide) ?_
        refine lv_icmp_ne (tgt := 60) hC.1 hC.2.1 dX12_obeys_51 (by decide) (fun hc5 => ?_) (fun hc5 => ?_)
        · rw [if_neg hc5] at h
          exact B_X12_obeys_60 hC hE hml hr hlk h hH hS (lv_sub hl [1, 2, 0] rfl)
        · rw [if_pos hc5] at h
          refine lv_aload_n hC.1 hC.2.1 dX12_obeys_54 rfl (lv_at hl 1 rfl) ?_
          refine lv_iload_n hC.1 hC.2.1 dX12_obeys_55 rfl (lv_at hl 0 rfl) ?_
          obtain ⟨r6, D7, hF8, h⟩ := bd2_some h
          refine gcallV (As := [.int t0]) (rest := []) (Cn := RX12) hC hE hml hH hS (c_X12_admits hF8) ⟨wd_1473, wd_1475, wp_64, wd_17, wd_1476⟩ hd_X12_admits rfl rfl ⟨Nat.le_of_ble_eq_true rfl, Nat.le_of_ble_eq_true rfl⟩ rfl (hw_recv (q := 50) (i := 0) hC hH ⟨Nat.zero_lt_one, fun h => absurd h (by decide)⟩ rfl rfl) rfl hl.1 rfl (Nat.le_of_ble_eq_true rfl) dX12_obeys_56 ⟨Nat.le_of_ble_eq_true rfl, Nat.le_of_ble_eq_true rfl⟩ (fun ed H locs hH hS => ?_)
          refine W.eq (g2 := F0 m 59 ls [.int r6]) rfl ?_
          obtain ⟨hg9, h⟩ := gd_some h
          cases h
          exact gret_z hC hr hlk hg9 hH hS (Nat.le_of_ble_eq_true rfl) (Nat.le_of_ble_eq_true rfl) dX12_obeys_59
    · rw [if_neg hc2] at h
      exact B_X12_obeys_36 hC hE hml hr hlk h hH hS (lv_sub hl [] rfl)
def F_X12_obeys  (C : St) : Option (Int32 × St) := gd (inb (0 : Int32) 8) (if (2 : Int32) ≤ (C 165 0 0 (0 : Int32).toNatClampNeg) then (gd (inb (1 : Int32) 160) (F_X12_obeys_25 (C 165 0 0 (0 : Int32).toNatClampNeg) ((C 164 0 0 (1 : Int32).toNatClampNeg) - (48 : Int32)) C)) else (F_X12_obeys_25 (C 165 0 0 (0 : Int32).toNatClampNeg) (-1 : Int32) C))
set_option maxHeartbeats 4000000 in
set_option maxRecDepth 100000 in
theorem c_X12_obeys {l : Launch} {g : GP} {ed : Nat → Nat} {Z : St}  {C : St} {r : Int32} {C2 : St} (h : F_X12_obeys  C = some (r, C2)) : Met l yX12_obeys (Cond.code yX12_obeys cX12_obeys 3 (some .boolean) :: lwG) ({ frames := 3, cells := 0, slots := 0, locals := 69 } : Room) (va_Pc [.ref (gA g 50 0)] (PW g Z C ed)) (QG (some (.int r)) g Z C2) 0 0 (gP g) := by
  refine Met.ofW (cc := cX12_obeys) (maxL := 3) (ret := (some .boolean)) (by decide +kernel) rfl ?_
  intro p e s m args below meth c s₁ B hml hv
  obtain ⟨ha, hC, hE, hr, hlk, hH⟩ := g_start B hv
  subst ha
  have hC : CX p s m ([.ref (gA g 50 0)] : List Value).toArray c cX12_obeys RX12 g := hC
  have hS : va_S (gP g) s.heap s.heap [] := va_S.rf
  obtain ⟨ls, he, hl⟩ := g_entry m (vs := [.ref (gA g 50 0)]) (n := 3) (List.forall_mem_cons.mpr ⟨rfl, (fun _ h => absurd h List.not_mem_nil)⟩) (Nat.le_of_ble_eq_true rfl)
  rw [he]
  have hl : lv_has ls 3 [(0, .ref (gA g 50 0))] := hl
  unfold F_X12_obeys at h
  refine lv_aload_n hC.1 hC.2.1 dX12_obeys_0 rfl (lv_at hl 0 rfl) ?_
  refine gf_RX12_137 hC hH rfl dX12_obeys_1 ?_
  refine lv_iconst (v := (0 : Int32)) hC.1 hC.2.1 dX12_obeys_4 (by decide) ?_
  obtain ⟨hg1, h⟩ := gd_some h
  refine al_165 hC hH hg1 rfl dX12_obeys_5 ?_
  refine lv_istore_n (i := 1) (lv' := [(1, .int (C 165 0 0 (0 : Int32).toNatClampNeg)), (0, .ref (gA g 50 0))]) hC.1 hC.2.1 dX12_obeys_6 rfl hl (by decide) rfl (fun ls hl => ?_)
  refine lv_iload_n hC.1 hC.2.1 dX12_obeys_7 rfl (lv_at hl 0 rfl) ?_
  refine lv_iconst (v := (2 : Int32)) hC.1 hC.2.1 dX12_obeys_8 (by decide) ?_
  refine lv_icmp_ge (tgt := 16) hC.1 hC.2.1 dX12_obeys_9 (by decide) (fun hc2 => ?_) (fun hc2 => ?_)
  · rw [if_pos hc2] at h
    refine lv_aload_n hC.1 hC.2.1 dX12_obeys_16 rfl (lv_at hl 1 rfl) ?_
    refine gf_RX12_134 hC hH rfl dX12_obeys_17 ?_
    refine lv_iconst (v := (1 : Int32)) hC.1 hC.2.1 dX12_obeys_20 (by decide) ?_
    obtain ⟨hg3, h⟩ := gd_some h
    refine al_164 hC hH hg3 rfl dX12_obeys_21 ?_
    refine lv_bipush (v := (48 : Int32)) hC.1 hC.2.1 dX12_obeys_22 (by decide) ?_
    refine lv_isub hC.1 hC.2.1 dX12_obeys_24 ?_
    exact B_X12_obeys_25 hC hE hml hr hlk h hH hS (lv_sub hl [1, 0] rfl)
  · rw [if_neg hc2] at h
    refine lv_iconst (v := (-1 : Int32)) hC.1 hC.2.1 dX12_obeys_12 (by decide) ?_
    refine lv_goto (tgt := 25) hC.1 hC.2.1 dX12_obeys_13 (by decide) ?_
    exact B_X12_obeys_25 hC hE hml hr hlk h hH hS (lv_sub hl [1, 0] rfl)
def F_X12_consoleStep_45 (k21 : Int32 → St → Option (Int32 × St)) : Nat → Int32 → Int32 → St → Option (Int32 × St)
  | 0, _, _, _ => none
  | fu + 1, x1, x2, C => if (20 : Int32) ≤ x2 then (k21 (x1 + 1) C) else (gd (inb (((20 : Int32) * x1) + x2) 160) (gd (inb (((20 : Int32) * (x1 - (1 : Int32))) + x2) 160) (st (up C 164 0 0 (((20 : Int32) * (x1 - (1 : Int32))) + x2).toNatClampNeg (C 164 0 0 (((20 : Int32) * x1) + x2).toNatClampNeg)) (fun D4 => F_X12_consoleStep_45 k21 fu x1 (x2 + 1) D4))))
set_option maxHeartbeats 4000000 in
set_option maxRecDepth 100000 in
theorem B_X12_consoleStep_45 {p : Program} {l : Launch} {e : Env} {s : State} {m : MethodId} {args : Array Value} {below : List Frame} {meth : Method} {c : Code} {g : GP} {Z : St} (hC : CX p s m args c cX12_consoleStep RX12 g) (hE : EZ g s s.heap) (hml : c.maxLocals = 3) (hr : meth.sig.returnType = none) (hlk : meth.locks = false) {r : Int32} {C2 : St} {k21 : Int32 → St → Option (Int32 × St)} (hk21 : ∀ (x1 : Int32) (C : St), k21 x1 C = some (r, C2) → ∀ (ed : Nat → Nat) (H : Heap) (locs : List Loc) (ls : Array Slot), HW g ed Z C H → va_S (gP g) s.heap H locs → lv_has ls 3 [(0, .ref (gA g 50 0)), (1, .int x1)] → W p l e ({ frames := 4, cells := 0, slots := 0, locals := 91 } : Room) s m args below meth c H locs 0 0 (MQ below (QG none g Z C2) args s 0 0 (gP g)) (F0 m 21 ls [])) : ∀ (fu : Nat) (x1 : Int32) (x2 : Int32) (C : St), F_X12_consoleStep_45 k21 fu x1 x2 C = some (r, C2) → ∀ (ed : Nat → Nat) (H : Heap) (locs : List Loc) (ls : Array Slot), HW g ed Z C H → va_S (gP g) s.heap H locs → lv_has ls 3 [(0, .ref (gA g 50 0)), (1, .int x1), (2, .int x2)] → W p l e ({ frames := 4, cells := 0, slots := 0, locals := 91 } : Room) s m args below meth c H locs 0 0 (MQ below (QG none g Z C2) args s 0 0 (gP g)) (F0 m 45 ls []) := by
  intro fu
  induction fu with
  | zero =>
    intro x1 x2 C h
    cases h
  | succ fu ih =>
    intro x1 x2 C h ed H locs ls hH hS hl
    rw [F_X12_consoleStep_45] at h
    refine lv_iload_n hC.1 hC.2.1 dX12_consoleStep_45 rfl (lv_at hl 2 rfl) ?_
    refine lv_bipush (v := (20 : Int32)) hC.1 hC.2.1 dX12_consoleStep_46 (by decide) ?_
    refine lv_icmp_ge (tgt := 81) hC.1 hC.2.1 dX12_consoleStep_48 (by decide) (fun hc1 => ?_) (fun hc1 => ?_)
    · rw [if_pos hc1] at h
      refine lv_iinc (v := x1 + 1) (lv' := [(1, .int (x1 + 1)), (0, .ref (gA g 50 0)), (2, .int x2)]) hC.1 hC.2.1 dX12_consoleStep_81 hl (k := 1) rfl rfl (by decide) rfl (fun ls hl => ?_)
      refine lv_goto (tgt := 21) hC.1 hC.2.1 dX12_consoleStep_84 (by decide) ?_
      exact hk21 _ _ h _ _ _ _ hH hS (lv_sub hl [1, 0] rfl)
    · rw [if_neg hc1] at h
      refine lv_aload_n hC.1 hC.2.1 dX12_consoleStep_51 rfl (lv_at hl 0 rfl) ?_
      refine gf_RX12_134 hC hH rfl dX12_consoleStep_52 ?_
      refine lv_bipush (v := (20 : Int32)) hC.1 hC.2.1 dX12_consoleStep_55 (by decide) ?_
      refine lv_iload_n hC.1 hC.2.1 dX12_consoleStep_57 rfl (lv_at hl 1 rfl) ?_
      refine lv_iconst (v := (1 : Int32)) hC.1 hC.2.1 dX12_consoleStep_58 (by decide) ?_
      refine lv_isub hC.1 hC.2.1 dX12_consoleStep_59 ?_
      refine lv_imul hC.1 hC.2.1 dX12_consoleStep_60 ?_
      refine lv_iload_n hC.1 hC.2.1 dX12_consoleStep_61 rfl (lv_at hl 2 rfl) ?_
      refine lv_iadd hC.1 hC.2.1 dX12_consoleStep_62 ?_
      refine lv_aload_n hC.1 hC.2.1 dX12_consoleStep_63 rfl (lv_at hl 0 rfl) ?_
      refine gf_RX12_134 hC hH rfl dX12_consoleStep_64 ?_
      refine lv_bipush (v := (20 : Int32)) hC.1 hC.2.1 dX12_consoleStep_67 (by decide) ?_
      refine lv_iload_n hC.1 hC.2.1 dX12_consoleStep_69 rfl (lv_at hl 1 rfl) ?_
      refine lv_imul hC.1 hC.2.1 dX12_consoleStep_70 ?_
      refine lv_iload_n hC.1 hC.2.1 dX12_consoleStep_71 rfl (lv_at hl 2 rfl) ?_
      refine lv_iadd hC.1 hC.2.1 dX12_consoleStep_72 ?_
      obtain ⟨hg2, h⟩ := gd_some h
      refine al_164 hC hH hg2 rfl dX12_consoleStep_73 ?_
      obtain ⟨hg3, h⟩ := gd_some h
      obtain ⟨D4, e5, h⟩ := st_some h
      refine as_164 hC hH hS hg3 rfl dX12_consoleStep_74 (fun H locs hH hS => ?_)
      rw [← e5] at hH
      refine lv_iinc (v := x2 + 1) (lv' := [(2, .int (x2 + 1)), (0, .ref (gA g 50 0)), (1, .int x1)]) hC.1 hC.2.1 dX12_consoleStep_75 hl (k := 2) rfl rfl (by decide) rfl (fun ls hl => ?_)
      refine lv_goto (tgt := 45) hC.1 hC.2.1 dX12_consoleStep_78 (by decide) ?_
      exact ih _ _ _ h _ _ _ _ hH hS (lv_sub hl [1, 2, 0] rfl)
def F_X12_consoleStep_21  : Nat → Int32 → St → Option (Int32 × St)
  | 0, _, _ => none
  | fu + 1, x1, C => if (C 50 0 68 0) ≤ x1 then (st (up C 50 0 68 0 ((C 50 0 68 0) - (1 : Int32))) (fun D2 => bd2 (F_X12_waitFor (9 : Int32) (6 : Int32) (0 : Int32) D2) (fun r4 D5 => some (0, D5)))) else (gd (inb x1 8) (gd (inb (x1 - (1 : Int32)) 8) (st (up C 165 0 0 (x1 - (1 : Int32)).toNatClampNeg (C 165 0 0 x1.toNatClampNeg)) (fun D9 => F_X12_consoleStep_45 (F_X12_consoleStep_21 fu) 1000 x1 (0 : Int32) D9))))
set_option maxHeartbeats 4000000 in
set_option maxRecDepth 100000 in
theorem B_X12_consoleStep_21 {p : Program} {l : Launch} {e : Env} {s : State} {m : MethodId} {args : Array Value} {below : List Frame} {meth : Method} {c : Code} {g : GP} {Z : St} (hC : CX p s m args c cX12_consoleStep RX12 g) (hE : EZ g s s.heap) (hml : c.maxLocals = 3) (hr : meth.sig.returnType = none) (hlk : meth.locks = false) {r : Int32} {C2 : St} : ∀ (fu : Nat) (x1 : Int32) (C : St), F_X12_consoleStep_21  fu x1 C = some (r, C2) → ∀ (ed : Nat → Nat) (H : Heap) (locs : List Loc) (ls : Array Slot), HW g ed Z C H → va_S (gP g) s.heap H locs → lv_has ls 3 [(0, .ref (gA g 50 0)), (1, .int x1)] → W p l e ({ frames := 4, cells := 0, slots := 0, locals := 91 } : Room) s m args below meth c H locs 0 0 (MQ below (QG none g Z C2) args s 0 0 (gP g)) (F0 m 21 ls []) := by
  intro fu
  induction fu with
  | zero =>
    intro x1 C h
    cases h
  | succ fu ih =>
    intro x1 C h ed H locs ls hH hS hl
    rw [F_X12_consoleStep_21] at h
    refine lv_iload_n hC.1 hC.2.1 dX12_consoleStep_21 rfl (lv_at hl 1 rfl) ?_
    refine lv_aload_n hC.1 hC.2.1 dX12_consoleStep_22 rfl (lv_at hl 0 rfl) ?_
    refine gf_RX12_322 hC hH rfl dX12_consoleStep_23 ?_
    refine lv_icmp_ge (tgt := 87) hC.1 hC.2.1 dX12_consoleStep_26 (by decide) (fun hc1 => ?_) (fun hc1 => ?_)
    · rw [if_pos hc1] at h
      refine lv_aload_n hC.1 hC.2.1 dX12_consoleStep_87 rfl (lv_at hl 0 rfl) ?_
      refine lv_dup hC.1 hC.2.1 dX12_consoleStep_88 rfl ?_
      refine gf_RX12_322 hC hH rfl dX12_consoleStep_89 ?_
      refine lv_iconst (v := (1 : Int32)) hC.1 hC.2.1 dX12_consoleStep_92 (by decide) ?_
      refine lv_isub hC.1 hC.2.1 dX12_consoleStep_93 ?_
      obtain ⟨D2, e3, h⟩ := st_some h
      refine pf_RX12_322 hC hH hS  rfl dX12_consoleStep_94 (fun H locs hH hS => ?_)
      rw [← e3] at hH
      refine lv_aload_n hC.1 hC.2.1 dX12_consoleStep_97 rfl (lv_at hl 0 rfl) ?_
      refine lv_bipush (v := (9 : Int32)) hC.1 hC.2.1 dX12_consoleStep_98 (by decide) ?_
      refine lv_bipush (v := (6 : Int32)) hC.1 hC.2.1 dX12_consoleStep_100 (by decide) ?_
      refine lv_iconst (v := (0 : Int32)) hC.1 hC.2.1 dX12_consoleStep_102 (by decide) ?_
      obtain ⟨r4, D5, hF6, h⟩ := bd2_some h
      refine gcallV (As := [.int (9 : Int32), .int (6 : Int32), .int (0 : Int32)]) (rest := []) (Cn := RX12) hC hE hml hH hS (c_X12_waitFor hF6) ⟨wd_1453, wd_1455, wp_59, wd_17, wd_1456⟩ hd_X12_waitFor rfl rfl ⟨Nat.le_of_ble_eq_true rfl, Nat.le_of_ble_eq_true rfl⟩ rfl (hw_recv (q := 50) (i := 0) hC hH ⟨Nat.zero_lt_one, fun h => absurd h (by decide)⟩ rfl rfl) rfl hl.1 rfl (Nat.le_of_ble_eq_true rfl) dX12_consoleStep_103 ⟨Nat.le_of_ble_eq_true rfl, Nat.le_of_ble_eq_true rfl⟩ (fun ed H locs hH hS => ?_)
      refine W.eq (g2 := F0 m 106 ls []) rfl ?_
      cases h
      exact gret_v hC hr hlk hH hS (Nat.le_of_ble_eq_true rfl) (Nat.le_of_ble_eq_true rfl) dX12_consoleStep_106
    · rw [if_neg hc1] at h
      refine lv_aload_n hC.1 hC.2.1 dX12_consoleStep_29 rfl (lv_at hl 0 rfl) ?_
      refine gf_RX12_137 hC hH rfl dX12_consoleStep_30 ?_
      refine lv_iload_n hC.1 hC.2.1 dX12_consoleStep_33 rfl (lv_at hl 1 rfl) ?_
      refine lv_iconst (v := (1 : Int32)) hC.1 hC.2.1 dX12_consoleStep_34 (by decide) ?_
      refine lv_isub hC.1 hC.2.1 dX12_consoleStep_35 ?_
      refine lv_aload_n hC.1 hC.2.1 dX12_consoleStep_36 rfl (lv_at hl 0 rfl) ?_
      refine gf_RX12_137 hC hH rfl dX12_consoleStep_37 ?_
      refine lv_iload_n hC.1 hC.2.1 dX12_consoleStep_40 rfl (lv_at hl 1 rfl) ?_
      obtain ⟨hg7, h⟩ := gd_some h
      refine al_165 hC hH hg7 rfl dX12_consoleStep_41 ?_
      obtain ⟨hg8, h⟩ := gd_some h
      obtain ⟨D9, e10, h⟩ := st_some h
      refine as_165 hC hH hS hg8 rfl dX12_consoleStep_42 (fun H locs hH hS => ?_)
      rw [← e10] at hH
      refine lv_iconst (v := (0 : Int32)) hC.1 hC.2.1 dX12_consoleStep_43 (by decide) ?_
      refine lv_istore_n (i := 2) (lv' := [(2, .int (0 : Int32)), (0, .ref (gA g 50 0)), (1, .int x1)]) hC.1 hC.2.1 dX12_consoleStep_44 rfl hl (by decide) rfl (fun ls hl => ?_)
      exact B_X12_consoleStep_45 hC hE hml hr hlk ih 1000 _ _ _ h _ _ _ _ hH hS (lv_sub hl [1, 2, 0] rfl)
def F_X12_consoleStep_19   (C : St) : Option (Int32 × St) := F_X12_consoleStep_21 1000 (1 : Int32) C
set_option maxHeartbeats 4000000 in
set_option maxRecDepth 100000 in
theorem B_X12_consoleStep_19 {p : Program} {l : Launch} {e : Env} {s : State} {m : MethodId} {args : Array Value} {below : List Frame} {meth : Method} {c : Code} {g : GP} {Z : St} (hC : CX p s m args c cX12_consoleStep RX12 g) (hE : EZ g s s.heap) (hml : c.maxLocals = 3) (hr : meth.sig.returnType = none) (hlk : meth.locks = false) {r : Int32} {C2 : St}  {C : St} (h : F_X12_consoleStep_19   C = some (r, C2)) {ed : Nat → Nat} {H : Heap} {locs : List Loc} {ls : Array Slot} (hH : HW g ed Z C H) (hS : va_S (gP g) s.heap H locs) (hl : lv_has ls 3 [(0, .ref (gA g 50 0))]) : W p l e ({ frames := 4, cells := 0, slots := 0, locals := 91 } : Room) s m args below meth c H locs 0 0 (MQ below (QG none g Z C2) args s 0 0 (gP g)) (F0 m 19 ls []) := by
  unfold F_X12_consoleStep_19 at h
  refine lv_iconst (v := (1 : Int32)) hC.1 hC.2.1 dX12_consoleStep_19 (by decide) ?_
  refine lv_istore_n (i := 1) (lv' := [(1, .int (1 : Int32)), (0, .ref (gA g 50 0))]) hC.1 hC.2.1 dX12_consoleStep_20 rfl hl (by decide) rfl (fun ls hl => ?_)
  exact B_X12_consoleStep_21 hC hE hml hr hlk 1000 _ _ h _ _ _ _ hH hS (lv_sub hl [1, 0] rfl)
def F_X12_consoleStep  (C : St) : Option (Int32 × St) := bd2 (F_X12_obeys  C) (fun r1 D2 => if r1 = 0 then (bd2 (F_X12_say (63 : Int32) D2) (fun r5 D6 => bd2 (F_X12_say (10 : Int32) D6) (fun r8 D9 => F_X12_consoleStep_19  D9))) else (F_X12_consoleStep_19  D2))
set_option maxHeartbeats 4000000 in
set_option maxRecDepth 100000 in
theorem c_X12_consoleStep {l : Launch} {g : GP} {ed : Nat → Nat} {Z : St}  {C : St} {r : Int32} {C2 : St} (h : F_X12_consoleStep  C = some (r, C2)) : Met l yX12_consoleStep (Cond.code yX12_consoleStep cX12_consoleStep 3 none :: lwG) ({ frames := 4, cells := 0, slots := 0, locals := 91 } : Room) (va_Pc [.ref (gA g 50 0)] (PW g Z C ed)) (QG none g Z C2) 0 0 (gP g) := by
  refine Met.ofW (cc := cX12_consoleStep) (maxL := 3) (ret := none) (by decide +kernel) rfl ?_
  intro p e s m args below meth c s₁ B hml hv
  obtain ⟨ha, hC, hE, hr, hlk, hH⟩ := g_start B hv
  subst ha
  have hC : CX p s m ([.ref (gA g 50 0)] : List Value).toArray c cX12_consoleStep RX12 g := hC
  have hS : va_S (gP g) s.heap s.heap [] := va_S.rf
  obtain ⟨ls, he, hl⟩ := g_entry m (vs := [.ref (gA g 50 0)]) (n := 3) (List.forall_mem_cons.mpr ⟨rfl, (fun _ h => absurd h List.not_mem_nil)⟩) (Nat.le_of_ble_eq_true rfl)
  rw [he]
  have hl : lv_has ls 3 [(0, .ref (gA g 50 0))] := hl
  unfold F_X12_consoleStep at h
  refine lv_aload_n hC.1 hC.2.1 dX12_consoleStep_0 rfl (lv_at hl 0 rfl) ?_
  obtain ⟨r1, D2, hF3, h⟩ := bd2_some h
  refine gcallV (As := []) (rest := []) (Cn := RX12) hC hE hml hH hS (c_X12_obeys hF3) ⟨wd_1469, wd_1471, wp_63, wd_17, wd_1472⟩ hd_X12_obeys rfl rfl ⟨Nat.le_of_ble_eq_true rfl, Nat.le_of_ble_eq_true rfl⟩ rfl (hw_recv (q := 50) (i := 0) hC hH ⟨Nat.zero_lt_one, fun h => absurd h (by decide)⟩ rfl rfl) rfl hl.1 rfl (Nat.le_of_ble_eq_true rfl) dX12_consoleStep_1 ⟨Nat.le_of_ble_eq_true rfl, Nat.le_of_ble_eq_true rfl⟩ (fun ed H locs hH hS => ?_)
  refine W.eq (g2 := F0 m 4 ls [.int r1]) rfl ?_
  refine lv_if_ne (tgt := 19) hC.1 hC.2.1 dX12_consoleStep_4 (by decide) (fun hc4 => ?_) (fun hc4 => ?_)
  · rw [if_neg hc4] at h
    exact B_X12_consoleStep_19 hC hE hml hr hlk h hH hS (lv_sub hl [0] rfl)
  · rw [if_pos hc4] at h
    refine lv_aload_n hC.1 hC.2.1 dX12_consoleStep_7 rfl (lv_at hl 0 rfl) ?_
    refine lv_bipush (v := (63 : Int32)) hC.1 hC.2.1 dX12_consoleStep_8 (by decide) ?_
    obtain ⟨r5, D6, hF7, h⟩ := bd2_some h
    refine gcallV (As := [.int (63 : Int32)]) (rest := []) (Cn := RX12) hC hE hml hH hS (c_X12_say hF7) ⟨wd_1364, wd_1366, wp_37, wd_17, wd_1367⟩ hd_X12_say rfl rfl ⟨Nat.le_of_ble_eq_true rfl, Nat.le_of_ble_eq_true rfl⟩ rfl (hw_recv (q := 50) (i := 0) hC hH ⟨Nat.zero_lt_one, fun h => absurd h (by decide)⟩ rfl rfl) rfl hl.1 rfl (Nat.le_of_ble_eq_true rfl) dX12_consoleStep_10 ⟨Nat.le_of_ble_eq_true rfl, Nat.le_of_ble_eq_true rfl⟩ (fun ed H locs hH hS => ?_)
    refine W.eq (g2 := F0 m 13 ls []) rfl ?_
    refine lv_aload_n hC.1 hC.2.1 dX12_consoleStep_13 rfl (lv_at hl 0 rfl) ?_
    refine lv_bipush (v := (10 : Int32)) hC.1 hC.2.1 dX12_consoleStep_14 (by decide) ?_
    obtain ⟨r8, D9, hF10, h⟩ := bd2_some h
    refine gcallV (As := [.int (10 : Int32)]) (rest := []) (Cn := RX12) hC hE hml hH hS (c_X12_say hF10) ⟨wd_1364, wd_1366, wp_37, wd_17, wd_1367⟩ hd_X12_say rfl rfl ⟨Nat.le_of_ble_eq_true rfl, Nat.le_of_ble_eq_true rfl⟩ rfl (hw_recv (q := 50) (i := 0) hC hH ⟨Nat.zero_lt_one, fun h => absurd h (by decide)⟩ rfl rfl) rfl hl.1 rfl (Nat.le_of_ble_eq_true rfl) dX12_consoleStep_16 ⟨Nat.le_of_ble_eq_true rfl, Nat.le_of_ble_eq_true rfl⟩ (fun ed H locs hH hS => ?_)
    refine W.eq (g2 := F0 m 19 ls []) rfl ?_
    exact B_X12_consoleStep_19 hC hE hml hr hlk h hH hS (lv_sub hl [0] rfl)
def F_X12_oneTick_130  : Nat → Int32 → Int32 → St → Option (Int32 × St)
  | 0, _, _, _ => none
  | fu + 1, x1, x3, C => if (C 50 0 6 0) ≤ x3 then (st (up C 50 0 6 0 ((C 50 0 6 0) - (1 : Int32))) (fun D2 => gd (inb x1 10) (if (D2 109 0 0 x1.toNatClampNeg) = 0 then (gd (inb (D2 50 0 6 0) 10) (st (up D2 108 0 0 (D2 50 0 6 0).toNatClampNeg x1) (fun D7 => st (up D7 50 0 6 0 ((D7 50 0 6 0) + (1 : Int32))) (fun D9 => some (0, D9))))) else (some (0, D2))))) else (gd (inb x3 10) (gd (inb (x3 - (1 : Int32)) 10) (st (up C 108 0 0 (x3 - (1 : Int32)).toNatClampNeg (C 108 0 0 x3.toNatClampNeg)) (fun D13 => F_X12_oneTick_130 fu x1 (x3 + 1) D13))))
set_option maxHeartbeats 4000000 in
set_option maxRecDepth 100000 in
theorem B_X12_oneTick_130 {p : Program} {l : Launch} {e : Env} {s : State} {m : MethodId} {args : Array Value} {below : List Frame} {meth : Method} {c : Code} {g : GP} {Z : St} (hC : CX p s m args c cX12_oneTick RX12 g) (hE : EZ g s s.heap) (hml : c.maxLocals = 4) (hr : meth.sig.returnType = none) (hlk : meth.locks = false) {r : Int32} {C2 : St} : ∀ (fu : Nat) (x1 : Int32) (x3 : Int32) (C : St), F_X12_oneTick_130  fu x1 x3 C = some (r, C2) → ∀ (ed : Nat → Nat) (H : Heap) (locs : List Loc) (ls : Array Slot), HW g ed Z C H → va_S (gP g) s.heap H locs → lv_has ls 4 [(0, .ref (gA g 50 0)), (1, .int x1), (3, .int x3)] → W p l e ({ frames := 9, cells := 0, slots := 0, locals := 211 } : Room) s m args below meth c H locs 0 0 (MQ below (QG none g Z C2) args s 0 0 (gP g)) (F0 m 130 ls []) := by
  intro fu
  induction fu with
  | zero =>
    intro x1 x3 C h
    cases h
  | succ fu ih =>
    intro x1 x3 C h ed H locs ls hH hS hl
    rw [F_X12_oneTick_130] at h
    refine lv_iload_n hC.1 hC.2.1 dX12_oneTick_130 rfl (lv_at hl 2 rfl) ?_
    refine lv_aload_n hC.1 hC.2.1 dX12_oneTick_131 rfl (lv_at hl 0 rfl) ?_
    refine gf_RX12_160 hC hH rfl dX12_oneTick_132 ?_
    refine lv_icmp_ge (tgt := 158) hC.1 hC.2.1 dX12_oneTick_135 (by decide) (fun hc1 => ?_) (fun hc1 => ?_)
    · rw [if_pos hc1] at h
      refine lv_aload_n hC.1 hC.2.1 dX12_oneTick_158 rfl (lv_at hl 0 rfl) ?_
      refine lv_dup hC.1 hC.2.1 dX12_oneTick_159 rfl ?_
      refine gf_RX12_160 hC hH rfl dX12_oneTick_160 ?_
      refine lv_iconst (v := (1 : Int32)) hC.1 hC.2.1 dX12_oneTick_163 (by decide) ?_
      refine lv_isub hC.1 hC.2.1 dX12_oneTick_164 ?_
      obtain ⟨D2, e3, h⟩ := st_some h
      refine pf_RX12_160 hC hH hS  rfl dX12_oneTick_165 (fun H locs hH hS => ?_)
      rw [← e3] at hH
      refine lv_aload_n hC.1 hC.2.1 dX12_oneTick_168 rfl (lv_at hl 0 rfl) ?_
      refine gf_RX12_16 hC hH rfl dX12_oneTick_169 ?_
      refine lv_iload_n hC.1 hC.2.1 dX12_oneTick_172 rfl (lv_at hl 1 rfl) ?_
      obtain ⟨hg4, h⟩ := gd_some h
      refine al_109 hC hH hg4 rfl dX12_oneTick_173 ?_
      refine lv_if_eq (tgt := 178) hC.1 hC.2.1 dX12_oneTick_174 (by decide) (fun hc5 => ?_) (fun hc5 => ?_)
      · rw [if_pos hc5] at h
        refine lv_aload_n hC.1 hC.2.1 dX12_oneTick_178 rfl (lv_at hl 0 rfl) ?_
        refine gf_RX12_13 hC hH rfl dX12_oneTick_179 ?_
        refine lv_aload_n hC.1 hC.2.1 dX12_oneTick_182 rfl (lv_at hl 0 rfl) ?_
        refine gf_RX12_160 hC hH rfl dX12_oneTick_183 ?_
        refine lv_iload_n hC.1 hC.2.1 dX12_oneTick_186 rfl (lv_at hl 1 rfl) ?_
        obtain ⟨hg6, h⟩ := gd_some h
        obtain ⟨D7, e8, h⟩ := st_some h
        refine as_108 hC hH hS hg6 rfl dX12_oneTick_187 (fun H locs hH hS => ?_)
        rw [← e8] at hH
        refine lv_aload_n hC.1 hC.2.1 dX12_oneTick_188 rfl (lv_at hl 0 rfl) ?_
        refine lv_dup hC.1 hC.2.1 dX12_oneTick_189 rfl ?_
        refine gf_RX12_160 hC hH rfl dX12_oneTick_190 ?_
        refine lv_iconst (v := (1 : Int32)) hC.1 hC.2.1 dX12_oneTick_193 (by decide) ?_
        refine lv_iadd hC.1 hC.2.1 dX12_oneTick_194 ?_
        obtain ⟨D9, e10, h⟩ := st_some h
        refine pf_RX12_160 hC hH hS  rfl dX12_oneTick_195 (fun H locs hH hS => ?_)
        rw [← e10] at hH
        cases h
        exact gret_v hC hr hlk hH hS (Nat.le_of_ble_eq_true rfl) (Nat.le_of_ble_eq_true rfl) dX12_oneTick_198
      · rw [if_neg hc5] at h
        cases h
        exact gret_v hC hr hlk hH hS (Nat.le_of_ble_eq_true rfl) (Nat.le_of_ble_eq_true rfl) dX12_oneTick_177
    · rw [if_neg hc1] at h
      refine lv_aload_n hC.1 hC.2.1 dX12_oneTick_138 rfl (lv_at hl 0 rfl) ?_
      refine gf_RX12_13 hC hH rfl dX12_oneTick_139 ?_
      refine lv_iload_n hC.1 hC.2.1 dX12_oneTick_142 rfl (lv_at hl 2 rfl) ?_
      refine lv_iconst (v := (1 : Int32)) hC.1 hC.2.1 dX12_oneTick_143 (by decide) ?_
      refine lv_isub hC.1 hC.2.1 dX12_oneTick_144 ?_
      refine lv_aload_n hC.1 hC.2.1 dX12_oneTick_145 rfl (lv_at hl 0 rfl) ?_
      refine gf_RX12_13 hC hH rfl dX12_oneTick_146 ?_
      refine lv_iload_n hC.1 hC.2.1 dX12_oneTick_149 rfl (lv_at hl 2 rfl) ?_
      obtain ⟨hg11, h⟩ := gd_some h
      refine al_108 hC hH hg11 rfl dX12_oneTick_150 ?_
      obtain ⟨hg12, h⟩ := gd_some h
      obtain ⟨D13, e14, h⟩ := st_some h
      refine as_108 hC hH hS hg12 rfl dX12_oneTick_151 (fun H locs hH hS => ?_)
      rw [← e14] at hH
      refine lv_iinc (v := x3 + 1) (lv' := [(3, .int (x3 + 1)), (0, .ref (gA g 50 0)), (1, .int x1)]) hC.1 hC.2.1 dX12_oneTick_152 hl (k := 2) rfl rfl (by decide) rfl (fun ls hl => ?_)
      refine lv_goto (tgt := 130) hC.1 hC.2.1 dX12_oneTick_155 (by decide) ?_
      exact ih _ _ _ h _ _ _ _ hH hS (lv_sub hl [1, 2, 0] rfl)
def F_X12_oneTick_117  (x1 : Int32) (t0 : Int32) (C : St) : Option (Int32 × St) := if t0 = 0 then (some (0, C)) else (st (up C 50 0 7 0 (0 : Int32)) (fun D2 => F_X12_oneTick_130 1000 x1 (1 : Int32) D2))
set_option maxHeartbeats 4000000 in
set_option maxRecDepth 100000 in
theorem B_X12_oneTick_117 {p : Program} {l : Launch} {e : Env} {s : State} {m : MethodId} {args : Array Value} {below : List Frame} {meth : Method} {c : Code} {g : GP} {Z : St} (hC : CX p s m args c cX12_oneTick RX12 g) (hE : EZ g s s.heap) (hml : c.maxLocals = 4) (hr : meth.sig.returnType = none) (hlk : meth.locks = false) {r : Int32} {C2 : St} {x1 : Int32} {t0 : Int32} {C : St} (h : F_X12_oneTick_117  x1 t0 C = some (r, C2)) {ed : Nat → Nat} {H : Heap} {locs : List Loc} {ls : Array Slot} (hH : HW g ed Z C H) (hS : va_S (gP g) s.heap H locs) (hl : lv_has ls 4 [(0, .ref (gA g 50 0)), (1, .int x1)]) : W p l e ({ frames := 9, cells := 0, slots := 0, locals := 211 } : Room) s m args below meth c H locs 0 0 (MQ below (QG none g Z C2) args s 0 0 (gP g)) (F0 m 117 ls [.int t0]) := by
  unfold F_X12_oneTick_117 at h
  refine lv_istore_n (i := 2) (lv' := [(2, .int t0), (0, .ref (gA g 50 0)), (1, .int x1)]) hC.1 hC.2.1 dX12_oneTick_117 rfl hl (by decide) rfl (fun ls hl => ?_)
  refine lv_iload_n hC.1 hC.2.1 dX12_oneTick_118 rfl (lv_at hl 0 rfl) ?_
  refine lv_if_ne (tgt := 123) hC.1 hC.2.1 dX12_oneTick_119 (by decide) (fun hc1 => ?_) (fun hc1 => ?_)
  · rw [if_neg hc1] at h
    refine lv_aload_n hC.1 hC.2.1 dX12_oneTick_123 rfl (lv_at hl 1 rfl) ?_
    refine lv_iconst (v := (0 : Int32)) hC.1 hC.2.1 dX12_oneTick_124 (by decide) ?_
    obtain ⟨D2, e3, h⟩ := st_some h
    refine pf_RX12_185 hC hH hS  rfl dX12_oneTick_125 (fun H locs hH hS => ?_)
    rw [← e3] at hH
    refine lv_iconst (v := (1 : Int32)) hC.1 hC.2.1 dX12_oneTick_128 (by decide) ?_
    refine lv_istore_n (i := 3) (lv' := [(3, .int (1 : Int32)), (2, .int t0), (0, .ref (gA g 50 0)), (1, .int x1)]) hC.1 hC.2.1 dX12_oneTick_129 rfl hl (by decide) rfl (fun ls hl => ?_)
    exact B_X12_oneTick_130 hC hE hml hr hlk 1000 _ _ _ h _ _ _ _ hH hS (lv_sub hl [2, 3, 0] rfl)
  · rw [if_pos hc1] at h
    cases h
    exact gret_v hC hr hlk hH hS (Nat.le_of_ble_eq_true rfl) (Nat.le_of_ble_eq_true rfl) dX12_oneTick_122
def F_X12_oneTick_112  (x1 : Int32) (C : St) : Option (Int32 × St) := F_X12_oneTick_117 x1 (1 : Int32) C
set_option maxHeartbeats 4000000 in
set_option maxRecDepth 100000 in
theorem B_X12_oneTick_112 {p : Program} {l : Launch} {e : Env} {s : State} {m : MethodId} {args : Array Value} {below : List Frame} {meth : Method} {c : Code} {g : GP} {Z : St} (hC : CX p s m args c cX12_oneTick RX12 g) (hE : EZ g s s.heap) (hml : c.maxLocals = 4) (hr : meth.sig.returnType = none) (hlk : meth.locks = false) {r : Int32} {C2 : St} {x1 : Int32} {C : St} (h : F_X12_oneTick_112  x1 C = some (r, C2)) {ed : Nat → Nat} {H : Heap} {locs : List Loc} {ls : Array Slot} (hH : HW g ed Z C H) (hS : va_S (gP g) s.heap H locs) (hl : lv_has ls 4 [(0, .ref (gA g 50 0)), (1, .int x1)]) : W p l e ({ frames := 9, cells := 0, slots := 0, locals := 211 } : Room) s m args below meth c H locs 0 0 (MQ below (QG none g Z C2) args s 0 0 (gP g)) (F0 m 112 ls []) := by
  unfold F_X12_oneTick_112 at h
  refine lv_iconst (v := (1 : Int32)) hC.1 hC.2.1 dX12_oneTick_112 (by decide) ?_
  refine lv_goto (tgt := 117) hC.1 hC.2.1 dX12_oneTick_113 (by decide) ?_
  exact B_X12_oneTick_117 hC hE hml hr hlk h hH hS (lv_sub hl [0, 1] rfl)
def F_X12_oneTick_82  (x1 : Int32) (C : St) : Option (Int32 × St) := st (up C 50 0 7 0 ((C 50 0 7 0) + (1 : Int32))) (fun D1 => gd (inb x1 10) (if (D1 109 0 0 x1.toNatClampNeg) = 0 then (if (D1 50 0 7 0) = (D1 50 0 2 0) then (F_X12_oneTick_112 x1 D1) else (F_X12_oneTick_117 x1 (0 : Int32) D1)) else (F_X12_oneTick_112 x1 D1)))
set_option maxHeartbeats 4000000 in
set_option maxRecDepth 100000 in
theorem B_X12_oneTick_82 {p : Program} {l : Launch} {e : Env} {s : State} {m : MethodId} {args : Array Value} {below : List Frame} {meth : Method} {c : Code} {g : GP} {Z : St} (hC : CX p s m args c cX12_oneTick RX12 g) (hE : EZ g s s.heap) (hml : c.maxLocals = 4) (hr : meth.sig.returnType = none) (hlk : meth.locks = false) {r : Int32} {C2 : St} {x1 : Int32} {C : St} (h : F_X12_oneTick_82  x1 C = some (r, C2)) {ed : Nat → Nat} {H : Heap} {locs : List Loc} {ls : Array Slot} (hH : HW g ed Z C H) (hS : va_S (gP g) s.heap H locs) (hl : lv_has ls 4 [(0, .ref (gA g 50 0)), (1, .int x1)]) : W p l e ({ frames := 9, cells := 0, slots := 0, locals := 211 } : Room) s m args below meth c H locs 0 0 (MQ below (QG none g Z C2) args s 0 0 (gP g)) (F0 m 82 ls []) := by
  unfold F_X12_oneTick_82 at h
  refine lv_aload_n hC.1 hC.2.1 dX12_oneTick_82 rfl (lv_at hl 0 rfl) ?_
  refine lv_dup hC.1 hC.2.1 dX12_oneTick_83 rfl ?_
  refine gf_RX12_185 hC hH rfl dX12_oneTick_84 ?_
  refine lv_iconst (v := (1 : Int32)) hC.1 hC.2.1 dX12_oneTick_87 (by decide) ?_
  refine lv_iadd hC.1 hC.2.1 dX12_oneTick_88 ?_
  obtain ⟨D1, e2, h⟩ := st_some h
  refine pf_RX12_185 hC hH hS  rfl dX12_oneTick_89 (fun H locs hH hS => ?_)
  rw [← e2] at hH
  refine lv_aload_n hC.1 hC.2.1 dX12_oneTick_92 rfl (lv_at hl 0 rfl) ?_
  refine gf_RX12_16 hC hH rfl dX12_oneTick_93 ?_
  refine lv_iload_n hC.1 hC.2.1 dX12_oneTick_96 rfl (lv_at hl 1 rfl) ?_
  obtain ⟨hg3, h⟩ := gd_some h
  refine al_109 hC hH hg3 rfl dX12_oneTick_97 ?_
  refine lv_if_ne (tgt := 112) hC.1 hC.2.1 dX12_oneTick_98 (by decide) (fun hc4 => ?_) (fun hc4 => ?_)
  · rw [if_neg hc4] at h
    exact B_X12_oneTick_112 hC hE hml hr hlk h hH hS (lv_sub hl [0, 1] rfl)
  · rw [if_pos hc4] at h
    refine lv_aload_n hC.1 hC.2.1 dX12_oneTick_101 rfl (lv_at hl 0 rfl) ?_
    refine gf_RX12_185 hC hH rfl dX12_oneTick_102 ?_
    refine lv_aload_n hC.1 hC.2.1 dX12_oneTick_105 rfl (lv_at hl 0 rfl) ?_
    refine gf_RX12_157 hC hH rfl dX12_oneTick_106 ?_
    refine lv_icmp_ne (tgt := 116) hC.1 hC.2.1 dX12_oneTick_109 (by decide) (fun hc5 => ?_) (fun hc5 => ?_)
    · rw [if_neg hc5] at h
      refine lv_iconst (v := (0 : Int32)) hC.1 hC.2.1 dX12_oneTick_116 (by decide) ?_
      exact B_X12_oneTick_117 hC hE hml hr hlk h hH hS (lv_sub hl [0, 1] rfl)
    · rw [if_pos hc5] at h
      exact B_X12_oneTick_112 hC hE hml hr hlk h hH hS (lv_sub hl [0, 1] rfl)
def F_X12_oneTick  (C : St) : Option (Int32 × St) := st (up C 50 0 5 0 ((C 50 0 5 0) + (1 : Int32))) (fun D1 => if (D1 50 0 6 0) = 0 then (some (0, D1)) else (gd (inb (0 : Int32) 10) (if (6 : Int32) ≤ (D1 108 0 0 (0 : Int32).toNatClampNeg) then (if (D1 108 0 0 (0 : Int32).toNatClampNeg) = (6 : Int32) then (bd2 (F_X12_segmentsStep  D1) (fun r18 D19 => F_X12_oneTick_82 (D1 108 0 0 (0 : Int32).toNatClampNeg) D19)) else (if (D1 108 0 0 (0 : Int32).toNatClampNeg) = (7 : Int32) then (bd2 (F_X12_readingStep  D1) (fun r15 D16 => F_X12_oneTick_82 (D1 108 0 0 (0 : Int32).toNatClampNeg) D16)) else (if (D1 108 0 0 (0 : Int32).toNatClampNeg) = (8 : Int32) then (bd2 (F_X12_printingStep  D1) (fun r12 D13 => F_X12_oneTick_82 (D1 108 0 0 (0 : Int32).toNatClampNeg) D13)) else (bd2 (F_X12_consoleStep  D1) (fun r9 D10 => F_X12_oneTick_82 (D1 108 0 0 (0 : Int32).toNatClampNeg) D10))))) else (bd2 (F_X12_jobStep (D1 108 0 0 (0 : Int32).toNatClampNeg) D1) (fun r21 D22 => F_X12_oneTick_82 (D1 108 0 0 (0 : Int32).toNatClampNeg) D22)))))
set_option maxHeartbeats 4000000 in
set_option maxRecDepth 100000 in
theorem c_X12_oneTick {l : Launch} {g : GP} {ed : Nat → Nat} {Z : St}  {C : St} {r : Int32} {C2 : St} (h : F_X12_oneTick  C = some (r, C2)) : Met l yX12_oneTick (Cond.code yX12_oneTick cX12_oneTick 4 none :: lwG) ({ frames := 9, cells := 0, slots := 0, locals := 211 } : Room) (va_Pc [.ref (gA g 50 0)] (PW g Z C ed)) (QG none g Z C2) 0 0 (gP g) := by
  refine Met.ofW (cc := cX12_oneTick) (maxL := 4) (ret := none) (by decide +kernel) rfl ?_
  intro p e s m args below meth c s₁ B hml hv
  obtain ⟨ha, hC, hE, hr, hlk, hH⟩ := g_start B hv
  subst ha
  have hC : CX p s m ([.ref (gA g 50 0)] : List Value).toArray c cX12_oneTick RX12 g := hC
  have hS : va_S (gP g) s.heap s.heap [] := va_S.rf
  obtain ⟨ls, he, hl⟩ := g_entry m (vs := [.ref (gA g 50 0)]) (n := 4) (List.forall_mem_cons.mpr ⟨rfl, (fun _ h => absurd h List.not_mem_nil)⟩) (Nat.le_of_ble_eq_true rfl)
  rw [he]
  have hl : lv_has ls 4 [(0, .ref (gA g 50 0))] := hl
  unfold F_X12_oneTick at h
  refine lv_aload_n hC.1 hC.2.1 dX12_oneTick_0 rfl (lv_at hl 0 rfl) ?_
  refine lv_dup hC.1 hC.2.1 dX12_oneTick_1 rfl ?_
  refine gf_RX12_167 hC hH rfl dX12_oneTick_2 ?_
  refine lv_iconst (v := (1 : Int32)) hC.1 hC.2.1 dX12_oneTick_5 (by decide) ?_
  refine lv_iadd hC.1 hC.2.1 dX12_oneTick_6 ?_
  obtain ⟨D1, e2, h⟩ := st_some h
  refine pf_RX12_167 hC hH hS  rfl dX12_oneTick_7 (fun H locs hH hS => ?_)
  rw [← e2] at hH
  refine lv_aload_n hC.1 hC.2.1 dX12_oneTick_10 rfl (lv_at hl 0 rfl) ?_
  refine gf_RX12_160 hC hH rfl dX12_oneTick_11 ?_
  refine lv_if_ne (tgt := 18) hC.1 hC.2.1 dX12_oneTick_14 (by decide) (fun hc3 => ?_) (fun hc3 => ?_)
  · rw [if_neg hc3] at h
    refine lv_aload_n hC.1 hC.2.1 dX12_oneTick_18 rfl (lv_at hl 0 rfl) ?_
    refine gf_RX12_13 hC hH rfl dX12_oneTick_19 ?_
    refine lv_iconst (v := (0 : Int32)) hC.1 hC.2.1 dX12_oneTick_22 (by decide) ?_
    obtain ⟨hg4, h⟩ := gd_some h
    refine al_108 hC hH hg4 rfl dX12_oneTick_23 ?_
    refine lv_istore_n (i := 1) (lv' := [(1, .int (D1 108 0 0 (0 : Int32).toNatClampNeg)), (0, .ref (gA g 50 0))]) hC.1 hC.2.1 dX12_oneTick_24 rfl hl (by decide) rfl (fun ls hl => ?_)
    refine lv_iload_n hC.1 hC.2.1 dX12_oneTick_25 rfl (lv_at hl 0 rfl) ?_
    refine lv_bipush (v := (6 : Int32)) hC.1 hC.2.1 dX12_oneTick_26 (by decide) ?_
    refine lv_icmp_ge (tgt := 39) hC.1 hC.2.1 dX12_oneTick_28 (by decide) (fun hc5 => ?_) (fun hc5 => ?_)
    · rw [if_pos hc5] at h
      refine lv_iload_n hC.1 hC.2.1 dX12_oneTick_39 rfl (lv_at hl 0 rfl) ?_
      refine lv_bipush (v := (6 : Int32)) hC.1 hC.2.1 dX12_oneTick_40 (by decide) ?_
      refine lv_icmp_ne (tgt := 52) hC.1 hC.2.1 dX12_oneTick_42 (by decide) (fun hc6 => ?_) (fun hc6 => ?_)
      · rw [if_neg hc6] at h
        refine lv_iload_n hC.1 hC.2.1 dX12_oneTick_52 rfl (lv_at hl 0 rfl) ?_
        refine lv_bipush (v := (7 : Int32)) hC.1 hC.2.1 dX12_oneTick_53 (by decide) ?_
        refine lv_icmp_ne (tgt := 65) hC.1 hC.2.1 dX12_oneTick_55 (by decide) (fun hc7 => ?_) (fun hc7 => ?_)
        · rw [if_neg hc7] at h
          refine lv_iload_n hC.1 hC.2.1 dX12_oneTick_65 rfl (lv_at hl 0 rfl) ?_
          refine lv_bipush (v := (8 : Int32)) hC.1 hC.2.1 dX12_oneTick_66 (by decide) ?_
          refine lv_icmp_ne (tgt := 78) hC.1 hC.2.1 dX12_oneTick_68 (by decide) (fun hc8 => ?_) (fun hc8 => ?_)
          · rw [if_neg hc8] at h
            refine lv_aload_n hC.1 hC.2.1 dX12_oneTick_78 rfl (lv_at hl 1 rfl) ?_
            obtain ⟨r9, D10, hF11, h⟩ := bd2_some h
            refine gcallV (As := []) (rest := []) (Cn := RX12) hC hE hml hH hS (c_X12_consoleStep hF11) ⟨wd_1465, wd_1467, wp_62, wd_17, wd_1468⟩ hd_X12_consoleStep rfl rfl ⟨Nat.le_of_ble_eq_true rfl, Nat.le_of_ble_eq_true rfl⟩ rfl (hw_recv (q := 50) (i := 0) hC hH ⟨Nat.zero_lt_one, fun h => absurd h (by decide)⟩ rfl rfl) rfl hl.1 rfl (Nat.le_of_ble_eq_true rfl) dX12_oneTick_79 ⟨Nat.le_of_ble_eq_true rfl, Nat.le_of_ble_eq_true rfl⟩ (fun ed H locs hH hS => ?_)
            refine W.eq (g2 := F0 m 82 ls []) rfl ?_
            exact B_X12_oneTick_82 hC hE hml hr hlk h hH hS (lv_sub hl [1, 0] rfl)
          · rw [if_pos hc8] at h
            refine lv_aload_n hC.1 hC.2.1 dX12_oneTick_71 rfl (lv_at hl 1 rfl) ?_
            obtain ⟨r12, D13, hF14, h⟩ := bd2_some h
            refine gcallV (As := []) (rest := []) (Cn := RX12) hC hE hml hH hS (c_X12_printingStep hF14) ⟨wd_1461, wd_1463, wp_61, wd_17, wd_1464⟩ hd_X12_printingStep rfl rfl ⟨Nat.le_of_ble_eq_true rfl, Nat.le_of_ble_eq_true rfl⟩ rfl (hw_recv (q := 50) (i := 0) hC hH ⟨Nat.zero_lt_one, fun h => absurd h (by decide)⟩ rfl rfl) rfl hl.1 rfl (Nat.le_of_ble_eq_true rfl) dX12_oneTick_72 ⟨Nat.le_of_ble_eq_true rfl, Nat.le_of_ble_eq_true rfl⟩ (fun ed H locs hH hS => ?_)
            refine W.eq (g2 := F0 m 75 ls []) rfl ?_
            refine lv_goto (tgt := 82) hC.1 hC.2.1 dX12_oneTick_75 (by decide) ?_
            exact B_X12_oneTick_82 hC hE hml hr hlk h hH hS (lv_sub hl [1, 0] rfl)
        · rw [if_pos hc7] at h
          refine lv_aload_n hC.1 hC.2.1 dX12_oneTick_58 rfl (lv_at hl 1 rfl) ?_
          obtain ⟨r15, D16, hF17, h⟩ := bd2_some h
          refine gcallV (As := []) (rest := []) (Cn := RX12) hC hE hml hH hS (c_X12_readingStep hF17) ⟨wd_1457, wd_1459, wp_60, wd_17, wd_1460⟩ hd_X12_readingStep rfl rfl ⟨Nat.le_of_ble_eq_true rfl, Nat.le_of_ble_eq_true rfl⟩ rfl (hw_recv (q := 50) (i := 0) hC hH ⟨Nat.zero_lt_one, fun h => absurd h (by decide)⟩ rfl rfl) rfl hl.1 rfl (Nat.le_of_ble_eq_true rfl) dX12_oneTick_59 ⟨Nat.le_of_ble_eq_true rfl, Nat.le_of_ble_eq_true rfl⟩ (fun ed H locs hH hS => ?_)
          refine W.eq (g2 := F0 m 62 ls []) rfl ?_
          refine lv_goto (tgt := 82) hC.1 hC.2.1 dX12_oneTick_62 (by decide) ?_
          exact B_X12_oneTick_82 hC hE hml hr hlk h hH hS (lv_sub hl [1, 0] rfl)
      · rw [if_pos hc6] at h
        refine lv_aload_n hC.1 hC.2.1 dX12_oneTick_45 rfl (lv_at hl 1 rfl) ?_
        obtain ⟨r18, D19, hF20, h⟩ := bd2_some h
        refine gcallV (As := []) (rest := []) (Cn := RX12) hC hE hml hH hS (c_X12_segmentsStep hF20) ⟨wd_1445, wd_1447, wp_57, wd_17, wd_1448⟩ hd_X12_segmentsStep rfl rfl ⟨Nat.le_of_ble_eq_true rfl, Nat.le_of_ble_eq_true rfl⟩ rfl (hw_recv (q := 50) (i := 0) hC hH ⟨Nat.zero_lt_one, fun h => absurd h (by decide)⟩ rfl rfl) rfl hl.1 rfl (Nat.le_of_ble_eq_true rfl) dX12_oneTick_46 ⟨Nat.le_of_ble_eq_true rfl, Nat.le_of_ble_eq_true rfl⟩ (fun ed H locs hH hS => ?_)
        refine W.eq (g2 := F0 m 49 ls []) rfl ?_
        refine lv_goto (tgt := 82) hC.1 hC.2.1 dX12_oneTick_49 (by decide) ?_
        exact B_X12_oneTick_82 hC hE hml hr hlk h hH hS (lv_sub hl [1, 0] rfl)
    · rw [if_neg hc5] at h
      refine lv_aload_n hC.1 hC.2.1 dX12_oneTick_31 rfl (lv_at hl 1 rfl) ?_
      refine lv_iload_n hC.1 hC.2.1 dX12_oneTick_32 rfl (lv_at hl 0 rfl) ?_
      obtain ⟨r21, D22, hF23, h⟩ := bd2_some h
      refine gcallV (As := [.int (D1 108 0 0 (0 : Int32).toNatClampNeg)]) (rest := []) (Cn := RX12) hC hE hml hH hS (c_X12_jobStep hF23) ⟨wd_1352, wd_1354, wp_34, wd_17, wd_1355⟩ hd_X12_jobStep rfl rfl ⟨Nat.le_of_ble_eq_true rfl, Nat.le_of_ble_eq_true rfl⟩ rfl (hw_recv (q := 50) (i := 0) hC hH ⟨Nat.zero_lt_one, fun h => absurd h (by decide)⟩ rfl rfl) rfl hl.1 rfl (Nat.le_of_ble_eq_true rfl) dX12_oneTick_33 ⟨Nat.le_of_ble_eq_true rfl, Nat.le_of_ble_eq_true rfl⟩ (fun ed H locs hH hS => ?_)
      refine W.eq (g2 := F0 m 36 ls []) rfl ?_
      refine lv_goto (tgt := 82) hC.1 hC.2.1 dX12_oneTick_36 (by decide) ?_
      exact B_X12_oneTick_82 hC hE hml hr hlk h hH hS (lv_sub hl [1, 0] rfl)
  · rw [if_pos hc3] at h
    cases h
    exact gret_v hC hr hlk hH hS (Nat.le_of_ble_eq_true rfl) (Nat.le_of_ble_eq_true rfl) dX12_oneTick_17
def F_X12_isWritten_44  (t0 : Int32) (C : St) : Option (Int32 × St) := gd (isb t0) (some (t0, C))
set_option maxHeartbeats 4000000 in
set_option maxRecDepth 100000 in
theorem B_X12_isWritten_44 {p : Program} {l : Launch} {e : Env} {s : State} {m : MethodId} {args : Array Value} {below : List Frame} {meth : Method} {c : Code} {g : GP} {Z : St} (hC : CX p s m args c cX12_isWritten RX12 g) (hE : EZ g s s.heap) (hml : c.maxLocals = 2) (hr : meth.sig.returnType = (some .boolean)) (hlk : meth.locks = false) {r : Int32} {C2 : St} {t0 : Int32} {C : St} (h : F_X12_isWritten_44  t0 C = some (r, C2)) {ed : Nat → Nat} {H : Heap} {locs : List Loc} {ls : Array Slot} (hH : HW g ed Z C H) (hS : va_S (gP g) s.heap H locs) (hl : lv_has ls 2 []) : W p l e ({ frames := 0, cells := 0, slots := 0, locals := 0 } : Room) s m args below meth c H locs 0 0 (MQ below (QG (some (.int r)) g Z C2) args s 0 0 (gP g)) (F0 m 44 ls [.int t0]) := by
  unfold F_X12_isWritten_44 at h
  obtain ⟨hg1, h⟩ := gd_some h
  cases h
  exact gret_z hC hr hlk hg1 hH hS (Nat.le_of_ble_eq_true rfl) (Nat.le_of_ble_eq_true rfl) dX12_isWritten_44
def F_X12_isWritten_43   (C : St) : Option (Int32 × St) := F_X12_isWritten_44 (0 : Int32) C
set_option maxHeartbeats 4000000 in
set_option maxRecDepth 100000 in
theorem B_X12_isWritten_43 {p : Program} {l : Launch} {e : Env} {s : State} {m : MethodId} {args : Array Value} {below : List Frame} {meth : Method} {c : Code} {g : GP} {Z : St} (hC : CX p s m args c cX12_isWritten RX12 g) (hE : EZ g s s.heap) (hml : c.maxLocals = 2) (hr : meth.sig.returnType = (some .boolean)) (hlk : meth.locks = false) {r : Int32} {C2 : St}  {C : St} (h : F_X12_isWritten_43   C = some (r, C2)) {ed : Nat → Nat} {H : Heap} {locs : List Loc} {ls : Array Slot} (hH : HW g ed Z C H) (hS : va_S (gP g) s.heap H locs) (hl : lv_has ls 2 []) : W p l e ({ frames := 0, cells := 0, slots := 0, locals := 0 } : Room) s m args below meth c H locs 0 0 (MQ below (QG (some (.int r)) g Z C2) args s 0 0 (gP g)) (F0 m 43 ls []) := by
  unfold F_X12_isWritten_43 at h
  refine lv_iconst (v := (0 : Int32)) hC.1 hC.2.1 dX12_isWritten_43 (by decide) ?_
  exact B_X12_isWritten_44 hC hE hml hr hlk h hH hS (lv_sub hl [] rfl)
def F_X12_isWritten (x1 : Int32) (C : St) : Option (Int32 × St) := if (C 50 0 45 0) = (1 : Int32) then (if (C 50 0 49 0) = x1 then (gd (inb x1 6) (if (C 123 0 0 x1.toNatClampNeg) = (C 50 0 51 0) then (if (C 114 0 0 x1.toNatClampNeg) = (2 : Int32) then (F_X12_isWritten_44 (1 : Int32) C) else (F_X12_isWritten_43  C)) else (F_X12_isWritten_43  C))) else (F_X12_isWritten_43  C)) else (F_X12_isWritten_43  C)
set_option maxHeartbeats 4000000 in
set_option maxRecDepth 100000 in
theorem c_X12_isWritten {l : Launch} {g : GP} {ed : Nat → Nat} {Z : St} {x1 : Int32} {C : St} {r : Int32} {C2 : St} (h : F_X12_isWritten x1 C = some (r, C2)) : Met l yX12_isWritten (Cond.code yX12_isWritten cX12_isWritten 2 (some .boolean) :: lwG) ({ frames := 0, cells := 0, slots := 0, locals := 0 } : Room) (va_Pc [.ref (gA g 50 0), .int x1] (PW g Z C ed)) (QG (some (.int r)) g Z C2) 0 0 (gP g) := by
  refine Met.ofW (cc := cX12_isWritten) (maxL := 2) (ret := (some .boolean)) (by decide +kernel) rfl ?_
  intro p e s m args below meth c s₁ B hml hv
  obtain ⟨ha, hC, hE, hr, hlk, hH⟩ := g_start B hv
  subst ha
  have hC : CX p s m ([.ref (gA g 50 0), .int x1] : List Value).toArray c cX12_isWritten RX12 g := hC
  have hS : va_S (gP g) s.heap s.heap [] := va_S.rf
  obtain ⟨ls, he, hl⟩ := g_entry m (vs := [.ref (gA g 50 0), .int x1]) (n := 2) (List.forall_mem_cons.mpr ⟨rfl, (List.forall_mem_cons.mpr ⟨rfl, (fun _ h => absurd h List.not_mem_nil)⟩)⟩) (Nat.le_of_ble_eq_true rfl)
  rw [he]
  have hl : lv_has ls 2 [(0, .ref (gA g 50 0)), (1, .int x1)] := hl
  unfold F_X12_isWritten at h
  refine lv_aload_n hC.1 hC.2.1 dX12_isWritten_0 rfl (lv_at hl 0 rfl) ?_
  refine gf_RX12_264 hC hH rfl dX12_isWritten_1 ?_
  refine lv_iconst (v := (1 : Int32)) hC.1 hC.2.1 dX12_isWritten_4 (by decide) ?_
  refine lv_icmp_ne (tgt := 43) hC.1 hC.2.1 dX12_isWritten_5 (by decide) (fun hc1 => ?_) (fun hc1 => ?_)
  · rw [if_neg hc1] at h
    exact B_X12_isWritten_43 hC hE hml hr hlk h hH hS (lv_sub hl [] rfl)
  · rw [if_pos hc1] at h
    refine lv_aload_n hC.1 hC.2.1 dX12_isWritten_8 rfl (lv_at hl 0 rfl) ?_
    refine gf_RX12_255 hC hH rfl dX12_isWritten_9 ?_
    refine lv_iload_n hC.1 hC.2.1 dX12_isWritten_12 rfl (lv_at hl 1 rfl) ?_
    refine lv_icmp_ne (tgt := 43) hC.1 hC.2.1 dX12_isWritten_13 (by decide) (fun hc2 => ?_) (fun hc2 => ?_)
    · rw [if_neg hc2] at h
      exact B_X12_isWritten_43 hC hE hml hr hlk h hH hS (lv_sub hl [] rfl)
    · rw [if_pos hc2] at h
      refine lv_aload_n hC.1 hC.2.1 dX12_isWritten_16 rfl (lv_at hl 0 rfl) ?_
      refine gf_RX12_59 hC hH rfl dX12_isWritten_17 ?_
      refine lv_iload_n hC.1 hC.2.1 dX12_isWritten_20 rfl (lv_at hl 1 rfl) ?_
      obtain ⟨hg3, h⟩ := gd_some h
      refine al_123 hC hH hg3 rfl dX12_isWritten_21 ?_
      refine lv_aload_n hC.1 hC.2.1 dX12_isWritten_22 rfl (lv_at hl 0 rfl) ?_
      refine gf_RX12_261 hC hH rfl dX12_isWritten_23 ?_
      refine lv_icmp_ne (tgt := 43) hC.1 hC.2.1 dX12_isWritten_26 (by decide) (fun hc4 => ?_) (fun hc4 => ?_)
      · rw [if_neg hc4] at h
        exact B_X12_isWritten_43 hC hE hml hr hlk h hH hS (lv_sub hl [] rfl)
      · rw [if_pos hc4] at h
        refine lv_aload_n hC.1 hC.2.1 dX12_isWritten_29 rfl (lv_at hl 0 rfl) ?_
        refine gf_RX12_32 hC hH rfl dX12_isWritten_30 ?_
        refine lv_iload_n hC.1 hC.2.1 dX12_isWritten_33 rfl (lv_at hl 1 rfl) ?_
        refine al_114 hC hH hg3 rfl dX12_isWritten_34 ?_
        refine lv_iconst (v := (2 : Int32)) hC.1 hC.2.1 dX12_isWritten_35 (by decide) ?_
        refine lv_icmp_ne (tgt := 43) hC.1 hC.2.1 dX12_isWritten_36 (by decide) (fun hc5 => ?_) (fun hc5 => ?_)
        · rw [if_neg hc5] at h
          exact B_X12_isWritten_43 hC hE hml hr hlk h hH hS (lv_sub hl [] rfl)
        · rw [if_pos hc5] at h
          refine lv_iconst (v := (1 : Int32)) hC.1 hC.2.1 dX12_isWritten_39 (by decide) ?_
          refine lv_goto (tgt := 44) hC.1 hC.2.1 dX12_isWritten_40 (by decide) ?_
          exact B_X12_isWritten_44 hC hE hml hr hlk h hH hS (lv_sub hl [] rfl)
def F_X12_drumIsDone_132   (C : St) : Option (Int32 × St) := st (up C 50 0 45 0 (0 : Int32)) (fun D1 => bd2 (F_X12_raise (1 : Int32) D1) (fun r3 D4 => some (0, D4)))
set_option maxHeartbeats 4000000 in
set_option maxRecDepth 100000 in
theorem B_X12_drumIsDone_132 {p : Program} {l : Launch} {e : Env} {s : State} {m : MethodId} {args : Array Value} {below : List Frame} {meth : Method} {c : Code} {g : GP} {Z : St} (hC : CX p s m args c cX12_drumIsDone RX12 g) (hE : EZ g s s.heap) (hml : c.maxLocals = 2) (hr : meth.sig.returnType = none) (hlk : meth.locks = false) {r : Int32} {C2 : St}  {C : St} (h : F_X12_drumIsDone_132   C = some (r, C2)) {ed : Nat → Nat} {H : Heap} {locs : List Loc} {ls : Array Slot} (hH : HW g ed Z C H) (hS : va_S (gP g) s.heap H locs) (hl : lv_has ls 2 [(0, .ref (gA g 50 0))]) : W p l e ({ frames := 2, cells := 0, slots := 0, locals := 44 } : Room) s m args below meth c H locs 0 0 (MQ below (QG none g Z C2) args s 0 0 (gP g)) (F0 m 132 ls []) := by
  unfold F_X12_drumIsDone_132 at h
  refine lv_aload_n hC.1 hC.2.1 dX12_drumIsDone_132 rfl (lv_at hl 0 rfl) ?_
  refine lv_iconst (v := (0 : Int32)) hC.1 hC.2.1 dX12_drumIsDone_133 (by decide) ?_
  obtain ⟨D1, e2, h⟩ := st_some h
  refine pf_RX12_264 hC hH hS  rfl dX12_drumIsDone_134 (fun H locs hH hS => ?_)
  rw [← e2] at hH
  refine lv_aload_n hC.1 hC.2.1 dX12_drumIsDone_137 rfl (lv_at hl 0 rfl) ?_
  refine lv_iconst (v := (1 : Int32)) hC.1 hC.2.1 dX12_drumIsDone_138 (by decide) ?_
  obtain ⟨r3, D4, hF5, h⟩ := bd2_some h
  refine gcallV (As := [.int (1 : Int32)]) (rest := []) (Cn := RX12) hC hE hml hH hS (c_X12_raise hF5) ⟨wd_1416, wd_1418, wp_50, wd_17, wd_1419⟩ hd_X12_raise rfl rfl ⟨Nat.le_of_ble_eq_true rfl, Nat.le_of_ble_eq_true rfl⟩ rfl (hw_recv (q := 50) (i := 0) hC hH ⟨Nat.zero_lt_one, fun h => absurd h (by decide)⟩ rfl rfl) rfl hl.1 rfl (Nat.le_of_ble_eq_true rfl) dX12_drumIsDone_139 ⟨Nat.le_of_ble_eq_true rfl, Nat.le_of_ble_eq_true rfl⟩ (fun ed H locs hH hS => ?_)
  refine W.eq (g2 := F0 m 142 ls []) rfl ?_
  cases h
  exact gret_v hC hr hlk hH hS (Nat.le_of_ble_eq_true rfl) (Nat.le_of_ble_eq_true rfl) dX12_drumIsDone_142
def F_X12_drumIsDone_83  : Nat → Int32 → St → Option (Int32 × St)
  | 0, _, _ => none
  | fu + 1, x1, C => if (16 : Int32) ≤ x1 then (F_X12_drumIsDone_132  C) else (gd (inb ((((128 : Int32) * (C 50 0 47 0)) + ((16 : Int32) * (C 50 0 48 0))) + x1) 768) (gd (inb (((16 : Int32) * (C 50 0 46 0)) + x1) 192) (st (up C 138 0 0 (((16 : Int32) * (C 50 0 46 0)) + x1).toNatClampNeg (C 137 0 0 ((((128 : Int32) * (C 50 0 47 0)) + ((16 : Int32) * (C 50 0 48 0))) + x1).toNatClampNeg)) (fun D4 => F_X12_drumIsDone_83 fu (x1 + 1) D4))))
set_option maxHeartbeats 4000000 in
set_option maxRecDepth 100000 in
theorem B_X12_drumIsDone_83 {p : Program} {l : Launch} {e : Env} {s : State} {m : MethodId} {args : Array Value} {below : List Frame} {meth : Method} {c : Code} {g : GP} {Z : St} (hC : CX p s m args c cX12_drumIsDone RX12 g) (hE : EZ g s s.heap) (hml : c.maxLocals = 2) (hr : meth.sig.returnType = none) (hlk : meth.locks = false) {r : Int32} {C2 : St} : ∀ (fu : Nat) (x1 : Int32) (C : St), F_X12_drumIsDone_83  fu x1 C = some (r, C2) → ∀ (ed : Nat → Nat) (H : Heap) (locs : List Loc) (ls : Array Slot), HW g ed Z C H → va_S (gP g) s.heap H locs → lv_has ls 2 [(0, .ref (gA g 50 0)), (1, .int x1)] → W p l e ({ frames := 2, cells := 0, slots := 0, locals := 44 } : Room) s m args below meth c H locs 0 0 (MQ below (QG none g Z C2) args s 0 0 (gP g)) (F0 m 83 ls []) := by
  intro fu
  induction fu with
  | zero =>
    intro x1 C h
    cases h
  | succ fu ih =>
    intro x1 C h ed H locs ls hH hS hl
    rw [F_X12_drumIsDone_83] at h
    refine lv_iload_n hC.1 hC.2.1 dX12_drumIsDone_83 rfl (lv_at hl 1 rfl) ?_
    refine lv_bipush (v := (16 : Int32)) hC.1 hC.2.1 dX12_drumIsDone_84 (by decide) ?_
    refine lv_icmp_ge (tgt := 132) hC.1 hC.2.1 dX12_drumIsDone_86 (by decide) (fun hc1 => ?_) (fun hc1 => ?_)
    · rw [if_pos hc1] at h
      exact B_X12_drumIsDone_132 hC hE hml hr hlk h hH hS (lv_sub hl [0] rfl)
    · rw [if_neg hc1] at h
      refine lv_aload_n hC.1 hC.2.1 dX12_drumIsDone_89 rfl (lv_at hl 0 rfl) ?_
      refine gf_RX12_101 hC hH rfl dX12_drumIsDone_90 ?_
      refine lv_bipush (v := (16 : Int32)) hC.1 hC.2.1 dX12_drumIsDone_93 (by decide) ?_
      refine lv_aload_n hC.1 hC.2.1 dX12_drumIsDone_95 rfl (lv_at hl 0 rfl) ?_
      refine gf_RX12_252 hC hH rfl dX12_drumIsDone_96 ?_
      refine lv_imul hC.1 hC.2.1 dX12_drumIsDone_99 ?_
      refine lv_iload_n hC.1 hC.2.1 dX12_drumIsDone_100 rfl (lv_at hl 1 rfl) ?_
      refine lv_iadd hC.1 hC.2.1 dX12_drumIsDone_101 ?_
      refine lv_aload_n hC.1 hC.2.1 dX12_drumIsDone_102 rfl (lv_at hl 0 rfl) ?_
      refine gf_RX12_98 hC hH rfl dX12_drumIsDone_103 ?_
      refine lv_sipush (v := (128 : Int32)) hC.1 hC.2.1 dX12_drumIsDone_106 (by decide) ?_
      refine lv_aload_n hC.1 hC.2.1 dX12_drumIsDone_109 rfl (lv_at hl 0 rfl) ?_
      refine gf_RX12_242 hC hH rfl dX12_drumIsDone_110 ?_
      refine lv_imul hC.1 hC.2.1 dX12_drumIsDone_113 ?_
      refine lv_bipush (v := (16 : Int32)) hC.1 hC.2.1 dX12_drumIsDone_114 (by decide) ?_
      refine lv_aload_n hC.1 hC.2.1 dX12_drumIsDone_116 rfl (lv_at hl 0 rfl) ?_
      refine gf_RX12_245 hC hH rfl dX12_drumIsDone_117 ?_
      refine lv_imul hC.1 hC.2.1 dX12_drumIsDone_120 ?_
      refine lv_iadd hC.1 hC.2.1 dX12_drumIsDone_121 ?_
      refine lv_iload_n hC.1 hC.2.1 dX12_drumIsDone_122 rfl (lv_at hl 1 rfl) ?_
      refine lv_iadd hC.1 hC.2.1 dX12_drumIsDone_123 ?_
      obtain ⟨hg2, h⟩ := gd_some h
      refine al_137 hC hH hg2 rfl dX12_drumIsDone_124 ?_
      obtain ⟨hg3, h⟩ := gd_some h
      obtain ⟨D4, e5, h⟩ := st_some h
      refine as_138 hC hH hS hg3 rfl dX12_drumIsDone_125 (fun H locs hH hS => ?_)
      rw [← e5] at hH
      refine lv_iinc (v := x1 + 1) (lv' := [(1, .int (x1 + 1)), (0, .ref (gA g 50 0))]) hC.1 hC.2.1 dX12_drumIsDone_126 hl (k := 1) rfl rfl (by decide) rfl (fun ls hl => ?_)
      refine lv_goto (tgt := 83) hC.1 hC.2.1 dX12_drumIsDone_129 (by decide) ?_
      exact ih _ _ h _ _ _ _ hH hS (lv_sub hl [1, 0] rfl)
def F_X12_drumIsDone_73   (C : St) : Option (Int32 × St) := if (C 50 0 45 0) = (2 : Int32) then (F_X12_drumIsDone_83 1000 (0 : Int32) C) else (F_X12_drumIsDone_132  C)
set_option maxHeartbeats 4000000 in
set_option maxRecDepth 100000 in
theorem B_X12_drumIsDone_73 {p : Program} {l : Launch} {e : Env} {s : State} {m : MethodId} {args : Array Value} {below : List Frame} {meth : Method} {c : Code} {g : GP} {Z : St} (hC : CX p s m args c cX12_drumIsDone RX12 g) (hE : EZ g s s.heap) (hml : c.maxLocals = 2) (hr : meth.sig.returnType = none) (hlk : meth.locks = false) {r : Int32} {C2 : St}  {C : St} (h : F_X12_drumIsDone_73   C = some (r, C2)) {ed : Nat → Nat} {H : Heap} {locs : List Loc} {ls : Array Slot} (hH : HW g ed Z C H) (hS : va_S (gP g) s.heap H locs) (hl : lv_has ls 2 [(0, .ref (gA g 50 0))]) : W p l e ({ frames := 2, cells := 0, slots := 0, locals := 44 } : Room) s m args below meth c H locs 0 0 (MQ below (QG none g Z C2) args s 0 0 (gP g)) (F0 m 73 ls []) := by
  unfold F_X12_drumIsDone_73 at h
  refine lv_aload_n hC.1 hC.2.1 dX12_drumIsDone_73 rfl (lv_at hl 0 rfl) ?_
  refine gf_RX12_264 hC hH rfl dX12_drumIsDone_74 ?_
  refine lv_iconst (v := (2 : Int32)) hC.1 hC.2.1 dX12_drumIsDone_77 (by decide) ?_
  refine lv_icmp_ne (tgt := 132) hC.1 hC.2.1 dX12_drumIsDone_78 (by decide) (fun hc1 => ?_) (fun hc1 => ?_)
  · rw [if_neg hc1] at h
    exact B_X12_drumIsDone_132 hC hE hml hr hlk h hH hS (lv_sub hl [0] rfl)
  · rw [if_pos hc1] at h
    refine lv_iconst (v := (0 : Int32)) hC.1 hC.2.1 dX12_drumIsDone_81 (by decide) ?_
    refine lv_istore_n (i := 1) (lv' := [(1, .int (0 : Int32)), (0, .ref (gA g 50 0))]) hC.1 hC.2.1 dX12_drumIsDone_82 rfl hl (by decide) rfl (fun ls hl => ?_)
    exact B_X12_drumIsDone_83 hC hE hml hr hlk 1000 _ _ h _ _ _ _ hH hS (lv_sub hl [1, 0] rfl)
def F_X12_drumIsDone_24  : Nat → Int32 → St → Option (Int32 × St)
  | 0, _, _ => none
  | fu + 1, x1, C => if (16 : Int32) ≤ x1 then (F_X12_drumIsDone_73  C) else (gd (inb (((16 : Int32) * (C 50 0 46 0)) + x1) 192) (gd (inb ((((128 : Int32) * (C 50 0 49 0)) + ((16 : Int32) * (C 50 0 50 0))) + x1) 768) (st (up C 137 0 0 ((((128 : Int32) * (C 50 0 49 0)) + ((16 : Int32) * (C 50 0 50 0))) + x1).toNatClampNeg (C 138 0 0 (((16 : Int32) * (C 50 0 46 0)) + x1).toNatClampNeg)) (fun D4 => F_X12_drumIsDone_24 fu (x1 + 1) D4))))
set_option maxHeartbeats 4000000 in
set_option maxRecDepth 100000 in
theorem B_X12_drumIsDone_24 {p : Program} {l : Launch} {e : Env} {s : State} {m : MethodId} {args : Array Value} {below : List Frame} {meth : Method} {c : Code} {g : GP} {Z : St} (hC : CX p s m args c cX12_drumIsDone RX12 g) (hE : EZ g s s.heap) (hml : c.maxLocals = 2) (hr : meth.sig.returnType = none) (hlk : meth.locks = false) {r : Int32} {C2 : St} : ∀ (fu : Nat) (x1 : Int32) (C : St), F_X12_drumIsDone_24  fu x1 C = some (r, C2) → ∀ (ed : Nat → Nat) (H : Heap) (locs : List Loc) (ls : Array Slot), HW g ed Z C H → va_S (gP g) s.heap H locs → lv_has ls 2 [(0, .ref (gA g 50 0)), (1, .int x1)] → W p l e ({ frames := 2, cells := 0, slots := 0, locals := 44 } : Room) s m args below meth c H locs 0 0 (MQ below (QG none g Z C2) args s 0 0 (gP g)) (F0 m 24 ls []) := by
  intro fu
  induction fu with
  | zero =>
    intro x1 C h
    cases h
  | succ fu ih =>
    intro x1 C h ed H locs ls hH hS hl
    rw [F_X12_drumIsDone_24] at h
    refine lv_iload_n hC.1 hC.2.1 dX12_drumIsDone_24 rfl (lv_at hl 1 rfl) ?_
    refine lv_bipush (v := (16 : Int32)) hC.1 hC.2.1 dX12_drumIsDone_25 (by decide) ?_
    refine lv_icmp_ge (tgt := 73) hC.1 hC.2.1 dX12_drumIsDone_27 (by decide) (fun hc1 => ?_) (fun hc1 => ?_)
    · rw [if_pos hc1] at h
      exact B_X12_drumIsDone_73 hC hE hml hr hlk h hH hS (lv_sub hl [0] rfl)
    · rw [if_neg hc1] at h
      refine lv_aload_n hC.1 hC.2.1 dX12_drumIsDone_30 rfl (lv_at hl 0 rfl) ?_
      refine gf_RX12_98 hC hH rfl dX12_drumIsDone_31 ?_
      refine lv_sipush (v := (128 : Int32)) hC.1 hC.2.1 dX12_drumIsDone_34 (by decide) ?_
      refine lv_aload_n hC.1 hC.2.1 dX12_drumIsDone_37 rfl (lv_at hl 0 rfl) ?_
      refine gf_RX12_255 hC hH rfl dX12_drumIsDone_38 ?_
      refine lv_imul hC.1 hC.2.1 dX12_drumIsDone_41 ?_
      refine lv_bipush (v := (16 : Int32)) hC.1 hC.2.1 dX12_drumIsDone_42 (by decide) ?_
      refine lv_aload_n hC.1 hC.2.1 dX12_drumIsDone_44 rfl (lv_at hl 0 rfl) ?_
      refine gf_RX12_258 hC hH rfl dX12_drumIsDone_45 ?_
      refine lv_imul hC.1 hC.2.1 dX12_drumIsDone_48 ?_
      refine lv_iadd hC.1 hC.2.1 dX12_drumIsDone_49 ?_
      refine lv_iload_n hC.1 hC.2.1 dX12_drumIsDone_50 rfl (lv_at hl 1 rfl) ?_
      refine lv_iadd hC.1 hC.2.1 dX12_drumIsDone_51 ?_
      refine lv_aload_n hC.1 hC.2.1 dX12_drumIsDone_52 rfl (lv_at hl 0 rfl) ?_
      refine gf_RX12_101 hC hH rfl dX12_drumIsDone_53 ?_
      refine lv_bipush (v := (16 : Int32)) hC.1 hC.2.1 dX12_drumIsDone_56 (by decide) ?_
      refine lv_aload_n hC.1 hC.2.1 dX12_drumIsDone_58 rfl (lv_at hl 0 rfl) ?_
      refine gf_RX12_252 hC hH rfl dX12_drumIsDone_59 ?_
      refine lv_imul hC.1 hC.2.1 dX12_drumIsDone_62 ?_
      refine lv_iload_n hC.1 hC.2.1 dX12_drumIsDone_63 rfl (lv_at hl 1 rfl) ?_
      refine lv_iadd hC.1 hC.2.1 dX12_drumIsDone_64 ?_
      obtain ⟨hg2, h⟩ := gd_some h
      refine al_138 hC hH hg2 rfl dX12_drumIsDone_65 ?_
      obtain ⟨hg3, h⟩ := gd_some h
      obtain ⟨D4, e5, h⟩ := st_some h
      refine as_137 hC hH hS hg3 rfl dX12_drumIsDone_66 (fun H locs hH hS => ?_)
      rw [← e5] at hH
      refine lv_iinc (v := x1 + 1) (lv' := [(1, .int (x1 + 1)), (0, .ref (gA g 50 0))]) hC.1 hC.2.1 dX12_drumIsDone_67 hl (k := 1) rfl rfl (by decide) rfl (fun ls hl => ?_)
      refine lv_goto (tgt := 24) hC.1 hC.2.1 dX12_drumIsDone_70 (by decide) ?_
      exact ih _ _ h _ _ _ _ hH hS (lv_sub hl [1, 0] rfl)
def F_X12_drumIsDone_16  (t0 : Int32) (C : St) : Option (Int32 × St) := bd2 (F_X12_isWritten t0 C) (fun r1 D2 => if r1 = 0 then (F_X12_drumIsDone_73  D2) else (F_X12_drumIsDone_24 1000 (0 : Int32) D2))
set_option maxHeartbeats 4000000 in
set_option maxRecDepth 100000 in
theorem B_X12_drumIsDone_16 {p : Program} {l : Launch} {e : Env} {s : State} {m : MethodId} {args : Array Value} {below : List Frame} {meth : Method} {c : Code} {g : GP} {Z : St} (hC : CX p s m args c cX12_drumIsDone RX12 g) (hE : EZ g s s.heap) (hml : c.maxLocals = 2) (hr : meth.sig.returnType = none) (hlk : meth.locks = false) {r : Int32} {C2 : St} {t0 : Int32} {C : St} (h : F_X12_drumIsDone_16  t0 C = some (r, C2)) {ed : Nat → Nat} {H : Heap} {locs : List Loc} {ls : Array Slot} (hH : HW g ed Z C H) (hS : va_S (gP g) s.heap H locs) (hl : lv_has ls 2 [(0, .ref (gA g 50 0))]) : W p l e ({ frames := 2, cells := 0, slots := 0, locals := 44 } : Room) s m args below meth c H locs 0 0 (MQ below (QG none g Z C2) args s 0 0 (gP g)) (F0 m 16 ls [.int t0, .ref (gA g 50 0)]) := by
  unfold F_X12_drumIsDone_16 at h
  obtain ⟨r1, D2, hF3, h⟩ := bd2_some h
  refine gcallV (As := [.int t0]) (rest := []) (Cn := RX12) hC hE hml hH hS (c_X12_isWritten hF3) ⟨wd_1500, wd_1502, wp_69, wd_17, wd_1503⟩ hd_X12_isWritten rfl rfl ⟨Nat.le_of_ble_eq_true rfl, Nat.le_of_ble_eq_true rfl⟩ rfl (hw_recv (q := 50) (i := 0) hC hH ⟨Nat.zero_lt_one, fun h => absurd h (by decide)⟩ rfl rfl) rfl hl.1 rfl (Nat.le_of_ble_eq_true rfl) dX12_drumIsDone_16 ⟨Nat.le_of_ble_eq_true rfl, Nat.le_of_ble_eq_true rfl⟩ (fun ed H locs hH hS => ?_)
  refine W.eq (g2 := F0 m 19 ls [.int r1]) rfl ?_
  refine lv_if_eq (tgt := 73) hC.1 hC.2.1 dX12_drumIsDone_19 (by decide) (fun hc4 => ?_) (fun hc4 => ?_)
  · rw [if_pos hc4] at h
    exact B_X12_drumIsDone_73 hC hE hml hr hlk h hH hS (lv_sub hl [0] rfl)
  · rw [if_neg hc4] at h
    refine lv_iconst (v := (0 : Int32)) hC.1 hC.2.1 dX12_drumIsDone_22 (by decide) ?_
    refine lv_istore_n (i := 1) (lv' := [(1, .int (0 : Int32)), (0, .ref (gA g 50 0))]) hC.1 hC.2.1 dX12_drumIsDone_23 rfl hl (by decide) rfl (fun ls hl => ?_)
    exact B_X12_drumIsDone_24 hC hE hml hr hlk 1000 _ _ h _ _ _ _ hH hS (lv_sub hl [1, 0] rfl)
def F_X12_drumIsDone  (C : St) : Option (Int32 × St) := if 0 ≤ (C 50 0 49 0) then (F_X12_drumIsDone_16 (C 50 0 49 0) C) else (F_X12_drumIsDone_16 (0 : Int32) C)
set_option maxHeartbeats 4000000 in
set_option maxRecDepth 100000 in
theorem c_X12_drumIsDone {l : Launch} {g : GP} {ed : Nat → Nat} {Z : St}  {C : St} {r : Int32} {C2 : St} (h : F_X12_drumIsDone  C = some (r, C2)) : Met l yX12_drumIsDone (Cond.code yX12_drumIsDone cX12_drumIsDone 2 none :: lwG) ({ frames := 2, cells := 0, slots := 0, locals := 44 } : Room) (va_Pc [.ref (gA g 50 0)] (PW g Z C ed)) (QG none g Z C2) 0 0 (gP g) := by
  refine Met.ofW (cc := cX12_drumIsDone) (maxL := 2) (ret := none) (by decide +kernel) rfl ?_
  intro p e s m args below meth c s₁ B hml hv
  obtain ⟨ha, hC, hE, hr, hlk, hH⟩ := g_start B hv
  subst ha
  have hC : CX p s m ([.ref (gA g 50 0)] : List Value).toArray c cX12_drumIsDone RX12 g := hC
  have hS : va_S (gP g) s.heap s.heap [] := va_S.rf
  obtain ⟨ls, he, hl⟩ := g_entry m (vs := [.ref (gA g 50 0)]) (n := 2) (List.forall_mem_cons.mpr ⟨rfl, (fun _ h => absurd h List.not_mem_nil)⟩) (Nat.le_of_ble_eq_true rfl)
  rw [he]
  have hl : lv_has ls 2 [(0, .ref (gA g 50 0))] := hl
  unfold F_X12_drumIsDone at h
  refine lv_aload_n hC.1 hC.2.1 dX12_drumIsDone_0 rfl (lv_at hl 0 rfl) ?_
  refine lv_aload_n hC.1 hC.2.1 dX12_drumIsDone_1 rfl (lv_at hl 0 rfl) ?_
  refine gf_RX12_255 hC hH rfl dX12_drumIsDone_2 ?_
  refine lv_if_ge (tgt := 12) hC.1 hC.2.1 dX12_drumIsDone_5 (by decide) (fun hc1 => ?_) (fun hc1 => ?_)
  · rw [if_pos hc1] at h
    refine lv_aload_n hC.1 hC.2.1 dX12_drumIsDone_12 rfl (lv_at hl 0 rfl) ?_
    refine gf_RX12_255 hC hH rfl dX12_drumIsDone_13 ?_
    exact B_X12_drumIsDone_16 hC hE hml hr hlk h hH hS (lv_sub hl [0] rfl)
  · rw [if_neg hc1] at h
    refine lv_iconst (v := (0 : Int32)) hC.1 hC.2.1 dX12_drumIsDone_8 (by decide) ?_
    refine lv_goto (tgt := 16) hC.1 hC.2.1 dX12_drumIsDone_9 (by decide) ?_
    exact B_X12_drumIsDone_16 hC hE hml hr hlk h hH hS (lv_sub hl [0] rfl)
def F_X12_feed (x1 : Int32) (x2 : Int32) (x3 : Int32) (x4 : Int32) (C : St) : Option (Int32 × St) := if ((C 50 0 4 0) + (4 : Int32)) ≤ (200 : Int32) then (gd (inb (C 50 0 4 0) 200) (st (up C 103 0 0 (C 50 0 4 0).toNatClampNeg x1) (fun D3 => gd (inb ((D3 50 0 4 0) + (1 : Int32)) 200) (st (up D3 103 0 0 ((D3 50 0 4 0) + (1 : Int32)).toNatClampNeg x2) (fun D6 => gd (inb ((D6 50 0 4 0) + (2 : Int32)) 200) (st (up D6 103 0 0 ((D6 50 0 4 0) + (2 : Int32)).toNatClampNeg x3) (fun D9 => gd (inb ((D9 50 0 4 0) + (3 : Int32)) 200) (st (up D9 103 0 0 ((D9 50 0 4 0) + (3 : Int32)).toNatClampNeg x4) (fun D12 => st (up D12 50 0 4 0 ((D12 50 0 4 0) + (4 : Int32))) (fun D14 => some (D14 50 0 4 0, D14))))))))))) else (some ((-1 : Int32), C))
set_option maxHeartbeats 4000000 in
set_option maxRecDepth 100000 in
theorem c_X12_feed {l : Launch} {g : GP} {ed : Nat → Nat} {Z : St} {x1 : Int32} {x2 : Int32} {x3 : Int32} {x4 : Int32} {C : St} {r : Int32} {C2 : St} (h : F_X12_feed x1 x2 x3 x4 C = some (r, C2)) : Met l yX12_feed (Cond.code yX12_feed cX12_feed 5 (some .int) :: lwG) ({ frames := 0, cells := 0, slots := 0, locals := 0 } : Room) (va_Pc [.ref (gA g 50 0), .int x1, .int x2, .int x3, .int x4] (PW g Z C ed)) (QG (some (.int r)) g Z C2) 0 0 (gP g) := by
  refine Met.ofW (cc := cX12_feed) (maxL := 5) (ret := (some .int)) (by decide +kernel) rfl ?_
  intro p e s m args below meth c s₁ B hml hv
  obtain ⟨ha, hC, hE, hr, hlk, hH⟩ := g_start B hv
  subst ha
  have hC : CX p s m ([.ref (gA g 50 0), .int x1, .int x2, .int x3, .int x4] : List Value).toArray c cX12_feed RX12 g := hC
  have hS : va_S (gP g) s.heap s.heap [] := va_S.rf
  obtain ⟨ls, he, hl⟩ := g_entry m (vs := [.ref (gA g 50 0), .int x1, .int x2, .int x3, .int x4]) (n := 5) (List.forall_mem_cons.mpr ⟨rfl, (List.forall_mem_cons.mpr ⟨rfl, (List.forall_mem_cons.mpr ⟨rfl, (List.forall_mem_cons.mpr ⟨rfl, (List.forall_mem_cons.mpr ⟨rfl, (fun _ h => absurd h List.not_mem_nil)⟩)⟩)⟩)⟩)⟩) (Nat.le_of_ble_eq_true rfl)
  rw [he]
  have hl : lv_has ls 5 [(0, .ref (gA g 50 0)), (1, .int x1), (2, .int x2), (3, .int x3), (4, .int x4)] := hl
  unfold F_X12_feed at h
  refine lv_aload_n hC.1 hC.2.1 dX12_feed_0 rfl (lv_at hl 0 rfl) ?_
  refine gf_RX12_340 hC hH rfl dX12_feed_1 ?_
  refine lv_iconst (v := (4 : Int32)) hC.1 hC.2.1 dX12_feed_4 (by decide) ?_
  refine lv_iadd hC.1 hC.2.1 dX12_feed_5 ?_
  refine lv_sipush (v := (200 : Int32)) hC.1 hC.2.1 dX12_feed_6 (by decide) ?_
  refine lv_icmp_le (tgt := 14) hC.1 hC.2.1 dX12_feed_9 (by decide) (fun hc1 => ?_) (fun hc1 => ?_)
  · rw [if_pos hc1] at h
    refine lv_aload_n hC.1 hC.2.1 dX12_feed_14 rfl (lv_at hl 0 rfl) ?_
    refine gf_RX12_7 hC hH rfl dX12_feed_15 ?_
    refine lv_aload_n hC.1 hC.2.1 dX12_feed_18 rfl (lv_at hl 0 rfl) ?_
    refine gf_RX12_340 hC hH rfl dX12_feed_19 ?_
    refine lv_iload_n hC.1 hC.2.1 dX12_feed_22 rfl (lv_at hl 1 rfl) ?_
    obtain ⟨hg2, h⟩ := gd_some h
    obtain ⟨D3, e4, h⟩ := st_some h
    refine as_103 hC hH hS hg2 rfl dX12_feed_23 (fun H locs hH hS => ?_)
    rw [← e4] at hH
    refine lv_aload_n hC.1 hC.2.1 dX12_feed_24 rfl (lv_at hl 0 rfl) ?_
    refine gf_RX12_7 hC hH rfl dX12_feed_25 ?_
    refine lv_aload_n hC.1 hC.2.1 dX12_feed_28 rfl (lv_at hl 0 rfl) ?_
    refine gf_RX12_340 hC hH rfl dX12_feed_29 ?_
    refine lv_iconst (v := (1 : Int32)) hC.1 hC.2.1 dX12_feed_32 (by decide) ?_
    refine lv_iadd hC.1 hC.2.1 dX12_feed_33 ?_
    refine lv_iload_n hC.1 hC.2.1 dX12_feed_34 rfl (lv_at hl 2 rfl) ?_
    obtain ⟨hg5, h⟩ := gd_some h
    obtain ⟨D6, e7, h⟩ := st_some h
    refine as_103 hC hH hS hg5 rfl dX12_feed_35 (fun H locs hH hS => ?_)
    rw [← e7] at hH
    refine lv_aload_n hC.1 hC.2.1 dX12_feed_36 rfl (lv_at hl 0 rfl) ?_
    refine gf_RX12_7 hC hH rfl dX12_feed_37 ?_
    refine lv_aload_n hC.1 hC.2.1 dX12_feed_40 rfl (lv_at hl 0 rfl) ?_
    refine gf_RX12_340 hC hH rfl dX12_feed_41 ?_
    refine lv_iconst (v := (2 : Int32)) hC.1 hC.2.1 dX12_feed_44 (by decide) ?_
    refine lv_iadd hC.1 hC.2.1 dX12_feed_45 ?_
    refine lv_iload_n hC.1 hC.2.1 dX12_feed_46 rfl (lv_at hl 3 rfl) ?_
    obtain ⟨hg8, h⟩ := gd_some h
    obtain ⟨D9, e10, h⟩ := st_some h
    refine as_103 hC hH hS hg8 rfl dX12_feed_47 (fun H locs hH hS => ?_)
    rw [← e10] at hH
    refine lv_aload_n hC.1 hC.2.1 dX12_feed_48 rfl (lv_at hl 0 rfl) ?_
    refine gf_RX12_7 hC hH rfl dX12_feed_49 ?_
    refine lv_aload_n hC.1 hC.2.1 dX12_feed_52 rfl (lv_at hl 0 rfl) ?_
    refine gf_RX12_340 hC hH rfl dX12_feed_53 ?_
    refine lv_iconst (v := (3 : Int32)) hC.1 hC.2.1 dX12_feed_56 (by decide) ?_
    refine lv_iadd hC.1 hC.2.1 dX12_feed_57 ?_
    refine lv_iload hC.1 hC.2.1 dX12_feed_58 (lv_at hl 4 rfl) ?_
    obtain ⟨hg11, h⟩ := gd_some h
    obtain ⟨D12, e13, h⟩ := st_some h
    refine as_103 hC hH hS hg11 rfl dX12_feed_60 (fun H locs hH hS => ?_)
    rw [← e13] at hH
    refine lv_aload_n hC.1 hC.2.1 dX12_feed_61 rfl (lv_at hl 0 rfl) ?_
    refine lv_dup hC.1 hC.2.1 dX12_feed_62 rfl ?_
    refine gf_RX12_340 hC hH rfl dX12_feed_63 ?_
    refine lv_iconst (v := (4 : Int32)) hC.1 hC.2.1 dX12_feed_66 (by decide) ?_
    refine lv_iadd hC.1 hC.2.1 dX12_feed_67 ?_
    obtain ⟨D14, e15, h⟩ := st_some h
    refine pf_RX12_340 hC hH hS  rfl dX12_feed_68 (fun H locs hH hS => ?_)
    rw [← e15] at hH
    refine lv_aload_n hC.1 hC.2.1 dX12_feed_71 rfl (lv_at hl 0 rfl) ?_
    refine gf_RX12_340 hC hH rfl dX12_feed_72 ?_
    cases h
    exact gret_i hC hr hlk hH hS (Nat.le_of_ble_eq_true rfl) (Nat.le_of_ble_eq_true rfl) dX12_feed_75
  · rw [if_neg hc1] at h
    refine lv_iconst (v := (-1 : Int32)) hC.1 hC.2.1 dX12_feed_12 (by decide) ?_
    cases h
    exact gret_i hC hr hlk hH hS (Nat.le_of_ble_eq_true rfl) (Nat.le_of_ble_eq_true rfl) dX12_feed_13
def F_X12_submit_150   (C : St) : Option (Int32 × St) := some ((-1 : Int32), C)
set_option maxHeartbeats 4000000 in
set_option maxRecDepth 100000 in
theorem B_X12_submit_150 {p : Program} {l : Launch} {e : Env} {s : State} {m : MethodId} {args : Array Value} {below : List Frame} {meth : Method} {c : Code} {g : GP} {Z : St} (hC : CX p s m args c cX12_submit RX12 g) (hE : EZ g s s.heap) (hml : c.maxLocals = 10) (hr : meth.sig.returnType = (some .int)) (hlk : meth.locks = false) {r : Int32} {C2 : St}  {C : St} (h : F_X12_submit_150   C = some (r, C2)) {ed : Nat → Nat} {H : Heap} {locs : List Loc} {ls : Array Slot} (hH : HW g ed Z C H) (hS : va_S (gP g) s.heap H locs) (hl : lv_has ls 10 []) : W p l e ({ frames := 0, cells := 0, slots := 0, locals := 0 } : Room) s m args below meth c H locs 0 0 (MQ below (QG (some (.int r)) g Z C2) args s 0 0 (gP g)) (F0 m 150 ls []) := by
  unfold F_X12_submit_150 at h
  refine lv_iconst (v := (-1 : Int32)) hC.1 hC.2.1 dX12_submit_150 (by decide) ?_
  cases h
  exact gret_i hC hr hlk hH hS (Nat.le_of_ble_eq_true rfl) (Nat.le_of_ble_eq_true rfl) dX12_submit_151
def F_X12_submit_384 (k346 : Int32 → Int32 → Int32 → Int32 → St → Option (Int32 × St)) (x1 : Int32) (x2 : Int32) (x8 : Int32) (x9 : Int32) (t0 : Int32) (t1 : Int32) (C : St) : Option (Int32 × St) := gd (inb t1 768) (st (up C 137 0 0 t1.toNatClampNeg t0) (fun D2 => k346 x1 x2 x8 (x9 + 1) D2))
set_option maxHeartbeats 4000000 in
set_option maxRecDepth 100000 in
theorem B_X12_submit_384 {p : Program} {l : Launch} {e : Env} {s : State} {m : MethodId} {args : Array Value} {below : List Frame} {meth : Method} {c : Code} {g : GP} {Z : St} (hC : CX p s m args c cX12_submit RX12 g) (hE : EZ g s s.heap) (hml : c.maxLocals = 10) (hr : meth.sig.returnType = (some .int)) (hlk : meth.locks = false) {r : Int32} {C2 : St} {k346 : Int32 → Int32 → Int32 → Int32 → St → Option (Int32 × St)} (hk346 : ∀ (x1 : Int32) (x2 : Int32) (x8 : Int32) (x9 : Int32) (C : St), k346 x1 x2 x8 x9 C = some (r, C2) → ∀ (ed : Nat → Nat) (H : Heap) (locs : List Loc) (ls : Array Slot), HW g ed Z C H → va_S (gP g) s.heap H locs → lv_has ls 10 [(0, .ref (gA g 50 0)), (1, .int x1), (2, .int x2), (8, .int x8), (9, .int x9)] → W p l e ({ frames := 0, cells := 0, slots := 0, locals := 0 } : Room) s m args below meth c H locs 0 0 (MQ below (QG (some (.int r)) g Z C2) args s 0 0 (gP g)) (F0 m 346 ls [])) {x1 : Int32} {x2 : Int32} {x8 : Int32} {x9 : Int32} {t0 : Int32} {t1 : Int32} {C : St} (h : F_X12_submit_384 k346 x1 x2 x8 x9 t0 t1 C = some (r, C2)) {ed : Nat → Nat} {H : Heap} {locs : List Loc} {ls : Array Slot} (hH : HW g ed Z C H) (hS : va_S (gP g) s.heap H locs) (hl : lv_has ls 10 [(0, .ref (gA g 50 0)), (1, .int x1), (2, .int x2), (8, .int x8), (9, .int x9)]) : W p l e ({ frames := 0, cells := 0, slots := 0, locals := 0 } : Room) s m args below meth c H locs 0 0 (MQ below (QG (some (.int r)) g Z C2) args s 0 0 (gP g)) (F0 m 384 ls [.int t0, .int t1, .ref (gA g 137 0)]) := by
  unfold F_X12_submit_384 at h
  obtain ⟨hg1, h⟩ := gd_some h
  obtain ⟨D2, e3, h⟩ := st_some h
  refine as_137 hC hH hS hg1 rfl dX12_submit_384 (fun H locs hH hS => ?_)
  rw [← e3] at hH
  refine lv_iinc (v := x9 + 1) (lv' := [(9, .int (x9 + 1)), (0, .ref (gA g 50 0)), (1, .int x1), (2, .int x2), (8, .int x8)]) hC.1 hC.2.1 dX12_submit_385 hl (k := 4) rfl rfl (by decide) rfl (fun ls hl => ?_)
  refine lv_goto (tgt := 346) hC.1 hC.2.1 dX12_submit_388 (by decide) ?_
  exact hk346 _ _ _ _ _ h _ _ _ _ hH hS (lv_sub hl [1, 2, 3, 4, 0] rfl)
def F_X12_submit_394  : Nat → Int32 → Int32 → Int32 → Int32 → St → Option (Int32 × St)
  | 0, _, _, _, _, _ => none
  | fu + 1, x1, x2, x8, x9, C => if x2 ≤ x9 then (some (x8, C)) else (gd (inb (x1 + x9) 200) (gd (inb (((40 : Int32) * x8) + x9) 240) (st (up C 130 0 0 (((40 : Int32) * x8) + x9).toNatClampNeg (C 103 0 0 (x1 + x9).toNatClampNeg)) (fun D4 => F_X12_submit_394 fu x1 x2 x8 (x9 + 1) D4))))
set_option maxHeartbeats 4000000 in
set_option maxRecDepth 100000 in
theorem B_X12_submit_394 {p : Program} {l : Launch} {e : Env} {s : State} {m : MethodId} {args : Array Value} {below : List Frame} {meth : Method} {c : Code} {g : GP} {Z : St} (hC : CX p s m args c cX12_submit RX12 g) (hE : EZ g s s.heap) (hml : c.maxLocals = 10) (hr : meth.sig.returnType = (some .int)) (hlk : meth.locks = false) {r : Int32} {C2 : St} : ∀ (fu : Nat) (x1 : Int32) (x2 : Int32) (x8 : Int32) (x9 : Int32) (C : St), F_X12_submit_394  fu x1 x2 x8 x9 C = some (r, C2) → ∀ (ed : Nat → Nat) (H : Heap) (locs : List Loc) (ls : Array Slot), HW g ed Z C H → va_S (gP g) s.heap H locs → lv_has ls 10 [(0, .ref (gA g 50 0)), (1, .int x1), (2, .int x2), (8, .int x8), (9, .int x9)] → W p l e ({ frames := 0, cells := 0, slots := 0, locals := 0 } : Room) s m args below meth c H locs 0 0 (MQ below (QG (some (.int r)) g Z C2) args s 0 0 (gP g)) (F0 m 394 ls []) := by
  intro fu
  induction fu with
  | zero =>
    intro x1 x2 x8 x9 C h
    cases h
  | succ fu ih =>
    intro x1 x2 x8 x9 C h ed H locs ls hH hS hl
    rw [F_X12_submit_394] at h
    refine lv_iload hC.1 hC.2.1 dX12_submit_394 (lv_at hl 4 rfl) ?_
    refine lv_iload_n hC.1 hC.2.1 dX12_submit_396 rfl (lv_at hl 2 rfl) ?_
    refine lv_icmp_ge (tgt := 428) hC.1 hC.2.1 dX12_submit_397 (by decide) (fun hc1 => ?_) (fun hc1 => ?_)
    · rw [if_pos hc1] at h
      refine lv_iload hC.1 hC.2.1 dX12_submit_428 (lv_at hl 3 rfl) ?_
      cases h
      exact gret_i hC hr hlk hH hS (Nat.le_of_ble_eq_true rfl) (Nat.le_of_ble_eq_true rfl) dX12_submit_430
    · rw [if_neg hc1] at h
      refine lv_aload_n hC.1 hC.2.1 dX12_submit_400 rfl (lv_at hl 0 rfl) ?_
      refine gf_RX12_77 hC hH rfl dX12_submit_401 ?_
      refine lv_bipush (v := (40 : Int32)) hC.1 hC.2.1 dX12_submit_404 (by decide) ?_
      refine lv_iload hC.1 hC.2.1 dX12_submit_406 (lv_at hl 3 rfl) ?_
      refine lv_imul hC.1 hC.2.1 dX12_submit_408 ?_
      refine lv_iload hC.1 hC.2.1 dX12_submit_409 (lv_at hl 4 rfl) ?_
      refine lv_iadd hC.1 hC.2.1 dX12_submit_411 ?_
      refine lv_aload_n hC.1 hC.2.1 dX12_submit_412 rfl (lv_at hl 0 rfl) ?_
      refine gf_RX12_7 hC hH rfl dX12_submit_413 ?_
      refine lv_iload_n hC.1 hC.2.1 dX12_submit_416 rfl (lv_at hl 1 rfl) ?_
      refine lv_iload hC.1 hC.2.1 dX12_submit_417 (lv_at hl 4 rfl) ?_
      refine lv_iadd hC.1 hC.2.1 dX12_submit_419 ?_
      obtain ⟨hg2, h⟩ := gd_some h
      refine al_103 hC hH hg2 rfl dX12_submit_420 ?_
      obtain ⟨hg3, h⟩ := gd_some h
      obtain ⟨D4, e5, h⟩ := st_some h
      refine as_130 hC hH hS hg3 rfl dX12_submit_421 (fun H locs hH hS => ?_)
      rw [← e5] at hH
      refine lv_iinc (v := x9 + 1) (lv' := [(9, .int (x9 + 1)), (0, .ref (gA g 50 0)), (1, .int x1), (2, .int x2), (8, .int x8)]) hC.1 hC.2.1 dX12_submit_422 hl (k := 4) rfl rfl (by decide) rfl (fun ls hl => ?_)
      refine lv_goto (tgt := 394) hC.1 hC.2.1 dX12_submit_425 (by decide) ?_
      exact ih _ _ _ _ _ h _ _ _ _ hH hS (lv_sub hl [1, 2, 3, 4, 0] rfl)
def F_X12_submit_346  : Nat → Int32 → Int32 → Int32 → Int32 → St → Option (Int32 × St)
  | 0, _, _, _, _, _ => none
  | fu + 1, x1, x2, x8, x9, C => if (128 : Int32) ≤ x9 then (F_X12_submit_394 1000 x1 x2 x8 (0 : Int32) C) else (if x1 ≤ x9 then (F_X12_submit_384 (F_X12_submit_346 fu) x1 x2 x8 x9 (0 : Int32) (((128 : Int32) * x8) + x9) C) else (gd (inb x9 200) (F_X12_submit_384 (F_X12_submit_346 fu) x1 x2 x8 x9 (C 103 0 0 x9.toNatClampNeg) (((128 : Int32) * x8) + x9) C)))
set_option maxHeartbeats 4000000 in
set_option maxRecDepth 100000 in
theorem B_X12_submit_346 {p : Program} {l : Launch} {e : Env} {s : State} {m : MethodId} {args : Array Value} {below : List Frame} {meth : Method} {c : Code} {g : GP} {Z : St} (hC : CX p s m args c cX12_submit RX12 g) (hE : EZ g s s.heap) (hml : c.maxLocals = 10) (hr : meth.sig.returnType = (some .int)) (hlk : meth.locks = false) {r : Int32} {C2 : St} : ∀ (fu : Nat) (x1 : Int32) (x2 : Int32) (x8 : Int32) (x9 : Int32) (C : St), F_X12_submit_346  fu x1 x2 x8 x9 C = some (r, C2) → ∀ (ed : Nat → Nat) (H : Heap) (locs : List Loc) (ls : Array Slot), HW g ed Z C H → va_S (gP g) s.heap H locs → lv_has ls 10 [(0, .ref (gA g 50 0)), (1, .int x1), (2, .int x2), (8, .int x8), (9, .int x9)] → W p l e ({ frames := 0, cells := 0, slots := 0, locals := 0 } : Room) s m args below meth c H locs 0 0 (MQ below (QG (some (.int r)) g Z C2) args s 0 0 (gP g)) (F0 m 346 ls []) := by
  intro fu
  induction fu with
  | zero =>
    intro x1 x2 x8 x9 C h
    cases h
  | succ fu ih =>
    intro x1 x2 x8 x9 C h ed H locs ls hH hS hl
    rw [F_X12_submit_346] at h
    refine lv_iload hC.1 hC.2.1 dX12_submit_346 (lv_at hl 4 rfl) ?_
    refine lv_sipush (v := (128 : Int32)) hC.1 hC.2.1 dX12_submit_348 (by decide) ?_
    refine lv_icmp_ge (tgt := 391) hC.1 hC.2.1 dX12_submit_351 (by decide) (fun hc1 => ?_) (fun hc1 => ?_)
    · rw [if_pos hc1] at h
      refine lv_iconst (v := (0 : Int32)) hC.1 hC.2.1 dX12_submit_391 (by decide) ?_
      refine lv_istore (lv' := [(9, .int (0 : Int32)), (0, .ref (gA g 50 0)), (1, .int x1), (2, .int x2), (8, .int x8)]) hC.1 hC.2.1 dX12_submit_392 hl (by decide) rfl (fun ls hl => ?_)
      exact B_X12_submit_394 hC hE hml hr hlk 1000 _ _ _ _ _ h _ _ _ _ hH hS (lv_sub hl [1, 2, 3, 4, 0] rfl)
    · rw [if_neg hc1] at h
      refine lv_aload_n hC.1 hC.2.1 dX12_submit_354 rfl (lv_at hl 0 rfl) ?_
      refine gf_RX12_98 hC hH rfl dX12_submit_355 ?_
      refine lv_sipush (v := (128 : Int32)) hC.1 hC.2.1 dX12_submit_358 (by decide) ?_
      refine lv_iload hC.1 hC.2.1 dX12_submit_361 (lv_at hl 3 rfl) ?_
      refine lv_imul hC.1 hC.2.1 dX12_submit_363 ?_
      refine lv_iload hC.1 hC.2.1 dX12_submit_364 (lv_at hl 4 rfl) ?_
      refine lv_iadd hC.1 hC.2.1 dX12_submit_366 ?_
      refine lv_iload hC.1 hC.2.1 dX12_submit_367 (lv_at hl 4 rfl) ?_
      refine lv_iload_n hC.1 hC.2.1 dX12_submit_369 rfl (lv_at hl 1 rfl) ?_
      refine lv_icmp_ge (tgt := 383) hC.1 hC.2.1 dX12_submit_370 (by decide) (fun hc2 => ?_) (fun hc2 => ?_)
      · rw [if_pos hc2] at h
        refine lv_iconst (v := (0 : Int32)) hC.1 hC.2.1 dX12_submit_383 (by decide) ?_
        exact B_X12_submit_384 hC hE hml hr hlk ih h hH hS (lv_sub hl [0, 1, 2, 3, 4] rfl)
      · rw [if_neg hc2] at h
        refine lv_aload_n hC.1 hC.2.1 dX12_submit_373 rfl (lv_at hl 0 rfl) ?_
        refine gf_RX12_7 hC hH rfl dX12_submit_374 ?_
        refine lv_iload hC.1 hC.2.1 dX12_submit_377 (lv_at hl 4 rfl) ?_
        obtain ⟨hg3, h⟩ := gd_some h
        refine al_103 hC hH hg3 rfl dX12_submit_379 ?_
        refine lv_goto (tgt := 384) hC.1 hC.2.1 dX12_submit_380 (by decide) ?_
        exact B_X12_submit_384 hC hE hml hr hlk ih h hH hS (lv_sub hl [0, 1, 2, 3, 4] rfl)
def F_X12_submit_294  : Nat → Int32 → Int32 → Int32 → Int32 → St → Option (Int32 × St)
  | 0, _, _, _, _, _ => none
  | fu + 1, x1, x2, x8, x9, C => if (3 : Int32) ≤ x9 then (gd (inb x8 6) (st (up C 131 0 0 x8.toNatClampNeg x2) (fun D3 => st (up D3 132 0 0 x8.toNatClampNeg (0 : Int32)) (fun D5 => st (up D5 136 0 0 x8.toNatClampNeg (0 : Int32)) (fun D7 => F_X12_submit_346 1000 x1 x2 x8 (0 : Int32) D7))))) else (gd (inb (((3 : Int32) * x8) + x9) 18) (st (up C 127 0 0 (((3 : Int32) * x8) + x9).toNatClampNeg (0 : Int32)) (fun D10 => F_X12_submit_294 fu x1 x2 x8 (x9 + 1) D10)))
set_option maxHeartbeats 4000000 in
set_option maxRecDepth 100000 in
theorem B_X12_submit_294 {p : Program} {l : Launch} {e : Env} {s : State} {m : MethodId} {args : Array Value} {below : List Frame} {meth : Method} {c : Code} {g : GP} {Z : St} (hC : CX p s m args c cX12_submit RX12 g) (hE : EZ g s s.heap) (hml : c.maxLocals = 10) (hr : meth.sig.returnType = (some .int)) (hlk : meth.locks = false) {r : Int32} {C2 : St} : ∀ (fu : Nat) (x1 : Int32) (x2 : Int32) (x8 : Int32) (x9 : Int32) (C : St), F_X12_submit_294  fu x1 x2 x8 x9 C = some (r, C2) → ∀ (ed : Nat → Nat) (H : Heap) (locs : List Loc) (ls : Array Slot), HW g ed Z C H → va_S (gP g) s.heap H locs → lv_has ls 10 [(0, .ref (gA g 50 0)), (1, .int x1), (2, .int x2), (8, .int x8), (9, .int x9)] → W p l e ({ frames := 0, cells := 0, slots := 0, locals := 0 } : Room) s m args below meth c H locs 0 0 (MQ below (QG (some (.int r)) g Z C2) args s 0 0 (gP g)) (F0 m 294 ls []) := by
  intro fu
  induction fu with
  | zero =>
    intro x1 x2 x8 x9 C h
    cases h
  | succ fu ih =>
    intro x1 x2 x8 x9 C h ed H locs ls hH hS hl
    rw [F_X12_submit_294] at h
    refine lv_iload hC.1 hC.2.1 dX12_submit_294 (lv_at hl 4 rfl) ?_
    refine lv_iconst (v := (3 : Int32)) hC.1 hC.2.1 dX12_submit_296 (by decide) ?_
    refine lv_icmp_ge (tgt := 319) hC.1 hC.2.1 dX12_submit_297 (by decide) (fun hc1 => ?_) (fun hc1 => ?_)
    · rw [if_pos hc1] at h
      refine lv_aload_n hC.1 hC.2.1 dX12_submit_319 rfl (lv_at hl 0 rfl) ?_
      refine gf_RX12_80 hC hH rfl dX12_submit_320 ?_
      refine lv_iload hC.1 hC.2.1 dX12_submit_323 (lv_at hl 3 rfl) ?_
      refine lv_iload_n hC.1 hC.2.1 dX12_submit_325 rfl (lv_at hl 2 rfl) ?_
      obtain ⟨hg2, h⟩ := gd_some h
      obtain ⟨D3, e4, h⟩ := st_some h
      refine as_131 hC hH hS hg2 rfl dX12_submit_326 (fun H locs hH hS => ?_)
      rw [← e4] at hH
      refine lv_aload_n hC.1 hC.2.1 dX12_submit_327 rfl (lv_at hl 0 rfl) ?_
      refine gf_RX12_83 hC hH rfl dX12_submit_328 ?_
      refine lv_iload hC.1 hC.2.1 dX12_submit_331 (lv_at hl 3 rfl) ?_
      refine lv_iconst (v := (0 : Int32)) hC.1 hC.2.1 dX12_submit_333 (by decide) ?_
      obtain ⟨D5, e6, h⟩ := st_some h
      refine as_132 hC hH hS hg2 rfl dX12_submit_334 (fun H locs hH hS => ?_)
      rw [← e6] at hH
      refine lv_aload_n hC.1 hC.2.1 dX12_submit_335 rfl (lv_at hl 0 rfl) ?_
      refine gf_RX12_95 hC hH rfl dX12_submit_336 ?_
      refine lv_iload hC.1 hC.2.1 dX12_submit_339 (lv_at hl 3 rfl) ?_
      refine lv_iconst (v := (0 : Int32)) hC.1 hC.2.1 dX12_submit_341 (by decide) ?_
      obtain ⟨D7, e8, h⟩ := st_some h
      refine as_136 hC hH hS hg2 rfl dX12_submit_342 (fun H locs hH hS => ?_)
      rw [← e8] at hH
      refine lv_iconst (v := (0 : Int32)) hC.1 hC.2.1 dX12_submit_343 (by decide) ?_
      refine lv_istore (lv' := [(9, .int (0 : Int32)), (0, .ref (gA g 50 0)), (1, .int x1), (2, .int x2), (8, .int x8)]) hC.1 hC.2.1 dX12_submit_344 hl (by decide) rfl (fun ls hl => ?_)
      exact B_X12_submit_346 hC hE hml hr hlk 1000 _ _ _ _ _ h _ _ _ _ hH hS (lv_sub hl [1, 2, 3, 4, 0] rfl)
    · rw [if_neg hc1] at h
      refine lv_aload_n hC.1 hC.2.1 dX12_submit_300 rfl (lv_at hl 0 rfl) ?_
      refine gf_RX12_68 hC hH rfl dX12_submit_301 ?_
      refine lv_iconst (v := (3 : Int32)) hC.1 hC.2.1 dX12_submit_304 (by decide) ?_
      refine lv_iload hC.1 hC.2.1 dX12_submit_305 (lv_at hl 3 rfl) ?_
      refine lv_imul hC.1 hC.2.1 dX12_submit_307 ?_
      refine lv_iload hC.1 hC.2.1 dX12_submit_308 (lv_at hl 4 rfl) ?_
      refine lv_iadd hC.1 hC.2.1 dX12_submit_310 ?_
      refine lv_iconst (v := (0 : Int32)) hC.1 hC.2.1 dX12_submit_311 (by decide) ?_
      obtain ⟨hg9, h⟩ := gd_some h
      obtain ⟨D10, e11, h⟩ := st_some h
      refine as_127 hC hH hS hg9 rfl dX12_submit_312 (fun H locs hH hS => ?_)
      rw [← e11] at hH
      refine lv_iinc (v := x9 + 1) (lv' := [(9, .int (x9 + 1)), (0, .ref (gA g 50 0)), (1, .int x1), (2, .int x2), (8, .int x8)]) hC.1 hC.2.1 dX12_submit_313 hl (k := 4) rfl rfl (by decide) rfl (fun ls hl => ?_)
      refine lv_goto (tgt := 294) hC.1 hC.2.1 dX12_submit_316 (by decide) ?_
      exact ih _ _ _ _ _ h _ _ _ _ hH hS (lv_sub hl [1, 2, 3, 4, 0] rfl)
def F_X12_submit_138  (x1 : Int32) (x2 : Int32) (x3 : Int32) (x4 : Int32) (x5 : Int32) (x7 : Int32) (x8 : Int32) (C : St) : Option (Int32 × St) := if x7 = 0 then (F_X12_submit_150  C) else (if x8 = (6 : Int32) then (F_X12_submit_150  C) else (st (up C 50 0 25 0 ((C 50 0 25 0) + (1 : Int32))) (fun D3 => gd (inb x8 6) (st (up D3 123 0 0 x8.toNatClampNeg (D3 50 0 25 0)) (fun D6 => st (up D6 114 0 0 x8.toNatClampNeg (1 : Int32)) (fun D8 => st (up D8 115 0 0 x8.toNatClampNeg (0 : Int32)) (fun D10 => st (up D10 117 0 0 x8.toNatClampNeg (0 : Int32)) (fun D12 => st (up D12 118 0 0 x8.toNatClampNeg (0 : Int32)) (fun D14 => st (up D14 119 0 0 x8.toNatClampNeg (0 : Int32)) (fun D16 => st (up D16 120 0 0 x8.toNatClampNeg (0 : Int32)) (fun D18 => st (up D18 121 0 0 x8.toNatClampNeg x4) (fun D20 => st (up D20 122 0 0 x8.toNatClampNeg x3) (fun D22 => st (up D22 124 0 0 x8.toNatClampNeg (0 : Int32)) (fun D24 => gd (inb ((3 : Int32) * x8) 18) (st (up D24 126 0 0 ((3 : Int32) * x8).toNatClampNeg (x5 &&& (1 : Int32))) (fun D27 => gd (inb (((3 : Int32) * x8) + (1 : Int32)) 18) (st (up D27 126 0 0 (((3 : Int32) * x8) + (1 : Int32)).toNatClampNeg ((x5 >>> ((1 : Int32) &&& 31)) &&& (1 : Int32))) (fun D30 => gd (inb (((3 : Int32) * x8) + (2 : Int32)) 18) (st (up D30 126 0 0 (((3 : Int32) * x8) + (2 : Int32)).toNatClampNeg (x5 / (4 : Int32))) (fun D33 => F_X12_submit_294 1000 x1 x2 x8 (0 : Int32) D33))))))))))))))))))))
set_option maxHeartbeats 4000000 in
set_option maxRecDepth 100000 in
theorem B_X12_submit_138 {p : Program} {l : Launch} {e : Env} {s : State} {m : MethodId} {args : Array Value} {below : List Frame} {meth : Method} {c : Code} {g : GP} {Z : St} (hC : CX p s m args c cX12_submit RX12 g) (hE : EZ g s s.heap) (hml : c.maxLocals = 10) (hr : meth.sig.returnType = (some .int)) (hlk : meth.locks = false) {r : Int32} {C2 : St} {x1 : Int32} {x2 : Int32} {x3 : Int32} {x4 : Int32} {x5 : Int32} {x7 : Int32} {x8 : Int32} {C : St} (h : F_X12_submit_138  x1 x2 x3 x4 x5 x7 x8 C = some (r, C2)) {ed : Nat → Nat} {H : Heap} {locs : List Loc} {ls : Array Slot} (hH : HW g ed Z C H) (hS : va_S (gP g) s.heap H locs) (hl : lv_has ls 10 [(0, .ref (gA g 50 0)), (1, .int x1), (2, .int x2), (3, .int x3), (4, .int x4), (5, .int x5), (7, .int x7), (8, .int x8)]) : W p l e ({ frames := 0, cells := 0, slots := 0, locals := 0 } : Room) s m args below meth c H locs 0 0 (MQ below (QG (some (.int r)) g Z C2) args s 0 0 (gP g)) (F0 m 138 ls []) := by
  unfold F_X12_submit_138 at h
  refine lv_iload hC.1 hC.2.1 dX12_submit_138 (lv_at hl 6 rfl) ?_
  refine lv_if_eq (tgt := 150) hC.1 hC.2.1 dX12_submit_140 (by decide) (fun hc1 => ?_) (fun hc1 => ?_)
  · rw [if_pos hc1] at h
    exact B_X12_submit_150 hC hE hml hr hlk h hH hS (lv_sub hl [] rfl)
  · rw [if_neg hc1] at h
    refine lv_iload hC.1 hC.2.1 dX12_submit_143 (lv_at hl 7 rfl) ?_
    refine lv_bipush (v := (6 : Int32)) hC.1 hC.2.1 dX12_submit_145 (by decide) ?_
    refine lv_icmp_ne (tgt := 152) hC.1 hC.2.1 dX12_submit_147 (by decide) (fun hc2 => ?_) (fun hc2 => ?_)
    · rw [if_neg hc2] at h
      refine lv_aload_n hC.1 hC.2.1 dX12_submit_152 rfl (lv_at hl 0 rfl) ?_
      refine lv_dup hC.1 hC.2.1 dX12_submit_153 rfl ?_
      refine gf_RX12_343 hC hH rfl dX12_submit_154 ?_
      refine lv_iconst (v := (1 : Int32)) hC.1 hC.2.1 dX12_submit_157 (by decide) ?_
      refine lv_iadd hC.1 hC.2.1 dX12_submit_158 ?_
      obtain ⟨D3, e4, h⟩ := st_some h
      refine pf_RX12_343 hC hH hS  rfl dX12_submit_159 (fun H locs hH hS => ?_)
      rw [← e4] at hH
      refine lv_aload_n hC.1 hC.2.1 dX12_submit_162 rfl (lv_at hl 0 rfl) ?_
      refine gf_RX12_59 hC hH rfl dX12_submit_163 ?_
      refine lv_iload hC.1 hC.2.1 dX12_submit_166 (lv_at hl 7 rfl) ?_
      refine lv_aload_n hC.1 hC.2.1 dX12_submit_168 rfl (lv_at hl 0 rfl) ?_
      refine gf_RX12_343 hC hH rfl dX12_submit_169 ?_
      obtain ⟨hg5, h⟩ := gd_some h
      obtain ⟨D6, e7, h⟩ := st_some h
      refine as_123 hC hH hS hg5 rfl dX12_submit_172 (fun H locs hH hS => ?_)
      rw [← e7] at hH
      refine lv_aload_n hC.1 hC.2.1 dX12_submit_173 rfl (lv_at hl 0 rfl) ?_
      refine gf_RX12_32 hC hH rfl dX12_submit_174 ?_
      refine lv_iload hC.1 hC.2.1 dX12_submit_177 (lv_at hl 7 rfl) ?_
      refine lv_iconst (v := (1 : Int32)) hC.1 hC.2.1 dX12_submit_179 (by decide) ?_
      obtain ⟨D8, e9, h⟩ := st_some h
      refine as_114 hC hH hS hg5 rfl dX12_submit_180 (fun H locs hH hS => ?_)
      rw [← e9] at hH
      refine lv_aload_n hC.1 hC.2.1 dX12_submit_181 rfl (lv_at hl 0 rfl) ?_
      refine gf_RX12_35 hC hH rfl dX12_submit_182 ?_
      refine lv_iload hC.1 hC.2.1 dX12_submit_185 (lv_at hl 7 rfl) ?_
      refine lv_iconst (v := (0 : Int32)) hC.1 hC.2.1 dX12_submit_187 (by decide) ?_
      obtain ⟨D10, e11, h⟩ := st_some h
      refine as_115 hC hH hS hg5 rfl dX12_submit_188 (fun H locs hH hS => ?_)
      rw [← e11] at hH
      refine lv_aload_n hC.1 hC.2.1 dX12_submit_189 rfl (lv_at hl 0 rfl) ?_
      refine gf_RX12_41 hC hH rfl dX12_submit_190 ?_
      refine lv_iload hC.1 hC.2.1 dX12_submit_193 (lv_at hl 7 rfl) ?_
      refine lv_iconst (v := (0 : Int32)) hC.1 hC.2.1 dX12_submit_195 (by decide) ?_
      obtain ⟨D12, e13, h⟩ := st_some h
      refine as_117 hC hH hS hg5 rfl dX12_submit_196 (fun H locs hH hS => ?_)
      rw [← e13] at hH
      refine lv_aload_n hC.1 hC.2.1 dX12_submit_197 rfl (lv_at hl 0 rfl) ?_
      refine gf_RX12_44 hC hH rfl dX12_submit_198 ?_
      refine lv_iload hC.1 hC.2.1 dX12_submit_201 (lv_at hl 7 rfl) ?_
      refine lv_iconst (v := (0 : Int32)) hC.1 hC.2.1 dX12_submit_203 (by decide) ?_
      obtain ⟨D14, e15, h⟩ := st_some h
      refine as_118 hC hH hS hg5 rfl dX12_submit_204 (fun H locs hH hS => ?_)
      rw [← e15] at hH
      refine lv_aload_n hC.1 hC.2.1 dX12_submit_205 rfl (lv_at hl 0 rfl) ?_
      refine gf_RX12_47 hC hH rfl dX12_submit_206 ?_
      refine lv_iload hC.1 hC.2.1 dX12_submit_209 (lv_at hl 7 rfl) ?_
      refine lv_iconst (v := (0 : Int32)) hC.1 hC.2.1 dX12_submit_211 (by decide) ?_
      obtain ⟨D16, e17, h⟩ := st_some h
      refine as_119 hC hH hS hg5 rfl dX12_submit_212 (fun H locs hH hS => ?_)
      rw [← e17] at hH
      refine lv_aload_n hC.1 hC.2.1 dX12_submit_213 rfl (lv_at hl 0 rfl) ?_
      refine gf_RX12_50 hC hH rfl dX12_submit_214 ?_
      refine lv_iload hC.1 hC.2.1 dX12_submit_217 (lv_at hl 7 rfl) ?_
      refine lv_iconst (v := (0 : Int32)) hC.1 hC.2.1 dX12_submit_219 (by decide) ?_
      obtain ⟨D18, e19, h⟩ := st_some h
      refine as_120 hC hH hS hg5 rfl dX12_submit_220 (fun H locs hH hS => ?_)
      rw [← e19] at hH
      refine lv_aload_n hC.1 hC.2.1 dX12_submit_221 rfl (lv_at hl 0 rfl) ?_
      refine gf_RX12_53 hC hH rfl dX12_submit_222 ?_
      refine lv_iload hC.1 hC.2.1 dX12_submit_225 (lv_at hl 7 rfl) ?_
      refine lv_iload hC.1 hC.2.1 dX12_submit_227 (lv_at hl 4 rfl) ?_
      obtain ⟨D20, e21, h⟩ := st_some h
      refine as_121 hC hH hS hg5 rfl dX12_submit_229 (fun H locs hH hS => ?_)
      rw [← e21] at hH
      refine lv_aload_n hC.1 hC.2.1 dX12_submit_230 rfl (lv_at hl 0 rfl) ?_
      refine gf_RX12_56 hC hH rfl dX12_submit_231 ?_
      refine lv_iload hC.1 hC.2.1 dX12_submit_234 (lv_at hl 7 rfl) ?_
      refine lv_iload_n hC.1 hC.2.1 dX12_submit_236 rfl (lv_at hl 3 rfl) ?_
      obtain ⟨D22, e23, h⟩ := st_some h
      refine as_122 hC hH hS hg5 rfl dX12_submit_237 (fun H locs hH hS => ?_)
      rw [← e23] at hH
      refine lv_aload_n hC.1 hC.2.1 dX12_submit_238 rfl (lv_at hl 0 rfl) ?_
      refine gf_RX12_62 hC hH rfl dX12_submit_239 ?_
      refine lv_iload hC.1 hC.2.1 dX12_submit_242 (lv_at hl 7 rfl) ?_
      refine lv_iconst (v := (0 : Int32)) hC.1 hC.2.1 dX12_submit_244 (by decide) ?_
      obtain ⟨D24, e25, h⟩ := st_some h
      refine as_124 hC hH hS hg5 (by decide) rfl dX12_submit_245 (fun H locs hH hS => ?_)
      rw [← e25] at hH
      refine lv_aload_n hC.1 hC.2.1 dX12_submit_246 rfl (lv_at hl 0 rfl) ?_
      refine gf_RX12_65 hC hH rfl dX12_submit_247 ?_
      refine lv_iconst (v := (3 : Int32)) hC.1 hC.2.1 dX12_submit_250 (by decide) ?_
      refine lv_iload hC.1 hC.2.1 dX12_submit_251 (lv_at hl 7 rfl) ?_
      refine lv_imul hC.1 hC.2.1 dX12_submit_253 ?_
      refine lv_iload hC.1 hC.2.1 dX12_submit_254 (lv_at hl 5 rfl) ?_
      refine lv_iconst (v := (1 : Int32)) hC.1 hC.2.1 dX12_submit_256 (by decide) ?_
      refine lv_iand hC.1 hC.2.1 dX12_submit_257 ?_
      obtain ⟨hg26, h⟩ := gd_some h
      obtain ⟨D27, e28, h⟩ := st_some h
      refine as_126 hC hH hS hg26 rfl dX12_submit_258 (fun H locs hH hS => ?_)
      rw [← e28] at hH
      refine lv_aload_n hC.1 hC.2.1 dX12_submit_259 rfl (lv_at hl 0 rfl) ?_
      refine gf_RX12_65 hC hH rfl dX12_submit_260 ?_
      refine lv_iconst (v := (3 : Int32)) hC.1 hC.2.1 dX12_submit_263 (by decide) ?_
      refine lv_iload hC.1 hC.2.1 dX12_submit_264 (lv_at hl 7 rfl) ?_
      refine lv_imul hC.1 hC.2.1 dX12_submit_266 ?_
      refine lv_iconst (v := (1 : Int32)) hC.1 hC.2.1 dX12_submit_267 (by decide) ?_
      refine lv_iadd hC.1 hC.2.1 dX12_submit_268 ?_
      refine lv_iload hC.1 hC.2.1 dX12_submit_269 (lv_at hl 5 rfl) ?_
      refine lv_iconst (v := (1 : Int32)) hC.1 hC.2.1 dX12_submit_271 (by decide) ?_
      refine lv_ishr hC.1 hC.2.1 dX12_submit_272 ?_
      refine lv_iconst (v := (1 : Int32)) hC.1 hC.2.1 dX12_submit_273 (by decide) ?_
      refine lv_iand hC.1 hC.2.1 dX12_submit_274 ?_
      obtain ⟨hg29, h⟩ := gd_some h
      obtain ⟨D30, e31, h⟩ := st_some h
      refine as_126 hC hH hS hg29 rfl dX12_submit_275 (fun H locs hH hS => ?_)
      rw [← e31] at hH
      refine lv_aload_n hC.1 hC.2.1 dX12_submit_276 rfl (lv_at hl 0 rfl) ?_
      refine gf_RX12_65 hC hH rfl dX12_submit_277 ?_
      refine lv_iconst (v := (3 : Int32)) hC.1 hC.2.1 dX12_submit_280 (by decide) ?_
      refine lv_iload hC.1 hC.2.1 dX12_submit_281 (lv_at hl 7 rfl) ?_
      refine lv_imul hC.1 hC.2.1 dX12_submit_283 ?_
      refine lv_iconst (v := (2 : Int32)) hC.1 hC.2.1 dX12_submit_284 (by decide) ?_
      refine lv_iadd hC.1 hC.2.1 dX12_submit_285 ?_
      refine lv_iload hC.1 hC.2.1 dX12_submit_286 (lv_at hl 5 rfl) ?_
      refine lv_iconst (v := (4 : Int32)) hC.1 hC.2.1 dX12_submit_288 (by decide) ?_
      refine lv_idiv hC.1 hC.2.1 dX12_submit_289 (by decide) ?_
      obtain ⟨hg32, h⟩ := gd_some h
      obtain ⟨D33, e34, h⟩ := st_some h
      refine as_126 hC hH hS hg32 rfl dX12_submit_290 (fun H locs hH hS => ?_)
      rw [← e34] at hH
      refine lv_iconst (v := (0 : Int32)) hC.1 hC.2.1 dX12_submit_291 (by decide) ?_
      refine lv_istore (lv' := [(9, .int (0 : Int32)), (0, .ref (gA g 50 0)), (1, .int x1), (2, .int x2), (3, .int x3), (4, .int x4), (5, .int x5), (7, .int x7), (8, .int x8)]) hC.1 hC.2.1 dX12_submit_292 hl (by decide) rfl (fun ls hl => ?_)
      exact B_X12_submit_294 hC hE hml hr hlk 1000 _ _ _ _ _ h _ _ _ _ hH hS (lv_sub hl [1, 2, 3, 8, 0] rfl)
    · rw [if_pos hc2] at h
      exact B_X12_submit_150 hC hE hml hr hlk h hH hS (lv_sub hl [] rfl)
def F_X12_submit_104  : Nat → Int32 → Int32 → Int32 → Int32 → Int32 → Int32 → Int32 → St → Option (Int32 × St)
  | 0, _, _, _, _, _, _, _, _ => none
  | fu + 1, x1, x2, x3, x4, x5, x7, x8, C => if (6 : Int32) ≤ x8 then (F_X12_submit_138 x1 x2 x3 x4 x5 x7 x8 C) else (gd (inb x8 6) (if (C 114 0 0 x8.toNatClampNeg) = 0 then (F_X12_submit_138 x1 x2 x3 x4 x5 x7 x8 C) else (if (C 114 0 0 x8.toNatClampNeg) = (3 : Int32) then (F_X12_submit_138 x1 x2 x3 x4 x5 x7 x8 C) else (F_X12_submit_104 fu x1 x2 x3 x4 x5 x7 (x8 + 1) C))))
set_option maxHeartbeats 4000000 in
set_option maxRecDepth 100000 in
theorem B_X12_submit_104 {p : Program} {l : Launch} {e : Env} {s : State} {m : MethodId} {args : Array Value} {below : List Frame} {meth : Method} {c : Code} {g : GP} {Z : St} (hC : CX p s m args c cX12_submit RX12 g) (hE : EZ g s s.heap) (hml : c.maxLocals = 10) (hr : meth.sig.returnType = (some .int)) (hlk : meth.locks = false) {r : Int32} {C2 : St} : ∀ (fu : Nat) (x1 : Int32) (x2 : Int32) (x3 : Int32) (x4 : Int32) (x5 : Int32) (x7 : Int32) (x8 : Int32) (C : St), F_X12_submit_104  fu x1 x2 x3 x4 x5 x7 x8 C = some (r, C2) → ∀ (ed : Nat → Nat) (H : Heap) (locs : List Loc) (ls : Array Slot), HW g ed Z C H → va_S (gP g) s.heap H locs → lv_has ls 10 [(0, .ref (gA g 50 0)), (1, .int x1), (2, .int x2), (3, .int x3), (4, .int x4), (5, .int x5), (7, .int x7), (8, .int x8)] → W p l e ({ frames := 0, cells := 0, slots := 0, locals := 0 } : Room) s m args below meth c H locs 0 0 (MQ below (QG (some (.int r)) g Z C2) args s 0 0 (gP g)) (F0 m 104 ls []) := by
  intro fu
  induction fu with
  | zero =>
    intro x1 x2 x3 x4 x5 x7 x8 C h
    cases h
  | succ fu ih =>
    intro x1 x2 x3 x4 x5 x7 x8 C h ed H locs ls hH hS hl
    rw [F_X12_submit_104] at h
    refine lv_iload hC.1 hC.2.1 dX12_submit_104 (lv_at hl 7 rfl) ?_
    refine lv_bipush (v := (6 : Int32)) hC.1 hC.2.1 dX12_submit_106 (by decide) ?_
    refine lv_icmp_ge (tgt := 138) hC.1 hC.2.1 dX12_submit_108 (by decide) (fun hc1 => ?_) (fun hc1 => ?_)
    · rw [if_pos hc1] at h
      exact B_X12_submit_138 hC hE hml hr hlk h hH hS (lv_sub hl [0, 1, 2, 3, 4, 5, 6, 7] rfl)
    · rw [if_neg hc1] at h
      refine lv_aload_n hC.1 hC.2.1 dX12_submit_111 rfl (lv_at hl 0 rfl) ?_
      refine gf_RX12_32 hC hH rfl dX12_submit_112 ?_
      refine lv_iload hC.1 hC.2.1 dX12_submit_115 (lv_at hl 7 rfl) ?_
      obtain ⟨hg2, h⟩ := gd_some h
      refine al_114 hC hH hg2 rfl dX12_submit_117 ?_
      refine lv_if_eq (tgt := 138) hC.1 hC.2.1 dX12_submit_118 (by decide) (fun hc3 => ?_) (fun hc3 => ?_)
      · rw [if_pos hc3] at h
        exact B_X12_submit_138 hC hE hml hr hlk h hH hS (lv_sub hl [0, 1, 2, 3, 4, 5, 6, 7] rfl)
      · rw [if_neg hc3] at h
        refine lv_aload_n hC.1 hC.2.1 dX12_submit_121 rfl (lv_at hl 0 rfl) ?_
        refine gf_RX12_32 hC hH rfl dX12_submit_122 ?_
        refine lv_iload hC.1 hC.2.1 dX12_submit_125 (lv_at hl 7 rfl) ?_
        refine al_114 hC hH hg2 rfl dX12_submit_127 ?_
        refine lv_iconst (v := (3 : Int32)) hC.1 hC.2.1 dX12_submit_128 (by decide) ?_
        refine lv_icmp_eq (tgt := 138) hC.1 hC.2.1 dX12_submit_129 (by decide) (fun hc4 => ?_) (fun hc4 => ?_)
        · rw [if_pos hc4] at h
          exact B_X12_submit_138 hC hE hml hr hlk h hH hS (lv_sub hl [0, 1, 2, 3, 4, 5, 6, 7] rfl)
        · rw [if_neg hc4] at h
          refine lv_iinc (v := x8 + 1) (lv' := [(8, .int (x8 + 1)), (0, .ref (gA g 50 0)), (1, .int x1), (2, .int x2), (3, .int x3), (4, .int x4), (5, .int x5), (7, .int x7)]) hC.1 hC.2.1 dX12_submit_132 hl (k := 7) rfl rfl (by decide) rfl (fun ls hl => ?_)
          refine lv_goto (tgt := 104) hC.1 hC.2.1 dX12_submit_135 (by decide) ?_
          exact ih _ _ _ _ _ _ _ _ h _ _ _ _ hH hS (lv_sub hl [1, 2, 3, 4, 5, 6, 7, 0] rfl)
def F_X12_submit_99  (x1 : Int32) (x2 : Int32) (x3 : Int32) (x4 : Int32) (x5 : Int32) (t0 : Int32) (C : St) : Option (Int32 × St) := F_X12_submit_104 1000 x1 x2 x3 x4 x5 t0 (0 : Int32) C
set_option maxHeartbeats 4000000 in
set_option maxRecDepth 100000 in
theorem B_X12_submit_99 {p : Program} {l : Launch} {e : Env} {s : State} {m : MethodId} {args : Array Value} {below : List Frame} {meth : Method} {c : Code} {g : GP} {Z : St} (hC : CX p s m args c cX12_submit RX12 g) (hE : EZ g s s.heap) (hml : c.maxLocals = 10) (hr : meth.sig.returnType = (some .int)) (hlk : meth.locks = false) {r : Int32} {C2 : St} {x1 : Int32} {x2 : Int32} {x3 : Int32} {x4 : Int32} {x5 : Int32} {t0 : Int32} {C : St} (h : F_X12_submit_99  x1 x2 x3 x4 x5 t0 C = some (r, C2)) {ed : Nat → Nat} {H : Heap} {locs : List Loc} {ls : Array Slot} (hH : HW g ed Z C H) (hS : va_S (gP g) s.heap H locs) (hl : lv_has ls 10 [(0, .ref (gA g 50 0)), (1, .int x1), (2, .int x2), (3, .int x3), (4, .int x4), (5, .int x5)]) : W p l e ({ frames := 0, cells := 0, slots := 0, locals := 0 } : Room) s m args below meth c H locs 0 0 (MQ below (QG (some (.int r)) g Z C2) args s 0 0 (gP g)) (F0 m 99 ls [.int t0]) := by
  unfold F_X12_submit_99 at h
  refine lv_istore (lv' := [(7, .int t0), (0, .ref (gA g 50 0)), (1, .int x1), (2, .int x2), (3, .int x3), (4, .int x4), (5, .int x5)]) hC.1 hC.2.1 dX12_submit_99 hl (by decide) rfl (fun ls hl => ?_)
  refine lv_iconst (v := (0 : Int32)) hC.1 hC.2.1 dX12_submit_101 (by decide) ?_
  refine lv_istore (lv' := [(8, .int (0 : Int32)), (7, .int t0), (0, .ref (gA g 50 0)), (1, .int x1), (2, .int x2), (3, .int x3), (4, .int x4), (5, .int x5)]) hC.1 hC.2.1 dX12_submit_102 hl (by decide) rfl (fun ls hl => ?_)
  exact B_X12_submit_104 hC hE hml hr hlk 1000 _ _ _ _ _ _ _ _ h _ _ _ _ hH hS (lv_sub hl [2, 3, 4, 5, 6, 7, 1, 0] rfl)
def F_X12_submit_98  (x1 : Int32) (x2 : Int32) (x3 : Int32) (x4 : Int32) (x5 : Int32) (C : St) : Option (Int32 × St) := F_X12_submit_99 x1 x2 x3 x4 x5 (0 : Int32) C
set_option maxHeartbeats 4000000 in
set_option maxRecDepth 100000 in
theorem B_X12_submit_98 {p : Program} {l : Launch} {e : Env} {s : State} {m : MethodId} {args : Array Value} {below : List Frame} {meth : Method} {c : Code} {g : GP} {Z : St} (hC : CX p s m args c cX12_submit RX12 g) (hE : EZ g s s.heap) (hml : c.maxLocals = 10) (hr : meth.sig.returnType = (some .int)) (hlk : meth.locks = false) {r : Int32} {C2 : St} {x1 : Int32} {x2 : Int32} {x3 : Int32} {x4 : Int32} {x5 : Int32} {C : St} (h : F_X12_submit_98  x1 x2 x3 x4 x5 C = some (r, C2)) {ed : Nat → Nat} {H : Heap} {locs : List Loc} {ls : Array Slot} (hH : HW g ed Z C H) (hS : va_S (gP g) s.heap H locs) (hl : lv_has ls 10 [(0, .ref (gA g 50 0)), (1, .int x1), (2, .int x2), (3, .int x3), (4, .int x4), (5, .int x5)]) : W p l e ({ frames := 0, cells := 0, slots := 0, locals := 0 } : Room) s m args below meth c H locs 0 0 (MQ below (QG (some (.int r)) g Z C2) args s 0 0 (gP g)) (F0 m 98 ls []) := by
  unfold F_X12_submit_98 at h
  refine lv_iconst (v := (0 : Int32)) hC.1 hC.2.1 dX12_submit_98 (by decide) ?_
  exact B_X12_submit_99 hC hE hml hr hlk h hH hS (lv_sub hl [0, 1, 2, 3, 4, 5] rfl)
def F_X12_submit_57  (x1 : Int32) (x2 : Int32) (x3 : Int32) (x4 : Int32) (x5 : Int32) (t0 : Int32) (C : St) : Option (Int32 × St) := if t0 = 0 then (F_X12_submit_98 x1 x2 x3 x4 x5 C) else (if x4 < (1 : Int32) then (F_X12_submit_98 x1 x2 x3 x4 x5 C) else (if (5000 : Int32) < x4 then (F_X12_submit_98 x1 x2 x3 x4 x5 C) else (if x5 < 0 then (F_X12_submit_98 x1 x2 x3 x4 x5 C) else (if (C 50 0 1 0) < (x5 / (4 : Int32)) then (F_X12_submit_98 x1 x2 x3 x4 x5 C) else (F_X12_submit_99 x1 x2 x3 x4 x5 (1 : Int32) C)))))
set_option maxHeartbeats 4000000 in
set_option maxRecDepth 100000 in
theorem B_X12_submit_57 {p : Program} {l : Launch} {e : Env} {s : State} {m : MethodId} {args : Array Value} {below : List Frame} {meth : Method} {c : Code} {g : GP} {Z : St} (hC : CX p s m args c cX12_submit RX12 g) (hE : EZ g s s.heap) (hml : c.maxLocals = 10) (hr : meth.sig.returnType = (some .int)) (hlk : meth.locks = false) {r : Int32} {C2 : St} {x1 : Int32} {x2 : Int32} {x3 : Int32} {x4 : Int32} {x5 : Int32} {t0 : Int32} {C : St} (h : F_X12_submit_57  x1 x2 x3 x4 x5 t0 C = some (r, C2)) {ed : Nat → Nat} {H : Heap} {locs : List Loc} {ls : Array Slot} (hH : HW g ed Z C H) (hS : va_S (gP g) s.heap H locs) (hl : lv_has ls 10 [(0, .ref (gA g 50 0)), (1, .int x1), (2, .int x2), (3, .int x3), (4, .int x4), (5, .int x5)]) : W p l e ({ frames := 0, cells := 0, slots := 0, locals := 0 } : Room) s m args below meth c H locs 0 0 (MQ below (QG (some (.int r)) g Z C2) args s 0 0 (gP g)) (F0 m 57 ls [.int t0]) := by
  unfold F_X12_submit_57 at h
  refine lv_istore (lv' := [(7, .int t0), (0, .ref (gA g 50 0)), (1, .int x1), (2, .int x2), (3, .int x3), (4, .int x4), (5, .int x5)]) hC.1 hC.2.1 dX12_submit_57 hl (by decide) rfl (fun ls hl => ?_)
  refine lv_iload hC.1 hC.2.1 dX12_submit_59 (lv_at hl 0 rfl) ?_
  refine lv_if_eq (tgt := 98) hC.1 hC.2.1 dX12_submit_61 (by decide) (fun hc1 => ?_) (fun hc1 => ?_)
  · rw [if_pos hc1] at h
    exact B_X12_submit_98 hC hE hml hr hlk h hH hS (lv_sub hl [1, 2, 3, 4, 5, 6] rfl)
  · rw [if_neg hc1] at h
    refine lv_iload hC.1 hC.2.1 dX12_submit_64 (lv_at hl 5 rfl) ?_
    refine lv_iconst (v := (1 : Int32)) hC.1 hC.2.1 dX12_submit_66 (by decide) ?_
    refine lv_icmp_lt (tgt := 98) hC.1 hC.2.1 dX12_submit_67 (by decide) (fun hc2 => ?_) (fun hc2 => ?_)
    · rw [if_pos hc2] at h
      exact B_X12_submit_98 hC hE hml hr hlk h hH hS (lv_sub hl [1, 2, 3, 4, 5, 6] rfl)
    · rw [if_neg hc2] at h
      refine lv_iload hC.1 hC.2.1 dX12_submit_70 (lv_at hl 5 rfl) ?_
      refine lv_sipush (v := (5000 : Int32)) hC.1 hC.2.1 dX12_submit_72 (by decide) ?_
      refine lv_icmp_gt (tgt := 98) hC.1 hC.2.1 dX12_submit_75 (by decide) (fun hc3 => ?_) (fun hc3 => ?_)
      · rw [if_pos hc3] at h
        exact B_X12_submit_98 hC hE hml hr hlk h hH hS (lv_sub hl [1, 2, 3, 4, 5, 6] rfl)
      · rw [if_neg hc3] at h
        refine lv_iload hC.1 hC.2.1 dX12_submit_78 (lv_at hl 6 rfl) ?_
        refine lv_if_lt (tgt := 98) hC.1 hC.2.1 dX12_submit_80 (by decide) (fun hc4 => ?_) (fun hc4 => ?_)
        · rw [if_pos hc4] at h
          exact B_X12_submit_98 hC hE hml hr hlk h hH hS (lv_sub hl [1, 2, 3, 4, 5, 6] rfl)
        · rw [if_neg hc4] at h
          refine lv_iload hC.1 hC.2.1 dX12_submit_83 (lv_at hl 6 rfl) ?_
          refine lv_iconst (v := (4 : Int32)) hC.1 hC.2.1 dX12_submit_85 (by decide) ?_
          refine lv_idiv hC.1 hC.2.1 dX12_submit_86 (by decide) ?_
          refine lv_aload_n hC.1 hC.2.1 dX12_submit_87 rfl (lv_at hl 1 rfl) ?_
          refine gf_RX12_154 hC hH rfl dX12_submit_88 ?_
          refine lv_icmp_gt (tgt := 98) hC.1 hC.2.1 dX12_submit_91 (by decide) (fun hc5 => ?_) (fun hc5 => ?_)
          · rw [if_pos hc5] at h
            exact B_X12_submit_98 hC hE hml hr hlk h hH hS (lv_sub hl [1, 2, 3, 4, 5, 6] rfl)
          · rw [if_neg hc5] at h
            refine lv_iconst (v := (1 : Int32)) hC.1 hC.2.1 dX12_submit_94 (by decide) ?_
            refine lv_goto (tgt := 99) hC.1 hC.2.1 dX12_submit_95 (by decide) ?_
            exact B_X12_submit_99 hC hE hml hr hlk h hH hS (lv_sub hl [1, 2, 3, 4, 5, 6] rfl)
def F_X12_submit_56  (x1 : Int32) (x2 : Int32) (x3 : Int32) (x4 : Int32) (x5 : Int32) (C : St) : Option (Int32 × St) := F_X12_submit_57 x1 x2 x3 x4 x5 (0 : Int32) C
set_option maxHeartbeats 4000000 in
set_option maxRecDepth 100000 in
theorem B_X12_submit_56 {p : Program} {l : Launch} {e : Env} {s : State} {m : MethodId} {args : Array Value} {below : List Frame} {meth : Method} {c : Code} {g : GP} {Z : St} (hC : CX p s m args c cX12_submit RX12 g) (hE : EZ g s s.heap) (hml : c.maxLocals = 10) (hr : meth.sig.returnType = (some .int)) (hlk : meth.locks = false) {r : Int32} {C2 : St} {x1 : Int32} {x2 : Int32} {x3 : Int32} {x4 : Int32} {x5 : Int32} {C : St} (h : F_X12_submit_56  x1 x2 x3 x4 x5 C = some (r, C2)) {ed : Nat → Nat} {H : Heap} {locs : List Loc} {ls : Array Slot} (hH : HW g ed Z C H) (hS : va_S (gP g) s.heap H locs) (hl : lv_has ls 10 [(0, .ref (gA g 50 0)), (1, .int x1), (2, .int x2), (3, .int x3), (4, .int x4), (5, .int x5)]) : W p l e ({ frames := 0, cells := 0, slots := 0, locals := 0 } : Room) s m args below meth c H locs 0 0 (MQ below (QG (some (.int r)) g Z C2) args s 0 0 (gP g)) (F0 m 56 ls []) := by
  unfold F_X12_submit_56 at h
  refine lv_iconst (v := (0 : Int32)) hC.1 hC.2.1 dX12_submit_56 (by decide) ?_
  exact B_X12_submit_57 hC hE hml hr hlk h hH hS (lv_sub hl [0, 1, 2, 3, 4, 5] rfl)
def F_X12_submit (x1 : Int32) (x2 : Int32) (x3 : Int32) (x4 : Int32) (x5 : Int32) (C : St) : Option (Int32 × St) := st (up C 50 0 4 0 (0 : Int32)) (fun D1 => if x3 < (1 : Int32) then (F_X12_submit_56 x1 x2 x3 x4 x5 D1) else (if (8 : Int32) < x3 then (F_X12_submit_56 x1 x2 x3 x4 x5 D1) else (if x1 < 0 then (F_X12_submit_56 x1 x2 x3 x4 x5 D1) else (if ((16 : Int32) * x3) < x1 then (F_X12_submit_56 x1 x2 x3 x4 x5 D1) else (if x2 < 0 then (F_X12_submit_56 x1 x2 x3 x4 x5 D1) else (if (40 : Int32) < x2 then (F_X12_submit_56 x1 x2 x3 x4 x5 D1) else (if (C 50 0 4 0) < (x1 + x2) then (F_X12_submit_56 x1 x2 x3 x4 x5 D1) else (F_X12_submit_57 x1 x2 x3 x4 x5 (1 : Int32) D1))))))))
set_option maxHeartbeats 4000000 in
set_option maxRecDepth 100000 in
theorem c_X12_submit {l : Launch} {g : GP} {ed : Nat → Nat} {Z : St} {x1 : Int32} {x2 : Int32} {x3 : Int32} {x4 : Int32} {x5 : Int32} {C : St} {r : Int32} {C2 : St} (h : F_X12_submit x1 x2 x3 x4 x5 C = some (r, C2)) : Met l yX12_submit (Cond.code yX12_submit cX12_submit 10 (some .int) :: lwG) ({ frames := 0, cells := 0, slots := 0, locals := 0 } : Room) (va_Pc [.ref (gA g 50 0), .int x1, .int x2, .int x3, .int x4, .int x5] (PW g Z C ed)) (QG (some (.int r)) g Z C2) 0 0 (gP g) := by
  refine Met.ofW (cc := cX12_submit) (maxL := 10) (ret := (some .int)) (by decide +kernel) rfl ?_
  intro p e s m args below meth c s₁ B hml hv
  obtain ⟨ha, hC, hE, hr, hlk, hH⟩ := g_start B hv
  subst ha
  have hC : CX p s m ([.ref (gA g 50 0), .int x1, .int x2, .int x3, .int x4, .int x5] : List Value).toArray c cX12_submit RX12 g := hC
  have hS : va_S (gP g) s.heap s.heap [] := va_S.rf
  obtain ⟨ls, he, hl⟩ := g_entry m (vs := [.ref (gA g 50 0), .int x1, .int x2, .int x3, .int x4, .int x5]) (n := 10) (List.forall_mem_cons.mpr ⟨rfl, (List.forall_mem_cons.mpr ⟨rfl, (List.forall_mem_cons.mpr ⟨rfl, (List.forall_mem_cons.mpr ⟨rfl, (List.forall_mem_cons.mpr ⟨rfl, (List.forall_mem_cons.mpr ⟨rfl, (fun _ h => absurd h List.not_mem_nil)⟩)⟩)⟩)⟩)⟩)⟩) (Nat.le_of_ble_eq_true rfl)
  rw [he]
  have hl : lv_has ls 10 [(0, .ref (gA g 50 0)), (1, .int x1), (2, .int x2), (3, .int x3), (4, .int x4), (5, .int x5)] := hl
  unfold F_X12_submit at h
  refine lv_aload_n hC.1 hC.2.1 dX12_submit_0 rfl (lv_at hl 0 rfl) ?_
  refine gf_RX12_340 hC hH rfl dX12_submit_1 ?_
  refine lv_istore (lv' := [(6, .int (C 50 0 4 0)), (0, .ref (gA g 50 0)), (1, .int x1), (2, .int x2), (3, .int x3), (4, .int x4), (5, .int x5)]) hC.1 hC.2.1 dX12_submit_4 hl (by decide) rfl (fun ls hl => ?_)
  refine lv_aload_n hC.1 hC.2.1 dX12_submit_6 rfl (lv_at hl 1 rfl) ?_
  refine lv_iconst (v := (0 : Int32)) hC.1 hC.2.1 dX12_submit_7 (by decide) ?_
  obtain ⟨D1, e2, h⟩ := st_some h
  refine pf_RX12_340 hC hH hS  rfl dX12_submit_8 (fun H locs hH hS => ?_)
  rw [← e2] at hH
  refine lv_iload_n hC.1 hC.2.1 dX12_submit_11 rfl (lv_at hl 4 rfl) ?_
  refine lv_iconst (v := (1 : Int32)) hC.1 hC.2.1 dX12_submit_12 (by decide) ?_
  refine lv_icmp_lt (tgt := 56) hC.1 hC.2.1 dX12_submit_13 (by decide) (fun hc3 => ?_) (fun hc3 => ?_)
  · rw [if_pos hc3] at h
    exact B_X12_submit_56 hC hE hml hr hlk h hH hS (lv_sub hl [1, 2, 3, 4, 5, 6] rfl)
  · rw [if_neg hc3] at h
    refine lv_iload_n hC.1 hC.2.1 dX12_submit_16 rfl (lv_at hl 4 rfl) ?_
    refine lv_bipush (v := (8 : Int32)) hC.1 hC.2.1 dX12_submit_17 (by decide) ?_
    refine lv_icmp_gt (tgt := 56) hC.1 hC.2.1 dX12_submit_19 (by decide) (fun hc4 => ?_) (fun hc4 => ?_)
    · rw [if_pos hc4] at h
      exact B_X12_submit_56 hC hE hml hr hlk h hH hS (lv_sub hl [1, 2, 3, 4, 5, 6] rfl)
    · rw [if_neg hc4] at h
      refine lv_iload_n hC.1 hC.2.1 dX12_submit_22 rfl (lv_at hl 2 rfl) ?_
      refine lv_if_lt (tgt := 56) hC.1 hC.2.1 dX12_submit_23 (by decide) (fun hc5 => ?_) (fun hc5 => ?_)
      · rw [if_pos hc5] at h
        exact B_X12_submit_56 hC hE hml hr hlk h hH hS (lv_sub hl [1, 2, 3, 4, 5, 6] rfl)
      · rw [if_neg hc5] at h
        refine lv_iload_n hC.1 hC.2.1 dX12_submit_26 rfl (lv_at hl 2 rfl) ?_
        refine lv_bipush (v := (16 : Int32)) hC.1 hC.2.1 dX12_submit_27 (by decide) ?_
        refine lv_iload_n hC.1 hC.2.1 dX12_submit_29 rfl (lv_at hl 4 rfl) ?_
        refine lv_imul hC.1 hC.2.1 dX12_submit_30 ?_
        refine lv_icmp_gt (tgt := 56) hC.1 hC.2.1 dX12_submit_31 (by decide) (fun hc6 => ?_) (fun hc6 => ?_)
        · rw [if_pos hc6] at h
          exact B_X12_submit_56 hC hE hml hr hlk h hH hS (lv_sub hl [1, 2, 3, 4, 5, 6] rfl)
        · rw [if_neg hc6] at h
          refine lv_iload_n hC.1 hC.2.1 dX12_submit_34 rfl (lv_at hl 3 rfl) ?_
          refine lv_if_lt (tgt := 56) hC.1 hC.2.1 dX12_submit_35 (by decide) (fun hc7 => ?_) (fun hc7 => ?_)
          · rw [if_pos hc7] at h
            exact B_X12_submit_56 hC hE hml hr hlk h hH hS (lv_sub hl [1, 2, 3, 4, 5, 6] rfl)
          · rw [if_neg hc7] at h
            refine lv_iload_n hC.1 hC.2.1 dX12_submit_38 rfl (lv_at hl 3 rfl) ?_
            refine lv_bipush (v := (40 : Int32)) hC.1 hC.2.1 dX12_submit_39 (by decide) ?_
            refine lv_icmp_gt (tgt := 56) hC.1 hC.2.1 dX12_submit_41 (by decide) (fun hc8 => ?_) (fun hc8 => ?_)
            · rw [if_pos hc8] at h
              exact B_X12_submit_56 hC hE hml hr hlk h hH hS (lv_sub hl [1, 2, 3, 4, 5, 6] rfl)
            · rw [if_neg hc8] at h
              refine lv_iload_n hC.1 hC.2.1 dX12_submit_44 rfl (lv_at hl 2 rfl) ?_
              refine lv_iload_n hC.1 hC.2.1 dX12_submit_45 rfl (lv_at hl 3 rfl) ?_
              refine lv_iadd hC.1 hC.2.1 dX12_submit_46 ?_
              refine lv_iload hC.1 hC.2.1 dX12_submit_47 (lv_at hl 0 rfl) ?_
              refine lv_icmp_gt (tgt := 56) hC.1 hC.2.1 dX12_submit_49 (by decide) (fun hc9 => ?_) (fun hc9 => ?_)
              · rw [if_pos hc9] at h
                exact B_X12_submit_56 hC hE hml hr hlk h hH hS (lv_sub hl [1, 2, 3, 4, 5, 6] rfl)
              · rw [if_neg hc9] at h
                refine lv_iconst (v := (1 : Int32)) hC.1 hC.2.1 dX12_submit_52 (by decide) ?_
                refine lv_goto (tgt := 57) hC.1 hC.2.1 dX12_submit_53 (by decide) ?_
                exact B_X12_submit_57 hC hE hml hr hlk h hH hS (lv_sub hl [1, 2, 3, 4, 5, 6] rfl)
def F_X12_tick_11   (C : St) : Option (Int32 × St) := some ((-1 : Int32), C)
set_option maxHeartbeats 4000000 in
set_option maxRecDepth 100000 in
theorem B_X12_tick_11 {p : Program} {l : Launch} {e : Env} {s : State} {m : MethodId} {args : Array Value} {below : List Frame} {meth : Method} {c : Code} {g : GP} {Z : St} (hC : CX p s m args c cX12_tick RX12 g) (hE : EZ g s s.heap) (hml : c.maxLocals = 3) (hr : meth.sig.returnType = (some .int)) (hlk : meth.locks = false) {r : Int32} {C2 : St}  {C : St} (h : F_X12_tick_11   C = some (r, C2)) {ed : Nat → Nat} {H : Heap} {locs : List Loc} {ls : Array Slot} (hH : HW g ed Z C H) (hS : va_S (gP g) s.heap H locs) (hl : lv_has ls 3 []) : W p l e ({ frames := 10, cells := 0, slots := 0, locals := 234 } : Room) s m args below meth c H locs 0 0 (MQ below (QG (some (.int r)) g Z C2) args s 0 0 (gP g)) (F0 m 11 ls []) := by
  unfold F_X12_tick_11 at h
  refine lv_iconst (v := (-1 : Int32)) hC.1 hC.2.1 dX12_tick_11 (by decide) ?_
  cases h
  exact gret_i hC hr hlk hH hS (Nat.le_of_ble_eq_true rfl) (Nat.le_of_ble_eq_true rfl) dX12_tick_12
def F_X12_tick_15  : Nat → Int32 → Int32 → St → Option (Int32 × St)
  | 0, _, _, _ => none
  | fu + 1, x1, x2, C => if x1 ≤ x2 then (some (C 50 0 5 0, C)) else (bd2 (F_X12_oneTick  C) (fun r2 D3 => F_X12_tick_15 fu x1 (x2 + 1) D3))
set_option maxHeartbeats 4000000 in
set_option maxRecDepth 100000 in
theorem B_X12_tick_15 {p : Program} {l : Launch} {e : Env} {s : State} {m : MethodId} {args : Array Value} {below : List Frame} {meth : Method} {c : Code} {g : GP} {Z : St} (hC : CX p s m args c cX12_tick RX12 g) (hE : EZ g s s.heap) (hml : c.maxLocals = 3) (hr : meth.sig.returnType = (some .int)) (hlk : meth.locks = false) {r : Int32} {C2 : St} : ∀ (fu : Nat) (x1 : Int32) (x2 : Int32) (C : St), F_X12_tick_15  fu x1 x2 C = some (r, C2) → ∀ (ed : Nat → Nat) (H : Heap) (locs : List Loc) (ls : Array Slot), HW g ed Z C H → va_S (gP g) s.heap H locs → lv_has ls 3 [(0, .ref (gA g 50 0)), (1, .int x1), (2, .int x2)] → W p l e ({ frames := 10, cells := 0, slots := 0, locals := 234 } : Room) s m args below meth c H locs 0 0 (MQ below (QG (some (.int r)) g Z C2) args s 0 0 (gP g)) (F0 m 15 ls []) := by
  intro fu
  induction fu with
  | zero =>
    intro x1 x2 C h
    cases h
  | succ fu ih =>
    intro x1 x2 C h ed H locs ls hH hS hl
    rw [F_X12_tick_15] at h
    refine lv_iload_n hC.1 hC.2.1 dX12_tick_15 rfl (lv_at hl 2 rfl) ?_
    refine lv_iload_n hC.1 hC.2.1 dX12_tick_16 rfl (lv_at hl 1 rfl) ?_
    refine lv_icmp_ge (tgt := 30) hC.1 hC.2.1 dX12_tick_17 (by decide) (fun hc1 => ?_) (fun hc1 => ?_)
    · rw [if_pos hc1] at h
      refine lv_aload_n hC.1 hC.2.1 dX12_tick_30 rfl (lv_at hl 0 rfl) ?_
      refine gf_RX12_167 hC hH rfl dX12_tick_31 ?_
      cases h
      exact gret_i hC hr hlk hH hS (Nat.le_of_ble_eq_true rfl) (Nat.le_of_ble_eq_true rfl) dX12_tick_34
    · rw [if_neg hc1] at h
      refine lv_aload_n hC.1 hC.2.1 dX12_tick_20 rfl (lv_at hl 0 rfl) ?_
      obtain ⟨r2, D3, hF4, h⟩ := bd2_some h
      refine gcallV (As := []) (rest := []) (Cn := RX12) hC hE hml hH hS (c_X12_oneTick hF4) ⟨wd_1348, wd_1350, wp_33, wd_17, wd_1351⟩ hd_X12_oneTick rfl rfl ⟨Nat.le_of_ble_eq_true rfl, Nat.le_of_ble_eq_true rfl⟩ rfl (hw_recv (q := 50) (i := 0) hC hH ⟨Nat.zero_lt_one, fun h => absurd h (by decide)⟩ rfl rfl) rfl hl.1 rfl (Nat.le_of_ble_eq_true rfl) dX12_tick_21 ⟨Nat.le_of_ble_eq_true rfl, Nat.le_of_ble_eq_true rfl⟩ (fun ed H locs hH hS => ?_)
      refine W.eq (g2 := F0 m 24 ls []) rfl ?_
      refine lv_iinc (v := x2 + 1) (lv' := [(2, .int (x2 + 1)), (0, .ref (gA g 50 0)), (1, .int x1)]) hC.1 hC.2.1 dX12_tick_24 hl (k := 2) rfl rfl (by decide) rfl (fun ls hl => ?_)
      refine lv_goto (tgt := 15) hC.1 hC.2.1 dX12_tick_27 (by decide) ?_
      exact ih _ _ _ h _ _ _ _ hH hS (lv_sub hl [1, 2, 0] rfl)
def F_X12_tick (x1 : Int32) (C : St) : Option (Int32 × St) := if x1 < 0 then (F_X12_tick_11  C) else (if x1 ≤ (200 : Int32) then (F_X12_tick_15 1000 x1 (0 : Int32) C) else (F_X12_tick_11  C))
set_option maxHeartbeats 4000000 in
set_option maxRecDepth 100000 in
theorem c_X12_tick {l : Launch} {g : GP} {ed : Nat → Nat} {Z : St} {x1 : Int32} {C : St} {r : Int32} {C2 : St} (h : F_X12_tick x1 C = some (r, C2)) : Met l yX12_tick (Cond.code yX12_tick cX12_tick 3 (some .int) :: lwG) ({ frames := 10, cells := 0, slots := 0, locals := 234 } : Room) (va_Pc [.ref (gA g 50 0), .int x1] (PW g Z C ed)) (QG (some (.int r)) g Z C2) 0 0 (gP g) := by
  refine Met.ofW (cc := cX12_tick) (maxL := 3) (ret := (some .int)) (by decide +kernel) rfl ?_
  intro p e s m args below meth c s₁ B hml hv
  obtain ⟨ha, hC, hE, hr, hlk, hH⟩ := g_start B hv
  subst ha
  have hC : CX p s m ([.ref (gA g 50 0), .int x1] : List Value).toArray c cX12_tick RX12 g := hC
  have hS : va_S (gP g) s.heap s.heap [] := va_S.rf
  obtain ⟨ls, he, hl⟩ := g_entry m (vs := [.ref (gA g 50 0), .int x1]) (n := 3) (List.forall_mem_cons.mpr ⟨rfl, (List.forall_mem_cons.mpr ⟨rfl, (fun _ h => absurd h List.not_mem_nil)⟩)⟩) (Nat.le_of_ble_eq_true rfl)
  rw [he]
  have hl : lv_has ls 3 [(0, .ref (gA g 50 0)), (1, .int x1)] := hl
  unfold F_X12_tick at h
  refine lv_iload_n hC.1 hC.2.1 dX12_tick_0 rfl (lv_at hl 1 rfl) ?_
  refine lv_if_lt (tgt := 11) hC.1 hC.2.1 dX12_tick_1 (by decide) (fun hc1 => ?_) (fun hc1 => ?_)
  · rw [if_pos hc1] at h
    exact B_X12_tick_11 hC hE hml hr hlk h hH hS (lv_sub hl [] rfl)
  · rw [if_neg hc1] at h
    refine lv_iload_n hC.1 hC.2.1 dX12_tick_4 rfl (lv_at hl 1 rfl) ?_
    refine lv_sipush (v := (200 : Int32)) hC.1 hC.2.1 dX12_tick_5 (by decide) ?_
    refine lv_icmp_le (tgt := 13) hC.1 hC.2.1 dX12_tick_8 (by decide) (fun hc2 => ?_) (fun hc2 => ?_)
    · rw [if_pos hc2] at h
      refine lv_iconst (v := (0 : Int32)) hC.1 hC.2.1 dX12_tick_13 (by decide) ?_
      refine lv_istore_n (i := 2) (lv' := [(2, .int (0 : Int32)), (0, .ref (gA g 50 0)), (1, .int x1)]) hC.1 hC.2.1 dX12_tick_14 rfl hl (by decide) rfl (fun ls hl => ?_)
      exact B_X12_tick_15 hC hE hml hr hlk 1000 _ _ _ h _ _ _ _ hH hS (lv_sub hl [1, 2, 0] rfl)
    · rw [if_neg hc2] at h
      exact B_X12_tick_11 hC hE hml hr hlk h hH hS (lv_sub hl [] rfl)
def F_X12_done_65   (C : St) : Option (Int32 × St) := some ((0 : Int32), C)
set_option maxHeartbeats 4000000 in
set_option maxRecDepth 100000 in
theorem B_X12_done_65 {p : Program} {l : Launch} {e : Env} {s : State} {m : MethodId} {args : Array Value} {below : List Frame} {meth : Method} {c : Code} {g : GP} {Z : St} (hC : CX p s m args c cX12_done RX12 g) (hE : EZ g s s.heap) (hml : c.maxLocals = 2) (hr : meth.sig.returnType = (some .boolean)) (hlk : meth.locks = false) {r : Int32} {C2 : St}  {C : St} (h : F_X12_done_65   C = some (r, C2)) {ed : Nat → Nat} {H : Heap} {locs : List Loc} {ls : Array Slot} (hH : HW g ed Z C H) (hS : va_S (gP g) s.heap H locs) (hl : lv_has ls 2 []) : W p l e ({ frames := 3, cells := 0, slots := 0, locals := 65 } : Room) s m args below meth c H locs 0 0 (MQ below (QG (some (.int r)) g Z C2) args s 0 0 (gP g)) (F0 m 65 ls []) := by
  unfold F_X12_done_65 at h
  refine lv_iconst (v := (0 : Int32)) hC.1 hC.2.1 dX12_done_65 (by decide) ?_
  cases h
  exact gret_z hC hr hlk (by decide) hH hS (Nat.le_of_ble_eq_true rfl) (Nat.le_of_ble_eq_true rfl) dX12_done_66
def F_X12_done_41  (x1 : Int32) (C : St) : Option (Int32 × St) := if x1 = (2 : Int32) then (if (C 50 0 53 0) = 0 then (F_X12_done_65  C) else (st (up C 50 0 53 0 (0 : Int32)) (fun D3 => bd2 (F_X12_raise (5 : Int32) D3) (fun r5 D6 => some ((1 : Int32), D6))))) else (F_X12_done_65  C)
set_option maxHeartbeats 4000000 in
set_option maxRecDepth 100000 in
theorem B_X12_done_41 {p : Program} {l : Launch} {e : Env} {s : State} {m : MethodId} {args : Array Value} {below : List Frame} {meth : Method} {c : Code} {g : GP} {Z : St} (hC : CX p s m args c cX12_done RX12 g) (hE : EZ g s s.heap) (hml : c.maxLocals = 2) (hr : meth.sig.returnType = (some .boolean)) (hlk : meth.locks = false) {r : Int32} {C2 : St} {x1 : Int32} {C : St} (h : F_X12_done_41  x1 C = some (r, C2)) {ed : Nat → Nat} {H : Heap} {locs : List Loc} {ls : Array Slot} (hH : HW g ed Z C H) (hS : va_S (gP g) s.heap H locs) (hl : lv_has ls 2 [(0, .ref (gA g 50 0)), (1, .int x1)]) : W p l e ({ frames := 3, cells := 0, slots := 0, locals := 65 } : Room) s m args below meth c H locs 0 0 (MQ below (QG (some (.int r)) g Z C2) args s 0 0 (gP g)) (F0 m 41 ls []) := by
  unfold F_X12_done_41 at h
  refine lv_iload_n hC.1 hC.2.1 dX12_done_41 rfl (lv_at hl 1 rfl) ?_
  refine lv_iconst (v := (2 : Int32)) hC.1 hC.2.1 dX12_done_42 (by decide) ?_
  refine lv_icmp_ne (tgt := 65) hC.1 hC.2.1 dX12_done_43 (by decide) (fun hc1 => ?_) (fun hc1 => ?_)
  · rw [if_neg hc1] at h
    exact B_X12_done_65 hC hE hml hr hlk h hH hS (lv_sub hl [] rfl)
  · rw [if_pos hc1] at h
    refine lv_aload_n hC.1 hC.2.1 dX12_done_46 rfl (lv_at hl 0 rfl) ?_
    refine gf_RX12_313 hC hH rfl dX12_done_47 ?_
    refine lv_if_eq (tgt := 65) hC.1 hC.2.1 dX12_done_50 (by decide) (fun hc2 => ?_) (fun hc2 => ?_)
    · rw [if_pos hc2] at h
      exact B_X12_done_65 hC hE hml hr hlk h hH hS (lv_sub hl [] rfl)
    · rw [if_neg hc2] at h
      refine lv_aload_n hC.1 hC.2.1 dX12_done_53 rfl (lv_at hl 0 rfl) ?_
      refine lv_iconst (v := (0 : Int32)) hC.1 hC.2.1 dX12_done_54 (by decide) ?_
      obtain ⟨D3, e4, h⟩ := st_some h
      refine pf_RX12_313 hC hH hS (by decide) rfl dX12_done_55 (fun H locs hH hS => ?_)
      rw [← e4] at hH
      refine lv_aload_n hC.1 hC.2.1 dX12_done_58 rfl (lv_at hl 0 rfl) ?_
      refine lv_iconst (v := (5 : Int32)) hC.1 hC.2.1 dX12_done_59 (by decide) ?_
      obtain ⟨r5, D6, hF7, h⟩ := bd2_some h
      refine gcallV (As := [.int (5 : Int32)]) (rest := []) (Cn := RX12) hC hE hml hH hS (c_X12_raise hF7) ⟨wd_1416, wd_1418, wp_50, wd_17, wd_1419⟩ hd_X12_raise rfl rfl ⟨Nat.le_of_ble_eq_true rfl, Nat.le_of_ble_eq_true rfl⟩ rfl (hw_recv (q := 50) (i := 0) hC hH ⟨Nat.zero_lt_one, fun h => absurd h (by decide)⟩ rfl rfl) rfl hl.1 rfl (Nat.le_of_ble_eq_true rfl) dX12_done_60 ⟨Nat.le_of_ble_eq_true rfl, Nat.le_of_ble_eq_true rfl⟩ (fun ed H locs hH hS => ?_)
      refine W.eq (g2 := F0 m 63 ls []) rfl ?_
      refine lv_iconst (v := (1 : Int32)) hC.1 hC.2.1 dX12_done_63 (by decide) ?_
      cases h
      exact gret_z hC hr hlk (by decide) hH hS (Nat.le_of_ble_eq_true rfl) (Nat.le_of_ble_eq_true rfl) dX12_done_64
def F_X12_done_17  (x1 : Int32) (C : St) : Option (Int32 × St) := if x1 = (1 : Int32) then (if (C 50 0 52 0) = 0 then (F_X12_done_41 x1 C) else (st (up C 50 0 52 0 (0 : Int32)) (fun D3 => bd2 (F_X12_raise (3 : Int32) D3) (fun r5 D6 => some ((1 : Int32), D6))))) else (F_X12_done_41 x1 C)
set_option maxHeartbeats 4000000 in
set_option maxRecDepth 100000 in
theorem B_X12_done_17 {p : Program} {l : Launch} {e : Env} {s : State} {m : MethodId} {args : Array Value} {below : List Frame} {meth : Method} {c : Code} {g : GP} {Z : St} (hC : CX p s m args c cX12_done RX12 g) (hE : EZ g s s.heap) (hml : c.maxLocals = 2) (hr : meth.sig.returnType = (some .boolean)) (hlk : meth.locks = false) {r : Int32} {C2 : St} {x1 : Int32} {C : St} (h : F_X12_done_17  x1 C = some (r, C2)) {ed : Nat → Nat} {H : Heap} {locs : List Loc} {ls : Array Slot} (hH : HW g ed Z C H) (hS : va_S (gP g) s.heap H locs) (hl : lv_has ls 2 [(0, .ref (gA g 50 0)), (1, .int x1)]) : W p l e ({ frames := 3, cells := 0, slots := 0, locals := 65 } : Room) s m args below meth c H locs 0 0 (MQ below (QG (some (.int r)) g Z C2) args s 0 0 (gP g)) (F0 m 17 ls []) := by
  unfold F_X12_done_17 at h
  refine lv_iload_n hC.1 hC.2.1 dX12_done_17 rfl (lv_at hl 1 rfl) ?_
  refine lv_iconst (v := (1 : Int32)) hC.1 hC.2.1 dX12_done_18 (by decide) ?_
  refine lv_icmp_ne (tgt := 41) hC.1 hC.2.1 dX12_done_19 (by decide) (fun hc1 => ?_) (fun hc1 => ?_)
  · rw [if_neg hc1] at h
    exact B_X12_done_41 hC hE hml hr hlk h hH hS (lv_sub hl [0, 1] rfl)
  · rw [if_pos hc1] at h
    refine lv_aload_n hC.1 hC.2.1 dX12_done_22 rfl (lv_at hl 0 rfl) ?_
    refine gf_RX12_306 hC hH rfl dX12_done_23 ?_
    refine lv_if_eq (tgt := 41) hC.1 hC.2.1 dX12_done_26 (by decide) (fun hc2 => ?_) (fun hc2 => ?_)
    · rw [if_pos hc2] at h
      exact B_X12_done_41 hC hE hml hr hlk h hH hS (lv_sub hl [0, 1] rfl)
    · rw [if_neg hc2] at h
      refine lv_aload_n hC.1 hC.2.1 dX12_done_29 rfl (lv_at hl 0 rfl) ?_
      refine lv_iconst (v := (0 : Int32)) hC.1 hC.2.1 dX12_done_30 (by decide) ?_
      obtain ⟨D3, e4, h⟩ := st_some h
      refine pf_RX12_306 hC hH hS (by decide) rfl dX12_done_31 (fun H locs hH hS => ?_)
      rw [← e4] at hH
      refine lv_aload_n hC.1 hC.2.1 dX12_done_34 rfl (lv_at hl 0 rfl) ?_
      refine lv_iconst (v := (3 : Int32)) hC.1 hC.2.1 dX12_done_35 (by decide) ?_
      obtain ⟨r5, D6, hF7, h⟩ := bd2_some h
      refine gcallV (As := [.int (3 : Int32)]) (rest := []) (Cn := RX12) hC hE hml hH hS (c_X12_raise hF7) ⟨wd_1416, wd_1418, wp_50, wd_17, wd_1419⟩ hd_X12_raise rfl rfl ⟨Nat.le_of_ble_eq_true rfl, Nat.le_of_ble_eq_true rfl⟩ rfl (hw_recv (q := 50) (i := 0) hC hH ⟨Nat.zero_lt_one, fun h => absurd h (by decide)⟩ rfl rfl) rfl hl.1 rfl (Nat.le_of_ble_eq_true rfl) dX12_done_36 ⟨Nat.le_of_ble_eq_true rfl, Nat.le_of_ble_eq_true rfl⟩ (fun ed H locs hH hS => ?_)
      refine W.eq (g2 := F0 m 39 ls []) rfl ?_
      refine lv_iconst (v := (1 : Int32)) hC.1 hC.2.1 dX12_done_39 (by decide) ?_
      cases h
      exact gret_z hC hr hlk (by decide) hH hS (Nat.le_of_ble_eq_true rfl) (Nat.le_of_ble_eq_true rfl) dX12_done_40
def F_X12_done (x1 : Int32) (C : St) : Option (Int32 × St) := if x1 = 0 then (if (C 50 0 45 0) ≤ 0 then (F_X12_done_17 x1 C) else (bd2 (F_X12_drumIsDone  C) (fun r3 D4 => some ((1 : Int32), D4)))) else (F_X12_done_17 x1 C)
set_option maxHeartbeats 4000000 in
set_option maxRecDepth 100000 in
theorem c_X12_done {l : Launch} {g : GP} {ed : Nat → Nat} {Z : St} {x1 : Int32} {C : St} {r : Int32} {C2 : St} (h : F_X12_done x1 C = some (r, C2)) : Met l yX12_done (Cond.code yX12_done cX12_done 2 (some .boolean) :: lwG) ({ frames := 3, cells := 0, slots := 0, locals := 65 } : Room) (va_Pc [.ref (gA g 50 0), .int x1] (PW g Z C ed)) (QG (some (.int r)) g Z C2) 0 0 (gP g) := by
  refine Met.ofW (cc := cX12_done) (maxL := 2) (ret := (some .boolean)) (by decide +kernel) rfl ?_
  intro p e s m args below meth c s₁ B hml hv
  obtain ⟨ha, hC, hE, hr, hlk, hH⟩ := g_start B hv
  subst ha
  have hC : CX p s m ([.ref (gA g 50 0), .int x1] : List Value).toArray c cX12_done RX12 g := hC
  have hS : va_S (gP g) s.heap s.heap [] := va_S.rf
  obtain ⟨ls, he, hl⟩ := g_entry m (vs := [.ref (gA g 50 0), .int x1]) (n := 2) (List.forall_mem_cons.mpr ⟨rfl, (List.forall_mem_cons.mpr ⟨rfl, (fun _ h => absurd h List.not_mem_nil)⟩)⟩) (Nat.le_of_ble_eq_true rfl)
  rw [he]
  have hl : lv_has ls 2 [(0, .ref (gA g 50 0)), (1, .int x1)] := hl
  unfold F_X12_done at h
  refine lv_iload_n hC.1 hC.2.1 dX12_done_0 rfl (lv_at hl 1 rfl) ?_
  refine lv_if_ne (tgt := 17) hC.1 hC.2.1 dX12_done_1 (by decide) (fun hc1 => ?_) (fun hc1 => ?_)
  · rw [if_neg hc1] at h
    exact B_X12_done_17 hC hE hml hr hlk h hH hS (lv_sub hl [0, 1] rfl)
  · rw [if_pos hc1] at h
    refine lv_aload_n hC.1 hC.2.1 dX12_done_4 rfl (lv_at hl 0 rfl) ?_
    refine gf_RX12_264 hC hH rfl dX12_done_5 ?_
    refine lv_if_le (tgt := 17) hC.1 hC.2.1 dX12_done_8 (by decide) (fun hc2 => ?_) (fun hc2 => ?_)
    · rw [if_pos hc2] at h
      exact B_X12_done_17 hC hE hml hr hlk h hH hS (lv_sub hl [0, 1] rfl)
    · rw [if_neg hc2] at h
      refine lv_aload_n hC.1 hC.2.1 dX12_done_11 rfl (lv_at hl 0 rfl) ?_
      obtain ⟨r3, D4, hF5, h⟩ := bd2_some h
      refine gcallV (As := []) (rest := []) (Cn := RX12) hC hE hml hH hS (c_X12_drumIsDone hF5) ⟨wd_1496, wd_1498, wp_68, wd_17, wd_1499⟩ hd_X12_drumIsDone rfl rfl ⟨Nat.le_of_ble_eq_true rfl, Nat.le_of_ble_eq_true rfl⟩ rfl (hw_recv (q := 50) (i := 0) hC hH ⟨Nat.zero_lt_one, fun h => absurd h (by decide)⟩ rfl rfl) rfl hl.1 rfl (Nat.le_of_ble_eq_true rfl) dX12_done_12 ⟨Nat.le_of_ble_eq_true rfl, Nat.le_of_ble_eq_true rfl⟩ (fun ed H locs hH hS => ?_)
      refine W.eq (g2 := F0 m 15 ls []) rfl ?_
      refine lv_iconst (v := (1 : Int32)) hC.1 hC.2.1 dX12_done_15 (by decide) ?_
      cases h
      exact gret_z hC hr hlk (by decide) hH hS (Nat.le_of_ble_eq_true rfl) (Nat.le_of_ble_eq_true rfl) dX12_done_16
def F_X12_type_19  : Nat → Int32 → St → Option (Int32 × St)
  | 0, _, _ => none
  | fu + 1, x2, C => if (C 50 0 67 0) ≤ x2 then (gd (inb (C 50 0 68 0) 8) (st (up C 165 0 0 (C 50 0 68 0).toNatClampNeg (C 50 0 67 0)) (fun D3 => st (up D3 50 0 68 0 ((D3 50 0 68 0) + (1 : Int32))) (fun D5 => st (up D5 50 0 67 0 (0 : Int32)) (fun D7 => bd2 (F_X12_raise (6 : Int32) D7) (fun r9 D10 => some ((1 : Int32), D10))))))) else (gd (inb x2 20) (gd (inb (((20 : Int32) * (C 50 0 68 0)) + x2) 160) (st (up C 164 0 0 (((20 : Int32) * (C 50 0 68 0)) + x2).toNatClampNeg (C 163 0 0 x2.toNatClampNeg)) (fun D14 => F_X12_type_19 fu (x2 + 1) D14))))
set_option maxHeartbeats 4000000 in
set_option maxRecDepth 100000 in
theorem B_X12_type_19 {p : Program} {l : Launch} {e : Env} {s : State} {m : MethodId} {args : Array Value} {below : List Frame} {meth : Method} {c : Code} {g : GP} {Z : St} (hC : CX p s m args c cX12_type RX12 g) (hE : EZ g s s.heap) (hml : c.maxLocals = 3) (hr : meth.sig.returnType = (some .boolean)) (hlk : meth.locks = false) {r : Int32} {C2 : St} : ∀ (fu : Nat) (x2 : Int32) (C : St), F_X12_type_19  fu x2 C = some (r, C2) → ∀ (ed : Nat → Nat) (H : Heap) (locs : List Loc) (ls : Array Slot), HW g ed Z C H → va_S (gP g) s.heap H locs → lv_has ls 3 [(0, .ref (gA g 50 0)), (2, .int x2)] → W p l e ({ frames := 2, cells := 0, slots := 0, locals := 44 } : Room) s m args below meth c H locs 0 0 (MQ below (QG (some (.int r)) g Z C2) args s 0 0 (gP g)) (F0 m 19 ls []) := by
  intro fu
  induction fu with
  | zero =>
    intro x2 C h
    cases h
  | succ fu ih =>
    intro x2 C h ed H locs ls hH hS hl
    rw [F_X12_type_19] at h
    refine lv_iload_n hC.1 hC.2.1 dX12_type_19 rfl (lv_at hl 1 rfl) ?_
    refine lv_aload_n hC.1 hC.2.1 dX12_type_20 rfl (lv_at hl 0 rfl) ?_
    refine gf_RX12_352 hC hH rfl dX12_type_21 ?_
    refine lv_icmp_ge (tgt := 53) hC.1 hC.2.1 dX12_type_24 (by decide) (fun hc1 => ?_) (fun hc1 => ?_)
    · rw [if_pos hc1] at h
      refine lv_aload_n hC.1 hC.2.1 dX12_type_53 rfl (lv_at hl 0 rfl) ?_
      refine gf_RX12_137 hC hH rfl dX12_type_54 ?_
      refine lv_aload_n hC.1 hC.2.1 dX12_type_57 rfl (lv_at hl 0 rfl) ?_
      refine gf_RX12_322 hC hH rfl dX12_type_58 ?_
      refine lv_aload_n hC.1 hC.2.1 dX12_type_61 rfl (lv_at hl 0 rfl) ?_
      refine gf_RX12_352 hC hH rfl dX12_type_62 ?_
      obtain ⟨hg2, h⟩ := gd_some h
      obtain ⟨D3, e4, h⟩ := st_some h
      refine as_165 hC hH hS hg2 rfl dX12_type_65 (fun H locs hH hS => ?_)
      rw [← e4] at hH
      refine lv_aload_n hC.1 hC.2.1 dX12_type_66 rfl (lv_at hl 0 rfl) ?_
      refine lv_dup hC.1 hC.2.1 dX12_type_67 rfl ?_
      refine gf_RX12_322 hC hH rfl dX12_type_68 ?_
      refine lv_iconst (v := (1 : Int32)) hC.1 hC.2.1 dX12_type_71 (by decide) ?_
      refine lv_iadd hC.1 hC.2.1 dX12_type_72 ?_
      obtain ⟨D5, e6, h⟩ := st_some h
      refine pf_RX12_322 hC hH hS  rfl dX12_type_73 (fun H locs hH hS => ?_)
      rw [← e6] at hH
      refine lv_aload_n hC.1 hC.2.1 dX12_type_76 rfl (lv_at hl 0 rfl) ?_
      refine lv_iconst (v := (0 : Int32)) hC.1 hC.2.1 dX12_type_77 (by decide) ?_
      obtain ⟨D7, e8, h⟩ := st_some h
      refine pf_RX12_352 hC hH hS  rfl dX12_type_78 (fun H locs hH hS => ?_)
      rw [← e8] at hH
      refine lv_aload_n hC.1 hC.2.1 dX12_type_81 rfl (lv_at hl 0 rfl) ?_
      refine lv_bipush (v := (6 : Int32)) hC.1 hC.2.1 dX12_type_82 (by decide) ?_
      obtain ⟨r9, D10, hF11, h⟩ := bd2_some h
      refine gcallV (As := [.int (6 : Int32)]) (rest := []) (Cn := RX12) hC hE hml hH hS (c_X12_raise hF11) ⟨wd_1416, wd_1418, wp_50, wd_17, wd_1419⟩ hd_X12_raise rfl rfl ⟨Nat.le_of_ble_eq_true rfl, Nat.le_of_ble_eq_true rfl⟩ rfl (hw_recv (q := 50) (i := 0) hC hH ⟨Nat.zero_lt_one, fun h => absurd h (by decide)⟩ rfl rfl) rfl hl.1 rfl (Nat.le_of_ble_eq_true rfl) dX12_type_84 ⟨Nat.le_of_ble_eq_true rfl, Nat.le_of_ble_eq_true rfl⟩ (fun ed H locs hH hS => ?_)
      refine W.eq (g2 := F0 m 87 ls []) rfl ?_
      refine lv_iconst (v := (1 : Int32)) hC.1 hC.2.1 dX12_type_87 (by decide) ?_
      cases h
      exact gret_z hC hr hlk (by decide) hH hS (Nat.le_of_ble_eq_true rfl) (Nat.le_of_ble_eq_true rfl) dX12_type_88
    · rw [if_neg hc1] at h
      refine lv_aload_n hC.1 hC.2.1 dX12_type_27 rfl (lv_at hl 0 rfl) ?_
      refine gf_RX12_134 hC hH rfl dX12_type_28 ?_
      refine lv_bipush (v := (20 : Int32)) hC.1 hC.2.1 dX12_type_31 (by decide) ?_
      refine lv_aload_n hC.1 hC.2.1 dX12_type_33 rfl (lv_at hl 0 rfl) ?_
      refine gf_RX12_322 hC hH rfl dX12_type_34 ?_
      refine lv_imul hC.1 hC.2.1 dX12_type_37 ?_
      refine lv_iload_n hC.1 hC.2.1 dX12_type_38 rfl (lv_at hl 1 rfl) ?_
      refine lv_iadd hC.1 hC.2.1 dX12_type_39 ?_
      refine lv_aload_n hC.1 hC.2.1 dX12_type_40 rfl (lv_at hl 0 rfl) ?_
      refine gf_RX12_131 hC hH rfl dX12_type_41 ?_
      refine lv_iload_n hC.1 hC.2.1 dX12_type_44 rfl (lv_at hl 1 rfl) ?_
      obtain ⟨hg12, h⟩ := gd_some h
      refine al_163 hC hH hg12 rfl dX12_type_45 ?_
      obtain ⟨hg13, h⟩ := gd_some h
      obtain ⟨D14, e15, h⟩ := st_some h
      refine as_164 hC hH hS hg13 rfl dX12_type_46 (fun H locs hH hS => ?_)
      rw [← e15] at hH
      refine lv_iinc (v := x2 + 1) (lv' := [(2, .int (x2 + 1)), (0, .ref (gA g 50 0))]) hC.1 hC.2.1 dX12_type_47 hl (k := 1) rfl rfl (by decide) rfl (fun ls hl => ?_)
      refine lv_goto (tgt := 19) hC.1 hC.2.1 dX12_type_50 (by decide) ?_
      exact ih _ _ h _ _ _ _ hH hS (lv_sub hl [1, 0] rfl)
def F_X12_type_110   (C : St) : Option (Int32 × St) := some ((0 : Int32), C)
set_option maxHeartbeats 4000000 in
set_option maxRecDepth 100000 in
theorem B_X12_type_110 {p : Program} {l : Launch} {e : Env} {s : State} {m : MethodId} {args : Array Value} {below : List Frame} {meth : Method} {c : Code} {g : GP} {Z : St} (hC : CX p s m args c cX12_type RX12 g) (hE : EZ g s s.heap) (hml : c.maxLocals = 3) (hr : meth.sig.returnType = (some .boolean)) (hlk : meth.locks = false) {r : Int32} {C2 : St}  {C : St} (h : F_X12_type_110   C = some (r, C2)) {ed : Nat → Nat} {H : Heap} {locs : List Loc} {ls : Array Slot} (hH : HW g ed Z C H) (hS : va_S (gP g) s.heap H locs) (hl : lv_has ls 3 []) : W p l e ({ frames := 2, cells := 0, slots := 0, locals := 44 } : Room) s m args below meth c H locs 0 0 (MQ below (QG (some (.int r)) g Z C2) args s 0 0 (gP g)) (F0 m 110 ls []) := by
  unfold F_X12_type_110 at h
  refine lv_iconst (v := (0 : Int32)) hC.1 hC.2.1 dX12_type_110 (by decide) ?_
  cases h
  exact gret_z hC hr hlk (by decide) hH hS (Nat.le_of_ble_eq_true rfl) (Nat.le_of_ble_eq_true rfl) dX12_type_111
def F_X12_type (x1 : Int32) (C : St) : Option (Int32 × St) := if x1 = (10 : Int32) then (if (C 50 0 68 0) = (8 : Int32) then (some ((0 : Int32), C)) else (F_X12_type_19 1000 (0 : Int32) C)) else (if x1 < (32 : Int32) then (F_X12_type_110  C) else (if (126 : Int32) < x1 then (F_X12_type_110  C) else (if (C 50 0 67 0) = (20 : Int32) then (F_X12_type_110  C) else (gd (inb (C 50 0 67 0) 20) (st (up C 163 0 0 (C 50 0 67 0).toNatClampNeg x1) (fun D6 => st (up D6 50 0 67 0 ((D6 50 0 67 0) + (1 : Int32))) (fun D8 => some ((1 : Int32), D8))))))))
set_option maxHeartbeats 4000000 in
set_option maxRecDepth 100000 in
theorem c_X12_type {l : Launch} {g : GP} {ed : Nat → Nat} {Z : St} {x1 : Int32} {C : St} {r : Int32} {C2 : St} (h : F_X12_type x1 C = some (r, C2)) : Met l yX12_type (Cond.code yX12_type cX12_type 3 (some .boolean) :: lwG) ({ frames := 2, cells := 0, slots := 0, locals := 44 } : Room) (va_Pc [.ref (gA g 50 0), .int x1] (PW g Z C ed)) (QG (some (.int r)) g Z C2) 0 0 (gP g) := by
  refine Met.ofW (cc := cX12_type) (maxL := 3) (ret := (some .boolean)) (by decide +kernel) rfl ?_
  intro p e s m args below meth c s₁ B hml hv
  obtain ⟨ha, hC, hE, hr, hlk, hH⟩ := g_start B hv
  subst ha
  have hC : CX p s m ([.ref (gA g 50 0), .int x1] : List Value).toArray c cX12_type RX12 g := hC
  have hS : va_S (gP g) s.heap s.heap [] := va_S.rf
  obtain ⟨ls, he, hl⟩ := g_entry m (vs := [.ref (gA g 50 0), .int x1]) (n := 3) (List.forall_mem_cons.mpr ⟨rfl, (List.forall_mem_cons.mpr ⟨rfl, (fun _ h => absurd h List.not_mem_nil)⟩)⟩) (Nat.le_of_ble_eq_true rfl)
  rw [he]
  have hl : lv_has ls 3 [(0, .ref (gA g 50 0)), (1, .int x1)] := hl
  unfold F_X12_type at h
  refine lv_iload_n hC.1 hC.2.1 dX12_type_0 rfl (lv_at hl 1 rfl) ?_
  refine lv_bipush (v := (10 : Int32)) hC.1 hC.2.1 dX12_type_1 (by decide) ?_
  refine lv_icmp_ne (tgt := 89) hC.1 hC.2.1 dX12_type_3 (by decide) (fun hc1 => ?_) (fun hc1 => ?_)
  · rw [if_neg hc1] at h
    refine lv_iload_n hC.1 hC.2.1 dX12_type_89 rfl (lv_at hl 1 rfl) ?_
    refine lv_bipush (v := (32 : Int32)) hC.1 hC.2.1 dX12_type_90 (by decide) ?_
    refine lv_icmp_lt (tgt := 110) hC.1 hC.2.1 dX12_type_92 (by decide) (fun hc2 => ?_) (fun hc2 => ?_)
    · rw [if_pos hc2] at h
      exact B_X12_type_110 hC hE hml hr hlk h hH hS (lv_sub hl [] rfl)
    · rw [if_neg hc2] at h
      refine lv_iload_n hC.1 hC.2.1 dX12_type_95 rfl (lv_at hl 1 rfl) ?_
      refine lv_bipush (v := (126 : Int32)) hC.1 hC.2.1 dX12_type_96 (by decide) ?_
      refine lv_icmp_gt (tgt := 110) hC.1 hC.2.1 dX12_type_98 (by decide) (fun hc3 => ?_) (fun hc3 => ?_)
      · rw [if_pos hc3] at h
        exact B_X12_type_110 hC hE hml hr hlk h hH hS (lv_sub hl [] rfl)
      · rw [if_neg hc3] at h
        refine lv_aload_n hC.1 hC.2.1 dX12_type_101 rfl (lv_at hl 0 rfl) ?_
        refine gf_RX12_352 hC hH rfl dX12_type_102 ?_
        refine lv_bipush (v := (20 : Int32)) hC.1 hC.2.1 dX12_type_105 (by decide) ?_
        refine lv_icmp_ne (tgt := 112) hC.1 hC.2.1 dX12_type_107 (by decide) (fun hc4 => ?_) (fun hc4 => ?_)
        · rw [if_neg hc4] at h
          refine lv_aload_n hC.1 hC.2.1 dX12_type_112 rfl (lv_at hl 0 rfl) ?_
          refine gf_RX12_131 hC hH rfl dX12_type_113 ?_
          refine lv_aload_n hC.1 hC.2.1 dX12_type_116 rfl (lv_at hl 0 rfl) ?_
          refine gf_RX12_352 hC hH rfl dX12_type_117 ?_
          refine lv_iload_n hC.1 hC.2.1 dX12_type_120 rfl (lv_at hl 1 rfl) ?_
          obtain ⟨hg5, h⟩ := gd_some h
          obtain ⟨D6, e7, h⟩ := st_some h
          refine as_163 hC hH hS hg5 rfl dX12_type_121 (fun H locs hH hS => ?_)
          rw [← e7] at hH
          refine lv_aload_n hC.1 hC.2.1 dX12_type_122 rfl (lv_at hl 0 rfl) ?_
          refine lv_dup hC.1 hC.2.1 dX12_type_123 rfl ?_
          refine gf_RX12_352 hC hH rfl dX12_type_124 ?_
          refine lv_iconst (v := (1 : Int32)) hC.1 hC.2.1 dX12_type_127 (by decide) ?_
          refine lv_iadd hC.1 hC.2.1 dX12_type_128 ?_
          obtain ⟨D8, e9, h⟩ := st_some h
          refine pf_RX12_352 hC hH hS  rfl dX12_type_129 (fun H locs hH hS => ?_)
          rw [← e9] at hH
          refine lv_iconst (v := (1 : Int32)) hC.1 hC.2.1 dX12_type_132 (by decide) ?_
          cases h
          exact gret_z hC hr hlk (by decide) hH hS (Nat.le_of_ble_eq_true rfl) (Nat.le_of_ble_eq_true rfl) dX12_type_133
        · rw [if_pos hc4] at h
          exact B_X12_type_110 hC hE hml hr hlk h hH hS (lv_sub hl [] rfl)
  · rw [if_pos hc1] at h
    refine lv_aload_n hC.1 hC.2.1 dX12_type_6 rfl (lv_at hl 0 rfl) ?_
    refine gf_RX12_322 hC hH rfl dX12_type_7 ?_
    refine lv_bipush (v := (8 : Int32)) hC.1 hC.2.1 dX12_type_10 (by decide) ?_
    refine lv_icmp_ne (tgt := 17) hC.1 hC.2.1 dX12_type_12 (by decide) (fun hc10 => ?_) (fun hc10 => ?_)
    · rw [if_neg hc10] at h
      refine lv_iconst (v := (0 : Int32)) hC.1 hC.2.1 dX12_type_17 (by decide) ?_
      refine lv_istore_n (i := 2) (lv' := [(2, .int (0 : Int32)), (0, .ref (gA g 50 0)), (1, .int x1)]) hC.1 hC.2.1 dX12_type_18 rfl hl (by decide) rfl (fun ls hl => ?_)
      exact B_X12_type_19 hC hE hml hr hlk 1000 _ _ h _ _ _ _ hH hS (lv_sub hl [1, 0] rfl)
    · rw [if_pos hc10] at h
      refine lv_iconst (v := (0 : Int32)) hC.1 hC.2.1 dX12_type_15 (by decide) ?_
      cases h
      exact gret_z hC hr hlk (by decide) hH hS (Nat.le_of_ble_eq_true rfl) (Nat.le_of_ble_eq_true rfl) dX12_type_16
def F_X12_process_19   (C : St) : Option (Int32 × St) := some ((-1 : Int32), C)
set_option maxHeartbeats 4000000 in
set_option maxRecDepth 100000 in
theorem B_X12_process_19 {p : Program} {l : Launch} {e : Env} {s : State} {m : MethodId} {args : Array Value} {below : List Frame} {meth : Method} {c : Code} {g : GP} {Z : St} (hC : CX p s m args c cX12_process RX12 g) (hE : EZ g s s.heap) (hml : c.maxLocals = 5) (hr : meth.sig.returnType = (some .int)) (hlk : meth.locks = false) {r : Int32} {C2 : St}  {C : St} (h : F_X12_process_19   C = some (r, C2)) {ed : Nat → Nat} {H : Heap} {locs : List Loc} {ls : Array Slot} (hH : HW g ed Z C H) (hS : va_S (gP g) s.heap H locs) (hl : lv_has ls 5 []) : W p l e ({ frames := 0, cells := 0, slots := 0, locals := 0 } : Room) s m args below meth c H locs 0 0 (MQ below (QG (some (.int r)) g Z C2) args s 0 0 (gP g)) (F0 m 19 ls []) := by
  unfold F_X12_process_19 at h
  refine lv_iconst (v := (-1 : Int32)) hC.1 hC.2.1 dX12_process_19 (by decide) ?_
  cases h
  exact gret_i hC hr hlk hH hS (Nat.le_of_ble_eq_true rfl) (Nat.le_of_ble_eq_true rfl) dX12_process_20
def F_X12_process_53 (k30 : Int32 → Int32 → Int32 → St → Option (Int32 × St)) (x1 : Int32) (x3 : Int32) (x4 : Int32) (C : St) : Option (Int32 × St) := k30 x1 x3 (x4 + 1) C
set_option maxHeartbeats 4000000 in
set_option maxRecDepth 100000 in
theorem B_X12_process_53 {p : Program} {l : Launch} {e : Env} {s : State} {m : MethodId} {args : Array Value} {below : List Frame} {meth : Method} {c : Code} {g : GP} {Z : St} (hC : CX p s m args c cX12_process RX12 g) (hE : EZ g s s.heap) (hml : c.maxLocals = 5) (hr : meth.sig.returnType = (some .int)) (hlk : meth.locks = false) {r : Int32} {C2 : St} {k30 : Int32 → Int32 → Int32 → St → Option (Int32 × St)} (hk30 : ∀ (x1 : Int32) (x3 : Int32) (x4 : Int32) (C : St), k30 x1 x3 x4 C = some (r, C2) → ∀ (ed : Nat → Nat) (H : Heap) (locs : List Loc) (ls : Array Slot), HW g ed Z C H → va_S (gP g) s.heap H locs → lv_has ls 5 [(0, .ref (gA g 50 0)), (1, .int x1), (3, .int x3), (4, .int x4)] → W p l e ({ frames := 0, cells := 0, slots := 0, locals := 0 } : Room) s m args below meth c H locs 0 0 (MQ below (QG (some (.int r)) g Z C2) args s 0 0 (gP g)) (F0 m 30 ls [])) {x1 : Int32} {x3 : Int32} {x4 : Int32} {C : St} (h : F_X12_process_53 k30 x1 x3 x4 C = some (r, C2)) {ed : Nat → Nat} {H : Heap} {locs : List Loc} {ls : Array Slot} (hH : HW g ed Z C H) (hS : va_S (gP g) s.heap H locs) (hl : lv_has ls 5 [(0, .ref (gA g 50 0)), (1, .int x1), (3, .int x3), (4, .int x4)]) : W p l e ({ frames := 0, cells := 0, slots := 0, locals := 0 } : Room) s m args below meth c H locs 0 0 (MQ below (QG (some (.int r)) g Z C2) args s 0 0 (gP g)) (F0 m 53 ls []) := by
  unfold F_X12_process_53 at h
  refine lv_iinc (v := x4 + 1) (lv' := [(4, .int (x4 + 1)), (0, .ref (gA g 50 0)), (1, .int x1), (3, .int x3)]) hC.1 hC.2.1 dX12_process_53 hl (k := 3) rfl rfl (by decide) rfl (fun ls hl => ?_)
  refine lv_goto (tgt := 30) hC.1 hC.2.1 dX12_process_56 (by decide) ?_
  exact hk30 _ _ _ _ h _ _ _ _ hH hS (lv_sub hl [1, 2, 3, 0] rfl)
def F_X12_process_30  : Nat → Int32 → Int32 → Int32 → St → Option (Int32 × St)
  | 0, _, _, _, _ => none
  | fu + 1, x1, x3, x4, C => if (C 50 0 6 0) ≤ x4 then (some (x3, C)) else (gd (inb x4 10) (if (C 108 0 0 x4.toNatClampNeg) = x1 then (F_X12_process_53 (F_X12_process_30 fu) x1 x4 x4 C) else (F_X12_process_53 (F_X12_process_30 fu) x1 x3 x4 C)))
set_option maxHeartbeats 4000000 in
set_option maxRecDepth 100000 in
theorem B_X12_process_30 {p : Program} {l : Launch} {e : Env} {s : State} {m : MethodId} {args : Array Value} {below : List Frame} {meth : Method} {c : Code} {g : GP} {Z : St} (hC : CX p s m args c cX12_process RX12 g) (hE : EZ g s s.heap) (hml : c.maxLocals = 5) (hr : meth.sig.returnType = (some .int)) (hlk : meth.locks = false) {r : Int32} {C2 : St} : ∀ (fu : Nat) (x1 : Int32) (x3 : Int32) (x4 : Int32) (C : St), F_X12_process_30  fu x1 x3 x4 C = some (r, C2) → ∀ (ed : Nat → Nat) (H : Heap) (locs : List Loc) (ls : Array Slot), HW g ed Z C H → va_S (gP g) s.heap H locs → lv_has ls 5 [(0, .ref (gA g 50 0)), (1, .int x1), (3, .int x3), (4, .int x4)] → W p l e ({ frames := 0, cells := 0, slots := 0, locals := 0 } : Room) s m args below meth c H locs 0 0 (MQ below (QG (some (.int r)) g Z C2) args s 0 0 (gP g)) (F0 m 30 ls []) := by
  intro fu
  induction fu with
  | zero =>
    intro x1 x3 x4 C h
    cases h
  | succ fu ih =>
    intro x1 x3 x4 C h ed H locs ls hH hS hl
    rw [F_X12_process_30] at h
    refine lv_iload hC.1 hC.2.1 dX12_process_30 (lv_at hl 3 rfl) ?_
    refine lv_aload_n hC.1 hC.2.1 dX12_process_32 rfl (lv_at hl 0 rfl) ?_
    refine gf_RX12_160 hC hH rfl dX12_process_33 ?_
    refine lv_icmp_ge (tgt := 59) hC.1 hC.2.1 dX12_process_36 (by decide) (fun hc1 => ?_) (fun hc1 => ?_)
    · rw [if_pos hc1] at h
      refine lv_iload_n hC.1 hC.2.1 dX12_process_59 rfl (lv_at hl 2 rfl) ?_
      cases h
      exact gret_i hC hr hlk hH hS (Nat.le_of_ble_eq_true rfl) (Nat.le_of_ble_eq_true rfl) dX12_process_60
    · rw [if_neg hc1] at h
      refine lv_aload_n hC.1 hC.2.1 dX12_process_39 rfl (lv_at hl 0 rfl) ?_
      refine gf_RX12_13 hC hH rfl dX12_process_40 ?_
      refine lv_iload hC.1 hC.2.1 dX12_process_43 (lv_at hl 3 rfl) ?_
      obtain ⟨hg2, h⟩ := gd_some h
      refine al_108 hC hH hg2 rfl dX12_process_45 ?_
      refine lv_iload_n hC.1 hC.2.1 dX12_process_46 rfl (lv_at hl 1 rfl) ?_
      refine lv_icmp_ne (tgt := 53) hC.1 hC.2.1 dX12_process_47 (by decide) (fun hc3 => ?_) (fun hc3 => ?_)
      · rw [if_neg hc3] at h
        exact B_X12_process_53 hC hE hml hr hlk ih h hH hS (lv_sub hl [0, 1, 2, 3] rfl)
      · rw [if_pos hc3] at h
        refine lv_iload hC.1 hC.2.1 dX12_process_50 (lv_at hl 3 rfl) ?_
        refine lv_istore_n (i := 3) (lv' := [(3, .int x4), (0, .ref (gA g 50 0)), (1, .int x1), (4, .int x4)]) hC.1 hC.2.1 dX12_process_52 rfl hl (by decide) rfl (fun ls hl => ?_)
        exact B_X12_process_53 hC hE hml hr hlk ih h hH hS (lv_sub hl [1, 2, 0, 3] rfl)
def F_X12_process_112  (t0 : Int32) (C : St) : Option (Int32 × St) := some (t0, C)
set_option maxHeartbeats 4000000 in
set_option maxRecDepth 100000 in
theorem B_X12_process_112 {p : Program} {l : Launch} {e : Env} {s : State} {m : MethodId} {args : Array Value} {below : List Frame} {meth : Method} {c : Code} {g : GP} {Z : St} (hC : CX p s m args c cX12_process RX12 g) (hE : EZ g s s.heap) (hml : c.maxLocals = 5) (hr : meth.sig.returnType = (some .int)) (hlk : meth.locks = false) {r : Int32} {C2 : St} {t0 : Int32} {C : St} (h : F_X12_process_112  t0 C = some (r, C2)) {ed : Nat → Nat} {H : Heap} {locs : List Loc} {ls : Array Slot} (hH : HW g ed Z C H) (hS : va_S (gP g) s.heap H locs) (hl : lv_has ls 5 []) : W p l e ({ frames := 0, cells := 0, slots := 0, locals := 0 } : Room) s m args below meth c H locs 0 0 (MQ below (QG (some (.int r)) g Z C2) args s 0 0 (gP g)) (F0 m 112 ls [.int t0]) := by
  unfold F_X12_process_112 at h
  cases h
  exact gret_i hC hr hlk hH hS (Nat.le_of_ble_eq_true rfl) (Nat.le_of_ble_eq_true rfl) dX12_process_112
def F_X12_process_105   (C : St) : Option (Int32 × St) := F_X12_process_112 (8 : Int32) C
set_option maxHeartbeats 4000000 in
set_option maxRecDepth 100000 in
theorem B_X12_process_105 {p : Program} {l : Launch} {e : Env} {s : State} {m : MethodId} {args : Array Value} {below : List Frame} {meth : Method} {c : Code} {g : GP} {Z : St} (hC : CX p s m args c cX12_process RX12 g) (hE : EZ g s s.heap) (hml : c.maxLocals = 5) (hr : meth.sig.returnType = (some .int)) (hlk : meth.locks = false) {r : Int32} {C2 : St}  {C : St} (h : F_X12_process_105   C = some (r, C2)) {ed : Nat → Nat} {H : Heap} {locs : List Loc} {ls : Array Slot} (hH : HW g ed Z C H) (hS : va_S (gP g) s.heap H locs) (hl : lv_has ls 5 []) : W p l e ({ frames := 0, cells := 0, slots := 0, locals := 0 } : Room) s m args below meth c H locs 0 0 (MQ below (QG (some (.int r)) g Z C2) args s 0 0 (gP g)) (F0 m 105 ls []) := by
  unfold F_X12_process_105 at h
  refine lv_bipush (v := (8 : Int32)) hC.1 hC.2.1 dX12_process_105 (by decide) ?_
  refine lv_goto (tgt := 112) hC.1 hC.2.1 dX12_process_107 (by decide) ?_
  exact B_X12_process_112 hC hE hml hr hlk h hH hS (lv_sub hl [] rfl)
def F_X12_process (x1 : Int32) (x2 : Int32) (C : St) : Option (Int32 × St) := if x1 < 0 then (F_X12_process_19  C) else (if (10 : Int32) ≤ x1 then (F_X12_process_19  C) else (if x2 < 0 then (F_X12_process_19  C) else (if x2 ≤ (1 : Int32) then (if x2 = 0 then (F_X12_process_30 1000 x1 (-1 : Int32) (0 : Int32) C) else (if (6 : Int32) ≤ x1 then (gd (inb x1 10) (if (C 111 0 0 x1.toNatClampNeg) = (-1 : Int32) then (F_X12_process_112 (0 : Int32) C) else (if (C 111 0 0 x1.toNatClampNeg) = (1 : Int32) then (F_X12_process_105  C) else (if (C 111 0 0 x1.toNatClampNeg) = (3 : Int32) then (F_X12_process_105  C) else (if (C 111 0 0 x1.toNatClampNeg) = (5 : Int32) then (F_X12_process_105  C) else (F_X12_process_112 (7 : Int32) C)))))) else (gd (inb x1 10) (some (C 110 0 0 x1.toNatClampNeg, C))))) else (F_X12_process_19  C))))
set_option maxHeartbeats 4000000 in
set_option maxRecDepth 100000 in
theorem c_X12_process {l : Launch} {g : GP} {ed : Nat → Nat} {Z : St} {x1 : Int32} {x2 : Int32} {C : St} {r : Int32} {C2 : St} (h : F_X12_process x1 x2 C = some (r, C2)) : Met l yX12_process (Cond.code yX12_process cX12_process 5 (some .int) :: lwG) ({ frames := 0, cells := 0, slots := 0, locals := 0 } : Room) (va_Pc [.ref (gA g 50 0), .int x1, .int x2] (PW g Z C ed)) (QG (some (.int r)) g Z C2) 0 0 (gP g) := by
  refine Met.ofW (cc := cX12_process) (maxL := 5) (ret := (some .int)) (by decide +kernel) rfl ?_
  intro p e s m args below meth c s₁ B hml hv
  obtain ⟨ha, hC, hE, hr, hlk, hH⟩ := g_start B hv
  subst ha
  have hC : CX p s m ([.ref (gA g 50 0), .int x1, .int x2] : List Value).toArray c cX12_process RX12 g := hC
  have hS : va_S (gP g) s.heap s.heap [] := va_S.rf
  obtain ⟨ls, he, hl⟩ := g_entry m (vs := [.ref (gA g 50 0), .int x1, .int x2]) (n := 5) (List.forall_mem_cons.mpr ⟨rfl, (List.forall_mem_cons.mpr ⟨rfl, (List.forall_mem_cons.mpr ⟨rfl, (fun _ h => absurd h List.not_mem_nil)⟩)⟩)⟩) (Nat.le_of_ble_eq_true rfl)
  rw [he]
  have hl : lv_has ls 5 [(0, .ref (gA g 50 0)), (1, .int x1), (2, .int x2)] := hl
  unfold F_X12_process at h
  refine lv_iload_n hC.1 hC.2.1 dX12_process_0 rfl (lv_at hl 1 rfl) ?_
  refine lv_if_lt (tgt := 19) hC.1 hC.2.1 dX12_process_1 (by decide) (fun hc1 => ?_) (fun hc1 => ?_)
  · rw [if_pos hc1] at h
    exact B_X12_process_19 hC hE hml hr hlk h hH hS (lv_sub hl [] rfl)
  · rw [if_neg hc1] at h
    refine lv_iload_n hC.1 hC.2.1 dX12_process_4 rfl (lv_at hl 1 rfl) ?_
    refine lv_bipush (v := (10 : Int32)) hC.1 hC.2.1 dX12_process_5 (by decide) ?_
    refine lv_icmp_ge (tgt := 19) hC.1 hC.2.1 dX12_process_7 (by decide) (fun hc2 => ?_) (fun hc2 => ?_)
    · rw [if_pos hc2] at h
      exact B_X12_process_19 hC hE hml hr hlk h hH hS (lv_sub hl [] rfl)
    · rw [if_neg hc2] at h
      refine lv_iload_n hC.1 hC.2.1 dX12_process_10 rfl (lv_at hl 2 rfl) ?_
      refine lv_if_lt (tgt := 19) hC.1 hC.2.1 dX12_process_11 (by decide) (fun hc3 => ?_) (fun hc3 => ?_)
      · rw [if_pos hc3] at h
        exact B_X12_process_19 hC hE hml hr hlk h hH hS (lv_sub hl [] rfl)
      · rw [if_neg hc3] at h
        refine lv_iload_n hC.1 hC.2.1 dX12_process_14 rfl (lv_at hl 2 rfl) ?_
        refine lv_iconst (v := (1 : Int32)) hC.1 hC.2.1 dX12_process_15 (by decide) ?_
        refine lv_icmp_le (tgt := 21) hC.1 hC.2.1 dX12_process_16 (by decide) (fun hc4 => ?_) (fun hc4 => ?_)
        · rw [if_pos hc4] at h
          refine lv_iload_n hC.1 hC.2.1 dX12_process_21 rfl (lv_at hl 2 rfl) ?_
          refine lv_if_ne (tgt := 61) hC.1 hC.2.1 dX12_process_22 (by decide) (fun hc5 => ?_) (fun hc5 => ?_)
          · rw [if_neg hc5] at h
            refine lv_iload_n hC.1 hC.2.1 dX12_process_61 rfl (lv_at hl 1 rfl) ?_
            refine lv_bipush (v := (6 : Int32)) hC.1 hC.2.1 dX12_process_62 (by decide) ?_
            refine lv_icmp_ge (tgt := 74) hC.1 hC.2.1 dX12_process_64 (by decide) (fun hc6 => ?_) (fun hc6 => ?_)
            · rw [if_pos hc6] at h
              refine lv_aload_n hC.1 hC.2.1 dX12_process_74 rfl (lv_at hl 0 rfl) ?_
              refine gf_RX12_23 hC hH rfl dX12_process_75 ?_
              refine lv_iload_n hC.1 hC.2.1 dX12_process_78 rfl (lv_at hl 1 rfl) ?_
              obtain ⟨hg7, h⟩ := gd_some h
              refine al_111 hC hH hg7 rfl dX12_process_79 ?_
              refine lv_istore_n (i := 3) (lv' := [(3, .int (C 111 0 0 x1.toNatClampNeg)), (0, .ref (gA g 50 0)), (1, .int x1), (2, .int x2)]) hC.1 hC.2.1 dX12_process_80 rfl hl (by decide) rfl (fun ls hl => ?_)
              refine lv_iload_n hC.1 hC.2.1 dX12_process_81 rfl (lv_at hl 0 rfl) ?_
              refine lv_iconst (v := (-1 : Int32)) hC.1 hC.2.1 dX12_process_82 (by decide) ?_
              refine lv_icmp_ne (tgt := 90) hC.1 hC.2.1 dX12_process_83 (by decide) (fun hc8 => ?_) (fun hc8 => ?_)
              · rw [if_neg hc8] at h
                refine lv_iload_n hC.1 hC.2.1 dX12_process_90 rfl (lv_at hl 0 rfl) ?_
                refine lv_iconst (v := (1 : Int32)) hC.1 hC.2.1 dX12_process_91 (by decide) ?_
                refine lv_icmp_eq (tgt := 105) hC.1 hC.2.1 dX12_process_92 (by decide) (fun hc9 => ?_) (fun hc9 => ?_)
                · rw [if_pos hc9] at h
                  exact B_X12_process_105 hC hE hml hr hlk h hH hS (lv_sub hl [] rfl)
                · rw [if_neg hc9] at h
                  refine lv_iload_n hC.1 hC.2.1 dX12_process_95 rfl (lv_at hl 0 rfl) ?_
                  refine lv_iconst (v := (3 : Int32)) hC.1 hC.2.1 dX12_process_96 (by decide) ?_
                  refine lv_icmp_eq (tgt := 105) hC.1 hC.2.1 dX12_process_97 (by decide) (fun hc10 => ?_) (fun hc10 => ?_)
                  · rw [if_pos hc10] at h
                    exact B_X12_process_105 hC hE hml hr hlk h hH hS (lv_sub hl [] rfl)
                  · rw [if_neg hc10] at h
                    refine lv_iload_n hC.1 hC.2.1 dX12_process_100 rfl (lv_at hl 0 rfl) ?_
                    refine lv_iconst (v := (5 : Int32)) hC.1 hC.2.1 dX12_process_101 (by decide) ?_
                    refine lv_icmp_ne (tgt := 110) hC.1 hC.2.1 dX12_process_102 (by decide) (fun hc11 => ?_) (fun hc11 => ?_)
                    · rw [if_neg hc11] at h
                      refine lv_bipush (v := (7 : Int32)) hC.1 hC.2.1 dX12_process_110 (by decide) ?_
                      exact B_X12_process_112 hC hE hml hr hlk h hH hS (lv_sub hl [] rfl)
                    · rw [if_pos hc11] at h
                      exact B_X12_process_105 hC hE hml hr hlk h hH hS (lv_sub hl [] rfl)
              · rw [if_pos hc8] at h
                refine lv_iconst (v := (0 : Int32)) hC.1 hC.2.1 dX12_process_86 (by decide) ?_
                refine lv_goto (tgt := 112) hC.1 hC.2.1 dX12_process_87 (by decide) ?_
                exact B_X12_process_112 hC hE hml hr hlk h hH hS (lv_sub hl [] rfl)
            · rw [if_neg hc6] at h
              refine lv_aload_n hC.1 hC.2.1 dX12_process_67 rfl (lv_at hl 0 rfl) ?_
              refine gf_RX12_20 hC hH rfl dX12_process_68 ?_
              refine lv_iload_n hC.1 hC.2.1 dX12_process_71 rfl (lv_at hl 1 rfl) ?_
              obtain ⟨hg12, h⟩ := gd_some h
              refine al_110 hC hH hg12 rfl dX12_process_72 ?_
              cases h
              exact gret_i hC hr hlk hH hS (Nat.le_of_ble_eq_true rfl) (Nat.le_of_ble_eq_true rfl) dX12_process_73
          · rw [if_pos hc5] at h
            refine lv_iconst (v := (-1 : Int32)) hC.1 hC.2.1 dX12_process_25 (by decide) ?_
            refine lv_istore_n (i := 3) (lv' := [(3, .int (-1 : Int32)), (0, .ref (gA g 50 0)), (1, .int x1), (2, .int x2)]) hC.1 hC.2.1 dX12_process_26 rfl hl (by decide) rfl (fun ls hl => ?_)
            refine lv_iconst (v := (0 : Int32)) hC.1 hC.2.1 dX12_process_27 (by decide) ?_
            refine lv_istore (lv' := [(4, .int (0 : Int32)), (3, .int (-1 : Int32)), (0, .ref (gA g 50 0)), (1, .int x1), (2, .int x2)]) hC.1 hC.2.1 dX12_process_28 hl (by decide) rfl (fun ls hl => ?_)
            exact B_X12_process_30 hC hE hml hr hlk 1000 _ _ _ _ h _ _ _ _ hH hS (lv_sub hl [2, 3, 1, 0] rfl)
        · rw [if_neg hc4] at h
          exact B_X12_process_19 hC hE hml hr hlk h hH hS (lv_sub hl [] rfl)
def F_X12_job_10   (C : St) : Option (Int32 × St) := some ((-1 : Int32), C)
set_option maxHeartbeats 4000000 in
set_option maxRecDepth 100000 in
theorem B_X12_job_10 {p : Program} {l : Launch} {e : Env} {s : State} {m : MethodId} {args : Array Value} {below : List Frame} {meth : Method} {c : Code} {g : GP} {Z : St} (hC : CX p s m args c cX12_job RX12 g) (hE : EZ g s s.heap) (hml : c.maxLocals = 3) (hr : meth.sig.returnType = (some .int)) (hlk : meth.locks = false) {r : Int32} {C2 : St}  {C : St} (h : F_X12_job_10   C = some (r, C2)) {ed : Nat → Nat} {H : Heap} {locs : List Loc} {ls : Array Slot} (hH : HW g ed Z C H) (hS : va_S (gP g) s.heap H locs) (hl : lv_has ls 3 []) : W p l e ({ frames := 0, cells := 0, slots := 0, locals := 0 } : Room) s m args below meth c H locs 0 0 (MQ below (QG (some (.int r)) g Z C2) args s 0 0 (gP g)) (F0 m 10 ls []) := by
  unfold F_X12_job_10 at h
  refine lv_iconst (v := (-1 : Int32)) hC.1 hC.2.1 dX12_job_10 (by decide) ?_
  cases h
  exact gret_i hC hr hlk hH hS (Nat.le_of_ble_eq_true rfl) (Nat.le_of_ble_eq_true rfl) dX12_job_11
def F_X12_job_122  (x1 : Int32) (x2 : Int32) (C : St) : Option (Int32 × St) := gd (inb ((((3 : Int32) * x1) + x2) - (6 : Int32)) 18) (some (C 127 0 0 ((((3 : Int32) * x1) + x2) - (6 : Int32)).toNatClampNeg, C))
set_option maxHeartbeats 4000000 in
set_option maxRecDepth 100000 in
theorem B_X12_job_122 {p : Program} {l : Launch} {e : Env} {s : State} {m : MethodId} {args : Array Value} {below : List Frame} {meth : Method} {c : Code} {g : GP} {Z : St} (hC : CX p s m args c cX12_job RX12 g) (hE : EZ g s s.heap) (hml : c.maxLocals = 3) (hr : meth.sig.returnType = (some .int)) (hlk : meth.locks = false) {r : Int32} {C2 : St} {x1 : Int32} {x2 : Int32} {C : St} (h : F_X12_job_122  x1 x2 C = some (r, C2)) {ed : Nat → Nat} {H : Heap} {locs : List Loc} {ls : Array Slot} (hH : HW g ed Z C H) (hS : va_S (gP g) s.heap H locs) (hl : lv_has ls 3 [(0, .ref (gA g 50 0)), (1, .int x1), (2, .int x2)]) : W p l e ({ frames := 0, cells := 0, slots := 0, locals := 0 } : Room) s m args below meth c H locs 0 0 (MQ below (QG (some (.int r)) g Z C2) args s 0 0 (gP g)) (F0 m 122 ls []) := by
  unfold F_X12_job_122 at h
  refine lv_aload_n hC.1 hC.2.1 dX12_job_122 rfl (lv_at hl 0 rfl) ?_
  refine gf_RX12_68 hC hH rfl dX12_job_123 ?_
  refine lv_iconst (v := (3 : Int32)) hC.1 hC.2.1 dX12_job_126 (by decide) ?_
  refine lv_iload_n hC.1 hC.2.1 dX12_job_127 rfl (lv_at hl 1 rfl) ?_
  refine lv_imul hC.1 hC.2.1 dX12_job_128 ?_
  refine lv_iload_n hC.1 hC.2.1 dX12_job_129 rfl (lv_at hl 2 rfl) ?_
  refine lv_iadd hC.1 hC.2.1 dX12_job_130 ?_
  refine lv_bipush (v := (6 : Int32)) hC.1 hC.2.1 dX12_job_131 (by decide) ?_
  refine lv_isub hC.1 hC.2.1 dX12_job_133 ?_
  obtain ⟨hg1, h⟩ := gd_some h
  refine al_127 hC hH hg1 rfl dX12_job_134 ?_
  cases h
  exact gret_i hC hr hlk hH hS (Nat.le_of_ble_eq_true rfl) (Nat.le_of_ble_eq_true rfl) dX12_job_135
def F_X12_job_171  (t0 : Int32) (C : St) : Option (Int32 × St) := some (t0, C)
set_option maxHeartbeats 4000000 in
set_option maxRecDepth 100000 in
theorem B_X12_job_171 {p : Program} {l : Launch} {e : Env} {s : State} {m : MethodId} {args : Array Value} {below : List Frame} {meth : Method} {c : Code} {g : GP} {Z : St} (hC : CX p s m args c cX12_job RX12 g) (hE : EZ g s s.heap) (hml : c.maxLocals = 3) (hr : meth.sig.returnType = (some .int)) (hlk : meth.locks = false) {r : Int32} {C2 : St} {t0 : Int32} {C : St} (h : F_X12_job_171  t0 C = some (r, C2)) {ed : Nat → Nat} {H : Heap} {locs : List Loc} {ls : Array Slot} (hH : HW g ed Z C H) (hS : va_S (gP g) s.heap H locs) (hl : lv_has ls 3 []) : W p l e ({ frames := 0, cells := 0, slots := 0, locals := 0 } : Room) s m args below meth c H locs 0 0 (MQ below (QG (some (.int r)) g Z C2) args s 0 0 (gP g)) (F0 m 171 ls [.int t0]) := by
  unfold F_X12_job_171 at h
  cases h
  exact gret_i hC hr hlk hH hS (Nat.le_of_ble_eq_true rfl) (Nat.le_of_ble_eq_true rfl) dX12_job_171
def F_X12_job (x1 : Int32) (x2 : Int32) (C : St) : Option (Int32 × St) := if x1 < 0 then (F_X12_job_10  C) else (if x1 < (6 : Int32) then (if x2 = 0 then (gd (inb x1 6) (some (C 114 0 0 x1.toNatClampNeg, C))) else (if x2 = 1 then (gd (inb x1 6) (some (C 115 0 0 x1.toNatClampNeg, C))) else (if x2 = 2 then (gd (inb x1 6) (some (C 117 0 0 x1.toNatClampNeg, C))) else (if x2 = 3 then (gd (inb x1 6) (some (C 118 0 0 x1.toNatClampNeg, C))) else (if x2 = 4 then (gd (inb x1 6) (some (C 119 0 0 x1.toNatClampNeg, C))) else (if x2 = 5 then (gd (inb x1 6) (some (C 120 0 0 x1.toNatClampNeg, C))) else (if x2 = 6 then (F_X12_job_122 x1 x2 C) else (if x2 = 7 then (F_X12_job_122 x1 x2 C) else (if x2 = 8 then (F_X12_job_122 x1 x2 C) else (if x2 = 9 then (gd (inb x1 6) (some (C 132 0 0 x1.toNatClampNeg, C))) else (if x2 = 10 then (gd (inb x1 6) (some (C 136 0 0 x1.toNatClampNeg, C))) else (if x2 = 11 then (gd (inb x1 6) (some (C 134 0 0 x1.toNatClampNeg, C))) else (if x2 = 12 then (gd (inb x1 6) (if (C 124 0 0 x1.toNatClampNeg) = 0 then (F_X12_job_171 (0 : Int32) C) else (F_X12_job_171 (1 : Int32) C))) else (some ((-1 : Int32), C))))))))))))))) else (F_X12_job_10  C))
set_option maxHeartbeats 4000000 in
set_option maxRecDepth 100000 in
theorem c_X12_job {l : Launch} {g : GP} {ed : Nat → Nat} {Z : St} {x1 : Int32} {x2 : Int32} {C : St} {r : Int32} {C2 : St} (h : F_X12_job x1 x2 C = some (r, C2)) : Met l yX12_job (Cond.code yX12_job cX12_job 3 (some .int) :: lwG) ({ frames := 0, cells := 0, slots := 0, locals := 0 } : Room) (va_Pc [.ref (gA g 50 0), .int x1, .int x2] (PW g Z C ed)) (QG (some (.int r)) g Z C2) 0 0 (gP g) := by
  refine Met.ofW (cc := cX12_job) (maxL := 3) (ret := (some .int)) (by decide +kernel) rfl ?_
  intro p e s m args below meth c s₁ B hml hv
  obtain ⟨ha, hC, hE, hr, hlk, hH⟩ := g_start B hv
  subst ha
  have hC : CX p s m ([.ref (gA g 50 0), .int x1, .int x2] : List Value).toArray c cX12_job RX12 g := hC
  have hS : va_S (gP g) s.heap s.heap [] := va_S.rf
  obtain ⟨ls, he, hl⟩ := g_entry m (vs := [.ref (gA g 50 0), .int x1, .int x2]) (n := 3) (List.forall_mem_cons.mpr ⟨rfl, (List.forall_mem_cons.mpr ⟨rfl, (List.forall_mem_cons.mpr ⟨rfl, (fun _ h => absurd h List.not_mem_nil)⟩)⟩)⟩) (Nat.le_of_ble_eq_true rfl)
  rw [he]
  have hl : lv_has ls 3 [(0, .ref (gA g 50 0)), (1, .int x1), (2, .int x2)] := hl
  unfold F_X12_job at h
  refine lv_iload_n hC.1 hC.2.1 dX12_job_0 rfl (lv_at hl 1 rfl) ?_
  refine lv_if_lt (tgt := 10) hC.1 hC.2.1 dX12_job_1 (by decide) (fun hc1 => ?_) (fun hc1 => ?_)
  · rw [if_pos hc1] at h
    exact B_X12_job_10 hC hE hml hr hlk h hH hS (lv_sub hl [] rfl)
  · rw [if_neg hc1] at h
    refine lv_iload_n hC.1 hC.2.1 dX12_job_4 rfl (lv_at hl 1 rfl) ?_
    refine lv_bipush (v := (6 : Int32)) hC.1 hC.2.1 dX12_job_5 (by decide) ?_
    refine lv_icmp_lt (tgt := 12) hC.1 hC.2.1 dX12_job_7 (by decide) (fun hc2 => ?_) (fun hc2 => ?_)
    · rw [if_pos hc2] at h
      refine lv_iload_n hC.1 hC.2.1 dX12_job_12 rfl (lv_at hl 2 rfl) ?_
      by_cases hs3 : x2 = 0
      · rw [if_pos hs3] at h
        refine lv_tableIn (x := x2) (off := 67) (tgt := 80) hC.1 hC.2.1 dX12_job_13 (by rw [hs3]; decide) (by rw [hs3]; decide) (by rw [hs3]; rfl) (by decide) ?_
        refine lv_aload_n hC.1 hC.2.1 dX12_job_80 rfl (lv_at hl 0 rfl) ?_
        refine gf_RX12_32 hC hH rfl dX12_job_81 ?_
        refine lv_iload_n hC.1 hC.2.1 dX12_job_84 rfl (lv_at hl 1 rfl) ?_
        obtain ⟨hg4, h⟩ := gd_some h
        refine al_114 hC hH hg4 rfl dX12_job_85 ?_
        cases h
        exact gret_i hC hr hlk hH hS (Nat.le_of_ble_eq_true rfl) (Nat.le_of_ble_eq_true rfl) dX12_job_86
      · rw [if_neg hs3] at h
        by_cases hs5 : x2 = 1
        · rw [if_pos hs5] at h
          refine lv_tableIn (x := x2) (off := 74) (tgt := 87) hC.1 hC.2.1 dX12_job_13 (by rw [hs5]; decide) (by rw [hs5]; decide) (by rw [hs5]; rfl) (by decide) ?_
          refine lv_aload_n hC.1 hC.2.1 dX12_job_87 rfl (lv_at hl 0 rfl) ?_
          refine gf_RX12_35 hC hH rfl dX12_job_88 ?_
          refine lv_iload_n hC.1 hC.2.1 dX12_job_91 rfl (lv_at hl 1 rfl) ?_
          obtain ⟨hg6, h⟩ := gd_some h
          refine al_115 hC hH hg6 rfl dX12_job_92 ?_
          cases h
          exact gret_i hC hr hlk hH hS (Nat.le_of_ble_eq_true rfl) (Nat.le_of_ble_eq_true rfl) dX12_job_93
        · rw [if_neg hs5] at h
          by_cases hs7 : x2 = 2
          · rw [if_pos hs7] at h
            refine lv_tableIn (x := x2) (off := 81) (tgt := 94) hC.1 hC.2.1 dX12_job_13 (by rw [hs7]; decide) (by rw [hs7]; decide) (by rw [hs7]; rfl) (by decide) ?_
            refine lv_aload_n hC.1 hC.2.1 dX12_job_94 rfl (lv_at hl 0 rfl) ?_
            refine gf_RX12_41 hC hH rfl dX12_job_95 ?_
            refine lv_iload_n hC.1 hC.2.1 dX12_job_98 rfl (lv_at hl 1 rfl) ?_
            obtain ⟨hg8, h⟩ := gd_some h
            refine al_117 hC hH hg8 rfl dX12_job_99 ?_
            cases h
            exact gret_i hC hr hlk hH hS (Nat.le_of_ble_eq_true rfl) (Nat.le_of_ble_eq_true rfl) dX12_job_100
          · rw [if_neg hs7] at h
            by_cases hs9 : x2 = 3
            · rw [if_pos hs9] at h
              refine lv_tableIn (x := x2) (off := 88) (tgt := 101) hC.1 hC.2.1 dX12_job_13 (by rw [hs9]; decide) (by rw [hs9]; decide) (by rw [hs9]; rfl) (by decide) ?_
              refine lv_aload_n hC.1 hC.2.1 dX12_job_101 rfl (lv_at hl 0 rfl) ?_
              refine gf_RX12_44 hC hH rfl dX12_job_102 ?_
              refine lv_iload_n hC.1 hC.2.1 dX12_job_105 rfl (lv_at hl 1 rfl) ?_
              obtain ⟨hg10, h⟩ := gd_some h
              refine al_118 hC hH hg10 rfl dX12_job_106 ?_
              cases h
              exact gret_i hC hr hlk hH hS (Nat.le_of_ble_eq_true rfl) (Nat.le_of_ble_eq_true rfl) dX12_job_107
            · rw [if_neg hs9] at h
              by_cases hs11 : x2 = 4
              · rw [if_pos hs11] at h
                refine lv_tableIn (x := x2) (off := 95) (tgt := 108) hC.1 hC.2.1 dX12_job_13 (by rw [hs11]; decide) (by rw [hs11]; decide) (by rw [hs11]; rfl) (by decide) ?_
                refine lv_aload_n hC.1 hC.2.1 dX12_job_108 rfl (lv_at hl 0 rfl) ?_
                refine gf_RX12_47 hC hH rfl dX12_job_109 ?_
                refine lv_iload_n hC.1 hC.2.1 dX12_job_112 rfl (lv_at hl 1 rfl) ?_
                obtain ⟨hg12, h⟩ := gd_some h
                refine al_119 hC hH hg12 rfl dX12_job_113 ?_
                cases h
                exact gret_i hC hr hlk hH hS (Nat.le_of_ble_eq_true rfl) (Nat.le_of_ble_eq_true rfl) dX12_job_114
              · rw [if_neg hs11] at h
                by_cases hs13 : x2 = 5
                · rw [if_pos hs13] at h
                  refine lv_tableIn (x := x2) (off := 102) (tgt := 115) hC.1 hC.2.1 dX12_job_13 (by rw [hs13]; decide) (by rw [hs13]; decide) (by rw [hs13]; rfl) (by decide) ?_
                  refine lv_aload_n hC.1 hC.2.1 dX12_job_115 rfl (lv_at hl 0 rfl) ?_
                  refine gf_RX12_50 hC hH rfl dX12_job_116 ?_
                  refine lv_iload_n hC.1 hC.2.1 dX12_job_119 rfl (lv_at hl 1 rfl) ?_
                  obtain ⟨hg14, h⟩ := gd_some h
                  refine al_120 hC hH hg14 rfl dX12_job_120 ?_
                  cases h
                  exact gret_i hC hr hlk hH hS (Nat.le_of_ble_eq_true rfl) (Nat.le_of_ble_eq_true rfl) dX12_job_121
                · rw [if_neg hs13] at h
                  by_cases hs15 : x2 = 6
                  · rw [if_pos hs15] at h
                    refine lv_tableIn (x := x2) (off := 109) (tgt := 122) hC.1 hC.2.1 dX12_job_13 (by rw [hs15]; decide) (by rw [hs15]; decide) (by rw [hs15]; rfl) (by decide) ?_
                    exact B_X12_job_122 hC hE hml hr hlk h hH hS (lv_sub hl [0, 1, 2] rfl)
                  · rw [if_neg hs15] at h
                    by_cases hs16 : x2 = 7
                    · rw [if_pos hs16] at h
                      refine lv_tableIn (x := x2) (off := 109) (tgt := 122) hC.1 hC.2.1 dX12_job_13 (by rw [hs16]; decide) (by rw [hs16]; decide) (by rw [hs16]; rfl) (by decide) ?_
                      exact B_X12_job_122 hC hE hml hr hlk h hH hS (lv_sub hl [0, 1, 2] rfl)
                    · rw [if_neg hs16] at h
                      by_cases hs17 : x2 = 8
                      · rw [if_pos hs17] at h
                        refine lv_tableIn (x := x2) (off := 109) (tgt := 122) hC.1 hC.2.1 dX12_job_13 (by rw [hs17]; decide) (by rw [hs17]; decide) (by rw [hs17]; rfl) (by decide) ?_
                        exact B_X12_job_122 hC hE hml hr hlk h hH hS (lv_sub hl [0, 1, 2] rfl)
                      · rw [if_neg hs17] at h
                        by_cases hs18 : x2 = 9
                        · rw [if_pos hs18] at h
                          refine lv_tableIn (x := x2) (off := 123) (tgt := 136) hC.1 hC.2.1 dX12_job_13 (by rw [hs18]; decide) (by rw [hs18]; decide) (by rw [hs18]; rfl) (by decide) ?_
                          refine lv_aload_n hC.1 hC.2.1 dX12_job_136 rfl (lv_at hl 0 rfl) ?_
                          refine gf_RX12_83 hC hH rfl dX12_job_137 ?_
                          refine lv_iload_n hC.1 hC.2.1 dX12_job_140 rfl (lv_at hl 1 rfl) ?_
                          obtain ⟨hg19, h⟩ := gd_some h
                          refine al_132 hC hH hg19 rfl dX12_job_141 ?_
                          cases h
                          exact gret_i hC hr hlk hH hS (Nat.le_of_ble_eq_true rfl) (Nat.le_of_ble_eq_true rfl) dX12_job_142
                        · rw [if_neg hs18] at h
                          by_cases hs20 : x2 = 10
                          · rw [if_pos hs20] at h
                            refine lv_tableIn (x := x2) (off := 130) (tgt := 143) hC.1 hC.2.1 dX12_job_13 (by rw [hs20]; decide) (by rw [hs20]; decide) (by rw [hs20]; rfl) (by decide) ?_
                            refine lv_aload_n hC.1 hC.2.1 dX12_job_143 rfl (lv_at hl 0 rfl) ?_
                            refine gf_RX12_95 hC hH rfl dX12_job_144 ?_
                            refine lv_iload_n hC.1 hC.2.1 dX12_job_147 rfl (lv_at hl 1 rfl) ?_
                            obtain ⟨hg21, h⟩ := gd_some h
                            refine al_136 hC hH hg21 rfl dX12_job_148 ?_
                            cases h
                            exact gret_i hC hr hlk hH hS (Nat.le_of_ble_eq_true rfl) (Nat.le_of_ble_eq_true rfl) dX12_job_149
                          · rw [if_neg hs20] at h
                            by_cases hs22 : x2 = 11
                            · rw [if_pos hs22] at h
                              refine lv_tableIn (x := x2) (off := 137) (tgt := 150) hC.1 hC.2.1 dX12_job_13 (by rw [hs22]; decide) (by rw [hs22]; decide) (by rw [hs22]; rfl) (by decide) ?_
                              refine lv_aload_n hC.1 hC.2.1 dX12_job_150 rfl (lv_at hl 0 rfl) ?_
                              refine gf_RX12_89 hC hH rfl dX12_job_151 ?_
                              refine lv_iload_n hC.1 hC.2.1 dX12_job_154 rfl (lv_at hl 1 rfl) ?_
                              obtain ⟨hg23, h⟩ := gd_some h
                              refine al_134 hC hH hg23 rfl dX12_job_155 ?_
                              cases h
                              exact gret_i hC hr hlk hH hS (Nat.le_of_ble_eq_true rfl) (Nat.le_of_ble_eq_true rfl) dX12_job_156
                            · rw [if_neg hs22] at h
                              by_cases hs24 : x2 = 12
                              · rw [if_pos hs24] at h
                                refine lv_tableIn (x := x2) (off := 144) (tgt := 157) hC.1 hC.2.1 dX12_job_13 (by rw [hs24]; decide) (by rw [hs24]; decide) (by rw [hs24]; rfl) (by decide) ?_
                                refine lv_aload_n hC.1 hC.2.1 dX12_job_157 rfl (lv_at hl 0 rfl) ?_
                                refine gf_RX12_62 hC hH rfl dX12_job_158 ?_
                                refine lv_iload_n hC.1 hC.2.1 dX12_job_161 rfl (lv_at hl 1 rfl) ?_
                                obtain ⟨hg25, h⟩ := gd_some h
                                refine al_124 hC hH hg25 rfl dX12_job_162 ?_
                                refine lv_if_eq (tgt := 170) hC.1 hC.2.1 dX12_job_163 (by decide) (fun hc26 => ?_) (fun hc26 => ?_)
                                · rw [if_pos hc26] at h
                                  refine lv_iconst (v := (0 : Int32)) hC.1 hC.2.1 dX12_job_170 (by decide) ?_
                                  exact B_X12_job_171 hC hE hml hr hlk h hH hS (lv_sub hl [] rfl)
                                · rw [if_neg hc26] at h
                                  refine lv_iconst (v := (1 : Int32)) hC.1 hC.2.1 dX12_job_166 (by decide) ?_
                                  refine lv_goto (tgt := 171) hC.1 hC.2.1 dX12_job_167 (by decide) ?_
                                  exact B_X12_job_171 hC hE hml hr hlk h hH hS (lv_sub hl [] rfl)
                              · rw [if_neg hs24] at h
                                have q0 := lv_neT (a := 0) hs3 (by decide)
                                have q1 := lv_neT (a := 1) hs5 (by decide)
                                have q2 := lv_neT (a := 2) hs7 (by decide)
                                have q3 := lv_neT (a := 3) hs9 (by decide)
                                have q4 := lv_neT (a := 4) hs11 (by decide)
                                have q5 := lv_neT (a := 5) hs13 (by decide)
                                have q6 := lv_neT (a := 6) hs15 (by decide)
                                have q7 := lv_neT (a := 7) hs16 (by decide)
                                have q8 := lv_neT (a := 8) hs17 (by decide)
                                have q9 := lv_neT (a := 9) hs18 (by decide)
                                have q10 := lv_neT (a := 10) hs20 (by decide)
                                have q11 := lv_neT (a := 11) hs22 (by decide)
                                have q12 := lv_neT (a := 12) hs24 (by decide)
                                refine lv_tableOut (x := x2) (tgt := 172) hC.1 hC.2.1 dX12_job_13 (by omega) (by decide) ?_
                                refine lv_iconst (v := (-1 : Int32)) hC.1 hC.2.1 dX12_job_172 (by decide) ?_
                                cases h
                                exact gret_i hC hr hlk hH hS (Nat.le_of_ble_eq_true rfl) (Nat.le_of_ble_eq_true rfl) dX12_job_173
    · rw [if_neg hc2] at h
      exact B_X12_job_10 hC hE hml hr hlk h hH hS (lv_sub hl [] rfl)
def F_X12_paper_40  (t0 : Int32) (C : St) : Option (Int32 × St) := some (t0, C)
set_option maxHeartbeats 4000000 in
set_option maxRecDepth 100000 in
theorem B_X12_paper_40 {p : Program} {l : Launch} {e : Env} {s : State} {m : MethodId} {args : Array Value} {below : List Frame} {meth : Method} {c : Code} {g : GP} {Z : St} (hC : CX p s m args c cX12_paper RX12 g) (hE : EZ g s s.heap) (hml : c.maxLocals = 3) (hr : meth.sig.returnType = (some .int)) (hlk : meth.locks = false) {r : Int32} {C2 : St} {t0 : Int32} {C : St} (h : F_X12_paper_40  t0 C = some (r, C2)) {ed : Nat → Nat} {H : Heap} {locs : List Loc} {ls : Array Slot} (hH : HW g ed Z C H) (hS : va_S (gP g) s.heap H locs) (hl : lv_has ls 3 []) : W p l e ({ frames := 0, cells := 0, slots := 0, locals := 0 } : Room) s m args below meth c H locs 0 0 (MQ below (QG (some (.int r)) g Z C2) args s 0 0 (gP g)) (F0 m 40 ls [.int t0]) := by
  unfold F_X12_paper_40 at h
  cases h
  exact gret_i hC hr hlk hH hS (Nat.le_of_ble_eq_true rfl) (Nat.le_of_ble_eq_true rfl) dX12_paper_40
def F_X12_paper_24   (C : St) : Option (Int32 × St) := F_X12_paper_40 (0 : Int32) C
set_option maxHeartbeats 4000000 in
set_option maxRecDepth 100000 in
theorem B_X12_paper_24 {p : Program} {l : Launch} {e : Env} {s : State} {m : MethodId} {args : Array Value} {below : List Frame} {meth : Method} {c : Code} {g : GP} {Z : St} (hC : CX p s m args c cX12_paper RX12 g) (hE : EZ g s s.heap) (hml : c.maxLocals = 3) (hr : meth.sig.returnType = (some .int)) (hlk : meth.locks = false) {r : Int32} {C2 : St}  {C : St} (h : F_X12_paper_24   C = some (r, C2)) {ed : Nat → Nat} {H : Heap} {locs : List Loc} {ls : Array Slot} (hH : HW g ed Z C H) (hS : va_S (gP g) s.heap H locs) (hl : lv_has ls 3 []) : W p l e ({ frames := 0, cells := 0, slots := 0, locals := 0 } : Room) s m args below meth c H locs 0 0 (MQ below (QG (some (.int r)) g Z C2) args s 0 0 (gP g)) (F0 m 24 ls []) := by
  unfold F_X12_paper_24 at h
  refine lv_iconst (v := (0 : Int32)) hC.1 hC.2.1 dX12_paper_24 (by decide) ?_
  refine lv_goto (tgt := 40) hC.1 hC.2.1 dX12_paper_25 (by decide) ?_
  exact B_X12_paper_40 hC hE hml hr hlk h hH hS (lv_sub hl [] rfl)
def F_X12_paper (x1 : Int32) (x2 : Int32) (C : St) : Option (Int32 × St) := if x1 < 0 then (F_X12_paper_24  C) else (if (6 : Int32) ≤ x1 then (F_X12_paper_24  C) else (if x2 < 0 then (F_X12_paper_24  C) else (gd (inb x1 6) (if x2 < (C 136 0 0 x1.toNatClampNeg) then (gd (inb (((5000 : Int32) * x1) + x2) 30000) (F_X12_paper_40 (C 135 0 0 (((5000 : Int32) * x1) + x2).toNatClampNeg) C)) else (F_X12_paper_24  C)))))
set_option maxHeartbeats 4000000 in
set_option maxRecDepth 100000 in
theorem c_X12_paper {l : Launch} {g : GP} {ed : Nat → Nat} {Z : St} {x1 : Int32} {x2 : Int32} {C : St} {r : Int32} {C2 : St} (h : F_X12_paper x1 x2 C = some (r, C2)) : Met l yX12_paper (Cond.code yX12_paper cX12_paper 3 (some .int) :: lwG) ({ frames := 0, cells := 0, slots := 0, locals := 0 } : Room) (va_Pc [.ref (gA g 50 0), .int x1, .int x2] (PW g Z C ed)) (QG (some (.int r)) g Z C2) 0 0 (gP g) := by
  refine Met.ofW (cc := cX12_paper) (maxL := 3) (ret := (some .int)) (by decide +kernel) rfl ?_
  intro p e s m args below meth c s₁ B hml hv
  obtain ⟨ha, hC, hE, hr, hlk, hH⟩ := g_start B hv
  subst ha
  have hC : CX p s m ([.ref (gA g 50 0), .int x1, .int x2] : List Value).toArray c cX12_paper RX12 g := hC
  have hS : va_S (gP g) s.heap s.heap [] := va_S.rf
  obtain ⟨ls, he, hl⟩ := g_entry m (vs := [.ref (gA g 50 0), .int x1, .int x2]) (n := 3) (List.forall_mem_cons.mpr ⟨rfl, (List.forall_mem_cons.mpr ⟨rfl, (List.forall_mem_cons.mpr ⟨rfl, (fun _ h => absurd h List.not_mem_nil)⟩)⟩)⟩) (Nat.le_of_ble_eq_true rfl)
  rw [he]
  have hl : lv_has ls 3 [(0, .ref (gA g 50 0)), (1, .int x1), (2, .int x2)] := hl
  unfold F_X12_paper at h
  refine lv_iload_n hC.1 hC.2.1 dX12_paper_0 rfl (lv_at hl 1 rfl) ?_
  refine lv_if_lt (tgt := 24) hC.1 hC.2.1 dX12_paper_1 (by decide) (fun hc1 => ?_) (fun hc1 => ?_)
  · rw [if_pos hc1] at h
    exact B_X12_paper_24 hC hE hml hr hlk h hH hS (lv_sub hl [] rfl)
  · rw [if_neg hc1] at h
    refine lv_iload_n hC.1 hC.2.1 dX12_paper_4 rfl (lv_at hl 1 rfl) ?_
    refine lv_bipush (v := (6 : Int32)) hC.1 hC.2.1 dX12_paper_5 (by decide) ?_
    refine lv_icmp_ge (tgt := 24) hC.1 hC.2.1 dX12_paper_7 (by decide) (fun hc2 => ?_) (fun hc2 => ?_)
    · rw [if_pos hc2] at h
      exact B_X12_paper_24 hC hE hml hr hlk h hH hS (lv_sub hl [] rfl)
    · rw [if_neg hc2] at h
      refine lv_iload_n hC.1 hC.2.1 dX12_paper_10 rfl (lv_at hl 2 rfl) ?_
      refine lv_if_lt (tgt := 24) hC.1 hC.2.1 dX12_paper_11 (by decide) (fun hc3 => ?_) (fun hc3 => ?_)
      · rw [if_pos hc3] at h
        exact B_X12_paper_24 hC hE hml hr hlk h hH hS (lv_sub hl [] rfl)
      · rw [if_neg hc3] at h
        refine lv_iload_n hC.1 hC.2.1 dX12_paper_14 rfl (lv_at hl 2 rfl) ?_
        refine lv_aload_n hC.1 hC.2.1 dX12_paper_15 rfl (lv_at hl 0 rfl) ?_
        refine gf_RX12_95 hC hH rfl dX12_paper_16 ?_
        refine lv_iload_n hC.1 hC.2.1 dX12_paper_19 rfl (lv_at hl 1 rfl) ?_
        obtain ⟨hg4, h⟩ := gd_some h
        refine al_136 hC hH hg4 rfl dX12_paper_20 ?_
        refine lv_icmp_lt (tgt := 28) hC.1 hC.2.1 dX12_paper_21 (by decide) (fun hc5 => ?_) (fun hc5 => ?_)
        · rw [if_pos hc5] at h
          refine lv_aload_n hC.1 hC.2.1 dX12_paper_28 rfl (lv_at hl 0 rfl) ?_
          refine gf_RX12_92 hC hH rfl dX12_paper_29 ?_
          refine lv_sipush (v := (5000 : Int32)) hC.1 hC.2.1 dX12_paper_32 (by decide) ?_
          refine lv_iload_n hC.1 hC.2.1 dX12_paper_35 rfl (lv_at hl 1 rfl) ?_
          refine lv_imul hC.1 hC.2.1 dX12_paper_36 ?_
          refine lv_iload_n hC.1 hC.2.1 dX12_paper_37 rfl (lv_at hl 2 rfl) ?_
          refine lv_iadd hC.1 hC.2.1 dX12_paper_38 ?_
          obtain ⟨hg6, h⟩ := gd_some h
          refine al_135 hC hH hg6 rfl dX12_paper_39 ?_
          exact B_X12_paper_40 hC hE hml hr hlk h hH hS (lv_sub hl [] rfl)
        · rw [if_neg hc5] at h
          exact B_X12_paper_24 hC hE hml hr hlk h hH hS (lv_sub hl [] rfl)
def F_X12_word_47   (C : St) : Option (Int32 × St) := some ((0 : Int32), C)
set_option maxHeartbeats 4000000 in
set_option maxRecDepth 100000 in
theorem B_X12_word_47 {p : Program} {l : Launch} {e : Env} {s : State} {m : MethodId} {args : Array Value} {below : List Frame} {meth : Method} {c : Code} {g : GP} {Z : St} (hC : CX p s m args c cX12_word RX12 g) (hE : EZ g s s.heap) (hml : c.maxLocals = 4) (hr : meth.sig.returnType = (some .int)) (hlk : meth.locks = false) {r : Int32} {C2 : St}  {C : St} (h : F_X12_word_47   C = some (r, C2)) {ed : Nat → Nat} {H : Heap} {locs : List Loc} {ls : Array Slot} (hH : HW g ed Z C H) (hS : va_S (gP g) s.heap H locs) (hl : lv_has ls 4 []) : W p l e ({ frames := 1, cells := 0, slots := 0, locals := 24 } : Room) s m args below meth c H locs 0 0 (MQ below (QG (some (.int r)) g Z C2) args s 0 0 (gP g)) (F0 m 47 ls []) := by
  unfold F_X12_word_47 at h
  refine lv_iconst (v := (0 : Int32)) hC.1 hC.2.1 dX12_word_47 (by decide) ?_
  cases h
  exact gret_i hC hr hlk hH hS (Nat.le_of_ble_eq_true rfl) (Nat.le_of_ble_eq_true rfl) dX12_word_48
def F_X12_word_122  (t0 : Int32) (C : St) : Option (Int32 × St) := some (t0, C)
set_option maxHeartbeats 4000000 in
set_option maxRecDepth 100000 in
theorem B_X12_word_122 {p : Program} {l : Launch} {e : Env} {s : State} {m : MethodId} {args : Array Value} {below : List Frame} {meth : Method} {c : Code} {g : GP} {Z : St} (hC : CX p s m args c cX12_word RX12 g) (hE : EZ g s s.heap) (hml : c.maxLocals = 4) (hr : meth.sig.returnType = (some .int)) (hlk : meth.locks = false) {r : Int32} {C2 : St} {t0 : Int32} {C : St} (h : F_X12_word_122  t0 C = some (r, C2)) {ed : Nat → Nat} {H : Heap} {locs : List Loc} {ls : Array Slot} (hH : HW g ed Z C H) (hS : va_S (gP g) s.heap H locs) (hl : lv_has ls 4 []) : W p l e ({ frames := 1, cells := 0, slots := 0, locals := 24 } : Room) s m args below meth c H locs 0 0 (MQ below (QG (some (.int r)) g Z C2) args s 0 0 (gP g)) (F0 m 122 ls [.int t0]) := by
  unfold F_X12_word_122 at h
  cases h
  exact gret_i hC hr hlk hH hS (Nat.le_of_ble_eq_true rfl) (Nat.le_of_ble_eq_true rfl) dX12_word_122
def F_X12_word_88  (x1 : Int32) (x2 : Int32) (x3 : Int32) (C : St) : Option (Int32 × St) := if x3 = (-1 : Int32) then (gd (inb (((128 : Int32) * x1) + x2) 768) (F_X12_word_122 (C 137 0 0 (((128 : Int32) * x1) + x2).toNatClampNeg) C)) else (gd (inb (((16 : Int32) * x3) + (x2 - x2 / (16 : Int32) * (16 : Int32))) 192) (F_X12_word_122 (C 138 0 0 (((16 : Int32) * x3) + (x2 - x2 / (16 : Int32) * (16 : Int32))).toNatClampNeg) C))
set_option maxHeartbeats 4000000 in
set_option maxRecDepth 100000 in
theorem B_X12_word_88 {p : Program} {l : Launch} {e : Env} {s : State} {m : MethodId} {args : Array Value} {below : List Frame} {meth : Method} {c : Code} {g : GP} {Z : St} (hC : CX p s m args c cX12_word RX12 g) (hE : EZ g s s.heap) (hml : c.maxLocals = 4) (hr : meth.sig.returnType = (some .int)) (hlk : meth.locks = false) {r : Int32} {C2 : St} {x1 : Int32} {x2 : Int32} {x3 : Int32} {C : St} (h : F_X12_word_88  x1 x2 x3 C = some (r, C2)) {ed : Nat → Nat} {H : Heap} {locs : List Loc} {ls : Array Slot} (hH : HW g ed Z C H) (hS : va_S (gP g) s.heap H locs) (hl : lv_has ls 4 [(0, .ref (gA g 50 0)), (1, .int x1), (2, .int x2), (3, .int x3)]) : W p l e ({ frames := 1, cells := 0, slots := 0, locals := 24 } : Room) s m args below meth c H locs 0 0 (MQ below (QG (some (.int r)) g Z C2) args s 0 0 (gP g)) (F0 m 88 ls []) := by
  unfold F_X12_word_88 at h
  refine lv_iload_n hC.1 hC.2.1 dX12_word_88 rfl (lv_at hl 3 rfl) ?_
  refine lv_iconst (v := (-1 : Int32)) hC.1 hC.2.1 dX12_word_89 (by decide) ?_
  refine lv_icmp_ne (tgt := 108) hC.1 hC.2.1 dX12_word_90 (by decide) (fun hc1 => ?_) (fun hc1 => ?_)
  · rw [if_neg hc1] at h
    refine lv_aload_n hC.1 hC.2.1 dX12_word_108 rfl (lv_at hl 0 rfl) ?_
    refine gf_RX12_101 hC hH rfl dX12_word_109 ?_
    refine lv_bipush (v := (16 : Int32)) hC.1 hC.2.1 dX12_word_112 (by decide) ?_
    refine lv_iload_n hC.1 hC.2.1 dX12_word_114 rfl (lv_at hl 3 rfl) ?_
    refine lv_imul hC.1 hC.2.1 dX12_word_115 ?_
    refine lv_iload_n hC.1 hC.2.1 dX12_word_116 rfl (lv_at hl 2 rfl) ?_
    refine lv_bipush (v := (16 : Int32)) hC.1 hC.2.1 dX12_word_117 (by decide) ?_
    refine lv_irem hC.1 hC.2.1 dX12_word_119 (by decide) ?_
    refine lv_iadd hC.1 hC.2.1 dX12_word_120 ?_
    obtain ⟨hg2, h⟩ := gd_some h
    refine al_138 hC hH hg2 rfl dX12_word_121 ?_
    exact B_X12_word_122 hC hE hml hr hlk h hH hS (lv_sub hl [] rfl)
  · rw [if_pos hc1] at h
    refine lv_aload_n hC.1 hC.2.1 dX12_word_93 rfl (lv_at hl 0 rfl) ?_
    refine gf_RX12_98 hC hH rfl dX12_word_94 ?_
    refine lv_sipush (v := (128 : Int32)) hC.1 hC.2.1 dX12_word_97 (by decide) ?_
    refine lv_iload_n hC.1 hC.2.1 dX12_word_100 rfl (lv_at hl 1 rfl) ?_
    refine lv_imul hC.1 hC.2.1 dX12_word_101 ?_
    refine lv_iload_n hC.1 hC.2.1 dX12_word_102 rfl (lv_at hl 2 rfl) ?_
    refine lv_iadd hC.1 hC.2.1 dX12_word_103 ?_
    obtain ⟨hg3, h⟩ := gd_some h
    refine al_137 hC hH hg3 rfl dX12_word_104 ?_
    refine lv_goto (tgt := 122) hC.1 hC.2.1 dX12_word_105 (by decide) ?_
    exact B_X12_word_122 hC hE hml hr hlk h hH hS (lv_sub hl [] rfl)
def F_X12_word_30  (x1 : Int32) (x2 : Int32) (C : St) : Option (Int32 × St) := if x2 < 0 then (F_X12_word_47  C) else (gd (inb x1 6) (if x2 < ((16 : Int32) * (C 122 0 0 x1.toNatClampNeg)) then (bd2 (F_X12_frameOf x1 (x2 / (16 : Int32)) C) (fun r4 D5 => if r4 = (-1 : Int32) then (bd2 (F_X12_isWritten x1 D5) (fun r8 D9 => if r8 = 0 then (F_X12_word_88 x1 x2 r4 D9) else (if (D9 50 0 50 0) = (x2 / (16 : Int32)) then (F_X12_word_88 x1 x2 (D9 50 0 46 0) D9) else (F_X12_word_88 x1 x2 r4 D9)))) else (F_X12_word_88 x1 x2 r4 D5))) else (F_X12_word_47  C)))
set_option maxHeartbeats 4000000 in
set_option maxRecDepth 100000 in
theorem B_X12_word_30 {p : Program} {l : Launch} {e : Env} {s : State} {m : MethodId} {args : Array Value} {below : List Frame} {meth : Method} {c : Code} {g : GP} {Z : St} (hC : CX p s m args c cX12_word RX12 g) (hE : EZ g s s.heap) (hml : c.maxLocals = 4) (hr : meth.sig.returnType = (some .int)) (hlk : meth.locks = false) {r : Int32} {C2 : St} {x1 : Int32} {x2 : Int32} {C : St} (h : F_X12_word_30  x1 x2 C = some (r, C2)) {ed : Nat → Nat} {H : Heap} {locs : List Loc} {ls : Array Slot} (hH : HW g ed Z C H) (hS : va_S (gP g) s.heap H locs) (hl : lv_has ls 4 [(0, .ref (gA g 50 0)), (1, .int x1), (2, .int x2)]) : W p l e ({ frames := 1, cells := 0, slots := 0, locals := 24 } : Room) s m args below meth c H locs 0 0 (MQ below (QG (some (.int r)) g Z C2) args s 0 0 (gP g)) (F0 m 30 ls []) := by
  unfold F_X12_word_30 at h
  refine lv_iload_n hC.1 hC.2.1 dX12_word_30 rfl (lv_at hl 2 rfl) ?_
  refine lv_if_lt (tgt := 47) hC.1 hC.2.1 dX12_word_31 (by decide) (fun hc1 => ?_) (fun hc1 => ?_)
  · rw [if_pos hc1] at h
    exact B_X12_word_47 hC hE hml hr hlk h hH hS (lv_sub hl [] rfl)
  · rw [if_neg hc1] at h
    refine lv_iload_n hC.1 hC.2.1 dX12_word_34 rfl (lv_at hl 2 rfl) ?_
    refine lv_bipush (v := (16 : Int32)) hC.1 hC.2.1 dX12_word_35 (by decide) ?_
    refine lv_aload_n hC.1 hC.2.1 dX12_word_37 rfl (lv_at hl 0 rfl) ?_
    refine gf_RX12_56 hC hH rfl dX12_word_38 ?_
    refine lv_iload_n hC.1 hC.2.1 dX12_word_41 rfl (lv_at hl 1 rfl) ?_
    obtain ⟨hg2, h⟩ := gd_some h
    refine al_122 hC hH hg2 rfl dX12_word_42 ?_
    refine lv_imul hC.1 hC.2.1 dX12_word_43 ?_
    refine lv_icmp_lt (tgt := 49) hC.1 hC.2.1 dX12_word_44 (by decide) (fun hc3 => ?_) (fun hc3 => ?_)
    · rw [if_pos hc3] at h
      refine lv_aload_n hC.1 hC.2.1 dX12_word_49 rfl (lv_at hl 0 rfl) ?_
      refine lv_iload_n hC.1 hC.2.1 dX12_word_50 rfl (lv_at hl 1 rfl) ?_
      refine lv_iload_n hC.1 hC.2.1 dX12_word_51 rfl (lv_at hl 2 rfl) ?_
      refine lv_bipush (v := (16 : Int32)) hC.1 hC.2.1 dX12_word_52 (by decide) ?_
      refine lv_idiv hC.1 hC.2.1 dX12_word_54 (by decide) ?_
      obtain ⟨r4, D5, hF6, h⟩ := bd2_some h
      refine gcallV (As := [.int x1, .int (x2 / (16 : Int32))]) (rest := []) (Cn := RX12) hC hE hml hH hS (c_X12_frameOf hF6) ⟨wd_1408, wd_1410, wp_48, wd_17, wd_1411⟩ hd_X12_frameOf rfl rfl ⟨Nat.le_of_ble_eq_true rfl, Nat.le_of_ble_eq_true rfl⟩ rfl (hw_recv (q := 50) (i := 0) hC hH ⟨Nat.zero_lt_one, fun h => absurd h (by decide)⟩ rfl rfl) rfl hl.1 rfl (Nat.le_of_ble_eq_true rfl) dX12_word_55 ⟨Nat.le_of_ble_eq_true rfl, Nat.le_of_ble_eq_true rfl⟩ (fun ed H locs hH hS => ?_)
      refine W.eq (g2 := F0 m 58 ls [.int r4]) rfl ?_
      refine lv_istore_n (i := 3) (lv' := [(3, .int r4), (0, .ref (gA g 50 0)), (1, .int x1), (2, .int x2)]) hC.1 hC.2.1 dX12_word_58 rfl hl (by decide) rfl (fun ls hl => ?_)
      refine lv_iload_n hC.1 hC.2.1 dX12_word_59 rfl (lv_at hl 0 rfl) ?_
      refine lv_iconst (v := (-1 : Int32)) hC.1 hC.2.1 dX12_word_60 (by decide) ?_
      refine lv_icmp_ne (tgt := 88) hC.1 hC.2.1 dX12_word_61 (by decide) (fun hc7 => ?_) (fun hc7 => ?_)
      · rw [if_neg hc7] at h
        exact B_X12_word_88 hC hE hml hr hlk h hH hS (lv_sub hl [1, 2, 3, 0] rfl)
      · rw [if_pos hc7] at h
        refine lv_aload_n hC.1 hC.2.1 dX12_word_64 rfl (lv_at hl 1 rfl) ?_
        refine lv_iload_n hC.1 hC.2.1 dX12_word_65 rfl (lv_at hl 2 rfl) ?_
        obtain ⟨r8, D9, hF10, h⟩ := bd2_some h
        refine gcallV (As := [.int x1]) (rest := []) (Cn := RX12) hC hE hml hH hS (c_X12_isWritten hF10) ⟨wd_1500, wd_1502, wp_69, wd_17, wd_1503⟩ hd_X12_isWritten rfl rfl ⟨Nat.le_of_ble_eq_true rfl, Nat.le_of_ble_eq_true rfl⟩ rfl (hw_recv (q := 50) (i := 0) hC hH ⟨Nat.zero_lt_one, fun h => absurd h (by decide)⟩ rfl rfl) rfl hl.1 rfl (Nat.le_of_ble_eq_true rfl) dX12_word_66 ⟨Nat.le_of_ble_eq_true rfl, Nat.le_of_ble_eq_true rfl⟩ (fun ed H locs hH hS => ?_)
        refine W.eq (g2 := F0 m 69 ls [.int r8]) rfl ?_
        refine lv_if_eq (tgt := 88) hC.1 hC.2.1 dX12_word_69 (by decide) (fun hc11 => ?_) (fun hc11 => ?_)
        · rw [if_pos hc11] at h
          exact B_X12_word_88 hC hE hml hr hlk h hH hS (lv_sub hl [1, 2, 3, 0] rfl)
        · rw [if_neg hc11] at h
          refine lv_aload_n hC.1 hC.2.1 dX12_word_72 rfl (lv_at hl 1 rfl) ?_
          refine gf_RX12_258 hC hH rfl dX12_word_73 ?_
          refine lv_iload_n hC.1 hC.2.1 dX12_word_76 rfl (lv_at hl 3 rfl) ?_
          refine lv_bipush (v := (16 : Int32)) hC.1 hC.2.1 dX12_word_77 (by decide) ?_
          refine lv_idiv hC.1 hC.2.1 dX12_word_79 (by decide) ?_
          refine lv_icmp_ne (tgt := 88) hC.1 hC.2.1 dX12_word_80 (by decide) (fun hc12 => ?_) (fun hc12 => ?_)
          · rw [if_neg hc12] at h
            exact B_X12_word_88 hC hE hml hr hlk h hH hS (lv_sub hl [1, 2, 3, 0] rfl)
          · rw [if_pos hc12] at h
            refine lv_aload_n hC.1 hC.2.1 dX12_word_83 rfl (lv_at hl 1 rfl) ?_
            refine gf_RX12_252 hC hH rfl dX12_word_84 ?_
            refine lv_istore_n (i := 3) (lv' := [(3, .int (D9 50 0 46 0)), (0, .ref (gA g 50 0)), (1, .int x1), (2, .int x2)]) hC.1 hC.2.1 dX12_word_87 rfl hl (by decide) rfl (fun ls hl => ?_)
            exact B_X12_word_88 hC hE hml hr hlk h hH hS (lv_sub hl [1, 2, 3, 0] rfl)
    · rw [if_neg hc3] at h
      exact B_X12_word_47 hC hE hml hr hlk h hH hS (lv_sub hl [] rfl)
def F_X12_word (x1 : Int32) (x2 : Int32) (C : St) : Option (Int32 × St) := if x1 < 0 then (F_X12_word_47  C) else (if (6 : Int32) ≤ x1 then (F_X12_word_47  C) else (gd (inb x1 6) (if (C 114 0 0 x1.toNatClampNeg) = (1 : Int32) then (F_X12_word_30 x1 x2 C) else (if (C 114 0 0 x1.toNatClampNeg) = (2 : Int32) then (F_X12_word_30 x1 x2 C) else (F_X12_word_47  C)))))
set_option maxHeartbeats 4000000 in
set_option maxRecDepth 100000 in
theorem c_X12_word {l : Launch} {g : GP} {ed : Nat → Nat} {Z : St} {x1 : Int32} {x2 : Int32} {C : St} {r : Int32} {C2 : St} (h : F_X12_word x1 x2 C = some (r, C2)) : Met l yX12_word (Cond.code yX12_word cX12_word 4 (some .int) :: lwG) ({ frames := 1, cells := 0, slots := 0, locals := 24 } : Room) (va_Pc [.ref (gA g 50 0), .int x1, .int x2] (PW g Z C ed)) (QG (some (.int r)) g Z C2) 0 0 (gP g) := by
  refine Met.ofW (cc := cX12_word) (maxL := 4) (ret := (some .int)) (by decide +kernel) rfl ?_
  intro p e s m args below meth c s₁ B hml hv
  obtain ⟨ha, hC, hE, hr, hlk, hH⟩ := g_start B hv
  subst ha
  have hC : CX p s m ([.ref (gA g 50 0), .int x1, .int x2] : List Value).toArray c cX12_word RX12 g := hC
  have hS : va_S (gP g) s.heap s.heap [] := va_S.rf
  obtain ⟨ls, he, hl⟩ := g_entry m (vs := [.ref (gA g 50 0), .int x1, .int x2]) (n := 4) (List.forall_mem_cons.mpr ⟨rfl, (List.forall_mem_cons.mpr ⟨rfl, (List.forall_mem_cons.mpr ⟨rfl, (fun _ h => absurd h List.not_mem_nil)⟩)⟩)⟩) (Nat.le_of_ble_eq_true rfl)
  rw [he]
  have hl : lv_has ls 4 [(0, .ref (gA g 50 0)), (1, .int x1), (2, .int x2)] := hl
  unfold F_X12_word at h
  refine lv_iload_n hC.1 hC.2.1 dX12_word_0 rfl (lv_at hl 1 rfl) ?_
  refine lv_if_lt (tgt := 47) hC.1 hC.2.1 dX12_word_1 (by decide) (fun hc1 => ?_) (fun hc1 => ?_)
  · rw [if_pos hc1] at h
    exact B_X12_word_47 hC hE hml hr hlk h hH hS (lv_sub hl [] rfl)
  · rw [if_neg hc1] at h
    refine lv_iload_n hC.1 hC.2.1 dX12_word_4 rfl (lv_at hl 1 rfl) ?_
    refine lv_bipush (v := (6 : Int32)) hC.1 hC.2.1 dX12_word_5 (by decide) ?_
    refine lv_icmp_ge (tgt := 47) hC.1 hC.2.1 dX12_word_7 (by decide) (fun hc2 => ?_) (fun hc2 => ?_)
    · rw [if_pos hc2] at h
      exact B_X12_word_47 hC hE hml hr hlk h hH hS (lv_sub hl [] rfl)
    · rw [if_neg hc2] at h
      refine lv_aload_n hC.1 hC.2.1 dX12_word_10 rfl (lv_at hl 0 rfl) ?_
      refine gf_RX12_32 hC hH rfl dX12_word_11 ?_
      refine lv_iload_n hC.1 hC.2.1 dX12_word_14 rfl (lv_at hl 1 rfl) ?_
      obtain ⟨hg3, h⟩ := gd_some h
      refine al_114 hC hH hg3 rfl dX12_word_15 ?_
      refine lv_iconst (v := (1 : Int32)) hC.1 hC.2.1 dX12_word_16 (by decide) ?_
      refine lv_icmp_eq (tgt := 30) hC.1 hC.2.1 dX12_word_17 (by decide) (fun hc4 => ?_) (fun hc4 => ?_)
      · rw [if_pos hc4] at h
        exact B_X12_word_30 hC hE hml hr hlk h hH hS (lv_sub hl [0, 1, 2] rfl)
      · rw [if_neg hc4] at h
        refine lv_aload_n hC.1 hC.2.1 dX12_word_20 rfl (lv_at hl 0 rfl) ?_
        refine gf_RX12_32 hC hH rfl dX12_word_21 ?_
        refine lv_iload_n hC.1 hC.2.1 dX12_word_24 rfl (lv_at hl 1 rfl) ?_
        refine al_114 hC hH hg3 rfl dX12_word_25 ?_
        refine lv_iconst (v := (2 : Int32)) hC.1 hC.2.1 dX12_word_26 (by decide) ?_
        refine lv_icmp_ne (tgt := 47) hC.1 hC.2.1 dX12_word_27 (by decide) (fun hc5 => ?_) (fun hc5 => ?_)
        · rw [if_neg hc5] at h
          exact B_X12_word_47 hC hE hml hr hlk h hH hS (lv_sub hl [] rfl)
        · rw [if_pos hc5] at h
          exact B_X12_word_30 hC hE hml hr hlk h hH hS (lv_sub hl [0, 1, 2] rfl)
def F_X12_frame_21   (C : St) : Option (Int32 × St) := some ((-1 : Int32), C)
set_option maxHeartbeats 4000000 in
set_option maxRecDepth 100000 in
theorem B_X12_frame_21 {p : Program} {l : Launch} {e : Env} {s : State} {m : MethodId} {args : Array Value} {below : List Frame} {meth : Method} {c : Code} {g : GP} {Z : St} (hC : CX p s m args c cX12_frame RX12 g) (hE : EZ g s s.heap) (hml : c.maxLocals = 3) (hr : meth.sig.returnType = (some .int)) (hlk : meth.locks = false) {r : Int32} {C2 : St}  {C : St} (h : F_X12_frame_21   C = some (r, C2)) {ed : Nat → Nat} {H : Heap} {locs : List Loc} {ls : Array Slot} (hH : HW g ed Z C H) (hS : va_S (gP g) s.heap H locs) (hl : lv_has ls 3 []) : W p l e ({ frames := 0, cells := 0, slots := 0, locals := 0 } : Room) s m args below meth c H locs 0 0 (MQ below (QG (some (.int r)) g Z C2) args s 0 0 (gP g)) (F0 m 21 ls []) := by
  unfold F_X12_frame_21 at h
  refine lv_iconst (v := (-1 : Int32)) hC.1 hC.2.1 dX12_frame_21 (by decide) ?_
  cases h
  exact gret_i hC hr hlk hH hS (Nat.le_of_ble_eq_true rfl) (Nat.le_of_ble_eq_true rfl) dX12_frame_22
def F_X12_frame_109  (t0 : Int32) (C : St) : Option (Int32 × St) := some (t0, C)
set_option maxHeartbeats 4000000 in
set_option maxRecDepth 100000 in
theorem B_X12_frame_109 {p : Program} {l : Launch} {e : Env} {s : State} {m : MethodId} {args : Array Value} {below : List Frame} {meth : Method} {c : Code} {g : GP} {Z : St} (hC : CX p s m args c cX12_frame RX12 g) (hE : EZ g s s.heap) (hml : c.maxLocals = 3) (hr : meth.sig.returnType = (some .int)) (hlk : meth.locks = false) {r : Int32} {C2 : St} {t0 : Int32} {C : St} (h : F_X12_frame_109  t0 C = some (r, C2)) {ed : Nat → Nat} {H : Heap} {locs : List Loc} {ls : Array Slot} (hH : HW g ed Z C H) (hS : va_S (gP g) s.heap H locs) (hl : lv_has ls 3 []) : W p l e ({ frames := 0, cells := 0, slots := 0, locals := 0 } : Room) s m args below meth c H locs 0 0 (MQ below (QG (some (.int r)) g Z C2) args s 0 0 (gP g)) (F0 m 109 ls [.int t0]) := by
  unfold F_X12_frame_109 at h
  cases h
  exact gret_i hC hr hlk hH hS (Nat.le_of_ble_eq_true rfl) (Nat.le_of_ble_eq_true rfl) dX12_frame_109
def F_X12_frame (x1 : Int32) (x2 : Int32) (C : St) : Option (Int32 × St) := if x1 < 0 then (F_X12_frame_21  C) else (if (C 50 0 0 0) ≤ x1 then (F_X12_frame_21  C) else (if x2 < 0 then (F_X12_frame_21  C) else (if x2 ≤ (4 : Int32) then (if x2 = 0 then (gd (inb x1 12) (some (C 139 0 0 x1.toNatClampNeg, C))) else (gd (inb x1 12) (if 0 ≤ (C 139 0 0 x1.toNatClampNeg) then (if x2 = (1 : Int32) then (F_X12_frame_109 (C 140 0 0 x1.toNatClampNeg) C) else (if x2 = (2 : Int32) then (if (C 142 0 0 x1.toNatClampNeg) = 0 then (F_X12_frame_109 (0 : Int32) C) else (F_X12_frame_109 (1 : Int32) C)) else (if x2 = (3 : Int32) then (if (C 143 0 0 x1.toNatClampNeg) = 0 then (F_X12_frame_109 (0 : Int32) C) else (F_X12_frame_109 (1 : Int32) C)) else (F_X12_frame_109 (C 141 0 0 x1.toNatClampNeg) C)))) else (some ((-1 : Int32), C))))) else (F_X12_frame_21  C))))
set_option maxHeartbeats 4000000 in
set_option maxRecDepth 100000 in
theorem c_X12_frame {l : Launch} {g : GP} {ed : Nat → Nat} {Z : St} {x1 : Int32} {x2 : Int32} {C : St} {r : Int32} {C2 : St} (h : F_X12_frame x1 x2 C = some (r, C2)) : Met l yX12_frame (Cond.code yX12_frame cX12_frame 3 (some .int) :: lwG) ({ frames := 0, cells := 0, slots := 0, locals := 0 } : Room) (va_Pc [.ref (gA g 50 0), .int x1, .int x2] (PW g Z C ed)) (QG (some (.int r)) g Z C2) 0 0 (gP g) := by
  refine Met.ofW (cc := cX12_frame) (maxL := 3) (ret := (some .int)) (by decide +kernel) rfl ?_
  intro p e s m args below meth c s₁ B hml hv
  obtain ⟨ha, hC, hE, hr, hlk, hH⟩ := g_start B hv
  subst ha
  have hC : CX p s m ([.ref (gA g 50 0), .int x1, .int x2] : List Value).toArray c cX12_frame RX12 g := hC
  have hS : va_S (gP g) s.heap s.heap [] := va_S.rf
  obtain ⟨ls, he, hl⟩ := g_entry m (vs := [.ref (gA g 50 0), .int x1, .int x2]) (n := 3) (List.forall_mem_cons.mpr ⟨rfl, (List.forall_mem_cons.mpr ⟨rfl, (List.forall_mem_cons.mpr ⟨rfl, (fun _ h => absurd h List.not_mem_nil)⟩)⟩)⟩) (Nat.le_of_ble_eq_true rfl)
  rw [he]
  have hl : lv_has ls 3 [(0, .ref (gA g 50 0)), (1, .int x1), (2, .int x2)] := hl
  unfold F_X12_frame at h
  refine lv_iload_n hC.1 hC.2.1 dX12_frame_0 rfl (lv_at hl 1 rfl) ?_
  refine lv_if_lt (tgt := 21) hC.1 hC.2.1 dX12_frame_1 (by decide) (fun hc1 => ?_) (fun hc1 => ?_)
  · rw [if_pos hc1] at h
    exact B_X12_frame_21 hC hE hml hr hlk h hH hS (lv_sub hl [] rfl)
  · rw [if_neg hc1] at h
    refine lv_iload_n hC.1 hC.2.1 dX12_frame_4 rfl (lv_at hl 1 rfl) ?_
    refine lv_aload_n hC.1 hC.2.1 dX12_frame_5 rfl (lv_at hl 0 rfl) ?_
    refine gf_RX12_150 hC hH rfl dX12_frame_6 ?_
    refine lv_icmp_ge (tgt := 21) hC.1 hC.2.1 dX12_frame_9 (by decide) (fun hc2 => ?_) (fun hc2 => ?_)
    · rw [if_pos hc2] at h
      exact B_X12_frame_21 hC hE hml hr hlk h hH hS (lv_sub hl [] rfl)
    · rw [if_neg hc2] at h
      refine lv_iload_n hC.1 hC.2.1 dX12_frame_12 rfl (lv_at hl 2 rfl) ?_
      refine lv_if_lt (tgt := 21) hC.1 hC.2.1 dX12_frame_13 (by decide) (fun hc3 => ?_) (fun hc3 => ?_)
      · rw [if_pos hc3] at h
        exact B_X12_frame_21 hC hE hml hr hlk h hH hS (lv_sub hl [] rfl)
      · rw [if_neg hc3] at h
        refine lv_iload_n hC.1 hC.2.1 dX12_frame_16 rfl (lv_at hl 2 rfl) ?_
        refine lv_iconst (v := (4 : Int32)) hC.1 hC.2.1 dX12_frame_17 (by decide) ?_
        refine lv_icmp_le (tgt := 23) hC.1 hC.2.1 dX12_frame_18 (by decide) (fun hc4 => ?_) (fun hc4 => ?_)
        · rw [if_pos hc4] at h
          refine lv_iload_n hC.1 hC.2.1 dX12_frame_23 rfl (lv_at hl 2 rfl) ?_
          refine lv_if_ne (tgt := 34) hC.1 hC.2.1 dX12_frame_24 (by decide) (fun hc5 => ?_) (fun hc5 => ?_)
          · rw [if_neg hc5] at h
            refine lv_aload_n hC.1 hC.2.1 dX12_frame_34 rfl (lv_at hl 0 rfl) ?_
            refine gf_RX12_104 hC hH rfl dX12_frame_35 ?_
            refine lv_iload_n hC.1 hC.2.1 dX12_frame_38 rfl (lv_at hl 1 rfl) ?_
            obtain ⟨hg6, h⟩ := gd_some h
            refine al_139 hC hH hg6 rfl dX12_frame_39 ?_
            refine lv_if_ge (tgt := 45) hC.1 hC.2.1 dX12_frame_40 (by decide) (fun hc7 => ?_) (fun hc7 => ?_)
            · rw [if_pos hc7] at h
              refine lv_iload_n hC.1 hC.2.1 dX12_frame_45 rfl (lv_at hl 2 rfl) ?_
              refine lv_iconst (v := (1 : Int32)) hC.1 hC.2.1 dX12_frame_46 (by decide) ?_
              refine lv_icmp_ne (tgt := 59) hC.1 hC.2.1 dX12_frame_47 (by decide) (fun hc8 => ?_) (fun hc8 => ?_)
              · rw [if_neg hc8] at h
                refine lv_iload_n hC.1 hC.2.1 dX12_frame_59 rfl (lv_at hl 2 rfl) ?_
                refine lv_iconst (v := (2 : Int32)) hC.1 hC.2.1 dX12_frame_60 (by decide) ?_
                refine lv_icmp_ne (tgt := 81) hC.1 hC.2.1 dX12_frame_61 (by decide) (fun hc9 => ?_) (fun hc9 => ?_)
                · rw [if_neg hc9] at h
                  refine lv_iload_n hC.1 hC.2.1 dX12_frame_81 rfl (lv_at hl 2 rfl) ?_
                  refine lv_iconst (v := (3 : Int32)) hC.1 hC.2.1 dX12_frame_82 (by decide) ?_
                  refine lv_icmp_ne (tgt := 103) hC.1 hC.2.1 dX12_frame_83 (by decide) (fun hc10 => ?_) (fun hc10 => ?_)
                  · rw [if_neg hc10] at h
                    refine lv_aload_n hC.1 hC.2.1 dX12_frame_103 rfl (lv_at hl 0 rfl) ?_
                    refine gf_RX12_110 hC hH rfl dX12_frame_104 ?_
                    refine lv_iload_n hC.1 hC.2.1 dX12_frame_107 rfl (lv_at hl 1 rfl) ?_
                    refine al_141 hC hH hg6 rfl dX12_frame_108 ?_
                    exact B_X12_frame_109 hC hE hml hr hlk h hH hS (lv_sub hl [] rfl)
                  · rw [if_pos hc10] at h
                    refine lv_aload_n hC.1 hC.2.1 dX12_frame_86 rfl (lv_at hl 0 rfl) ?_
                    refine gf_RX12_116 hC hH rfl dX12_frame_87 ?_
                    refine lv_iload_n hC.1 hC.2.1 dX12_frame_90 rfl (lv_at hl 1 rfl) ?_
                    refine al_143 hC hH hg6 rfl dX12_frame_91 ?_
                    refine lv_if_eq (tgt := 99) hC.1 hC.2.1 dX12_frame_92 (by decide) (fun hc11 => ?_) (fun hc11 => ?_)
                    · rw [if_pos hc11] at h
                      refine lv_iconst (v := (0 : Int32)) hC.1 hC.2.1 dX12_frame_99 (by decide) ?_
                      refine lv_goto (tgt := 109) hC.1 hC.2.1 dX12_frame_100 (by decide) ?_
                      exact B_X12_frame_109 hC hE hml hr hlk h hH hS (lv_sub hl [] rfl)
                    · rw [if_neg hc11] at h
                      refine lv_iconst (v := (1 : Int32)) hC.1 hC.2.1 dX12_frame_95 (by decide) ?_
                      refine lv_goto (tgt := 109) hC.1 hC.2.1 dX12_frame_96 (by decide) ?_
                      exact B_X12_frame_109 hC hE hml hr hlk h hH hS (lv_sub hl [] rfl)
                · rw [if_pos hc9] at h
                  refine lv_aload_n hC.1 hC.2.1 dX12_frame_64 rfl (lv_at hl 0 rfl) ?_
                  refine gf_RX12_113 hC hH rfl dX12_frame_65 ?_
                  refine lv_iload_n hC.1 hC.2.1 dX12_frame_68 rfl (lv_at hl 1 rfl) ?_
                  refine al_142 hC hH hg6 rfl dX12_frame_69 ?_
                  refine lv_if_eq (tgt := 77) hC.1 hC.2.1 dX12_frame_70 (by decide) (fun hc12 => ?_) (fun hc12 => ?_)
                  · rw [if_pos hc12] at h
                    refine lv_iconst (v := (0 : Int32)) hC.1 hC.2.1 dX12_frame_77 (by decide) ?_
                    refine lv_goto (tgt := 109) hC.1 hC.2.1 dX12_frame_78 (by decide) ?_
                    exact B_X12_frame_109 hC hE hml hr hlk h hH hS (lv_sub hl [] rfl)
                  · rw [if_neg hc12] at h
                    refine lv_iconst (v := (1 : Int32)) hC.1 hC.2.1 dX12_frame_73 (by decide) ?_
                    refine lv_goto (tgt := 109) hC.1 hC.2.1 dX12_frame_74 (by decide) ?_
                    exact B_X12_frame_109 hC hE hml hr hlk h hH hS (lv_sub hl [] rfl)
              · rw [if_pos hc8] at h
                refine lv_aload_n hC.1 hC.2.1 dX12_frame_50 rfl (lv_at hl 0 rfl) ?_
                refine gf_RX12_107 hC hH rfl dX12_frame_51 ?_
                refine lv_iload_n hC.1 hC.2.1 dX12_frame_54 rfl (lv_at hl 1 rfl) ?_
                refine al_140 hC hH hg6 rfl dX12_frame_55 ?_
                refine lv_goto (tgt := 109) hC.1 hC.2.1 dX12_frame_56 (by decide) ?_
                exact B_X12_frame_109 hC hE hml hr hlk h hH hS (lv_sub hl [] rfl)
            · rw [if_neg hc7] at h
              refine lv_iconst (v := (-1 : Int32)) hC.1 hC.2.1 dX12_frame_43 (by decide) ?_
              cases h
              exact gret_i hC hr hlk hH hS (Nat.le_of_ble_eq_true rfl) (Nat.le_of_ble_eq_true rfl) dX12_frame_44
          · rw [if_pos hc5] at h
            refine lv_aload_n hC.1 hC.2.1 dX12_frame_27 rfl (lv_at hl 0 rfl) ?_
            refine gf_RX12_104 hC hH rfl dX12_frame_28 ?_
            refine lv_iload_n hC.1 hC.2.1 dX12_frame_31 rfl (lv_at hl 1 rfl) ?_
            obtain ⟨hg13, h⟩ := gd_some h
            refine al_139 hC hH hg13 rfl dX12_frame_32 ?_
            cases h
            exact gret_i hC hr hlk hH hS (Nat.le_of_ble_eq_true rfl) (Nat.le_of_ble_eq_true rfl) dX12_frame_33
        · rw [if_neg hc4] at h
          exact B_X12_frame_21 hC hE hml hr hlk h hH hS (lv_sub hl [] rfl)
def F_X12_about_82  (t0 : Int32) (C : St) : Option (Int32 × St) := some (t0, C)
set_option maxHeartbeats 4000000 in
set_option maxRecDepth 100000 in
theorem B_X12_about_82 {p : Program} {l : Launch} {e : Env} {s : State} {m : MethodId} {args : Array Value} {below : List Frame} {meth : Method} {c : Code} {g : GP} {Z : St} (hC : CX p s m args c cX12_about RX12 g) (hE : EZ g s s.heap) (hml : c.maxLocals = 2) (hr : meth.sig.returnType = (some .int)) (hlk : meth.locks = false) {r : Int32} {C2 : St} {t0 : Int32} {C : St} (h : F_X12_about_82  t0 C = some (r, C2)) {ed : Nat → Nat} {H : Heap} {locs : List Loc} {ls : Array Slot} (hH : HW g ed Z C H) (hS : va_S (gP g) s.heap H locs) (hl : lv_has ls 2 []) : W p l e ({ frames := 1, cells := 0, slots := 0, locals := 22 } : Room) s m args below meth c H locs 0 0 (MQ below (QG (some (.int r)) g Z C2) args s 0 0 (gP g)) (F0 m 82 ls [.int t0]) := by
  unfold F_X12_about_82 at h
  cases h
  exact gret_i hC hr hlk hH hS (Nat.le_of_ble_eq_true rfl) (Nat.le_of_ble_eq_true rfl) dX12_about_82
def F_X12_about_95  (t0 : Int32) (C : St) : Option (Int32 × St) := some (t0, C)
set_option maxHeartbeats 4000000 in
set_option maxRecDepth 100000 in
theorem B_X12_about_95 {p : Program} {l : Launch} {e : Env} {s : State} {m : MethodId} {args : Array Value} {below : List Frame} {meth : Method} {c : Code} {g : GP} {Z : St} (hC : CX p s m args c cX12_about RX12 g) (hE : EZ g s s.heap) (hml : c.maxLocals = 2) (hr : meth.sig.returnType = (some .int)) (hlk : meth.locks = false) {r : Int32} {C2 : St} {t0 : Int32} {C : St} (h : F_X12_about_95  t0 C = some (r, C2)) {ed : Nat → Nat} {H : Heap} {locs : List Loc} {ls : Array Slot} (hH : HW g ed Z C H) (hS : va_S (gP g) s.heap H locs) (hl : lv_has ls 2 []) : W p l e ({ frames := 1, cells := 0, slots := 0, locals := 22 } : Room) s m args below meth c H locs 0 0 (MQ below (QG (some (.int r)) g Z C2) args s 0 0 (gP g)) (F0 m 95 ls [.int t0]) := by
  unfold F_X12_about_95 at h
  cases h
  exact gret_i hC hr hlk hH hS (Nat.le_of_ble_eq_true rfl) (Nat.le_of_ble_eq_true rfl) dX12_about_95
def F_X12_about_96  (x1 : Int32) (C : St) : Option (Int32 × St) := gd (inb (x1 - (4 : Int32)) 3) (some (C 128 0 0 (x1 - (4 : Int32)).toNatClampNeg, C))
set_option maxHeartbeats 4000000 in
set_option maxRecDepth 100000 in
theorem B_X12_about_96 {p : Program} {l : Launch} {e : Env} {s : State} {m : MethodId} {args : Array Value} {below : List Frame} {meth : Method} {c : Code} {g : GP} {Z : St} (hC : CX p s m args c cX12_about RX12 g) (hE : EZ g s s.heap) (hml : c.maxLocals = 2) (hr : meth.sig.returnType = (some .int)) (hlk : meth.locks = false) {r : Int32} {C2 : St} {x1 : Int32} {C : St} (h : F_X12_about_96  x1 C = some (r, C2)) {ed : Nat → Nat} {H : Heap} {locs : List Loc} {ls : Array Slot} (hH : HW g ed Z C H) (hS : va_S (gP g) s.heap H locs) (hl : lv_has ls 2 [(0, .ref (gA g 50 0)), (1, .int x1)]) : W p l e ({ frames := 1, cells := 0, slots := 0, locals := 22 } : Room) s m args below meth c H locs 0 0 (MQ below (QG (some (.int r)) g Z C2) args s 0 0 (gP g)) (F0 m 96 ls []) := by
  unfold F_X12_about_96 at h
  refine lv_aload_n hC.1 hC.2.1 dX12_about_96 rfl (lv_at hl 0 rfl) ?_
  refine gf_RX12_71 hC hH rfl dX12_about_97 ?_
  refine lv_iload_n hC.1 hC.2.1 dX12_about_100 rfl (lv_at hl 1 rfl) ?_
  refine lv_iconst (v := (4 : Int32)) hC.1 hC.2.1 dX12_about_101 (by decide) ?_
  refine lv_isub hC.1 hC.2.1 dX12_about_102 ?_
  obtain ⟨hg1, h⟩ := gd_some h
  refine al_128 hC hH hg1 rfl dX12_about_103 ?_
  cases h
  exact gret_i hC hr hlk hH hS (Nat.le_of_ble_eq_true rfl) (Nat.le_of_ble_eq_true rfl) dX12_about_104
def F_X12_about (x1 : Int32) (C : St) : Option (Int32 × St) := if x1 = 0 then (some (C 50 0 5 0, C)) else (if x1 = 1 then (some (C 50 0 45 0, C)) else (if x1 = 2 then (if (C 50 0 52 0) = 0 then (F_X12_about_82 (0 : Int32) C) else (F_X12_about_82 (1 : Int32) C)) else (if x1 = 3 then (if (C 50 0 53 0) = 0 then (F_X12_about_95 (0 : Int32) C) else (F_X12_about_95 (1 : Int32) C)) else (if x1 = 4 then (F_X12_about_96 x1 C) else (if x1 = 5 then (F_X12_about_96 x1 C) else (if x1 = 6 then (F_X12_about_96 x1 C) else (if x1 = 7 then (some (C 50 0 69 0, C)) else (if x1 = 8 then (bd2 (F_X12_admitted  C) (fun r12 D13 => some (r12, D13))) else (if x1 = 9 then (some (C 50 0 44 0, C)) else (if x1 = 10 then (some (C 50 0 68 0, C)) else (some ((-1 : Int32), C))))))))))))
set_option maxHeartbeats 4000000 in
set_option maxRecDepth 100000 in
theorem c_X12_about {l : Launch} {g : GP} {ed : Nat → Nat} {Z : St} {x1 : Int32} {C : St} {r : Int32} {C2 : St} (h : F_X12_about x1 C = some (r, C2)) : Met l yX12_about (Cond.code yX12_about cX12_about 2 (some .int) :: lwG) ({ frames := 1, cells := 0, slots := 0, locals := 22 } : Room) (va_Pc [.ref (gA g 50 0), .int x1] (PW g Z C ed)) (QG (some (.int r)) g Z C2) 0 0 (gP g) := by
  refine Met.ofW (cc := cX12_about) (maxL := 2) (ret := (some .int)) (by decide +kernel) rfl ?_
  intro p e s m args below meth c s₁ B hml hv
  obtain ⟨ha, hC, hE, hr, hlk, hH⟩ := g_start B hv
  subst ha
  have hC : CX p s m ([.ref (gA g 50 0), .int x1] : List Value).toArray c cX12_about RX12 g := hC
  have hS : va_S (gP g) s.heap s.heap [] := va_S.rf
  obtain ⟨ls, he, hl⟩ := g_entry m (vs := [.ref (gA g 50 0), .int x1]) (n := 2) (List.forall_mem_cons.mpr ⟨rfl, (List.forall_mem_cons.mpr ⟨rfl, (fun _ h => absurd h List.not_mem_nil)⟩)⟩) (Nat.le_of_ble_eq_true rfl)
  rw [he]
  have hl : lv_has ls 2 [(0, .ref (gA g 50 0)), (1, .int x1)] := hl
  unfold F_X12_about at h
  refine lv_iload_n hC.1 hC.2.1 dX12_about_0 rfl (lv_at hl 1 rfl) ?_
  by_cases hs1 : x1 = 0
  · rw [if_pos hs1] at h
    refine lv_tableIn (x := x1) (off := 59) (tgt := 60) hC.1 hC.2.1 dX12_about_1 (by rw [hs1]; decide) (by rw [hs1]; decide) (by rw [hs1]; rfl) (by decide) ?_
    refine lv_aload_n hC.1 hC.2.1 dX12_about_60 rfl (lv_at hl 0 rfl) ?_
    refine gf_RX12_167 hC hH rfl dX12_about_61 ?_
    cases h
    exact gret_i hC hr hlk hH hS (Nat.le_of_ble_eq_true rfl) (Nat.le_of_ble_eq_true rfl) dX12_about_64
  · rw [if_neg hs1] at h
    by_cases hs2 : x1 = 1
    · rw [if_pos hs2] at h
      refine lv_tableIn (x := x1) (off := 64) (tgt := 65) hC.1 hC.2.1 dX12_about_1 (by rw [hs2]; decide) (by rw [hs2]; decide) (by rw [hs2]; rfl) (by decide) ?_
      refine lv_aload_n hC.1 hC.2.1 dX12_about_65 rfl (lv_at hl 0 rfl) ?_
      refine gf_RX12_264 hC hH rfl dX12_about_66 ?_
      cases h
      exact gret_i hC hr hlk hH hS (Nat.le_of_ble_eq_true rfl) (Nat.le_of_ble_eq_true rfl) dX12_about_69
    · rw [if_neg hs2] at h
      by_cases hs3 : x1 = 2
      · rw [if_pos hs3] at h
        refine lv_tableIn (x := x1) (off := 69) (tgt := 70) hC.1 hC.2.1 dX12_about_1 (by rw [hs3]; decide) (by rw [hs3]; decide) (by rw [hs3]; rfl) (by decide) ?_
        refine lv_aload_n hC.1 hC.2.1 dX12_about_70 rfl (lv_at hl 0 rfl) ?_
        refine gf_RX12_306 hC hH rfl dX12_about_71 ?_
        refine lv_if_eq (tgt := 81) hC.1 hC.2.1 dX12_about_74 (by decide) (fun hc4 => ?_) (fun hc4 => ?_)
        · rw [if_pos hc4] at h
          refine lv_iconst (v := (0 : Int32)) hC.1 hC.2.1 dX12_about_81 (by decide) ?_
          exact B_X12_about_82 hC hE hml hr hlk h hH hS (lv_sub hl [] rfl)
        · rw [if_neg hc4] at h
          refine lv_iconst (v := (1 : Int32)) hC.1 hC.2.1 dX12_about_77 (by decide) ?_
          refine lv_goto (tgt := 82) hC.1 hC.2.1 dX12_about_78 (by decide) ?_
          exact B_X12_about_82 hC hE hml hr hlk h hH hS (lv_sub hl [] rfl)
      · rw [if_neg hs3] at h
        by_cases hs5 : x1 = 3
        · rw [if_pos hs5] at h
          refine lv_tableIn (x := x1) (off := 82) (tgt := 83) hC.1 hC.2.1 dX12_about_1 (by rw [hs5]; decide) (by rw [hs5]; decide) (by rw [hs5]; rfl) (by decide) ?_
          refine lv_aload_n hC.1 hC.2.1 dX12_about_83 rfl (lv_at hl 0 rfl) ?_
          refine gf_RX12_313 hC hH rfl dX12_about_84 ?_
          refine lv_if_eq (tgt := 94) hC.1 hC.2.1 dX12_about_87 (by decide) (fun hc6 => ?_) (fun hc6 => ?_)
          · rw [if_pos hc6] at h
            refine lv_iconst (v := (0 : Int32)) hC.1 hC.2.1 dX12_about_94 (by decide) ?_
            exact B_X12_about_95 hC hE hml hr hlk h hH hS (lv_sub hl [] rfl)
          · rw [if_neg hc6] at h
            refine lv_iconst (v := (1 : Int32)) hC.1 hC.2.1 dX12_about_90 (by decide) ?_
            refine lv_goto (tgt := 95) hC.1 hC.2.1 dX12_about_91 (by decide) ?_
            exact B_X12_about_95 hC hE hml hr hlk h hH hS (lv_sub hl [] rfl)
        · rw [if_neg hs5] at h
          by_cases hs7 : x1 = 4
          · rw [if_pos hs7] at h
            refine lv_tableIn (x := x1) (off := 95) (tgt := 96) hC.1 hC.2.1 dX12_about_1 (by rw [hs7]; decide) (by rw [hs7]; decide) (by rw [hs7]; rfl) (by decide) ?_
            exact B_X12_about_96 hC hE hml hr hlk h hH hS (lv_sub hl [0, 1] rfl)
          · rw [if_neg hs7] at h
            by_cases hs8 : x1 = 5
            · rw [if_pos hs8] at h
              refine lv_tableIn (x := x1) (off := 95) (tgt := 96) hC.1 hC.2.1 dX12_about_1 (by rw [hs8]; decide) (by rw [hs8]; decide) (by rw [hs8]; rfl) (by decide) ?_
              exact B_X12_about_96 hC hE hml hr hlk h hH hS (lv_sub hl [0, 1] rfl)
            · rw [if_neg hs8] at h
              by_cases hs9 : x1 = 6
              · rw [if_pos hs9] at h
                refine lv_tableIn (x := x1) (off := 95) (tgt := 96) hC.1 hC.2.1 dX12_about_1 (by rw [hs9]; decide) (by rw [hs9]; decide) (by rw [hs9]; rfl) (by decide) ?_
                exact B_X12_about_96 hC hE hml hr hlk h hH hS (lv_sub hl [0, 1] rfl)
              · rw [if_neg hs9] at h
                by_cases hs10 : x1 = 7
                · rw [if_pos hs10] at h
                  refine lv_tableIn (x := x1) (off := 104) (tgt := 105) hC.1 hC.2.1 dX12_about_1 (by rw [hs10]; decide) (by rw [hs10]; decide) (by rw [hs10]; rfl) (by decide) ?_
                  refine lv_aload_n hC.1 hC.2.1 dX12_about_105 rfl (lv_at hl 0 rfl) ?_
                  refine gf_RX12_316 hC hH rfl dX12_about_106 ?_
                  cases h
                  exact gret_i hC hr hlk hH hS (Nat.le_of_ble_eq_true rfl) (Nat.le_of_ble_eq_true rfl) dX12_about_109
                · rw [if_neg hs10] at h
                  by_cases hs11 : x1 = 8
                  · rw [if_pos hs11] at h
                    refine lv_tableIn (x := x1) (off := 109) (tgt := 110) hC.1 hC.2.1 dX12_about_1 (by rw [hs11]; decide) (by rw [hs11]; decide) (by rw [hs11]; rfl) (by decide) ?_
                    refine lv_aload_n hC.1 hC.2.1 dX12_about_110 rfl (lv_at hl 0 rfl) ?_
                    obtain ⟨r12, D13, hF14, h⟩ := bd2_some h
                    refine gcallV (As := []) (rest := []) (Cn := RX12) hC hE hml hH hS (c_X12_admitted hF14) ⟨wd_1477, wd_1479, wp_65, wd_17, wd_1480⟩ hd_X12_admitted rfl rfl ⟨Nat.le_of_ble_eq_true rfl, Nat.le_of_ble_eq_true rfl⟩ rfl (hw_recv (q := 50) (i := 0) hC hH ⟨Nat.zero_lt_one, fun h => absurd h (by decide)⟩ rfl rfl) rfl hl.1 rfl (Nat.le_of_ble_eq_true rfl) dX12_about_111 ⟨Nat.le_of_ble_eq_true rfl, Nat.le_of_ble_eq_true rfl⟩ (fun ed H locs hH hS => ?_)
                    refine W.eq (g2 := F0 m 114 ls [.int r12]) rfl ?_
                    cases h
                    exact gret_i hC hr hlk hH hS (Nat.le_of_ble_eq_true rfl) (Nat.le_of_ble_eq_true rfl) dX12_about_114
                  · rw [if_neg hs11] at h
                    by_cases hs15 : x1 = 9
                    · rw [if_pos hs15] at h
                      refine lv_tableIn (x := x1) (off := 114) (tgt := 115) hC.1 hC.2.1 dX12_about_1 (by rw [hs15]; decide) (by rw [hs15]; decide) (by rw [hs15]; rfl) (by decide) ?_
                      refine lv_aload_n hC.1 hC.2.1 dX12_about_115 rfl (lv_at hl 0 rfl) ?_
                      refine gf_RX12_270 hC hH rfl dX12_about_116 ?_
                      cases h
                      exact gret_i hC hr hlk hH hS (Nat.le_of_ble_eq_true rfl) (Nat.le_of_ble_eq_true rfl) dX12_about_119
                    · rw [if_neg hs15] at h
                      by_cases hs16 : x1 = 10
                      · rw [if_pos hs16] at h
                        refine lv_tableIn (x := x1) (off := 119) (tgt := 120) hC.1 hC.2.1 dX12_about_1 (by rw [hs16]; decide) (by rw [hs16]; decide) (by rw [hs16]; rfl) (by decide) ?_
                        refine lv_aload_n hC.1 hC.2.1 dX12_about_120 rfl (lv_at hl 0 rfl) ?_
                        refine gf_RX12_322 hC hH rfl dX12_about_121 ?_
                        cases h
                        exact gret_i hC hr hlk hH hS (Nat.le_of_ble_eq_true rfl) (Nat.le_of_ble_eq_true rfl) dX12_about_124
                      · rw [if_neg hs16] at h
                        have q0 := lv_neT (a := 0) hs1 (by decide)
                        have q1 := lv_neT (a := 1) hs2 (by decide)
                        have q2 := lv_neT (a := 2) hs3 (by decide)
                        have q3 := lv_neT (a := 3) hs5 (by decide)
                        have q4 := lv_neT (a := 4) hs7 (by decide)
                        have q5 := lv_neT (a := 5) hs8 (by decide)
                        have q6 := lv_neT (a := 6) hs9 (by decide)
                        have q7 := lv_neT (a := 7) hs10 (by decide)
                        have q8 := lv_neT (a := 8) hs11 (by decide)
                        have q9 := lv_neT (a := 9) hs15 (by decide)
                        have q10 := lv_neT (a := 10) hs16 (by decide)
                        refine lv_tableOut (x := x1) (tgt := 125) hC.1 hC.2.1 dX12_about_1 (by omega) (by decide) ?_
                        refine lv_iconst (v := (-1 : Int32)) hC.1 hC.2.1 dX12_about_125 (by decide) ?_
                        cases h
                        exact gret_i hC hr hlk hH hS (Nat.le_of_ble_eq_true rfl) (Nat.le_of_ble_eq_true rfl) dX12_about_126
def F_X12_octet_29  (t0 : Int32) (C : St) : Option (Int32 × St) := some (t0, C)
set_option maxHeartbeats 4000000 in
set_option maxRecDepth 100000 in
theorem B_X12_octet_29 {p : Program} {l : Launch} {e : Env} {s : State} {m : MethodId} {args : Array Value} {below : List Frame} {meth : Method} {c : Code} {g : GP} {Z : St} (hC : CX p s m args c cX12_octet RX12 g) (hE : EZ g s s.heap) (hml : c.maxLocals = 2) (hr : meth.sig.returnType = (some .int)) (hlk : meth.locks = false) {r : Int32} {C2 : St} {t0 : Int32} {C : St} (h : F_X12_octet_29  t0 C = some (r, C2)) {ed : Nat → Nat} {H : Heap} {locs : List Loc} {ls : Array Slot} (hH : HW g ed Z C H) (hS : va_S (gP g) s.heap H locs) (hl : lv_has ls 2 []) : W p l e ({ frames := 0, cells := 0, slots := 0, locals := 0 } : Room) s m args below meth c H locs 0 0 (MQ below (QG (some (.int r)) g Z C2) args s 0 0 (gP g)) (F0 m 29 ls [.int t0]) := by
  unfold F_X12_octet_29 at h
  cases h
  exact gret_i hC hr hlk hH hS (Nat.le_of_ble_eq_true rfl) (Nat.le_of_ble_eq_true rfl) dX12_octet_29
def F_X12_octet_19   (C : St) : Option (Int32 × St) := F_X12_octet_29 (-1 : Int32) C
set_option maxHeartbeats 4000000 in
set_option maxRecDepth 100000 in
theorem B_X12_octet_19 {p : Program} {l : Launch} {e : Env} {s : State} {m : MethodId} {args : Array Value} {below : List Frame} {meth : Method} {c : Code} {g : GP} {Z : St} (hC : CX p s m args c cX12_octet RX12 g) (hE : EZ g s s.heap) (hml : c.maxLocals = 2) (hr : meth.sig.returnType = (some .int)) (hlk : meth.locks = false) {r : Int32} {C2 : St}  {C : St} (h : F_X12_octet_19   C = some (r, C2)) {ed : Nat → Nat} {H : Heap} {locs : List Loc} {ls : Array Slot} (hH : HW g ed Z C H) (hS : va_S (gP g) s.heap H locs) (hl : lv_has ls 2 []) : W p l e ({ frames := 0, cells := 0, slots := 0, locals := 0 } : Room) s m args below meth c H locs 0 0 (MQ below (QG (some (.int r)) g Z C2) args s 0 0 (gP g)) (F0 m 19 ls []) := by
  unfold F_X12_octet_19 at h
  refine lv_iconst (v := (-1 : Int32)) hC.1 hC.2.1 dX12_octet_19 (by decide) ?_
  refine lv_goto (tgt := 29) hC.1 hC.2.1 dX12_octet_20 (by decide) ?_
  exact B_X12_octet_29 hC hE hml hr hlk h hH hS (lv_sub hl [] rfl)
def F_X12_octet (x1 : Int32) (C : St) : Option (Int32 × St) := if x1 < 0 then (F_X12_octet_19  C) else (if (600 : Int32) ≤ x1 then (F_X12_octet_19  C) else (if x1 < (C 50 0 69 0) then (gd (inb x1 600) (F_X12_octet_29 (C 166 0 0 x1.toNatClampNeg) C)) else (F_X12_octet_19  C)))
set_option maxHeartbeats 4000000 in
set_option maxRecDepth 100000 in
theorem c_X12_octet {l : Launch} {g : GP} {ed : Nat → Nat} {Z : St} {x1 : Int32} {C : St} {r : Int32} {C2 : St} (h : F_X12_octet x1 C = some (r, C2)) : Met l yX12_octet (Cond.code yX12_octet cX12_octet 2 (some .int) :: lwG) ({ frames := 0, cells := 0, slots := 0, locals := 0 } : Room) (va_Pc [.ref (gA g 50 0), .int x1] (PW g Z C ed)) (QG (some (.int r)) g Z C2) 0 0 (gP g) := by
  refine Met.ofW (cc := cX12_octet) (maxL := 2) (ret := (some .int)) (by decide +kernel) rfl ?_
  intro p e s m args below meth c s₁ B hml hv
  obtain ⟨ha, hC, hE, hr, hlk, hH⟩ := g_start B hv
  subst ha
  have hC : CX p s m ([.ref (gA g 50 0), .int x1] : List Value).toArray c cX12_octet RX12 g := hC
  have hS : va_S (gP g) s.heap s.heap [] := va_S.rf
  obtain ⟨ls, he, hl⟩ := g_entry m (vs := [.ref (gA g 50 0), .int x1]) (n := 2) (List.forall_mem_cons.mpr ⟨rfl, (List.forall_mem_cons.mpr ⟨rfl, (fun _ h => absurd h List.not_mem_nil)⟩)⟩) (Nat.le_of_ble_eq_true rfl)
  rw [he]
  have hl : lv_has ls 2 [(0, .ref (gA g 50 0)), (1, .int x1)] := hl
  unfold F_X12_octet at h
  refine lv_iload_n hC.1 hC.2.1 dX12_octet_0 rfl (lv_at hl 1 rfl) ?_
  refine lv_if_lt (tgt := 19) hC.1 hC.2.1 dX12_octet_1 (by decide) (fun hc1 => ?_) (fun hc1 => ?_)
  · rw [if_pos hc1] at h
    exact B_X12_octet_19 hC hE hml hr hlk h hH hS (lv_sub hl [] rfl)
  · rw [if_neg hc1] at h
    refine lv_iload_n hC.1 hC.2.1 dX12_octet_4 rfl (lv_at hl 1 rfl) ?_
    refine lv_sipush (v := (600 : Int32)) hC.1 hC.2.1 dX12_octet_5 (by decide) ?_
    refine lv_icmp_ge (tgt := 19) hC.1 hC.2.1 dX12_octet_8 (by decide) (fun hc2 => ?_) (fun hc2 => ?_)
    · rw [if_pos hc2] at h
      exact B_X12_octet_19 hC hE hml hr hlk h hH hS (lv_sub hl [] rfl)
    · rw [if_neg hc2] at h
      refine lv_iload_n hC.1 hC.2.1 dX12_octet_11 rfl (lv_at hl 1 rfl) ?_
      refine lv_aload_n hC.1 hC.2.1 dX12_octet_12 rfl (lv_at hl 0 rfl) ?_
      refine gf_RX12_316 hC hH rfl dX12_octet_13 ?_
      refine lv_icmp_lt (tgt := 23) hC.1 hC.2.1 dX12_octet_16 (by decide) (fun hc3 => ?_) (fun hc3 => ?_)
      · rw [if_pos hc3] at h
        refine lv_aload_n hC.1 hC.2.1 dX12_octet_23 rfl (lv_at hl 0 rfl) ?_
        refine gf_RX12_140 hC hH rfl dX12_octet_24 ?_
        refine lv_iload_n hC.1 hC.2.1 dX12_octet_27 rfl (lv_at hl 1 rfl) ?_
        obtain ⟨hg4, h⟩ := gd_some h
        refine al_166 hC hH hg4 rfl dX12_octet_28 ?_
        exact B_X12_octet_29 hC hE hml hr hlk h hH hS (lv_sub hl [] rfl)
      · rw [if_neg hc3] at h
        exact B_X12_octet_19 hC hE hml hr hlk h hH hS (lv_sub hl [] rfl)
