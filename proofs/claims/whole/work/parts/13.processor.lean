def F_X7_leave (n : Nat) (x1 : Int32) (C : St) : Option (Int32 × St) := bd2 (F_X8_placeOf n 0 x1 C) (fun r1 D2 => bd2 (F_X8_removeAt n 0 r1 D2) (fun r4 D5 => st (up D5 1 0 4 0 (0 : Int32)) (fun D7 => some (0, D7))))
set_option maxHeartbeats 4000000 in
set_option maxRecDepth 100000 in
theorem c_X7_leave {l : Launch} {g : GP} {ed : Nat → Nat} {Z : St} {x1 : Int32} {C : St} {r : Int32} {C2 : St} (h : F_X7_leave (gn g) x1 C = some (r, C2)) : Met l yX7_leave (Cond.code yX7_leave cX7_leave 2 none :: lwG) ({ frames := 1, cells := 0, slots := 0, locals := 22 } : Room) (va_Pc [.ref (gA g 1 0), .int x1] (PW g C Z ed)) (QG none g C2 Z) 0 0 (gP g) := by
  refine Met.ofW (cc := cX7_leave) (maxL := 2) (ret := none) (by decide +kernel) rfl ?_
  intro p e s m args below meth c s₁ B hml hv
  obtain ⟨ha, hC, hE, hr, hlk, hH⟩ := g_start B hv
  subst ha
  have hC : CX p s m ([.ref (gA g 1 0), .int x1] : List Value).toArray c cX7_leave RX7 g := hC
  have hS : va_S (gP g) s.heap s.heap [] := va_S.rf
  obtain ⟨ls, he, hl⟩ := g_entry m (vs := [.ref (gA g 1 0), .int x1]) (n := 2) (List.forall_mem_cons.mpr ⟨rfl, (List.forall_mem_cons.mpr ⟨rfl, (fun _ h => absurd h List.not_mem_nil)⟩)⟩) (Nat.le_of_ble_eq_true rfl)
  rw [he]
  have hl : lv_has ls 2 [(0, .ref (gA g 1 0)), (1, .int x1)] := hl
  unfold F_X7_leave at h
  refine lv_aload_n hC.1 hC.2.1 dX7_leave_0 rfl (lv_at hl 0 rfl) ?_
  refine gf_RX7_14 hC hH rfl dX7_leave_1 ?_
  refine lv_aload_n hC.1 hC.2.1 dX7_leave_4 rfl (lv_at hl 0 rfl) ?_
  refine gf_RX7_14 hC hH rfl dX7_leave_5 ?_
  refine lv_iload_n hC.1 hC.2.1 dX7_leave_8 rfl (lv_at hl 1 rfl) ?_
  obtain ⟨r1, D2, hF3, h⟩ := bd2_some h
  refine gcallV (As := [.int x1]) (rest := [.ref (gA g 2 0)]) (Cn := RX8) hC hE hml hH hS (c_X8_placeOf (Nat.le_of_ble_eq_true rfl) hF3) ⟨wd_310, wd_311, wd_312, wd_4, wd_313⟩ hd_X8_placeOf rfl rfl ⟨Nat.le_of_ble_eq_true rfl, Nat.le_of_ble_eq_true rfl⟩ rfl (hw_recv (q := 2) (i := 0) hC hH ⟨(Nat.le_of_ble_eq_true rfl), fun h => absurd h (by decide)⟩ rfl rfl) rfl hl.1 rfl (Nat.le_of_ble_eq_true rfl) dX7_leave_9 ⟨Nat.le_of_ble_eq_true rfl, Nat.le_of_ble_eq_true rfl⟩ (fun ed H locs hH hS => ?_)
  refine W.eq (g2 := F0 m 12 ls [.int r1, .ref (gA g 2 0)]) rfl ?_
  obtain ⟨r4, D5, hF6, h⟩ := bd2_some h
  refine gcallV (As := [.int r1]) (rest := []) (Cn := RX8) hC hE hml hH hS (c_X8_removeAt (Nat.le_of_ble_eq_true rfl) hF6) ⟨wd_314, wd_315, wd_316, wd_4, wd_317⟩ hd_X8_removeAt rfl rfl ⟨Nat.le_of_ble_eq_true rfl, Nat.le_of_ble_eq_true rfl⟩ rfl (hw_recv (q := 2) (i := 0) hC hH ⟨(Nat.le_of_ble_eq_true rfl), fun h => absurd h (by decide)⟩ rfl rfl) rfl hl.1 rfl (Nat.le_of_ble_eq_true rfl) dX7_leave_12 ⟨Nat.le_of_ble_eq_true rfl, Nat.le_of_ble_eq_true rfl⟩ (fun ed H locs hH hS => ?_)
  refine W.eq (g2 := F0 m 15 ls []) rfl ?_
  refine lv_aload_n hC.1 hC.2.1 dX7_leave_15 rfl (lv_at hl 0 rfl) ?_
  refine lv_iconst (v := (0 : Int32)) hC.1 hC.2.1 dX7_leave_16 (by decide) ?_
  obtain ⟨D7, e8, h⟩ := st_some h
  refine pf_RX7_35 hC hH hS  rfl dX7_leave_17 (fun H locs hH hS => ?_)
  rw [← e8] at hH
  cases h
  exact gret_v hC hr hlk hH hS (Nat.le_of_ble_eq_true rfl) (Nat.le_of_ble_eq_true rfl) dX7_leave_20
def F_X7_suspend_25 (n : Nat)   (C : St) : Option (Int32 × St) := some (0, C)
set_option maxHeartbeats 4000000 in
set_option maxRecDepth 100000 in
theorem B_X7_suspend_25 {p : Program} {l : Launch} {e : Env} {s : State} {m : MethodId} {args : Array Value} {below : List Frame} {meth : Method} {c : Code} {g : GP} {Z : St} (hC : CX p s m args c cX7_suspend RX7 g) (hE : EZ g s s.heap) (hml : c.maxLocals = 3) (hr : meth.sig.returnType = none) (hlk : meth.locks = false) {r : Int32} {C2 : St}  {C : St} (h : F_X7_suspend_25 (gn g)   C = some (r, C2)) {ed : Nat → Nat} {H : Heap} {locs : List Loc} {ls : Array Slot} (hH : HW g ed C Z H) (hS : va_S (gP g) s.heap H locs) (hl : lv_has ls 3 []) : W p l e ({ frames := 2, cells := 0, slots := 0, locals := 43 } : Room) s m args below meth c H locs 0 0 (MQ below (QG none g C2 Z) args s 0 0 (gP g)) (F0 m 25 ls []) := by
  unfold F_X7_suspend_25 at h
  cases h
  exact gret_v hC hr hlk hH hS (Nat.le_of_ble_eq_true rfl) (Nat.le_of_ble_eq_true rfl) dX7_suspend_25
def F_X7_suspend (n : Nat) (x1 : Int32) (x2 : Int32) (C : St) : Option (Int32 × St) := if x1 < 0 then (F_X7_suspend_25 n  C) else (if (10 : Int32) ≤ x1 then (F_X7_suspend_25 n  C) else (gd (inb x1 10) (st (up C 4 0 0 x1.toNatClampNeg x2) (fun D4 => bd2 (F_X7_leave n x1 D4) (fun r6 D7 => F_X7_suspend_25 n  D7)))))
set_option maxHeartbeats 4000000 in
set_option maxRecDepth 100000 in
theorem c_X7_suspend {l : Launch} {g : GP} {ed : Nat → Nat} {Z : St} {x1 : Int32} {x2 : Int32} {C : St} {r : Int32} {C2 : St} (h : F_X7_suspend (gn g) x1 x2 C = some (r, C2)) : Met l yX7_suspend (Cond.code yX7_suspend cX7_suspend 3 none :: lwG) ({ frames := 2, cells := 0, slots := 0, locals := 43 } : Room) (va_Pc [.ref (gA g 1 0), .int x1, .int x2] (PW g C Z ed)) (QG none g C2 Z) 0 0 (gP g) := by
  refine Met.ofW (cc := cX7_suspend) (maxL := 3) (ret := none) (by decide +kernel) rfl ?_
  intro p e s m args below meth c s₁ B hml hv
  obtain ⟨ha, hC, hE, hr, hlk, hH⟩ := g_start B hv
  subst ha
  have hC : CX p s m ([.ref (gA g 1 0), .int x1, .int x2] : List Value).toArray c cX7_suspend RX7 g := hC
  have hS : va_S (gP g) s.heap s.heap [] := va_S.rf
  obtain ⟨ls, he, hl⟩ := g_entry m (vs := [.ref (gA g 1 0), .int x1, .int x2]) (n := 3) (List.forall_mem_cons.mpr ⟨rfl, (List.forall_mem_cons.mpr ⟨rfl, (List.forall_mem_cons.mpr ⟨rfl, (fun _ h => absurd h List.not_mem_nil)⟩)⟩)⟩) (Nat.le_of_ble_eq_true rfl)
  rw [he]
  have hl : lv_has ls 3 [(0, .ref (gA g 1 0)), (1, .int x1), (2, .int x2)] := hl
  unfold F_X7_suspend at h
  refine lv_iload_n hC.1 hC.2.1 dX7_suspend_0 rfl (lv_at hl 1 rfl) ?_
  refine lv_if_lt (tgt := 25) hC.1 hC.2.1 dX7_suspend_1 (by decide) (fun hc1 => ?_) (fun hc1 => ?_)
  · rw [if_pos hc1] at h
    exact B_X7_suspend_25 hC hE hml hr hlk h hH hS (lv_sub hl [] rfl)
  · rw [if_neg hc1] at h
    refine lv_iload_n hC.1 hC.2.1 dX7_suspend_4 rfl (lv_at hl 1 rfl) ?_
    refine lv_aload_n hC.1 hC.2.1 dX7_suspend_5 rfl (lv_at hl 0 rfl) ?_
    refine gf_RX7_20 hC hH rfl dX7_suspend_6 ?_
    refine ln_4 hC hH rfl dX7_suspend_9 ?_
    refine lv_icmp_ge (tgt := 25) hC.1 hC.2.1 dX7_suspend_10 (by decide) (fun hc2 => ?_) (fun hc2 => ?_)
    · rw [if_pos hc2] at h
      exact B_X7_suspend_25 hC hE hml hr hlk h hH hS (lv_sub hl [] rfl)
    · rw [if_neg hc2] at h
      refine lv_aload_n hC.1 hC.2.1 dX7_suspend_13 rfl (lv_at hl 0 rfl) ?_
      refine gf_RX7_20 hC hH rfl dX7_suspend_14 ?_
      refine lv_iload_n hC.1 hC.2.1 dX7_suspend_17 rfl (lv_at hl 1 rfl) ?_
      refine lv_iload_n hC.1 hC.2.1 dX7_suspend_18 rfl (lv_at hl 2 rfl) ?_
      obtain ⟨hg3, h⟩ := gd_some h
      obtain ⟨D4, e5, h⟩ := st_some h
      refine as_4 hC hH hS hg3 rfl dX7_suspend_19 (fun H locs hH hS => ?_)
      rw [← e5] at hH
      refine lv_aload_n hC.1 hC.2.1 dX7_suspend_20 rfl (lv_at hl 0 rfl) ?_
      refine lv_iload_n hC.1 hC.2.1 dX7_suspend_21 rfl (lv_at hl 1 rfl) ?_
      obtain ⟨r6, D7, hF8, h⟩ := bd2_some h
      refine gcallV (As := [.int x1]) (rest := []) (Cn := RX7) hC hE hml hH hS (c_X7_leave hF8) ⟨wd_306, wd_307, wd_308, wd_2, wd_309⟩ hd_X7_leave rfl rfl ⟨Nat.le_of_ble_eq_true rfl, Nat.le_of_ble_eq_true rfl⟩ rfl (hw_recv (q := 1) (i := 0) hC hH ⟨Nat.zero_lt_one, fun h => absurd h (by decide)⟩ rfl rfl) rfl hl.1 rfl (Nat.le_of_ble_eq_true rfl) dX7_suspend_22 ⟨Nat.le_of_ble_eq_true rfl, Nat.le_of_ble_eq_true rfl⟩ (fun ed H locs hH hS => ?_)
      refine W.eq (g2 := F0 m 25 ls []) rfl ?_
      exact B_X7_suspend_25 hC hE hml hr hlk h hH hS (lv_sub hl [] rfl)
def F_X7_wake_40 (n : Nat)   (C : St) : Option (Int32 × St) := some (0, C)
set_option maxHeartbeats 4000000 in
set_option maxRecDepth 100000 in
theorem B_X7_wake_40 {p : Program} {l : Launch} {e : Env} {s : State} {m : MethodId} {args : Array Value} {below : List Frame} {meth : Method} {c : Code} {g : GP} {Z : St} (hC : CX p s m args c cX7_wake RX7 g) (hE : EZ g s s.heap) (hml : c.maxLocals = 2) (hr : meth.sig.returnType = none) (hlk : meth.locks = false) {r : Int32} {C2 : St}  {C : St} (h : F_X7_wake_40 (gn g)   C = some (r, C2)) {ed : Nat → Nat} {H : Heap} {locs : List Loc} {ls : Array Slot} (hH : HW g ed C Z H) (hS : va_S (gP g) s.heap H locs) (hl : lv_has ls 2 []) : W p l e ({ frames := 1, cells := 0, slots := 0, locals := 22 } : Room) s m args below meth c H locs 0 0 (MQ below (QG none g C2 Z) args s 0 0 (gP g)) (F0 m 40 ls []) := by
  unfold F_X7_wake_40 at h
  cases h
  exact gret_v hC hr hlk hH hS (Nat.le_of_ble_eq_true rfl) (Nat.le_of_ble_eq_true rfl) dX7_wake_40
def F_X7_wake (n : Nat) (x1 : Int32) (C : St) : Option (Int32 × St) := if x1 < 0 then (F_X7_wake_40 n  C) else (if (10 : Int32) ≤ x1 then (F_X7_wake_40 n  C) else (gd (inb x1 10) (st (up C 4 0 0 x1.toNatClampNeg (0 : Int32)) (fun D4 => bd2 (F_X8_placeOf n 0 x1 D4) (fun r6 D7 => if r6 = (-1 : Int32) then (bd2 (F_X8_append n 0 x1 D7) (fun r10 D11 => F_X7_wake_40 n  D11)) else (F_X7_wake_40 n  D7))))))
set_option maxHeartbeats 4000000 in
set_option maxRecDepth 100000 in
theorem c_X7_wake {l : Launch} {g : GP} {ed : Nat → Nat} {Z : St} {x1 : Int32} {C : St} {r : Int32} {C2 : St} (h : F_X7_wake (gn g) x1 C = some (r, C2)) : Met l yX7_wake (Cond.code yX7_wake cX7_wake 2 none :: lwG) ({ frames := 1, cells := 0, slots := 0, locals := 22 } : Room) (va_Pc [.ref (gA g 1 0), .int x1] (PW g C Z ed)) (QG none g C2 Z) 0 0 (gP g) := by
  refine Met.ofW (cc := cX7_wake) (maxL := 2) (ret := none) (by decide +kernel) rfl ?_
  intro p e s m args below meth c s₁ B hml hv
  obtain ⟨ha, hC, hE, hr, hlk, hH⟩ := g_start B hv
  subst ha
  have hC : CX p s m ([.ref (gA g 1 0), .int x1] : List Value).toArray c cX7_wake RX7 g := hC
  have hS : va_S (gP g) s.heap s.heap [] := va_S.rf
  obtain ⟨ls, he, hl⟩ := g_entry m (vs := [.ref (gA g 1 0), .int x1]) (n := 2) (List.forall_mem_cons.mpr ⟨rfl, (List.forall_mem_cons.mpr ⟨rfl, (fun _ h => absurd h List.not_mem_nil)⟩)⟩) (Nat.le_of_ble_eq_true rfl)
  rw [he]
  have hl : lv_has ls 2 [(0, .ref (gA g 1 0)), (1, .int x1)] := hl
  unfold F_X7_wake at h
  refine lv_iload_n hC.1 hC.2.1 dX7_wake_0 rfl (lv_at hl 1 rfl) ?_
  refine lv_if_lt (tgt := 40) hC.1 hC.2.1 dX7_wake_1 (by decide) (fun hc1 => ?_) (fun hc1 => ?_)
  · rw [if_pos hc1] at h
    exact B_X7_wake_40 hC hE hml hr hlk h hH hS (lv_sub hl [] rfl)
  · rw [if_neg hc1] at h
    refine lv_iload_n hC.1 hC.2.1 dX7_wake_4 rfl (lv_at hl 1 rfl) ?_
    refine lv_aload_n hC.1 hC.2.1 dX7_wake_5 rfl (lv_at hl 0 rfl) ?_
    refine gf_RX7_20 hC hH rfl dX7_wake_6 ?_
    refine ln_4 hC hH rfl dX7_wake_9 ?_
    refine lv_icmp_ge (tgt := 40) hC.1 hC.2.1 dX7_wake_10 (by decide) (fun hc2 => ?_) (fun hc2 => ?_)
    · rw [if_pos hc2] at h
      exact B_X7_wake_40 hC hE hml hr hlk h hH hS (lv_sub hl [] rfl)
    · rw [if_neg hc2] at h
      refine lv_aload_n hC.1 hC.2.1 dX7_wake_13 rfl (lv_at hl 0 rfl) ?_
      refine gf_RX7_20 hC hH rfl dX7_wake_14 ?_
      refine lv_iload_n hC.1 hC.2.1 dX7_wake_17 rfl (lv_at hl 1 rfl) ?_
      refine lv_iconst (v := (0 : Int32)) hC.1 hC.2.1 dX7_wake_18 (by decide) ?_
      obtain ⟨hg3, h⟩ := gd_some h
      obtain ⟨D4, e5, h⟩ := st_some h
      refine as_4 hC hH hS hg3 rfl dX7_wake_19 (fun H locs hH hS => ?_)
      rw [← e5] at hH
      refine lv_aload_n hC.1 hC.2.1 dX7_wake_20 rfl (lv_at hl 0 rfl) ?_
      refine gf_RX7_14 hC hH rfl dX7_wake_21 ?_
      refine lv_iload_n hC.1 hC.2.1 dX7_wake_24 rfl (lv_at hl 1 rfl) ?_
      obtain ⟨r6, D7, hF8, h⟩ := bd2_some h
      refine gcallV (As := [.int x1]) (rest := []) (Cn := RX8) hC hE hml hH hS (c_X8_placeOf (Nat.le_of_ble_eq_true rfl) hF8) ⟨wd_310, wd_311, wd_312, wd_4, wd_313⟩ hd_X8_placeOf rfl rfl ⟨Nat.le_of_ble_eq_true rfl, Nat.le_of_ble_eq_true rfl⟩ rfl (hw_recv (q := 2) (i := 0) hC hH ⟨(Nat.le_of_ble_eq_true rfl), fun h => absurd h (by decide)⟩ rfl rfl) rfl hl.1 rfl (Nat.le_of_ble_eq_true rfl) dX7_wake_25 ⟨Nat.le_of_ble_eq_true rfl, Nat.le_of_ble_eq_true rfl⟩ (fun ed H locs hH hS => ?_)
      refine W.eq (g2 := F0 m 28 ls [.int r6]) rfl ?_
      refine lv_iconst (v := (-1 : Int32)) hC.1 hC.2.1 dX7_wake_28 (by decide) ?_
      refine lv_icmp_ne (tgt := 40) hC.1 hC.2.1 dX7_wake_29 (by decide) (fun hc9 => ?_) (fun hc9 => ?_)
      · rw [if_neg hc9] at h
        exact B_X7_wake_40 hC hE hml hr hlk h hH hS (lv_sub hl [] rfl)
      · rw [if_pos hc9] at h
        refine lv_aload_n hC.1 hC.2.1 dX7_wake_32 rfl (lv_at hl 0 rfl) ?_
        refine gf_RX7_14 hC hH rfl dX7_wake_33 ?_
        refine lv_iload_n hC.1 hC.2.1 dX7_wake_36 rfl (lv_at hl 1 rfl) ?_
        obtain ⟨r10, D11, hF12, h⟩ := bd2_some h
        refine gcallV (As := [.int x1]) (rest := []) (Cn := RX8) hC hE hml hH hS (c_X8_append (Nat.le_of_ble_eq_true rfl) hF12) ⟨wd_726, wd_572, wd_573, wd_4, wd_574⟩ hd_X8_append rfl rfl ⟨Nat.le_of_ble_eq_true rfl, Nat.le_of_ble_eq_true rfl⟩ rfl (hw_recv (q := 2) (i := 0) hC hH ⟨(Nat.le_of_ble_eq_true rfl), fun h => absurd h (by decide)⟩ rfl rfl) rfl hl.1 rfl (Nat.le_of_ble_eq_true rfl) dX7_wake_37 ⟨Nat.le_of_ble_eq_true rfl, Nat.le_of_ble_eq_true rfl⟩ (fun ed H locs hH hS => ?_)
        refine W.eq (g2 := F0 m 40 ls []) rfl ?_
        exact B_X7_wake_40 hC hE hml hr hlk h hH hS (lv_sub hl [] rfl)
def F_X7_causeOf_23 (n : Nat)  (t0 : Int32) (C : St) : Option (Int32 × St) := some (t0, C)
set_option maxHeartbeats 4000000 in
set_option maxRecDepth 100000 in
theorem B_X7_causeOf_23 {p : Program} {l : Launch} {e : Env} {s : State} {m : MethodId} {args : Array Value} {below : List Frame} {meth : Method} {c : Code} {g : GP} {Z : St} (hC : CX p s m args c cX7_causeOf RX7 g) (hE : EZ g s s.heap) (hml : c.maxLocals = 2) (hr : meth.sig.returnType = (some .int)) (hlk : meth.locks = false) {r : Int32} {C2 : St} {t0 : Int32} {C : St} (h : F_X7_causeOf_23 (gn g)  t0 C = some (r, C2)) {ed : Nat → Nat} {H : Heap} {locs : List Loc} {ls : Array Slot} (hH : HW g ed C Z H) (hS : va_S (gP g) s.heap H locs) (hl : lv_has ls 2 []) : W p l e ({ frames := 0, cells := 0, slots := 0, locals := 0 } : Room) s m args below meth c H locs 0 0 (MQ below (QG (some (.int r)) g C2 Z) args s 0 0 (gP g)) (F0 m 23 ls [.int t0]) := by
  unfold F_X7_causeOf_23 at h
  cases h
  exact gret_i hC hr hlk hH hS (Nat.le_of_ble_eq_true rfl) (Nat.le_of_ble_eq_true rfl) dX7_causeOf_23
def F_X7_causeOf_22 (n : Nat)   (C : St) : Option (Int32 × St) := F_X7_causeOf_23 n (-1 : Int32) C
set_option maxHeartbeats 4000000 in
set_option maxRecDepth 100000 in
theorem B_X7_causeOf_22 {p : Program} {l : Launch} {e : Env} {s : State} {m : MethodId} {args : Array Value} {below : List Frame} {meth : Method} {c : Code} {g : GP} {Z : St} (hC : CX p s m args c cX7_causeOf RX7 g) (hE : EZ g s s.heap) (hml : c.maxLocals = 2) (hr : meth.sig.returnType = (some .int)) (hlk : meth.locks = false) {r : Int32} {C2 : St}  {C : St} (h : F_X7_causeOf_22 (gn g)   C = some (r, C2)) {ed : Nat → Nat} {H : Heap} {locs : List Loc} {ls : Array Slot} (hH : HW g ed C Z H) (hS : va_S (gP g) s.heap H locs) (hl : lv_has ls 2 []) : W p l e ({ frames := 0, cells := 0, slots := 0, locals := 0 } : Room) s m args below meth c H locs 0 0 (MQ below (QG (some (.int r)) g C2 Z) args s 0 0 (gP g)) (F0 m 22 ls []) := by
  unfold F_X7_causeOf_22 at h
  refine lv_iconst (v := (-1 : Int32)) hC.1 hC.2.1 dX7_causeOf_22 (by decide) ?_
  exact B_X7_causeOf_23 hC hE hml hr hlk h hH hS (lv_sub hl [] rfl)
def F_X7_causeOf (n : Nat) (x1 : Int32) (C : St) : Option (Int32 × St) := if x1 < 0 then (F_X7_causeOf_22 n  C) else (if (10 : Int32) ≤ x1 then (F_X7_causeOf_22 n  C) else (gd (inb x1 10) (F_X7_causeOf_23 n (C 4 0 0 x1.toNatClampNeg) C)))
set_option maxHeartbeats 4000000 in
set_option maxRecDepth 100000 in
theorem c_X7_causeOf {l : Launch} {g : GP} {ed : Nat → Nat} {Z : St} {x1 : Int32} {C : St} {r : Int32} {C2 : St} (h : F_X7_causeOf (gn g) x1 C = some (r, C2)) : Met l yX7_causeOf (Cond.code yX7_causeOf cX7_causeOf 2 (some .int) :: lwG) ({ frames := 0, cells := 0, slots := 0, locals := 0 } : Room) (va_Pc [.ref (gA g 1 0), .int x1] (PW g C Z ed)) (QG (some (.int r)) g C2 Z) 0 0 (gP g) := by
  refine Met.ofW (cc := cX7_causeOf) (maxL := 2) (ret := (some .int)) (by decide +kernel) rfl ?_
  intro p e s m args below meth c s₁ B hml hv
  obtain ⟨ha, hC, hE, hr, hlk, hH⟩ := g_start B hv
  subst ha
  have hC : CX p s m ([.ref (gA g 1 0), .int x1] : List Value).toArray c cX7_causeOf RX7 g := hC
  have hS : va_S (gP g) s.heap s.heap [] := va_S.rf
  obtain ⟨ls, he, hl⟩ := g_entry m (vs := [.ref (gA g 1 0), .int x1]) (n := 2) (List.forall_mem_cons.mpr ⟨rfl, (List.forall_mem_cons.mpr ⟨rfl, (fun _ h => absurd h List.not_mem_nil)⟩)⟩) (Nat.le_of_ble_eq_true rfl)
  rw [he]
  have hl : lv_has ls 2 [(0, .ref (gA g 1 0)), (1, .int x1)] := hl
  unfold F_X7_causeOf at h
  refine lv_iload_n hC.1 hC.2.1 dX7_causeOf_0 rfl (lv_at hl 1 rfl) ?_
  refine lv_if_lt (tgt := 22) hC.1 hC.2.1 dX7_causeOf_1 (by decide) (fun hc1 => ?_) (fun hc1 => ?_)
  · rw [if_pos hc1] at h
    exact B_X7_causeOf_22 hC hE hml hr hlk h hH hS (lv_sub hl [] rfl)
  · rw [if_neg hc1] at h
    refine lv_iload_n hC.1 hC.2.1 dX7_causeOf_4 rfl (lv_at hl 1 rfl) ?_
    refine lv_aload_n hC.1 hC.2.1 dX7_causeOf_5 rfl (lv_at hl 0 rfl) ?_
    refine gf_RX7_20 hC hH rfl dX7_causeOf_6 ?_
    refine ln_4 hC hH rfl dX7_causeOf_9 ?_
    refine lv_icmp_ge (tgt := 22) hC.1 hC.2.1 dX7_causeOf_10 (by decide) (fun hc2 => ?_) (fun hc2 => ?_)
    · rw [if_pos hc2] at h
      exact B_X7_causeOf_22 hC hE hml hr hlk h hH hS (lv_sub hl [] rfl)
    · rw [if_neg hc2] at h
      refine lv_aload_n hC.1 hC.2.1 dX7_causeOf_13 rfl (lv_at hl 0 rfl) ?_
      refine gf_RX7_20 hC hH rfl dX7_causeOf_14 ?_
      refine lv_iload_n hC.1 hC.2.1 dX7_causeOf_17 rfl (lv_at hl 1 rfl) ?_
      obtain ⟨hg3, h⟩ := gd_some h
      refine al_4 hC hH hg3 rfl dX7_causeOf_18 ?_
      refine lv_goto (tgt := 23) hC.1 hC.2.1 dX7_causeOf_19 (by decide) ?_
      exact B_X7_causeOf_23 hC hE hml hr hlk h hH hS (lv_sub hl [] rfl)
def F_X7_begin (n : Nat)  (C : St) : Option (Int32 × St) := st (up C 1 0 3 0 ((C 1 0 3 0) + (1 : Int32))) (fun D1 => bd2 (F_X8_at n 0 (0 : Int32) D1) (fun r3 D4 => some (r3, D4)))
set_option maxHeartbeats 4000000 in
set_option maxRecDepth 100000 in
theorem c_X7_begin {l : Launch} {g : GP} {ed : Nat → Nat} {Z : St}  {C : St} {r : Int32} {C2 : St} (h : F_X7_begin (gn g)  C = some (r, C2)) : Met l yX7_begin (Cond.code yX7_begin cX7_begin 1 (some .int) :: lwG) ({ frames := 1, cells := 0, slots := 0, locals := 21 } : Room) (va_Pc [.ref (gA g 1 0)] (PW g C Z ed)) (QG (some (.int r)) g C2 Z) 0 0 (gP g) := by
  refine Met.ofW (cc := cX7_begin) (maxL := 1) (ret := (some .int)) (by decide +kernel) rfl ?_
  intro p e s m args below meth c s₁ B hml hv
  obtain ⟨ha, hC, hE, hr, hlk, hH⟩ := g_start B hv
  subst ha
  have hC : CX p s m ([.ref (gA g 1 0)] : List Value).toArray c cX7_begin RX7 g := hC
  have hS : va_S (gP g) s.heap s.heap [] := va_S.rf
  obtain ⟨ls, he, hl⟩ := g_entry m (vs := [.ref (gA g 1 0)]) (n := 1) (List.forall_mem_cons.mpr ⟨rfl, (fun _ h => absurd h List.not_mem_nil)⟩) (Nat.le_of_ble_eq_true rfl)
  rw [he]
  have hl : lv_has ls 1 [(0, .ref (gA g 1 0))] := hl
  unfold F_X7_begin at h
  refine lv_aload_n hC.1 hC.2.1 dX7_begin_0 rfl (lv_at hl 0 rfl) ?_
  refine lv_dup hC.1 hC.2.1 dX7_begin_1 rfl ?_
  refine gf_RX7_28 hC hH rfl dX7_begin_2 ?_
  refine lv_iconst (v := (1 : Int32)) hC.1 hC.2.1 dX7_begin_5 (by decide) ?_
  refine lv_iadd hC.1 hC.2.1 dX7_begin_6 ?_
  obtain ⟨D1, e2, h⟩ := st_some h
  refine pf_RX7_28 hC hH hS  rfl dX7_begin_7 (fun H locs hH hS => ?_)
  rw [← e2] at hH
  refine lv_aload_n hC.1 hC.2.1 dX7_begin_10 rfl (lv_at hl 0 rfl) ?_
  refine gf_RX7_14 hC hH rfl dX7_begin_11 ?_
  refine lv_iconst (v := (0 : Int32)) hC.1 hC.2.1 dX7_begin_14 (by decide) ?_
  obtain ⟨r3, D4, hF5, h⟩ := bd2_some h
  refine gcallV (As := [.int (0 : Int32)]) (rest := []) (Cn := RX8) hC hE hml hH hS (c_X8_at (Nat.le_of_ble_eq_true rfl) hF5) ⟨wd_617, wd_604, wd_605, wd_4, wd_606⟩ hd_X8_at rfl rfl ⟨Nat.le_of_ble_eq_true rfl, Nat.le_of_ble_eq_true rfl⟩ rfl (hw_recv (q := 2) (i := 0) hC hH ⟨(Nat.le_of_ble_eq_true rfl), fun h => absurd h (by decide)⟩ rfl rfl) rfl hl.1 rfl (Nat.le_of_ble_eq_true rfl) dX7_begin_15 ⟨Nat.le_of_ble_eq_true rfl, Nat.le_of_ble_eq_true rfl⟩ (fun ed H locs hH hS => ?_)
  refine W.eq (g2 := F0 m 18 ls [.int r3]) rfl ?_
  cases h
  exact gret_i hC hr hlk hH hS (Nat.le_of_ble_eq_true rfl) (Nat.le_of_ble_eq_true rfl) dX7_begin_18
def F_X7_end_17 (n : Nat)   (C : St) : Option (Int32 × St) := some (0, C)
set_option maxHeartbeats 4000000 in
set_option maxRecDepth 100000 in
theorem B_X7_end_17 {p : Program} {l : Launch} {e : Env} {s : State} {m : MethodId} {args : Array Value} {below : List Frame} {meth : Method} {c : Code} {g : GP} {Z : St} (hC : CX p s m args c cX7_end RX7 g) (hE : EZ g s s.heap) (hml : c.maxLocals = 2) (hr : meth.sig.returnType = none) (hlk : meth.locks = false) {r : Int32} {C2 : St}  {C : St} (h : F_X7_end_17 (gn g)   C = some (r, C2)) {ed : Nat → Nat} {H : Heap} {locs : List Loc} {ls : Array Slot} (hH : HW g ed C Z H) (hS : va_S (gP g) s.heap H locs) (hl : lv_has ls 2 []) : W p l e ({ frames := 2, cells := 0, slots := 0, locals := 43 } : Room) s m args below meth c H locs 0 0 (MQ below (QG none g C2 Z) args s 0 0 (gP g)) (F0 m 17 ls []) := by
  unfold F_X7_end_17 at h
  cases h
  exact gret_v hC hr hlk hH hS (Nat.le_of_ble_eq_true rfl) (Nat.le_of_ble_eq_true rfl) dX7_end_17
def F_X7_end_52 (n : Nat)   (C : St) : Option (Int32 × St) := some (0, C)
set_option maxHeartbeats 4000000 in
set_option maxRecDepth 100000 in
theorem B_X7_end_52 {p : Program} {l : Launch} {e : Env} {s : State} {m : MethodId} {args : Array Value} {below : List Frame} {meth : Method} {c : Code} {g : GP} {Z : St} (hC : CX p s m args c cX7_end RX7 g) (hE : EZ g s s.heap) (hml : c.maxLocals = 2) (hr : meth.sig.returnType = none) (hlk : meth.locks = false) {r : Int32} {C2 : St}  {C : St} (h : F_X7_end_52 (gn g)   C = some (r, C2)) {ed : Nat → Nat} {H : Heap} {locs : List Loc} {ls : Array Slot} (hH : HW g ed C Z H) (hS : va_S (gP g) s.heap H locs) (hl : lv_has ls 2 []) : W p l e ({ frames := 2, cells := 0, slots := 0, locals := 43 } : Room) s m args below meth c H locs 0 0 (MQ below (QG none g C2 Z) args s 0 0 (gP g)) (F0 m 52 ls []) := by
  unfold F_X7_end_52 at h
  cases h
  exact gret_v hC hr hlk hH hS (Nat.le_of_ble_eq_true rfl) (Nat.le_of_ble_eq_true rfl) dX7_end_52
def F_X7_end (n : Nat) (x1 : Int32) (C : St) : Option (Int32 × St) := if x1 = (-1 : Int32) then (F_X7_end_17 n  C) else (bd2 (F_X8_at n 0 (0 : Int32) C) (fun r2 D3 => if r2 = x1 then (st (up D3 1 0 4 0 ((D3 1 0 4 0) + (1 : Int32))) (fun D6 => if (D6 1 0 4 0) < (D6 1 0 2 0) then (F_X7_end_52 n  D6) else (bd2 (F_X7_leave n x1 D6) (fun r9 D10 => bd2 (F_X8_append n 0 x1 D10) (fun r12 D13 => F_X7_end_52 n  D13))))) else (F_X7_end_17 n  D3)))
set_option maxHeartbeats 4000000 in
set_option maxRecDepth 100000 in
theorem c_X7_end {l : Launch} {g : GP} {ed : Nat → Nat} {Z : St} {x1 : Int32} {C : St} {r : Int32} {C2 : St} (h : F_X7_end (gn g) x1 C = some (r, C2)) : Met l yX7_end (Cond.code yX7_end cX7_end 2 none :: lwG) ({ frames := 2, cells := 0, slots := 0, locals := 43 } : Room) (va_Pc [.ref (gA g 1 0), .int x1] (PW g C Z ed)) (QG none g C2 Z) 0 0 (gP g) := by
  refine Met.ofW (cc := cX7_end) (maxL := 2) (ret := none) (by decide +kernel) rfl ?_
  intro p e s m args below meth c s₁ B hml hv
  obtain ⟨ha, hC, hE, hr, hlk, hH⟩ := g_start B hv
  subst ha
  have hC : CX p s m ([.ref (gA g 1 0), .int x1] : List Value).toArray c cX7_end RX7 g := hC
  have hS : va_S (gP g) s.heap s.heap [] := va_S.rf
  obtain ⟨ls, he, hl⟩ := g_entry m (vs := [.ref (gA g 1 0), .int x1]) (n := 2) (List.forall_mem_cons.mpr ⟨rfl, (List.forall_mem_cons.mpr ⟨rfl, (fun _ h => absurd h List.not_mem_nil)⟩)⟩) (Nat.le_of_ble_eq_true rfl)
  rw [he]
  have hl : lv_has ls 2 [(0, .ref (gA g 1 0)), (1, .int x1)] := hl
  unfold F_X7_end at h
  refine lv_iload_n hC.1 hC.2.1 dX7_end_0 rfl (lv_at hl 1 rfl) ?_
  refine lv_iconst (v := (-1 : Int32)) hC.1 hC.2.1 dX7_end_1 (by decide) ?_
  refine lv_icmp_eq (tgt := 17) hC.1 hC.2.1 dX7_end_2 (by decide) (fun hc1 => ?_) (fun hc1 => ?_)
  · rw [if_pos hc1] at h
    exact B_X7_end_17 hC hE hml hr hlk h hH hS (lv_sub hl [] rfl)
  · rw [if_neg hc1] at h
    refine lv_aload_n hC.1 hC.2.1 dX7_end_5 rfl (lv_at hl 0 rfl) ?_
    refine gf_RX7_14 hC hH rfl dX7_end_6 ?_
    refine lv_iconst (v := (0 : Int32)) hC.1 hC.2.1 dX7_end_9 (by decide) ?_
    obtain ⟨r2, D3, hF4, h⟩ := bd2_some h
    refine gcallV (As := [.int (0 : Int32)]) (rest := []) (Cn := RX8) hC hE hml hH hS (c_X8_at (Nat.le_of_ble_eq_true rfl) hF4) ⟨wd_617, wd_604, wd_605, wd_4, wd_606⟩ hd_X8_at rfl rfl ⟨Nat.le_of_ble_eq_true rfl, Nat.le_of_ble_eq_true rfl⟩ rfl (hw_recv (q := 2) (i := 0) hC hH ⟨(Nat.le_of_ble_eq_true rfl), fun h => absurd h (by decide)⟩ rfl rfl) rfl hl.1 rfl (Nat.le_of_ble_eq_true rfl) dX7_end_10 ⟨Nat.le_of_ble_eq_true rfl, Nat.le_of_ble_eq_true rfl⟩ (fun ed H locs hH hS => ?_)
    refine W.eq (g2 := F0 m 13 ls [.int r2]) rfl ?_
    refine lv_iload_n hC.1 hC.2.1 dX7_end_13 rfl (lv_at hl 1 rfl) ?_
    refine lv_icmp_eq (tgt := 18) hC.1 hC.2.1 dX7_end_14 (by decide) (fun hc5 => ?_) (fun hc5 => ?_)
    · rw [if_pos hc5] at h
      refine lv_aload_n hC.1 hC.2.1 dX7_end_18 rfl (lv_at hl 0 rfl) ?_
      refine lv_dup hC.1 hC.2.1 dX7_end_19 rfl ?_
      refine gf_RX7_35 hC hH rfl dX7_end_20 ?_
      refine lv_iconst (v := (1 : Int32)) hC.1 hC.2.1 dX7_end_23 (by decide) ?_
      refine lv_iadd hC.1 hC.2.1 dX7_end_24 ?_
      obtain ⟨D6, e7, h⟩ := st_some h
      refine pf_RX7_35 hC hH hS  rfl dX7_end_25 (fun H locs hH hS => ?_)
      rw [← e7] at hH
      refine lv_aload_n hC.1 hC.2.1 dX7_end_28 rfl (lv_at hl 0 rfl) ?_
      refine gf_RX7_35 hC hH rfl dX7_end_29 ?_
      refine lv_aload_n hC.1 hC.2.1 dX7_end_32 rfl (lv_at hl 0 rfl) ?_
      refine gf_RX7_24 hC hH rfl dX7_end_33 ?_
      refine lv_icmp_lt (tgt := 52) hC.1 hC.2.1 dX7_end_36 (by decide) (fun hc8 => ?_) (fun hc8 => ?_)
      · rw [if_pos hc8] at h
        exact B_X7_end_52 hC hE hml hr hlk h hH hS (lv_sub hl [] rfl)
      · rw [if_neg hc8] at h
        refine lv_aload_n hC.1 hC.2.1 dX7_end_39 rfl (lv_at hl 0 rfl) ?_
        refine lv_iload_n hC.1 hC.2.1 dX7_end_40 rfl (lv_at hl 1 rfl) ?_
        obtain ⟨r9, D10, hF11, h⟩ := bd2_some h
        refine gcallV (As := [.int x1]) (rest := []) (Cn := RX7) hC hE hml hH hS (c_X7_leave hF11) ⟨wd_306, wd_307, wd_308, wd_2, wd_309⟩ hd_X7_leave rfl rfl ⟨Nat.le_of_ble_eq_true rfl, Nat.le_of_ble_eq_true rfl⟩ rfl (hw_recv (q := 1) (i := 0) hC hH ⟨Nat.zero_lt_one, fun h => absurd h (by decide)⟩ rfl rfl) rfl hl.1 rfl (Nat.le_of_ble_eq_true rfl) dX7_end_41 ⟨Nat.le_of_ble_eq_true rfl, Nat.le_of_ble_eq_true rfl⟩ (fun ed H locs hH hS => ?_)
        refine W.eq (g2 := F0 m 44 ls []) rfl ?_
        refine lv_aload_n hC.1 hC.2.1 dX7_end_44 rfl (lv_at hl 0 rfl) ?_
        refine gf_RX7_14 hC hH rfl dX7_end_45 ?_
        refine lv_iload_n hC.1 hC.2.1 dX7_end_48 rfl (lv_at hl 1 rfl) ?_
        obtain ⟨r12, D13, hF14, h⟩ := bd2_some h
        refine gcallV (As := [.int x1]) (rest := []) (Cn := RX8) hC hE hml hH hS (c_X8_append (Nat.le_of_ble_eq_true rfl) hF14) ⟨wd_726, wd_572, wd_573, wd_4, wd_574⟩ hd_X8_append rfl rfl ⟨Nat.le_of_ble_eq_true rfl, Nat.le_of_ble_eq_true rfl⟩ rfl (hw_recv (q := 2) (i := 0) hC hH ⟨(Nat.le_of_ble_eq_true rfl), fun h => absurd h (by decide)⟩ rfl rfl) rfl hl.1 rfl (Nat.le_of_ble_eq_true rfl) dX7_end_49 ⟨Nat.le_of_ble_eq_true rfl, Nat.le_of_ble_eq_true rfl⟩ (fun ed H locs hH hS => ?_)
        refine W.eq (g2 := F0 m 52 ls []) rfl ?_
        exact B_X7_end_52 hC hE hml hr hlk h hH hS (lv_sub hl [] rfl)
    · rw [if_neg hc5] at h
      exact B_X7_end_17 hC hE hml hr hlk h hH hS (lv_sub hl [] rfl)
