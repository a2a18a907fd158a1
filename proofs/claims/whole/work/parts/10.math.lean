def F_J9_floorMod_7cf53_18  (x2 : Int32) (C : St) : Option (Int32 × St) := some (x2, C)
set_option maxHeartbeats 4000000 in
set_option maxRecDepth 100000 in
theorem B_J9_floorMod_7cf53_18 {p : Program} {l : Launch} {e : Env} {s : State} {m : MethodId} {args : Array Value} {below : List Frame} {meth : Method} {c : Code} {g : GP} {Z : St} (hC : CX p s m args c cJ9_floorMod_7cf53 RJ9 g) (hE : EZ g s s.heap) (hml : c.maxLocals = 3) (hr : meth.sig.returnType = (some .int)) (hlk : meth.locks = false) {r : Int32} {C2 : St} {x2 : Int32} {C : St} (h : F_J9_floorMod_7cf53_18  x2 C = some (r, C2)) {ed : Nat → Nat} {H : Heap} {locs : List Loc} {ls : Array Slot} (hH : HW g ed C Z H) (hS : va_S (gP g) s.heap H locs) (hl : lv_has ls 3 [(2, .int x2)]) : W p l e ({ frames := 0, cells := 0, slots := 0, locals := 0 } : Room) s m args below meth c H locs 0 0 (MQ below (QG (some (.int r)) g C2 Z) args s 0 0 (gP g)) (F0 m 18 ls []) := by
  unfold F_J9_floorMod_7cf53_18 at h
  refine lv_iload_n hC.1 hC.2.1 dJ9_floorMod_7cf53_18 rfl (lv_at hl 0 rfl) ?_
  cases h
  exact gret_i hC hr hlk hH hS (Nat.le_of_ble_eq_true rfl) (Nat.le_of_ble_eq_true rfl) dJ9_floorMod_7cf53_19
def F_J9_floorMod_7cf53 (x0 : Int32) (x1 : Int32) (C : St) : Option (Int32 × St) := gd (decide (¬ x1 = 0)) (if 0 ≤ (x0 ^^^ x1) then (F_J9_floorMod_7cf53_18 (x0 - x0 / x1 * x1) C) else (if (x0 - x0 / x1 * x1) = 0 then (F_J9_floorMod_7cf53_18 (x0 - x0 / x1 * x1) C) else (some ((x0 - x0 / x1 * x1) + x1, C))))
set_option maxHeartbeats 4000000 in
set_option maxRecDepth 100000 in
theorem c_J9_floorMod_7cf53 {l : Launch} {g : GP} {ed : Nat → Nat} {Z : St} {x0 : Int32} {x1 : Int32} {C : St} {r : Int32} {C2 : St} (h : F_J9_floorMod_7cf53 x0 x1 C = some (r, C2)) : Met l yJ9_floorMod_7cf53 (Cond.code yJ9_floorMod_7cf53 cJ9_floorMod_7cf53 3 (some .int) :: lwG) ({ frames := 0, cells := 0, slots := 0, locals := 0 } : Room) (va_Pc [.int x0, .int x1] (PW g C Z ed)) (QG (some (.int r)) g C2 Z) 0 0 (gP g) := by
  refine g_ofW (cc := cJ9_floorMod_7cf53) (maxL := 3) (ret := (some .int)) (by decide +kernel) rfl ?_
  intro p e s m args below meth c s₁ B hml hv
  obtain ⟨ha, hC, hE, hr, hlk, hH⟩ := g_start B hv
  subst ha
  have hC : CX p s m ([.int x0, .int x1] : List Value).toArray c cJ9_floorMod_7cf53 RJ9 g := hC
  have hS : va_S (gP g) s.heap s.heap [] := va_S.rf
  obtain ⟨ls, he, hl⟩ := g_entry m (vs := [.int x0, .int x1]) (n := 3) (List.forall_mem_cons.mpr ⟨rfl, (List.forall_mem_cons.mpr ⟨rfl, (fun _ h => absurd h List.not_mem_nil)⟩)⟩) (Nat.le_of_ble_eq_true rfl)
  rw [he]
  have hl : lv_has ls 3 [(0, .int x0), (1, .int x1)] := hl
  unfold F_J9_floorMod_7cf53 at h
  refine lv_iload_n hC.1 hC.2.1 dJ9_floorMod_7cf53_0 rfl (lv_at hl 0 rfl) ?_
  refine lv_iload_n hC.1 hC.2.1 dJ9_floorMod_7cf53_1 rfl (lv_at hl 1 rfl) ?_
  obtain ⟨hg1, h⟩ := gd_some h
  refine lv_irem hC.1 hC.2.1 dJ9_floorMod_7cf53_2 (of_decide_eq_true hg1) ?_
  refine lv_istore_n (i := 2) (lv' := [(2, .int (x0 - x0 / x1 * x1)), (0, .int x0), (1, .int x1)]) hC.1 hC.2.1 dJ9_floorMod_7cf53_3 rfl hl (by decide) rfl (fun ls hl => ?_)
  refine lv_iload_n hC.1 hC.2.1 dJ9_floorMod_7cf53_4 rfl (lv_at hl 1 rfl) ?_
  refine lv_iload_n hC.1 hC.2.1 dJ9_floorMod_7cf53_5 rfl (lv_at hl 2 rfl) ?_
  refine lv_ixor hC.1 hC.2.1 dJ9_floorMod_7cf53_6 ?_
  refine lv_if_ge (tgt := 18) hC.1 hC.2.1 dJ9_floorMod_7cf53_7 (by decide) (fun hc2 => ?_) (fun hc2 => ?_)
  · rw [if_pos hc2] at h
    exact B_J9_floorMod_7cf53_18 hC hE hml hr hlk h hH hS (lv_sub hl [0] rfl)
  · rw [if_neg hc2] at h
    refine lv_iload_n hC.1 hC.2.1 dJ9_floorMod_7cf53_10 rfl (lv_at hl 0 rfl) ?_
    refine lv_if_eq (tgt := 18) hC.1 hC.2.1 dJ9_floorMod_7cf53_11 (by decide) (fun hc3 => ?_) (fun hc3 => ?_)
    · rw [if_pos hc3] at h
      exact B_J9_floorMod_7cf53_18 hC hE hml hr hlk h hH hS (lv_sub hl [0] rfl)
    · rw [if_neg hc3] at h
      refine lv_iload_n hC.1 hC.2.1 dJ9_floorMod_7cf53_14 rfl (lv_at hl 0 rfl) ?_
      refine lv_iload_n hC.1 hC.2.1 dJ9_floorMod_7cf53_15 rfl (lv_at hl 2 rfl) ?_
      refine lv_iadd hC.1 hC.2.1 dJ9_floorMod_7cf53_16 ?_
      cases h
      exact gret_i hC hr hlk hH hS (Nat.le_of_ble_eq_true rfl) (Nat.le_of_ble_eq_true rfl) dJ9_floorMod_7cf53_17
def F_J9_min_7cf53_10  (t0 : Int32) (C : St) : Option (Int32 × St) := some (t0, C)
set_option maxHeartbeats 4000000 in
set_option maxRecDepth 100000 in
theorem B_J9_min_7cf53_10 {p : Program} {l : Launch} {e : Env} {s : State} {m : MethodId} {args : Array Value} {below : List Frame} {meth : Method} {c : Code} {g : GP} {Z : St} (hC : CX p s m args c cJ9_min_7cf53 RJ9 g) (hE : EZ g s s.heap) (hml : c.maxLocals = 2) (hr : meth.sig.returnType = (some .int)) (hlk : meth.locks = false) {r : Int32} {C2 : St} {t0 : Int32} {C : St} (h : F_J9_min_7cf53_10  t0 C = some (r, C2)) {ed : Nat → Nat} {H : Heap} {locs : List Loc} {ls : Array Slot} (hH : HW g ed C Z H) (hS : va_S (gP g) s.heap H locs) (hl : lv_has ls 2 []) : W p l e ({ frames := 0, cells := 0, slots := 0, locals := 0 } : Room) s m args below meth c H locs 0 0 (MQ below (QG (some (.int r)) g C2 Z) args s 0 0 (gP g)) (F0 m 10 ls [.int t0]) := by
  unfold F_J9_min_7cf53_10 at h
  cases h
  exact gret_i hC hr hlk hH hS (Nat.le_of_ble_eq_true rfl) (Nat.le_of_ble_eq_true rfl) dJ9_min_7cf53_10
def F_J9_min_7cf53 (x0 : Int32) (x1 : Int32) (C : St) : Option (Int32 × St) := if x1 < x0 then (F_J9_min_7cf53_10 x1 C) else (F_J9_min_7cf53_10 x0 C)
set_option maxHeartbeats 4000000 in
set_option maxRecDepth 100000 in
theorem c_J9_min_7cf53 {l : Launch} {g : GP} {ed : Nat → Nat} {Z : St} {x0 : Int32} {x1 : Int32} {C : St} {r : Int32} {C2 : St} (h : F_J9_min_7cf53 x0 x1 C = some (r, C2)) : Met l yJ9_min_7cf53 (Cond.code yJ9_min_7cf53 cJ9_min_7cf53 2 (some .int) :: lwG) ({ frames := 0, cells := 0, slots := 0, locals := 0 } : Room) (va_Pc [.int x0, .int x1] (PW g C Z ed)) (QG (some (.int r)) g C2 Z) 0 0 (gP g) := by
  refine g_ofW (cc := cJ9_min_7cf53) (maxL := 2) (ret := (some .int)) (by decide +kernel) rfl ?_
  intro p e s m args below meth c s₁ B hml hv
  obtain ⟨ha, hC, hE, hr, hlk, hH⟩ := g_start B hv
  subst ha
  have hC : CX p s m ([.int x0, .int x1] : List Value).toArray c cJ9_min_7cf53 RJ9 g := hC
  have hS : va_S (gP g) s.heap s.heap [] := va_S.rf
  obtain ⟨ls, he, hl⟩ := g_entry m (vs := [.int x0, .int x1]) (n := 2) (List.forall_mem_cons.mpr ⟨rfl, (List.forall_mem_cons.mpr ⟨rfl, (fun _ h => absurd h List.not_mem_nil)⟩)⟩) (Nat.le_of_ble_eq_true rfl)
  rw [he]
  have hl : lv_has ls 2 [(0, .int x0), (1, .int x1)] := hl
  unfold F_J9_min_7cf53 at h
  refine lv_iload_n hC.1 hC.2.1 dJ9_min_7cf53_0 rfl (lv_at hl 0 rfl) ?_
  refine lv_iload_n hC.1 hC.2.1 dJ9_min_7cf53_1 rfl (lv_at hl 1 rfl) ?_
  refine lv_icmp_gt (tgt := 9) hC.1 hC.2.1 dJ9_min_7cf53_2 (by decide) (fun hc1 => ?_) (fun hc1 => ?_)
  · rw [if_pos hc1] at h
    refine lv_iload_n hC.1 hC.2.1 dJ9_min_7cf53_9 rfl (lv_at hl 1 rfl) ?_
    exact B_J9_min_7cf53_10 hC hE hml hr hlk h hH hS (lv_sub hl [] rfl)
  · rw [if_neg hc1] at h
    refine lv_iload_n hC.1 hC.2.1 dJ9_min_7cf53_5 rfl (lv_at hl 0 rfl) ?_
    refine lv_goto (tgt := 10) hC.1 hC.2.1 dJ9_min_7cf53_6 (by decide) ?_
    exact B_J9_min_7cf53_10 hC hE hml hr hlk h hH hS (lv_sub hl [] rfl)
def F_J9_max_7cf53_10  (t0 : Int32) (C : St) : Option (Int32 × St) := some (t0, C)
set_option maxHeartbeats 4000000 in
set_option maxRecDepth 100000 in
theorem B_J9_max_7cf53_10 {p : Program} {l : Launch} {e : Env} {s : State} {m : MethodId} {args : Array Value} {below : List Frame} {meth : Method} {c : Code} {g : GP} {Z : St} (hC : CX p s m args c cJ9_max_7cf53 RJ9 g) (hE : EZ g s s.heap) (hml : c.maxLocals = 2) (hr : meth.sig.returnType = (some .int)) (hlk : meth.locks = false) {r : Int32} {C2 : St} {t0 : Int32} {C : St} (h : F_J9_max_7cf53_10  t0 C = some (r, C2)) {ed : Nat → Nat} {H : Heap} {locs : List Loc} {ls : Array Slot} (hH : HW g ed C Z H) (hS : va_S (gP g) s.heap H locs) (hl : lv_has ls 2 []) : W p l e ({ frames := 0, cells := 0, slots := 0, locals := 0 } : Room) s m args below meth c H locs 0 0 (MQ below (QG (some (.int r)) g C2 Z) args s 0 0 (gP g)) (F0 m 10 ls [.int t0]) := by
  unfold F_J9_max_7cf53_10 at h
  cases h
  exact gret_i hC hr hlk hH hS (Nat.le_of_ble_eq_true rfl) (Nat.le_of_ble_eq_true rfl) dJ9_max_7cf53_10
def F_J9_max_7cf53 (x0 : Int32) (x1 : Int32) (C : St) : Option (Int32 × St) := if x0 < x1 then (F_J9_max_7cf53_10 x1 C) else (F_J9_max_7cf53_10 x0 C)
set_option maxHeartbeats 4000000 in
set_option maxRecDepth 100000 in
theorem c_J9_max_7cf53 {l : Launch} {g : GP} {ed : Nat → Nat} {Z : St} {x0 : Int32} {x1 : Int32} {C : St} {r : Int32} {C2 : St} (h : F_J9_max_7cf53 x0 x1 C = some (r, C2)) : Met l yJ9_max_7cf53 (Cond.code yJ9_max_7cf53 cJ9_max_7cf53 2 (some .int) :: lwG) ({ frames := 0, cells := 0, slots := 0, locals := 0 } : Room) (va_Pc [.int x0, .int x1] (PW g C Z ed)) (QG (some (.int r)) g C2 Z) 0 0 (gP g) := by
  refine g_ofW (cc := cJ9_max_7cf53) (maxL := 2) (ret := (some .int)) (by decide +kernel) rfl ?_
  intro p e s m args below meth c s₁ B hml hv
  obtain ⟨ha, hC, hE, hr, hlk, hH⟩ := g_start B hv
  subst ha
  have hC : CX p s m ([.int x0, .int x1] : List Value).toArray c cJ9_max_7cf53 RJ9 g := hC
  have hS : va_S (gP g) s.heap s.heap [] := va_S.rf
  obtain ⟨ls, he, hl⟩ := g_entry m (vs := [.int x0, .int x1]) (n := 2) (List.forall_mem_cons.mpr ⟨rfl, (List.forall_mem_cons.mpr ⟨rfl, (fun _ h => absurd h List.not_mem_nil)⟩)⟩) (Nat.le_of_ble_eq_true rfl)
  rw [he]
  have hl : lv_has ls 2 [(0, .int x0), (1, .int x1)] := hl
  unfold F_J9_max_7cf53 at h
  refine lv_iload_n hC.1 hC.2.1 dJ9_max_7cf53_0 rfl (lv_at hl 0 rfl) ?_
  refine lv_iload_n hC.1 hC.2.1 dJ9_max_7cf53_1 rfl (lv_at hl 1 rfl) ?_
  refine lv_icmp_lt (tgt := 9) hC.1 hC.2.1 dJ9_max_7cf53_2 (by decide) (fun hc1 => ?_) (fun hc1 => ?_)
  · rw [if_pos hc1] at h
    refine lv_iload_n hC.1 hC.2.1 dJ9_max_7cf53_9 rfl (lv_at hl 1 rfl) ?_
    exact B_J9_max_7cf53_10 hC hE hml hr hlk h hH hS (lv_sub hl [] rfl)
  · rw [if_neg hc1] at h
    refine lv_iload_n hC.1 hC.2.1 dJ9_max_7cf53_5 rfl (lv_at hl 0 rfl) ?_
    refine lv_goto (tgt := 10) hC.1 hC.2.1 dJ9_max_7cf53_6 (by decide) ?_
    exact B_J9_max_7cf53_10 hC hE hml hr hlk h hH hS (lv_sub hl [] rfl)
