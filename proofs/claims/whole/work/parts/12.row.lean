def F_X8_placeOf_37 (n : Nat) (i : Nat)   (C : St) : Option (Int32 × St) := some ((-1 : Int32), C)
set_option maxHeartbeats 4000000 in
set_option maxRecDepth 100000 in
theorem B_X8_placeOf_37 {p : Program} {l : Launch} {e : Env} {s : State} {m : MethodId} {args : Array Value} {below : List Frame} {meth : Method} {c : Code} {g : GP} {Z : St} {i : Nat} (hi : i < 8) (hC : CX p s m args c cX8_placeOf RX8 g) (hE : EZ g s s.heap) (hml : c.maxLocals = 3) (hr : meth.sig.returnType = (some .int)) (hlk : meth.locks = false) {r : Int32} {C2 : St}  {C : St} (h : F_X8_placeOf_37 (gn g) i   C = some (r, C2)) {ed : Nat → Nat} {H : Heap} {locs : List Loc} {ls : Array Slot} (hH : HW g ed C Z H) (hS : va_S (gP g) s.heap H locs) (hl : lv_has ls 3 []) : W p l e ({ frames := 0, cells := 0, slots := 0, locals := 0 } : Room) s m args below meth c H locs 0 0 (MQ below (QG (some (.int r)) g C2 Z) args s 0 0 (gP g)) (F0 m 37 ls []) := by
  unfold F_X8_placeOf_37 at h
  refine lv_iconst (v := (-1 : Int32)) hC.1 hC.2.1 dX8_placeOf_37 (by decide) ?_
  cases h
  exact gret_i hC hr hlk hH hS (Nat.le_of_ble_eq_true rfl) (Nat.le_of_ble_eq_true rfl) dX8_placeOf_38
def F_X8_placeOf_2 (n : Nat) (i : Nat)  : Nat → Int32 → Int32 → St → Option (Int32 × St)
  | 0, _, _, _ => none
  | fu + 1, x1, x2, C => if (C 2 i 1 0) ≤ x2 then (F_X8_placeOf_37 n i  C) else (if (nI (rowLen i)) ≤ x2 then (F_X8_placeOf_37 n i  C) else (gd (inb x2 (rowLen i)) (if (C 3 i 0 x2.toNatClampNeg) = x1 then (some (x2, C)) else (F_X8_placeOf_2 n i fu x1 (x2 + 1) C))))
set_option maxHeartbeats 4000000 in
set_option maxRecDepth 100000 in
theorem B_X8_placeOf_2 {p : Program} {l : Launch} {e : Env} {s : State} {m : MethodId} {args : Array Value} {below : List Frame} {meth : Method} {c : Code} {g : GP} {Z : St} {i : Nat} (hi : i < 8) (hC : CX p s m args c cX8_placeOf RX8 g) (hE : EZ g s s.heap) (hml : c.maxLocals = 3) (hr : meth.sig.returnType = (some .int)) (hlk : meth.locks = false) {r : Int32} {C2 : St} : ∀ (fu : Nat) (x1 : Int32) (x2 : Int32) (C : St), F_X8_placeOf_2 (gn g) i  fu x1 x2 C = some (r, C2) → ∀ (ed : Nat → Nat) (H : Heap) (locs : List Loc) (ls : Array Slot), HW g ed C Z H → va_S (gP g) s.heap H locs → lv_has ls 3 [(0, .ref (gA g 2 i)), (1, .int x1), (2, .int x2)] → W p l e ({ frames := 0, cells := 0, slots := 0, locals := 0 } : Room) s m args below meth c H locs 0 0 (MQ below (QG (some (.int r)) g C2 Z) args s 0 0 (gP g)) (F0 m 2 ls []) := by
  intro fu
  induction fu with
  | zero =>
    intro x1 x2 C h
    cases h
  | succ fu ih =>
    intro x1 x2 C h ed H locs ls hH hS hl
    rw [F_X8_placeOf_2] at h
    refine lv_iload_n hC.1 hC.2.1 dX8_placeOf_2 rfl (lv_at hl 2 rfl) ?_
    refine lv_aload_n hC.1 hC.2.1 dX8_placeOf_3 rfl (lv_at hl 0 rfl) ?_
    refine gf_RX8_21 hC hH hi rfl dX8_placeOf_4 ?_
    refine lv_icmp_ge (tgt := 37) hC.1 hC.2.1 dX8_placeOf_7 (by decide) (fun hc1 => ?_) (fun hc1 => ?_)
    · rw [if_pos hc1] at h
      exact B_X8_placeOf_37 hi hC hE hml hr hlk h hH hS (lv_sub hl [] rfl)
    · rw [if_neg hc1] at h
      refine lv_iload_n hC.1 hC.2.1 dX8_placeOf_10 rfl (lv_at hl 2 rfl) ?_
      refine lv_aload_n hC.1 hC.2.1 dX8_placeOf_11 rfl (lv_at hl 0 rfl) ?_
      refine gf_RX8_15 hC hH hi rfl dX8_placeOf_12 ?_
      refine ln_3 hC hH hi rfl dX8_placeOf_15 ?_
      refine lv_icmp_ge (tgt := 37) hC.1 hC.2.1 dX8_placeOf_16 (by decide) (fun hc2 => ?_) (fun hc2 => ?_)
      · rw [if_pos hc2] at h
        exact B_X8_placeOf_37 hi hC hE hml hr hlk h hH hS (lv_sub hl [] rfl)
      · rw [if_neg hc2] at h
        refine lv_aload_n hC.1 hC.2.1 dX8_placeOf_19 rfl (lv_at hl 0 rfl) ?_
        refine gf_RX8_15 hC hH hi rfl dX8_placeOf_20 ?_
        refine lv_iload_n hC.1 hC.2.1 dX8_placeOf_23 rfl (lv_at hl 2 rfl) ?_
        obtain ⟨hg3, h⟩ := gd_some h
        refine al_3 hC hH hi hg3 rfl dX8_placeOf_24 ?_
        refine lv_iload_n hC.1 hC.2.1 dX8_placeOf_25 rfl (lv_at hl 1 rfl) ?_
        refine lv_icmp_ne (tgt := 31) hC.1 hC.2.1 dX8_placeOf_26 (by decide) (fun hc4 => ?_) (fun hc4 => ?_)
        · rw [if_neg hc4] at h
          refine lv_iinc (v := x2 + 1) (lv' := [(2, .int (x2 + 1)), (0, .ref (gA g 2 i)), (1, .int x1)]) hC.1 hC.2.1 dX8_placeOf_31 hl (k := 2) rfl rfl (by decide) rfl (fun ls hl => ?_)
          refine lv_goto (tgt := 2) hC.1 hC.2.1 dX8_placeOf_34 (by decide) ?_
          exact ih _ _ _ h _ _ _ _ hH hS (lv_sub hl [1, 2, 0] rfl)
        · rw [if_pos hc4] at h
          refine lv_iload_n hC.1 hC.2.1 dX8_placeOf_29 rfl (lv_at hl 2 rfl) ?_
          cases h
          exact gret_i hC hr hlk hH hS (Nat.le_of_ble_eq_true rfl) (Nat.le_of_ble_eq_true rfl) dX8_placeOf_30
def F_X8_placeOf (n : Nat) (i : Nat) (x1 : Int32) (C : St) : Option (Int32 × St) := F_X8_placeOf_2 n i 1000 x1 (0 : Int32) C
set_option maxHeartbeats 4000000 in
set_option maxRecDepth 100000 in
theorem c_X8_placeOf {l : Launch} {g : GP} {ed : Nat → Nat} {Z : St} {i : Nat} (hi : i < 8) {x1 : Int32} {C : St} {r : Int32} {C2 : St} (h : F_X8_placeOf (gn g) i x1 C = some (r, C2)) : Met l yX8_placeOf (Cond.code yX8_placeOf cX8_placeOf 3 (some .int) :: lwG) ({ frames := 0, cells := 0, slots := 0, locals := 0 } : Room) (va_Pc [.ref (gA g 2 i), .int x1] (PW g C Z ed)) (QG (some (.int r)) g C2 Z) 0 0 (gP g) := by
  refine Met.ofW (cc := cX8_placeOf) (maxL := 3) (ret := (some .int)) (by decide +kernel) rfl ?_
  intro p e s m args below meth c s₁ B hml hv
  obtain ⟨ha, hC, hE, hr, hlk, hH⟩ := g_start B hv
  subst ha
  have hC : CX p s m ([.ref (gA g 2 i), .int x1] : List Value).toArray c cX8_placeOf RX8 g := hC
  have hS : va_S (gP g) s.heap s.heap [] := va_S.rf
  obtain ⟨ls, he, hl⟩ := g_entry m (vs := [.ref (gA g 2 i), .int x1]) (n := 3) (List.forall_mem_cons.mpr ⟨rfl, (List.forall_mem_cons.mpr ⟨rfl, (fun _ h => absurd h List.not_mem_nil)⟩)⟩) (Nat.le_of_ble_eq_true rfl)
  rw [he]
  have hl : lv_has ls 3 [(0, .ref (gA g 2 i)), (1, .int x1)] := hl
  unfold F_X8_placeOf at h
  refine lv_iconst (v := (0 : Int32)) hC.1 hC.2.1 dX8_placeOf_0 (by decide) ?_
  refine lv_istore_n (i := 2) (lv' := [(2, .int (0 : Int32)), (0, .ref (gA g 2 i)), (1, .int x1)]) hC.1 hC.2.1 dX8_placeOf_1 rfl hl (by decide) rfl (fun ls hl => ?_)
  exact B_X8_placeOf_2 hi hC hE hml hr hlk 1000 _ _ _ h _ _ _ _ hH hS (lv_sub hl [1, 2, 0] rfl)
def F_X8_removeAt_12 (n : Nat) (i : Nat)   (C : St) : Option (Int32 × St) := some (0, C)
set_option maxHeartbeats 4000000 in
set_option maxRecDepth 100000 in
theorem B_X8_removeAt_12 {p : Program} {l : Launch} {e : Env} {s : State} {m : MethodId} {args : Array Value} {below : List Frame} {meth : Method} {c : Code} {g : GP} {Z : St} {i : Nat} (hi : i < 8) (hC : CX p s m args c cX8_removeAt RX8 g) (hE : EZ g s s.heap) (hml : c.maxLocals = 3) (hr : meth.sig.returnType = none) (hlk : meth.locks = false) {r : Int32} {C2 : St}  {C : St} (h : F_X8_removeAt_12 (gn g) i   C = some (r, C2)) {ed : Nat → Nat} {H : Heap} {locs : List Loc} {ls : Array Slot} (hH : HW g ed C Z H) (hS : va_S (gP g) s.heap H locs) (hl : lv_has ls 3 []) : W p l e ({ frames := 0, cells := 0, slots := 0, locals := 0 } : Room) s m args below meth c H locs 0 0 (MQ below (QG none g C2 Z) args s 0 0 (gP g)) (F0 m 12 ls []) := by
  unfold F_X8_removeAt_12 at h
  cases h
  exact gret_v hC hr hlk hH hS (Nat.le_of_ble_eq_true rfl) (Nat.le_of_ble_eq_true rfl) dX8_removeAt_12
def F_X8_removeAt_54 (n : Nat) (i : Nat)   (C : St) : Option (Int32 × St) := st (up C 2 i 1 0 ((C 2 i 1 0) - (1 : Int32))) (fun D1 => some (0, D1))
set_option maxHeartbeats 4000000 in
set_option maxRecDepth 100000 in
theorem B_X8_removeAt_54 {p : Program} {l : Launch} {e : Env} {s : State} {m : MethodId} {args : Array Value} {below : List Frame} {meth : Method} {c : Code} {g : GP} {Z : St} {i : Nat} (hi : i < 8) (hC : CX p s m args c cX8_removeAt RX8 g) (hE : EZ g s s.heap) (hml : c.maxLocals = 3) (hr : meth.sig.returnType = none) (hlk : meth.locks = false) {r : Int32} {C2 : St}  {C : St} (h : F_X8_removeAt_54 (gn g) i   C = some (r, C2)) {ed : Nat → Nat} {H : Heap} {locs : List Loc} {ls : Array Slot} (hH : HW g ed C Z H) (hS : va_S (gP g) s.heap H locs) (hl : lv_has ls 3 [(0, .ref (gA g 2 i))]) : W p l e ({ frames := 0, cells := 0, slots := 0, locals := 0 } : Room) s m args below meth c H locs 0 0 (MQ below (QG none g C2 Z) args s 0 0 (gP g)) (F0 m 54 ls []) := by
  unfold F_X8_removeAt_54 at h
  refine lv_aload_n hC.1 hC.2.1 dX8_removeAt_54 rfl (lv_at hl 0 rfl) ?_
  refine lv_dup hC.1 hC.2.1 dX8_removeAt_55 rfl ?_
  refine gf_RX8_21 hC hH hi rfl dX8_removeAt_56 ?_
  refine lv_iconst (v := (1 : Int32)) hC.1 hC.2.1 dX8_removeAt_59 (by decide) ?_
  refine lv_isub hC.1 hC.2.1 dX8_removeAt_60 ?_
  obtain ⟨D1, e2, h⟩ := st_some h
  refine pf_RX8_21 hC hH hS hi  rfl dX8_removeAt_61 (fun H locs hH hS => ?_)
  rw [← e2] at hH
  cases h
  exact gret_v hC hr hlk hH hS (Nat.le_of_ble_eq_true rfl) (Nat.le_of_ble_eq_true rfl) dX8_removeAt_64
def F_X8_removeAt_17 (n : Nat) (i : Nat)  : Nat → Int32 → St → Option (Int32 × St)
  | 0, _, _ => none
  | fu + 1, x2, C => if (C 2 i 1 0) ≤ x2 then (F_X8_removeAt_54 n i  C) else (if (nI (rowLen i)) ≤ x2 then (F_X8_removeAt_54 n i  C) else (gd (inb x2 (rowLen i)) (gd (inb (x2 - (1 : Int32)) (rowLen i)) (st (up C 3 i 0 (x2 - (1 : Int32)).toNatClampNeg (C 3 i 0 x2.toNatClampNeg)) (fun D5 => F_X8_removeAt_17 n i fu (x2 + 1) D5)))))
set_option maxHeartbeats 4000000 in
set_option maxRecDepth 100000 in
theorem B_X8_removeAt_17 {p : Program} {l : Launch} {e : Env} {s : State} {m : MethodId} {args : Array Value} {below : List Frame} {meth : Method} {c : Code} {g : GP} {Z : St} {i : Nat} (hi : i < 8) (hC : CX p s m args c cX8_removeAt RX8 g) (hE : EZ g s s.heap) (hml : c.maxLocals = 3) (hr : meth.sig.returnType = none) (hlk : meth.locks = false) {r : Int32} {C2 : St} : ∀ (fu : Nat) (x2 : Int32) (C : St), F_X8_removeAt_17 (gn g) i  fu x2 C = some (r, C2) → ∀ (ed : Nat → Nat) (H : Heap) (locs : List Loc) (ls : Array Slot), HW g ed C Z H → va_S (gP g) s.heap H locs → lv_has ls 3 [(0, .ref (gA g 2 i)), (2, .int x2)] → W p l e ({ frames := 0, cells := 0, slots := 0, locals := 0 } : Room) s m args below meth c H locs 0 0 (MQ below (QG none g C2 Z) args s 0 0 (gP g)) (F0 m 17 ls []) := by
  intro fu
  induction fu with
  | zero =>
    intro x2 C h
    cases h
  | succ fu ih =>
    intro x2 C h ed H locs ls hH hS hl
    rw [F_X8_removeAt_17] at h
    refine lv_iload_n hC.1 hC.2.1 dX8_removeAt_17 rfl (lv_at hl 1 rfl) ?_
    refine lv_aload_n hC.1 hC.2.1 dX8_removeAt_18 rfl (lv_at hl 0 rfl) ?_
    refine gf_RX8_21 hC hH hi rfl dX8_removeAt_19 ?_
    refine lv_icmp_ge (tgt := 54) hC.1 hC.2.1 dX8_removeAt_22 (by decide) (fun hc1 => ?_) (fun hc1 => ?_)
    · rw [if_pos hc1] at h
      exact B_X8_removeAt_54 hi hC hE hml hr hlk h hH hS (lv_sub hl [0] rfl)
    · rw [if_neg hc1] at h
      refine lv_iload_n hC.1 hC.2.1 dX8_removeAt_25 rfl (lv_at hl 1 rfl) ?_
      refine lv_aload_n hC.1 hC.2.1 dX8_removeAt_26 rfl (lv_at hl 0 rfl) ?_
      refine gf_RX8_15 hC hH hi rfl dX8_removeAt_27 ?_
      refine ln_3 hC hH hi rfl dX8_removeAt_30 ?_
      refine lv_icmp_ge (tgt := 54) hC.1 hC.2.1 dX8_removeAt_31 (by decide) (fun hc2 => ?_) (fun hc2 => ?_)
      · rw [if_pos hc2] at h
        exact B_X8_removeAt_54 hi hC hE hml hr hlk h hH hS (lv_sub hl [0] rfl)
      · rw [if_neg hc2] at h
        refine lv_aload_n hC.1 hC.2.1 dX8_removeAt_34 rfl (lv_at hl 0 rfl) ?_
        refine gf_RX8_15 hC hH hi rfl dX8_removeAt_35 ?_
        refine lv_iload_n hC.1 hC.2.1 dX8_removeAt_38 rfl (lv_at hl 1 rfl) ?_
        refine lv_iconst (v := (1 : Int32)) hC.1 hC.2.1 dX8_removeAt_39 (by decide) ?_
        refine lv_isub hC.1 hC.2.1 dX8_removeAt_40 ?_
        refine lv_aload_n hC.1 hC.2.1 dX8_removeAt_41 rfl (lv_at hl 0 rfl) ?_
        refine gf_RX8_15 hC hH hi rfl dX8_removeAt_42 ?_
        refine lv_iload_n hC.1 hC.2.1 dX8_removeAt_45 rfl (lv_at hl 1 rfl) ?_
        obtain ⟨hg3, h⟩ := gd_some h
        refine al_3 hC hH hi hg3 rfl dX8_removeAt_46 ?_
        obtain ⟨hg4, h⟩ := gd_some h
        obtain ⟨D5, e6, h⟩ := st_some h
        refine as_3 hC hH hS hi hg4 rfl dX8_removeAt_47 (fun H locs hH hS => ?_)
        rw [← e6] at hH
        refine lv_iinc (v := x2 + 1) (lv' := [(2, .int (x2 + 1)), (0, .ref (gA g 2 i))]) hC.1 hC.2.1 dX8_removeAt_48 hl (k := 1) rfl rfl (by decide) rfl (fun ls hl => ?_)
        refine lv_goto (tgt := 17) hC.1 hC.2.1 dX8_removeAt_51 (by decide) ?_
        exact ih _ _ h _ _ _ _ hH hS (lv_sub hl [1, 0] rfl)
def F_X8_removeAt (n : Nat) (i : Nat) (x1 : Int32) (C : St) : Option (Int32 × St) := if x1 < 0 then (F_X8_removeAt_12 n i  C) else (if x1 < (C 2 i 1 0) then (F_X8_removeAt_17 n i 1000 (x1 + (1 : Int32)) C) else (F_X8_removeAt_12 n i  C))
set_option maxHeartbeats 4000000 in
set_option maxRecDepth 100000 in
theorem c_X8_removeAt {l : Launch} {g : GP} {ed : Nat → Nat} {Z : St} {i : Nat} (hi : i < 8) {x1 : Int32} {C : St} {r : Int32} {C2 : St} (h : F_X8_removeAt (gn g) i x1 C = some (r, C2)) : Met l yX8_removeAt (Cond.code yX8_removeAt cX8_removeAt 3 none :: lwG) ({ frames := 0, cells := 0, slots := 0, locals := 0 } : Room) (va_Pc [.ref (gA g 2 i), .int x1] (PW g C Z ed)) (QG none g C2 Z) 0 0 (gP g) := by
  refine Met.ofW (cc := cX8_removeAt) (maxL := 3) (ret := none) (by decide +kernel) rfl ?_
  intro p e s m args below meth c s₁ B hml hv
  obtain ⟨ha, hC, hE, hr, hlk, hH⟩ := g_start B hv
  subst ha
  have hC : CX p s m ([.ref (gA g 2 i), .int x1] : List Value).toArray c cX8_removeAt RX8 g := hC
  have hS : va_S (gP g) s.heap s.heap [] := va_S.rf
  obtain ⟨ls, he, hl⟩ := g_entry m (vs := [.ref (gA g 2 i), .int x1]) (n := 3) (List.forall_mem_cons.mpr ⟨rfl, (List.forall_mem_cons.mpr ⟨rfl, (fun _ h => absurd h List.not_mem_nil)⟩)⟩) (Nat.le_of_ble_eq_true rfl)
  rw [he]
  have hl : lv_has ls 3 [(0, .ref (gA g 2 i)), (1, .int x1)] := hl
  unfold F_X8_removeAt at h
  refine lv_iload_n hC.1 hC.2.1 dX8_removeAt_0 rfl (lv_at hl 1 rfl) ?_
  refine lv_if_lt (tgt := 12) hC.1 hC.2.1 dX8_removeAt_1 (by decide) (fun hc1 => ?_) (fun hc1 => ?_)
  · rw [if_pos hc1] at h
    exact B_X8_removeAt_12 hi hC hE hml hr hlk h hH hS (lv_sub hl [] rfl)
  · rw [if_neg hc1] at h
    refine lv_iload_n hC.1 hC.2.1 dX8_removeAt_4 rfl (lv_at hl 1 rfl) ?_
    refine lv_aload_n hC.1 hC.2.1 dX8_removeAt_5 rfl (lv_at hl 0 rfl) ?_
    refine gf_RX8_21 hC hH hi rfl dX8_removeAt_6 ?_
    refine lv_icmp_lt (tgt := 13) hC.1 hC.2.1 dX8_removeAt_9 (by decide) (fun hc2 => ?_) (fun hc2 => ?_)
    · rw [if_pos hc2] at h
      refine lv_iload_n hC.1 hC.2.1 dX8_removeAt_13 rfl (lv_at hl 1 rfl) ?_
      refine lv_iconst (v := (1 : Int32)) hC.1 hC.2.1 dX8_removeAt_14 (by decide) ?_
      refine lv_iadd hC.1 hC.2.1 dX8_removeAt_15 ?_
      refine lv_istore_n (i := 2) (lv' := [(2, .int (x1 + (1 : Int32))), (0, .ref (gA g 2 i)), (1, .int x1)]) hC.1 hC.2.1 dX8_removeAt_16 rfl hl (by decide) rfl (fun ls hl => ?_)
      exact B_X8_removeAt_17 hi hC hE hml hr hlk 1000 _ _ h _ _ _ _ hH hS (lv_sub hl [1, 0] rfl)
    · rw [if_neg hc2] at h
      exact B_X8_removeAt_12 hi hC hE hml hr hlk h hH hS (lv_sub hl [] rfl)
def F_X8_size (n : Nat) (i : Nat)  (C : St) : Option (Int32 × St) := some (C 2 i 1 0, C)
set_option maxHeartbeats 4000000 in
set_option maxRecDepth 100000 in
theorem c_X8_size {l : Launch} {g : GP} {ed : Nat → Nat} {Z : St} {i : Nat} (hi : i < 8)  {C : St} {r : Int32} {C2 : St} (h : F_X8_size (gn g) i  C = some (r, C2)) : Met l yX8_size (Cond.code yX8_size cX8_size 1 (some .int) :: lwG) ({ frames := 0, cells := 0, slots := 0, locals := 0 } : Room) (va_Pc [.ref (gA g 2 i)] (PW g C Z ed)) (QG (some (.int r)) g C2 Z) 0 0 (gP g) := by
  refine Met.ofW (cc := cX8_size) (maxL := 1) (ret := (some .int)) (by decide +kernel) rfl ?_
  intro p e s m args below meth c s₁ B hml hv
  obtain ⟨ha, hC, hE, hr, hlk, hH⟩ := g_start B hv
  subst ha
  have hC : CX p s m ([.ref (gA g 2 i)] : List Value).toArray c cX8_size RX8 g := hC
  have hS : va_S (gP g) s.heap s.heap [] := va_S.rf
  obtain ⟨ls, he, hl⟩ := g_entry m (vs := [.ref (gA g 2 i)]) (n := 1) (List.forall_mem_cons.mpr ⟨rfl, (fun _ h => absurd h List.not_mem_nil)⟩) (Nat.le_of_ble_eq_true rfl)
  rw [he]
  have hl : lv_has ls 1 [(0, .ref (gA g 2 i))] := hl
  unfold F_X8_size at h
  refine lv_aload_n hC.1 hC.2.1 dX8_size_0 rfl (lv_at hl 0 rfl) ?_
  refine gf_RX8_21 hC hH hi rfl dX8_size_1 ?_
  cases h
  exact gret_i hC hr hlk hH hS (Nat.le_of_ble_eq_true rfl) (Nat.le_of_ble_eq_true rfl) dX8_size_4
def F_X8_append_39 (n : Nat) (i : Nat)   (C : St) : Option (Int32 × St) := some (0, C)
set_option maxHeartbeats 4000000 in
set_option maxRecDepth 100000 in
theorem B_X8_append_39 {p : Program} {l : Launch} {e : Env} {s : State} {m : MethodId} {args : Array Value} {below : List Frame} {meth : Method} {c : Code} {g : GP} {Z : St} {i : Nat} (hi : i < 8) (hC : CX p s m args c cX8_append RX8 g) (hE : EZ g s s.heap) (hml : c.maxLocals = 2) (hr : meth.sig.returnType = none) (hlk : meth.locks = false) {r : Int32} {C2 : St}  {C : St} (h : F_X8_append_39 (gn g) i   C = some (r, C2)) {ed : Nat → Nat} {H : Heap} {locs : List Loc} {ls : Array Slot} (hH : HW g ed C Z H) (hS : va_S (gP g) s.heap H locs) (hl : lv_has ls 2 []) : W p l e ({ frames := 0, cells := 0, slots := 0, locals := 0 } : Room) s m args below meth c H locs 0 0 (MQ below (QG none g C2 Z) args s 0 0 (gP g)) (F0 m 39 ls []) := by
  unfold F_X8_append_39 at h
  cases h
  exact gret_v hC hr hlk hH hS (Nat.le_of_ble_eq_true rfl) (Nat.le_of_ble_eq_true rfl) dX8_append_39
def F_X8_append (n : Nat) (i : Nat) (x1 : Int32) (C : St) : Option (Int32 × St) := if (C 2 i 1 0) < 0 then (F_X8_append_39 n i  C) else (if (nI (rowLen i)) ≤ (C 2 i 1 0) then (F_X8_append_39 n i  C) else (gd (inb (C 2 i 1 0) (rowLen i)) (st (up C 3 i 0 (C 2 i 1 0).toNatClampNeg x1) (fun D4 => st (up D4 2 i 1 0 ((D4 2 i 1 0) + (1 : Int32))) (fun D6 => F_X8_append_39 n i  D6)))))
set_option maxHeartbeats 4000000 in
set_option maxRecDepth 100000 in
theorem c_X8_append {l : Launch} {g : GP} {ed : Nat → Nat} {Z : St} {i : Nat} (hi : i < 8) {x1 : Int32} {C : St} {r : Int32} {C2 : St} (h : F_X8_append (gn g) i x1 C = some (r, C2)) : Met l yX8_append (Cond.code yX8_append cX8_append 2 none :: lwG) ({ frames := 0, cells := 0, slots := 0, locals := 0 } : Room) (va_Pc [.ref (gA g 2 i), .int x1] (PW g C Z ed)) (QG none g C2 Z) 0 0 (gP g) := by
  refine Met.ofW (cc := cX8_append) (maxL := 2) (ret := none) (by decide +kernel) rfl ?_
  intro p e s m args below meth c s₁ B hml hv
  obtain ⟨ha, hC, hE, hr, hlk, hH⟩ := g_start B hv
  subst ha
  have hC : CX p s m ([.ref (gA g 2 i), .int x1] : List Value).toArray c cX8_append RX8 g := hC
  have hS : va_S (gP g) s.heap s.heap [] := va_S.rf
  obtain ⟨ls, he, hl⟩ := g_entry m (vs := [.ref (gA g 2 i), .int x1]) (n := 2) (List.forall_mem_cons.mpr ⟨rfl, (List.forall_mem_cons.mpr ⟨rfl, (fun _ h => absurd h List.not_mem_nil)⟩)⟩) (Nat.le_of_ble_eq_true rfl)
  rw [he]
  have hl : lv_has ls 2 [(0, .ref (gA g 2 i)), (1, .int x1)] := hl
  unfold F_X8_append at h
  refine lv_aload_n hC.1 hC.2.1 dX8_append_0 rfl (lv_at hl 0 rfl) ?_
  refine gf_RX8_21 hC hH hi rfl dX8_append_1 ?_
  refine lv_if_lt (tgt := 39) hC.1 hC.2.1 dX8_append_4 (by decide) (fun hc1 => ?_) (fun hc1 => ?_)
  · rw [if_pos hc1] at h
    exact B_X8_append_39 hi hC hE hml hr hlk h hH hS (lv_sub hl [] rfl)
  · rw [if_neg hc1] at h
    refine lv_aload_n hC.1 hC.2.1 dX8_append_7 rfl (lv_at hl 0 rfl) ?_
    refine gf_RX8_21 hC hH hi rfl dX8_append_8 ?_
    refine lv_aload_n hC.1 hC.2.1 dX8_append_11 rfl (lv_at hl 0 rfl) ?_
    refine gf_RX8_15 hC hH hi rfl dX8_append_12 ?_
    refine ln_3 hC hH hi rfl dX8_append_15 ?_
    refine lv_icmp_ge (tgt := 39) hC.1 hC.2.1 dX8_append_16 (by decide) (fun hc2 => ?_) (fun hc2 => ?_)
    · rw [if_pos hc2] at h
      exact B_X8_append_39 hi hC hE hml hr hlk h hH hS (lv_sub hl [] rfl)
    · rw [if_neg hc2] at h
      refine lv_aload_n hC.1 hC.2.1 dX8_append_19 rfl (lv_at hl 0 rfl) ?_
      refine gf_RX8_15 hC hH hi rfl dX8_append_20 ?_
      refine lv_aload_n hC.1 hC.2.1 dX8_append_23 rfl (lv_at hl 0 rfl) ?_
      refine gf_RX8_21 hC hH hi rfl dX8_append_24 ?_
      refine lv_iload_n hC.1 hC.2.1 dX8_append_27 rfl (lv_at hl 1 rfl) ?_
      obtain ⟨hg3, h⟩ := gd_some h
      obtain ⟨D4, e5, h⟩ := st_some h
      refine as_3 hC hH hS hi hg3 rfl dX8_append_28 (fun H locs hH hS => ?_)
      rw [← e5] at hH
      refine lv_aload_n hC.1 hC.2.1 dX8_append_29 rfl (lv_at hl 0 rfl) ?_
      refine lv_dup hC.1 hC.2.1 dX8_append_30 rfl ?_
      refine gf_RX8_21 hC hH hi rfl dX8_append_31 ?_
      refine lv_iconst (v := (1 : Int32)) hC.1 hC.2.1 dX8_append_34 (by decide) ?_
      refine lv_iadd hC.1 hC.2.1 dX8_append_35 ?_
      obtain ⟨D6, e7, h⟩ := st_some h
      refine pf_RX8_21 hC hH hS hi  rfl dX8_append_36 (fun H locs hH hS => ?_)
      rw [← e7] at hH
      exact B_X8_append_39 hi hC hE hml hr hlk h hH hS (lv_sub hl [] rfl)
def F_X8_at_31 (n : Nat) (i : Nat)  (t0 : Int32) (C : St) : Option (Int32 × St) := some (t0, C)
set_option maxHeartbeats 4000000 in
set_option maxRecDepth 100000 in
theorem B_X8_at_31 {p : Program} {l : Launch} {e : Env} {s : State} {m : MethodId} {args : Array Value} {below : List Frame} {meth : Method} {c : Code} {g : GP} {Z : St} {i : Nat} (hi : i < 8) (hC : CX p s m args c cX8_at RX8 g) (hE : EZ g s s.heap) (hml : c.maxLocals = 2) (hr : meth.sig.returnType = (some .int)) (hlk : meth.locks = false) {r : Int32} {C2 : St} {t0 : Int32} {C : St} (h : F_X8_at_31 (gn g) i  t0 C = some (r, C2)) {ed : Nat → Nat} {H : Heap} {locs : List Loc} {ls : Array Slot} (hH : HW g ed C Z H) (hS : va_S (gP g) s.heap H locs) (hl : lv_has ls 2 []) : W p l e ({ frames := 0, cells := 0, slots := 0, locals := 0 } : Room) s m args below meth c H locs 0 0 (MQ below (QG (some (.int r)) g C2 Z) args s 0 0 (gP g)) (F0 m 31 ls [.int t0]) := by
  unfold F_X8_at_31 at h
  cases h
  exact gret_i hC hr hlk hH hS (Nat.le_of_ble_eq_true rfl) (Nat.le_of_ble_eq_true rfl) dX8_at_31
def F_X8_at_30 (n : Nat) (i : Nat)   (C : St) : Option (Int32 × St) := F_X8_at_31 n i (-1 : Int32) C
set_option maxHeartbeats 4000000 in
set_option maxRecDepth 100000 in
theorem B_X8_at_30 {p : Program} {l : Launch} {e : Env} {s : State} {m : MethodId} {args : Array Value} {below : List Frame} {meth : Method} {c : Code} {g : GP} {Z : St} {i : Nat} (hi : i < 8) (hC : CX p s m args c cX8_at RX8 g) (hE : EZ g s s.heap) (hml : c.maxLocals = 2) (hr : meth.sig.returnType = (some .int)) (hlk : meth.locks = false) {r : Int32} {C2 : St}  {C : St} (h : F_X8_at_30 (gn g) i   C = some (r, C2)) {ed : Nat → Nat} {H : Heap} {locs : List Loc} {ls : Array Slot} (hH : HW g ed C Z H) (hS : va_S (gP g) s.heap H locs) (hl : lv_has ls 2 []) : W p l e ({ frames := 0, cells := 0, slots := 0, locals := 0 } : Room) s m args below meth c H locs 0 0 (MQ below (QG (some (.int r)) g C2 Z) args s 0 0 (gP g)) (F0 m 30 ls []) := by
  unfold F_X8_at_30 at h
  refine lv_iconst (v := (-1 : Int32)) hC.1 hC.2.1 dX8_at_30 (by decide) ?_
  exact B_X8_at_31 hi hC hE hml hr hlk h hH hS (lv_sub hl [] rfl)
def F_X8_at (n : Nat) (i : Nat) (x1 : Int32) (C : St) : Option (Int32 × St) := if x1 < 0 then (F_X8_at_30 n i  C) else (if (C 2 i 1 0) ≤ x1 then (F_X8_at_30 n i  C) else (if (nI (rowLen i)) ≤ x1 then (F_X8_at_30 n i  C) else (gd (inb x1 (rowLen i)) (F_X8_at_31 n i (C 3 i 0 x1.toNatClampNeg) C))))
set_option maxHeartbeats 4000000 in
set_option maxRecDepth 100000 in
theorem c_X8_at {l : Launch} {g : GP} {ed : Nat → Nat} {Z : St} {i : Nat} (hi : i < 8) {x1 : Int32} {C : St} {r : Int32} {C2 : St} (h : F_X8_at (gn g) i x1 C = some (r, C2)) : Met l yX8_at (Cond.code yX8_at cX8_at 2 (some .int) :: lwG) ({ frames := 0, cells := 0, slots := 0, locals := 0 } : Room) (va_Pc [.ref (gA g 2 i), .int x1] (PW g C Z ed)) (QG (some (.int r)) g C2 Z) 0 0 (gP g) := by
  refine Met.ofW (cc := cX8_at) (maxL := 2) (ret := (some .int)) (by decide +kernel) rfl ?_
  intro p e s m args below meth c s₁ B hml hv
  obtain ⟨ha, hC, hE, hr, hlk, hH⟩ := g_start B hv
  subst ha
  have hC : CX p s m ([.ref (gA g 2 i), .int x1] : List Value).toArray c cX8_at RX8 g := hC
  have hS : va_S (gP g) s.heap s.heap [] := va_S.rf
  obtain ⟨ls, he, hl⟩ := g_entry m (vs := [.ref (gA g 2 i), .int x1]) (n := 2) (List.forall_mem_cons.mpr ⟨rfl, (List.forall_mem_cons.mpr ⟨rfl, (fun _ h => absurd h List.not_mem_nil)⟩)⟩) (Nat.le_of_ble_eq_true rfl)
  rw [he]
  have hl : lv_has ls 2 [(0, .ref (gA g 2 i)), (1, .int x1)] := hl
  unfold F_X8_at at h
  refine lv_iload_n hC.1 hC.2.1 dX8_at_0 rfl (lv_at hl 1 rfl) ?_
  refine lv_if_lt (tgt := 30) hC.1 hC.2.1 dX8_at_1 (by decide) (fun hc1 => ?_) (fun hc1 => ?_)
  · rw [if_pos hc1] at h
    exact B_X8_at_30 hi hC hE hml hr hlk h hH hS (lv_sub hl [] rfl)
  · rw [if_neg hc1] at h
    refine lv_iload_n hC.1 hC.2.1 dX8_at_4 rfl (lv_at hl 1 rfl) ?_
    refine lv_aload_n hC.1 hC.2.1 dX8_at_5 rfl (lv_at hl 0 rfl) ?_
    refine gf_RX8_21 hC hH hi rfl dX8_at_6 ?_
    refine lv_icmp_ge (tgt := 30) hC.1 hC.2.1 dX8_at_9 (by decide) (fun hc2 => ?_) (fun hc2 => ?_)
    · rw [if_pos hc2] at h
      exact B_X8_at_30 hi hC hE hml hr hlk h hH hS (lv_sub hl [] rfl)
    · rw [if_neg hc2] at h
      refine lv_iload_n hC.1 hC.2.1 dX8_at_12 rfl (lv_at hl 1 rfl) ?_
      refine lv_aload_n hC.1 hC.2.1 dX8_at_13 rfl (lv_at hl 0 rfl) ?_
      refine gf_RX8_15 hC hH hi rfl dX8_at_14 ?_
      refine ln_3 hC hH hi rfl dX8_at_17 ?_
      refine lv_icmp_ge (tgt := 30) hC.1 hC.2.1 dX8_at_18 (by decide) (fun hc3 => ?_) (fun hc3 => ?_)
      · rw [if_pos hc3] at h
        exact B_X8_at_30 hi hC hE hml hr hlk h hH hS (lv_sub hl [] rfl)
      · rw [if_neg hc3] at h
        refine lv_aload_n hC.1 hC.2.1 dX8_at_21 rfl (lv_at hl 0 rfl) ?_
        refine gf_RX8_15 hC hH hi rfl dX8_at_22 ?_
        refine lv_iload_n hC.1 hC.2.1 dX8_at_25 rfl (lv_at hl 1 rfl) ?_
        obtain ⟨hg4, h⟩ := gd_some h
        refine al_3 hC hH hi hg4 rfl dX8_at_26 ?_
        refine lv_goto (tgt := 31) hC.1 hC.2.1 dX8_at_27 (by decide) ?_
        exact B_X8_at_31 hi hC hE hml hr hlk h hH hS (lv_sub hl [] rfl)
def F_X8_clear (n : Nat) (i : Nat)  (C : St) : Option (Int32 × St) := st (up C 2 i 1 0 (0 : Int32)) (fun D1 => some (0, D1))
set_option maxHeartbeats 4000000 in
set_option maxRecDepth 100000 in
theorem c_X8_clear {l : Launch} {g : GP} {ed : Nat → Nat} {Z : St} {i : Nat} (hi : i < 8)  {C : St} {r : Int32} {C2 : St} (h : F_X8_clear (gn g) i  C = some (r, C2)) : Met l yX8_clear (Cond.code yX8_clear cX8_clear 1 none :: lwG) ({ frames := 0, cells := 0, slots := 0, locals := 0 } : Room) (va_Pc [.ref (gA g 2 i)] (PW g C Z ed)) (QG none g C2 Z) 0 0 (gP g) := by
  refine Met.ofW (cc := cX8_clear) (maxL := 1) (ret := none) (by decide +kernel) rfl ?_
  intro p e s m args below meth c s₁ B hml hv
  obtain ⟨ha, hC, hE, hr, hlk, hH⟩ := g_start B hv
  subst ha
  have hC : CX p s m ([.ref (gA g 2 i)] : List Value).toArray c cX8_clear RX8 g := hC
  have hS : va_S (gP g) s.heap s.heap [] := va_S.rf
  obtain ⟨ls, he, hl⟩ := g_entry m (vs := [.ref (gA g 2 i)]) (n := 1) (List.forall_mem_cons.mpr ⟨rfl, (fun _ h => absurd h List.not_mem_nil)⟩) (Nat.le_of_ble_eq_true rfl)
  rw [he]
  have hl : lv_has ls 1 [(0, .ref (gA g 2 i))] := hl
  unfold F_X8_clear at h
  refine lv_aload_n hC.1 hC.2.1 dX8_clear_0 rfl (lv_at hl 0 rfl) ?_
  refine lv_iconst (v := (0 : Int32)) hC.1 hC.2.1 dX8_clear_1 (by decide) ?_
  obtain ⟨D1, e2, h⟩ := st_some h
  refine pf_RX8_21 hC hH hS hi  rfl dX8_clear_2 (fun H locs hH hS => ?_)
  rw [← e2] at hH
  cases h
  exact gret_v hC hr hlk hH hS (Nat.le_of_ble_eq_true rfl) (Nat.le_of_ble_eq_true rfl) dX8_clear_5
