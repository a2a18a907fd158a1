def F_X0_freeOf_23 (n : Nat)  (t0 : Int32) (C : St) : Option (Int32 × St) := some (t0, C)
set_option maxHeartbeats 4000000 in
set_option maxRecDepth 100000 in
theorem B_X0_freeOf_23 {p : Program} {l : Launch} {e : Env} {s : State} {m : MethodId} {args : Array Value} {below : List Frame} {meth : Method} {c : Code} {g : GP} {Z : St} (hC : CX p s m args c cX0_freeOf RX0 g) (hE : EZ g s s.heap) (hml : c.maxLocals = 2) (hr : meth.sig.returnType = (some .int)) (hlk : meth.locks = false) {r : Int32} {C2 : St} {t0 : Int32} {C : St} (h : F_X0_freeOf_23 (gn g)  t0 C = some (r, C2)) {ed : Nat → Nat} {H : Heap} {locs : List Loc} {ls : Array Slot} (hH : HW g ed C Z H) (hS : va_S (gP g) s.heap H locs) (hl : lv_has ls 2 []) : W p l e ({ frames := 0, cells := 0, slots := 0, locals := 0 } : Room) s m args below meth c H locs 0 0 (MQ below (QG (some (.int r)) g C2 Z) args s 0 0 (gP g)) (F0 m 23 ls [.int t0]) := by
  unfold F_X0_freeOf_23 at h
  cases h
  exact gret_i hC hr hlk hH hS (Nat.le_of_ble_eq_true rfl) (Nat.le_of_ble_eq_true rfl) dX0_freeOf_23
def F_X0_freeOf_22 (n : Nat)   (C : St) : Option (Int32 × St) := F_X0_freeOf_23 n (0 : Int32) C
set_option maxHeartbeats 4000000 in
set_option maxRecDepth 100000 in
theorem B_X0_freeOf_22 {p : Program} {l : Launch} {e : Env} {s : State} {m : MethodId} {args : Array Value} {below : List Frame} {meth : Method} {c : Code} {g : GP} {Z : St} (hC : CX p s m args c cX0_freeOf RX0 g) (hE : EZ g s s.heap) (hml : c.maxLocals = 2) (hr : meth.sig.returnType = (some .int)) (hlk : meth.locks = false) {r : Int32} {C2 : St}  {C : St} (h : F_X0_freeOf_22 (gn g)   C = some (r, C2)) {ed : Nat → Nat} {H : Heap} {locs : List Loc} {ls : Array Slot} (hH : HW g ed C Z H) (hS : va_S (gP g) s.heap H locs) (hl : lv_has ls 2 []) : W p l e ({ frames := 0, cells := 0, slots := 0, locals := 0 } : Room) s m args below meth c H locs 0 0 (MQ below (QG (some (.int r)) g C2 Z) args s 0 0 (gP g)) (F0 m 22 ls []) := by
  unfold F_X0_freeOf_22 at h
  refine lv_iconst (v := (0 : Int32)) hC.1 hC.2.1 dX0_freeOf_22 (by decide) ?_
  exact B_X0_freeOf_23 hC hE hml hr hlk h hH hS (lv_sub hl [] rfl)
def F_X0_freeOf (n : Nat) (x1 : Int32) (C : St) : Option (Int32 × St) := if x1 < 0 then (F_X0_freeOf_22 n  C) else (if (3 : Int32) ≤ x1 then (F_X0_freeOf_22 n  C) else (gd (inb x1 3) (F_X0_freeOf_23 n (C 20 0 0 x1.toNatClampNeg) C)))
set_option maxHeartbeats 4000000 in
set_option maxRecDepth 100000 in
theorem c_X0_freeOf {l : Launch} {g : GP} {ed : Nat → Nat} {Z : St} {x1 : Int32} {C : St} {r : Int32} {C2 : St} (h : F_X0_freeOf (gn g) x1 C = some (r, C2)) : Met l yX0_freeOf (Cond.code yX0_freeOf cX0_freeOf 2 (some .int) :: lwG) ({ frames := 0, cells := 0, slots := 0, locals := 0 } : Room) (va_Pc [.ref (gA g 19 0), .int x1] (PW g C Z ed)) (QG (some (.int r)) g C2 Z) 0 0 (gP g) := by
  refine Met.ofW (cc := cX0_freeOf) (maxL := 2) (ret := (some .int)) (by decide +kernel) rfl ?_
  intro p e s m args below meth c s₁ B hml hv
  obtain ⟨ha, hC, hE, hr, hlk, hH⟩ := g_start B hv
  subst ha
  have hC : CX p s m ([.ref (gA g 19 0), .int x1] : List Value).toArray c cX0_freeOf RX0 g := hC
  have hS : va_S (gP g) s.heap s.heap [] := va_S.rf
  obtain ⟨ls, he, hl⟩ := g_entry m (vs := [.ref (gA g 19 0), .int x1]) (n := 2) (List.forall_mem_cons.mpr ⟨rfl, (List.forall_mem_cons.mpr ⟨rfl, (fun _ h => absurd h List.not_mem_nil)⟩)⟩) (Nat.le_of_ble_eq_true rfl)
  rw [he]
  have hl : lv_has ls 2 [(0, .ref (gA g 19 0)), (1, .int x1)] := hl
  unfold F_X0_freeOf at h
  refine lv_iload_n hC.1 hC.2.1 dX0_freeOf_0 rfl (lv_at hl 1 rfl) ?_
  refine lv_if_lt (tgt := 22) hC.1 hC.2.1 dX0_freeOf_1 (by decide) (fun hc1 => ?_) (fun hc1 => ?_)
  · rw [if_pos hc1] at h
    exact B_X0_freeOf_22 hC hE hml hr hlk h hH hS (lv_sub hl [] rfl)
  · rw [if_neg hc1] at h
    refine lv_iload_n hC.1 hC.2.1 dX0_freeOf_4 rfl (lv_at hl 1 rfl) ?_
    refine lv_aload_n hC.1 hC.2.1 dX0_freeOf_5 rfl (lv_at hl 0 rfl) ?_
    refine gf_RX0_9 hC hH rfl dX0_freeOf_6 ?_
    refine ln_20 hC hH rfl dX0_freeOf_9 ?_
    refine lv_icmp_ge (tgt := 22) hC.1 hC.2.1 dX0_freeOf_10 (by decide) (fun hc2 => ?_) (fun hc2 => ?_)
    · rw [if_pos hc2] at h
      exact B_X0_freeOf_22 hC hE hml hr hlk h hH hS (lv_sub hl [] rfl)
    · rw [if_neg hc2] at h
      refine lv_aload_n hC.1 hC.2.1 dX0_freeOf_13 rfl (lv_at hl 0 rfl) ?_
      refine gf_RX0_9 hC hH rfl dX0_freeOf_14 ?_
      refine lv_iload_n hC.1 hC.2.1 dX0_freeOf_17 rfl (lv_at hl 1 rfl) ?_
      obtain ⟨hg3, h⟩ := gd_some h
      refine al_20 hC hH hg3 rfl dX0_freeOf_18 ?_
      refine lv_goto (tgt := 23) hC.1 hC.2.1 dX0_freeOf_19 (by decide) ?_
      exact B_X0_freeOf_23 hC hE hml hr hlk h hH hS (lv_sub hl [] rfl)
def F_X0_admitted_37 (n : Nat) (k13 : Int32 → Int32 → Int32 → St → Option (Int32 × St)) (x1 : Int32) (x3 : Int32) (x4 : Int32) (C : St) : Option (Int32 × St) := k13 x1 x3 (x4 + 1) C
set_option maxHeartbeats 4000000 in
set_option maxRecDepth 100000 in
theorem B_X0_admitted_37 {p : Program} {l : Launch} {e : Env} {s : State} {m : MethodId} {args : Array Value} {below : List Frame} {meth : Method} {c : Code} {g : GP} {Z : St} (hC : CX p s m args c cX0_admitted RX0 g) (hE : EZ g s s.heap) (hml : c.maxLocals = 6) (hr : meth.sig.returnType = (some .int)) (hlk : meth.locks = false) {r : Int32} {C2 : St} {k13 : Int32 → Int32 → Int32 → St → Option (Int32 × St)} (hk13 : ∀ (x1 : Int32) (x3 : Int32) (x4 : Int32) (C : St), k13 x1 x3 x4 C = some (r, C2) → ∀ (ed : Nat → Nat) (H : Heap) (locs : List Loc) (ls : Array Slot), HW g ed C Z H → va_S (gP g) s.heap H locs → lv_has ls 6 [(1, .int x1), (2, .ref (gA g 11 0)), (3, .int x3), (4, .int x4)] → W p l e ({ frames := 0, cells := 0, slots := 0, locals := 0 } : Room) s m args below meth c H locs 0 0 (MQ below (QG (some (.int r)) g C2 Z) args s 0 0 (gP g)) (F0 m 13 ls [])) {x1 : Int32} {x3 : Int32} {x4 : Int32} {C : St} (h : F_X0_admitted_37 (gn g) k13 x1 x3 x4 C = some (r, C2)) {ed : Nat → Nat} {H : Heap} {locs : List Loc} {ls : Array Slot} (hH : HW g ed C Z H) (hS : va_S (gP g) s.heap H locs) (hl : lv_has ls 6 [(1, .int x1), (2, .ref (gA g 11 0)), (3, .int x3), (4, .int x4)]) : W p l e ({ frames := 0, cells := 0, slots := 0, locals := 0 } : Room) s m args below meth c H locs 0 0 (MQ below (QG (some (.int r)) g C2 Z) args s 0 0 (gP g)) (F0 m 37 ls []) := by
  unfold F_X0_admitted_37 at h
  refine lv_iinc (v := x4 + 1) (lv' := [(4, .int (x4 + 1)), (1, .int x1), (2, .ref (gA g 11 0)), (3, .int x3)]) hC.1 hC.2.1 dX0_admitted_37 hl (k := 3) rfl rfl (by decide) rfl (fun ls hl => ?_)
  refine lv_goto (tgt := 13) hC.1 hC.2.1 dX0_admitted_40 (by decide) ?_
  exact hk13 _ _ _ _ h _ _ _ _ hH hS (lv_sub hl [1, 2, 3, 0] rfl)
def F_X0_admitted_13 (n : Nat)  : Nat → Int32 → Int32 → Int32 → St → Option (Int32 × St)
  | 0, _, _, _, _ => none
  | fu + 1, x1, x3, x4, C => if x3 ≤ x4 then (some (x1, C)) else (gd (inb x4 6) (if (C 6 x4.toNatClampNeg 7 0) = (2 : Int32) then (F_X0_admitted_37 n (F_X0_admitted_13 n fu) (x1 + 1) x3 x4 C) else (F_X0_admitted_37 n (F_X0_admitted_13 n fu) x1 x3 x4 C)))
set_option maxHeartbeats 4000000 in
set_option maxRecDepth 100000 in
theorem B_X0_admitted_13 {p : Program} {l : Launch} {e : Env} {s : State} {m : MethodId} {args : Array Value} {below : List Frame} {meth : Method} {c : Code} {g : GP} {Z : St} (hC : CX p s m args c cX0_admitted RX0 g) (hE : EZ g s s.heap) (hml : c.maxLocals = 6) (hr : meth.sig.returnType = (some .int)) (hlk : meth.locks = false) {r : Int32} {C2 : St} : ∀ (fu : Nat) (x1 : Int32) (x3 : Int32) (x4 : Int32) (C : St), F_X0_admitted_13 (gn g)  fu x1 x3 x4 C = some (r, C2) → ∀ (ed : Nat → Nat) (H : Heap) (locs : List Loc) (ls : Array Slot), HW g ed C Z H → va_S (gP g) s.heap H locs → lv_has ls 6 [(1, .int x1), (2, .ref (gA g 11 0)), (3, .int x3), (4, .int x4)] → W p l e ({ frames := 0, cells := 0, slots := 0, locals := 0 } : Room) s m args below meth c H locs 0 0 (MQ below (QG (some (.int r)) g C2 Z) args s 0 0 (gP g)) (F0 m 13 ls []) := by
  intro fu
  induction fu with
  | zero =>
    intro x1 x3 x4 C h
    cases h
  | succ fu ih =>
    intro x1 x3 x4 C h ed H locs ls hH hS hl
    rw [F_X0_admitted_13] at h
    refine lv_iload hC.1 hC.2.1 dX0_admitted_13 (lv_at hl 3 rfl) ?_
    refine lv_iload_n hC.1 hC.2.1 dX0_admitted_15 rfl (lv_at hl 2 rfl) ?_
    refine lv_icmp_ge (tgt := 43) hC.1 hC.2.1 dX0_admitted_16 (by decide) (fun hc1 => ?_) (fun hc1 => ?_)
    · rw [if_pos hc1] at h
      refine lv_iload_n hC.1 hC.2.1 dX0_admitted_43 rfl (lv_at hl 0 rfl) ?_
      cases h
      exact gret_i hC hr hlk hH hS (Nat.le_of_ble_eq_true rfl) (Nat.le_of_ble_eq_true rfl) dX0_admitted_44
    · rw [if_neg hc1] at h
      refine lv_aload_n hC.1 hC.2.1 dX0_admitted_19 rfl (lv_at hl 1 rfl) ?_
      refine lv_iload hC.1 hC.2.1 dX0_admitted_20 (lv_at hl 3 rfl) ?_
      obtain ⟨hg2, h⟩ := gd_some h
      refine aa_11 hC hH hg2 rfl dX0_admitted_22 ?_
      refine gl_astore (lv' := [(5, rfv (gA g) 6 x4), (1, .int x1), (2, .ref (gA g 11 0)), (3, .int x3), (4, .int x4)]) hC dX0_admitted_23 hl (by decide) rfl (fun ls hl => ?_)
      refine gl_aload hC dX0_admitted_25 (lv_at hl 0 rfl) ?_
      refine gf_RX0_45 hC hH (inb_lt hg2) (rfv_in hg2) dX0_admitted_27 ?_
      refine lv_iconst (v := (2 : Int32)) hC.1 hC.2.1 dX0_admitted_30 (by decide) ?_
      refine lv_icmp_ne (tgt := 37) hC.1 hC.2.1 dX0_admitted_31 (by decide) (fun hc3 => ?_) (fun hc3 => ?_)
      · rw [if_neg hc3] at h
        exact B_X0_admitted_37 hC hE hml hr hlk ih h hH hS (lv_sub hl [1, 2, 3, 4] rfl)
      · rw [if_pos hc3] at h
        refine lv_iinc (v := x1 + 1) (lv' := [(1, .int (x1 + 1)), (5, rfv (gA g) 6 x4), (2, .ref (gA g 11 0)), (3, .int x3), (4, .int x4)]) hC.1 hC.2.1 dX0_admitted_34 hl (k := 1) rfl rfl (by decide) rfl (fun ls hl => ?_)
        exact B_X0_admitted_37 hC hE hml hr hlk ih h hH hS (lv_sub hl [0, 2, 3, 4] rfl)
def F_X0_admitted (n : Nat)  (C : St) : Option (Int32 × St) := F_X0_admitted_13 n 1000 (0 : Int32) (6 : Int32) (0 : Int32) C
set_option maxHeartbeats 4000000 in
set_option maxRecDepth 100000 in
theorem c_X0_admitted {l : Launch} {g : GP} {ed : Nat → Nat} {Z : St}  {C : St} {r : Int32} {C2 : St} (h : F_X0_admitted (gn g)  C = some (r, C2)) : Met l yX0_admitted (Cond.code yX0_admitted cX0_admitted 6 (some .int) :: lwG) ({ frames := 0, cells := 0, slots := 0, locals := 0 } : Room) (va_Pc [.ref (gA g 19 0)] (PW g C Z ed)) (QG (some (.int r)) g C2 Z) 0 0 (gP g) := by
  refine Met.ofW (cc := cX0_admitted) (maxL := 6) (ret := (some .int)) (by decide +kernel) rfl ?_
  intro p e s m args below meth c s₁ B hml hv
  obtain ⟨ha, hC, hE, hr, hlk, hH⟩ := g_start B hv
  subst ha
  have hC : CX p s m ([.ref (gA g 19 0)] : List Value).toArray c cX0_admitted RX0 g := hC
  have hS : va_S (gP g) s.heap s.heap [] := va_S.rf
  obtain ⟨ls, he, hl⟩ := g_entry m (vs := [.ref (gA g 19 0)]) (n := 6) (List.forall_mem_cons.mpr ⟨rfl, (fun _ h => absurd h List.not_mem_nil)⟩) (Nat.le_of_ble_eq_true rfl)
  rw [he]
  have hl : lv_has ls 6 [(0, .ref (gA g 19 0))] := hl
  unfold F_X0_admitted at h
  refine lv_iconst (v := (0 : Int32)) hC.1 hC.2.1 dX0_admitted_0 (by decide) ?_
  refine lv_istore_n (i := 1) (lv' := [(1, .int (0 : Int32)), (0, .ref (gA g 19 0))]) hC.1 hC.2.1 dX0_admitted_1 rfl hl (by decide) rfl (fun ls hl => ?_)
  refine lv_aload_n hC.1 hC.2.1 dX0_admitted_2 rfl (lv_at hl 1 rfl) ?_
  refine gf_RX0_37 hC hH rfl dX0_admitted_3 ?_
  refine lv_astore_n (i := 2) (lv' := [(2, .ref (gA g 11 0)), (1, .int (0 : Int32)), (0, .ref (gA g 19 0))]) hC.1 hC.2.1 dX0_admitted_6 rfl hl (by decide) rfl (fun ls hl => ?_)
  refine lv_aload_n hC.1 hC.2.1 dX0_admitted_7 rfl (lv_at hl 0 rfl) ?_
  refine ln_11 hC hH rfl dX0_admitted_8 ?_
  refine lv_istore_n (i := 3) (lv' := [(3, .int (6 : Int32)), (2, .ref (gA g 11 0)), (1, .int (0 : Int32)), (0, .ref (gA g 19 0))]) hC.1 hC.2.1 dX0_admitted_9 rfl hl (by decide) rfl (fun ls hl => ?_)
  refine lv_iconst (v := (0 : Int32)) hC.1 hC.2.1 dX0_admitted_10 (by decide) ?_
  refine lv_istore (lv' := [(4, .int (0 : Int32)), (3, .int (6 : Int32)), (2, .ref (gA g 11 0)), (1, .int (0 : Int32)), (0, .ref (gA g 19 0))]) hC.1 hC.2.1 dX0_admitted_11 hl (by decide) rfl (fun ls hl => ?_)
  exact B_X0_admitted_13 hC hE hml hr hlk 1000 _ _ _ _ h _ _ _ _ hH hS (lv_sub hl [3, 2, 1, 0] rfl)
def F_X0_holderOfPrinter_41 (n : Nat) (k10 : Int32 → Int32 → St → Option (Int32 × St)) (x2 : Int32) (x3 : Int32) (C : St) : Option (Int32 × St) := k10 x2 (x3 + 1) C
set_option maxHeartbeats 4000000 in
set_option maxRecDepth 100000 in
theorem B_X0_holderOfPrinter_41 {p : Program} {l : Launch} {e : Env} {s : State} {m : MethodId} {args : Array Value} {below : List Frame} {meth : Method} {c : Code} {g : GP} {Z : St} (hC : CX p s m args c cX0_holderOfPrinter RX0 g) (hE : EZ g s s.heap) (hml : c.maxLocals = 5) (hr : meth.sig.returnType = (some (.object "DrumLayers$Job"))) (hlk : meth.locks = false) {r : Int32} {C2 : St} {k10 : Int32 → Int32 → St → Option (Int32 × St)} (hk10 : ∀ (x2 : Int32) (x3 : Int32) (C : St), k10 x2 x3 C = some (r, C2) → ∀ (ed : Nat → Nat) (H : Heap) (locs : List Loc) (ls : Array Slot), HW g ed C Z H → va_S (gP g) s.heap H locs → lv_has ls 5 [(1, .ref (gA g 11 0)), (2, .int x2), (3, .int x3)] → W p l e ({ frames := 1, cells := 0, slots := 0, locals := 21 } : Room) s m args below meth c H locs 0 0 (MQ below (QG (some (rfv (gA g) 6 r)) g C2 Z) args s 0 0 (gP g)) (F0 m 10 ls [])) {x2 : Int32} {x3 : Int32} {C : St} (h : F_X0_holderOfPrinter_41 (gn g) k10 x2 x3 C = some (r, C2)) {ed : Nat → Nat} {H : Heap} {locs : List Loc} {ls : Array Slot} (hH : HW g ed C Z H) (hS : va_S (gP g) s.heap H locs) (hl : lv_has ls 5 [(1, .ref (gA g 11 0)), (2, .int x2), (3, .int x3)]) : W p l e ({ frames := 1, cells := 0, slots := 0, locals := 21 } : Room) s m args below meth c H locs 0 0 (MQ below (QG (some (rfv (gA g) 6 r)) g C2 Z) args s 0 0 (gP g)) (F0 m 41 ls []) := by
  unfold F_X0_holderOfPrinter_41 at h
  refine lv_iinc (v := x3 + 1) (lv' := [(3, .int (x3 + 1)), (1, .ref (gA g 11 0)), (2, .int x2)]) hC.1 hC.2.1 dX0_holderOfPrinter_41 hl (k := 2) rfl rfl (by decide) rfl (fun ls hl => ?_)
  refine lv_goto (tgt := 10) hC.1 hC.2.1 dX0_holderOfPrinter_44 (by decide) ?_
  exact hk10 _ _ _ h _ _ _ _ hH hS (lv_sub hl [1, 2, 0] rfl)
def F_X0_holderOfPrinter_10 (n : Nat)  : Nat → Int32 → Int32 → St → Option (Int32 × St)
  | 0, _, _, _ => none
  | fu + 1, x2, x3, C => if x2 ≤ x3 then (some ((-1), C)) else (gd (inb x3 6) (if (C 6 x3.toNatClampNeg 7 0) = (2 : Int32) then (bd2 (F_X5_held n x3 (1 : Int32) C) (fun r4 D5 => if r4 ≤ 0 then (F_X0_holderOfPrinter_41 n (F_X0_holderOfPrinter_10 n fu) x2 x3 D5) else (some (x3, D5)))) else (F_X0_holderOfPrinter_41 n (F_X0_holderOfPrinter_10 n fu) x2 x3 C)))
set_option maxHeartbeats 4000000 in
set_option maxRecDepth 100000 in
theorem B_X0_holderOfPrinter_10 {p : Program} {l : Launch} {e : Env} {s : State} {m : MethodId} {args : Array Value} {below : List Frame} {meth : Method} {c : Code} {g : GP} {Z : St} (hC : CX p s m args c cX0_holderOfPrinter RX0 g) (hE : EZ g s s.heap) (hml : c.maxLocals = 5) (hr : meth.sig.returnType = (some (.object "DrumLayers$Job"))) (hlk : meth.locks = false) {r : Int32} {C2 : St} : ∀ (fu : Nat) (x2 : Int32) (x3 : Int32) (C : St), F_X0_holderOfPrinter_10 (gn g)  fu x2 x3 C = some (r, C2) → ∀ (ed : Nat → Nat) (H : Heap) (locs : List Loc) (ls : Array Slot), HW g ed C Z H → va_S (gP g) s.heap H locs → lv_has ls 5 [(1, .ref (gA g 11 0)), (2, .int x2), (3, .int x3)] → W p l e ({ frames := 1, cells := 0, slots := 0, locals := 21 } : Room) s m args below meth c H locs 0 0 (MQ below (QG (some (rfv (gA g) 6 r)) g C2 Z) args s 0 0 (gP g)) (F0 m 10 ls []) := by
  intro fu
  induction fu with
  | zero =>
    intro x2 x3 C h
    cases h
  | succ fu ih =>
    intro x2 x3 C h ed H locs ls hH hS hl
    rw [F_X0_holderOfPrinter_10] at h
    refine lv_iload_n hC.1 hC.2.1 dX0_holderOfPrinter_10 rfl (lv_at hl 2 rfl) ?_
    refine lv_iload_n hC.1 hC.2.1 dX0_holderOfPrinter_11 rfl (lv_at hl 1 rfl) ?_
    refine lv_icmp_ge (tgt := 47) hC.1 hC.2.1 dX0_holderOfPrinter_12 (by decide) (fun hc1 => ?_) (fun hc1 => ?_)
    · rw [if_pos hc1] at h
      refine lv_null hC.1 hC.2.1 dX0_holderOfPrinter_47 ?_
      cases h
      refine W.eq (g2 := F0 m 48 ls [rfv (gA g) 6 (-1)]) (by simp only [rfv_m1]) ?_
      exact gret_a hC hr hlk hH hS (Nat.le_of_ble_eq_true rfl) (Nat.le_of_ble_eq_true rfl) dX0_holderOfPrinter_48
    · rw [if_neg hc1] at h
      refine lv_aload_n hC.1 hC.2.1 dX0_holderOfPrinter_15 rfl (lv_at hl 0 rfl) ?_
      refine lv_iload_n hC.1 hC.2.1 dX0_holderOfPrinter_16 rfl (lv_at hl 2 rfl) ?_
      obtain ⟨hg2, h⟩ := gd_some h
      refine aa_11 hC hH hg2 rfl dX0_holderOfPrinter_17 ?_
      refine gl_astore (lv' := [(4, rfv (gA g) 6 x3), (1, .ref (gA g 11 0)), (2, .int x2), (3, .int x3)]) hC dX0_holderOfPrinter_18 hl (by decide) rfl (fun ls hl => ?_)
      refine gl_aload hC dX0_holderOfPrinter_20 (lv_at hl 0 rfl) ?_
      refine gf_RX0_45 hC hH (inb_lt hg2) (rfv_in hg2) dX0_holderOfPrinter_22 ?_
      refine lv_iconst (v := (2 : Int32)) hC.1 hC.2.1 dX0_holderOfPrinter_25 (by decide) ?_
      refine lv_icmp_ne (tgt := 41) hC.1 hC.2.1 dX0_holderOfPrinter_26 (by decide) (fun hc3 => ?_) (fun hc3 => ?_)
      · rw [if_neg hc3] at h
        exact B_X0_holderOfPrinter_41 hC hE hml hr hlk ih h hH hS (lv_sub hl [1, 2, 3] rfl)
      · rw [if_pos hc3] at h
        refine gl_aload hC dX0_holderOfPrinter_29 (lv_at hl 0 rfl) ?_
        refine lv_iconst (v := (1 : Int32)) hC.1 hC.2.1 dX0_holderOfPrinter_31 (by decide) ?_
        obtain ⟨r4, D5, hF6, h⟩ := bd2_some h
        refine gcallV (As := [.int (1 : Int32)]) (rest := []) (Cn := RX5) hC hE hml hH hS (c_X5_held hF6) ⟨wd_647, wd_648, wd_649, wd_5, wd_650⟩ hd_X5_held rfl rfl ⟨Nat.le_of_ble_eq_true rfl, Nat.le_of_ble_eq_true rfl⟩ (rfv_in hg2) (hw_recv (q := 6) (i := x3.toNatClampNeg) hC hH ⟨(inb_lt hg2), fun h => absurd h (by decide)⟩ rfl rfl) rfl hl.1 rfl (Nat.le_of_ble_eq_true rfl) dX0_holderOfPrinter_32 ⟨Nat.le_of_ble_eq_true rfl, Nat.le_of_ble_eq_true rfl⟩ (fun ed H locs hH hS => ?_)
        refine W.eq (g2 := F0 m 35 ls [.int r4]) rfl ?_
        refine lv_if_le (tgt := 41) hC.1 hC.2.1 dX0_holderOfPrinter_35 (by decide) (fun hc7 => ?_) (fun hc7 => ?_)
        · rw [if_pos hc7] at h
          exact B_X0_holderOfPrinter_41 hC hE hml hr hlk ih h hH hS (lv_sub hl [1, 2, 3] rfl)
        · rw [if_neg hc7] at h
          refine gl_aload hC dX0_holderOfPrinter_38 (lv_at hl 0 rfl) ?_
          cases h
          exact gret_a hC hr hlk hH hS (Nat.le_of_ble_eq_true rfl) (Nat.le_of_ble_eq_true rfl) dX0_holderOfPrinter_40
def F_X0_holderOfPrinter (n : Nat)  (C : St) : Option (Int32 × St) := F_X0_holderOfPrinter_10 n 1000 (6 : Int32) (0 : Int32) C
set_option maxHeartbeats 4000000 in
set_option maxRecDepth 100000 in
theorem c_X0_holderOfPrinter {l : Launch} {g : GP} {ed : Nat → Nat} {Z : St}  {C : St} {r : Int32} {C2 : St} (h : F_X0_holderOfPrinter (gn g)  C = some (r, C2)) : Met l yX0_holderOfPrinter (Cond.code yX0_holderOfPrinter cX0_holderOfPrinter 5 (some (.object "DrumLayers$Job")) :: lwG) ({ frames := 1, cells := 0, slots := 0, locals := 21 } : Room) (va_Pc [.ref (gA g 19 0)] (PW g C Z ed)) (QG (some (rfv (gA g) 6 r)) g C2 Z) 0 0 (gP g) := by
  refine Met.ofW (cc := cX0_holderOfPrinter) (maxL := 5) (ret := (some (.object "DrumLayers$Job"))) (by decide +kernel) rfl ?_
  intro p e s m args below meth c s₁ B hml hv
  obtain ⟨ha, hC, hE, hr, hlk, hH⟩ := g_start B hv
  subst ha
  have hC : CX p s m ([.ref (gA g 19 0)] : List Value).toArray c cX0_holderOfPrinter RX0 g := hC
  have hS : va_S (gP g) s.heap s.heap [] := va_S.rf
  obtain ⟨ls, he, hl⟩ := g_entry m (vs := [.ref (gA g 19 0)]) (n := 5) (List.forall_mem_cons.mpr ⟨rfl, (fun _ h => absurd h List.not_mem_nil)⟩) (Nat.le_of_ble_eq_true rfl)
  rw [he]
  have hl : lv_has ls 5 [(0, .ref (gA g 19 0))] := hl
  unfold F_X0_holderOfPrinter at h
  refine lv_aload_n hC.1 hC.2.1 dX0_holderOfPrinter_0 rfl (lv_at hl 0 rfl) ?_
  refine gf_RX0_37 hC hH rfl dX0_holderOfPrinter_1 ?_
  refine lv_astore_n (i := 1) (lv' := [(1, .ref (gA g 11 0)), (0, .ref (gA g 19 0))]) hC.1 hC.2.1 dX0_holderOfPrinter_4 rfl hl (by decide) rfl (fun ls hl => ?_)
  refine lv_aload_n hC.1 hC.2.1 dX0_holderOfPrinter_5 rfl (lv_at hl 0 rfl) ?_
  refine ln_11 hC hH rfl dX0_holderOfPrinter_6 ?_
  refine lv_istore_n (i := 2) (lv' := [(2, .int (6 : Int32)), (1, .ref (gA g 11 0)), (0, .ref (gA g 19 0))]) hC.1 hC.2.1 dX0_holderOfPrinter_7 rfl hl (by decide) rfl (fun ls hl => ?_)
  refine lv_iconst (v := (0 : Int32)) hC.1 hC.2.1 dX0_holderOfPrinter_8 (by decide) ?_
  refine lv_istore_n (i := 3) (lv' := [(3, .int (0 : Int32)), (2, .int (6 : Int32)), (1, .ref (gA g 11 0)), (0, .ref (gA g 19 0))]) hC.1 hC.2.1 dX0_holderOfPrinter_9 rfl hl (by decide) rfl (fun ls hl => ?_)
  exact B_X0_holderOfPrinter_10 hC hE hml hr hlk 1000 _ _ _ h _ _ _ _ hH hS (lv_sub hl [2, 1, 0] rfl)
def F_X0_move_42 (n : Nat)   (C : St) : Option (Int32 × St) := some (0, C)
set_option maxHeartbeats 4000000 in
set_option maxRecDepth 100000 in
theorem B_X0_move_42 {p : Program} {l : Launch} {e : Env} {s : State} {m : MethodId} {args : Array Value} {below : List Frame} {meth : Method} {c : Code} {g : GP} {Z : St} (hC : CX p s m args c cX0_move RX0 g) (hE : EZ g s s.heap) (hml : c.maxLocals = 4) (hr : meth.sig.returnType = none) (hlk : meth.locks = false) {r : Int32} {C2 : St}  {C : St} (h : F_X0_move_42 (gn g)   C = some (r, C2)) {ed : Nat → Nat} {H : Heap} {locs : List Loc} {ls : Array Slot} (hH : HW g ed C Z H) (hS : va_S (gP g) s.heap H locs) (hl : lv_has ls 4 []) : W p l e ({ frames := 0, cells := 0, slots := 0, locals := 0 } : Room) s m args below meth c H locs 0 0 (MQ below (QG none g C2 Z) args s 0 0 (gP g)) (F0 m 42 ls []) := by
  unfold F_X0_move_42 at h
  cases h
  exact gret_v hC hr hlk hH hS (Nat.le_of_ble_eq_true rfl) (Nat.le_of_ble_eq_true rfl) dX0_move_42
def F_X0_move (n : Nat) (x1 : Int32) (x2 : Int32) (x3 : Int32) (C : St) : Option (Int32 × St) := if x2 < 0 then (F_X0_move_42 n  C) else (if (3 : Int32) ≤ x2 then (F_X0_move_42 n  C) else (gd (inb x1 6) (if (3 : Int32) ≤ x2 then (F_X0_move_42 n  C) else (gd (inb x2 3) (st (up C 20 0 0 x2.toNatClampNeg ((C 20 0 0 x2.toNatClampNeg) - x3)) (fun D6 => st (up D6 10 x1.toNatClampNeg 0 x2.toNatClampNeg ((D6 10 x1.toNatClampNeg 0 x2.toNatClampNeg) + x3)) (fun D8 => F_X0_move_42 n  D8)))))))
set_option maxHeartbeats 4000000 in
set_option maxRecDepth 100000 in
theorem c_X0_move {l : Launch} {g : GP} {ed : Nat → Nat} {Z : St} {x1 : Int32} {x2 : Int32} {x3 : Int32} {C : St} {r : Int32} {C2 : St} (h : F_X0_move (gn g) x1 x2 x3 C = some (r, C2)) : Met l yX0_move (Cond.code yX0_move cX0_move 4 none :: lwG) ({ frames := 0, cells := 0, slots := 0, locals := 0 } : Room) (va_Pc [.ref (gA g 19 0), rfv (gA g) 6 x1, .int x2, .int x3] (PW g C Z ed)) (QG none g C2 Z) 0 0 (gP g) := by
  refine Met.ofW (cc := cX0_move) (maxL := 4) (ret := none) (by decide +kernel) rfl ?_
  intro p e s m args below meth c s₁ B hml hv
  obtain ⟨ha, hC, hE, hr, hlk, hH⟩ := g_start B hv
  subst ha
  have hC : CX p s m ([.ref (gA g 19 0), rfv (gA g) 6 x1, .int x2, .int x3] : List Value).toArray c cX0_move RX0 g := hC
  have hS : va_S (gP g) s.heap s.heap [] := va_S.rf
  obtain ⟨ls, he, hl⟩ := g_entry m (vs := [.ref (gA g 19 0), rfv (gA g) 6 x1, .int x2, .int x3]) (n := 4) (List.forall_mem_cons.mpr ⟨rfl, (List.forall_mem_cons.mpr ⟨rfv_cat, (List.forall_mem_cons.mpr ⟨rfl, (List.forall_mem_cons.mpr ⟨rfl, (fun _ h => absurd h List.not_mem_nil)⟩)⟩)⟩)⟩) (Nat.le_of_ble_eq_true rfl)
  rw [he]
  have hl : lv_has ls 4 [(0, .ref (gA g 19 0)), (1, rfv (gA g) 6 x1), (2, .int x2), (3, .int x3)] := hl
  unfold F_X0_move at h
  refine lv_iload_n hC.1 hC.2.1 dX0_move_0 rfl (lv_at hl 2 rfl) ?_
  refine lv_if_lt (tgt := 42) hC.1 hC.2.1 dX0_move_1 (by decide) (fun hc1 => ?_) (fun hc1 => ?_)
  · rw [if_pos hc1] at h
    exact B_X0_move_42 hC hE hml hr hlk h hH hS (lv_sub hl [] rfl)
  · rw [if_neg hc1] at h
    refine lv_iload_n hC.1 hC.2.1 dX0_move_4 rfl (lv_at hl 2 rfl) ?_
    refine lv_aload_n hC.1 hC.2.1 dX0_move_5 rfl (lv_at hl 0 rfl) ?_
    refine gf_RX0_9 hC hH rfl dX0_move_6 ?_
    refine ln_20 hC hH rfl dX0_move_9 ?_
    refine lv_icmp_ge (tgt := 42) hC.1 hC.2.1 dX0_move_10 (by decide) (fun hc2 => ?_) (fun hc2 => ?_)
    · rw [if_pos hc2] at h
      exact B_X0_move_42 hC hE hml hr hlk h hH hS (lv_sub hl [] rfl)
    · rw [if_neg hc2] at h
      refine lv_iload_n hC.1 hC.2.1 dX0_move_13 rfl (lv_at hl 2 rfl) ?_
      refine gl_aload_n hC dX0_move_14 rfl (lv_at hl 1 rfl) ?_
      obtain ⟨hg3, h⟩ := gd_some h
      refine gf_RX0_122 hC hH (inb_lt hg3) (rfv_in hg3) dX0_move_15 ?_
      refine ln_10 hC hH (inb_lt hg3) rfl dX0_move_18 ?_
      refine lv_icmp_ge (tgt := 42) hC.1 hC.2.1 dX0_move_19 (by decide) (fun hc4 => ?_) (fun hc4 => ?_)
      · rw [if_pos hc4] at h
        exact B_X0_move_42 hC hE hml hr hlk h hH hS (lv_sub hl [] rfl)
      · rw [if_neg hc4] at h
        refine lv_aload_n hC.1 hC.2.1 dX0_move_22 rfl (lv_at hl 0 rfl) ?_
        refine gf_RX0_9 hC hH rfl dX0_move_23 ?_
        refine lv_iload_n hC.1 hC.2.1 dX0_move_26 rfl (lv_at hl 2 rfl) ?_
        refine lv_dup2_11 hC.1 hC.2.1 dX0_move_27 rfl rfl ?_
        obtain ⟨hg5, h⟩ := gd_some h
        refine al_20 hC hH hg5 rfl dX0_move_28 ?_
        refine lv_iload_n hC.1 hC.2.1 dX0_move_29 rfl (lv_at hl 3 rfl) ?_
        refine lv_isub hC.1 hC.2.1 dX0_move_30 ?_
        obtain ⟨D6, e7, h⟩ := st_some h
        refine as_20 hC hH hS hg5 rfl dX0_move_31 (fun H locs hH hS => ?_)
        rw [← e7] at hH
        refine gl_aload_n hC dX0_move_32 rfl (lv_at hl 1 rfl) ?_
        refine gf_RX0_122 hC hH (inb_lt hg3) (rfv_in hg3) dX0_move_33 ?_
        refine lv_iload_n hC.1 hC.2.1 dX0_move_36 rfl (lv_at hl 2 rfl) ?_
        refine lv_dup2_11 hC.1 hC.2.1 dX0_move_37 rfl rfl ?_
        refine al_10 hC hH (inb_lt hg3) hg5 rfl dX0_move_38 ?_
        refine lv_iload_n hC.1 hC.2.1 dX0_move_39 rfl (lv_at hl 3 rfl) ?_
        refine lv_iadd hC.1 hC.2.1 dX0_move_40 ?_
        obtain ⟨D8, e9, h⟩ := st_some h
        refine as_10 hC hH hS (inb_lt hg3) hg5 rfl dX0_move_41 (fun H locs hH hS => ?_)
        rw [← e9] at hH
        exact B_X0_move_42 hC hE hml hr hlk h hH hS (lv_sub hl [] rfl)
def F_X0_hasRoomFor_2 (n : Nat)  : Nat → Int32 → Int32 → St → Option (Int32 × St)
  | 0, _, _, _ => none
  | fu + 1, x1, x2, C => if (3 : Int32) ≤ x2 then (some ((1 : Int32), C)) else (gd (inb x1 6) (gd (inb x2 3) (if ((C 9 x1.toNatClampNeg 0 x2.toNatClampNeg) - (C 10 x1.toNatClampNeg 0 x2.toNatClampNeg)) ≤ (C 21 0 0 x2.toNatClampNeg) then (F_X0_hasRoomFor_2 n fu x1 (x2 + 1) C) else (some ((0 : Int32), C)))))
set_option maxHeartbeats 4000000 in
set_option maxRecDepth 100000 in
theorem B_X0_hasRoomFor_2 {p : Program} {l : Launch} {e : Env} {s : State} {m : MethodId} {args : Array Value} {below : List Frame} {meth : Method} {c : Code} {g : GP} {Z : St} (hC : CX p s m args c cX0_hasRoomFor RX0 g) (hE : EZ g s s.heap) (hml : c.maxLocals = 3) (hr : meth.sig.returnType = (some .boolean)) (hlk : meth.locks = false) {r : Int32} {C2 : St} : ∀ (fu : Nat) (x1 : Int32) (x2 : Int32) (C : St), F_X0_hasRoomFor_2 (gn g)  fu x1 x2 C = some (r, C2) → ∀ (ed : Nat → Nat) (H : Heap) (locs : List Loc) (ls : Array Slot), HW g ed C Z H → va_S (gP g) s.heap H locs → lv_has ls 3 [(0, .ref (gA g 19 0)), (1, rfv (gA g) 6 x1), (2, .int x2)] → W p l e ({ frames := 0, cells := 0, slots := 0, locals := 0 } : Room) s m args below meth c H locs 0 0 (MQ below (QG (some (.int r)) g C2 Z) args s 0 0 (gP g)) (F0 m 2 ls []) := by
  intro fu
  induction fu with
  | zero =>
    intro x1 x2 C h
    cases h
  | succ fu ih =>
    intro x1 x2 C h ed H locs ls hH hS hl
    rw [F_X0_hasRoomFor_2] at h
    refine lv_iload_n hC.1 hC.2.1 dX0_hasRoomFor_2 rfl (lv_at hl 2 rfl) ?_
    refine lv_iconst (v := (3 : Int32)) hC.1 hC.2.1 dX0_hasRoomFor_3 (by decide) ?_
    refine lv_icmp_ge (tgt := 37) hC.1 hC.2.1 dX0_hasRoomFor_4 (by decide) (fun hc1 => ?_) (fun hc1 => ?_)
    · rw [if_pos hc1] at h
      refine lv_iconst (v := (1 : Int32)) hC.1 hC.2.1 dX0_hasRoomFor_37 (by decide) ?_
      cases h
      exact gret_z hC hr hlk (by decide) hH hS (Nat.le_of_ble_eq_true rfl) (Nat.le_of_ble_eq_true rfl) dX0_hasRoomFor_38
    · rw [if_neg hc1] at h
      refine gl_aload_n hC dX0_hasRoomFor_7 rfl (lv_at hl 1 rfl) ?_
      obtain ⟨hg2, h⟩ := gd_some h
      refine gf_RX0_133 hC hH (inb_lt hg2) (rfv_in hg2) dX0_hasRoomFor_8 ?_
      refine lv_iload_n hC.1 hC.2.1 dX0_hasRoomFor_11 rfl (lv_at hl 2 rfl) ?_
      obtain ⟨hg3, h⟩ := gd_some h
      refine al_9 hC hH (inb_lt hg2) hg3 rfl dX0_hasRoomFor_12 ?_
      refine gl_aload_n hC dX0_hasRoomFor_13 rfl (lv_at hl 1 rfl) ?_
      refine gf_RX0_122 hC hH (inb_lt hg2) (rfv_in hg2) dX0_hasRoomFor_14 ?_
      refine lv_iload_n hC.1 hC.2.1 dX0_hasRoomFor_17 rfl (lv_at hl 2 rfl) ?_
      refine al_10 hC hH (inb_lt hg2) hg3 rfl dX0_hasRoomFor_18 ?_
      refine lv_isub hC.1 hC.2.1 dX0_hasRoomFor_19 ?_
      refine lv_aload_n hC.1 hC.2.1 dX0_hasRoomFor_20 rfl (lv_at hl 0 rfl) ?_
      refine gf_RX0_22 hC hH rfl dX0_hasRoomFor_21 ?_
      refine lv_iload_n hC.1 hC.2.1 dX0_hasRoomFor_24 rfl (lv_at hl 2 rfl) ?_
      refine al_21 hC hH hg3 rfl dX0_hasRoomFor_25 ?_
      refine lv_icmp_le (tgt := 31) hC.1 hC.2.1 dX0_hasRoomFor_26 (by decide) (fun hc4 => ?_) (fun hc4 => ?_)
      · rw [if_pos hc4] at h
        refine lv_iinc (v := x2 + 1) (lv' := [(2, .int (x2 + 1)), (0, .ref (gA g 19 0)), (1, rfv (gA g) 6 x1)]) hC.1 hC.2.1 dX0_hasRoomFor_31 hl (k := 2) rfl rfl (by decide) (by simp [rfv_cat]) (fun ls hl => ?_)
        refine lv_goto (tgt := 2) hC.1 hC.2.1 dX0_hasRoomFor_34 (by decide) ?_
        exact ih _ _ _ h _ _ _ _ hH hS (lv_sub hl [1, 2, 0] rfl)
      · rw [if_neg hc4] at h
        refine lv_iconst (v := (0 : Int32)) hC.1 hC.2.1 dX0_hasRoomFor_29 (by decide) ?_
        cases h
        exact gret_z hC hr hlk (by decide) hH hS (Nat.le_of_ble_eq_true rfl) (Nat.le_of_ble_eq_true rfl) dX0_hasRoomFor_30
def F_X0_hasRoomFor (n : Nat) (x1 : Int32) (C : St) : Option (Int32 × St) := F_X0_hasRoomFor_2 n 1000 x1 (0 : Int32) C
set_option maxHeartbeats 4000000 in
set_option maxRecDepth 100000 in
theorem c_X0_hasRoomFor {l : Launch} {g : GP} {ed : Nat → Nat} {Z : St} {x1 : Int32} {C : St} {r : Int32} {C2 : St} (h : F_X0_hasRoomFor (gn g) x1 C = some (r, C2)) : Met l yX0_hasRoomFor (Cond.code yX0_hasRoomFor cX0_hasRoomFor 3 (some .boolean) :: lwG) ({ frames := 0, cells := 0, slots := 0, locals := 0 } : Room) (va_Pc [.ref (gA g 19 0), rfv (gA g) 6 x1] (PW g C Z ed)) (QG (some (.int r)) g C2 Z) 0 0 (gP g) := by
  refine Met.ofW (cc := cX0_hasRoomFor) (maxL := 3) (ret := (some .boolean)) (by decide +kernel) rfl ?_
  intro p e s m args below meth c s₁ B hml hv
  obtain ⟨ha, hC, hE, hr, hlk, hH⟩ := g_start B hv
  subst ha
  have hC : CX p s m ([.ref (gA g 19 0), rfv (gA g) 6 x1] : List Value).toArray c cX0_hasRoomFor RX0 g := hC
  have hS : va_S (gP g) s.heap s.heap [] := va_S.rf
  obtain ⟨ls, he, hl⟩ := g_entry m (vs := [.ref (gA g 19 0), rfv (gA g) 6 x1]) (n := 3) (List.forall_mem_cons.mpr ⟨rfl, (List.forall_mem_cons.mpr ⟨rfv_cat, (fun _ h => absurd h List.not_mem_nil)⟩)⟩) (Nat.le_of_ble_eq_true rfl)
  rw [he]
  have hl : lv_has ls 3 [(0, .ref (gA g 19 0)), (1, rfv (gA g) 6 x1)] := hl
  unfold F_X0_hasRoomFor at h
  refine lv_iconst (v := (0 : Int32)) hC.1 hC.2.1 dX0_hasRoomFor_0 (by decide) ?_
  refine lv_istore_n (i := 2) (lv' := [(2, .int (0 : Int32)), (0, .ref (gA g 19 0)), (1, rfv (gA g) 6 x1)]) hC.1 hC.2.1 dX0_hasRoomFor_1 rfl hl (by decide) (by simp [rfv_cat]) (fun ls hl => ?_)
  exact B_X0_hasRoomFor_2 hC hE hml hr hlk 1000 _ _ _ h _ _ _ _ hH hS (lv_sub hl [1, 2, 0] rfl)
def F_X0_addToRoom_2 (n : Nat)  : Nat → Int32 → Int32 → St → Option (Int32 × St)
  | 0, _, _, _ => none
  | fu + 1, x1, x2, C => if (3 : Int32) ≤ x2 then (some (0, C)) else (gd (inb x2 3) (gd (inb x1 6) (st (up C 21 0 0 x2.toNatClampNeg ((C 21 0 0 x2.toNatClampNeg) + (C 10 x1.toNatClampNeg 0 x2.toNatClampNeg))) (fun D4 => F_X0_addToRoom_2 n fu x1 (x2 + 1) D4))))
set_option maxHeartbeats 4000000 in
set_option maxRecDepth 100000 in
theorem B_X0_addToRoom_2 {p : Program} {l : Launch} {e : Env} {s : State} {m : MethodId} {args : Array Value} {below : List Frame} {meth : Method} {c : Code} {g : GP} {Z : St} (hC : CX p s m args c cX0_addToRoom RX0 g) (hE : EZ g s s.heap) (hml : c.maxLocals = 3) (hr : meth.sig.returnType = none) (hlk : meth.locks = false) {r : Int32} {C2 : St} : ∀ (fu : Nat) (x1 : Int32) (x2 : Int32) (C : St), F_X0_addToRoom_2 (gn g)  fu x1 x2 C = some (r, C2) → ∀ (ed : Nat → Nat) (H : Heap) (locs : List Loc) (ls : Array Slot), HW g ed C Z H → va_S (gP g) s.heap H locs → lv_has ls 3 [(0, .ref (gA g 19 0)), (1, rfv (gA g) 6 x1), (2, .int x2)] → W p l e ({ frames := 0, cells := 0, slots := 0, locals := 0 } : Room) s m args below meth c H locs 0 0 (MQ below (QG none g C2 Z) args s 0 0 (gP g)) (F0 m 2 ls []) := by
  intro fu
  induction fu with
  | zero =>
    intro x1 x2 C h
    cases h
  | succ fu ih =>
    intro x1 x2 C h ed H locs ls hH hS hl
    rw [F_X0_addToRoom_2] at h
    refine lv_iload_n hC.1 hC.2.1 dX0_addToRoom_2 rfl (lv_at hl 2 rfl) ?_
    refine lv_iconst (v := (3 : Int32)) hC.1 hC.2.1 dX0_addToRoom_3 (by decide) ?_
    refine lv_icmp_ge (tgt := 28) hC.1 hC.2.1 dX0_addToRoom_4 (by decide) (fun hc1 => ?_) (fun hc1 => ?_)
    · rw [if_pos hc1] at h
      cases h
      exact gret_v hC hr hlk hH hS (Nat.le_of_ble_eq_true rfl) (Nat.le_of_ble_eq_true rfl) dX0_addToRoom_28
    · rw [if_neg hc1] at h
      refine lv_aload_n hC.1 hC.2.1 dX0_addToRoom_7 rfl (lv_at hl 0 rfl) ?_
      refine gf_RX0_22 hC hH rfl dX0_addToRoom_8 ?_
      refine lv_iload_n hC.1 hC.2.1 dX0_addToRoom_11 rfl (lv_at hl 2 rfl) ?_
      refine lv_dup2_11 hC.1 hC.2.1 dX0_addToRoom_12 rfl rfl ?_
      obtain ⟨hg2, h⟩ := gd_some h
      refine al_21 hC hH hg2 rfl dX0_addToRoom_13 ?_
      refine gl_aload_n hC dX0_addToRoom_14 rfl (lv_at hl 1 rfl) ?_
      obtain ⟨hg3, h⟩ := gd_some h
      refine gf_RX0_122 hC hH (inb_lt hg3) (rfv_in hg3) dX0_addToRoom_15 ?_
      refine lv_iload_n hC.1 hC.2.1 dX0_addToRoom_18 rfl (lv_at hl 2 rfl) ?_
      refine al_10 hC hH (inb_lt hg3) hg2 rfl dX0_addToRoom_19 ?_
      refine lv_iadd hC.1 hC.2.1 dX0_addToRoom_20 ?_
      obtain ⟨D4, e5, h⟩ := st_some h
      refine as_21 hC hH hS hg2 rfl dX0_addToRoom_21 (fun H locs hH hS => ?_)
      rw [← e5] at hH
      refine lv_iinc (v := x2 + 1) (lv' := [(2, .int (x2 + 1)), (0, .ref (gA g 19 0)), (1, rfv (gA g) 6 x1)]) hC.1 hC.2.1 dX0_addToRoom_22 hl (k := 2) rfl rfl (by decide) (by simp [rfv_cat]) (fun ls hl => ?_)
      refine lv_goto (tgt := 2) hC.1 hC.2.1 dX0_addToRoom_25 (by decide) ?_
      exact ih _ _ _ h _ _ _ _ hH hS (lv_sub hl [1, 2, 0] rfl)
def F_X0_addToRoom (n : Nat) (x1 : Int32) (C : St) : Option (Int32 × St) := F_X0_addToRoom_2 n 1000 x1 (0 : Int32) C
set_option maxHeartbeats 4000000 in
set_option maxRecDepth 100000 in
theorem c_X0_addToRoom {l : Launch} {g : GP} {ed : Nat → Nat} {Z : St} {x1 : Int32} {C : St} {r : Int32} {C2 : St} (h : F_X0_addToRoom (gn g) x1 C = some (r, C2)) : Met l yX0_addToRoom (Cond.code yX0_addToRoom cX0_addToRoom 3 none :: lwG) ({ frames := 0, cells := 0, slots := 0, locals := 0 } : Room) (va_Pc [.ref (gA g 19 0), rfv (gA g) 6 x1] (PW g C Z ed)) (QG none g C2 Z) 0 0 (gP g) := by
  refine Met.ofW (cc := cX0_addToRoom) (maxL := 3) (ret := none) (by decide +kernel) rfl ?_
  intro p e s m args below meth c s₁ B hml hv
  obtain ⟨ha, hC, hE, hr, hlk, hH⟩ := g_start B hv
  subst ha
  have hC : CX p s m ([.ref (gA g 19 0), rfv (gA g) 6 x1] : List Value).toArray c cX0_addToRoom RX0 g := hC
  have hS : va_S (gP g) s.heap s.heap [] := va_S.rf
  obtain ⟨ls, he, hl⟩ := g_entry m (vs := [.ref (gA g 19 0), rfv (gA g) 6 x1]) (n := 3) (List.forall_mem_cons.mpr ⟨rfl, (List.forall_mem_cons.mpr ⟨rfv_cat, (fun _ h => absurd h List.not_mem_nil)⟩)⟩) (Nat.le_of_ble_eq_true rfl)
  rw [he]
  have hl : lv_has ls 3 [(0, .ref (gA g 19 0)), (1, rfv (gA g) 6 x1)] := hl
  unfold F_X0_addToRoom at h
  refine lv_iconst (v := (0 : Int32)) hC.1 hC.2.1 dX0_addToRoom_0 (by decide) ?_
  refine lv_istore_n (i := 2) (lv' := [(2, .int (0 : Int32)), (0, .ref (gA g 19 0)), (1, rfv (gA g) 6 x1)]) hC.1 hC.2.1 dX0_addToRoom_1 rfl hl (by decide) (by simp [rfv_cat]) (fun ls hl => ?_)
  exact B_X0_addToRoom_2 hC hE hml hr hlk 1000 _ _ _ h _ _ _ _ hH hS (lv_sub hl [1, 2, 0] rfl)
def F_X0_allCanEnd_83 (n : Nat) (k29 : Int32 → Int32 → St → Option (Int32 × St)) (x2 : Int32) (t0 : Int32) (t1 : Int32) (C : St) : Option (Int32 × St) := k29 (t1 + t0) (x2 + 1) C
set_option maxHeartbeats 4000000 in
set_option maxRecDepth 100000 in
theorem B_X0_allCanEnd_83 {p : Program} {l : Launch} {e : Env} {s : State} {m : MethodId} {args : Array Value} {below : List Frame} {meth : Method} {c : Code} {g : GP} {Z : St} (hC : CX p s m args c cX0_allCanEnd RX0 g) (hE : EZ g s s.heap) (hml : c.maxLocals = 4) (hr : meth.sig.returnType = (some .boolean)) (hlk : meth.locks = false) {r : Int32} {C2 : St} {k29 : Int32 → Int32 → St → Option (Int32 × St)} (hk29 : ∀ (x1 : Int32) (x2 : Int32) (C : St), k29 x1 x2 C = some (r, C2) → ∀ (ed : Nat → Nat) (H : Heap) (locs : List Loc) (ls : Array Slot), HW g ed C Z H → va_S (gP g) s.heap H locs → lv_has ls 4 [(0, .ref (gA g 19 0)), (1, .int x1), (2, .int x2)] → W p l e ({ frames := 1, cells := 0, slots := 0, locals := 22 } : Room) s m args below meth c H locs 0 0 (MQ below (QG (some (.int r)) g C2 Z) args s 0 0 (gP g)) (F0 m 29 ls [])) {x2 : Int32} {t0 : Int32} {t1 : Int32} {C : St} (h : F_X0_allCanEnd_83 (gn g) k29 x2 t0 t1 C = some (r, C2)) {ed : Nat → Nat} {H : Heap} {locs : List Loc} {ls : Array Slot} (hH : HW g ed C Z H) (hS : va_S (gP g) s.heap H locs) (hl : lv_has ls 4 [(0, .ref (gA g 19 0)), (2, .int x2)]) : W p l e ({ frames := 1, cells := 0, slots := 0, locals := 22 } : Room) s m args below meth c H locs 0 0 (MQ below (QG (some (.int r)) g C2 Z) args s 0 0 (gP g)) (F0 m 83 ls [.int t0, .int t1]) := by
  unfold F_X0_allCanEnd_83 at h
  refine lv_iadd hC.1 hC.2.1 dX0_allCanEnd_83 ?_
  refine lv_istore_n (i := 1) (lv' := [(1, .int (t1 + t0)), (0, .ref (gA g 19 0)), (2, .int x2)]) hC.1 hC.2.1 dX0_allCanEnd_84 rfl hl (by decide) rfl (fun ls hl => ?_)
  refine lv_iinc (v := x2 + 1) (lv' := [(2, .int (x2 + 1)), (1, .int (t1 + t0)), (0, .ref (gA g 19 0))]) hC.1 hC.2.1 dX0_allCanEnd_85 hl (k := 2) rfl rfl (by decide) rfl (fun ls hl => ?_)
  refine lv_goto (tgt := 29) hC.1 hC.2.1 dX0_allCanEnd_88 (by decide) ?_
  exact hk29 _ _ _ h _ _ _ _ hH hS (lv_sub hl [2, 1, 0] rfl)
def F_X0_allCanEnd_67 (n : Nat) (k29 : Int32 → Int32 → St → Option (Int32 × St)) (x1 : Int32) (x2 : Int32) (t0 : Int32) (t1 : Int32) (C : St) : Option (Int32 × St) := gd (inb t1 6) (gd (isb t0) (st (up C 22 0 0 t1.toNatClampNeg t0) (fun D3 => gd (inb x2 6) (if (D3 22 0 0 x2.toNatClampNeg) = 0 then (F_X0_allCanEnd_83 n k29 x2 (1 : Int32) x1 D3) else (F_X0_allCanEnd_83 n k29 x2 (0 : Int32) x1 D3)))))
set_option maxHeartbeats 4000000 in
set_option maxRecDepth 100000 in
theorem B_X0_allCanEnd_67 {p : Program} {l : Launch} {e : Env} {s : State} {m : MethodId} {args : Array Value} {below : List Frame} {meth : Method} {c : Code} {g : GP} {Z : St} (hC : CX p s m args c cX0_allCanEnd RX0 g) (hE : EZ g s s.heap) (hml : c.maxLocals = 4) (hr : meth.sig.returnType = (some .boolean)) (hlk : meth.locks = false) {r : Int32} {C2 : St} {k29 : Int32 → Int32 → St → Option (Int32 × St)} (hk29 : ∀ (x1 : Int32) (x2 : Int32) (C : St), k29 x1 x2 C = some (r, C2) → ∀ (ed : Nat → Nat) (H : Heap) (locs : List Loc) (ls : Array Slot), HW g ed C Z H → va_S (gP g) s.heap H locs → lv_has ls 4 [(0, .ref (gA g 19 0)), (1, .int x1), (2, .int x2)] → W p l e ({ frames := 1, cells := 0, slots := 0, locals := 22 } : Room) s m args below meth c H locs 0 0 (MQ below (QG (some (.int r)) g C2 Z) args s 0 0 (gP g)) (F0 m 29 ls [])) {x1 : Int32} {x2 : Int32} {t0 : Int32} {t1 : Int32} {C : St} (h : F_X0_allCanEnd_67 (gn g) k29 x1 x2 t0 t1 C = some (r, C2)) {ed : Nat → Nat} {H : Heap} {locs : List Loc} {ls : Array Slot} (hH : HW g ed C Z H) (hS : va_S (gP g) s.heap H locs) (hl : lv_has ls 4 [(0, .ref (gA g 19 0)), (1, .int x1), (2, .int x2)]) : W p l e ({ frames := 1, cells := 0, slots := 0, locals := 22 } : Room) s m args below meth c H locs 0 0 (MQ below (QG (some (.int r)) g C2 Z) args s 0 0 (gP g)) (F0 m 67 ls [.int t0, .int t1, .ref (gA g 22 0)]) := by
  unfold F_X0_allCanEnd_67 at h
  obtain ⟨hg1, h⟩ := gd_some h
  obtain ⟨hg2, h⟩ := gd_some h
  obtain ⟨D3, e4, h⟩ := st_some h
  refine as_22 hC hH hS hg1 hg2 rfl dX0_allCanEnd_67 (fun H locs hH hS => ?_)
  rw [← e4] at hH
  refine lv_iload_n hC.1 hC.2.1 dX0_allCanEnd_68 rfl (lv_at hl 1 rfl) ?_
  refine lv_aload_n hC.1 hC.2.1 dX0_allCanEnd_69 rfl (lv_at hl 0 rfl) ?_
  refine gf_RX0_25 hC hH rfl dX0_allCanEnd_70 ?_
  refine lv_iload_n hC.1 hC.2.1 dX0_allCanEnd_73 rfl (lv_at hl 2 rfl) ?_
  obtain ⟨hg5, h⟩ := gd_some h
  refine al_22 hC hH hg5 rfl dX0_allCanEnd_74 ?_
  refine lv_if_eq (tgt := 82) hC.1 hC.2.1 dX0_allCanEnd_75 (by decide) (fun hc6 => ?_) (fun hc6 => ?_)
  · rw [if_pos hc6] at h
    refine lv_iconst (v := (1 : Int32)) hC.1 hC.2.1 dX0_allCanEnd_82 (by decide) ?_
    exact B_X0_allCanEnd_83 hC hE hml hr hlk hk29 h hH hS (lv_sub hl [0, 2] rfl)
  · rw [if_neg hc6] at h
    refine lv_iconst (v := (0 : Int32)) hC.1 hC.2.1 dX0_allCanEnd_78 (by decide) ?_
    refine lv_goto (tgt := 83) hC.1 hC.2.1 dX0_allCanEnd_79 (by decide) ?_
    exact B_X0_allCanEnd_83 hC hE hml hr hlk hk29 h hH hS (lv_sub hl [0, 2] rfl)
def F_X0_allCanEnd_162 (n : Nat) (k93 : Int32 → Int32 → St → Option (Int32 × St)) (k105 : Int32 → Int32 → Int32 → St → Option (Int32 × St)) (x1 : Int32) (x2 : Int32) (x3 : Int32) (C : St) : Option (Int32 × St) := k105 x1 x2 (x3 + 1) C
set_option maxHeartbeats 4000000 in
set_option maxRecDepth 100000 in
theorem B_X0_allCanEnd_162 {p : Program} {l : Launch} {e : Env} {s : State} {m : MethodId} {args : Array Value} {below : List Frame} {meth : Method} {c : Code} {g : GP} {Z : St} (hC : CX p s m args c cX0_allCanEnd RX0 g) (hE : EZ g s s.heap) (hml : c.maxLocals = 4) (hr : meth.sig.returnType = (some .boolean)) (hlk : meth.locks = false) {r : Int32} {C2 : St} {k93 : Int32 → Int32 → St → Option (Int32 × St)} (hk93 : ∀ (x1 : Int32) (x2 : Int32) (C : St), k93 x1 x2 C = some (r, C2) → ∀ (ed : Nat → Nat) (H : Heap) (locs : List Loc) (ls : Array Slot), HW g ed C Z H → va_S (gP g) s.heap H locs → lv_has ls 4 [(0, .ref (gA g 19 0)), (1, .int x1), (2, .int x2)] → W p l e ({ frames := 1, cells := 0, slots := 0, locals := 22 } : Room) s m args below meth c H locs 0 0 (MQ below (QG (some (.int r)) g C2 Z) args s 0 0 (gP g)) (F0 m 93 ls [])) {k105 : Int32 → Int32 → Int32 → St → Option (Int32 × St)} (hk105 : ∀ (x1 : Int32) (x2 : Int32) (x3 : Int32) (C : St), k105 x1 x2 x3 C = some (r, C2) → ∀ (ed : Nat → Nat) (H : Heap) (locs : List Loc) (ls : Array Slot), HW g ed C Z H → va_S (gP g) s.heap H locs → lv_has ls 4 [(0, .ref (gA g 19 0)), (1, .int x1), (2, .int x2), (3, .int x3)] → W p l e ({ frames := 1, cells := 0, slots := 0, locals := 22 } : Room) s m args below meth c H locs 0 0 (MQ below (QG (some (.int r)) g C2 Z) args s 0 0 (gP g)) (F0 m 105 ls [])) {x1 : Int32} {x2 : Int32} {x3 : Int32} {C : St} (h : F_X0_allCanEnd_162 (gn g) k93 k105 x1 x2 x3 C = some (r, C2)) {ed : Nat → Nat} {H : Heap} {locs : List Loc} {ls : Array Slot} (hH : HW g ed C Z H) (hS : va_S (gP g) s.heap H locs) (hl : lv_has ls 4 [(0, .ref (gA g 19 0)), (1, .int x1), (2, .int x2), (3, .int x3)]) : W p l e ({ frames := 1, cells := 0, slots := 0, locals := 22 } : Room) s m args below meth c H locs 0 0 (MQ below (QG (some (.int r)) g C2 Z) args s 0 0 (gP g)) (F0 m 162 ls []) := by
  unfold F_X0_allCanEnd_162 at h
  refine lv_iinc (v := x3 + 1) (lv' := [(3, .int (x3 + 1)), (0, .ref (gA g 19 0)), (1, .int x1), (2, .int x2)]) hC.1 hC.2.1 dX0_allCanEnd_162 hl (k := 3) rfl rfl (by decide) rfl (fun ls hl => ?_)
  refine lv_goto (tgt := 105) hC.1 hC.2.1 dX0_allCanEnd_165 (by decide) ?_
  exact hk105 _ _ _ _ h _ _ _ _ hH hS (lv_sub hl [1, 2, 3, 0] rfl)
def F_X0_allCanEnd_168 (n : Nat) (k93 : Int32 → Int32 → St → Option (Int32 × St)) (x1 : Int32) (x2 : Int32) (C : St) : Option (Int32 × St) := k93 x1 (x2 + 1) C
set_option maxHeartbeats 4000000 in
set_option maxRecDepth 100000 in
theorem B_X0_allCanEnd_168 {p : Program} {l : Launch} {e : Env} {s : State} {m : MethodId} {args : Array Value} {below : List Frame} {meth : Method} {c : Code} {g : GP} {Z : St} (hC : CX p s m args c cX0_allCanEnd RX0 g) (hE : EZ g s s.heap) (hml : c.maxLocals = 4) (hr : meth.sig.returnType = (some .boolean)) (hlk : meth.locks = false) {r : Int32} {C2 : St} {k93 : Int32 → Int32 → St → Option (Int32 × St)} (hk93 : ∀ (x1 : Int32) (x2 : Int32) (C : St), k93 x1 x2 C = some (r, C2) → ∀ (ed : Nat → Nat) (H : Heap) (locs : List Loc) (ls : Array Slot), HW g ed C Z H → va_S (gP g) s.heap H locs → lv_has ls 4 [(0, .ref (gA g 19 0)), (1, .int x1), (2, .int x2)] → W p l e ({ frames := 1, cells := 0, slots := 0, locals := 22 } : Room) s m args below meth c H locs 0 0 (MQ below (QG (some (.int r)) g C2 Z) args s 0 0 (gP g)) (F0 m 93 ls [])) {x1 : Int32} {x2 : Int32} {C : St} (h : F_X0_allCanEnd_168 (gn g) k93 x1 x2 C = some (r, C2)) {ed : Nat → Nat} {H : Heap} {locs : List Loc} {ls : Array Slot} (hH : HW g ed C Z H) (hS : va_S (gP g) s.heap H locs) (hl : lv_has ls 4 [(0, .ref (gA g 19 0)), (1, .int x1), (2, .int x2)]) : W p l e ({ frames := 1, cells := 0, slots := 0, locals := 22 } : Room) s m args below meth c H locs 0 0 (MQ below (QG (some (.int r)) g C2 Z) args s 0 0 (gP g)) (F0 m 168 ls []) := by
  unfold F_X0_allCanEnd_168 at h
  refine lv_iinc (v := x2 + 1) (lv' := [(2, .int (x2 + 1)), (0, .ref (gA g 19 0)), (1, .int x1)]) hC.1 hC.2.1 dX0_allCanEnd_168 hl (k := 2) rfl rfl (by decide) rfl (fun ls hl => ?_)
  refine lv_goto (tgt := 93) hC.1 hC.2.1 dX0_allCanEnd_171 (by decide) ?_
  exact hk93 _ _ _ h _ _ _ _ hH hS (lv_sub hl [1, 2, 0] rfl)
def F_X0_allCanEnd_105 (n : Nat) (k93 : Int32 → Int32 → St → Option (Int32 × St)) : Nat → Int32 → Int32 → Int32 → St → Option (Int32 × St)
  | 0, _, _, _, _ => none
  | fu + 1, x1, x2, x3, C => if (6 : Int32) ≤ x3 then (F_X0_allCanEnd_168 n k93 x1 x2 C) else (if (6 : Int32) ≤ x3 then (F_X0_allCanEnd_168 n k93 x1 x2 C) else (gd (inb x3 6) (if (C 22 0 0 x3.toNatClampNeg) = 0 then (bd2 (F_X0_hasRoomFor n x3 C) (fun r5 D6 => if r5 = 0 then (F_X0_allCanEnd_162 n k93 (F_X0_allCanEnd_105 n k93 fu) x1 x2 x3 D6) else (st (up D6 22 0 0 x3.toNatClampNeg (1 : Int32)) (fun D9 => bd2 (F_X0_addToRoom n x3 D9) (fun r11 D12 => F_X0_allCanEnd_162 n k93 (F_X0_allCanEnd_105 n k93 fu) (x1 + (-1)) x2 x3 D12))))) else (F_X0_allCanEnd_162 n k93 (F_X0_allCanEnd_105 n k93 fu) x1 x2 x3 C))))
set_option maxHeartbeats 4000000 in
set_option maxRecDepth 100000 in
theorem B_X0_allCanEnd_105 {p : Program} {l : Launch} {e : Env} {s : State} {m : MethodId} {args : Array Value} {below : List Frame} {meth : Method} {c : Code} {g : GP} {Z : St} (hC : CX p s m args c cX0_allCanEnd RX0 g) (hE : EZ g s s.heap) (hml : c.maxLocals = 4) (hr : meth.sig.returnType = (some .boolean)) (hlk : meth.locks = false) {r : Int32} {C2 : St} {k93 : Int32 → Int32 → St → Option (Int32 × St)} (hk93 : ∀ (x1 : Int32) (x2 : Int32) (C : St), k93 x1 x2 C = some (r, C2) → ∀ (ed : Nat → Nat) (H : Heap) (locs : List Loc) (ls : Array Slot), HW g ed C Z H → va_S (gP g) s.heap H locs → lv_has ls 4 [(0, .ref (gA g 19 0)), (1, .int x1), (2, .int x2)] → W p l e ({ frames := 1, cells := 0, slots := 0, locals := 22 } : Room) s m args below meth c H locs 0 0 (MQ below (QG (some (.int r)) g C2 Z) args s 0 0 (gP g)) (F0 m 93 ls [])) : ∀ (fu : Nat) (x1 : Int32) (x2 : Int32) (x3 : Int32) (C : St), F_X0_allCanEnd_105 (gn g) k93 fu x1 x2 x3 C = some (r, C2) → ∀ (ed : Nat → Nat) (H : Heap) (locs : List Loc) (ls : Array Slot), HW g ed C Z H → va_S (gP g) s.heap H locs → lv_has ls 4 [(0, .ref (gA g 19 0)), (1, .int x1), (2, .int x2), (3, .int x3)] → W p l e ({ frames := 1, cells := 0, slots := 0, locals := 22 } : Room) s m args below meth c H locs 0 0 (MQ below (QG (some (.int r)) g C2 Z) args s 0 0 (gP g)) (F0 m 105 ls []) := by
  intro fu
  induction fu with
  | zero =>
    intro x1 x2 x3 C h
    cases h
  | succ fu ih =>
    intro x1 x2 x3 C h ed H locs ls hH hS hl
    rw [F_X0_allCanEnd_105] at h
    refine lv_iload_n hC.1 hC.2.1 dX0_allCanEnd_105 rfl (lv_at hl 3 rfl) ?_
    refine lv_bipush (v := (6 : Int32)) hC.1 hC.2.1 dX0_allCanEnd_106 (by decide) ?_
    refine lv_icmp_ge (tgt := 168) hC.1 hC.2.1 dX0_allCanEnd_108 (by decide) (fun hc1 => ?_) (fun hc1 => ?_)
    · rw [if_pos hc1] at h
      exact B_X0_allCanEnd_168 hC hE hml hr hlk hk93 h hH hS (lv_sub hl [0, 1, 2] rfl)
    · rw [if_neg hc1] at h
      refine lv_iload_n hC.1 hC.2.1 dX0_allCanEnd_111 rfl (lv_at hl 3 rfl) ?_
      refine lv_aload_n hC.1 hC.2.1 dX0_allCanEnd_112 rfl (lv_at hl 0 rfl) ?_
      refine gf_RX0_37 hC hH rfl dX0_allCanEnd_113 ?_
      refine ln_11 hC hH rfl dX0_allCanEnd_116 ?_
      refine lv_icmp_ge (tgt := 168) hC.1 hC.2.1 dX0_allCanEnd_117 (by decide) (fun hc2 => ?_) (fun hc2 => ?_)
      · rw [if_pos hc2] at h
        exact B_X0_allCanEnd_168 hC hE hml hr hlk hk93 h hH hS (lv_sub hl [0, 1, 2] rfl)
      · rw [if_neg hc2] at h
        refine lv_aload_n hC.1 hC.2.1 dX0_allCanEnd_120 rfl (lv_at hl 0 rfl) ?_
        refine gf_RX0_25 hC hH rfl dX0_allCanEnd_121 ?_
        refine lv_iload_n hC.1 hC.2.1 dX0_allCanEnd_124 rfl (lv_at hl 3 rfl) ?_
        obtain ⟨hg3, h⟩ := gd_some h
        refine al_22 hC hH hg3 rfl dX0_allCanEnd_125 ?_
        refine lv_if_ne (tgt := 162) hC.1 hC.2.1 dX0_allCanEnd_126 (by decide) (fun hc4 => ?_) (fun hc4 => ?_)
        · rw [if_neg hc4] at h
          exact B_X0_allCanEnd_162 hC hE hml hr hlk hk93 ih h hH hS (lv_sub hl [0, 1, 2, 3] rfl)
        · rw [if_pos hc4] at h
          refine lv_aload_n hC.1 hC.2.1 dX0_allCanEnd_129 rfl (lv_at hl 0 rfl) ?_
          refine lv_aload_n hC.1 hC.2.1 dX0_allCanEnd_130 rfl (lv_at hl 0 rfl) ?_
          refine gf_RX0_37 hC hH rfl dX0_allCanEnd_131 ?_
          refine lv_iload_n hC.1 hC.2.1 dX0_allCanEnd_134 rfl (lv_at hl 3 rfl) ?_
          refine aa_11 hC hH hg3 rfl dX0_allCanEnd_135 ?_
          obtain ⟨r5, D6, hF7, h⟩ := bd2_some h
          refine gcallV (As := [rfv (gA g) 6 x3]) (rest := []) (Cn := RX0) hC hE hml hH hS (c_X0_hasRoomFor hF7) ⟨wd_699, wd_701, wp_7, wd_13, wd_702⟩ hd_X0_hasRoomFor rfl rfl ⟨Nat.le_of_ble_eq_true rfl, Nat.le_of_ble_eq_true rfl⟩ rfl (hw_recv (q := 19) (i := 0) hC hH ⟨Nat.zero_lt_one, fun h => absurd h (by decide)⟩ rfl rfl) rfl hl.1 rfl (Nat.le_of_ble_eq_true rfl) dX0_allCanEnd_136 ⟨Nat.le_of_ble_eq_true rfl, Nat.le_of_ble_eq_true rfl⟩ (fun ed H locs hH hS => ?_)
          refine W.eq (g2 := F0 m 139 ls [.int r5]) rfl ?_
          refine lv_if_eq (tgt := 162) hC.1 hC.2.1 dX0_allCanEnd_139 (by decide) (fun hc8 => ?_) (fun hc8 => ?_)
          · rw [if_pos hc8] at h
            exact B_X0_allCanEnd_162 hC hE hml hr hlk hk93 ih h hH hS (lv_sub hl [0, 1, 2, 3] rfl)
          · rw [if_neg hc8] at h
            refine lv_aload_n hC.1 hC.2.1 dX0_allCanEnd_142 rfl (lv_at hl 0 rfl) ?_
            refine gf_RX0_25 hC hH rfl dX0_allCanEnd_143 ?_
            refine lv_iload_n hC.1 hC.2.1 dX0_allCanEnd_146 rfl (lv_at hl 3 rfl) ?_
            refine lv_iconst (v := (1 : Int32)) hC.1 hC.2.1 dX0_allCanEnd_147 (by decide) ?_
            obtain ⟨D9, e10, h⟩ := st_some h
            refine as_22 hC hH hS hg3 (by decide) rfl dX0_allCanEnd_148 (fun H locs hH hS => ?_)
            rw [← e10] at hH
            refine lv_iinc (v := x1 + (-1)) (lv' := [(1, .int (x1 + (-1))), (0, .ref (gA g 19 0)), (2, .int x2), (3, .int x3)]) hC.1 hC.2.1 dX0_allCanEnd_149 hl (k := 1) rfl rfl (by decide) rfl (fun ls hl => ?_)
            refine lv_aload_n hC.1 hC.2.1 dX0_allCanEnd_152 rfl (lv_at hl 1 rfl) ?_
            refine lv_aload_n hC.1 hC.2.1 dX0_allCanEnd_153 rfl (lv_at hl 1 rfl) ?_
            refine gf_RX0_37 hC hH rfl dX0_allCanEnd_154 ?_
            refine lv_iload_n hC.1 hC.2.1 dX0_allCanEnd_157 rfl (lv_at hl 3 rfl) ?_
            refine aa_11 hC hH hg3 rfl dX0_allCanEnd_158 ?_
            obtain ⟨r11, D12, hF13, h⟩ := bd2_some h
            refine gcallV (As := [rfv (gA g) 6 x3]) (rest := []) (Cn := RX0) hC hE hml hH hS (c_X0_addToRoom hF13) ⟨wd_703, wd_705, wp_8, wd_13, wd_706⟩ hd_X0_addToRoom rfl rfl ⟨Nat.le_of_ble_eq_true rfl, Nat.le_of_ble_eq_true rfl⟩ rfl (hw_recv (q := 19) (i := 0) hC hH ⟨Nat.zero_lt_one, fun h => absurd h (by decide)⟩ rfl rfl) rfl hl.1 rfl (Nat.le_of_ble_eq_true rfl) dX0_allCanEnd_159 ⟨Nat.le_of_ble_eq_true rfl, Nat.le_of_ble_eq_true rfl⟩ (fun ed H locs hH hS => ?_)
            refine W.eq (g2 := F0 m 162 ls []) rfl ?_
            exact B_X0_allCanEnd_162 hC hE hml hr hlk hk93 ih h hH hS (lv_sub hl [1, 0, 2, 3] rfl)
def F_X0_allCanEnd_183 (n : Nat)  (t0 : Int32) (C : St) : Option (Int32 × St) := gd (isb t0) (some (t0, C))
set_option maxHeartbeats 4000000 in
set_option maxRecDepth 100000 in
theorem B_X0_allCanEnd_183 {p : Program} {l : Launch} {e : Env} {s : State} {m : MethodId} {args : Array Value} {below : List Frame} {meth : Method} {c : Code} {g : GP} {Z : St} (hC : CX p s m args c cX0_allCanEnd RX0 g) (hE : EZ g s s.heap) (hml : c.maxLocals = 4) (hr : meth.sig.returnType = (some .boolean)) (hlk : meth.locks = false) {r : Int32} {C2 : St} {t0 : Int32} {C : St} (h : F_X0_allCanEnd_183 (gn g)  t0 C = some (r, C2)) {ed : Nat → Nat} {H : Heap} {locs : List Loc} {ls : Array Slot} (hH : HW g ed C Z H) (hS : va_S (gP g) s.heap H locs) (hl : lv_has ls 4 []) : W p l e ({ frames := 1, cells := 0, slots := 0, locals := 22 } : Room) s m args below meth c H locs 0 0 (MQ below (QG (some (.int r)) g C2 Z) args s 0 0 (gP g)) (F0 m 183 ls [.int t0]) := by
  unfold F_X0_allCanEnd_183 at h
  obtain ⟨hg1, h⟩ := gd_some h
  cases h
  exact gret_z hC hr hlk hg1 hH hS (Nat.le_of_ble_eq_true rfl) (Nat.le_of_ble_eq_true rfl) dX0_allCanEnd_183
def F_X0_allCanEnd_174 (n : Nat)  (x1 : Int32) (C : St) : Option (Int32 × St) := if x1 = 0 then (F_X0_allCanEnd_183 n (1 : Int32) C) else (F_X0_allCanEnd_183 n (0 : Int32) C)
set_option maxHeartbeats 4000000 in
set_option maxRecDepth 100000 in
theorem B_X0_allCanEnd_174 {p : Program} {l : Launch} {e : Env} {s : State} {m : MethodId} {args : Array Value} {below : List Frame} {meth : Method} {c : Code} {g : GP} {Z : St} (hC : CX p s m args c cX0_allCanEnd RX0 g) (hE : EZ g s s.heap) (hml : c.maxLocals = 4) (hr : meth.sig.returnType = (some .boolean)) (hlk : meth.locks = false) {r : Int32} {C2 : St} {x1 : Int32} {C : St} (h : F_X0_allCanEnd_174 (gn g)  x1 C = some (r, C2)) {ed : Nat → Nat} {H : Heap} {locs : List Loc} {ls : Array Slot} (hH : HW g ed C Z H) (hS : va_S (gP g) s.heap H locs) (hl : lv_has ls 4 [(1, .int x1)]) : W p l e ({ frames := 1, cells := 0, slots := 0, locals := 22 } : Room) s m args below meth c H locs 0 0 (MQ below (QG (some (.int r)) g C2 Z) args s 0 0 (gP g)) (F0 m 174 ls []) := by
  unfold F_X0_allCanEnd_174 at h
  refine lv_iload_n hC.1 hC.2.1 dX0_allCanEnd_174 rfl (lv_at hl 0 rfl) ?_
  refine lv_if_ne (tgt := 182) hC.1 hC.2.1 dX0_allCanEnd_175 (by decide) (fun hc1 => ?_) (fun hc1 => ?_)
  · rw [if_neg hc1] at h
    refine lv_iconst (v := (0 : Int32)) hC.1 hC.2.1 dX0_allCanEnd_182 (by decide) ?_
    exact B_X0_allCanEnd_183 hC hE hml hr hlk h hH hS (lv_sub hl [] rfl)
  · rw [if_pos hc1] at h
    refine lv_iconst (v := (1 : Int32)) hC.1 hC.2.1 dX0_allCanEnd_178 (by decide) ?_
    refine lv_goto (tgt := 183) hC.1 hC.2.1 dX0_allCanEnd_179 (by decide) ?_
    exact B_X0_allCanEnd_183 hC hE hml hr hlk h hH hS (lv_sub hl [] rfl)
def F_X0_allCanEnd_93 (n : Nat)  : Nat → Int32 → Int32 → St → Option (Int32 × St)
  | 0, _, _, _ => none
  | fu + 1, x1, x2, C => if (6 : Int32) ≤ x2 then (F_X0_allCanEnd_174 n x1 C) else (if x1 ≤ 0 then (F_X0_allCanEnd_174 n x1 C) else (F_X0_allCanEnd_105 n (F_X0_allCanEnd_93 n fu) 1000 x1 x2 (0 : Int32) C))
set_option maxHeartbeats 4000000 in
set_option maxRecDepth 100000 in
theorem B_X0_allCanEnd_93 {p : Program} {l : Launch} {e : Env} {s : State} {m : MethodId} {args : Array Value} {below : List Frame} {meth : Method} {c : Code} {g : GP} {Z : St} (hC : CX p s m args c cX0_allCanEnd RX0 g) (hE : EZ g s s.heap) (hml : c.maxLocals = 4) (hr : meth.sig.returnType = (some .boolean)) (hlk : meth.locks = false) {r : Int32} {C2 : St} : ∀ (fu : Nat) (x1 : Int32) (x2 : Int32) (C : St), F_X0_allCanEnd_93 (gn g)  fu x1 x2 C = some (r, C2) → ∀ (ed : Nat → Nat) (H : Heap) (locs : List Loc) (ls : Array Slot), HW g ed C Z H → va_S (gP g) s.heap H locs → lv_has ls 4 [(0, .ref (gA g 19 0)), (1, .int x1), (2, .int x2)] → W p l e ({ frames := 1, cells := 0, slots := 0, locals := 22 } : Room) s m args below meth c H locs 0 0 (MQ below (QG (some (.int r)) g C2 Z) args s 0 0 (gP g)) (F0 m 93 ls []) := by
  intro fu
  induction fu with
  | zero =>
    intro x1 x2 C h
    cases h
  | succ fu ih =>
    intro x1 x2 C h ed H locs ls hH hS hl
    rw [F_X0_allCanEnd_93] at h
    refine lv_iload_n hC.1 hC.2.1 dX0_allCanEnd_93 rfl (lv_at hl 2 rfl) ?_
    refine lv_bipush (v := (6 : Int32)) hC.1 hC.2.1 dX0_allCanEnd_94 (by decide) ?_
    refine lv_icmp_ge (tgt := 174) hC.1 hC.2.1 dX0_allCanEnd_96 (by decide) (fun hc1 => ?_) (fun hc1 => ?_)
    · rw [if_pos hc1] at h
      exact B_X0_allCanEnd_174 hC hE hml hr hlk h hH hS (lv_sub hl [1] rfl)
    · rw [if_neg hc1] at h
      refine lv_iload_n hC.1 hC.2.1 dX0_allCanEnd_99 rfl (lv_at hl 1 rfl) ?_
      refine lv_if_le (tgt := 174) hC.1 hC.2.1 dX0_allCanEnd_100 (by decide) (fun hc2 => ?_) (fun hc2 => ?_)
      · rw [if_pos hc2] at h
        exact B_X0_allCanEnd_174 hC hE hml hr hlk h hH hS (lv_sub hl [1] rfl)
      · rw [if_neg hc2] at h
        refine lv_iconst (v := (0 : Int32)) hC.1 hC.2.1 dX0_allCanEnd_103 (by decide) ?_
        refine lv_istore_n (i := 3) (lv' := [(3, .int (0 : Int32)), (0, .ref (gA g 19 0)), (1, .int x1), (2, .int x2)]) hC.1 hC.2.1 dX0_allCanEnd_104 rfl hl (by decide) rfl (fun ls hl => ?_)
        exact B_X0_allCanEnd_105 hC hE hml hr hlk ih 1000 _ _ _ _ h _ _ _ _ hH hS (lv_sub hl [1, 2, 3, 0] rfl)
def F_X0_allCanEnd_91 (n : Nat)  (x1 : Int32) (C : St) : Option (Int32 × St) := F_X0_allCanEnd_93 n 1000 x1 (0 : Int32) C
set_option maxHeartbeats 4000000 in
set_option maxRecDepth 100000 in
theorem B_X0_allCanEnd_91 {p : Program} {l : Launch} {e : Env} {s : State} {m : MethodId} {args : Array Value} {below : List Frame} {meth : Method} {c : Code} {g : GP} {Z : St} (hC : CX p s m args c cX0_allCanEnd RX0 g) (hE : EZ g s s.heap) (hml : c.maxLocals = 4) (hr : meth.sig.returnType = (some .boolean)) (hlk : meth.locks = false) {r : Int32} {C2 : St} {x1 : Int32} {C : St} (h : F_X0_allCanEnd_91 (gn g)  x1 C = some (r, C2)) {ed : Nat → Nat} {H : Heap} {locs : List Loc} {ls : Array Slot} (hH : HW g ed C Z H) (hS : va_S (gP g) s.heap H locs) (hl : lv_has ls 4 [(0, .ref (gA g 19 0)), (1, .int x1)]) : W p l e ({ frames := 1, cells := 0, slots := 0, locals := 22 } : Room) s m args below meth c H locs 0 0 (MQ below (QG (some (.int r)) g C2 Z) args s 0 0 (gP g)) (F0 m 91 ls []) := by
  unfold F_X0_allCanEnd_91 at h
  refine lv_iconst (v := (0 : Int32)) hC.1 hC.2.1 dX0_allCanEnd_91 (by decide) ?_
  refine lv_istore_n (i := 2) (lv' := [(2, .int (0 : Int32)), (0, .ref (gA g 19 0)), (1, .int x1)]) hC.1 hC.2.1 dX0_allCanEnd_92 rfl hl (by decide) rfl (fun ls hl => ?_)
  exact B_X0_allCanEnd_93 hC hE hml hr hlk 1000 _ _ _ h _ _ _ _ hH hS (lv_sub hl [1, 2, 0] rfl)
def F_X0_allCanEnd_29 (n : Nat)  : Nat → Int32 → Int32 → St → Option (Int32 × St)
  | 0, _, _, _ => none
  | fu + 1, x1, x2, C => if (6 : Int32) ≤ x2 then (F_X0_allCanEnd_91 n x1 C) else (if (6 : Int32) ≤ x2 then (F_X0_allCanEnd_91 n x1 C) else (gd (inb x2 6) (if (C 6 x2.toNatClampNeg 7 0) = (2 : Int32) then (F_X0_allCanEnd_67 n (F_X0_allCanEnd_29 n fu) x1 x2 (0 : Int32) x2 C) else (F_X0_allCanEnd_67 n (F_X0_allCanEnd_29 n fu) x1 x2 (1 : Int32) x2 C))))
set_option maxHeartbeats 4000000 in
set_option maxRecDepth 100000 in
theorem B_X0_allCanEnd_29 {p : Program} {l : Launch} {e : Env} {s : State} {m : MethodId} {args : Array Value} {below : List Frame} {meth : Method} {c : Code} {g : GP} {Z : St} (hC : CX p s m args c cX0_allCanEnd RX0 g) (hE : EZ g s s.heap) (hml : c.maxLocals = 4) (hr : meth.sig.returnType = (some .boolean)) (hlk : meth.locks = false) {r : Int32} {C2 : St} : ∀ (fu : Nat) (x1 : Int32) (x2 : Int32) (C : St), F_X0_allCanEnd_29 (gn g)  fu x1 x2 C = some (r, C2) → ∀ (ed : Nat → Nat) (H : Heap) (locs : List Loc) (ls : Array Slot), HW g ed C Z H → va_S (gP g) s.heap H locs → lv_has ls 4 [(0, .ref (gA g 19 0)), (1, .int x1), (2, .int x2)] → W p l e ({ frames := 1, cells := 0, slots := 0, locals := 22 } : Room) s m args below meth c H locs 0 0 (MQ below (QG (some (.int r)) g C2 Z) args s 0 0 (gP g)) (F0 m 29 ls []) := by
  intro fu
  induction fu with
  | zero =>
    intro x1 x2 C h
    cases h
  | succ fu ih =>
    intro x1 x2 C h ed H locs ls hH hS hl
    rw [F_X0_allCanEnd_29] at h
    refine lv_iload_n hC.1 hC.2.1 dX0_allCanEnd_29 rfl (lv_at hl 2 rfl) ?_
    refine lv_bipush (v := (6 : Int32)) hC.1 hC.2.1 dX0_allCanEnd_30 (by decide) ?_
    refine lv_icmp_ge (tgt := 91) hC.1 hC.2.1 dX0_allCanEnd_32 (by decide) (fun hc1 => ?_) (fun hc1 => ?_)
    · rw [if_pos hc1] at h
      exact B_X0_allCanEnd_91 hC hE hml hr hlk h hH hS (lv_sub hl [0, 1] rfl)
    · rw [if_neg hc1] at h
      refine lv_iload_n hC.1 hC.2.1 dX0_allCanEnd_35 rfl (lv_at hl 2 rfl) ?_
      refine lv_aload_n hC.1 hC.2.1 dX0_allCanEnd_36 rfl (lv_at hl 0 rfl) ?_
      refine gf_RX0_37 hC hH rfl dX0_allCanEnd_37 ?_
      refine ln_11 hC hH rfl dX0_allCanEnd_40 ?_
      refine lv_icmp_ge (tgt := 91) hC.1 hC.2.1 dX0_allCanEnd_41 (by decide) (fun hc2 => ?_) (fun hc2 => ?_)
      · rw [if_pos hc2] at h
        exact B_X0_allCanEnd_91 hC hE hml hr hlk h hH hS (lv_sub hl [0, 1] rfl)
      · rw [if_neg hc2] at h
        refine lv_aload_n hC.1 hC.2.1 dX0_allCanEnd_44 rfl (lv_at hl 0 rfl) ?_
        refine gf_RX0_25 hC hH rfl dX0_allCanEnd_45 ?_
        refine lv_iload_n hC.1 hC.2.1 dX0_allCanEnd_48 rfl (lv_at hl 2 rfl) ?_
        refine lv_aload_n hC.1 hC.2.1 dX0_allCanEnd_49 rfl (lv_at hl 0 rfl) ?_
        refine gf_RX0_37 hC hH rfl dX0_allCanEnd_50 ?_
        refine lv_iload_n hC.1 hC.2.1 dX0_allCanEnd_53 rfl (lv_at hl 2 rfl) ?_
        obtain ⟨hg3, h⟩ := gd_some h
        refine aa_11 hC hH hg3 rfl dX0_allCanEnd_54 ?_
        refine gf_RX0_45 hC hH (inb_lt hg3) (rfv_in hg3) dX0_allCanEnd_55 ?_
        refine lv_iconst (v := (2 : Int32)) hC.1 hC.2.1 dX0_allCanEnd_58 (by decide) ?_
        refine lv_icmp_eq (tgt := 66) hC.1 hC.2.1 dX0_allCanEnd_59 (by decide) (fun hc4 => ?_) (fun hc4 => ?_)
        · rw [if_pos hc4] at h
          refine lv_iconst (v := (0 : Int32)) hC.1 hC.2.1 dX0_allCanEnd_66 (by decide) ?_
          exact B_X0_allCanEnd_67 hC hE hml hr hlk ih h hH hS (lv_sub hl [0, 1, 2] rfl)
        · rw [if_neg hc4] at h
          refine lv_iconst (v := (1 : Int32)) hC.1 hC.2.1 dX0_allCanEnd_62 (by decide) ?_
          refine lv_goto (tgt := 67) hC.1 hC.2.1 dX0_allCanEnd_63 (by decide) ?_
          exact B_X0_allCanEnd_67 hC hE hml hr hlk ih h hH hS (lv_sub hl [0, 1, 2] rfl)
def F_X0_allCanEnd_2 (n : Nat)  : Nat → Int32 → St → Option (Int32 × St)
  | 0, _, _ => none
  | fu + 1, x1, C => if (3 : Int32) ≤ x1 then (F_X0_allCanEnd_29 n 1000 (0 : Int32) (0 : Int32) C) else (gd (inb x1 3) (st (up C 21 0 0 x1.toNatClampNeg (C 20 0 0 x1.toNatClampNeg)) (fun D3 => F_X0_allCanEnd_2 n fu (x1 + 1) D3)))
set_option maxHeartbeats 4000000 in
set_option maxRecDepth 100000 in
theorem B_X0_allCanEnd_2 {p : Program} {l : Launch} {e : Env} {s : State} {m : MethodId} {args : Array Value} {below : List Frame} {meth : Method} {c : Code} {g : GP} {Z : St} (hC : CX p s m args c cX0_allCanEnd RX0 g) (hE : EZ g s s.heap) (hml : c.maxLocals = 4) (hr : meth.sig.returnType = (some .boolean)) (hlk : meth.locks = false) {r : Int32} {C2 : St} : ∀ (fu : Nat) (x1 : Int32) (C : St), F_X0_allCanEnd_2 (gn g)  fu x1 C = some (r, C2) → ∀ (ed : Nat → Nat) (H : Heap) (locs : List Loc) (ls : Array Slot), HW g ed C Z H → va_S (gP g) s.heap H locs → lv_has ls 4 [(0, .ref (gA g 19 0)), (1, .int x1)] → W p l e ({ frames := 1, cells := 0, slots := 0, locals := 22 } : Room) s m args below meth c H locs 0 0 (MQ below (QG (some (.int r)) g C2 Z) args s 0 0 (gP g)) (F0 m 2 ls []) := by
  intro fu
  induction fu with
  | zero =>
    intro x1 C h
    cases h
  | succ fu ih =>
    intro x1 C h ed H locs ls hH hS hl
    rw [F_X0_allCanEnd_2] at h
    refine lv_iload_n hC.1 hC.2.1 dX0_allCanEnd_2 rfl (lv_at hl 1 rfl) ?_
    refine lv_iconst (v := (3 : Int32)) hC.1 hC.2.1 dX0_allCanEnd_3 (by decide) ?_
    refine lv_icmp_ge (tgt := 25) hC.1 hC.2.1 dX0_allCanEnd_4 (by decide) (fun hc1 => ?_) (fun hc1 => ?_)
    · rw [if_pos hc1] at h
      refine lv_iconst (v := (0 : Int32)) hC.1 hC.2.1 dX0_allCanEnd_25 (by decide) ?_
      refine lv_istore_n (i := 1) (lv' := [(1, .int (0 : Int32)), (0, .ref (gA g 19 0))]) hC.1 hC.2.1 dX0_allCanEnd_26 rfl hl (by decide) rfl (fun ls hl => ?_)
      refine lv_iconst (v := (0 : Int32)) hC.1 hC.2.1 dX0_allCanEnd_27 (by decide) ?_
      refine lv_istore_n (i := 2) (lv' := [(2, .int (0 : Int32)), (1, .int (0 : Int32)), (0, .ref (gA g 19 0))]) hC.1 hC.2.1 dX0_allCanEnd_28 rfl hl (by decide) rfl (fun ls hl => ?_)
      exact B_X0_allCanEnd_29 hC hE hml hr hlk 1000 _ _ _ h _ _ _ _ hH hS (lv_sub hl [2, 1, 0] rfl)
    · rw [if_neg hc1] at h
      refine lv_aload_n hC.1 hC.2.1 dX0_allCanEnd_7 rfl (lv_at hl 0 rfl) ?_
      refine gf_RX0_22 hC hH rfl dX0_allCanEnd_8 ?_
      refine lv_iload_n hC.1 hC.2.1 dX0_allCanEnd_11 rfl (lv_at hl 1 rfl) ?_
      refine lv_aload_n hC.1 hC.2.1 dX0_allCanEnd_12 rfl (lv_at hl 0 rfl) ?_
      refine gf_RX0_9 hC hH rfl dX0_allCanEnd_13 ?_
      refine lv_iload_n hC.1 hC.2.1 dX0_allCanEnd_16 rfl (lv_at hl 1 rfl) ?_
      obtain ⟨hg2, h⟩ := gd_some h
      refine al_20 hC hH hg2 rfl dX0_allCanEnd_17 ?_
      obtain ⟨D3, e4, h⟩ := st_some h
      refine as_21 hC hH hS hg2 rfl dX0_allCanEnd_18 (fun H locs hH hS => ?_)
      rw [← e4] at hH
      refine lv_iinc (v := x1 + 1) (lv' := [(1, .int (x1 + 1)), (0, .ref (gA g 19 0))]) hC.1 hC.2.1 dX0_allCanEnd_19 hl (k := 1) rfl rfl (by decide) rfl (fun ls hl => ?_)
      refine lv_goto (tgt := 2) hC.1 hC.2.1 dX0_allCanEnd_22 (by decide) ?_
      exact ih _ _ h _ _ _ _ hH hS (lv_sub hl [1, 0] rfl)
def F_X0_allCanEnd (n : Nat)  (C : St) : Option (Int32 × St) := F_X0_allCanEnd_2 n 1000 (0 : Int32) C
set_option maxHeartbeats 4000000 in
set_option maxRecDepth 100000 in
theorem c_X0_allCanEnd {l : Launch} {g : GP} {ed : Nat → Nat} {Z : St}  {C : St} {r : Int32} {C2 : St} (h : F_X0_allCanEnd (gn g)  C = some (r, C2)) : Met l yX0_allCanEnd (Cond.code yX0_allCanEnd cX0_allCanEnd 4 (some .boolean) :: lwG) ({ frames := 1, cells := 0, slots := 0, locals := 22 } : Room) (va_Pc [.ref (gA g 19 0)] (PW g C Z ed)) (QG (some (.int r)) g C2 Z) 0 0 (gP g) := by
  refine Met.ofW (cc := cX0_allCanEnd) (maxL := 4) (ret := (some .boolean)) (by decide +kernel) rfl ?_
  intro p e s m args below meth c s₁ B hml hv
  obtain ⟨ha, hC, hE, hr, hlk, hH⟩ := g_start B hv
  subst ha
  have hC : CX p s m ([.ref (gA g 19 0)] : List Value).toArray c cX0_allCanEnd RX0 g := hC
  have hS : va_S (gP g) s.heap s.heap [] := va_S.rf
  obtain ⟨ls, he, hl⟩ := g_entry m (vs := [.ref (gA g 19 0)]) (n := 4) (List.forall_mem_cons.mpr ⟨rfl, (fun _ h => absurd h List.not_mem_nil)⟩) (Nat.le_of_ble_eq_true rfl)
  rw [he]
  have hl : lv_has ls 4 [(0, .ref (gA g 19 0))] := hl
  unfold F_X0_allCanEnd at h
  refine lv_iconst (v := (0 : Int32)) hC.1 hC.2.1 dX0_allCanEnd_0 (by decide) ?_
  refine lv_istore_n (i := 1) (lv' := [(1, .int (0 : Int32)), (0, .ref (gA g 19 0))]) hC.1 hC.2.1 dX0_allCanEnd_1 rfl hl (by decide) rfl (fun ls hl => ?_)
  exact B_X0_allCanEnd_2 hC hE hml hr hlk 1000 _ _ h _ _ _ _ hH hS (lv_sub hl [1, 0] rfl)
def F_X0_grants (n : Nat) (x1 : Int32) (x2 : Int32) (C : St) : Option (Int32 × St) := bd2 (F_X0_freeOf n x2 C) (fun r1 D2 => if 0 < r1 then (bd2 (F_X0_move n x1 x2 (1 : Int32) D2) (fun r5 D6 => bd2 (F_X0_allCanEnd n  D6) (fun r8 D9 => if r8 = 0 then (bd2 (F_X0_move n x1 x2 (-1 : Int32) D9) (fun r12 D13 => some ((0 : Int32), D13))) else (some ((1 : Int32), D9))))) else (some ((0 : Int32), D2)))
set_option maxHeartbeats 4000000 in
set_option maxRecDepth 100000 in
theorem c_X0_grants {l : Launch} {g : GP} {ed : Nat → Nat} {Z : St} {x1 : Int32} {x2 : Int32} {C : St} {r : Int32} {C2 : St} (h : F_X0_grants (gn g) x1 x2 C = some (r, C2)) : Met l yX0_grants (Cond.code yX0_grants cX0_grants 3 (some .boolean) :: lwG) ({ frames := 2, cells := 0, slots := 0, locals := 45 } : Room) (va_Pc [.ref (gA g 19 0), rfv (gA g) 6 x1, .int x2] (PW g C Z ed)) (QG (some (.int r)) g C2 Z) 0 0 (gP g) := by
  refine Met.ofW (cc := cX0_grants) (maxL := 3) (ret := (some .boolean)) (by decide +kernel) rfl ?_
  intro p e s m args below meth c s₁ B hml hv
  obtain ⟨ha, hC, hE, hr, hlk, hH⟩ := g_start B hv
  subst ha
  have hC : CX p s m ([.ref (gA g 19 0), rfv (gA g) 6 x1, .int x2] : List Value).toArray c cX0_grants RX0 g := hC
  have hS : va_S (gP g) s.heap s.heap [] := va_S.rf
  obtain ⟨ls, he, hl⟩ := g_entry m (vs := [.ref (gA g 19 0), rfv (gA g) 6 x1, .int x2]) (n := 3) (List.forall_mem_cons.mpr ⟨rfl, (List.forall_mem_cons.mpr ⟨rfv_cat, (List.forall_mem_cons.mpr ⟨rfl, (fun _ h => absurd h List.not_mem_nil)⟩)⟩)⟩) (Nat.le_of_ble_eq_true rfl)
  rw [he]
  have hl : lv_has ls 3 [(0, .ref (gA g 19 0)), (1, rfv (gA g) 6 x1), (2, .int x2)] := hl
  unfold F_X0_grants at h
  refine lv_aload_n hC.1 hC.2.1 dX0_grants_0 rfl (lv_at hl 0 rfl) ?_
  refine lv_iload_n hC.1 hC.2.1 dX0_grants_1 rfl (lv_at hl 2 rfl) ?_
  obtain ⟨r1, D2, hF3, h⟩ := bd2_some h
  refine gcallV (As := [.int x2]) (rest := []) (Cn := RX0) hC hE hml hH hS (c_X0_freeOf hF3) ⟨wd_687, wd_688, wd_689, wd_13, wd_690⟩ hd_X0_freeOf rfl rfl ⟨Nat.le_of_ble_eq_true rfl, Nat.le_of_ble_eq_true rfl⟩ rfl (hw_recv (q := 19) (i := 0) hC hH ⟨Nat.zero_lt_one, fun h => absurd h (by decide)⟩ rfl rfl) rfl hl.1 rfl (Nat.le_of_ble_eq_true rfl) dX0_grants_2 ⟨Nat.le_of_ble_eq_true rfl, Nat.le_of_ble_eq_true rfl⟩ (fun ed H locs hH hS => ?_)
  refine W.eq (g2 := F0 m 5 ls [.int r1]) rfl ?_
  refine lv_if_gt (tgt := 10) hC.1 hC.2.1 dX0_grants_5 (by decide) (fun hc4 => ?_) (fun hc4 => ?_)
  · rw [if_pos hc4] at h
    refine lv_aload_n hC.1 hC.2.1 dX0_grants_10 rfl (lv_at hl 0 rfl) ?_
    refine gl_aload_n hC dX0_grants_11 rfl (lv_at hl 1 rfl) ?_
    refine lv_iload_n hC.1 hC.2.1 dX0_grants_12 rfl (lv_at hl 2 rfl) ?_
    refine lv_iconst (v := (1 : Int32)) hC.1 hC.2.1 dX0_grants_13 (by decide) ?_
    obtain ⟨r5, D6, hF7, h⟩ := bd2_some h
    refine gcallV (As := [rfv (gA g) 6 x1, .int x2, .int (1 : Int32)]) (rest := []) (Cn := RX0) hC hE hml hH hS (c_X0_move hF7) ⟨wd_691, wd_693, wp_5, wd_13, wd_694⟩ hd_X0_move rfl rfl ⟨Nat.le_of_ble_eq_true rfl, Nat.le_of_ble_eq_true rfl⟩ rfl (hw_recv (q := 19) (i := 0) hC hH ⟨Nat.zero_lt_one, fun h => absurd h (by decide)⟩ rfl rfl) rfl hl.1 rfl (Nat.le_of_ble_eq_true rfl) dX0_grants_14 ⟨Nat.le_of_ble_eq_true rfl, Nat.le_of_ble_eq_true rfl⟩ (fun ed H locs hH hS => ?_)
    refine W.eq (g2 := F0 m 17 ls []) rfl ?_
    refine lv_aload_n hC.1 hC.2.1 dX0_grants_17 rfl (lv_at hl 0 rfl) ?_
    obtain ⟨r8, D9, hF10, h⟩ := bd2_some h
    refine gcallV (As := []) (rest := []) (Cn := RX0) hC hE hml hH hS (c_X0_allCanEnd hF10) ⟨wd_695, wd_697, wp_6, wd_13, wd_698⟩ hd_X0_allCanEnd rfl rfl ⟨Nat.le_of_ble_eq_true rfl, Nat.le_of_ble_eq_true rfl⟩ rfl (hw_recv (q := 19) (i := 0) hC hH ⟨Nat.zero_lt_one, fun h => absurd h (by decide)⟩ rfl rfl) rfl hl.1 rfl (Nat.le_of_ble_eq_true rfl) dX0_grants_18 ⟨Nat.le_of_ble_eq_true rfl, Nat.le_of_ble_eq_true rfl⟩ (fun ed H locs hH hS => ?_)
    refine W.eq (g2 := F0 m 21 ls [.int r8]) rfl ?_
    refine lv_if_eq (tgt := 26) hC.1 hC.2.1 dX0_grants_21 (by decide) (fun hc11 => ?_) (fun hc11 => ?_)
    · rw [if_pos hc11] at h
      refine lv_aload_n hC.1 hC.2.1 dX0_grants_26 rfl (lv_at hl 0 rfl) ?_
      refine gl_aload_n hC dX0_grants_27 rfl (lv_at hl 1 rfl) ?_
      refine lv_iload_n hC.1 hC.2.1 dX0_grants_28 rfl (lv_at hl 2 rfl) ?_
      refine lv_iconst (v := (-1 : Int32)) hC.1 hC.2.1 dX0_grants_29 (by decide) ?_
      obtain ⟨r12, D13, hF14, h⟩ := bd2_some h
      refine gcallV (As := [rfv (gA g) 6 x1, .int x2, .int (-1 : Int32)]) (rest := []) (Cn := RX0) hC hE hml hH hS (c_X0_move hF14) ⟨wd_691, wd_693, wp_5, wd_13, wd_694⟩ hd_X0_move rfl rfl ⟨Nat.le_of_ble_eq_true rfl, Nat.le_of_ble_eq_true rfl⟩ rfl (hw_recv (q := 19) (i := 0) hC hH ⟨Nat.zero_lt_one, fun h => absurd h (by decide)⟩ rfl rfl) rfl hl.1 rfl (Nat.le_of_ble_eq_true rfl) dX0_grants_30 ⟨Nat.le_of_ble_eq_true rfl, Nat.le_of_ble_eq_true rfl⟩ (fun ed H locs hH hS => ?_)
      refine W.eq (g2 := F0 m 33 ls []) rfl ?_
      refine lv_iconst (v := (0 : Int32)) hC.1 hC.2.1 dX0_grants_33 (by decide) ?_
      cases h
      exact gret_z hC hr hlk (by decide) hH hS (Nat.le_of_ble_eq_true rfl) (Nat.le_of_ble_eq_true rfl) dX0_grants_34
    · rw [if_neg hc11] at h
      refine lv_iconst (v := (1 : Int32)) hC.1 hC.2.1 dX0_grants_24 (by decide) ?_
      cases h
      exact gret_z hC hr hlk (by decide) hH hS (Nat.le_of_ble_eq_true rfl) (Nat.le_of_ble_eq_true rfl) dX0_grants_25
  · rw [if_neg hc4] at h
    refine lv_iconst (v := (0 : Int32)) hC.1 hC.2.1 dX0_grants_8 (by decide) ?_
    cases h
    exact gret_z hC hr hlk (by decide) hH hS (Nat.le_of_ble_eq_true rfl) (Nat.le_of_ble_eq_true rfl) dX0_grants_9
def F_X0_get_91 (n : Nat)   (C : St) : Option (Int32 × St) := some (0, C)
set_option maxHeartbeats 4000000 in
set_option maxRecDepth 100000 in
theorem B_X0_get_91 {p : Program} {l : Launch} {e : Env} {s : State} {m : MethodId} {args : Array Value} {below : List Frame} {meth : Method} {c : Code} {g : GP} {Z : St} (hC : CX p s m args c cX0_get RX0 g) (hE : EZ g s s.heap) (hml : c.maxLocals = 3) (hr : meth.sig.returnType = none) (hlk : meth.locks = false) {r : Int32} {C2 : St}  {C : St} (h : F_X0_get_91 (gn g)   C = some (r, C2)) {ed : Nat → Nat} {H : Heap} {locs : List Loc} {ls : Array Slot} (hH : HW g ed C Z H) (hS : va_S (gP g) s.heap H locs) (hl : lv_has ls 3 []) : W p l e ({ frames := 5, cells := 1, slots := 10, locals := 111 } : Room) s m args below meth c H locs 1 10 (MQ below (QG none g C2 Z) args s 1 10 (gP g)) (F0 m 91 ls []) := by
  unfold F_X0_get_91 at h
  cases h
  exact gret_v hC hr hlk hH hS (Nat.le_of_ble_eq_true rfl) (Nat.le_of_ble_eq_true rfl) dX0_get_91
def F_X0_get_9 (n : Nat)  (x1 : Int32) (C : St) : Option (Int32 × St) := gd (inb x1 6) (st (up C 6 x1.toNatClampNeg 8 0 (4 : Int32)) (fun D2 => F_X0_get_91 n  D2))
set_option maxHeartbeats 4000000 in
set_option maxRecDepth 100000 in
theorem B_X0_get_9 {p : Program} {l : Launch} {e : Env} {s : State} {m : MethodId} {args : Array Value} {below : List Frame} {meth : Method} {c : Code} {g : GP} {Z : St} (hC : CX p s m args c cX0_get RX0 g) (hE : EZ g s s.heap) (hml : c.maxLocals = 3) (hr : meth.sig.returnType = none) (hlk : meth.locks = false) {r : Int32} {C2 : St} {x1 : Int32} {C : St} (h : F_X0_get_9 (gn g)  x1 C = some (r, C2)) {ed : Nat → Nat} {H : Heap} {locs : List Loc} {ls : Array Slot} (hH : HW g ed C Z H) (hS : va_S (gP g) s.heap H locs) (hl : lv_has ls 3 [(1, rfv (gA g) 6 x1)]) : W p l e ({ frames := 5, cells := 1, slots := 10, locals := 111 } : Room) s m args below meth c H locs 0 0 (MQ below (QG none g C2 Z) args s 1 10 (gP g)) (F0 m 9 ls []) := by
  unfold F_X0_get_9 at h
  refine gl_aload_n hC dX0_get_9 rfl (lv_at hl 0 rfl) ?_
  refine lv_iconst (v := (4 : Int32)) hC.1 hC.2.1 dX0_get_10 (by decide) ?_
  obtain ⟨hg1, h⟩ := gd_some h
  obtain ⟨D2, e3, h⟩ := st_some h
  refine pf_RX0_54 hC hH hS (inb_lt hg1)  (rfv_in hg1) dX0_get_11 (fun H locs hH hS => ?_)
  rw [← e3] at hH
  refine lv_goto (tgt := 91) hC.1 hC.2.1 dX0_get_14 (by decide) ?_
  refine W.widen (k := 1) (n := 10) (Nat.le_of_ble_eq_true rfl) (Nat.le_of_ble_eq_true rfl) ?_
  exact B_X0_get_91 hC hE hml hr hlk h hH hS (lv_sub hl [] rfl)
def F_X0_get (n : Nat) (x1 : Int32) (x2 : Int32) (C : St) : Option (Int32 × St) := if x2 < 0 then (F_X0_get_9 n x1 C) else (if x2 < (3 : Int32) then (gd (inb x1 6) (bd2 (F_X5_held n x1 x2 C) (fun r3 D4 => bd2 (F_X5_claimed n x1 x2 D4) (fun r7 D8 => if r3 < r7 then (bd2 (F_X0_grants n x1 x2 D8) (fun r11 D12 => if r11 = 0 then (st (up D12 6 x1.toNatClampNeg 19 0 x2) (fun D15 => bd2 (F_Jx4a65c_add_9ea2d 1 x1 D15) (fun r17 D18 => bd2 (F_X7_suspend n (D18 6 x1.toNatClampNeg 0 0) (6 : Int32) D18) (fun r20 D21 => F_X0_get_91 n  D21)))) else (bd2 (F_X2_complete n x1 ((D12 6 x1.toNatClampNeg 12 0) + (1 : Int32)) D12) (fun r23 D24 => F_X0_get_91 n  D24)))) else (st (up D8 6 x1.toNatClampNeg 8 0 (3 : Int32)) (fun D26 => F_X0_get_91 n  D26)))))) else (F_X0_get_9 n x1 C))
set_option maxHeartbeats 4000000 in
set_option maxRecDepth 100000 in
theorem c_X0_get {l : Launch} {g : GP} {ed : Nat → Nat} {Z : St} {x1 : Int32} {x2 : Int32} {C : St} {r : Int32} {C2 : St} (h : F_X0_get (gn g) x1 x2 C = some (r, C2)) : Met l yX0_get (Cond.code yX0_get cX0_get 3 none :: lwG) ({ frames := 5, cells := 1, slots := 10, locals := 111 } : Room) (va_Pc [.ref (gA g 19 0), rfv (gA g) 6 x1, .int x2] (PW g C Z ed)) (QG none g C2 Z) 1 10 (gP g) := by
  refine Met.ofW (cc := cX0_get) (maxL := 3) (ret := none) (by decide +kernel) rfl ?_
  intro p e s m args below meth c s₁ B hml hv
  obtain ⟨ha, hC, hE, hr, hlk, hH⟩ := g_start B hv
  subst ha
  have hC : CX p s m ([.ref (gA g 19 0), rfv (gA g) 6 x1, .int x2] : List Value).toArray c cX0_get RX0 g := hC
  have hS : va_S (gP g) s.heap s.heap [] := va_S.rf
  obtain ⟨ls, he, hl⟩ := g_entry m (vs := [.ref (gA g 19 0), rfv (gA g) 6 x1, .int x2]) (n := 3) (List.forall_mem_cons.mpr ⟨rfl, (List.forall_mem_cons.mpr ⟨rfv_cat, (List.forall_mem_cons.mpr ⟨rfl, (fun _ h => absurd h List.not_mem_nil)⟩)⟩)⟩) (Nat.le_of_ble_eq_true rfl)
  rw [he]
  have hl : lv_has ls 3 [(0, .ref (gA g 19 0)), (1, rfv (gA g) 6 x1), (2, .int x2)] := hl
  unfold F_X0_get at h
  refine lv_iload_n hC.1 hC.2.1 dX0_get_0 rfl (lv_at hl 2 rfl) ?_
  refine lv_if_lt (tgt := 9) hC.1 hC.2.1 dX0_get_1 (by decide) (fun hc1 => ?_) (fun hc1 => ?_)
  · rw [if_pos hc1] at h
    exact B_X0_get_9 hC hE hml hr hlk h hH hS (lv_sub hl [1] rfl)
  · rw [if_neg hc1] at h
    refine lv_iload_n hC.1 hC.2.1 dX0_get_4 rfl (lv_at hl 2 rfl) ?_
    refine lv_iconst (v := (3 : Int32)) hC.1 hC.2.1 dX0_get_5 (by decide) ?_
    refine lv_icmp_lt (tgt := 17) hC.1 hC.2.1 dX0_get_6 (by decide) (fun hc2 => ?_) (fun hc2 => ?_)
    · rw [if_pos hc2] at h
      refine gl_aload_n hC dX0_get_17 rfl (lv_at hl 1 rfl) ?_
      refine lv_iload_n hC.1 hC.2.1 dX0_get_18 rfl (lv_at hl 2 rfl) ?_
      obtain ⟨hg6, h⟩ := gd_some h
      obtain ⟨r3, D4, hF5, h⟩ := bd2_some h
      refine gcallV (As := [.int x2]) (rest := []) (Cn := RX5) hC hE hml hH hS (c_X5_held hF5) ⟨wd_647, wd_648, wd_649, wd_5, wd_650⟩ hd_X5_held rfl rfl ⟨Nat.le_of_ble_eq_true rfl, Nat.le_of_ble_eq_true rfl⟩ (rfv_in hg6) (hw_recv (q := 6) (i := x1.toNatClampNeg) hC hH ⟨(inb_lt hg6), fun h => absurd h (by decide)⟩ rfl rfl) rfl hl.1 rfl (Nat.le_of_ble_eq_true rfl) dX0_get_19 ⟨Nat.le_of_ble_eq_true rfl, Nat.le_of_ble_eq_true rfl⟩ (fun ed H locs hH hS => ?_)
      refine W.eq (g2 := F0 m 22 ls [.int r3]) rfl ?_
      refine gl_aload_n hC dX0_get_22 rfl (lv_at hl 1 rfl) ?_
      refine lv_iload_n hC.1 hC.2.1 dX0_get_23 rfl (lv_at hl 2 rfl) ?_
      obtain ⟨r7, D8, hF9, h⟩ := bd2_some h
      refine gcallV (As := [.int x2]) (rest := [.int r3]) (Cn := RX5) hC hE hml hH hS (c_X5_claimed hF9) ⟨wd_859, wd_860, wd_861, wd_5, wd_862⟩ hd_X5_claimed rfl rfl ⟨Nat.le_of_ble_eq_true rfl, Nat.le_of_ble_eq_true rfl⟩ (rfv_in hg6) (hw_recv (q := 6) (i := x1.toNatClampNeg) hC hH ⟨(inb_lt hg6), fun h => absurd h (by decide)⟩ rfl rfl) rfl hl.1 rfl (Nat.le_of_ble_eq_true rfl) dX0_get_24 ⟨Nat.le_of_ble_eq_true rfl, Nat.le_of_ble_eq_true rfl⟩ (fun ed H locs hH hS => ?_)
      refine W.eq (g2 := F0 m 27 ls [.int r7, .int r3]) rfl ?_
      refine lv_icmp_lt (tgt := 38) hC.1 hC.2.1 dX0_get_27 (by decide) (fun hc10 => ?_) (fun hc10 => ?_)
      · rw [if_pos hc10] at h
        refine lv_aload_n hC.1 hC.2.1 dX0_get_38 rfl (lv_at hl 0 rfl) ?_
        refine gl_aload_n hC dX0_get_39 rfl (lv_at hl 1 rfl) ?_
        refine lv_iload_n hC.1 hC.2.1 dX0_get_40 rfl (lv_at hl 2 rfl) ?_
        obtain ⟨r11, D12, hF13, h⟩ := bd2_some h
        refine gcallV (As := [rfv (gA g) 6 x1, .int x2]) (rest := []) (Cn := RX0) hC hE hml hH hS (c_X0_grants hF13) ⟨wd_683, wd_685, wp_4, wd_13, wd_686⟩ hd_X0_grants rfl rfl ⟨Nat.le_of_ble_eq_true rfl, Nat.le_of_ble_eq_true rfl⟩ rfl (hw_recv (q := 19) (i := 0) hC hH ⟨Nat.zero_lt_one, fun h => absurd h (by decide)⟩ rfl rfl) rfl hl.1 rfl (Nat.le_of_ble_eq_true rfl) dX0_get_41 ⟨Nat.le_of_ble_eq_true rfl, Nat.le_of_ble_eq_true rfl⟩ (fun ed H locs hH hS => ?_)
        refine W.eq (g2 := F0 m 44 ls [.int r11]) rfl ?_
        refine lv_if_eq (tgt := 64) hC.1 hC.2.1 dX0_get_44 (by decide) (fun hc14 => ?_) (fun hc14 => ?_)
        · rw [if_pos hc14] at h
          refine gl_aload_n hC dX0_get_64 rfl (lv_at hl 1 rfl) ?_
          refine lv_iload_n hC.1 hC.2.1 dX0_get_65 rfl (lv_at hl 2 rfl) ?_
          obtain ⟨D15, e16, h⟩ := st_some h
          refine pf_RX0_73 hC hH hS (inb_lt hg6)  (rfv_in hg6) dX0_get_66 (fun H locs hH hS => ?_)
          rw [← e16] at hH
          refine lv_aload_n hC.1 hC.2.1 dX0_get_69 rfl (lv_at hl 0 rfl) ?_
          refine gf_RX0_18 hC hH rfl dX0_get_70 ?_
          refine gl_aload_n hC dX0_get_73 rfl (lv_at hl 1 rfl) ?_
          obtain ⟨r17, D18, hF19, h⟩ := bd2_some h
          refine gcallV (As := [rfv (gA g) 6 x1]) (rest := []) (Cn := RJx4a65c) hC hE hml hH hS (c_Jx4a65c_add_9ea2d (Nat.le_of_ble_eq_true rfl) hF19) ⟨wd_863, wd_744, wd_745, wd_11, wd_746⟩ hd_Jx4a65c_add_9ea2d rfl rfl ⟨Nat.le_of_ble_eq_true rfl, Nat.le_of_ble_eq_true rfl⟩ rfl (hw_recv (q := 17) (i := 1) hC hH ⟨(Nat.le_of_ble_eq_true rfl), fun h => absurd h (by decide)⟩ rfl rfl) rfl hl.1 rfl (Nat.le_of_ble_eq_true rfl) dX0_get_74 ⟨Nat.le_of_ble_eq_true rfl, Nat.le_of_ble_eq_true rfl⟩ (fun ed H locs hH hS => ?_)
          refine W.eq (g2 := F0 m 77 ls [.int r17]) rfl ?_
          refine lv_pop hC.1 hC.2.1 dX0_get_77 rfl ?_
          refine lv_aload_n hC.1 hC.2.1 dX0_get_78 rfl (lv_at hl 0 rfl) ?_
          refine gf_RX0_29 hC hH rfl dX0_get_79 ?_
          refine gl_aload_n hC dX0_get_82 rfl (lv_at hl 1 rfl) ?_
          refine gf_RX0_80 hC hH (inb_lt hg6) (rfv_in hg6) dX0_get_83 ?_
          refine lv_bipush (v := (6 : Int32)) hC.1 hC.2.1 dX0_get_86 (by decide) ?_
          obtain ⟨r20, D21, hF22, h⟩ := bd2_some h
          refine gcallV (As := [.int (D18 6 x1.toNatClampNeg 0 0), .int (6 : Int32)]) (rest := []) (Cn := RX7) hC hE hml hH hS (c_X7_suspend hF22) ⟨wd_864, wd_303, wd_304, wd_2, wd_305⟩ hd_X7_suspend rfl rfl ⟨Nat.le_of_ble_eq_true rfl, Nat.le_of_ble_eq_true rfl⟩ rfl (hw_recv (q := 1) (i := 0) hC hH ⟨Nat.zero_lt_one, fun h => absurd h (by decide)⟩ rfl rfl) rfl hl.1 rfl (Nat.le_of_ble_eq_true rfl) dX0_get_88 ⟨Nat.le_of_ble_eq_true rfl, Nat.le_of_ble_eq_true rfl⟩ (fun ed H locs hH hS => ?_)
          refine W.eq (g2 := F0 m 91 ls []) rfl ?_
          exact B_X0_get_91 hC hE hml hr hlk h hH hS (lv_sub hl [] rfl)
        · rw [if_neg hc14] at h
          refine lv_aload_n hC.1 hC.2.1 dX0_get_47 rfl (lv_at hl 0 rfl) ?_
          refine gf_RX0_33 hC hH rfl dX0_get_48 ?_
          refine gl_aload_n hC dX0_get_51 rfl (lv_at hl 1 rfl) ?_
          refine gl_aload_n hC dX0_get_52 rfl (lv_at hl 1 rfl) ?_
          refine gf_RX0_64 hC hH (inb_lt hg6) (rfv_in hg6) dX0_get_53 ?_
          refine lv_iconst (v := (1 : Int32)) hC.1 hC.2.1 dX0_get_56 (by decide) ?_
          refine lv_iadd hC.1 hC.2.1 dX0_get_57 ?_
          obtain ⟨r23, D24, hF25, h⟩ := bd2_some h
          refine gcallV (As := [rfv (gA g) 6 x1, .int ((D12 6 x1.toNatClampNeg 12 0) + (1 : Int32))]) (rest := []) (Cn := RX2) hC hE hml hH hS (c_X2_complete hF25) ⟨wd_718, wd_719, wd_720, wd_6, wd_721⟩ hd_X2_complete rfl rfl ⟨Nat.le_of_ble_eq_true rfl, Nat.le_of_ble_eq_true rfl⟩ rfl (hw_recv (q := 12) (i := 0) hC hH ⟨Nat.zero_lt_one, fun h => absurd h (by decide)⟩ rfl rfl) rfl hl.1 rfl (Nat.le_of_ble_eq_true rfl) dX0_get_58 ⟨Nat.le_of_ble_eq_true rfl, Nat.le_of_ble_eq_true rfl⟩ (fun ed H locs hH hS => ?_)
          refine W.eq (g2 := F0 m 61 ls []) rfl ?_
          refine lv_goto (tgt := 91) hC.1 hC.2.1 dX0_get_61 (by decide) ?_
          refine W.widen (k := 1) (n := 10) (Nat.le_of_ble_eq_true rfl) (Nat.le_of_ble_eq_true rfl) ?_
          exact B_X0_get_91 hC hE hml hr hlk h hH hS (lv_sub hl [] rfl)
      · rw [if_neg hc10] at h
        refine gl_aload_n hC dX0_get_30 rfl (lv_at hl 1 rfl) ?_
        refine lv_iconst (v := (3 : Int32)) hC.1 hC.2.1 dX0_get_31 (by decide) ?_
        obtain ⟨D26, e27, h⟩ := st_some h
        refine pf_RX0_54 hC hH hS (inb_lt hg6)  (rfv_in hg6) dX0_get_32 (fun H locs hH hS => ?_)
        rw [← e27] at hH
        refine lv_goto (tgt := 91) hC.1 hC.2.1 dX0_get_35 (by decide) ?_
        refine W.widen (k := 1) (n := 10) (Nat.le_of_ble_eq_true rfl) (Nat.le_of_ble_eq_true rfl) ?_
        exact B_X0_get_91 hC hE hml hr hlk h hH hS (lv_sub hl [] rfl)
    · rw [if_neg hc2] at h
      exact B_X0_get_9 hC hE hml hr hlk h hH hS (lv_sub hl [1] rfl)
def F_X0_takesBack_17 (n : Nat)  (x1 : Int32) (C : St) : Option (Int32 × St) := gd (inb x1 6) (st (up C 6 x1.toNatClampNeg 8 0 (4 : Int32)) (fun D2 => some ((0 : Int32), D2)))
set_option maxHeartbeats 4000000 in
set_option maxRecDepth 100000 in
theorem B_X0_takesBack_17 {p : Program} {l : Launch} {e : Env} {s : State} {m : MethodId} {args : Array Value} {below : List Frame} {meth : Method} {c : Code} {g : GP} {Z : St} (hC : CX p s m args c cX0_takesBack RX0 g) (hE : EZ g s s.heap) (hml : c.maxLocals = 3) (hr : meth.sig.returnType = (some .boolean)) (hlk : meth.locks = false) {r : Int32} {C2 : St} {x1 : Int32} {C : St} (h : F_X0_takesBack_17 (gn g)  x1 C = some (r, C2)) {ed : Nat → Nat} {H : Heap} {locs : List Loc} {ls : Array Slot} (hH : HW g ed C Z H) (hS : va_S (gP g) s.heap H locs) (hl : lv_has ls 3 [(1, rfv (gA g) 6 x1)]) : W p l e ({ frames := 3, cells := 0, slots := 0, locals := 65 } : Room) s m args below meth c H locs 0 0 (MQ below (QG (some (.int r)) g C2 Z) args s 0 0 (gP g)) (F0 m 17 ls []) := by
  unfold F_X0_takesBack_17 at h
  refine gl_aload_n hC dX0_takesBack_17 rfl (lv_at hl 0 rfl) ?_
  refine lv_iconst (v := (4 : Int32)) hC.1 hC.2.1 dX0_takesBack_18 (by decide) ?_
  obtain ⟨hg1, h⟩ := gd_some h
  obtain ⟨D2, e3, h⟩ := st_some h
  refine pf_RX0_54 hC hH hS (inb_lt hg1)  (rfv_in hg1) dX0_takesBack_19 (fun H locs hH hS => ?_)
  rw [← e3] at hH
  refine lv_iconst (v := (0 : Int32)) hC.1 hC.2.1 dX0_takesBack_22 (by decide) ?_
  cases h
  exact gret_z hC hr hlk (by decide) hH hS (Nat.le_of_ble_eq_true rfl) (Nat.le_of_ble_eq_true rfl) dX0_takesBack_23
def F_X0_takesBack_52 (n : Nat)  (x1 : Int32) (x2 : Int32) (C : St) : Option (Int32 × St) := bd2 (F_X0_move n x1 x2 (-1 : Int32) C) (fun r1 D2 => gd (inb x1 6) (bd2 (F_X2_complete n x1 ((D2 6 x1.toNatClampNeg 12 0) + (1 : Int32)) D2) (fun r5 D6 => some ((1 : Int32), D6))))
set_option maxHeartbeats 4000000 in
set_option maxRecDepth 100000 in
theorem B_X0_takesBack_52 {p : Program} {l : Launch} {e : Env} {s : State} {m : MethodId} {args : Array Value} {below : List Frame} {meth : Method} {c : Code} {g : GP} {Z : St} (hC : CX p s m args c cX0_takesBack RX0 g) (hE : EZ g s s.heap) (hml : c.maxLocals = 3) (hr : meth.sig.returnType = (some .boolean)) (hlk : meth.locks = false) {r : Int32} {C2 : St} {x1 : Int32} {x2 : Int32} {C : St} (h : F_X0_takesBack_52 (gn g)  x1 x2 C = some (r, C2)) {ed : Nat → Nat} {H : Heap} {locs : List Loc} {ls : Array Slot} (hH : HW g ed C Z H) (hS : va_S (gP g) s.heap H locs) (hl : lv_has ls 3 [(0, .ref (gA g 19 0)), (1, rfv (gA g) 6 x1), (2, .int x2)]) : W p l e ({ frames := 3, cells := 0, slots := 0, locals := 65 } : Room) s m args below meth c H locs 0 0 (MQ below (QG (some (.int r)) g C2 Z) args s 0 0 (gP g)) (F0 m 52 ls []) := by
  unfold F_X0_takesBack_52 at h
  refine lv_aload_n hC.1 hC.2.1 dX0_takesBack_52 rfl (lv_at hl 0 rfl) ?_
  refine gl_aload_n hC dX0_takesBack_53 rfl (lv_at hl 1 rfl) ?_
  refine lv_iload_n hC.1 hC.2.1 dX0_takesBack_54 rfl (lv_at hl 2 rfl) ?_
  refine lv_iconst (v := (-1 : Int32)) hC.1 hC.2.1 dX0_takesBack_55 (by decide) ?_
  obtain ⟨r1, D2, hF3, h⟩ := bd2_some h
  refine gcallV (As := [rfv (gA g) 6 x1, .int x2, .int (-1 : Int32)]) (rest := []) (Cn := RX0) hC hE hml hH hS (c_X0_move hF3) ⟨wd_691, wd_693, wp_5, wd_13, wd_694⟩ hd_X0_move rfl rfl ⟨Nat.le_of_ble_eq_true rfl, Nat.le_of_ble_eq_true rfl⟩ rfl (hw_recv (q := 19) (i := 0) hC hH ⟨Nat.zero_lt_one, fun h => absurd h (by decide)⟩ rfl rfl) rfl hl.1 rfl (Nat.le_of_ble_eq_true rfl) dX0_takesBack_56 ⟨Nat.le_of_ble_eq_true rfl, Nat.le_of_ble_eq_true rfl⟩ (fun ed H locs hH hS => ?_)
  refine W.eq (g2 := F0 m 59 ls []) rfl ?_
  refine lv_aload_n hC.1 hC.2.1 dX0_takesBack_59 rfl (lv_at hl 0 rfl) ?_
  refine gf_RX0_33 hC hH rfl dX0_takesBack_60 ?_
  refine gl_aload_n hC dX0_takesBack_63 rfl (lv_at hl 1 rfl) ?_
  refine gl_aload_n hC dX0_takesBack_64 rfl (lv_at hl 1 rfl) ?_
  obtain ⟨hg4, h⟩ := gd_some h
  refine gf_RX0_64 hC hH (inb_lt hg4) (rfv_in hg4) dX0_takesBack_65 ?_
  refine lv_iconst (v := (1 : Int32)) hC.1 hC.2.1 dX0_takesBack_68 (by decide) ?_
  refine lv_iadd hC.1 hC.2.1 dX0_takesBack_69 ?_
  obtain ⟨r5, D6, hF7, h⟩ := bd2_some h
  refine gcallV (As := [rfv (gA g) 6 x1, .int ((D2 6 x1.toNatClampNeg 12 0) + (1 : Int32))]) (rest := []) (Cn := RX2) hC hE hml hH hS (c_X2_complete hF7) ⟨wd_718, wd_719, wd_720, wd_6, wd_721⟩ hd_X2_complete rfl rfl ⟨Nat.le_of_ble_eq_true rfl, Nat.le_of_ble_eq_true rfl⟩ rfl (hw_recv (q := 12) (i := 0) hC hH ⟨Nat.zero_lt_one, fun h => absurd h (by decide)⟩ rfl rfl) rfl hl.1 rfl (Nat.le_of_ble_eq_true rfl) dX0_takesBack_70 ⟨Nat.le_of_ble_eq_true rfl, Nat.le_of_ble_eq_true rfl⟩ (fun ed H locs hH hS => ?_)
  refine W.eq (g2 := F0 m 73 ls []) rfl ?_
  refine lv_iconst (v := (1 : Int32)) hC.1 hC.2.1 dX0_takesBack_73 (by decide) ?_
  cases h
  exact gret_z hC hr hlk (by decide) hH hS (Nat.le_of_ble_eq_true rfl) (Nat.le_of_ble_eq_true rfl) dX0_takesBack_74
def F_X0_takesBack (n : Nat) (x1 : Int32) (x2 : Int32) (C : St) : Option (Int32 × St) := if x2 < 0 then (F_X0_takesBack_17 n x1 C) else (if (3 : Int32) ≤ x2 then (F_X0_takesBack_17 n x1 C) else (gd (inb x1 6) (bd2 (F_X5_held n x1 x2 C) (fun r3 D4 => if 0 < r3 then (if x2 = 0 then (F_X0_takesBack_52 n x1 x2 D4) else (bd2 (F_X8_size n (x1.toNatClampNeg + 2) D4) (fun r9 D10 => if r9 ≤ 0 then (F_X0_takesBack_52 n x1 x2 D10) else (bd2 (F_X7_suspend n (D10 6 x1.toNatClampNeg 0 0) (4 : Int32) D10) (fun r13 D14 => some ((0 : Int32), D14)))))) else (F_X0_takesBack_17 n x1 D4)))))
set_option maxHeartbeats 4000000 in
set_option maxRecDepth 100000 in
theorem c_X0_takesBack {l : Launch} {g : GP} {ed : Nat → Nat} {Z : St} {x1 : Int32} {x2 : Int32} {C : St} {r : Int32} {C2 : St} (h : F_X0_takesBack (gn g) x1 x2 C = some (r, C2)) : Met l yX0_takesBack (Cond.code yX0_takesBack cX0_takesBack 3 (some .boolean) :: lwG) ({ frames := 3, cells := 0, slots := 0, locals := 65 } : Room) (va_Pc [.ref (gA g 19 0), rfv (gA g) 6 x1, .int x2] (PW g C Z ed)) (QG (some (.int r)) g C2 Z) 0 0 (gP g) := by
  refine Met.ofW (cc := cX0_takesBack) (maxL := 3) (ret := (some .boolean)) (by decide +kernel) rfl ?_
  intro p e s m args below meth c s₁ B hml hv
  obtain ⟨ha, hC, hE, hr, hlk, hH⟩ := g_start B hv
  subst ha
  have hC : CX p s m ([.ref (gA g 19 0), rfv (gA g) 6 x1, .int x2] : List Value).toArray c cX0_takesBack RX0 g := hC
  have hS : va_S (gP g) s.heap s.heap [] := va_S.rf
  obtain ⟨ls, he, hl⟩ := g_entry m (vs := [.ref (gA g 19 0), rfv (gA g) 6 x1, .int x2]) (n := 3) (List.forall_mem_cons.mpr ⟨rfl, (List.forall_mem_cons.mpr ⟨rfv_cat, (List.forall_mem_cons.mpr ⟨rfl, (fun _ h => absurd h List.not_mem_nil)⟩)⟩)⟩) (Nat.le_of_ble_eq_true rfl)
  rw [he]
  have hl : lv_has ls 3 [(0, .ref (gA g 19 0)), (1, rfv (gA g) 6 x1), (2, .int x2)] := hl
  unfold F_X0_takesBack at h
  refine lv_iload_n hC.1 hC.2.1 dX0_takesBack_0 rfl (lv_at hl 2 rfl) ?_
  refine lv_if_lt (tgt := 17) hC.1 hC.2.1 dX0_takesBack_1 (by decide) (fun hc1 => ?_) (fun hc1 => ?_)
  · rw [if_pos hc1] at h
    exact B_X0_takesBack_17 hC hE hml hr hlk h hH hS (lv_sub hl [1] rfl)
  · rw [if_neg hc1] at h
    refine lv_iload_n hC.1 hC.2.1 dX0_takesBack_4 rfl (lv_at hl 2 rfl) ?_
    refine lv_iconst (v := (3 : Int32)) hC.1 hC.2.1 dX0_takesBack_5 (by decide) ?_
    refine lv_icmp_ge (tgt := 17) hC.1 hC.2.1 dX0_takesBack_6 (by decide) (fun hc2 => ?_) (fun hc2 => ?_)
    · rw [if_pos hc2] at h
      exact B_X0_takesBack_17 hC hE hml hr hlk h hH hS (lv_sub hl [1] rfl)
    · rw [if_neg hc2] at h
      refine gl_aload_n hC dX0_takesBack_9 rfl (lv_at hl 1 rfl) ?_
      refine lv_iload_n hC.1 hC.2.1 dX0_takesBack_10 rfl (lv_at hl 2 rfl) ?_
      obtain ⟨hg6, h⟩ := gd_some h
      obtain ⟨r3, D4, hF5, h⟩ := bd2_some h
      refine gcallV (As := [.int x2]) (rest := []) (Cn := RX5) hC hE hml hH hS (c_X5_held hF5) ⟨wd_647, wd_648, wd_649, wd_5, wd_650⟩ hd_X5_held rfl rfl ⟨Nat.le_of_ble_eq_true rfl, Nat.le_of_ble_eq_true rfl⟩ (rfv_in hg6) (hw_recv (q := 6) (i := x1.toNatClampNeg) hC hH ⟨(inb_lt hg6), fun h => absurd h (by decide)⟩ rfl rfl) rfl hl.1 rfl (Nat.le_of_ble_eq_true rfl) dX0_takesBack_11 ⟨Nat.le_of_ble_eq_true rfl, Nat.le_of_ble_eq_true rfl⟩ (fun ed H locs hH hS => ?_)
      refine W.eq (g2 := F0 m 14 ls [.int r3]) rfl ?_
      refine lv_if_gt (tgt := 24) hC.1 hC.2.1 dX0_takesBack_14 (by decide) (fun hc7 => ?_) (fun hc7 => ?_)
      · rw [if_pos hc7] at h
        refine lv_iload_n hC.1 hC.2.1 dX0_takesBack_24 rfl (lv_at hl 2 rfl) ?_
        refine lv_if_eq (tgt := 52) hC.1 hC.2.1 dX0_takesBack_25 (by decide) (fun hc8 => ?_) (fun hc8 => ?_)
        · rw [if_pos hc8] at h
          exact B_X0_takesBack_52 hC hE hml hr hlk h hH hS (lv_sub hl [0, 1, 2] rfl)
        · rw [if_neg hc8] at h
          refine gl_aload_n hC dX0_takesBack_28 rfl (lv_at hl 1 rfl) ?_
          refine gf_RX0_89 hC hH (inb_lt hg6) (rfv_in hg6) dX0_takesBack_29 ?_
          obtain ⟨r9, D10, hF11, h⟩ := bd2_some h
          refine gcallV (As := []) (rest := []) (Cn := RX8) hC hE hml hH hS (c_X8_size (lt8 hg6) hF11) ⟨wd_869, wd_568, wd_569, wd_4, wd_570⟩ hd_X8_size rfl rfl ⟨Nat.le_of_ble_eq_true rfl, Nat.le_of_ble_eq_true rfl⟩ rfl (hw_recv (q := 2) (i := (x1.toNatClampNeg + 2)) hC hH ⟨(lt8 hg6), fun h => absurd h (by decide)⟩ rfl rfl) rfl hl.1 rfl (Nat.le_of_ble_eq_true rfl) dX0_takesBack_32 ⟨Nat.le_of_ble_eq_true rfl, Nat.le_of_ble_eq_true rfl⟩ (fun ed H locs hH hS => ?_)
          refine W.eq (g2 := F0 m 35 ls [.int r9]) rfl ?_
          refine lv_if_le (tgt := 52) hC.1 hC.2.1 dX0_takesBack_35 (by decide) (fun hc12 => ?_) (fun hc12 => ?_)
          · rw [if_pos hc12] at h
            exact B_X0_takesBack_52 hC hE hml hr hlk h hH hS (lv_sub hl [0, 1, 2] rfl)
          · rw [if_neg hc12] at h
            refine lv_aload_n hC.1 hC.2.1 dX0_takesBack_38 rfl (lv_at hl 0 rfl) ?_
            refine gf_RX0_29 hC hH rfl dX0_takesBack_39 ?_
            refine gl_aload_n hC dX0_takesBack_42 rfl (lv_at hl 1 rfl) ?_
            refine gf_RX0_80 hC hH (inb_lt hg6) (rfv_in hg6) dX0_takesBack_43 ?_
            refine lv_iconst (v := (4 : Int32)) hC.1 hC.2.1 dX0_takesBack_46 (by decide) ?_
            obtain ⟨r13, D14, hF15, h⟩ := bd2_some h
            refine gcallV (As := [.int (D10 6 x1.toNatClampNeg 0 0), .int (4 : Int32)]) (rest := []) (Cn := RX7) hC hE hml hH hS (c_X7_suspend hF15) ⟨wd_864, wd_303, wd_304, wd_2, wd_305⟩ hd_X7_suspend rfl rfl ⟨Nat.le_of_ble_eq_true rfl, Nat.le_of_ble_eq_true rfl⟩ rfl (hw_recv (q := 1) (i := 0) hC hH ⟨Nat.zero_lt_one, fun h => absurd h (by decide)⟩ rfl rfl) rfl hl.1 rfl (Nat.le_of_ble_eq_true rfl) dX0_takesBack_47 ⟨Nat.le_of_ble_eq_true rfl, Nat.le_of_ble_eq_true rfl⟩ (fun ed H locs hH hS => ?_)
            refine W.eq (g2 := F0 m 50 ls []) rfl ?_
            refine lv_iconst (v := (0 : Int32)) hC.1 hC.2.1 dX0_takesBack_50 (by decide) ?_
            cases h
            exact gret_z hC hr hlk (by decide) hH hS (Nat.le_of_ble_eq_true rfl) (Nat.le_of_ble_eq_true rfl) dX0_takesBack_51
      · rw [if_neg hc7] at h
        exact B_X0_takesBack_17 hC hE hml hr hlk h hH hS (lv_sub hl [1] rfl)
def F_X0_giveAllBack_36 (n : Nat)   (C : St) : Option (Int32 × St) := some (0, C)
set_option maxHeartbeats 4000000 in
set_option maxRecDepth 100000 in
theorem B_X0_giveAllBack_36 {p : Program} {l : Launch} {e : Env} {s : State} {m : MethodId} {args : Array Value} {below : List Frame} {meth : Method} {c : Code} {g : GP} {Z : St} (hC : CX p s m args c cX0_giveAllBack RX0 g) (hE : EZ g s s.heap) (hml : c.maxLocals = 3) (hr : meth.sig.returnType = none) (hlk : meth.locks = false) {r : Int32} {C2 : St}  {C : St} (h : F_X0_giveAllBack_36 (gn g)   C = some (r, C2)) {ed : Nat → Nat} {H : Heap} {locs : List Loc} {ls : Array Slot} (hH : HW g ed C Z H) (hS : va_S (gP g) s.heap H locs) (hl : lv_has ls 3 []) : W p l e ({ frames := 1, cells := 0, slots := 0, locals := 21 } : Room) s m args below meth c H locs 0 0 (MQ below (QG none g C2 Z) args s 0 0 (gP g)) (F0 m 36 ls []) := by
  unfold F_X0_giveAllBack_36 at h
  cases h
  exact gret_v hC hr hlk hH hS (Nat.le_of_ble_eq_true rfl) (Nat.le_of_ble_eq_true rfl) dX0_giveAllBack_36
def F_X0_giveAllBack_2 (n : Nat)  : Nat → Int32 → Int32 → St → Option (Int32 × St)
  | 0, _, _, _ => none
  | fu + 1, x1, x2, C => if (3 : Int32) ≤ x2 then (F_X0_giveAllBack_36 n  C) else (if (3 : Int32) ≤ x2 then (F_X0_giveAllBack_36 n  C) else (gd (inb x2 3) (gd (inb x1 6) (bd2 (F_X5_held n x1 x2 C) (fun r4 D5 => st (up D5 20 0 0 x2.toNatClampNeg ((C 20 0 0 x2.toNatClampNeg) + r4)) (fun D8 => F_X0_giveAllBack_2 n fu x1 (x2 + 1) D8))))))
set_option maxHeartbeats 4000000 in
set_option maxRecDepth 100000 in
theorem B_X0_giveAllBack_2 {p : Program} {l : Launch} {e : Env} {s : State} {m : MethodId} {args : Array Value} {below : List Frame} {meth : Method} {c : Code} {g : GP} {Z : St} (hC : CX p s m args c cX0_giveAllBack RX0 g) (hE : EZ g s s.heap) (hml : c.maxLocals = 3) (hr : meth.sig.returnType = none) (hlk : meth.locks = false) {r : Int32} {C2 : St} : ∀ (fu : Nat) (x1 : Int32) (x2 : Int32) (C : St), F_X0_giveAllBack_2 (gn g)  fu x1 x2 C = some (r, C2) → ∀ (ed : Nat → Nat) (H : Heap) (locs : List Loc) (ls : Array Slot), HW g ed C Z H → va_S (gP g) s.heap H locs → lv_has ls 3 [(0, .ref (gA g 19 0)), (1, rfv (gA g) 6 x1), (2, .int x2)] → W p l e ({ frames := 1, cells := 0, slots := 0, locals := 21 } : Room) s m args below meth c H locs 0 0 (MQ below (QG none g C2 Z) args s 0 0 (gP g)) (F0 m 2 ls []) := by
  intro fu
  induction fu with
  | zero =>
    intro x1 x2 C h
    cases h
  | succ fu ih =>
    intro x1 x2 C h ed H locs ls hH hS hl
    rw [F_X0_giveAllBack_2] at h
    refine lv_iload_n hC.1 hC.2.1 dX0_giveAllBack_2 rfl (lv_at hl 2 rfl) ?_
    refine lv_iconst (v := (3 : Int32)) hC.1 hC.2.1 dX0_giveAllBack_3 (by decide) ?_
    refine lv_icmp_ge (tgt := 36) hC.1 hC.2.1 dX0_giveAllBack_4 (by decide) (fun hc1 => ?_) (fun hc1 => ?_)
    · rw [if_pos hc1] at h
      exact B_X0_giveAllBack_36 hC hE hml hr hlk h hH hS (lv_sub hl [] rfl)
    · rw [if_neg hc1] at h
      refine lv_iload_n hC.1 hC.2.1 dX0_giveAllBack_7 rfl (lv_at hl 2 rfl) ?_
      refine lv_aload_n hC.1 hC.2.1 dX0_giveAllBack_8 rfl (lv_at hl 0 rfl) ?_
      refine gf_RX0_9 hC hH rfl dX0_giveAllBack_9 ?_
      refine ln_20 hC hH rfl dX0_giveAllBack_12 ?_
      refine lv_icmp_ge (tgt := 36) hC.1 hC.2.1 dX0_giveAllBack_13 (by decide) (fun hc2 => ?_) (fun hc2 => ?_)
      · rw [if_pos hc2] at h
        exact B_X0_giveAllBack_36 hC hE hml hr hlk h hH hS (lv_sub hl [] rfl)
      · rw [if_neg hc2] at h
        refine lv_aload_n hC.1 hC.2.1 dX0_giveAllBack_16 rfl (lv_at hl 0 rfl) ?_
        refine gf_RX0_9 hC hH rfl dX0_giveAllBack_17 ?_
        refine lv_iload_n hC.1 hC.2.1 dX0_giveAllBack_20 rfl (lv_at hl 2 rfl) ?_
        refine lv_dup2_11 hC.1 hC.2.1 dX0_giveAllBack_21 rfl rfl ?_
        obtain ⟨hg3, h⟩ := gd_some h
        refine al_20 hC hH hg3 rfl dX0_giveAllBack_22 ?_
        refine gl_aload_n hC dX0_giveAllBack_23 rfl (lv_at hl 1 rfl) ?_
        refine lv_iload_n hC.1 hC.2.1 dX0_giveAllBack_24 rfl (lv_at hl 2 rfl) ?_
        obtain ⟨hg7, h⟩ := gd_some h
        obtain ⟨r4, D5, hF6, h⟩ := bd2_some h
        refine gcallV (As := [.int x2]) (rest := [.int (C 20 0 0 x2.toNatClampNeg), .int x2, .ref (gA g 20 0)]) (Cn := RX5) hC hE hml hH hS (c_X5_held hF6) ⟨wd_647, wd_648, wd_649, wd_5, wd_650⟩ hd_X5_held rfl rfl ⟨Nat.le_of_ble_eq_true rfl, Nat.le_of_ble_eq_true rfl⟩ (rfv_in hg7) (hw_recv (q := 6) (i := x1.toNatClampNeg) hC hH ⟨(inb_lt hg7), fun h => absurd h (by decide)⟩ rfl rfl) rfl hl.1 rfl (Nat.le_of_ble_eq_true rfl) dX0_giveAllBack_25 ⟨Nat.le_of_ble_eq_true rfl, Nat.le_of_ble_eq_true rfl⟩ (fun ed H locs hH hS => ?_)
        refine W.eq (g2 := F0 m 28 ls [.int r4, .int (C 20 0 0 x2.toNatClampNeg), .int x2, .ref (gA g 20 0)]) rfl ?_
        refine lv_iadd hC.1 hC.2.1 dX0_giveAllBack_28 ?_
        obtain ⟨D8, e9, h⟩ := st_some h
        refine as_20 hC hH hS hg3 rfl dX0_giveAllBack_29 (fun H locs hH hS => ?_)
        rw [← e9] at hH
        refine lv_iinc (v := x2 + 1) (lv' := [(2, .int (x2 + 1)), (0, .ref (gA g 19 0)), (1, rfv (gA g) 6 x1)]) hC.1 hC.2.1 dX0_giveAllBack_30 hl (k := 2) rfl rfl (by decide) (by simp [rfv_cat]) (fun ls hl => ?_)
        refine lv_goto (tgt := 2) hC.1 hC.2.1 dX0_giveAllBack_33 (by decide) ?_
        exact ih _ _ _ h _ _ _ _ hH hS (lv_sub hl [1, 2, 0] rfl)
def F_X0_giveAllBack (n : Nat) (x1 : Int32) (C : St) : Option (Int32 × St) := F_X0_giveAllBack_2 n 1000 x1 (0 : Int32) C
set_option maxHeartbeats 4000000 in
set_option maxRecDepth 100000 in
theorem c_X0_giveAllBack {l : Launch} {g : GP} {ed : Nat → Nat} {Z : St} {x1 : Int32} {C : St} {r : Int32} {C2 : St} (h : F_X0_giveAllBack (gn g) x1 C = some (r, C2)) : Met l yX0_giveAllBack (Cond.code yX0_giveAllBack cX0_giveAllBack 3 none :: lwG) ({ frames := 1, cells := 0, slots := 0, locals := 21 } : Room) (va_Pc [.ref (gA g 19 0), rfv (gA g) 6 x1] (PW g C Z ed)) (QG none g C2 Z) 0 0 (gP g) := by
  refine Met.ofW (cc := cX0_giveAllBack) (maxL := 3) (ret := none) (by decide +kernel) rfl ?_
  intro p e s m args below meth c s₁ B hml hv
  obtain ⟨ha, hC, hE, hr, hlk, hH⟩ := g_start B hv
  subst ha
  have hC : CX p s m ([.ref (gA g 19 0), rfv (gA g) 6 x1] : List Value).toArray c cX0_giveAllBack RX0 g := hC
  have hS : va_S (gP g) s.heap s.heap [] := va_S.rf
  obtain ⟨ls, he, hl⟩ := g_entry m (vs := [.ref (gA g 19 0), rfv (gA g) 6 x1]) (n := 3) (List.forall_mem_cons.mpr ⟨rfl, (List.forall_mem_cons.mpr ⟨rfv_cat, (fun _ h => absurd h List.not_mem_nil)⟩)⟩) (Nat.le_of_ble_eq_true rfl)
  rw [he]
  have hl : lv_has ls 3 [(0, .ref (gA g 19 0)), (1, rfv (gA g) 6 x1)] := hl
  unfold F_X0_giveAllBack at h
  refine lv_iconst (v := (0 : Int32)) hC.1 hC.2.1 dX0_giveAllBack_0 (by decide) ?_
  refine lv_istore_n (i := 2) (lv' := [(2, .int (0 : Int32)), (0, .ref (gA g 19 0)), (1, rfv (gA g) 6 x1)]) hC.1 hC.2.1 dX0_giveAllBack_1 rfl hl (by decide) (by simp [rfv_cat]) (fun ls hl => ?_)
  exact B_X0_giveAllBack_2 hC hE hml hr hlk 1000 _ _ _ h _ _ _ _ hH hS (lv_sub hl [1, 2, 0] rfl)
def F_X0_grantWaiting_98 (n : Nat) (k12 : Int32 → Int32 → Int32 → St → Option (Int32 × St)) (x1 : Int32) (x2 : Int32) (x3 : Int32) (C : St) : Option (Int32 × St) := k12 x1 x2 (x3 + 1) C
set_option maxHeartbeats 4000000 in
set_option maxRecDepth 100000 in
theorem B_X0_grantWaiting_98 {p : Program} {l : Launch} {e : Env} {s : State} {m : MethodId} {args : Array Value} {below : List Frame} {meth : Method} {c : Code} {g : GP} {Z : St} (hC : CX p s m args c cX0_grantWaiting RX0 g) (hE : EZ g s s.heap) (hml : c.maxLocals = 5) (hr : meth.sig.returnType = none) (hlk : meth.locks = false) {r : Int32} {C2 : St} {k12 : Int32 → Int32 → Int32 → St → Option (Int32 × St)} (hk12 : ∀ (x1 : Int32) (x2 : Int32) (x3 : Int32) (C : St), k12 x1 x2 x3 C = some (r, C2) → ∀ (ed : Nat → Nat) (H : Heap) (locs : List Loc) (ls : Array Slot), HW g ed C Z H → va_S (gP g) s.heap H locs → lv_has ls 5 [(0, .ref (gA g 19 0)), (1, .int x1), (2, .int x2), (3, .int x3)] → W p l e ({ frames := 3, cells := 0, slots := 0, locals := 106 } : Room) s m args below meth c H locs 0 0 (MQ below (QG none g C2 Z) args s 0 0 (gP g)) (F0 m 12 ls [])) {x1 : Int32} {x2 : Int32} {x3 : Int32} {C : St} (h : F_X0_grantWaiting_98 (gn g) k12 x1 x2 x3 C = some (r, C2)) {ed : Nat → Nat} {H : Heap} {locs : List Loc} {ls : Array Slot} (hH : HW g ed C Z H) (hS : va_S (gP g) s.heap H locs) (hl : lv_has ls 5 [(0, .ref (gA g 19 0)), (1, .int x1), (2, .int x2), (3, .int x3)]) : W p l e ({ frames := 3, cells := 0, slots := 0, locals := 106 } : Room) s m args below meth c H locs 0 0 (MQ below (QG none g C2 Z) args s 0 0 (gP g)) (F0 m 98 ls []) := by
  unfold F_X0_grantWaiting_98 at h
  refine lv_iinc (v := x3 + 1) (lv' := [(3, .int (x3 + 1)), (0, .ref (gA g 19 0)), (1, .int x1), (2, .int x2)]) hC.1 hC.2.1 dX0_grantWaiting_98 hl (k := 3) rfl rfl (by decide) rfl (fun ls hl => ?_)
  refine lv_goto (tgt := 12) hC.1 hC.2.1 dX0_grantWaiting_101 (by decide) ?_
  exact hk12 _ _ _ _ h _ _ _ _ hH hS (lv_sub hl [1, 2, 3, 0] rfl)
def F_X0_grantWaiting_104 (n : Nat)   (C : St) : Option (Int32 × St) := some (0, C)
set_option maxHeartbeats 4000000 in
set_option maxRecDepth 100000 in
theorem B_X0_grantWaiting_104 {p : Program} {l : Launch} {e : Env} {s : State} {m : MethodId} {args : Array Value} {below : List Frame} {meth : Method} {c : Code} {g : GP} {Z : St} (hC : CX p s m args c cX0_grantWaiting RX0 g) (hE : EZ g s s.heap) (hml : c.maxLocals = 5) (hr : meth.sig.returnType = none) (hlk : meth.locks = false) {r : Int32} {C2 : St}  {C : St} (h : F_X0_grantWaiting_104 (gn g)   C = some (r, C2)) {ed : Nat → Nat} {H : Heap} {locs : List Loc} {ls : Array Slot} (hH : HW g ed C Z H) (hS : va_S (gP g) s.heap H locs) (hl : lv_has ls 5 []) : W p l e ({ frames := 3, cells := 0, slots := 0, locals := 106 } : Room) s m args below meth c H locs 0 0 (MQ below (QG none g C2 Z) args s 0 0 (gP g)) (F0 m 104 ls []) := by
  unfold F_X0_grantWaiting_104 at h
  cases h
  exact gret_v hC hr hlk hH hS (Nat.le_of_ble_eq_true rfl) (Nat.le_of_ble_eq_true rfl) dX0_grantWaiting_104
def F_X0_grantWaiting_12 (n : Nat)  : Nat → Int32 → Int32 → Int32 → St → Option (Int32 × St)
  | 0, _, _, _, _ => none
  | fu + 1, x1, x2, x3, C => if x2 ≤ x3 then (F_X0_grantWaiting_104 n  C) else (bd2 (F_Jx4a65c_size_8abf5 1 C) (fun r2 D3 => if r2 ≤ x1 then (F_X0_grantWaiting_104 n  D3) else (bd2 (F_Jx4a65c_get_915e3 1 x1 D3) (fun r6 D7 => gd (okr r6 6) (gd (inb r6 6) (bd2 (F_X0_grants n r6 (D7 6 r6.toNatClampNeg 19 0) D7) (fun r11 D12 => if r11 = 0 then (F_X0_grantWaiting_98 n (F_X0_grantWaiting_12 n fu) (x1 + 1) x2 x3 D12) else (bd2 (F_Jx4a65c_remove_915e3 1 x1 D12) (fun r15 D16 => bd2 (F_X2_complete n r6 ((D16 6 r6.toNatClampNeg 12 0) + (1 : Int32)) D16) (fun r18 D19 => bd2 (F_X7_wake n (D19 6 r6.toNatClampNeg 0 0) D19) (fun r21 D22 => F_X0_grantWaiting_98 n (F_X0_grantWaiting_12 n fu) x1 x2 x3 D22)))))))))))
set_option maxHeartbeats 4000000 in
set_option maxRecDepth 100000 in
theorem B_X0_grantWaiting_12 {p : Program} {l : Launch} {e : Env} {s : State} {m : MethodId} {args : Array Value} {below : List Frame} {meth : Method} {c : Code} {g : GP} {Z : St} (hC : CX p s m args c cX0_grantWaiting RX0 g) (hE : EZ g s s.heap) (hml : c.maxLocals = 5) (hr : meth.sig.returnType = none) (hlk : meth.locks = false) {r : Int32} {C2 : St} : ∀ (fu : Nat) (x1 : Int32) (x2 : Int32) (x3 : Int32) (C : St), F_X0_grantWaiting_12 (gn g)  fu x1 x2 x3 C = some (r, C2) → ∀ (ed : Nat → Nat) (H : Heap) (locs : List Loc) (ls : Array Slot), HW g ed C Z H → va_S (gP g) s.heap H locs → lv_has ls 5 [(0, .ref (gA g 19 0)), (1, .int x1), (2, .int x2), (3, .int x3)] → W p l e ({ frames := 3, cells := 0, slots := 0, locals := 106 } : Room) s m args below meth c H locs 0 0 (MQ below (QG none g C2 Z) args s 0 0 (gP g)) (F0 m 12 ls []) := by
  intro fu
  induction fu with
  | zero =>
    intro x1 x2 x3 C h
    cases h
  | succ fu ih =>
    intro x1 x2 x3 C h ed H locs ls hH hS hl
    rw [F_X0_grantWaiting_12] at h
    refine lv_iload_n hC.1 hC.2.1 dX0_grantWaiting_12 rfl (lv_at hl 3 rfl) ?_
    refine lv_iload_n hC.1 hC.2.1 dX0_grantWaiting_13 rfl (lv_at hl 2 rfl) ?_
    refine lv_icmp_ge (tgt := 104) hC.1 hC.2.1 dX0_grantWaiting_14 (by decide) (fun hc1 => ?_) (fun hc1 => ?_)
    · rw [if_pos hc1] at h
      exact B_X0_grantWaiting_104 hC hE hml hr hlk h hH hS (lv_sub hl [] rfl)
    · rw [if_neg hc1] at h
      refine lv_iload_n hC.1 hC.2.1 dX0_grantWaiting_17 rfl (lv_at hl 1 rfl) ?_
      refine lv_aload_n hC.1 hC.2.1 dX0_grantWaiting_18 rfl (lv_at hl 0 rfl) ?_
      refine gf_RX0_18 hC hH rfl dX0_grantWaiting_19 ?_
      obtain ⟨r2, D3, hF4, h⟩ := bd2_some h
      refine gcallV (As := []) (rest := [.int x1]) (Cn := RJx4a65c) hC hE hml hH hS (c_Jx4a65c_size_8abf5 (Nat.le_of_ble_eq_true rfl) hF4) ⟨wd_664, wd_665, wd_666, wd_11, wd_667⟩ hd_Jx4a65c_size_8abf5 rfl rfl ⟨Nat.le_of_ble_eq_true rfl, Nat.le_of_ble_eq_true rfl⟩ rfl (hw_recv (q := 17) (i := 1) hC hH ⟨(Nat.le_of_ble_eq_true rfl), fun h => absurd h (by decide)⟩ rfl rfl) rfl hl.1 rfl (Nat.le_of_ble_eq_true rfl) dX0_grantWaiting_22 ⟨Nat.le_of_ble_eq_true rfl, Nat.le_of_ble_eq_true rfl⟩ (fun ed H locs hH hS => ?_)
      refine W.eq (g2 := F0 m 25 ls [.int r2, .int x1]) rfl ?_
      refine lv_icmp_ge (tgt := 104) hC.1 hC.2.1 dX0_grantWaiting_25 (by decide) (fun hc5 => ?_) (fun hc5 => ?_)
      · rw [if_pos hc5] at h
        exact B_X0_grantWaiting_104 hC hE hml hr hlk h hH hS (lv_sub hl [] rfl)
      · rw [if_neg hc5] at h
        refine lv_aload_n hC.1 hC.2.1 dX0_grantWaiting_28 rfl (lv_at hl 0 rfl) ?_
        refine gf_RX0_18 hC hH rfl dX0_grantWaiting_29 ?_
        refine lv_iload_n hC.1 hC.2.1 dX0_grantWaiting_32 rfl (lv_at hl 1 rfl) ?_
        obtain ⟨r6, D7, hF8, h⟩ := bd2_some h
        refine gcallV (As := [.int x1]) (rest := []) (Cn := RJx4a65c) hC hE hml hH hS (c_Jx4a65c_get_915e3 (Nat.le_of_ble_eq_true rfl) hF8) ⟨wd_668, wd_669, wd_670, wd_11, wd_671⟩ hd_Jx4a65c_get_915e3 rfl rfl ⟨Nat.le_of_ble_eq_true rfl, Nat.le_of_ble_eq_true rfl⟩ rfl (hw_recv (q := 17) (i := 1) hC hH ⟨(Nat.le_of_ble_eq_true rfl), fun h => absurd h (by decide)⟩ rfl rfl) rfl hl.1 rfl (Nat.le_of_ble_eq_true rfl) dX0_grantWaiting_33 ⟨Nat.le_of_ble_eq_true rfl, Nat.le_of_ble_eq_true rfl⟩ (fun ed H locs hH hS => ?_)
        refine W.eq (g2 := F0 m 36 ls [rfv (gA g) 6 r6]) rfl ?_
        obtain ⟨hg9, h⟩ := gd_some h
        refine gl_castJ hC hH hg9 wd_682 dX0_grantWaiting_36 ?_
        refine gl_astore (lv' := [(4, rfv (gA g) 6 r6), (0, .ref (gA g 19 0)), (1, .int x1), (2, .int x2), (3, .int x3)]) hC dX0_grantWaiting_39 hl (by decide) rfl (fun ls hl => ?_)
        refine lv_aload_n hC.1 hC.2.1 dX0_grantWaiting_41 rfl (lv_at hl 1 rfl) ?_
        refine gl_aload hC dX0_grantWaiting_42 (lv_at hl 0 rfl) ?_
        refine gl_aload hC dX0_grantWaiting_44 (lv_at hl 0 rfl) ?_
        obtain ⟨hg10, h⟩ := gd_some h
        refine gf_RX0_73 hC hH (inb_lt hg10) (rfv_in hg10) dX0_grantWaiting_46 ?_
        obtain ⟨r11, D12, hF13, h⟩ := bd2_some h
        refine gcallV (As := [rfv (gA g) 6 r6, .int (D7 6 r6.toNatClampNeg 19 0)]) (rest := []) (Cn := RX0) hC hE hml hH hS (c_X0_grants hF13) ⟨wd_683, wd_685, wp_4, wd_13, wd_686⟩ hd_X0_grants rfl rfl ⟨Nat.le_of_ble_eq_true rfl, Nat.le_of_ble_eq_true rfl⟩ rfl (hw_recv (q := 19) (i := 0) hC hH ⟨Nat.zero_lt_one, fun h => absurd h (by decide)⟩ rfl rfl) rfl hl.1 rfl (Nat.le_of_ble_eq_true rfl) dX0_grantWaiting_49 ⟨Nat.le_of_ble_eq_true rfl, Nat.le_of_ble_eq_true rfl⟩ (fun ed H locs hH hS => ?_)
        refine W.eq (g2 := F0 m 52 ls [.int r11]) rfl ?_
        refine lv_if_eq (tgt := 95) hC.1 hC.2.1 dX0_grantWaiting_52 (by decide) (fun hc14 => ?_) (fun hc14 => ?_)
        · rw [if_pos hc14] at h
          refine lv_iinc (v := x1 + 1) (lv' := [(1, .int (x1 + 1)), (4, rfv (gA g) 6 r6), (0, .ref (gA g 19 0)), (2, .int x2), (3, .int x3)]) hC.1 hC.2.1 dX0_grantWaiting_95 hl (k := 2) rfl rfl (by decide) rfl (fun ls hl => ?_)
          exact B_X0_grantWaiting_98 hC hE hml hr hlk ih h hH hS (lv_sub hl [2, 0, 3, 4] rfl)
        · rw [if_neg hc14] at h
          refine lv_aload_n hC.1 hC.2.1 dX0_grantWaiting_55 rfl (lv_at hl 1 rfl) ?_
          refine gf_RX0_18 hC hH rfl dX0_grantWaiting_56 ?_
          refine lv_iload_n hC.1 hC.2.1 dX0_grantWaiting_59 rfl (lv_at hl 2 rfl) ?_
          obtain ⟨r15, D16, hF17, h⟩ := bd2_some h
          refine gcallV (As := [.int x1]) (rest := []) (Cn := RJx4a65c) hC hE hml hH hS (c_Jx4a65c_remove_915e3 (Nat.le_of_ble_eq_true rfl) hF17) ⟨wd_707, wd_708, wd_709, wd_11, wd_710⟩ hd_Jx4a65c_remove_915e3 rfl rfl ⟨Nat.le_of_ble_eq_true rfl, Nat.le_of_ble_eq_true rfl⟩ rfl (hw_recv (q := 17) (i := 1) hC hH ⟨(Nat.le_of_ble_eq_true rfl), fun h => absurd h (by decide)⟩ rfl rfl) rfl hl.1 rfl (Nat.le_of_ble_eq_true rfl) dX0_grantWaiting_60 ⟨Nat.le_of_ble_eq_true rfl, Nat.le_of_ble_eq_true rfl⟩ (fun ed H locs hH hS => ?_)
          refine W.eq (g2 := F0 m 63 ls [rfv (gA g) 6 r15]) rfl ?_
          refine lv_pop hC.1 hC.2.1 dX0_grantWaiting_63 rfv_cat ?_
          refine lv_aload_n hC.1 hC.2.1 dX0_grantWaiting_64 rfl (lv_at hl 1 rfl) ?_
          refine gf_RX0_33 hC hH rfl dX0_grantWaiting_65 ?_
          refine gl_aload hC dX0_grantWaiting_68 (lv_at hl 0 rfl) ?_
          refine gl_aload hC dX0_grantWaiting_70 (lv_at hl 0 rfl) ?_
          refine gf_RX0_64 hC hH (inb_lt hg10) (rfv_in hg10) dX0_grantWaiting_72 ?_
          refine lv_iconst (v := (1 : Int32)) hC.1 hC.2.1 dX0_grantWaiting_75 (by decide) ?_
          refine lv_iadd hC.1 hC.2.1 dX0_grantWaiting_76 ?_
          obtain ⟨r18, D19, hF20, h⟩ := bd2_some h
          refine gcallV (As := [rfv (gA g) 6 r6, .int ((D16 6 r6.toNatClampNeg 12 0) + (1 : Int32))]) (rest := []) (Cn := RX2) hC hE hml hH hS (c_X2_complete hF20) ⟨wd_718, wd_719, wd_720, wd_6, wd_721⟩ hd_X2_complete rfl rfl ⟨Nat.le_of_ble_eq_true rfl, Nat.le_of_ble_eq_true rfl⟩ rfl (hw_recv (q := 12) (i := 0) hC hH ⟨Nat.zero_lt_one, fun h => absurd h (by decide)⟩ rfl rfl) rfl hl.1 rfl (Nat.le_of_ble_eq_true rfl) dX0_grantWaiting_77 ⟨Nat.le_of_ble_eq_true rfl, Nat.le_of_ble_eq_true rfl⟩ (fun ed H locs hH hS => ?_)
          refine W.eq (g2 := F0 m 80 ls []) rfl ?_
          refine lv_aload_n hC.1 hC.2.1 dX0_grantWaiting_80 rfl (lv_at hl 1 rfl) ?_
          refine gf_RX0_29 hC hH rfl dX0_grantWaiting_81 ?_
          refine gl_aload hC dX0_grantWaiting_84 (lv_at hl 0 rfl) ?_
          refine gf_RX0_80 hC hH (inb_lt hg10) (rfv_in hg10) dX0_grantWaiting_86 ?_
          obtain ⟨r21, D22, hF23, h⟩ := bd2_some h
          refine gcallV (As := [.int (D19 6 r6.toNatClampNeg 0 0)]) (rest := []) (Cn := RX7) hC hE hml hH hS (c_X7_wake hF23) ⟨wd_722, wd_723, wd_724, wd_2, wd_725⟩ hd_X7_wake rfl rfl ⟨Nat.le_of_ble_eq_true rfl, Nat.le_of_ble_eq_true rfl⟩ rfl (hw_recv (q := 1) (i := 0) hC hH ⟨Nat.zero_lt_one, fun h => absurd h (by decide)⟩ rfl rfl) rfl hl.1 rfl (Nat.le_of_ble_eq_true rfl) dX0_grantWaiting_89 ⟨Nat.le_of_ble_eq_true rfl, Nat.le_of_ble_eq_true rfl⟩ (fun ed H locs hH hS => ?_)
          refine W.eq (g2 := F0 m 92 ls []) rfl ?_
          refine lv_goto (tgt := 98) hC.1 hC.2.1 dX0_grantWaiting_92 (by decide) ?_
          exact B_X0_grantWaiting_98 hC hE hml hr hlk ih h hH hS (lv_sub hl [1, 2, 3, 4] rfl)
def F_X0_grantWaiting (n : Nat)  (C : St) : Option (Int32 × St) := bd2 (F_Jx4a65c_size_8abf5 1 C) (fun r1 D2 => F_X0_grantWaiting_12 n 1000 (0 : Int32) r1 (0 : Int32) D2)
set_option maxHeartbeats 4000000 in
set_option maxRecDepth 100000 in
theorem c_X0_grantWaiting {l : Launch} {g : GP} {ed : Nat → Nat} {Z : St}  {C : St} {r : Int32} {C2 : St} (h : F_X0_grantWaiting (gn g)  C = some (r, C2)) : Met l yX0_grantWaiting (Cond.code yX0_grantWaiting cX0_grantWaiting 5 none :: lwG) ({ frames := 3, cells := 0, slots := 0, locals := 106 } : Room) (va_Pc [.ref (gA g 19 0)] (PW g C Z ed)) (QG none g C2 Z) 0 0 (gP g) := by
  refine Met.ofW (cc := cX0_grantWaiting) (maxL := 5) (ret := none) (by decide +kernel) rfl ?_
  intro p e s m args below meth c s₁ B hml hv
  obtain ⟨ha, hC, hE, hr, hlk, hH⟩ := g_start B hv
  subst ha
  have hC : CX p s m ([.ref (gA g 19 0)] : List Value).toArray c cX0_grantWaiting RX0 g := hC
  have hS : va_S (gP g) s.heap s.heap [] := va_S.rf
  obtain ⟨ls, he, hl⟩ := g_entry m (vs := [.ref (gA g 19 0)]) (n := 5) (List.forall_mem_cons.mpr ⟨rfl, (fun _ h => absurd h List.not_mem_nil)⟩) (Nat.le_of_ble_eq_true rfl)
  rw [he]
  have hl : lv_has ls 5 [(0, .ref (gA g 19 0))] := hl
  unfold F_X0_grantWaiting at h
  refine lv_iconst (v := (0 : Int32)) hC.1 hC.2.1 dX0_grantWaiting_0 (by decide) ?_
  refine lv_istore_n (i := 1) (lv' := [(1, .int (0 : Int32)), (0, .ref (gA g 19 0))]) hC.1 hC.2.1 dX0_grantWaiting_1 rfl hl (by decide) rfl (fun ls hl => ?_)
  refine lv_aload_n hC.1 hC.2.1 dX0_grantWaiting_2 rfl (lv_at hl 1 rfl) ?_
  refine gf_RX0_18 hC hH rfl dX0_grantWaiting_3 ?_
  obtain ⟨r1, D2, hF3, h⟩ := bd2_some h
  refine gcallV (As := []) (rest := []) (Cn := RJx4a65c) hC hE hml hH hS (c_Jx4a65c_size_8abf5 (Nat.le_of_ble_eq_true rfl) hF3) ⟨wd_664, wd_665, wd_666, wd_11, wd_667⟩ hd_Jx4a65c_size_8abf5 rfl rfl ⟨Nat.le_of_ble_eq_true rfl, Nat.le_of_ble_eq_true rfl⟩ rfl (hw_recv (q := 17) (i := 1) hC hH ⟨(Nat.le_of_ble_eq_true rfl), fun h => absurd h (by decide)⟩ rfl rfl) rfl hl.1 rfl (Nat.le_of_ble_eq_true rfl) dX0_grantWaiting_6 ⟨Nat.le_of_ble_eq_true rfl, Nat.le_of_ble_eq_true rfl⟩ (fun ed H locs hH hS => ?_)
  refine W.eq (g2 := F0 m 9 ls [.int r1]) rfl ?_
  refine lv_istore_n (i := 2) (lv' := [(2, .int r1), (1, .int (0 : Int32)), (0, .ref (gA g 19 0))]) hC.1 hC.2.1 dX0_grantWaiting_9 rfl hl (by decide) rfl (fun ls hl => ?_)
  refine lv_iconst (v := (0 : Int32)) hC.1 hC.2.1 dX0_grantWaiting_10 (by decide) ?_
  refine lv_istore_n (i := 3) (lv' := [(3, .int (0 : Int32)), (2, .int r1), (1, .int (0 : Int32)), (0, .ref (gA g 19 0))]) hC.1 hC.2.1 dX0_grantWaiting_11 rfl hl (by decide) rfl (fun ls hl => ?_)
  exact B_X0_grantWaiting_12 hC hE hml hr hlk 1000 _ _ _ _ h _ _ _ _ hH hS (lv_sub hl [3, 2, 1, 0] rfl)
def F_X0_leaveRow_2 (n : Nat)  : Nat → Int32 → Int32 → St → Option (Int32 × St)
  | 0, _, _, _ => none
  | fu + 1, x1, x2, C => bd2 (F_Jx4a65c_size_8abf5 1 C) (fun r1 D2 => if r1 ≤ x2 then (some (0, D2)) else (bd2 (F_Jx4a65c_get_915e3 1 x2 D2) (fun r5 D6 => gd (okr r5 6) (gd (okr x1 6) (if r5 = x1 then (bd2 (F_Jx4a65c_remove_915e3 1 x2 D6) (fun r11 D12 => some (0, D12))) else (F_X0_leaveRow_2 n fu x1 (x2 + 1) D6))))))
set_option maxHeartbeats 4000000 in
set_option maxRecDepth 100000 in
theorem B_X0_leaveRow_2 {p : Program} {l : Launch} {e : Env} {s : State} {m : MethodId} {args : Array Value} {below : List Frame} {meth : Method} {c : Code} {g : GP} {Z : St} (hC : CX p s m args c cX0_leaveRow RX0 g) (hE : EZ g s s.heap) (hml : c.maxLocals = 3) (hr : meth.sig.returnType = none) (hlk : meth.locks = false) {r : Int32} {C2 : St} : ∀ (fu : Nat) (x1 : Int32) (x2 : Int32) (C : St), F_X0_leaveRow_2 (gn g)  fu x1 x2 C = some (r, C2) → ∀ (ed : Nat → Nat) (H : Heap) (locs : List Loc) (ls : Array Slot), HW g ed C Z H → va_S (gP g) s.heap H locs → lv_has ls 3 [(0, .ref (gA g 19 0)), (1, rfv (gA g) 6 x1), (2, .int x2)] → W p l e ({ frames := 3, cells := 0, slots := 0, locals := 106 } : Room) s m args below meth c H locs 0 0 (MQ below (QG none g C2 Z) args s 0 0 (gP g)) (F0 m 2 ls []) := by
  intro fu
  induction fu with
  | zero =>
    intro x1 x2 C h
    cases h
  | succ fu ih =>
    intro x1 x2 C h ed H locs ls hH hS hl
    rw [F_X0_leaveRow_2] at h
    refine lv_iload_n hC.1 hC.2.1 dX0_leaveRow_2 rfl (lv_at hl 2 rfl) ?_
    refine lv_aload_n hC.1 hC.2.1 dX0_leaveRow_3 rfl (lv_at hl 0 rfl) ?_
    refine gf_RX0_18 hC hH rfl dX0_leaveRow_4 ?_
    obtain ⟨r1, D2, hF3, h⟩ := bd2_some h
    refine gcallV (As := []) (rest := [.int x2]) (Cn := RJx4a65c) hC hE hml hH hS (c_Jx4a65c_size_8abf5 (Nat.le_of_ble_eq_true rfl) hF3) ⟨wd_664, wd_665, wd_666, wd_11, wd_667⟩ hd_Jx4a65c_size_8abf5 rfl rfl ⟨Nat.le_of_ble_eq_true rfl, Nat.le_of_ble_eq_true rfl⟩ rfl (hw_recv (q := 17) (i := 1) hC hH ⟨(Nat.le_of_ble_eq_true rfl), fun h => absurd h (by decide)⟩ rfl rfl) rfl hl.1 rfl (Nat.le_of_ble_eq_true rfl) dX0_leaveRow_7 ⟨Nat.le_of_ble_eq_true rfl, Nat.le_of_ble_eq_true rfl⟩ (fun ed H locs hH hS => ?_)
    refine W.eq (g2 := F0 m 10 ls [.int r1, .int x2]) rfl ?_
    refine lv_icmp_ge (tgt := 41) hC.1 hC.2.1 dX0_leaveRow_10 (by decide) (fun hc4 => ?_) (fun hc4 => ?_)
    · rw [if_pos hc4] at h
      cases h
      exact gret_v hC hr hlk hH hS (Nat.le_of_ble_eq_true rfl) (Nat.le_of_ble_eq_true rfl) dX0_leaveRow_41
    · rw [if_neg hc4] at h
      refine lv_aload_n hC.1 hC.2.1 dX0_leaveRow_13 rfl (lv_at hl 0 rfl) ?_
      refine gf_RX0_18 hC hH rfl dX0_leaveRow_14 ?_
      refine lv_iload_n hC.1 hC.2.1 dX0_leaveRow_17 rfl (lv_at hl 2 rfl) ?_
      obtain ⟨r5, D6, hF7, h⟩ := bd2_some h
      refine gcallV (As := [.int x2]) (rest := []) (Cn := RJx4a65c) hC hE hml hH hS (c_Jx4a65c_get_915e3 (Nat.le_of_ble_eq_true rfl) hF7) ⟨wd_668, wd_669, wd_670, wd_11, wd_671⟩ hd_Jx4a65c_get_915e3 rfl rfl ⟨Nat.le_of_ble_eq_true rfl, Nat.le_of_ble_eq_true rfl⟩ rfl (hw_recv (q := 17) (i := 1) hC hH ⟨(Nat.le_of_ble_eq_true rfl), fun h => absurd h (by decide)⟩ rfl rfl) rfl hl.1 rfl (Nat.le_of_ble_eq_true rfl) dX0_leaveRow_18 ⟨Nat.le_of_ble_eq_true rfl, Nat.le_of_ble_eq_true rfl⟩ (fun ed H locs hH hS => ?_)
      refine W.eq (g2 := F0 m 21 ls [rfv (gA g) 6 r5]) rfl ?_
      refine gl_aload_n hC dX0_leaveRow_21 rfl (lv_at hl 1 rfl) ?_
      obtain ⟨hg8, h⟩ := gd_some h
      obtain ⟨hg9, h⟩ := gd_some h
      refine gl_acmp_ne (tgt := 35) (n := 6) hC hH (by decide) rfl hg8 hg9 dX0_leaveRow_22 (by decide) (fun hc10 => ?_) (fun hc10 => ?_)
      · rw [if_neg hc10] at h
        refine lv_iinc (v := x2 + 1) (lv' := [(2, .int (x2 + 1)), (0, .ref (gA g 19 0)), (1, rfv (gA g) 6 x1)]) hC.1 hC.2.1 dX0_leaveRow_35 hl (k := 2) rfl rfl (by decide) (by simp [rfv_cat]) (fun ls hl => ?_)
        refine lv_goto (tgt := 2) hC.1 hC.2.1 dX0_leaveRow_38 (by decide) ?_
        exact ih _ _ _ h _ _ _ _ hH hS (lv_sub hl [1, 2, 0] rfl)
      · rw [if_pos hc10] at h
        refine lv_aload_n hC.1 hC.2.1 dX0_leaveRow_25 rfl (lv_at hl 0 rfl) ?_
        refine gf_RX0_18 hC hH rfl dX0_leaveRow_26 ?_
        refine lv_iload_n hC.1 hC.2.1 dX0_leaveRow_29 rfl (lv_at hl 2 rfl) ?_
        obtain ⟨r11, D12, hF13, h⟩ := bd2_some h
        refine gcallV (As := [.int x2]) (rest := []) (Cn := RJx4a65c) hC hE hml hH hS (c_Jx4a65c_remove_915e3 (Nat.le_of_ble_eq_true rfl) hF13) ⟨wd_707, wd_708, wd_709, wd_11, wd_710⟩ hd_Jx4a65c_remove_915e3 rfl rfl ⟨Nat.le_of_ble_eq_true rfl, Nat.le_of_ble_eq_true rfl⟩ rfl (hw_recv (q := 17) (i := 1) hC hH ⟨(Nat.le_of_ble_eq_true rfl), fun h => absurd h (by decide)⟩ rfl rfl) rfl hl.1 rfl (Nat.le_of_ble_eq_true rfl) dX0_leaveRow_30 ⟨Nat.le_of_ble_eq_true rfl, Nat.le_of_ble_eq_true rfl⟩ (fun ed H locs hH hS => ?_)
        refine W.eq (g2 := F0 m 33 ls [rfv (gA g) 6 r11]) rfl ?_
        refine lv_pop hC.1 hC.2.1 dX0_leaveRow_33 rfv_cat ?_
        cases h
        exact gret_v hC hr hlk hH hS (Nat.le_of_ble_eq_true rfl) (Nat.le_of_ble_eq_true rfl) dX0_leaveRow_34
def F_X0_leaveRow (n : Nat) (x1 : Int32) (C : St) : Option (Int32 × St) := F_X0_leaveRow_2 n 1000 x1 (0 : Int32) C
set_option maxHeartbeats 4000000 in
set_option maxRecDepth 100000 in
theorem c_X0_leaveRow {l : Launch} {g : GP} {ed : Nat → Nat} {Z : St} {x1 : Int32} {C : St} {r : Int32} {C2 : St} (h : F_X0_leaveRow (gn g) x1 C = some (r, C2)) : Met l yX0_leaveRow (Cond.code yX0_leaveRow cX0_leaveRow 3 none :: lwG) ({ frames := 3, cells := 0, slots := 0, locals := 106 } : Room) (va_Pc [.ref (gA g 19 0), rfv (gA g) 6 x1] (PW g C Z ed)) (QG none g C2 Z) 0 0 (gP g) := by
  refine Met.ofW (cc := cX0_leaveRow) (maxL := 3) (ret := none) (by decide +kernel) rfl ?_
  intro p e s m args below meth c s₁ B hml hv
  obtain ⟨ha, hC, hE, hr, hlk, hH⟩ := g_start B hv
  subst ha
  have hC : CX p s m ([.ref (gA g 19 0), rfv (gA g) 6 x1] : List Value).toArray c cX0_leaveRow RX0 g := hC
  have hS : va_S (gP g) s.heap s.heap [] := va_S.rf
  obtain ⟨ls, he, hl⟩ := g_entry m (vs := [.ref (gA g 19 0), rfv (gA g) 6 x1]) (n := 3) (List.forall_mem_cons.mpr ⟨rfl, (List.forall_mem_cons.mpr ⟨rfv_cat, (fun _ h => absurd h List.not_mem_nil)⟩)⟩) (Nat.le_of_ble_eq_true rfl)
  rw [he]
  have hl : lv_has ls 3 [(0, .ref (gA g 19 0)), (1, rfv (gA g) 6 x1)] := hl
  unfold F_X0_leaveRow at h
  refine lv_iconst (v := (0 : Int32)) hC.1 hC.2.1 dX0_leaveRow_0 (by decide) ?_
  refine lv_istore_n (i := 2) (lv' := [(2, .int (0 : Int32)), (0, .ref (gA g 19 0)), (1, rfv (gA g) 6 x1)]) hC.1 hC.2.1 dX0_leaveRow_1 rfl hl (by decide) (by simp [rfv_cat]) (fun ls hl => ?_)
  exact B_X0_leaveRow_2 hC hE hml hr hlk 1000 _ _ _ h _ _ _ _ hH hS (lv_sub hl [1, 2, 0] rfl)
