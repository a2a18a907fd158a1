def F_X4_isOf_20 (n : Nat)  (t0 : Int32) (C : St) : Option (Int32 × St) := gd (isb t0) (some (t0, C))
set_option maxHeartbeats 4000000 in
set_option maxRecDepth 100000 in
theorem B_X4_isOf_20 {p : Program} {l : Launch} {e : Env} {s : State} {m : MethodId} {args : Array Value} {below : List Frame} {meth : Method} {c : Code} {g : GP} {Z : St} (hC : CX p s m args c cX4_isOf RX4 g) (hE : EZ g s s.heap) (hml : c.maxLocals = 2) (hr : meth.sig.returnType = (some .boolean)) (hlk : meth.locks = false) {r : Int32} {C2 : St} {t0 : Int32} {C : St} (h : F_X4_isOf_20 (gn g)  t0 C = some (r, C2)) {ed : Nat → Nat} {H : Heap} {locs : List Loc} {ls : Array Slot} (hH : HW g ed C Z H) (hS : va_S (gP g) s.heap H locs) (hl : lv_has ls 2 []) : W p l e ({ frames := 0, cells := 0, slots := 0, locals := 0 } : Room) s m args below meth c H locs 0 0 (MQ below (QG (some (.int r)) g C2 Z) args s 0 0 (gP g)) (F0 m 20 ls [.int t0]) := by
  unfold F_X4_isOf_20 at h
  obtain ⟨hg1, h⟩ := gd_some h
  cases h
  exact gret_z hC hr hlk hg1 hH hS (Nat.le_of_ble_eq_true rfl) (Nat.le_of_ble_eq_true rfl) dX4_isOf_20
def F_X4_isOf_19 (n : Nat)   (C : St) : Option (Int32 × St) := F_X4_isOf_20 n (0 : Int32) C
set_option maxHeartbeats 4000000 in
set_option maxRecDepth 100000 in
theorem B_X4_isOf_19 {p : Program} {l : Launch} {e : Env} {s : State} {m : MethodId} {args : Array Value} {below : List Frame} {meth : Method} {c : Code} {g : GP} {Z : St} (hC : CX p s m args c cX4_isOf RX4 g) (hE : EZ g s s.heap) (hml : c.maxLocals = 2) (hr : meth.sig.returnType = (some .boolean)) (hlk : meth.locks = false) {r : Int32} {C2 : St}  {C : St} (h : F_X4_isOf_19 (gn g)   C = some (r, C2)) {ed : Nat → Nat} {H : Heap} {locs : List Loc} {ls : Array Slot} (hH : HW g ed C Z H) (hS : va_S (gP g) s.heap H locs) (hl : lv_has ls 2 []) : W p l e ({ frames := 0, cells := 0, slots := 0, locals := 0 } : Room) s m args below meth c H locs 0 0 (MQ below (QG (some (.int r)) g C2 Z) args s 0 0 (gP g)) (F0 m 19 ls []) := by
  unfold F_X4_isOf_19 at h
  refine lv_iconst (v := (0 : Int32)) hC.1 hC.2.1 dX4_isOf_19 (by decide) ?_
  exact B_X4_isOf_20 hC hE hml hr hlk h hH hS (lv_sub hl [] rfl)
def F_X4_isOf (n : Nat) (x0 : Int32) (x1 : Int32) (C : St) : Option (Int32 × St) := gd (inb x0 n) (if (C 14 x0.toNatClampNeg 3 0) = 0 then (gd (okr (C 14 x0.toNatClampNeg 1 0) 6) (gd (okr x1 6) (if (C 14 x0.toNatClampNeg 1 0) = x1 then (F_X4_isOf_20 n (1 : Int32) C) else (F_X4_isOf_19 n  C)))) else (F_X4_isOf_19 n  C))
set_option maxHeartbeats 4000000 in
set_option maxRecDepth 100000 in
theorem c_X4_isOf {l : Launch} {g : GP} {ed : Nat → Nat} {Z : St} {x0 : Int32} {x1 : Int32} {C : St} {r : Int32} {C2 : St} (h : F_X4_isOf (gn g) x0 x1 C = some (r, C2)) : Met l yX4_isOf (Cond.code yX4_isOf cX4_isOf 2 (some .boolean) :: lwG) ({ frames := 0, cells := 0, slots := 0, locals := 0 } : Room) (va_Pc [rfv (gA g) 14 x0, rfv (gA g) 6 x1] (PW g C Z ed)) (QG (some (.int r)) g C2 Z) 0 0 (gP g) := by
  refine Met.ofW (cc := cX4_isOf) (maxL := 2) (ret := (some .boolean)) (by decide +kernel) rfl ?_
  intro p e s m args below meth c s₁ B hml hv
  obtain ⟨ha, hC, hE, hr, hlk, hH⟩ := g_start B hv
  subst ha
  have hC : CX p s m ([rfv (gA g) 14 x0, rfv (gA g) 6 x1] : List Value).toArray c cX4_isOf RX4 g := hC
  have hS : va_S (gP g) s.heap s.heap [] := va_S.rf
  obtain ⟨ls, he, hl⟩ := g_entry m (vs := [rfv (gA g) 14 x0, rfv (gA g) 6 x1]) (n := 2) (List.forall_mem_cons.mpr ⟨rfv_cat, (List.forall_mem_cons.mpr ⟨rfv_cat, (fun _ h => absurd h List.not_mem_nil)⟩)⟩) (Nat.le_of_ble_eq_true rfl)
  rw [he]
  have hl : lv_has ls 2 [(0, rfv (gA g) 14 x0), (1, rfv (gA g) 6 x1)] := hl
  unfold F_X4_isOf at h
  refine gl_aload_n hC dX4_isOf_0 rfl (lv_at hl 0 rfl) ?_
  obtain ⟨hg1, h⟩ := gd_some h
  refine gf_RX4_15 hC hH (inb_lt hg1) (rfv_in hg1) dX4_isOf_1 ?_
  refine lv_if_ne (tgt := 19) hC.1 hC.2.1 dX4_isOf_4 (by decide) (fun hc2 => ?_) (fun hc2 => ?_)
  · rw [if_neg hc2] at h
    exact B_X4_isOf_19 hC hE hml hr hlk h hH hS (lv_sub hl [] rfl)
  · rw [if_pos hc2] at h
    refine gl_aload_n hC dX4_isOf_7 rfl (lv_at hl 0 rfl) ?_
    refine gf_RX4_19 hC hH (inb_lt hg1) (rfv_in hg1) dX4_isOf_8 ?_
    refine gl_aload_n hC dX4_isOf_11 rfl (lv_at hl 1 rfl) ?_
    obtain ⟨hg3, h⟩ := gd_some h
    obtain ⟨hg4, h⟩ := gd_some h
    refine gl_acmp_ne (tgt := 19) (n := 6) hC hH (by decide) rfl hg3 hg4 dX4_isOf_12 (by decide) (fun hc5 => ?_) (fun hc5 => ?_)
    · rw [if_neg hc5] at h
      exact B_X4_isOf_19 hC hE hml hr hlk h hH hS (lv_sub hl [] rfl)
    · rw [if_pos hc5] at h
      refine lv_iconst (v := (1 : Int32)) hC.1 hC.2.1 dX4_isOf_15 (by decide) ?_
      refine lv_goto (tgt := 20) hC.1 hC.2.1 dX4_isOf_16 (by decide) ?_
      exact B_X4_isOf_20 hC hE hml hr hlk h hH hS (lv_sub hl [] rfl)
def F_X4_isFree_19 (n : Nat)  (t0 : Int32) (C : St) : Option (Int32 × St) := gd (isb t0) (some (t0, C))
set_option maxHeartbeats 4000000 in
set_option maxRecDepth 100000 in
theorem B_X4_isFree_19 {p : Program} {l : Launch} {e : Env} {s : State} {m : MethodId} {args : Array Value} {below : List Frame} {meth : Method} {c : Code} {g : GP} {Z : St} (hC : CX p s m args c cX4_isFree RX4 g) (hE : EZ g s s.heap) (hml : c.maxLocals = 1) (hr : meth.sig.returnType = (some .boolean)) (hlk : meth.locks = false) {r : Int32} {C2 : St} {t0 : Int32} {C : St} (h : F_X4_isFree_19 (gn g)  t0 C = some (r, C2)) {ed : Nat → Nat} {H : Heap} {locs : List Loc} {ls : Array Slot} (hH : HW g ed C Z H) (hS : va_S (gP g) s.heap H locs) (hl : lv_has ls 1 []) : W p l e ({ frames := 0, cells := 0, slots := 0, locals := 0 } : Room) s m args below meth c H locs 0 0 (MQ below (QG (some (.int r)) g C2 Z) args s 0 0 (gP g)) (F0 m 19 ls [.int t0]) := by
  unfold F_X4_isFree_19 at h
  obtain ⟨hg1, h⟩ := gd_some h
  cases h
  exact gret_z hC hr hlk hg1 hH hS (Nat.le_of_ble_eq_true rfl) (Nat.le_of_ble_eq_true rfl) dX4_isFree_19
def F_X4_isFree_18 (n : Nat)   (C : St) : Option (Int32 × St) := F_X4_isFree_19 n (0 : Int32) C
set_option maxHeartbeats 4000000 in
set_option maxRecDepth 100000 in
theorem B_X4_isFree_18 {p : Program} {l : Launch} {e : Env} {s : State} {m : MethodId} {args : Array Value} {below : List Frame} {meth : Method} {c : Code} {g : GP} {Z : St} (hC : CX p s m args c cX4_isFree RX4 g) (hE : EZ g s s.heap) (hml : c.maxLocals = 1) (hr : meth.sig.returnType = (some .boolean)) (hlk : meth.locks = false) {r : Int32} {C2 : St}  {C : St} (h : F_X4_isFree_18 (gn g)   C = some (r, C2)) {ed : Nat → Nat} {H : Heap} {locs : List Loc} {ls : Array Slot} (hH : HW g ed C Z H) (hS : va_S (gP g) s.heap H locs) (hl : lv_has ls 1 []) : W p l e ({ frames := 0, cells := 0, slots := 0, locals := 0 } : Room) s m args below meth c H locs 0 0 (MQ below (QG (some (.int r)) g C2 Z) args s 0 0 (gP g)) (F0 m 18 ls []) := by
  unfold F_X4_isFree_18 at h
  refine lv_iconst (v := (0 : Int32)) hC.1 hC.2.1 dX4_isFree_18 (by decide) ?_
  exact B_X4_isFree_19 hC hE hml hr hlk h hH hS (lv_sub hl [] rfl)
def F_X4_isFree (n : Nat) (x0 : Int32) (C : St) : Option (Int32 × St) := gd (inb x0 n) (if (C 14 x0.toNatClampNeg 3 0) = 0 then (if (C 14 x0.toNatClampNeg 1 0) < 0 then (F_X4_isFree_19 n (1 : Int32) C) else (F_X4_isFree_18 n  C)) else (F_X4_isFree_18 n  C))
set_option maxHeartbeats 4000000 in
set_option maxRecDepth 100000 in
theorem c_X4_isFree {l : Launch} {g : GP} {ed : Nat → Nat} {Z : St} {x0 : Int32} {C : St} {r : Int32} {C2 : St} (h : F_X4_isFree (gn g) x0 C = some (r, C2)) : Met l yX4_isFree (Cond.code yX4_isFree cX4_isFree 1 (some .boolean) :: lwG) ({ frames := 0, cells := 0, slots := 0, locals := 0 } : Room) (va_Pc [rfv (gA g) 14 x0] (PW g C Z ed)) (QG (some (.int r)) g C2 Z) 0 0 (gP g) := by
  refine Met.ofW (cc := cX4_isFree) (maxL := 1) (ret := (some .boolean)) (by decide +kernel) rfl ?_
  intro p e s m args below meth c s₁ B hml hv
  obtain ⟨ha, hC, hE, hr, hlk, hH⟩ := g_start B hv
  subst ha
  have hC : CX p s m ([rfv (gA g) 14 x0] : List Value).toArray c cX4_isFree RX4 g := hC
  have hS : va_S (gP g) s.heap s.heap [] := va_S.rf
  obtain ⟨ls, he, hl⟩ := g_entry m (vs := [rfv (gA g) 14 x0]) (n := 1) (List.forall_mem_cons.mpr ⟨rfv_cat, (fun _ h => absurd h List.not_mem_nil)⟩) (Nat.le_of_ble_eq_true rfl)
  rw [he]
  have hl : lv_has ls 1 [(0, rfv (gA g) 14 x0)] := hl
  unfold F_X4_isFree at h
  refine gl_aload_n hC dX4_isFree_0 rfl (lv_at hl 0 rfl) ?_
  obtain ⟨hg1, h⟩ := gd_some h
  refine gf_RX4_15 hC hH (inb_lt hg1) (rfv_in hg1) dX4_isFree_1 ?_
  refine lv_if_ne (tgt := 18) hC.1 hC.2.1 dX4_isFree_4 (by decide) (fun hc2 => ?_) (fun hc2 => ?_)
  · rw [if_neg hc2] at h
    exact B_X4_isFree_18 hC hE hml hr hlk h hH hS (lv_sub hl [] rfl)
  · rw [if_pos hc2] at h
    refine gl_aload_n hC dX4_isFree_7 rfl (lv_at hl 0 rfl) ?_
    refine gf_RX4_19 hC hH (inb_lt hg1) (rfv_in hg1) dX4_isFree_8 ?_
    refine gl_ifnonnull (tgt := 18) hC dX4_isFree_11 (by decide) (fun hc3 => ?_) (fun hc3 => ?_)
    · rw [if_neg hc3] at h
      exact B_X4_isFree_18 hC hE hml hr hlk h hH hS (lv_sub hl [] rfl)
    · rw [if_pos hc3] at h
      refine lv_iconst (v := (1 : Int32)) hC.1 hC.2.1 dX4_isFree_14 (by decide) ?_
      refine lv_goto (tgt := 19) hC.1 hC.2.1 dX4_isFree_15 (by decide) ?_
      exact B_X4_isFree_19 hC hE hml hr hlk h hH hS (lv_sub hl [] rfl)
def F_X4_vacate (n : Nat) (x0 : Int32) (C : St) : Option (Int32 × St) := gd (inb x0 n) (st (up C 14 x0.toNatClampNeg 1 0 (-1)) (fun D2 => st (up D2 14 x0.toNatClampNeg 3 0 (0 : Int32)) (fun D4 => st (up D4 14 x0.toNatClampNeg 4 0 (0 : Int32)) (fun D6 => st (up D6 14 x0.toNatClampNeg 5 0 (0 : Int32)) (fun D8 => some (0, D8))))))
set_option maxHeartbeats 4000000 in
set_option maxRecDepth 100000 in
theorem c_X4_vacate {l : Launch} {g : GP} {ed : Nat → Nat} {Z : St} {x0 : Int32} {C : St} {r : Int32} {C2 : St} (h : F_X4_vacate (gn g) x0 C = some (r, C2)) : Met l yX4_vacate (Cond.code yX4_vacate cX4_vacate 1 none :: lwG) ({ frames := 0, cells := 0, slots := 0, locals := 0 } : Room) (va_Pc [rfv (gA g) 14 x0] (PW g C Z ed)) (QG none g C2 Z) 0 0 (gP g) := by
  refine Met.ofW (cc := cX4_vacate) (maxL := 1) (ret := none) (by decide +kernel) rfl ?_
  intro p e s m args below meth c s₁ B hml hv
  obtain ⟨ha, hC, hE, hr, hlk, hH⟩ := g_start B hv
  subst ha
  have hC : CX p s m ([rfv (gA g) 14 x0] : List Value).toArray c cX4_vacate RX4 g := hC
  have hS : va_S (gP g) s.heap s.heap [] := va_S.rf
  obtain ⟨ls, he, hl⟩ := g_entry m (vs := [rfv (gA g) 14 x0]) (n := 1) (List.forall_mem_cons.mpr ⟨rfv_cat, (fun _ h => absurd h List.not_mem_nil)⟩) (Nat.le_of_ble_eq_true rfl)
  rw [he]
  have hl : lv_has ls 1 [(0, rfv (gA g) 14 x0)] := hl
  unfold F_X4_vacate at h
  refine gl_aload_n hC dX4_vacate_0 rfl (lv_at hl 0 rfl) ?_
  refine lv_null hC.1 hC.2.1 dX4_vacate_1 ?_
  obtain ⟨hg1, h⟩ := gd_some h
  obtain ⟨D2, e3, h⟩ := st_some h
  refine pf_RX4_19 hC hH hS (inb_lt hg1)  rfv_m1.symm (rfv_in hg1) dX4_vacate_2 (fun H locs hH hS => ?_)
  rw [← e3] at hH
  refine gl_aload_n hC dX4_vacate_5 rfl (lv_at hl 0 rfl) ?_
  refine lv_iconst (v := (0 : Int32)) hC.1 hC.2.1 dX4_vacate_6 (by decide) ?_
  obtain ⟨D4, e5, h⟩ := st_some h
  refine pf_RX4_15 hC hH hS (inb_lt hg1) (by decide) (rfv_in hg1) dX4_vacate_7 (fun H locs hH hS => ?_)
  rw [← e5] at hH
  refine gl_aload_n hC dX4_vacate_10 rfl (lv_at hl 0 rfl) ?_
  refine lv_iconst (v := (0 : Int32)) hC.1 hC.2.1 dX4_vacate_11 (by decide) ?_
  obtain ⟨D6, e7, h⟩ := st_some h
  refine pf_RX4_29 hC hH hS (inb_lt hg1) (by decide) (rfv_in hg1) dX4_vacate_12 (fun H locs hH hS => ?_)
  rw [← e7] at hH
  refine gl_aload_n hC dX4_vacate_15 rfl (lv_at hl 0 rfl) ?_
  refine lv_iconst (v := (0 : Int32)) hC.1 hC.2.1 dX4_vacate_16 (by decide) ?_
  obtain ⟨D8, e9, h⟩ := st_some h
  refine pf_RX4_32 hC hH hS (inb_lt hg1) (by decide) (rfv_in hg1) dX4_vacate_17 (fun H locs hH hS => ?_)
  rw [← e9] at hH
  cases h
  exact gret_v hC hr hlk hH hS (Nat.le_of_ble_eq_true rfl) (Nat.le_of_ble_eq_true rfl) dX4_vacate_20
def F_X4_tell (n : Nat) (x0 : Int32) (x1 : Int32) (C : St) : Option (Int32 × St) := if x1 = 1 then (gd (inb x0 n) (some (C 14 x0.toNatClampNeg 2 0, C))) else (if x1 = 2 then (gd (inb x0 n) (bd2 (F_X11_asNumber n (C 14 x0.toNatClampNeg 4 0) C) (fun r5 D6 => some (r5, D6)))) else (if x1 = 3 then (gd (inb x0 n) (bd2 (F_X11_asNumber n (C 14 x0.toNatClampNeg 5 0) C) (fun r10 D11 => some (r10, D11)))) else (if x1 = 4 then (gd (inb x0 n) (some (C 14 x0.toNatClampNeg 6 0, C))) else (some ((-1 : Int32), C)))))
set_option maxHeartbeats 4000000 in
set_option maxRecDepth 100000 in
theorem c_X4_tell {l : Launch} {g : GP} {ed : Nat → Nat} {Z : St} {x0 : Int32} {x1 : Int32} {C : St} {r : Int32} {C2 : St} (h : F_X4_tell (gn g) x0 x1 C = some (r, C2)) : Met l yX4_tell (Cond.code yX4_tell cX4_tell 2 (some .int) :: lwG) ({ frames := 1, cells := 0, slots := 0, locals := 20 } : Room) (va_Pc [rfv (gA g) 14 x0, .int x1] (PW g C Z ed)) (QG (some (.int r)) g C2 Z) 0 0 (gP g) := by
  refine Met.ofW (cc := cX4_tell) (maxL := 2) (ret := (some .int)) (by decide +kernel) rfl ?_
  intro p e s m args below meth c s₁ B hml hv
  obtain ⟨ha, hC, hE, hr, hlk, hH⟩ := g_start B hv
  subst ha
  have hC : CX p s m ([rfv (gA g) 14 x0, .int x1] : List Value).toArray c cX4_tell RX4 g := hC
  have hS : va_S (gP g) s.heap s.heap [] := va_S.rf
  obtain ⟨ls, he, hl⟩ := g_entry m (vs := [rfv (gA g) 14 x0, .int x1]) (n := 2) (List.forall_mem_cons.mpr ⟨rfv_cat, (List.forall_mem_cons.mpr ⟨rfl, (fun _ h => absurd h List.not_mem_nil)⟩)⟩) (Nat.le_of_ble_eq_true rfl)
  rw [he]
  have hl : lv_has ls 2 [(0, rfv (gA g) 14 x0), (1, .int x1)] := hl
  unfold F_X4_tell at h
  refine lv_iload_n hC.1 hC.2.1 dX4_tell_0 rfl (lv_at hl 1 rfl) ?_
  by_cases hs1 : x1 = 1
  · rw [if_pos hs1] at h
    refine lv_tableIn (x := x1) (off := 31) (tgt := 32) hC.1 hC.2.1 dX4_tell_1 (by rw [hs1]; decide) (by rw [hs1]; decide) (by rw [hs1]; rfl) (by decide) ?_
    refine gl_aload_n hC dX4_tell_32 rfl (lv_at hl 0 rfl) ?_
    obtain ⟨hg2, h⟩ := gd_some h
    refine gf_RX4_35 hC hH (inb_lt hg2) (rfv_in hg2) dX4_tell_33 ?_
    cases h
    exact gret_i hC hr hlk hH hS (Nat.le_of_ble_eq_true rfl) (Nat.le_of_ble_eq_true rfl) dX4_tell_36
  · rw [if_neg hs1] at h
    by_cases hs3 : x1 = 2
    · rw [if_pos hs3] at h
      refine lv_tableIn (x := x1) (off := 36) (tgt := 37) hC.1 hC.2.1 dX4_tell_1 (by rw [hs3]; decide) (by rw [hs3]; decide) (by rw [hs3]; rfl) (by decide) ?_
      refine gl_aload_n hC dX4_tell_37 rfl (lv_at hl 0 rfl) ?_
      obtain ⟨hg4, h⟩ := gd_some h
      refine gf_RX4_29 hC hH (inb_lt hg4) (rfv_in hg4) dX4_tell_38 ?_
      obtain ⟨r5, D6, hF7, h⟩ := bd2_some h
      refine gcallSN (As := [.int (C 14 x0.toNatClampNeg 4 0)]) (rest := []) hC hE hml hH hS (c_X11_asNumber hF7) ⟨wd_1094, wd_1060, wd_1, wd_1061⟩ hd_X11_asNumber rfl rfl ⟨Nat.le_of_ble_eq_true rfl, Nat.le_of_ble_eq_true rfl⟩ rfl hl.1 rfl (Nat.le_of_ble_eq_true rfl) dX4_tell_41 ⟨Nat.le_of_ble_eq_true rfl, Nat.le_of_ble_eq_true rfl⟩ (fun ed H locs hH hS => ?_)
      refine W.eq (g2 := F0 m 44 ls [.int r5]) rfl ?_
      cases h
      exact gret_i hC hr hlk hH hS (Nat.le_of_ble_eq_true rfl) (Nat.le_of_ble_eq_true rfl) dX4_tell_44
    · rw [if_neg hs3] at h
      by_cases hs8 : x1 = 3
      · rw [if_pos hs8] at h
        refine lv_tableIn (x := x1) (off := 44) (tgt := 45) hC.1 hC.2.1 dX4_tell_1 (by rw [hs8]; decide) (by rw [hs8]; decide) (by rw [hs8]; rfl) (by decide) ?_
        refine gl_aload_n hC dX4_tell_45 rfl (lv_at hl 0 rfl) ?_
        obtain ⟨hg9, h⟩ := gd_some h
        refine gf_RX4_32 hC hH (inb_lt hg9) (rfv_in hg9) dX4_tell_46 ?_
        obtain ⟨r10, D11, hF12, h⟩ := bd2_some h
        refine gcallSN (As := [.int (C 14 x0.toNatClampNeg 5 0)]) (rest := []) hC hE hml hH hS (c_X11_asNumber hF12) ⟨wd_1094, wd_1060, wd_1, wd_1061⟩ hd_X11_asNumber rfl rfl ⟨Nat.le_of_ble_eq_true rfl, Nat.le_of_ble_eq_true rfl⟩ rfl hl.1 rfl (Nat.le_of_ble_eq_true rfl) dX4_tell_49 ⟨Nat.le_of_ble_eq_true rfl, Nat.le_of_ble_eq_true rfl⟩ (fun ed H locs hH hS => ?_)
        refine W.eq (g2 := F0 m 52 ls [.int r10]) rfl ?_
        cases h
        exact gret_i hC hr hlk hH hS (Nat.le_of_ble_eq_true rfl) (Nat.le_of_ble_eq_true rfl) dX4_tell_52
      · rw [if_neg hs8] at h
        by_cases hs13 : x1 = 4
        · rw [if_pos hs13] at h
          refine lv_tableIn (x := x1) (off := 52) (tgt := 53) hC.1 hC.2.1 dX4_tell_1 (by rw [hs13]; decide) (by rw [hs13]; decide) (by rw [hs13]; rfl) (by decide) ?_
          refine gl_aload_n hC dX4_tell_53 rfl (lv_at hl 0 rfl) ?_
          obtain ⟨hg14, h⟩ := gd_some h
          refine gf_RX4_39 hC hH (inb_lt hg14) (rfv_in hg14) dX4_tell_54 ?_
          cases h
          exact gret_i hC hr hlk hH hS (Nat.le_of_ble_eq_true rfl) (Nat.le_of_ble_eq_true rfl) dX4_tell_57
        · rw [if_neg hs13] at h
          have q1 := lv_neT (a := 1) hs1 (by decide)
          have q2 := lv_neT (a := 2) hs3 (by decide)
          have q3 := lv_neT (a := 3) hs8 (by decide)
          have q4 := lv_neT (a := 4) hs13 (by decide)
          refine lv_tableOut (x := x1) (tgt := 58) hC.1 hC.2.1 dX4_tell_1 (by omega) (by decide) ?_
          refine lv_iconst (v := (-1 : Int32)) hC.1 hC.2.1 dX4_tell_58 (by decide) ?_
          cases h
          exact gret_i hC hr hlk hH hS (Nat.le_of_ble_eq_true rfl) (Nat.le_of_ble_eq_true rfl) dX4_tell_59
def F_X4_read_30 (n : Nat)  (t0 : Int32) (C : St) : Option (Int32 × St) := some (t0, C)
set_option maxHeartbeats 4000000 in
set_option maxRecDepth 100000 in
theorem B_X4_read_30 {p : Program} {l : Launch} {e : Env} {s : State} {m : MethodId} {args : Array Value} {below : List Frame} {meth : Method} {c : Code} {g : GP} {Z : St} (hC : CX p s m args c cX4_read RX4 g) (hE : EZ g s s.heap) (hml : c.maxLocals = 3) (hr : meth.sig.returnType = (some .int)) (hlk : meth.locks = false) {r : Int32} {C2 : St} {t0 : Int32} {C : St} (h : F_X4_read_30 (gn g)  t0 C = some (r, C2)) {ed : Nat → Nat} {H : Heap} {locs : List Loc} {ls : Array Slot} (hH : HW g ed C Z H) (hS : va_S (gP g) s.heap H locs) (hl : lv_has ls 3 []) : W p l e ({ frames := 1, cells := 0, slots := 0, locals := 22 } : Room) s m args below meth c H locs 0 0 (MQ below (QG (some (.int r)) g C2 Z) args s 0 0 (gP g)) (F0 m 30 ls [.int t0]) := by
  unfold F_X4_read_30 at h
  cases h
  exact gret_i hC hr hlk hH hS (Nat.le_of_ble_eq_true rfl) (Nat.le_of_ble_eq_true rfl) dX4_read_30
def F_X4_read_29 (n : Nat)   (C : St) : Option (Int32 × St) := F_X4_read_30 n (0 : Int32) C
set_option maxHeartbeats 4000000 in
set_option maxRecDepth 100000 in
theorem B_X4_read_29 {p : Program} {l : Launch} {e : Env} {s : State} {m : MethodId} {args : Array Value} {below : List Frame} {meth : Method} {c : Code} {g : GP} {Z : St} (hC : CX p s m args c cX4_read RX4 g) (hE : EZ g s s.heap) (hml : c.maxLocals = 3) (hr : meth.sig.returnType = (some .int)) (hlk : meth.locks = false) {r : Int32} {C2 : St}  {C : St} (h : F_X4_read_29 (gn g)   C = some (r, C2)) {ed : Nat → Nat} {H : Heap} {locs : List Loc} {ls : Array Slot} (hH : HW g ed C Z H) (hS : va_S (gP g) s.heap H locs) (hl : lv_has ls 3 []) : W p l e ({ frames := 1, cells := 0, slots := 0, locals := 22 } : Room) s m args below meth c H locs 0 0 (MQ below (QG (some (.int r)) g C2 Z) args s 0 0 (gP g)) (F0 m 29 ls []) := by
  unfold F_X4_read_29 at h
  refine lv_iconst (v := (0 : Int32)) hC.1 hC.2.1 dX4_read_29 (by decide) ?_
  exact B_X4_read_30 hC hE hml hr hlk h hH hS (lv_sub hl [] rfl)
def F_X4_read (n : Nat) (x0 : Int32) (x1 : Int32) (C : St) : Option (Int32 × St) := bd2 (F_J9_floorMod_7cf53 x1 (16 : Int32) C) (fun r1 D2 => if r1 < 0 then (F_X4_read_29 n  D2) else (gd (inb x0 n) (if (16 : Int32) ≤ r1 then (F_X4_read_29 n  D2) else (gd (inb r1 16) (F_X4_read_30 n (D2 15 x0.toNatClampNeg 0 r1.toNatClampNeg) D2)))))
set_option maxHeartbeats 4000000 in
set_option maxRecDepth 100000 in
theorem c_X4_read {l : Launch} {g : GP} {ed : Nat → Nat} {Z : St} {x0 : Int32} {x1 : Int32} {C : St} {r : Int32} {C2 : St} (h : F_X4_read (gn g) x0 x1 C = some (r, C2)) : Met l yX4_read (Cond.code yX4_read cX4_read 3 (some .int) :: lwG) ({ frames := 1, cells := 0, slots := 0, locals := 22 } : Room) (va_Pc [rfv (gA g) 14 x0, .int x1] (PW g C Z ed)) (QG (some (.int r)) g C2 Z) 0 0 (gP g) := by
  refine Met.ofW (cc := cX4_read) (maxL := 3) (ret := (some .int)) (by decide +kernel) rfl ?_
  intro p e s m args below meth c s₁ B hml hv
  obtain ⟨ha, hC, hE, hr, hlk, hH⟩ := g_start B hv
  subst ha
  have hC : CX p s m ([rfv (gA g) 14 x0, .int x1] : List Value).toArray c cX4_read RX4 g := hC
  have hS : va_S (gP g) s.heap s.heap [] := va_S.rf
  obtain ⟨ls, he, hl⟩ := g_entry m (vs := [rfv (gA g) 14 x0, .int x1]) (n := 3) (List.forall_mem_cons.mpr ⟨rfv_cat, (List.forall_mem_cons.mpr ⟨rfl, (fun _ h => absurd h List.not_mem_nil)⟩)⟩) (Nat.le_of_ble_eq_true rfl)
  rw [he]
  have hl : lv_has ls 3 [(0, rfv (gA g) 14 x0), (1, .int x1)] := hl
  unfold F_X4_read at h
  refine lv_iload_n hC.1 hC.2.1 dX4_read_0 rfl (lv_at hl 1 rfl) ?_
  refine lv_bipush (v := (16 : Int32)) hC.1 hC.2.1 dX4_read_1 (by decide) ?_
  obtain ⟨r1, D2, hF3, h⟩ := bd2_some h
  refine gcallS (As := [.int x1, .int (16 : Int32)]) (rest := []) hC hE hml hH hS (c_J9_floorMod_7cf53 hF3) ⟨wd_808, wd_809, wd_3, wd_810⟩ hd_J9_floorMod_7cf53 rfl rfl ⟨Nat.le_of_ble_eq_true rfl, Nat.le_of_ble_eq_true rfl⟩ rfl hl.1 rfl (Nat.le_of_ble_eq_true rfl) dX4_read_3 ⟨Nat.le_of_ble_eq_true rfl, Nat.le_of_ble_eq_true rfl⟩ (fun ed H locs hH hS => ?_)
  refine W.eq (g2 := F0 m 6 ls [.int r1]) rfl ?_
  refine lv_istore_n (i := 2) (lv' := [(2, .int r1), (0, rfv (gA g) 14 x0), (1, .int x1)]) hC.1 hC.2.1 dX4_read_6 rfl hl (by decide) rfl (fun ls hl => ?_)
  refine lv_iload_n hC.1 hC.2.1 dX4_read_7 rfl (lv_at hl 0 rfl) ?_
  refine lv_if_lt (tgt := 29) hC.1 hC.2.1 dX4_read_8 (by decide) (fun hc4 => ?_) (fun hc4 => ?_)
  · rw [if_pos hc4] at h
    exact B_X4_read_29 hC hE hml hr hlk h hH hS (lv_sub hl [] rfl)
  · rw [if_neg hc4] at h
    refine lv_iload_n hC.1 hC.2.1 dX4_read_11 rfl (lv_at hl 0 rfl) ?_
    refine gl_aload_n hC dX4_read_12 rfl (lv_at hl 1 rfl) ?_
    obtain ⟨hg5, h⟩ := gd_some h
    refine gf_RX4_9 hC hH (inb_lt hg5) (rfv_in hg5) dX4_read_13 ?_
    refine ln_15 hC hH (inb_lt hg5) rfl dX4_read_16 ?_
    refine lv_icmp_ge (tgt := 29) hC.1 hC.2.1 dX4_read_17 (by decide) (fun hc6 => ?_) (fun hc6 => ?_)
    · rw [if_pos hc6] at h
      exact B_X4_read_29 hC hE hml hr hlk h hH hS (lv_sub hl [] rfl)
    · rw [if_neg hc6] at h
      refine gl_aload_n hC dX4_read_20 rfl (lv_at hl 1 rfl) ?_
      refine gf_RX4_9 hC hH (inb_lt hg5) (rfv_in hg5) dX4_read_21 ?_
      refine lv_iload_n hC.1 hC.2.1 dX4_read_24 rfl (lv_at hl 0 rfl) ?_
      obtain ⟨hg7, h⟩ := gd_some h
      refine al_15 hC hH (inb_lt hg5) hg7 rfl dX4_read_25 ?_
      refine lv_goto (tgt := 30) hC.1 hC.2.1 dX4_read_26 (by decide) ?_
      exact B_X4_read_30 hC hE hml hr hlk h hH hS (lv_sub hl [] rfl)
def F_X4_write_27 (n : Nat)   (C : St) : Option (Int32 × St) := some (0, C)
set_option maxHeartbeats 4000000 in
set_option maxRecDepth 100000 in
theorem B_X4_write_27 {p : Program} {l : Launch} {e : Env} {s : State} {m : MethodId} {args : Array Value} {below : List Frame} {meth : Method} {c : Code} {g : GP} {Z : St} (hC : CX p s m args c cX4_write RX4 g) (hE : EZ g s s.heap) (hml : c.maxLocals = 4) (hr : meth.sig.returnType = none) (hlk : meth.locks = false) {r : Int32} {C2 : St}  {C : St} (h : F_X4_write_27 (gn g)   C = some (r, C2)) {ed : Nat → Nat} {H : Heap} {locs : List Loc} {ls : Array Slot} (hH : HW g ed C Z H) (hS : va_S (gP g) s.heap H locs) (hl : lv_has ls 4 []) : W p l e ({ frames := 1, cells := 0, slots := 0, locals := 22 } : Room) s m args below meth c H locs 0 0 (MQ below (QG none g C2 Z) args s 0 0 (gP g)) (F0 m 27 ls []) := by
  unfold F_X4_write_27 at h
  cases h
  exact gret_v hC hr hlk hH hS (Nat.le_of_ble_eq_true rfl) (Nat.le_of_ble_eq_true rfl) dX4_write_27
def F_X4_write (n : Nat) (x0 : Int32) (x1 : Int32) (x2 : Int32) (C : St) : Option (Int32 × St) := bd2 (F_J9_floorMod_7cf53 x1 (16 : Int32) C) (fun r1 D2 => if r1 < 0 then (F_X4_write_27 n  D2) else (gd (inb x0 n) (if (16 : Int32) ≤ r1 then (F_X4_write_27 n  D2) else (gd (inb r1 16) (st (up D2 15 x0.toNatClampNeg 0 r1.toNatClampNeg x2) (fun D8 => F_X4_write_27 n  D8))))))
set_option maxHeartbeats 4000000 in
set_option maxRecDepth 100000 in
theorem c_X4_write {l : Launch} {g : GP} {ed : Nat → Nat} {Z : St} {x0 : Int32} {x1 : Int32} {x2 : Int32} {C : St} {r : Int32} {C2 : St} (h : F_X4_write (gn g) x0 x1 x2 C = some (r, C2)) : Met l yX4_write (Cond.code yX4_write cX4_write 4 none :: lwG) ({ frames := 1, cells := 0, slots := 0, locals := 22 } : Room) (va_Pc [rfv (gA g) 14 x0, .int x1, .int x2] (PW g C Z ed)) (QG none g C2 Z) 0 0 (gP g) := by
  refine Met.ofW (cc := cX4_write) (maxL := 4) (ret := none) (by decide +kernel) rfl ?_
  intro p e s m args below meth c s₁ B hml hv
  obtain ⟨ha, hC, hE, hr, hlk, hH⟩ := g_start B hv
  subst ha
  have hC : CX p s m ([rfv (gA g) 14 x0, .int x1, .int x2] : List Value).toArray c cX4_write RX4 g := hC
  have hS : va_S (gP g) s.heap s.heap [] := va_S.rf
  obtain ⟨ls, he, hl⟩ := g_entry m (vs := [rfv (gA g) 14 x0, .int x1, .int x2]) (n := 4) (List.forall_mem_cons.mpr ⟨rfv_cat, (List.forall_mem_cons.mpr ⟨rfl, (List.forall_mem_cons.mpr ⟨rfl, (fun _ h => absurd h List.not_mem_nil)⟩)⟩)⟩) (Nat.le_of_ble_eq_true rfl)
  rw [he]
  have hl : lv_has ls 4 [(0, rfv (gA g) 14 x0), (1, .int x1), (2, .int x2)] := hl
  unfold F_X4_write at h
  refine lv_iload_n hC.1 hC.2.1 dX4_write_0 rfl (lv_at hl 1 rfl) ?_
  refine lv_bipush (v := (16 : Int32)) hC.1 hC.2.1 dX4_write_1 (by decide) ?_
  obtain ⟨r1, D2, hF3, h⟩ := bd2_some h
  refine gcallS (As := [.int x1, .int (16 : Int32)]) (rest := []) hC hE hml hH hS (c_J9_floorMod_7cf53 hF3) ⟨wd_808, wd_809, wd_3, wd_810⟩ hd_J9_floorMod_7cf53 rfl rfl ⟨Nat.le_of_ble_eq_true rfl, Nat.le_of_ble_eq_true rfl⟩ rfl hl.1 rfl (Nat.le_of_ble_eq_true rfl) dX4_write_3 ⟨Nat.le_of_ble_eq_true rfl, Nat.le_of_ble_eq_true rfl⟩ (fun ed H locs hH hS => ?_)
  refine W.eq (g2 := F0 m 6 ls [.int r1]) rfl ?_
  refine lv_istore_n (i := 3) (lv' := [(3, .int r1), (0, rfv (gA g) 14 x0), (1, .int x1), (2, .int x2)]) hC.1 hC.2.1 dX4_write_6 rfl hl (by decide) rfl (fun ls hl => ?_)
  refine lv_iload_n hC.1 hC.2.1 dX4_write_7 rfl (lv_at hl 0 rfl) ?_
  refine lv_if_lt (tgt := 27) hC.1 hC.2.1 dX4_write_8 (by decide) (fun hc4 => ?_) (fun hc4 => ?_)
  · rw [if_pos hc4] at h
    exact B_X4_write_27 hC hE hml hr hlk h hH hS (lv_sub hl [] rfl)
  · rw [if_neg hc4] at h
    refine lv_iload_n hC.1 hC.2.1 dX4_write_11 rfl (lv_at hl 0 rfl) ?_
    refine gl_aload_n hC dX4_write_12 rfl (lv_at hl 1 rfl) ?_
    obtain ⟨hg5, h⟩ := gd_some h
    refine gf_RX4_9 hC hH (inb_lt hg5) (rfv_in hg5) dX4_write_13 ?_
    refine ln_15 hC hH (inb_lt hg5) rfl dX4_write_16 ?_
    refine lv_icmp_ge (tgt := 27) hC.1 hC.2.1 dX4_write_17 (by decide) (fun hc6 => ?_) (fun hc6 => ?_)
    · rw [if_pos hc6] at h
      exact B_X4_write_27 hC hE hml hr hlk h hH hS (lv_sub hl [] rfl)
    · rw [if_neg hc6] at h
      refine gl_aload_n hC dX4_write_20 rfl (lv_at hl 1 rfl) ?_
      refine gf_RX4_9 hC hH (inb_lt hg5) (rfv_in hg5) dX4_write_21 ?_
      refine lv_iload_n hC.1 hC.2.1 dX4_write_24 rfl (lv_at hl 0 rfl) ?_
      refine lv_iload_n hC.1 hC.2.1 dX4_write_25 rfl (lv_at hl 3 rfl) ?_
      obtain ⟨hg7, h⟩ := gd_some h
      obtain ⟨D8, e9, h⟩ := st_some h
      refine as_15 hC hH hS (inb_lt hg5) hg7 rfl dX4_write_26 (fun H locs hH hS => ?_)
      rw [← e9] at hH
      exact B_X4_write_27 hC hE hml hr hlk h hH hS (lv_sub hl [] rfl)
def F_X4_occupy (n : Nat) (x0 : Int32) (x1 : Int32) (x2 : Int32) (x3 : Int32) (C : St) : Option (Int32 × St) := gd (inb x0 n) (st (up C 14 x0.toNatClampNeg 1 0 x1) (fun D2 => st (up D2 14 x0.toNatClampNeg 2 0 x2) (fun D4 => st (up D4 14 x0.toNatClampNeg 3 0 (0 : Int32)) (fun D6 => st (up D6 14 x0.toNatClampNeg 4 0 (0 : Int32)) (fun D8 => st (up D8 14 x0.toNatClampNeg 5 0 (1 : Int32)) (fun D10 => st (up D10 14 x0.toNatClampNeg 6 0 x3) (fun D12 => some (0, D12))))))))
set_option maxHeartbeats 4000000 in
set_option maxRecDepth 100000 in
theorem c_X4_occupy {l : Launch} {g : GP} {ed : Nat → Nat} {Z : St} {x0 : Int32} {x1 : Int32} {x2 : Int32} {x3 : Int32} {C : St} {r : Int32} {C2 : St} (h : F_X4_occupy (gn g) x0 x1 x2 x3 C = some (r, C2)) : Met l yX4_occupy (Cond.code yX4_occupy cX4_occupy 4 none :: lwG) ({ frames := 0, cells := 0, slots := 0, locals := 0 } : Room) (va_Pc [rfv (gA g) 14 x0, rfv (gA g) 6 x1, .int x2, .int x3] (PW g C Z ed)) (QG none g C2 Z) 0 0 (gP g) := by
  refine Met.ofW (cc := cX4_occupy) (maxL := 4) (ret := none) (by decide +kernel) rfl ?_
  intro p e s m args below meth c s₁ B hml hv
  obtain ⟨ha, hC, hE, hr, hlk, hH⟩ := g_start B hv
  subst ha
  have hC : CX p s m ([rfv (gA g) 14 x0, rfv (gA g) 6 x1, .int x2, .int x3] : List Value).toArray c cX4_occupy RX4 g := hC
  have hS : va_S (gP g) s.heap s.heap [] := va_S.rf
  obtain ⟨ls, he, hl⟩ := g_entry m (vs := [rfv (gA g) 14 x0, rfv (gA g) 6 x1, .int x2, .int x3]) (n := 4) (List.forall_mem_cons.mpr ⟨rfv_cat, (List.forall_mem_cons.mpr ⟨rfv_cat, (List.forall_mem_cons.mpr ⟨rfl, (List.forall_mem_cons.mpr ⟨rfl, (fun _ h => absurd h List.not_mem_nil)⟩)⟩)⟩)⟩) (Nat.le_of_ble_eq_true rfl)
  rw [he]
  have hl : lv_has ls 4 [(0, rfv (gA g) 14 x0), (1, rfv (gA g) 6 x1), (2, .int x2), (3, .int x3)] := hl
  unfold F_X4_occupy at h
  refine gl_aload_n hC dX4_occupy_0 rfl (lv_at hl 0 rfl) ?_
  refine gl_aload_n hC dX4_occupy_1 rfl (lv_at hl 1 rfl) ?_
  obtain ⟨hg1, h⟩ := gd_some h
  obtain ⟨D2, e3, h⟩ := st_some h
  refine pf_RX4_19 hC hH hS (inb_lt hg1)  rfl (rfv_in hg1) dX4_occupy_2 (fun H locs hH hS => ?_)
  rw [← e3] at hH
  refine gl_aload_n hC dX4_occupy_5 rfl (lv_at hl 0 rfl) ?_
  refine lv_iload_n hC.1 hC.2.1 dX4_occupy_6 rfl (lv_at hl 2 rfl) ?_
  obtain ⟨D4, e5, h⟩ := st_some h
  refine pf_RX4_35 hC hH hS (inb_lt hg1)  (rfv_in hg1) dX4_occupy_7 (fun H locs hH hS => ?_)
  rw [← e5] at hH
  refine gl_aload_n hC dX4_occupy_10 rfl (lv_at hl 0 rfl) ?_
  refine lv_iconst (v := (0 : Int32)) hC.1 hC.2.1 dX4_occupy_11 (by decide) ?_
  obtain ⟨D6, e7, h⟩ := st_some h
  refine pf_RX4_15 hC hH hS (inb_lt hg1) (by decide) (rfv_in hg1) dX4_occupy_12 (fun H locs hH hS => ?_)
  rw [← e7] at hH
  refine gl_aload_n hC dX4_occupy_15 rfl (lv_at hl 0 rfl) ?_
  refine lv_iconst (v := (0 : Int32)) hC.1 hC.2.1 dX4_occupy_16 (by decide) ?_
  obtain ⟨D8, e9, h⟩ := st_some h
  refine pf_RX4_29 hC hH hS (inb_lt hg1) (by decide) (rfv_in hg1) dX4_occupy_17 (fun H locs hH hS => ?_)
  rw [← e9] at hH
  refine gl_aload_n hC dX4_occupy_20 rfl (lv_at hl 0 rfl) ?_
  refine lv_iconst (v := (1 : Int32)) hC.1 hC.2.1 dX4_occupy_21 (by decide) ?_
  obtain ⟨D10, e11, h⟩ := st_some h
  refine pf_RX4_32 hC hH hS (inb_lt hg1) (by decide) (rfv_in hg1) dX4_occupy_22 (fun H locs hH hS => ?_)
  rw [← e11] at hH
  refine gl_aload_n hC dX4_occupy_25 rfl (lv_at hl 0 rfl) ?_
  refine lv_iload_n hC.1 hC.2.1 dX4_occupy_26 rfl (lv_at hl 3 rfl) ?_
  obtain ⟨D12, e13, h⟩ := st_some h
  refine pf_RX4_39 hC hH hS (inb_lt hg1)  (rfv_in hg1) dX4_occupy_27 (fun H locs hH hS => ?_)
  rw [← e13] at hH
  cases h
  exact gret_v hC hr hlk hH hS (Nat.le_of_ble_eq_true rfl) (Nat.le_of_ble_eq_true rfl) dX4_occupy_30
