def F_X5_held_23 (n : Nat)  (t0 : Int32) (C : St) : Option (Int32 × St) := some (t0, C)
set_option maxHeartbeats 4000000 in
set_option maxRecDepth 100000 in
theorem B_X5_held_23 {p : Program} {l : Launch} {e : Env} {s : State} {m : MethodId} {args : Array Value} {below : List Frame} {meth : Method} {c : Code} {g : GP} {Z : St} (hC : CX p s m args c cX5_held RX5 g) (hE : EZ g s s.heap) (hml : c.maxLocals = 2) (hr : meth.sig.returnType = (some .int)) (hlk : meth.locks = false) {r : Int32} {C2 : St} {t0 : Int32} {C : St} (h : F_X5_held_23 (gn g)  t0 C = some (r, C2)) {ed : Nat → Nat} {H : Heap} {locs : List Loc} {ls : Array Slot} (hH : HW g ed C Z H) (hS : va_S (gP g) s.heap H locs) (hl : lv_has ls 2 []) : W p l e ({ frames := 0, cells := 0, slots := 0, locals := 0 } : Room) s m args below meth c H locs 0 0 (MQ below (QG (some (.int r)) g C2 Z) args s 0 0 (gP g)) (F0 m 23 ls [.int t0]) := by
  unfold F_X5_held_23 at h
  cases h
  exact gret_i hC hr hlk hH hS (Nat.le_of_ble_eq_true rfl) (Nat.le_of_ble_eq_true rfl) dX5_held_23
def F_X5_held_22 (n : Nat)   (C : St) : Option (Int32 × St) := F_X5_held_23 n (0 : Int32) C
set_option maxHeartbeats 4000000 in
set_option maxRecDepth 100000 in
theorem B_X5_held_22 {p : Program} {l : Launch} {e : Env} {s : State} {m : MethodId} {args : Array Value} {below : List Frame} {meth : Method} {c : Code} {g : GP} {Z : St} (hC : CX p s m args c cX5_held RX5 g) (hE : EZ g s s.heap) (hml : c.maxLocals = 2) (hr : meth.sig.returnType = (some .int)) (hlk : meth.locks = false) {r : Int32} {C2 : St}  {C : St} (h : F_X5_held_22 (gn g)   C = some (r, C2)) {ed : Nat → Nat} {H : Heap} {locs : List Loc} {ls : Array Slot} (hH : HW g ed C Z H) (hS : va_S (gP g) s.heap H locs) (hl : lv_has ls 2 []) : W p l e ({ frames := 0, cells := 0, slots := 0, locals := 0 } : Room) s m args below meth c H locs 0 0 (MQ below (QG (some (.int r)) g C2 Z) args s 0 0 (gP g)) (F0 m 22 ls []) := by
  unfold F_X5_held_22 at h
  refine lv_iconst (v := (0 : Int32)) hC.1 hC.2.1 dX5_held_22 (by decide) ?_
  exact B_X5_held_23 hC hE hml hr hlk h hH hS (lv_sub hl [] rfl)
def F_X5_held (n : Nat) (x0 : Int32) (x1 : Int32) (C : St) : Option (Int32 × St) := if x1 < 0 then (F_X5_held_22 n  C) else (gd (inb x0 6) (if (3 : Int32) ≤ x1 then (F_X5_held_22 n  C) else (gd (inb x1 3) (F_X5_held_23 n (C 10 x0.toNatClampNeg 0 x1.toNatClampNeg) C))))
set_option maxHeartbeats 4000000 in
set_option maxRecDepth 100000 in
theorem c_X5_held {l : Launch} {g : GP} {ed : Nat → Nat} {Z : St} {x0 : Int32} {x1 : Int32} {C : St} {r : Int32} {C2 : St} (h : F_X5_held (gn g) x0 x1 C = some (r, C2)) : Met l yX5_held (Cond.code yX5_held cX5_held 2 (some .int) :: lwG) ({ frames := 0, cells := 0, slots := 0, locals := 0 } : Room) (va_Pc [rfv (gA g) 6 x0, .int x1] (PW g C Z ed)) (QG (some (.int r)) g C2 Z) 0 0 (gP g) := by
  refine Met.ofW (cc := cX5_held) (maxL := 2) (ret := (some .int)) (by decide +kernel) rfl ?_
  intro p e s m args below meth c s₁ B hml hv
  obtain ⟨ha, hC, hE, hr, hlk, hH⟩ := g_start B hv
  subst ha
  have hC : CX p s m ([rfv (gA g) 6 x0, .int x1] : List Value).toArray c cX5_held RX5 g := hC
  have hS : va_S (gP g) s.heap s.heap [] := va_S.rf
  obtain ⟨ls, he, hl⟩ := g_entry m (vs := [rfv (gA g) 6 x0, .int x1]) (n := 2) (List.forall_mem_cons.mpr ⟨rfv_cat, (List.forall_mem_cons.mpr ⟨rfl, (fun _ h => absurd h List.not_mem_nil)⟩)⟩) (Nat.le_of_ble_eq_true rfl)
  rw [he]
  have hl : lv_has ls 2 [(0, rfv (gA g) 6 x0), (1, .int x1)] := hl
  unfold F_X5_held at h
  refine lv_iload_n hC.1 hC.2.1 dX5_held_0 rfl (lv_at hl 1 rfl) ?_
  refine lv_if_lt (tgt := 22) hC.1 hC.2.1 dX5_held_1 (by decide) (fun hc1 => ?_) (fun hc1 => ?_)
  · rw [if_pos hc1] at h
    exact B_X5_held_22 hC hE hml hr hlk h hH hS (lv_sub hl [] rfl)
  · rw [if_neg hc1] at h
    refine lv_iload_n hC.1 hC.2.1 dX5_held_4 rfl (lv_at hl 1 rfl) ?_
    refine gl_aload_n hC dX5_held_5 rfl (lv_at hl 0 rfl) ?_
    obtain ⟨hg2, h⟩ := gd_some h
    refine gf_RX5_30 hC hH (inb_lt hg2) (rfv_in hg2) dX5_held_6 ?_
    refine ln_10 hC hH (inb_lt hg2) rfl dX5_held_9 ?_
    refine lv_icmp_ge (tgt := 22) hC.1 hC.2.1 dX5_held_10 (by decide) (fun hc3 => ?_) (fun hc3 => ?_)
    · rw [if_pos hc3] at h
      exact B_X5_held_22 hC hE hml hr hlk h hH hS (lv_sub hl [] rfl)
    · rw [if_neg hc3] at h
      refine gl_aload_n hC dX5_held_13 rfl (lv_at hl 0 rfl) ?_
      refine gf_RX5_30 hC hH (inb_lt hg2) (rfv_in hg2) dX5_held_14 ?_
      refine lv_iload_n hC.1 hC.2.1 dX5_held_17 rfl (lv_at hl 1 rfl) ?_
      obtain ⟨hg4, h⟩ := gd_some h
      refine al_10 hC hH (inb_lt hg2) hg4 rfl dX5_held_18 ?_
      refine lv_goto (tgt := 23) hC.1 hC.2.1 dX5_held_19 (by decide) ?_
      exact B_X5_held_23 hC hE hml hr hlk h hH hS (lv_sub hl [] rfl)
def F_X5_claimed_23 (n : Nat)  (t0 : Int32) (C : St) : Option (Int32 × St) := some (t0, C)
set_option maxHeartbeats 4000000 in
set_option maxRecDepth 100000 in
theorem B_X5_claimed_23 {p : Program} {l : Launch} {e : Env} {s : State} {m : MethodId} {args : Array Value} {below : List Frame} {meth : Method} {c : Code} {g : GP} {Z : St} (hC : CX p s m args c cX5_claimed RX5 g) (hE : EZ g s s.heap) (hml : c.maxLocals = 2) (hr : meth.sig.returnType = (some .int)) (hlk : meth.locks = false) {r : Int32} {C2 : St} {t0 : Int32} {C : St} (h : F_X5_claimed_23 (gn g)  t0 C = some (r, C2)) {ed : Nat → Nat} {H : Heap} {locs : List Loc} {ls : Array Slot} (hH : HW g ed C Z H) (hS : va_S (gP g) s.heap H locs) (hl : lv_has ls 2 []) : W p l e ({ frames := 0, cells := 0, slots := 0, locals := 0 } : Room) s m args below meth c H locs 0 0 (MQ below (QG (some (.int r)) g C2 Z) args s 0 0 (gP g)) (F0 m 23 ls [.int t0]) := by
  unfold F_X5_claimed_23 at h
  cases h
  exact gret_i hC hr hlk hH hS (Nat.le_of_ble_eq_true rfl) (Nat.le_of_ble_eq_true rfl) dX5_claimed_23
def F_X5_claimed_22 (n : Nat)   (C : St) : Option (Int32 × St) := F_X5_claimed_23 n (0 : Int32) C
set_option maxHeartbeats 4000000 in
set_option maxRecDepth 100000 in
theorem B_X5_claimed_22 {p : Program} {l : Launch} {e : Env} {s : State} {m : MethodId} {args : Array Value} {below : List Frame} {meth : Method} {c : Code} {g : GP} {Z : St} (hC : CX p s m args c cX5_claimed RX5 g) (hE : EZ g s s.heap) (hml : c.maxLocals = 2) (hr : meth.sig.returnType = (some .int)) (hlk : meth.locks = false) {r : Int32} {C2 : St}  {C : St} (h : F_X5_claimed_22 (gn g)   C = some (r, C2)) {ed : Nat → Nat} {H : Heap} {locs : List Loc} {ls : Array Slot} (hH : HW g ed C Z H) (hS : va_S (gP g) s.heap H locs) (hl : lv_has ls 2 []) : W p l e ({ frames := 0, cells := 0, slots := 0, locals := 0 } : Room) s m args below meth c H locs 0 0 (MQ below (QG (some (.int r)) g C2 Z) args s 0 0 (gP g)) (F0 m 22 ls []) := by
  unfold F_X5_claimed_22 at h
  refine lv_iconst (v := (0 : Int32)) hC.1 hC.2.1 dX5_claimed_22 (by decide) ?_
  exact B_X5_claimed_23 hC hE hml hr hlk h hH hS (lv_sub hl [] rfl)
def F_X5_claimed (n : Nat) (x0 : Int32) (x1 : Int32) (C : St) : Option (Int32 × St) := if x1 < 0 then (F_X5_claimed_22 n  C) else (gd (inb x0 6) (if (3 : Int32) ≤ x1 then (F_X5_claimed_22 n  C) else (gd (inb x1 3) (F_X5_claimed_23 n (C 9 x0.toNatClampNeg 0 x1.toNatClampNeg) C))))
set_option maxHeartbeats 4000000 in
set_option maxRecDepth 100000 in
theorem c_X5_claimed {l : Launch} {g : GP} {ed : Nat → Nat} {Z : St} {x0 : Int32} {x1 : Int32} {C : St} {r : Int32} {C2 : St} (h : F_X5_claimed (gn g) x0 x1 C = some (r, C2)) : Met l yX5_claimed (Cond.code yX5_claimed cX5_claimed 2 (some .int) :: lwG) ({ frames := 0, cells := 0, slots := 0, locals := 0 } : Room) (va_Pc [rfv (gA g) 6 x0, .int x1] (PW g C Z ed)) (QG (some (.int r)) g C2 Z) 0 0 (gP g) := by
  refine Met.ofW (cc := cX5_claimed) (maxL := 2) (ret := (some .int)) (by decide +kernel) rfl ?_
  intro p e s m args below meth c s₁ B hml hv
  obtain ⟨ha, hC, hE, hr, hlk, hH⟩ := g_start B hv
  subst ha
  have hC : CX p s m ([rfv (gA g) 6 x0, .int x1] : List Value).toArray c cX5_claimed RX5 g := hC
  have hS : va_S (gP g) s.heap s.heap [] := va_S.rf
  obtain ⟨ls, he, hl⟩ := g_entry m (vs := [rfv (gA g) 6 x0, .int x1]) (n := 2) (List.forall_mem_cons.mpr ⟨rfv_cat, (List.forall_mem_cons.mpr ⟨rfl, (fun _ h => absurd h List.not_mem_nil)⟩)⟩) (Nat.le_of_ble_eq_true rfl)
  rw [he]
  have hl : lv_has ls 2 [(0, rfv (gA g) 6 x0), (1, .int x1)] := hl
  unfold F_X5_claimed at h
  refine lv_iload_n hC.1 hC.2.1 dX5_claimed_0 rfl (lv_at hl 1 rfl) ?_
  refine lv_if_lt (tgt := 22) hC.1 hC.2.1 dX5_claimed_1 (by decide) (fun hc1 => ?_) (fun hc1 => ?_)
  · rw [if_pos hc1] at h
    exact B_X5_claimed_22 hC hE hml hr hlk h hH hS (lv_sub hl [] rfl)
  · rw [if_neg hc1] at h
    refine lv_iload_n hC.1 hC.2.1 dX5_claimed_4 rfl (lv_at hl 1 rfl) ?_
    refine gl_aload_n hC dX5_claimed_5 rfl (lv_at hl 0 rfl) ?_
    obtain ⟨hg2, h⟩ := gd_some h
    refine gf_RX5_27 hC hH (inb_lt hg2) (rfv_in hg2) dX5_claimed_6 ?_
    refine ln_9 hC hH (inb_lt hg2) rfl dX5_claimed_9 ?_
    refine lv_icmp_ge (tgt := 22) hC.1 hC.2.1 dX5_claimed_10 (by decide) (fun hc3 => ?_) (fun hc3 => ?_)
    · rw [if_pos hc3] at h
      exact B_X5_claimed_22 hC hE hml hr hlk h hH hS (lv_sub hl [] rfl)
    · rw [if_neg hc3] at h
      refine gl_aload_n hC dX5_claimed_13 rfl (lv_at hl 0 rfl) ?_
      refine gf_RX5_27 hC hH (inb_lt hg2) (rfv_in hg2) dX5_claimed_14 ?_
      refine lv_iload_n hC.1 hC.2.1 dX5_claimed_17 rfl (lv_at hl 1 rfl) ?_
      obtain ⟨hg4, h⟩ := gd_some h
      refine al_9 hC hH (inb_lt hg2) hg4 rfl dX5_claimed_18 ?_
      refine lv_goto (tgt := 23) hC.1 hC.2.1 dX5_claimed_19 (by decide) ?_
      exact B_X5_claimed_23 hC hE hml hr hlk h hH hS (lv_sub hl [] rfl)
def F_X5_hasCard_16 (n : Nat)  (t0 : Int32) (C : St) : Option (Int32 × St) := gd (isb t0) (some (t0, C))
set_option maxHeartbeats 4000000 in
set_option maxRecDepth 100000 in
theorem B_X5_hasCard_16 {p : Program} {l : Launch} {e : Env} {s : State} {m : MethodId} {args : Array Value} {below : List Frame} {meth : Method} {c : Code} {g : GP} {Z : St} (hC : CX p s m args c cX5_hasCard RX5 g) (hE : EZ g s s.heap) (hml : c.maxLocals = 1) (hr : meth.sig.returnType = (some .boolean)) (hlk : meth.locks = false) {r : Int32} {C2 : St} {t0 : Int32} {C : St} (h : F_X5_hasCard_16 (gn g)  t0 C = some (r, C2)) {ed : Nat → Nat} {H : Heap} {locs : List Loc} {ls : Array Slot} (hH : HW g ed C Z H) (hS : va_S (gP g) s.heap H locs) (hl : lv_has ls 1 []) : W p l e ({ frames := 0, cells := 0, slots := 0, locals := 0 } : Room) s m args below meth c H locs 0 0 (MQ below (QG (some (.int r)) g C2 Z) args s 0 0 (gP g)) (F0 m 16 ls [.int t0]) := by
  unfold F_X5_hasCard_16 at h
  obtain ⟨hg1, h⟩ := gd_some h
  cases h
  exact gret_z hC hr hlk hg1 hH hS (Nat.le_of_ble_eq_true rfl) (Nat.le_of_ble_eq_true rfl) dX5_hasCard_16
def F_X5_hasCard (n : Nat) (x0 : Int32) (C : St) : Option (Int32 × St) := gd (inb x0 6) (if (C 6 x0.toNatClampNeg 15 0) ≤ (C 6 x0.toNatClampNeg 16 0) then (F_X5_hasCard_16 n (0 : Int32) C) else (F_X5_hasCard_16 n (1 : Int32) C))
set_option maxHeartbeats 4000000 in
set_option maxRecDepth 100000 in
theorem c_X5_hasCard {l : Launch} {g : GP} {ed : Nat → Nat} {Z : St} {x0 : Int32} {C : St} {r : Int32} {C2 : St} (h : F_X5_hasCard (gn g) x0 C = some (r, C2)) : Met l yX5_hasCard (Cond.code yX5_hasCard cX5_hasCard 1 (some .boolean) :: lwG) ({ frames := 0, cells := 0, slots := 0, locals := 0 } : Room) (va_Pc [rfv (gA g) 6 x0] (PW g C Z ed)) (QG (some (.int r)) g C2 Z) 0 0 (gP g) := by
  refine Met.ofW (cc := cX5_hasCard) (maxL := 1) (ret := (some .boolean)) (by decide +kernel) rfl ?_
  intro p e s m args below meth c s₁ B hml hv
  obtain ⟨ha, hC, hE, hr, hlk, hH⟩ := g_start B hv
  subst ha
  have hC : CX p s m ([rfv (gA g) 6 x0] : List Value).toArray c cX5_hasCard RX5 g := hC
  have hS : va_S (gP g) s.heap s.heap [] := va_S.rf
  obtain ⟨ls, he, hl⟩ := g_entry m (vs := [rfv (gA g) 6 x0]) (n := 1) (List.forall_mem_cons.mpr ⟨rfv_cat, (fun _ h => absurd h List.not_mem_nil)⟩) (Nat.le_of_ble_eq_true rfl)
  rw [he]
  have hl : lv_has ls 1 [(0, rfv (gA g) 6 x0)] := hl
  unfold F_X5_hasCard at h
  refine gl_aload_n hC dX5_hasCard_0 rfl (lv_at hl 0 rfl) ?_
  obtain ⟨hg1, h⟩ := gd_some h
  refine gf_RX5_58 hC hH (inb_lt hg1) (rfv_in hg1) dX5_hasCard_1 ?_
  refine gl_aload_n hC dX5_hasCard_4 rfl (lv_at hl 0 rfl) ?_
  refine gf_RX5_82 hC hH (inb_lt hg1) (rfv_in hg1) dX5_hasCard_5 ?_
  refine lv_icmp_ge (tgt := 15) hC.1 hC.2.1 dX5_hasCard_8 (by decide) (fun hc2 => ?_) (fun hc2 => ?_)
  · rw [if_pos hc2] at h
    refine lv_iconst (v := (0 : Int32)) hC.1 hC.2.1 dX5_hasCard_15 (by decide) ?_
    exact B_X5_hasCard_16 hC hE hml hr hlk h hH hS (lv_sub hl [] rfl)
  · rw [if_neg hc2] at h
    refine lv_iconst (v := (1 : Int32)) hC.1 hC.2.1 dX5_hasCard_11 (by decide) ?_
    refine lv_goto (tgt := 16) hC.1 hC.2.1 dX5_hasCard_12 (by decide) ?_
    exact B_X5_hasCard_16 hC hE hml hr hlk h hH hS (lv_sub hl [] rfl)
def F_X5_takeCard_30 (n : Nat)   (C : St) : Option (Int32 × St) := some ((0 : Int32), C)
set_option maxHeartbeats 4000000 in
set_option maxRecDepth 100000 in
theorem B_X5_takeCard_30 {p : Program} {l : Launch} {e : Env} {s : State} {m : MethodId} {args : Array Value} {below : List Frame} {meth : Method} {c : Code} {g : GP} {Z : St} (hC : CX p s m args c cX5_takeCard RX5 g) (hE : EZ g s s.heap) (hml : c.maxLocals = 1) (hr : meth.sig.returnType = (some .int)) (hlk : meth.locks = false) {r : Int32} {C2 : St}  {C : St} (h : F_X5_takeCard_30 (gn g)   C = some (r, C2)) {ed : Nat → Nat} {H : Heap} {locs : List Loc} {ls : Array Slot} (hH : HW g ed C Z H) (hS : va_S (gP g) s.heap H locs) (hl : lv_has ls 1 []) : W p l e ({ frames := 0, cells := 0, slots := 0, locals := 0 } : Room) s m args below meth c H locs 0 0 (MQ below (QG (some (.int r)) g C2 Z) args s 0 0 (gP g)) (F0 m 30 ls []) := by
  unfold F_X5_takeCard_30 at h
  refine lv_iconst (v := (0 : Int32)) hC.1 hC.2.1 dX5_takeCard_30 (by decide) ?_
  cases h
  exact gret_i hC hr hlk hH hS (Nat.le_of_ble_eq_true rfl) (Nat.le_of_ble_eq_true rfl) dX5_takeCard_31
def F_X5_takeCard (n : Nat) (x0 : Int32) (C : St) : Option (Int32 × St) := gd (inb x0 6) (if (C 6 x0.toNatClampNeg 16 0) < 0 then (F_X5_takeCard_30 n  C) else (if (C 6 x0.toNatClampNeg 15 0) ≤ (C 6 x0.toNatClampNeg 16 0) then (F_X5_takeCard_30 n  C) else (if (C 6 x0.toNatClampNeg 16 0) < (40 : Int32) then (st (up C 6 x0.toNatClampNeg 16 0 ((C 6 x0.toNatClampNeg 16 0) + (1 : Int32))) (fun D5 => gd (inb ((D5 6 x0.toNatClampNeg 16 0) - (1 : Int32)) 40) (some (D5 8 x0.toNatClampNeg 0 ((D5 6 x0.toNatClampNeg 16 0) - (1 : Int32)).toNatClampNeg, D5)))) else (F_X5_takeCard_30 n  C))))
set_option maxHeartbeats 4000000 in
set_option maxRecDepth 100000 in
theorem c_X5_takeCard {l : Launch} {g : GP} {ed : Nat → Nat} {Z : St} {x0 : Int32} {C : St} {r : Int32} {C2 : St} (h : F_X5_takeCard (gn g) x0 C = some (r, C2)) : Met l yX5_takeCard (Cond.code yX5_takeCard cX5_takeCard 1 (some .int) :: lwG) ({ frames := 0, cells := 0, slots := 0, locals := 0 } : Room) (va_Pc [rfv (gA g) 6 x0] (PW g C Z ed)) (QG (some (.int r)) g C2 Z) 0 0 (gP g) := by
  refine Met.ofW (cc := cX5_takeCard) (maxL := 1) (ret := (some .int)) (by decide +kernel) rfl ?_
  intro p e s m args below meth c s₁ B hml hv
  obtain ⟨ha, hC, hE, hr, hlk, hH⟩ := g_start B hv
  subst ha
  have hC : CX p s m ([rfv (gA g) 6 x0] : List Value).toArray c cX5_takeCard RX5 g := hC
  have hS : va_S (gP g) s.heap s.heap [] := va_S.rf
  obtain ⟨ls, he, hl⟩ := g_entry m (vs := [rfv (gA g) 6 x0]) (n := 1) (List.forall_mem_cons.mpr ⟨rfv_cat, (fun _ h => absurd h List.not_mem_nil)⟩) (Nat.le_of_ble_eq_true rfl)
  rw [he]
  have hl : lv_has ls 1 [(0, rfv (gA g) 6 x0)] := hl
  unfold F_X5_takeCard at h
  refine gl_aload_n hC dX5_takeCard_0 rfl (lv_at hl 0 rfl) ?_
  obtain ⟨hg1, h⟩ := gd_some h
  refine gf_RX5_58 hC hH (inb_lt hg1) (rfv_in hg1) dX5_takeCard_1 ?_
  refine lv_if_lt (tgt := 30) hC.1 hC.2.1 dX5_takeCard_4 (by decide) (fun hc2 => ?_) (fun hc2 => ?_)
  · rw [if_pos hc2] at h
    exact B_X5_takeCard_30 hC hE hml hr hlk h hH hS (lv_sub hl [] rfl)
  · rw [if_neg hc2] at h
    refine gl_aload_n hC dX5_takeCard_7 rfl (lv_at hl 0 rfl) ?_
    refine gf_RX5_58 hC hH (inb_lt hg1) (rfv_in hg1) dX5_takeCard_8 ?_
    refine gl_aload_n hC dX5_takeCard_11 rfl (lv_at hl 0 rfl) ?_
    refine gf_RX5_82 hC hH (inb_lt hg1) (rfv_in hg1) dX5_takeCard_12 ?_
    refine lv_icmp_ge (tgt := 30) hC.1 hC.2.1 dX5_takeCard_15 (by decide) (fun hc3 => ?_) (fun hc3 => ?_)
    · rw [if_pos hc3] at h
      exact B_X5_takeCard_30 hC hE hml hr hlk h hH hS (lv_sub hl [] rfl)
    · rw [if_neg hc3] at h
      refine gl_aload_n hC dX5_takeCard_18 rfl (lv_at hl 0 rfl) ?_
      refine gf_RX5_58 hC hH (inb_lt hg1) (rfv_in hg1) dX5_takeCard_19 ?_
      refine gl_aload_n hC dX5_takeCard_22 rfl (lv_at hl 0 rfl) ?_
      refine gf_RX5_15 hC hH (inb_lt hg1) (rfv_in hg1) dX5_takeCard_23 ?_
      refine ln_8 hC hH (inb_lt hg1) rfl dX5_takeCard_26 ?_
      refine lv_icmp_lt (tgt := 32) hC.1 hC.2.1 dX5_takeCard_27 (by decide) (fun hc4 => ?_) (fun hc4 => ?_)
      · rw [if_pos hc4] at h
        refine gl_aload_n hC dX5_takeCard_32 rfl (lv_at hl 0 rfl) ?_
        refine lv_dup hC.1 hC.2.1 dX5_takeCard_33 rfv_cat ?_
        refine gf_RX5_58 hC hH (inb_lt hg1) (rfv_in hg1) dX5_takeCard_34 ?_
        refine lv_iconst (v := (1 : Int32)) hC.1 hC.2.1 dX5_takeCard_37 (by decide) ?_
        refine lv_iadd hC.1 hC.2.1 dX5_takeCard_38 ?_
        obtain ⟨D5, e6, h⟩ := st_some h
        refine pf_RX5_58 hC hH hS (inb_lt hg1)  (rfv_in hg1) dX5_takeCard_39 (fun H locs hH hS => ?_)
        rw [← e6] at hH
        refine gl_aload_n hC dX5_takeCard_42 rfl (lv_at hl 0 rfl) ?_
        refine gf_RX5_15 hC hH (inb_lt hg1) (rfv_in hg1) dX5_takeCard_43 ?_
        refine gl_aload_n hC dX5_takeCard_46 rfl (lv_at hl 0 rfl) ?_
        refine gf_RX5_58 hC hH (inb_lt hg1) (rfv_in hg1) dX5_takeCard_47 ?_
        refine lv_iconst (v := (1 : Int32)) hC.1 hC.2.1 dX5_takeCard_50 (by decide) ?_
        refine lv_isub hC.1 hC.2.1 dX5_takeCard_51 ?_
        obtain ⟨hg7, h⟩ := gd_some h
        refine al_8 hC hH (inb_lt hg1) hg7 rfl dX5_takeCard_52 ?_
        cases h
        exact gret_i hC hr hlk hH hS (Nat.le_of_ble_eq_true rfl) (Nat.le_of_ble_eq_true rfl) dX5_takeCard_53
      · rw [if_neg hc4] at h
        exact B_X5_takeCard_30 hC hE hml hr hlk h hH hS (lv_sub hl [] rfl)
def F_X5_renew_64 (n : Nat)  : Nat → Int32 → Int32 → St → Option (Int32 × St)
  | 0, _, _, _ => none
  | fu + 1, x0, x2, C => gd (inb x0 6) (if (3 : Int32) ≤ x2 then (some (0, C)) else (gd (inb x2 3) (st (up C 10 x0.toNatClampNeg 0 x2.toNatClampNeg (0 : Int32)) (fun D4 => F_X5_renew_64 n fu x0 (x2 + 1) D4))))
set_option maxHeartbeats 4000000 in
set_option maxRecDepth 100000 in
theorem B_X5_renew_64 {p : Program} {l : Launch} {e : Env} {s : State} {m : MethodId} {args : Array Value} {below : List Frame} {meth : Method} {c : Code} {g : GP} {Z : St} (hC : CX p s m args c cX5_renew RX5 g) (hE : EZ g s s.heap) (hml : c.maxLocals = 3) (hr : meth.sig.returnType = none) (hlk : meth.locks = false) {r : Int32} {C2 : St} : ∀ (fu : Nat) (x0 : Int32) (x2 : Int32) (C : St), F_X5_renew_64 (gn g)  fu x0 x2 C = some (r, C2) → ∀ (ed : Nat → Nat) (H : Heap) (locs : List Loc) (ls : Array Slot), HW g ed C Z H → va_S (gP g) s.heap H locs → lv_has ls 3 [(0, rfv (gA g) 6 x0), (2, .int x2)] → W p l e ({ frames := 1, cells := 0, slots := 0, locals := 20 } : Room) s m args below meth c H locs 0 0 (MQ below (QG none g C2 Z) args s 0 0 (gP g)) (F0 m 64 ls []) := by
  intro fu
  induction fu with
  | zero =>
    intro x0 x2 C h
    cases h
  | succ fu ih =>
    intro x0 x2 C h ed H locs ls hH hS hl
    rw [F_X5_renew_64] at h
    refine lv_iload_n hC.1 hC.2.1 dX5_renew_64 rfl (lv_at hl 1 rfl) ?_
    refine gl_aload_n hC dX5_renew_65 rfl (lv_at hl 0 rfl) ?_
    obtain ⟨hg1, h⟩ := gd_some h
    refine gf_RX5_30 hC hH (inb_lt hg1) (rfv_in hg1) dX5_renew_66 ?_
    refine ln_10 hC hH (inb_lt hg1) rfl dX5_renew_69 ?_
    refine lv_icmp_ge (tgt := 86) hC.1 hC.2.1 dX5_renew_70 (by decide) (fun hc2 => ?_) (fun hc2 => ?_)
    · rw [if_pos hc2] at h
      cases h
      exact gret_v hC hr hlk hH hS (Nat.le_of_ble_eq_true rfl) (Nat.le_of_ble_eq_true rfl) dX5_renew_86
    · rw [if_neg hc2] at h
      refine gl_aload_n hC dX5_renew_73 rfl (lv_at hl 0 rfl) ?_
      refine gf_RX5_30 hC hH (inb_lt hg1) (rfv_in hg1) dX5_renew_74 ?_
      refine lv_iload_n hC.1 hC.2.1 dX5_renew_77 rfl (lv_at hl 1 rfl) ?_
      refine lv_iconst (v := (0 : Int32)) hC.1 hC.2.1 dX5_renew_78 (by decide) ?_
      obtain ⟨hg3, h⟩ := gd_some h
      obtain ⟨D4, e5, h⟩ := st_some h
      refine as_10 hC hH hS (inb_lt hg1) hg3 rfl dX5_renew_79 (fun H locs hH hS => ?_)
      rw [← e5] at hH
      refine lv_iinc (v := x2 + 1) (lv' := [(2, .int (x2 + 1)), (0, rfv (gA g) 6 x0)]) hC.1 hC.2.1 dX5_renew_80 hl (k := 1) rfl rfl (by decide) rfl (fun ls hl => ?_)
      refine lv_goto (tgt := 64) hC.1 hC.2.1 dX5_renew_83 (by decide) ?_
      exact ih _ _ _ h _ _ _ _ hH hS (lv_sub hl [1, 0] rfl)
def F_X5_renew (n : Nat) (x0 : Int32) (x1 : Int32) (C : St) : Option (Int32 × St) := gd (inb x0 6) (st (up C 6 x0.toNatClampNeg 6 0 x1) (fun D2 => st (up D2 6 x0.toNatClampNeg 7 0 (1 : Int32)) (fun D4 => st (up D4 6 x0.toNatClampNeg 8 0 (0 : Int32)) (fun D6 => st (up D6 6 x0.toNatClampNeg 11 0 (0 : Int32)) (fun D8 => st (up D8 6 x0.toNatClampNeg 12 0 (0 : Int32)) (fun D10 => st (up D10 6 x0.toNatClampNeg 13 0 (0 : Int32)) (fun D12 => st (up D12 6 x0.toNatClampNeg 14 0 (0 : Int32)) (fun D14 => st (up D14 6 x0.toNatClampNeg 16 0 (0 : Int32)) (fun D16 => st (up D16 6 x0.toNatClampNeg 17 0 (0 : Int32)) (fun D18 => st (up D18 6 x0.toNatClampNeg 18 0 (0 : Int32)) (fun D20 => st (up D20 6 x0.toNatClampNeg 19 0 (0 : Int32)) (fun D22 => bd2 (F_X8_clear n (x0.toNatClampNeg + 2) D22) (fun r24 D25 => F_X5_renew_64 n 1000 x0 (0 : Int32) D25)))))))))))))
set_option maxHeartbeats 4000000 in
set_option maxRecDepth 100000 in
theorem c_X5_renew {l : Launch} {g : GP} {ed : Nat → Nat} {Z : St} {x0 : Int32} {x1 : Int32} {C : St} {r : Int32} {C2 : St} (h : F_X5_renew (gn g) x0 x1 C = some (r, C2)) : Met l yX5_renew (Cond.code yX5_renew cX5_renew 3 none :: lwG) ({ frames := 1, cells := 0, slots := 0, locals := 20 } : Room) (va_Pc [rfv (gA g) 6 x0, .int x1] (PW g C Z ed)) (QG none g C2 Z) 0 0 (gP g) := by
  refine Met.ofW (cc := cX5_renew) (maxL := 3) (ret := none) (by decide +kernel) rfl ?_
  intro p e s m args below meth c s₁ B hml hv
  obtain ⟨ha, hC, hE, hr, hlk, hH⟩ := g_start B hv
  subst ha
  have hC : CX p s m ([rfv (gA g) 6 x0, .int x1] : List Value).toArray c cX5_renew RX5 g := hC
  have hS : va_S (gP g) s.heap s.heap [] := va_S.rf
  obtain ⟨ls, he, hl⟩ := g_entry m (vs := [rfv (gA g) 6 x0, .int x1]) (n := 3) (List.forall_mem_cons.mpr ⟨rfv_cat, (List.forall_mem_cons.mpr ⟨rfl, (fun _ h => absurd h List.not_mem_nil)⟩)⟩) (Nat.le_of_ble_eq_true rfl)
  rw [he]
  have hl : lv_has ls 3 [(0, rfv (gA g) 6 x0), (1, .int x1)] := hl
  unfold F_X5_renew at h
  refine gl_aload_n hC dX5_renew_0 rfl (lv_at hl 0 rfl) ?_
  refine lv_iload_n hC.1 hC.2.1 dX5_renew_1 rfl (lv_at hl 1 rfl) ?_
  obtain ⟨hg1, h⟩ := gd_some h
  obtain ⟨D2, e3, h⟩ := st_some h
  refine pf_RX5_40 hC hH hS (inb_lt hg1)  (rfv_in hg1) dX5_renew_2 (fun H locs hH hS => ?_)
  rw [← e3] at hH
  refine gl_aload_n hC dX5_renew_5 rfl (lv_at hl 0 rfl) ?_
  refine lv_iconst (v := (1 : Int32)) hC.1 hC.2.1 dX5_renew_6 (by decide) ?_
  obtain ⟨D4, e5, h⟩ := st_some h
  refine pf_RX5_33 hC hH hS (inb_lt hg1)  (rfv_in hg1) dX5_renew_7 (fun H locs hH hS => ?_)
  rw [← e5] at hH
  refine gl_aload_n hC dX5_renew_10 rfl (lv_at hl 0 rfl) ?_
  refine lv_iconst (v := (0 : Int32)) hC.1 hC.2.1 dX5_renew_11 (by decide) ?_
  obtain ⟨D6, e7, h⟩ := st_some h
  refine pf_RX5_43 hC hH hS (inb_lt hg1)  (rfv_in hg1) dX5_renew_12 (fun H locs hH hS => ?_)
  rw [← e7] at hH
  refine gl_aload_n hC dX5_renew_15 rfl (lv_at hl 0 rfl) ?_
  refine lv_iconst (v := (0 : Int32)) hC.1 hC.2.1 dX5_renew_16 (by decide) ?_
  obtain ⟨D8, e9, h⟩ := st_some h
  refine pf_RX5_46 hC hH hS (inb_lt hg1)  (rfv_in hg1) dX5_renew_17 (fun H locs hH hS => ?_)
  rw [← e9] at hH
  refine gl_aload_n hC dX5_renew_20 rfl (lv_at hl 0 rfl) ?_
  refine lv_iconst (v := (0 : Int32)) hC.1 hC.2.1 dX5_renew_21 (by decide) ?_
  obtain ⟨D10, e11, h⟩ := st_some h
  refine pf_RX5_49 hC hH hS (inb_lt hg1)  (rfv_in hg1) dX5_renew_22 (fun H locs hH hS => ?_)
  rw [← e11] at hH
  refine gl_aload_n hC dX5_renew_25 rfl (lv_at hl 0 rfl) ?_
  refine lv_iconst (v := (0 : Int32)) hC.1 hC.2.1 dX5_renew_26 (by decide) ?_
  obtain ⟨D12, e13, h⟩ := st_some h
  refine pf_RX5_52 hC hH hS (inb_lt hg1)  (rfv_in hg1) dX5_renew_27 (fun H locs hH hS => ?_)
  rw [← e13] at hH
  refine gl_aload_n hC dX5_renew_30 rfl (lv_at hl 0 rfl) ?_
  refine lv_iconst (v := (0 : Int32)) hC.1 hC.2.1 dX5_renew_31 (by decide) ?_
  obtain ⟨D14, e15, h⟩ := st_some h
  refine pf_RX5_55 hC hH hS (inb_lt hg1)  (rfv_in hg1) dX5_renew_32 (fun H locs hH hS => ?_)
  rw [← e15] at hH
  refine gl_aload_n hC dX5_renew_35 rfl (lv_at hl 0 rfl) ?_
  refine lv_iconst (v := (0 : Int32)) hC.1 hC.2.1 dX5_renew_36 (by decide) ?_
  obtain ⟨D16, e17, h⟩ := st_some h
  refine pf_RX5_58 hC hH hS (inb_lt hg1)  (rfv_in hg1) dX5_renew_37 (fun H locs hH hS => ?_)
  rw [← e17] at hH
  refine gl_aload_n hC dX5_renew_40 rfl (lv_at hl 0 rfl) ?_
  refine lv_iconst (v := (0 : Int32)) hC.1 hC.2.1 dX5_renew_41 (by decide) ?_
  obtain ⟨D18, e19, h⟩ := st_some h
  refine pf_RX5_61 hC hH hS (inb_lt hg1)  (rfv_in hg1) dX5_renew_42 (fun H locs hH hS => ?_)
  rw [← e19] at hH
  refine gl_aload_n hC dX5_renew_45 rfl (lv_at hl 0 rfl) ?_
  refine lv_iconst (v := (0 : Int32)) hC.1 hC.2.1 dX5_renew_46 (by decide) ?_
  obtain ⟨D20, e21, h⟩ := st_some h
  refine pf_RX5_64 hC hH hS (inb_lt hg1) (by decide) (rfv_in hg1) dX5_renew_47 (fun H locs hH hS => ?_)
  rw [← e21] at hH
  refine gl_aload_n hC dX5_renew_50 rfl (lv_at hl 0 rfl) ?_
  refine lv_iconst (v := (0 : Int32)) hC.1 hC.2.1 dX5_renew_51 (by decide) ?_
  obtain ⟨D22, e23, h⟩ := st_some h
  refine pf_RX5_68 hC hH hS (inb_lt hg1)  (rfv_in hg1) dX5_renew_52 (fun H locs hH hS => ?_)
  rw [← e23] at hH
  refine gl_aload_n hC dX5_renew_55 rfl (lv_at hl 0 rfl) ?_
  refine gf_RX5_23 hC hH (inb_lt hg1) (rfv_in hg1) dX5_renew_56 ?_
  obtain ⟨r24, D25, hF26, h⟩ := bd2_some h
  refine gcallV (As := []) (rest := []) (Cn := RX8) hC hE hml hH hS (c_X8_clear (lt8 hg1) hF26) ⟨wd_591, wd_592, wd_593, wd_4, wd_594⟩ hd_X8_clear rfl rfl ⟨Nat.le_of_ble_eq_true rfl, Nat.le_of_ble_eq_true rfl⟩ rfl (hw_recv (q := 2) (i := (x0.toNatClampNeg + 2)) hC hH ⟨(lt8 hg1), fun h => absurd h (by decide)⟩ rfl rfl) rfl hl.1 rfl (Nat.le_of_ble_eq_true rfl) dX5_renew_59 ⟨Nat.le_of_ble_eq_true rfl, Nat.le_of_ble_eq_true rfl⟩ (fun ed H locs hH hS => ?_)
  refine W.eq (g2 := F0 m 62 ls []) rfl ?_
  refine lv_iconst (v := (0 : Int32)) hC.1 hC.2.1 dX5_renew_62 (by decide) ?_
  refine lv_istore_n (i := 2) (lv' := [(2, .int (0 : Int32)), (0, rfv (gA g) 6 x0), (1, .int x1)]) hC.1 hC.2.1 dX5_renew_63 rfl hl (by decide) rfl (fun ls hl => ?_)
  exact B_X5_renew_64 hC hE hml hr hlk 1000 _ _ _ h _ _ _ _ hH hS (lv_sub hl [1, 0] rfl)
def F_X5_claim (n : Nat) (x0 : Int32) (x1 : Int32) (C : St) : Option (Int32 × St) := gd (inb x0 6) (gd (inb (0 : Int32) 3) (st (up C 9 x0.toNatClampNeg 0 (0 : Int32).toNatClampNeg (x1 - x1 / (2 : Int32) * (2 : Int32))) (fun D3 => gd (inb (1 : Int32) 3) (st (up D3 9 x0.toNatClampNeg 0 (1 : Int32).toNatClampNeg ((x1 / (2 : Int32)) - (x1 / (2 : Int32)) / (2 : Int32) * (2 : Int32))) (fun D6 => gd (inb (2 : Int32) 3) (st (up D6 9 x0.toNatClampNeg 0 (2 : Int32).toNatClampNeg (x1 / (4 : Int32))) (fun D9 => some (0, D9))))))))
set_option maxHeartbeats 4000000 in
set_option maxRecDepth 100000 in
theorem c_X5_claim {l : Launch} {g : GP} {ed : Nat → Nat} {Z : St} {x0 : Int32} {x1 : Int32} {C : St} {r : Int32} {C2 : St} (h : F_X5_claim (gn g) x0 x1 C = some (r, C2)) : Met l yX5_claim (Cond.code yX5_claim cX5_claim 2 none :: lwG) ({ frames := 0, cells := 0, slots := 0, locals := 0 } : Room) (va_Pc [rfv (gA g) 6 x0, .int x1] (PW g C Z ed)) (QG none g C2 Z) 0 0 (gP g) := by
  refine Met.ofW (cc := cX5_claim) (maxL := 2) (ret := none) (by decide +kernel) rfl ?_
  intro p e s m args below meth c s₁ B hml hv
  obtain ⟨ha, hC, hE, hr, hlk, hH⟩ := g_start B hv
  subst ha
  have hC : CX p s m ([rfv (gA g) 6 x0, .int x1] : List Value).toArray c cX5_claim RX5 g := hC
  have hS : va_S (gP g) s.heap s.heap [] := va_S.rf
  obtain ⟨ls, he, hl⟩ := g_entry m (vs := [rfv (gA g) 6 x0, .int x1]) (n := 2) (List.forall_mem_cons.mpr ⟨rfv_cat, (List.forall_mem_cons.mpr ⟨rfl, (fun _ h => absurd h List.not_mem_nil)⟩)⟩) (Nat.le_of_ble_eq_true rfl)
  rw [he]
  have hl : lv_has ls 2 [(0, rfv (gA g) 6 x0), (1, .int x1)] := hl
  unfold F_X5_claim at h
  refine gl_aload_n hC dX5_claim_0 rfl (lv_at hl 0 rfl) ?_
  obtain ⟨hg1, h⟩ := gd_some h
  refine gf_RX5_27 hC hH (inb_lt hg1) (rfv_in hg1) dX5_claim_1 ?_
  refine lv_iconst (v := (0 : Int32)) hC.1 hC.2.1 dX5_claim_4 (by decide) ?_
  refine lv_iload_n hC.1 hC.2.1 dX5_claim_5 rfl (lv_at hl 1 rfl) ?_
  refine lv_iconst (v := (2 : Int32)) hC.1 hC.2.1 dX5_claim_6 (by decide) ?_
  refine lv_irem hC.1 hC.2.1 dX5_claim_7 (by decide) ?_
  obtain ⟨hg2, h⟩ := gd_some h
  obtain ⟨D3, e4, h⟩ := st_some h
  refine as_9 hC hH hS (inb_lt hg1) hg2 rfl dX5_claim_8 (fun H locs hH hS => ?_)
  rw [← e4] at hH
  refine gl_aload_n hC dX5_claim_9 rfl (lv_at hl 0 rfl) ?_
  refine gf_RX5_27 hC hH (inb_lt hg1) (rfv_in hg1) dX5_claim_10 ?_
  refine lv_iconst (v := (1 : Int32)) hC.1 hC.2.1 dX5_claim_13 (by decide) ?_
  refine lv_iload_n hC.1 hC.2.1 dX5_claim_14 rfl (lv_at hl 1 rfl) ?_
  refine lv_iconst (v := (2 : Int32)) hC.1 hC.2.1 dX5_claim_15 (by decide) ?_
  refine lv_idiv hC.1 hC.2.1 dX5_claim_16 (by decide) ?_
  refine lv_iconst (v := (2 : Int32)) hC.1 hC.2.1 dX5_claim_17 (by decide) ?_
  refine lv_irem hC.1 hC.2.1 dX5_claim_18 (by decide) ?_
  obtain ⟨hg5, h⟩ := gd_some h
  obtain ⟨D6, e7, h⟩ := st_some h
  refine as_9 hC hH hS (inb_lt hg1) hg5 rfl dX5_claim_19 (fun H locs hH hS => ?_)
  rw [← e7] at hH
  refine gl_aload_n hC dX5_claim_20 rfl (lv_at hl 0 rfl) ?_
  refine gf_RX5_27 hC hH (inb_lt hg1) (rfv_in hg1) dX5_claim_21 ?_
  refine lv_iconst (v := (2 : Int32)) hC.1 hC.2.1 dX5_claim_24 (by decide) ?_
  refine lv_iload_n hC.1 hC.2.1 dX5_claim_25 rfl (lv_at hl 1 rfl) ?_
  refine lv_iconst (v := (4 : Int32)) hC.1 hC.2.1 dX5_claim_26 (by decide) ?_
  refine lv_idiv hC.1 hC.2.1 dX5_claim_27 (by decide) ?_
  obtain ⟨hg8, h⟩ := gd_some h
  obtain ⟨D9, e10, h⟩ := st_some h
  refine as_9 hC hH hS (inb_lt hg1) hg8 rfl dX5_claim_28 (fun H locs hH hS => ?_)
  rw [← e10] at hH
  cases h
  exact gret_v hC hr hlk hH hS (Nat.le_of_ble_eq_true rfl) (Nat.le_of_ble_eq_true rfl) dX5_claim_29
def F_X5_load_35 (n : Nat) (k3 : Int32 → Int32 → Int32 → Int32 → St → Option (Int32 × St)) (x0 : Int32) (x2 : Int32) (x3 : Int32) (x4 : Int32) (t0 : Int32) (t1 : Int32) (C : St) : Option (Int32 × St) := gd (inb x0 6) (gd (inb t1 128) (st (up C 7 x0.toNatClampNeg 0 t1.toNatClampNeg t0) (fun D3 => k3 x0 x2 x3 (x4 + 1) D3)))
set_option maxHeartbeats 4000000 in
set_option maxRecDepth 100000 in
theorem B_X5_load_35 {p : Program} {l : Launch} {e : Env} {s : State} {m : MethodId} {args : Array Value} {below : List Frame} {meth : Method} {c : Code} {g : GP} {Z : St} (hC : CX p s m args c cX5_load RX5 g) (hE : EZ g s s.heap) (hml : c.maxLocals = 5) (hr : meth.sig.returnType = none) (hlk : meth.locks = false) {r : Int32} {C2 : St} {k3 : Int32 → Int32 → Int32 → Int32 → St → Option (Int32 × St)} (hk3 : ∀ (x0 : Int32) (x2 : Int32) (x3 : Int32) (x4 : Int32) (C : St), k3 x0 x2 x3 x4 C = some (r, C2) → ∀ (ed : Nat → Nat) (H : Heap) (locs : List Loc) (ls : Array Slot), HW g ed C Z H → va_S (gP g) s.heap H locs → lv_has ls 5 [(0, rfv (gA g) 6 x0), (1, .ref (gA g 2 1)), (2, .int x2), (3, .int x3), (4, .int x4)] → W p l e ({ frames := 2, cells := 0, slots := 0, locals := 43 } : Room) s m args below meth c H locs 0 0 (MQ below (QG none g C2 Z) args s 0 0 (gP g)) (F0 m 3 ls [])) {x0 : Int32} {x2 : Int32} {x3 : Int32} {x4 : Int32} {t0 : Int32} {t1 : Int32} {C : St} (h : F_X5_load_35 (gn g) k3 x0 x2 x3 x4 t0 t1 C = some (r, C2)) {ed : Nat → Nat} {H : Heap} {locs : List Loc} {ls : Array Slot} (hH : HW g ed C Z H) (hS : va_S (gP g) s.heap H locs) (hl : lv_has ls 5 [(0, rfv (gA g) 6 x0), (1, .ref (gA g 2 1)), (2, .int x2), (3, .int x3), (4, .int x4)]) : W p l e ({ frames := 2, cells := 0, slots := 0, locals := 43 } : Room) s m args below meth c H locs 0 0 (MQ below (QG none g C2 Z) args s 0 0 (gP g)) (F0 m 35 ls [.int t0, .int t1, .ref (gA g 7 x0.toNatClampNeg)]) := by
  unfold F_X5_load_35 at h
  obtain ⟨hg1, h⟩ := gd_some h
  obtain ⟨hg2, h⟩ := gd_some h
  obtain ⟨D3, e4, h⟩ := st_some h
  refine as_7 hC hH hS (inb_lt hg1) hg2 rfl dX5_load_35 (fun H locs hH hS => ?_)
  rw [← e4] at hH
  refine lv_iinc (v := x4 + 1) (lv' := [(4, .int (x4 + 1)), (0, rfv (gA g) 6 x0), (1, .ref (gA g 2 1)), (2, .int x2), (3, .int x3)]) hC.1 hC.2.1 dX5_load_36 hl (k := 4) rfl rfl (by decide) rfl (fun ls hl => ?_)
  refine lv_goto (tgt := 3) hC.1 hC.2.1 dX5_load_39 (by decide) ?_
  exact hk3 _ _ _ _ _ h _ _ _ _ hH hS (lv_sub hl [1, 2, 3, 4, 0] rfl)
def F_X5_load_99 (n : Nat)   (C : St) : Option (Int32 × St) := some (0, C)
set_option maxHeartbeats 4000000 in
set_option maxRecDepth 100000 in
theorem B_X5_load_99 {p : Program} {l : Launch} {e : Env} {s : State} {m : MethodId} {args : Array Value} {below : List Frame} {meth : Method} {c : Code} {g : GP} {Z : St} (hC : CX p s m args c cX5_load RX5 g) (hE : EZ g s s.heap) (hml : c.maxLocals = 5) (hr : meth.sig.returnType = none) (hlk : meth.locks = false) {r : Int32} {C2 : St}  {C : St} (h : F_X5_load_99 (gn g)   C = some (r, C2)) {ed : Nat → Nat} {H : Heap} {locs : List Loc} {ls : Array Slot} (hH : HW g ed C Z H) (hS : va_S (gP g) s.heap H locs) (hl : lv_has ls 5 []) : W p l e ({ frames := 2, cells := 0, slots := 0, locals := 43 } : Room) s m args below meth c H locs 0 0 (MQ below (QG none g C2 Z) args s 0 0 (gP g)) (F0 m 99 ls []) := by
  unfold F_X5_load_99 at h
  cases h
  exact gret_v hC hr hlk hH hS (Nat.le_of_ble_eq_true rfl) (Nat.le_of_ble_eq_true rfl) dX5_load_99
def F_X5_load_59 (n : Nat)  : Nat → Int32 → Int32 → Int32 → St → Option (Int32 × St)
  | 0, _, _, _, _ => none
  | fu + 1, x0, x2, x4, C => gd (inb x0 6) (if (C 6 x0.toNatClampNeg 15 0) ≤ x4 then (F_X5_load_99 n  C) else (if (40 : Int32) ≤ x4 then (F_X5_load_99 n  C) else (bd2 (F_X8_at n 1 (x2 + x4) C) (fun r4 D5 => gd (inb x4 40) (st (up D5 8 x0.toNatClampNeg 0 x4.toNatClampNeg r4) (fun D8 => F_X5_load_59 n fu x0 x2 (x4 + 1) D8))))))
set_option maxHeartbeats 4000000 in
set_option maxRecDepth 100000 in
theorem B_X5_load_59 {p : Program} {l : Launch} {e : Env} {s : State} {m : MethodId} {args : Array Value} {below : List Frame} {meth : Method} {c : Code} {g : GP} {Z : St} (hC : CX p s m args c cX5_load RX5 g) (hE : EZ g s s.heap) (hml : c.maxLocals = 5) (hr : meth.sig.returnType = none) (hlk : meth.locks = false) {r : Int32} {C2 : St} : ∀ (fu : Nat) (x0 : Int32) (x2 : Int32) (x4 : Int32) (C : St), F_X5_load_59 (gn g)  fu x0 x2 x4 C = some (r, C2) → ∀ (ed : Nat → Nat) (H : Heap) (locs : List Loc) (ls : Array Slot), HW g ed C Z H → va_S (gP g) s.heap H locs → lv_has ls 5 [(0, rfv (gA g) 6 x0), (1, .ref (gA g 2 1)), (2, .int x2), (4, .int x4)] → W p l e ({ frames := 2, cells := 0, slots := 0, locals := 43 } : Room) s m args below meth c H locs 0 0 (MQ below (QG none g C2 Z) args s 0 0 (gP g)) (F0 m 59 ls []) := by
  intro fu
  induction fu with
  | zero =>
    intro x0 x2 x4 C h
    cases h
  | succ fu ih =>
    intro x0 x2 x4 C h ed H locs ls hH hS hl
    rw [F_X5_load_59] at h
    refine lv_iload hC.1 hC.2.1 dX5_load_59 (lv_at hl 3 rfl) ?_
    refine gl_aload_n hC dX5_load_61 rfl (lv_at hl 0 rfl) ?_
    obtain ⟨hg1, h⟩ := gd_some h
    refine gf_RX5_82 hC hH (inb_lt hg1) (rfv_in hg1) dX5_load_62 ?_
    refine lv_icmp_ge (tgt := 99) hC.1 hC.2.1 dX5_load_65 (by decide) (fun hc2 => ?_) (fun hc2 => ?_)
    · rw [if_pos hc2] at h
      exact B_X5_load_99 hC hE hml hr hlk h hH hS (lv_sub hl [] rfl)
    · rw [if_neg hc2] at h
      refine lv_iload hC.1 hC.2.1 dX5_load_68 (lv_at hl 3 rfl) ?_
      refine gl_aload_n hC dX5_load_70 rfl (lv_at hl 0 rfl) ?_
      refine gf_RX5_15 hC hH (inb_lt hg1) (rfv_in hg1) dX5_load_71 ?_
      refine ln_8 hC hH (inb_lt hg1) rfl dX5_load_74 ?_
      refine lv_icmp_ge (tgt := 99) hC.1 hC.2.1 dX5_load_75 (by decide) (fun hc3 => ?_) (fun hc3 => ?_)
      · rw [if_pos hc3] at h
        exact B_X5_load_99 hC hE hml hr hlk h hH hS (lv_sub hl [] rfl)
      · rw [if_neg hc3] at h
        refine gl_aload_n hC dX5_load_78 rfl (lv_at hl 0 rfl) ?_
        refine gf_RX5_15 hC hH (inb_lt hg1) (rfv_in hg1) dX5_load_79 ?_
        refine lv_iload hC.1 hC.2.1 dX5_load_82 (lv_at hl 3 rfl) ?_
        refine lv_aload_n hC.1 hC.2.1 dX5_load_84 rfl (lv_at hl 1 rfl) ?_
        refine lv_iload_n hC.1 hC.2.1 dX5_load_85 rfl (lv_at hl 2 rfl) ?_
        refine lv_iload hC.1 hC.2.1 dX5_load_86 (lv_at hl 3 rfl) ?_
        refine lv_iadd hC.1 hC.2.1 dX5_load_88 ?_
        obtain ⟨r4, D5, hF6, h⟩ := bd2_some h
        refine gcallV (As := [.int (x2 + x4)]) (rest := [.int x4, .ref (gA g 8 x0.toNatClampNeg)]) (Cn := RX8) hC hE hml hH hS (c_X8_at (Nat.le_of_ble_eq_true rfl) hF6) ⟨wd_603, wd_604, wd_605, wd_4, wd_606⟩ hd_X8_at rfl rfl ⟨Nat.le_of_ble_eq_true rfl, Nat.le_of_ble_eq_true rfl⟩ rfl (hw_recv (q := 2) (i := 1) hC hH ⟨(Nat.le_of_ble_eq_true rfl), fun h => absurd h (by decide)⟩ rfl rfl) rfl hl.1 rfl (Nat.le_of_ble_eq_true rfl) dX5_load_89 ⟨Nat.le_of_ble_eq_true rfl, Nat.le_of_ble_eq_true rfl⟩ (fun ed H locs hH hS => ?_)
        refine W.eq (g2 := F0 m 92 ls [.int r4, .int x4, .ref (gA g 8 x0.toNatClampNeg)]) rfl ?_
        obtain ⟨hg7, h⟩ := gd_some h
        obtain ⟨D8, e9, h⟩ := st_some h
        refine as_8 hC hH hS (inb_lt hg1) hg7 rfl dX5_load_92 (fun H locs hH hS => ?_)
        rw [← e9] at hH
        refine lv_iinc (v := x4 + 1) (lv' := [(4, .int (x4 + 1)), (0, rfv (gA g) 6 x0), (1, .ref (gA g 2 1)), (2, .int x2)]) hC.1 hC.2.1 dX5_load_93 hl (k := 3) rfl rfl (by decide) rfl (fun ls hl => ?_)
        refine lv_goto (tgt := 59) hC.1 hC.2.1 dX5_load_96 (by decide) ?_
        exact ih _ _ _ _ h _ _ _ _ hH hS (lv_sub hl [1, 2, 3, 0] rfl)
def F_X5_load_3 (n : Nat)  : Nat → Int32 → Int32 → Int32 → Int32 → St → Option (Int32 × St)
  | 0, _, _, _, _, _ => none
  | fu + 1, x0, x2, x3, x4, C => gd (inb x0 6) (if (128 : Int32) ≤ x4 then (bd2 (F_X11_within n x3 (0 : Int32) (40 : Int32) C) (fun r3 D4 => st (up D4 6 x0.toNatClampNeg 15 0 r3) (fun D6 => F_X5_load_59 n 1000 x0 x2 (0 : Int32) D6))) else (if x2 ≤ x4 then (F_X5_load_35 n (F_X5_load_3 n fu) x0 x2 x3 x4 (0 : Int32) x4 C) else (bd2 (F_X8_at n 1 x4 C) (fun r9 D10 => F_X5_load_35 n (F_X5_load_3 n fu) x0 x2 x3 x4 r9 x4 D10))))
set_option maxHeartbeats 4000000 in
set_option maxRecDepth 100000 in
theorem B_X5_load_3 {p : Program} {l : Launch} {e : Env} {s : State} {m : MethodId} {args : Array Value} {below : List Frame} {meth : Method} {c : Code} {g : GP} {Z : St} (hC : CX p s m args c cX5_load RX5 g) (hE : EZ g s s.heap) (hml : c.maxLocals = 5) (hr : meth.sig.returnType = none) (hlk : meth.locks = false) {r : Int32} {C2 : St} : ∀ (fu : Nat) (x0 : Int32) (x2 : Int32) (x3 : Int32) (x4 : Int32) (C : St), F_X5_load_3 (gn g)  fu x0 x2 x3 x4 C = some (r, C2) → ∀ (ed : Nat → Nat) (H : Heap) (locs : List Loc) (ls : Array Slot), HW g ed C Z H → va_S (gP g) s.heap H locs → lv_has ls 5 [(0, rfv (gA g) 6 x0), (1, .ref (gA g 2 1)), (2, .int x2), (3, .int x3), (4, .int x4)] → W p l e ({ frames := 2, cells := 0, slots := 0, locals := 43 } : Room) s m args below meth c H locs 0 0 (MQ below (QG none g C2 Z) args s 0 0 (gP g)) (F0 m 3 ls []) := by
  intro fu
  induction fu with
  | zero =>
    intro x0 x2 x3 x4 C h
    cases h
  | succ fu ih =>
    intro x0 x2 x3 x4 C h ed H locs ls hH hS hl
    rw [F_X5_load_3] at h
    refine lv_iload hC.1 hC.2.1 dX5_load_3 (lv_at hl 4 rfl) ?_
    refine gl_aload_n hC dX5_load_5 rfl (lv_at hl 0 rfl) ?_
    obtain ⟨hg1, h⟩ := gd_some h
    refine gf_RX5_9 hC hH (inb_lt hg1) (rfv_in hg1) dX5_load_6 ?_
    refine ln_7 hC hH (inb_lt hg1) rfl dX5_load_9 ?_
    refine lv_icmp_ge (tgt := 42) hC.1 hC.2.1 dX5_load_10 (by decide) (fun hc2 => ?_) (fun hc2 => ?_)
    · rw [if_pos hc2] at h
      refine gl_aload_n hC dX5_load_42 rfl (lv_at hl 0 rfl) ?_
      refine lv_iload_n hC.1 hC.2.1 dX5_load_43 rfl (lv_at hl 3 rfl) ?_
      refine lv_iconst (v := (0 : Int32)) hC.1 hC.2.1 dX5_load_44 (by decide) ?_
      refine gl_aload_n hC dX5_load_45 rfl (lv_at hl 0 rfl) ?_
      refine gf_RX5_15 hC hH (inb_lt hg1) (rfv_in hg1) dX5_load_46 ?_
      refine ln_8 hC hH (inb_lt hg1) rfl dX5_load_49 ?_
      obtain ⟨r3, D4, hF5, h⟩ := bd2_some h
      refine gcallSN (As := [.int x3, .int (0 : Int32), .int (40 : Int32)]) (rest := [rfv (gA g) 6 x0]) hC hE hml hH hS (c_X11_within hF5) ⟨wd_607, wd_34, wd_1, wd_35⟩ hd_X11_within rfl rfl ⟨Nat.le_of_ble_eq_true rfl, Nat.le_of_ble_eq_true rfl⟩ rfl hl.1 rfl (by simp only [List.map_cons, List.map_nil, rfv_cat]; exact Nat.le_of_ble_eq_true rfl) dX5_load_50 ⟨Nat.le_of_ble_eq_true rfl, Nat.le_of_ble_eq_true rfl⟩ (fun ed H locs hH hS => ?_)
      refine W.eq (g2 := F0 m 53 ls [.int r3, rfv (gA g) 6 x0]) rfl ?_
      obtain ⟨D6, e7, h⟩ := st_some h
      refine pf_RX5_82 hC hH hS (inb_lt hg1)  (rfv_in hg1) dX5_load_53 (fun H locs hH hS => ?_)
      rw [← e7] at hH
      refine lv_iconst (v := (0 : Int32)) hC.1 hC.2.1 dX5_load_56 (by decide) ?_
      refine lv_istore (lv' := [(4, .int (0 : Int32)), (0, rfv (gA g) 6 x0), (1, .ref (gA g 2 1)), (2, .int x2), (3, .int x3)]) hC.1 hC.2.1 dX5_load_57 hl (by decide) rfl (fun ls hl => ?_)
      exact B_X5_load_59 hC hE hml hr hlk 1000 _ _ _ _ h _ _ _ _ hH hS (lv_sub hl [1, 2, 3, 0] rfl)
    · rw [if_neg hc2] at h
      refine gl_aload_n hC dX5_load_13 rfl (lv_at hl 0 rfl) ?_
      refine gf_RX5_9 hC hH (inb_lt hg1) (rfv_in hg1) dX5_load_14 ?_
      refine lv_iload hC.1 hC.2.1 dX5_load_17 (lv_at hl 4 rfl) ?_
      refine lv_iload hC.1 hC.2.1 dX5_load_19 (lv_at hl 4 rfl) ?_
      refine lv_iload_n hC.1 hC.2.1 dX5_load_21 rfl (lv_at hl 2 rfl) ?_
      refine lv_icmp_ge (tgt := 34) hC.1 hC.2.1 dX5_load_22 (by decide) (fun hc8 => ?_) (fun hc8 => ?_)
      · rw [if_pos hc8] at h
        refine lv_iconst (v := (0 : Int32)) hC.1 hC.2.1 dX5_load_34 (by decide) ?_
        exact B_X5_load_35 hC hE hml hr hlk ih h hH hS (lv_sub hl [0, 1, 2, 3, 4] rfl)
      · rw [if_neg hc8] at h
        refine lv_aload_n hC.1 hC.2.1 dX5_load_25 rfl (lv_at hl 1 rfl) ?_
        refine lv_iload hC.1 hC.2.1 dX5_load_26 (lv_at hl 4 rfl) ?_
        obtain ⟨r9, D10, hF11, h⟩ := bd2_some h
        refine gcallV (As := [.int x4]) (rest := [.int x4, .ref (gA g 7 x0.toNatClampNeg)]) (Cn := RX8) hC hE hml hH hS (c_X8_at (Nat.le_of_ble_eq_true rfl) hF11) ⟨wd_603, wd_604, wd_605, wd_4, wd_606⟩ hd_X8_at rfl rfl ⟨Nat.le_of_ble_eq_true rfl, Nat.le_of_ble_eq_true rfl⟩ rfl (hw_recv (q := 2) (i := 1) hC hH ⟨(Nat.le_of_ble_eq_true rfl), fun h => absurd h (by decide)⟩ rfl rfl) rfl hl.1 rfl (Nat.le_of_ble_eq_true rfl) dX5_load_28 ⟨Nat.le_of_ble_eq_true rfl, Nat.le_of_ble_eq_true rfl⟩ (fun ed H locs hH hS => ?_)
        refine W.eq (g2 := F0 m 31 ls [.int r9, .int x4, .ref (gA g 7 x0.toNatClampNeg)]) rfl ?_
        refine lv_goto (tgt := 35) hC.1 hC.2.1 dX5_load_31 (by decide) ?_
        exact B_X5_load_35 hC hE hml hr hlk ih h hH hS (lv_sub hl [0, 1, 2, 3, 4] rfl)
def F_X5_load (n : Nat) (x0 : Int32) (x2 : Int32) (x3 : Int32) (C : St) : Option (Int32 × St) := F_X5_load_3 n 1000 x0 x2 x3 (0 : Int32) C
set_option maxHeartbeats 4000000 in
set_option maxRecDepth 100000 in
theorem c_X5_load {l : Launch} {g : GP} {ed : Nat → Nat} {Z : St} {x0 : Int32} {x2 : Int32} {x3 : Int32} {C : St} {r : Int32} {C2 : St} (h : F_X5_load (gn g) x0 x2 x3 C = some (r, C2)) : Met l yX5_load (Cond.code yX5_load cX5_load 5 none :: lwG) ({ frames := 2, cells := 0, slots := 0, locals := 43 } : Room) (va_Pc [rfv (gA g) 6 x0, .ref (gA g 2 1), .int x2, .int x3] (PW g C Z ed)) (QG none g C2 Z) 0 0 (gP g) := by
  refine Met.ofW (cc := cX5_load) (maxL := 5) (ret := none) (by decide +kernel) rfl ?_
  intro p e s m args below meth c s₁ B hml hv
  obtain ⟨ha, hC, hE, hr, hlk, hH⟩ := g_start B hv
  subst ha
  have hC : CX p s m ([rfv (gA g) 6 x0, .ref (gA g 2 1), .int x2, .int x3] : List Value).toArray c cX5_load RX5 g := hC
  have hS : va_S (gP g) s.heap s.heap [] := va_S.rf
  obtain ⟨ls, he, hl⟩ := g_entry m (vs := [rfv (gA g) 6 x0, .ref (gA g 2 1), .int x2, .int x3]) (n := 5) (List.forall_mem_cons.mpr ⟨rfv_cat, (List.forall_mem_cons.mpr ⟨rfl, (List.forall_mem_cons.mpr ⟨rfl, (List.forall_mem_cons.mpr ⟨rfl, (fun _ h => absurd h List.not_mem_nil)⟩)⟩)⟩)⟩) (Nat.le_of_ble_eq_true rfl)
  rw [he]
  have hl : lv_has ls 5 [(0, rfv (gA g) 6 x0), (1, .ref (gA g 2 1)), (2, .int x2), (3, .int x3)] := hl
  unfold F_X5_load at h
  refine lv_iconst (v := (0 : Int32)) hC.1 hC.2.1 dX5_load_0 (by decide) ?_
  refine lv_istore (lv' := [(4, .int (0 : Int32)), (0, rfv (gA g) 6 x0), (1, .ref (gA g 2 1)), (2, .int x2), (3, .int x3)]) hC.1 hC.2.1 dX5_load_1 hl (by decide) rfl (fun ls hl => ?_)
  exact B_X5_load_3 hC hE hml hr hlk 1000 _ _ _ _ _ h _ _ _ _ hH hS (lv_sub hl [1, 2, 3, 4, 0] rfl)
def F_X5_has_20 (n : Nat)  (t0 : Int32) (C : St) : Option (Int32 × St) := gd (isb t0) (some (t0, C))
set_option maxHeartbeats 4000000 in
set_option maxRecDepth 100000 in
theorem B_X5_has_20 {p : Program} {l : Launch} {e : Env} {s : State} {m : MethodId} {args : Array Value} {below : List Frame} {meth : Method} {c : Code} {g : GP} {Z : St} (hC : CX p s m args c cX5_has RX5 g) (hE : EZ g s s.heap) (hml : c.maxLocals = 2) (hr : meth.sig.returnType = (some .boolean)) (hlk : meth.locks = false) {r : Int32} {C2 : St} {t0 : Int32} {C : St} (h : F_X5_has_20 (gn g)  t0 C = some (r, C2)) {ed : Nat → Nat} {H : Heap} {locs : List Loc} {ls : Array Slot} (hH : HW g ed C Z H) (hS : va_S (gP g) s.heap H locs) (hl : lv_has ls 2 []) : W p l e ({ frames := 0, cells := 0, slots := 0, locals := 0 } : Room) s m args below meth c H locs 0 0 (MQ below (QG (some (.int r)) g C2 Z) args s 0 0 (gP g)) (F0 m 20 ls [.int t0]) := by
  unfold F_X5_has_20 at h
  obtain ⟨hg1, h⟩ := gd_some h
  cases h
  exact gret_z hC hr hlk hg1 hH hS (Nat.le_of_ble_eq_true rfl) (Nat.le_of_ble_eq_true rfl) dX5_has_20
def F_X5_has_19 (n : Nat)   (C : St) : Option (Int32 × St) := F_X5_has_20 n (0 : Int32) C
set_option maxHeartbeats 4000000 in
set_option maxRecDepth 100000 in
theorem B_X5_has_19 {p : Program} {l : Launch} {e : Env} {s : State} {m : MethodId} {args : Array Value} {below : List Frame} {meth : Method} {c : Code} {g : GP} {Z : St} (hC : CX p s m args c cX5_has RX5 g) (hE : EZ g s s.heap) (hml : c.maxLocals = 2) (hr : meth.sig.returnType = (some .boolean)) (hlk : meth.locks = false) {r : Int32} {C2 : St}  {C : St} (h : F_X5_has_19 (gn g)   C = some (r, C2)) {ed : Nat → Nat} {H : Heap} {locs : List Loc} {ls : Array Slot} (hH : HW g ed C Z H) (hS : va_S (gP g) s.heap H locs) (hl : lv_has ls 2 []) : W p l e ({ frames := 0, cells := 0, slots := 0, locals := 0 } : Room) s m args below meth c H locs 0 0 (MQ below (QG (some (.int r)) g C2 Z) args s 0 0 (gP g)) (F0 m 19 ls []) := by
  unfold F_X5_has_19 at h
  refine lv_iconst (v := (0 : Int32)) hC.1 hC.2.1 dX5_has_19 (by decide) ?_
  exact B_X5_has_20 hC hE hml hr hlk h hH hS (lv_sub hl [] rfl)
def F_X5_has (n : Nat) (x0 : Int32) (x1 : Int32) (C : St) : Option (Int32 × St) := if x1 < 0 then (F_X5_has_19 n  C) else (gd (inb x0 6) (if ((C 6 x0.toNatClampNeg 9 0) * (16 : Int32)) ≤ x1 then (F_X5_has_19 n  C) else (F_X5_has_20 n (1 : Int32) C)))
set_option maxHeartbeats 4000000 in
set_option maxRecDepth 100000 in
theorem c_X5_has {l : Launch} {g : GP} {ed : Nat → Nat} {Z : St} {x0 : Int32} {x1 : Int32} {C : St} {r : Int32} {C2 : St} (h : F_X5_has (gn g) x0 x1 C = some (r, C2)) : Met l yX5_has (Cond.code yX5_has cX5_has 2 (some .boolean) :: lwG) ({ frames := 0, cells := 0, slots := 0, locals := 0 } : Room) (va_Pc [rfv (gA g) 6 x0, .int x1] (PW g C Z ed)) (QG (some (.int r)) g C2 Z) 0 0 (gP g) := by
  refine Met.ofW (cc := cX5_has) (maxL := 2) (ret := (some .boolean)) (by decide +kernel) rfl ?_
  intro p e s m args below meth c s₁ B hml hv
  obtain ⟨ha, hC, hE, hr, hlk, hH⟩ := g_start B hv
  subst ha
  have hC : CX p s m ([rfv (gA g) 6 x0, .int x1] : List Value).toArray c cX5_has RX5 g := hC
  have hS : va_S (gP g) s.heap s.heap [] := va_S.rf
  obtain ⟨ls, he, hl⟩ := g_entry m (vs := [rfv (gA g) 6 x0, .int x1]) (n := 2) (List.forall_mem_cons.mpr ⟨rfv_cat, (List.forall_mem_cons.mpr ⟨rfl, (fun _ h => absurd h List.not_mem_nil)⟩)⟩) (Nat.le_of_ble_eq_true rfl)
  rw [he]
  have hl : lv_has ls 2 [(0, rfv (gA g) 6 x0), (1, .int x1)] := hl
  unfold F_X5_has at h
  refine lv_iload_n hC.1 hC.2.1 dX5_has_0 rfl (lv_at hl 1 rfl) ?_
  refine lv_if_lt (tgt := 19) hC.1 hC.2.1 dX5_has_1 (by decide) (fun hc1 => ?_) (fun hc1 => ?_)
  · rw [if_pos hc1] at h
    exact B_X5_has_19 hC hE hml hr hlk h hH hS (lv_sub hl [] rfl)
  · rw [if_neg hc1] at h
    refine lv_iload_n hC.1 hC.2.1 dX5_has_4 rfl (lv_at hl 1 rfl) ?_
    refine gl_aload_n hC dX5_has_5 rfl (lv_at hl 0 rfl) ?_
    obtain ⟨hg2, h⟩ := gd_some h
    refine gf_RX5_85 hC hH (inb_lt hg2) (rfv_in hg2) dX5_has_6 ?_
    refine lv_bipush (v := (16 : Int32)) hC.1 hC.2.1 dX5_has_9 (by decide) ?_
    refine lv_imul hC.1 hC.2.1 dX5_has_11 ?_
    refine lv_icmp_ge (tgt := 19) hC.1 hC.2.1 dX5_has_12 (by decide) (fun hc3 => ?_) (fun hc3 => ?_)
    · rw [if_pos hc3] at h
      exact B_X5_has_19 hC hE hml hr hlk h hH hS (lv_sub hl [] rfl)
    · rw [if_neg hc3] at h
      refine lv_iconst (v := (1 : Int32)) hC.1 hC.2.1 dX5_has_15 (by decide) ?_
      refine lv_goto (tgt := 20) hC.1 hC.2.1 dX5_has_16 (by decide) ?_
      exact B_X5_has_20 hC hE hml hr hlk h hH hS (lv_sub hl [] rfl)
def F_X5_isAsOf_21 (n : Nat)  (t0 : Int32) (C : St) : Option (Int32 × St) := gd (isb t0) (some (t0, C))
set_option maxHeartbeats 4000000 in
set_option maxRecDepth 100000 in
theorem B_X5_isAsOf_21 {p : Program} {l : Launch} {e : Env} {s : State} {m : MethodId} {args : Array Value} {below : List Frame} {meth : Method} {c : Code} {g : GP} {Z : St} (hC : CX p s m args c cX5_isAsOf RX5 g) (hE : EZ g s s.heap) (hml : c.maxLocals = 2) (hr : meth.sig.returnType = (some .boolean)) (hlk : meth.locks = false) {r : Int32} {C2 : St} {t0 : Int32} {C : St} (h : F_X5_isAsOf_21 (gn g)  t0 C = some (r, C2)) {ed : Nat → Nat} {H : Heap} {locs : List Loc} {ls : Array Slot} (hH : HW g ed C Z H) (hS : va_S (gP g) s.heap H locs) (hl : lv_has ls 2 []) : W p l e ({ frames := 0, cells := 0, slots := 0, locals := 0 } : Room) s m args below meth c H locs 0 0 (MQ below (QG (some (.int r)) g C2 Z) args s 0 0 (gP g)) (F0 m 21 ls [.int t0]) := by
  unfold F_X5_isAsOf_21 at h
  obtain ⟨hg1, h⟩ := gd_some h
  cases h
  exact gret_z hC hr hlk hg1 hH hS (Nat.le_of_ble_eq_true rfl) (Nat.le_of_ble_eq_true rfl) dX5_isAsOf_21
def F_X5_isAsOf_20 (n : Nat)   (C : St) : Option (Int32 × St) := F_X5_isAsOf_21 n (0 : Int32) C
set_option maxHeartbeats 4000000 in
set_option maxRecDepth 100000 in
theorem B_X5_isAsOf_20 {p : Program} {l : Launch} {e : Env} {s : State} {m : MethodId} {args : Array Value} {below : List Frame} {meth : Method} {c : Code} {g : GP} {Z : St} (hC : CX p s m args c cX5_isAsOf RX5 g) (hE : EZ g s s.heap) (hml : c.maxLocals = 2) (hr : meth.sig.returnType = (some .boolean)) (hlk : meth.locks = false) {r : Int32} {C2 : St}  {C : St} (h : F_X5_isAsOf_20 (gn g)   C = some (r, C2)) {ed : Nat → Nat} {H : Heap} {locs : List Loc} {ls : Array Slot} (hH : HW g ed C Z H) (hS : va_S (gP g) s.heap H locs) (hl : lv_has ls 2 []) : W p l e ({ frames := 0, cells := 0, slots := 0, locals := 0 } : Room) s m args below meth c H locs 0 0 (MQ below (QG (some (.int r)) g C2 Z) args s 0 0 (gP g)) (F0 m 20 ls []) := by
  unfold F_X5_isAsOf_20 at h
  refine lv_iconst (v := (0 : Int32)) hC.1 hC.2.1 dX5_isAsOf_20 (by decide) ?_
  exact B_X5_isAsOf_21 hC hE hml hr hlk h hH hS (lv_sub hl [] rfl)
def F_X5_isAsOf (n : Nat) (x0 : Int32) (x1 : Int32) (C : St) : Option (Int32 × St) := gd (inb x0 6) (if (C 6 x0.toNatClampNeg 6 0) = x1 then (if (C 6 x0.toNatClampNeg 7 0) = (3 : Int32) then (F_X5_isAsOf_20 n  C) else (F_X5_isAsOf_21 n (1 : Int32) C)) else (F_X5_isAsOf_20 n  C))
set_option maxHeartbeats 4000000 in
set_option maxRecDepth 100000 in
theorem c_X5_isAsOf {l : Launch} {g : GP} {ed : Nat → Nat} {Z : St} {x0 : Int32} {x1 : Int32} {C : St} {r : Int32} {C2 : St} (h : F_X5_isAsOf (gn g) x0 x1 C = some (r, C2)) : Met l yX5_isAsOf (Cond.code yX5_isAsOf cX5_isAsOf 2 (some .boolean) :: lwG) ({ frames := 0, cells := 0, slots := 0, locals := 0 } : Room) (va_Pc [rfv (gA g) 6 x0, .int x1] (PW g C Z ed)) (QG (some (.int r)) g C2 Z) 0 0 (gP g) := by
  refine Met.ofW (cc := cX5_isAsOf) (maxL := 2) (ret := (some .boolean)) (by decide +kernel) rfl ?_
  intro p e s m args below meth c s₁ B hml hv
  obtain ⟨ha, hC, hE, hr, hlk, hH⟩ := g_start B hv
  subst ha
  have hC : CX p s m ([rfv (gA g) 6 x0, .int x1] : List Value).toArray c cX5_isAsOf RX5 g := hC
  have hS : va_S (gP g) s.heap s.heap [] := va_S.rf
  obtain ⟨ls, he, hl⟩ := g_entry m (vs := [rfv (gA g) 6 x0, .int x1]) (n := 2) (List.forall_mem_cons.mpr ⟨rfv_cat, (List.forall_mem_cons.mpr ⟨rfl, (fun _ h => absurd h List.not_mem_nil)⟩)⟩) (Nat.le_of_ble_eq_true rfl)
  rw [he]
  have hl : lv_has ls 2 [(0, rfv (gA g) 6 x0), (1, .int x1)] := hl
  unfold F_X5_isAsOf at h
  refine gl_aload_n hC dX5_isAsOf_0 rfl (lv_at hl 0 rfl) ?_
  obtain ⟨hg1, h⟩ := gd_some h
  refine gf_RX5_40 hC hH (inb_lt hg1) (rfv_in hg1) dX5_isAsOf_1 ?_
  refine lv_iload_n hC.1 hC.2.1 dX5_isAsOf_4 rfl (lv_at hl 1 rfl) ?_
  refine lv_icmp_ne (tgt := 20) hC.1 hC.2.1 dX5_isAsOf_5 (by decide) (fun hc2 => ?_) (fun hc2 => ?_)
  · rw [if_neg hc2] at h
    exact B_X5_isAsOf_20 hC hE hml hr hlk h hH hS (lv_sub hl [] rfl)
  · rw [if_pos hc2] at h
    refine gl_aload_n hC dX5_isAsOf_8 rfl (lv_at hl 0 rfl) ?_
    refine gf_RX5_33 hC hH (inb_lt hg1) (rfv_in hg1) dX5_isAsOf_9 ?_
    refine lv_iconst (v := (3 : Int32)) hC.1 hC.2.1 dX5_isAsOf_12 (by decide) ?_
    refine lv_icmp_eq (tgt := 20) hC.1 hC.2.1 dX5_isAsOf_13 (by decide) (fun hc3 => ?_) (fun hc3 => ?_)
    · rw [if_pos hc3] at h
      exact B_X5_isAsOf_20 hC hE hml hr hlk h hH hS (lv_sub hl [] rfl)
    · rw [if_neg hc3] at h
      refine lv_iconst (v := (1 : Int32)) hC.1 hC.2.1 dX5_isAsOf_16 (by decide) ?_
      refine lv_goto (tgt := 21) hC.1 hC.2.1 dX5_isAsOf_17 (by decide) ?_
      exact B_X5_isAsOf_21 hC hE hml hr hlk h hH hS (lv_sub hl [] rfl)
def F_X5_onDrum_23 (n : Nat)  (t0 : Int32) (C : St) : Option (Int32 × St) := some (t0, C)
set_option maxHeartbeats 4000000 in
set_option maxRecDepth 100000 in
theorem B_X5_onDrum_23 {p : Program} {l : Launch} {e : Env} {s : State} {m : MethodId} {args : Array Value} {below : List Frame} {meth : Method} {c : Code} {g : GP} {Z : St} (hC : CX p s m args c cX5_onDrum RX5 g) (hE : EZ g s s.heap) (hml : c.maxLocals = 2) (hr : meth.sig.returnType = (some .int)) (hlk : meth.locks = false) {r : Int32} {C2 : St} {t0 : Int32} {C : St} (h : F_X5_onDrum_23 (gn g)  t0 C = some (r, C2)) {ed : Nat → Nat} {H : Heap} {locs : List Loc} {ls : Array Slot} (hH : HW g ed C Z H) (hS : va_S (gP g) s.heap H locs) (hl : lv_has ls 2 []) : W p l e ({ frames := 0, cells := 0, slots := 0, locals := 0 } : Room) s m args below meth c H locs 0 0 (MQ below (QG (some (.int r)) g C2 Z) args s 0 0 (gP g)) (F0 m 23 ls [.int t0]) := by
  unfold F_X5_onDrum_23 at h
  cases h
  exact gret_i hC hr hlk hH hS (Nat.le_of_ble_eq_true rfl) (Nat.le_of_ble_eq_true rfl) dX5_onDrum_23
def F_X5_onDrum_22 (n : Nat)   (C : St) : Option (Int32 × St) := F_X5_onDrum_23 n (0 : Int32) C
set_option maxHeartbeats 4000000 in
set_option maxRecDepth 100000 in
theorem B_X5_onDrum_22 {p : Program} {l : Launch} {e : Env} {s : State} {m : MethodId} {args : Array Value} {below : List Frame} {meth : Method} {c : Code} {g : GP} {Z : St} (hC : CX p s m args c cX5_onDrum RX5 g) (hE : EZ g s s.heap) (hml : c.maxLocals = 2) (hr : meth.sig.returnType = (some .int)) (hlk : meth.locks = false) {r : Int32} {C2 : St}  {C : St} (h : F_X5_onDrum_22 (gn g)   C = some (r, C2)) {ed : Nat → Nat} {H : Heap} {locs : List Loc} {ls : Array Slot} (hH : HW g ed C Z H) (hS : va_S (gP g) s.heap H locs) (hl : lv_has ls 2 []) : W p l e ({ frames := 0, cells := 0, slots := 0, locals := 0 } : Room) s m args below meth c H locs 0 0 (MQ below (QG (some (.int r)) g C2 Z) args s 0 0 (gP g)) (F0 m 22 ls []) := by
  unfold F_X5_onDrum_22 at h
  refine lv_iconst (v := (0 : Int32)) hC.1 hC.2.1 dX5_onDrum_22 (by decide) ?_
  exact B_X5_onDrum_23 hC hE hml hr hlk h hH hS (lv_sub hl [] rfl)
def F_X5_onDrum (n : Nat) (x0 : Int32) (x1 : Int32) (C : St) : Option (Int32 × St) := if x1 < 0 then (F_X5_onDrum_22 n  C) else (gd (inb x0 6) (if (128 : Int32) ≤ x1 then (F_X5_onDrum_22 n  C) else (gd (inb x1 128) (F_X5_onDrum_23 n (C 7 x0.toNatClampNeg 0 x1.toNatClampNeg) C))))
set_option maxHeartbeats 4000000 in
set_option maxRecDepth 100000 in
theorem c_X5_onDrum {l : Launch} {g : GP} {ed : Nat → Nat} {Z : St} {x0 : Int32} {x1 : Int32} {C : St} {r : Int32} {C2 : St} (h : F_X5_onDrum (gn g) x0 x1 C = some (r, C2)) : Met l yX5_onDrum (Cond.code yX5_onDrum cX5_onDrum 2 (some .int) :: lwG) ({ frames := 0, cells := 0, slots := 0, locals := 0 } : Room) (va_Pc [rfv (gA g) 6 x0, .int x1] (PW g C Z ed)) (QG (some (.int r)) g C2 Z) 0 0 (gP g) := by
  refine Met.ofW (cc := cX5_onDrum) (maxL := 2) (ret := (some .int)) (by decide +kernel) rfl ?_
  intro p e s m args below meth c s₁ B hml hv
  obtain ⟨ha, hC, hE, hr, hlk, hH⟩ := g_start B hv
  subst ha
  have hC : CX p s m ([rfv (gA g) 6 x0, .int x1] : List Value).toArray c cX5_onDrum RX5 g := hC
  have hS : va_S (gP g) s.heap s.heap [] := va_S.rf
  obtain ⟨ls, he, hl⟩ := g_entry m (vs := [rfv (gA g) 6 x0, .int x1]) (n := 2) (List.forall_mem_cons.mpr ⟨rfv_cat, (List.forall_mem_cons.mpr ⟨rfl, (fun _ h => absurd h List.not_mem_nil)⟩)⟩) (Nat.le_of_ble_eq_true rfl)
  rw [he]
  have hl : lv_has ls 2 [(0, rfv (gA g) 6 x0), (1, .int x1)] := hl
  unfold F_X5_onDrum at h
  refine lv_iload_n hC.1 hC.2.1 dX5_onDrum_0 rfl (lv_at hl 1 rfl) ?_
  refine lv_if_lt (tgt := 22) hC.1 hC.2.1 dX5_onDrum_1 (by decide) (fun hc1 => ?_) (fun hc1 => ?_)
  · rw [if_pos hc1] at h
    exact B_X5_onDrum_22 hC hE hml hr hlk h hH hS (lv_sub hl [] rfl)
  · rw [if_neg hc1] at h
    refine lv_iload_n hC.1 hC.2.1 dX5_onDrum_4 rfl (lv_at hl 1 rfl) ?_
    refine gl_aload_n hC dX5_onDrum_5 rfl (lv_at hl 0 rfl) ?_
    obtain ⟨hg2, h⟩ := gd_some h
    refine gf_RX5_9 hC hH (inb_lt hg2) (rfv_in hg2) dX5_onDrum_6 ?_
    refine ln_7 hC hH (inb_lt hg2) rfl dX5_onDrum_9 ?_
    refine lv_icmp_ge (tgt := 22) hC.1 hC.2.1 dX5_onDrum_10 (by decide) (fun hc3 => ?_) (fun hc3 => ?_)
    · rw [if_pos hc3] at h
      exact B_X5_onDrum_22 hC hE hml hr hlk h hH hS (lv_sub hl [] rfl)
    · rw [if_neg hc3] at h
      refine gl_aload_n hC dX5_onDrum_13 rfl (lv_at hl 0 rfl) ?_
      refine gf_RX5_9 hC hH (inb_lt hg2) (rfv_in hg2) dX5_onDrum_14 ?_
      refine lv_iload_n hC.1 hC.2.1 dX5_onDrum_17 rfl (lv_at hl 1 rfl) ?_
      obtain ⟨hg4, h⟩ := gd_some h
      refine al_7 hC hH (inb_lt hg2) hg4 rfl dX5_onDrum_18 ?_
      refine lv_goto (tgt := 23) hC.1 hC.2.1 dX5_onDrum_19 (by decide) ?_
      exact B_X5_onDrum_23 hC hE hml hr hlk h hH hS (lv_sub hl [] rfl)
def F_X5_putOnDrum_20 (n : Nat)   (C : St) : Option (Int32 × St) := some (0, C)
set_option maxHeartbeats 4000000 in
set_option maxRecDepth 100000 in
theorem B_X5_putOnDrum_20 {p : Program} {l : Launch} {e : Env} {s : State} {m : MethodId} {args : Array Value} {below : List Frame} {meth : Method} {c : Code} {g : GP} {Z : St} (hC : CX p s m args c cX5_putOnDrum RX5 g) (hE : EZ g s s.heap) (hml : c.maxLocals = 3) (hr : meth.sig.returnType = none) (hlk : meth.locks = false) {r : Int32} {C2 : St}  {C : St} (h : F_X5_putOnDrum_20 (gn g)   C = some (r, C2)) {ed : Nat → Nat} {H : Heap} {locs : List Loc} {ls : Array Slot} (hH : HW g ed C Z H) (hS : va_S (gP g) s.heap H locs) (hl : lv_has ls 3 []) : W p l e ({ frames := 0, cells := 0, slots := 0, locals := 0 } : Room) s m args below meth c H locs 0 0 (MQ below (QG none g C2 Z) args s 0 0 (gP g)) (F0 m 20 ls []) := by
  unfold F_X5_putOnDrum_20 at h
  cases h
  exact gret_v hC hr hlk hH hS (Nat.le_of_ble_eq_true rfl) (Nat.le_of_ble_eq_true rfl) dX5_putOnDrum_20
def F_X5_putOnDrum (n : Nat) (x0 : Int32) (x1 : Int32) (x2 : Int32) (C : St) : Option (Int32 × St) := if x1 < 0 then (F_X5_putOnDrum_20 n  C) else (gd (inb x0 6) (if (128 : Int32) ≤ x1 then (F_X5_putOnDrum_20 n  C) else (gd (inb x1 128) (st (up C 7 x0.toNatClampNeg 0 x1.toNatClampNeg x2) (fun D5 => F_X5_putOnDrum_20 n  D5)))))
set_option maxHeartbeats 4000000 in
set_option maxRecDepth 100000 in
theorem c_X5_putOnDrum {l : Launch} {g : GP} {ed : Nat → Nat} {Z : St} {x0 : Int32} {x1 : Int32} {x2 : Int32} {C : St} {r : Int32} {C2 : St} (h : F_X5_putOnDrum (gn g) x0 x1 x2 C = some (r, C2)) : Met l yX5_putOnDrum (Cond.code yX5_putOnDrum cX5_putOnDrum 3 none :: lwG) ({ frames := 0, cells := 0, slots := 0, locals := 0 } : Room) (va_Pc [rfv (gA g) 6 x0, .int x1, .int x2] (PW g C Z ed)) (QG none g C2 Z) 0 0 (gP g) := by
  refine Met.ofW (cc := cX5_putOnDrum) (maxL := 3) (ret := none) (by decide +kernel) rfl ?_
  intro p e s m args below meth c s₁ B hml hv
  obtain ⟨ha, hC, hE, hr, hlk, hH⟩ := g_start B hv
  subst ha
  have hC : CX p s m ([rfv (gA g) 6 x0, .int x1, .int x2] : List Value).toArray c cX5_putOnDrum RX5 g := hC
  have hS : va_S (gP g) s.heap s.heap [] := va_S.rf
  obtain ⟨ls, he, hl⟩ := g_entry m (vs := [rfv (gA g) 6 x0, .int x1, .int x2]) (n := 3) (List.forall_mem_cons.mpr ⟨rfv_cat, (List.forall_mem_cons.mpr ⟨rfl, (List.forall_mem_cons.mpr ⟨rfl, (fun _ h => absurd h List.not_mem_nil)⟩)⟩)⟩) (Nat.le_of_ble_eq_true rfl)
  rw [he]
  have hl : lv_has ls 3 [(0, rfv (gA g) 6 x0), (1, .int x1), (2, .int x2)] := hl
  unfold F_X5_putOnDrum at h
  refine lv_iload_n hC.1 hC.2.1 dX5_putOnDrum_0 rfl (lv_at hl 1 rfl) ?_
  refine lv_if_lt (tgt := 20) hC.1 hC.2.1 dX5_putOnDrum_1 (by decide) (fun hc1 => ?_) (fun hc1 => ?_)
  · rw [if_pos hc1] at h
    exact B_X5_putOnDrum_20 hC hE hml hr hlk h hH hS (lv_sub hl [] rfl)
  · rw [if_neg hc1] at h
    refine lv_iload_n hC.1 hC.2.1 dX5_putOnDrum_4 rfl (lv_at hl 1 rfl) ?_
    refine gl_aload_n hC dX5_putOnDrum_5 rfl (lv_at hl 0 rfl) ?_
    obtain ⟨hg2, h⟩ := gd_some h
    refine gf_RX5_9 hC hH (inb_lt hg2) (rfv_in hg2) dX5_putOnDrum_6 ?_
    refine ln_7 hC hH (inb_lt hg2) rfl dX5_putOnDrum_9 ?_
    refine lv_icmp_ge (tgt := 20) hC.1 hC.2.1 dX5_putOnDrum_10 (by decide) (fun hc3 => ?_) (fun hc3 => ?_)
    · rw [if_pos hc3] at h
      exact B_X5_putOnDrum_20 hC hE hml hr hlk h hH hS (lv_sub hl [] rfl)
    · rw [if_neg hc3] at h
      refine gl_aload_n hC dX5_putOnDrum_13 rfl (lv_at hl 0 rfl) ?_
      refine gf_RX5_9 hC hH (inb_lt hg2) (rfv_in hg2) dX5_putOnDrum_14 ?_
      refine lv_iload_n hC.1 hC.2.1 dX5_putOnDrum_17 rfl (lv_at hl 1 rfl) ?_
      refine lv_iload_n hC.1 hC.2.1 dX5_putOnDrum_18 rfl (lv_at hl 2 rfl) ?_
      obtain ⟨hg4, h⟩ := gd_some h
      obtain ⟨D5, e6, h⟩ := st_some h
      refine as_7 hC hH hS (inb_lt hg2) hg4 rfl dX5_putOnDrum_19 (fun H locs hH hS => ?_)
      rw [← e6] at hH
      exact B_X5_putOnDrum_20 hC hE hml hr hlk h hH hS (lv_sub hl [] rfl)
def F_X5_tell_89 (n : Nat)  (t0 : Int32) (C : St) : Option (Int32 × St) := some (t0, C)
set_option maxHeartbeats 4000000 in
set_option maxRecDepth 100000 in
theorem B_X5_tell_89 {p : Program} {l : Launch} {e : Env} {s : State} {m : MethodId} {args : Array Value} {below : List Frame} {meth : Method} {c : Code} {g : GP} {Z : St} (hC : CX p s m args c cX5_tell RX5 g) (hE : EZ g s s.heap) (hml : c.maxLocals = 2) (hr : meth.sig.returnType = (some .int)) (hlk : meth.locks = false) {r : Int32} {C2 : St} {t0 : Int32} {C : St} (h : F_X5_tell_89 (gn g)  t0 C = some (r, C2)) {ed : Nat → Nat} {H : Heap} {locs : List Loc} {ls : Array Slot} (hH : HW g ed C Z H) (hS : va_S (gP g) s.heap H locs) (hl : lv_has ls 2 []) : W p l e ({ frames := 1, cells := 0, slots := 0, locals := 21 } : Room) s m args below meth c H locs 0 0 (MQ below (QG (some (.int r)) g C2 Z) args s 0 0 (gP g)) (F0 m 89 ls [.int t0]) := by
  unfold F_X5_tell_89 at h
  cases h
  exact gret_i hC hr hlk hH hS (Nat.le_of_ble_eq_true rfl) (Nat.le_of_ble_eq_true rfl) dX5_tell_89
def F_X5_tell (n : Nat) (x0 : Int32) (x1 : Int32) (C : St) : Option (Int32 × St) := if x1 = 0 then (gd (inb x0 6) (some (C 6 x0.toNatClampNeg 7 0, C))) else (if x1 = 1 then (gd (inb x0 6) (if (C 6 x0.toNatClampNeg 7 0) = (3 : Int32) then (F_X5_tell_89 n (C 6 x0.toNatClampNeg 8 0) C) else (F_X5_tell_89 n (0 : Int32) C))) else (if x1 = 2 then (gd (inb x0 6) (some (C 6 x0.toNatClampNeg 11 0, C))) else (if x1 = 3 then (gd (inb x0 6) (some (C 6 x0.toNatClampNeg 12 0, C))) else (if x1 = 4 then (gd (inb x0 6) (some (C 6 x0.toNatClampNeg 13 0, C))) else (if x1 = 5 then (gd (inb x0 6) (some (C 6 x0.toNatClampNeg 14 0, C))) else (if x1 = 6 then (gd (inb x0 6) (bd2 (F_X5_held n x0 (0 : Int32) C) (fun r15 D16 => some (r15, D16)))) else (if x1 = 7 then (gd (inb x0 6) (bd2 (F_X5_held n x0 (1 : Int32) C) (fun r20 D21 => some (r20, D21)))) else (if x1 = 8 then (gd (inb x0 6) (bd2 (F_X5_held n x0 (2 : Int32) C) (fun r25 D26 => some (r25, D26)))) else (if x1 = 9 then (gd (inb x0 6) (some (C 6 x0.toNatClampNeg 16 0, C))) else (if x1 = 10 then (gd (inb x0 6) (some (C 6 x0.toNatClampNeg 17 0, C))) else (if x1 = 11 then (gd (inb x0 6) (bd2 (F_X8_size n (x0.toNatClampNeg + 2) C) (fun r35 D36 => some (r35, D36)))) else (if x1 = 12 then (gd (inb x0 6) (bd2 (F_X11_asNumber n (C 6 x0.toNatClampNeg 18 0) C) (fun r40 D41 => some (r40, D41)))) else (some ((-1 : Int32), C))))))))))))))
set_option maxHeartbeats 4000000 in
set_option maxRecDepth 100000 in
theorem c_X5_tell {l : Launch} {g : GP} {ed : Nat → Nat} {Z : St} {x0 : Int32} {x1 : Int32} {C : St} {r : Int32} {C2 : St} (h : F_X5_tell (gn g) x0 x1 C = some (r, C2)) : Met l yX5_tell (Cond.code yX5_tell cX5_tell 2 (some .int) :: lwG) ({ frames := 1, cells := 0, slots := 0, locals := 21 } : Room) (va_Pc [rfv (gA g) 6 x0, .int x1] (PW g C Z ed)) (QG (some (.int r)) g C2 Z) 0 0 (gP g) := by
  refine Met.ofW (cc := cX5_tell) (maxL := 2) (ret := (some .int)) (by decide +kernel) rfl ?_
  intro p e s m args below meth c s₁ B hml hv
  obtain ⟨ha, hC, hE, hr, hlk, hH⟩ := g_start B hv
  subst ha
  have hC : CX p s m ([rfv (gA g) 6 x0, .int x1] : List Value).toArray c cX5_tell RX5 g := hC
  have hS : va_S (gP g) s.heap s.heap [] := va_S.rf
  obtain ⟨ls, he, hl⟩ := g_entry m (vs := [rfv (gA g) 6 x0, .int x1]) (n := 2) (List.forall_mem_cons.mpr ⟨rfv_cat, (List.forall_mem_cons.mpr ⟨rfl, (fun _ h => absurd h List.not_mem_nil)⟩)⟩) (Nat.le_of_ble_eq_true rfl)
  rw [he]
  have hl : lv_has ls 2 [(0, rfv (gA g) 6 x0), (1, .int x1)] := hl
  unfold F_X5_tell at h
  refine lv_iload_n hC.1 hC.2.1 dX5_tell_0 rfl (lv_at hl 1 rfl) ?_
  by_cases hs1 : x1 = 0
  · rw [if_pos hs1] at h
    refine lv_tableIn (x := x1) (off := 67) (tgt := 68) hC.1 hC.2.1 dX5_tell_1 (by rw [hs1]; decide) (by rw [hs1]; decide) (by rw [hs1]; rfl) (by decide) ?_
    refine gl_aload_n hC dX5_tell_68 rfl (lv_at hl 0 rfl) ?_
    obtain ⟨hg2, h⟩ := gd_some h
    refine gf_RX5_33 hC hH (inb_lt hg2) (rfv_in hg2) dX5_tell_69 ?_
    cases h
    exact gret_i hC hr hlk hH hS (Nat.le_of_ble_eq_true rfl) (Nat.le_of_ble_eq_true rfl) dX5_tell_72
  · rw [if_neg hs1] at h
    by_cases hs3 : x1 = 1
    · rw [if_pos hs3] at h
      refine lv_tableIn (x := x1) (off := 72) (tgt := 73) hC.1 hC.2.1 dX5_tell_1 (by rw [hs3]; decide) (by rw [hs3]; decide) (by rw [hs3]; rfl) (by decide) ?_
      refine gl_aload_n hC dX5_tell_73 rfl (lv_at hl 0 rfl) ?_
      obtain ⟨hg4, h⟩ := gd_some h
      refine gf_RX5_33 hC hH (inb_lt hg4) (rfv_in hg4) dX5_tell_74 ?_
      refine lv_iconst (v := (3 : Int32)) hC.1 hC.2.1 dX5_tell_77 (by decide) ?_
      refine lv_icmp_ne (tgt := 88) hC.1 hC.2.1 dX5_tell_78 (by decide) (fun hc5 => ?_) (fun hc5 => ?_)
      · rw [if_neg hc5] at h
        refine lv_iconst (v := (0 : Int32)) hC.1 hC.2.1 dX5_tell_88 (by decide) ?_
        exact B_X5_tell_89 hC hE hml hr hlk h hH hS (lv_sub hl [] rfl)
      · rw [if_pos hc5] at h
        refine gl_aload_n hC dX5_tell_81 rfl (lv_at hl 0 rfl) ?_
        refine gf_RX5_43 hC hH (inb_lt hg4) (rfv_in hg4) dX5_tell_82 ?_
        refine lv_goto (tgt := 89) hC.1 hC.2.1 dX5_tell_85 (by decide) ?_
        exact B_X5_tell_89 hC hE hml hr hlk h hH hS (lv_sub hl [] rfl)
    · rw [if_neg hs3] at h
      by_cases hs6 : x1 = 2
      · rw [if_pos hs6] at h
        refine lv_tableIn (x := x1) (off := 89) (tgt := 90) hC.1 hC.2.1 dX5_tell_1 (by rw [hs6]; decide) (by rw [hs6]; decide) (by rw [hs6]; rfl) (by decide) ?_
        refine gl_aload_n hC dX5_tell_90 rfl (lv_at hl 0 rfl) ?_
        obtain ⟨hg7, h⟩ := gd_some h
        refine gf_RX5_46 hC hH (inb_lt hg7) (rfv_in hg7) dX5_tell_91 ?_
        cases h
        exact gret_i hC hr hlk hH hS (Nat.le_of_ble_eq_true rfl) (Nat.le_of_ble_eq_true rfl) dX5_tell_94
      · rw [if_neg hs6] at h
        by_cases hs8 : x1 = 3
        · rw [if_pos hs8] at h
          refine lv_tableIn (x := x1) (off := 94) (tgt := 95) hC.1 hC.2.1 dX5_tell_1 (by rw [hs8]; decide) (by rw [hs8]; decide) (by rw [hs8]; rfl) (by decide) ?_
          refine gl_aload_n hC dX5_tell_95 rfl (lv_at hl 0 rfl) ?_
          obtain ⟨hg9, h⟩ := gd_some h
          refine gf_RX5_49 hC hH (inb_lt hg9) (rfv_in hg9) dX5_tell_96 ?_
          cases h
          exact gret_i hC hr hlk hH hS (Nat.le_of_ble_eq_true rfl) (Nat.le_of_ble_eq_true rfl) dX5_tell_99
        · rw [if_neg hs8] at h
          by_cases hs10 : x1 = 4
          · rw [if_pos hs10] at h
            refine lv_tableIn (x := x1) (off := 99) (tgt := 100) hC.1 hC.2.1 dX5_tell_1 (by rw [hs10]; decide) (by rw [hs10]; decide) (by rw [hs10]; rfl) (by decide) ?_
            refine gl_aload_n hC dX5_tell_100 rfl (lv_at hl 0 rfl) ?_
            obtain ⟨hg11, h⟩ := gd_some h
            refine gf_RX5_52 hC hH (inb_lt hg11) (rfv_in hg11) dX5_tell_101 ?_
            cases h
            exact gret_i hC hr hlk hH hS (Nat.le_of_ble_eq_true rfl) (Nat.le_of_ble_eq_true rfl) dX5_tell_104
          · rw [if_neg hs10] at h
            by_cases hs12 : x1 = 5
            · rw [if_pos hs12] at h
              refine lv_tableIn (x := x1) (off := 104) (tgt := 105) hC.1 hC.2.1 dX5_tell_1 (by rw [hs12]; decide) (by rw [hs12]; decide) (by rw [hs12]; rfl) (by decide) ?_
              refine gl_aload_n hC dX5_tell_105 rfl (lv_at hl 0 rfl) ?_
              obtain ⟨hg13, h⟩ := gd_some h
              refine gf_RX5_55 hC hH (inb_lt hg13) (rfv_in hg13) dX5_tell_106 ?_
              cases h
              exact gret_i hC hr hlk hH hS (Nat.le_of_ble_eq_true rfl) (Nat.le_of_ble_eq_true rfl) dX5_tell_109
            · rw [if_neg hs12] at h
              by_cases hs14 : x1 = 6
              · rw [if_pos hs14] at h
                refine lv_tableIn (x := x1) (off := 109) (tgt := 110) hC.1 hC.2.1 dX5_tell_1 (by rw [hs14]; decide) (by rw [hs14]; decide) (by rw [hs14]; rfl) (by decide) ?_
                refine gl_aload_n hC dX5_tell_110 rfl (lv_at hl 0 rfl) ?_
                refine lv_iconst (v := (0 : Int32)) hC.1 hC.2.1 dX5_tell_111 (by decide) ?_
                obtain ⟨hg18, h⟩ := gd_some h
                obtain ⟨r15, D16, hF17, h⟩ := bd2_some h
                refine gcallV (As := [.int (0 : Int32)]) (rest := []) (Cn := RX5) hC hE hml hH hS (c_X5_held hF17) ⟨wd_1057, wd_648, wd_649, wd_5, wd_650⟩ hd_X5_held rfl rfl ⟨Nat.le_of_ble_eq_true rfl, Nat.le_of_ble_eq_true rfl⟩ (rfv_in hg18) (hw_recv (q := 6) (i := x0.toNatClampNeg) hC hH ⟨(inb_lt hg18), fun h => absurd h (by decide)⟩ rfl rfl) rfl hl.1 rfl (Nat.le_of_ble_eq_true rfl) dX5_tell_112 ⟨Nat.le_of_ble_eq_true rfl, Nat.le_of_ble_eq_true rfl⟩ (fun ed H locs hH hS => ?_)
                refine W.eq (g2 := F0 m 115 ls [.int r15]) rfl ?_
                cases h
                exact gret_i hC hr hlk hH hS (Nat.le_of_ble_eq_true rfl) (Nat.le_of_ble_eq_true rfl) dX5_tell_115
              · rw [if_neg hs14] at h
                by_cases hs19 : x1 = 7
                · rw [if_pos hs19] at h
                  refine lv_tableIn (x := x1) (off := 115) (tgt := 116) hC.1 hC.2.1 dX5_tell_1 (by rw [hs19]; decide) (by rw [hs19]; decide) (by rw [hs19]; rfl) (by decide) ?_
                  refine gl_aload_n hC dX5_tell_116 rfl (lv_at hl 0 rfl) ?_
                  refine lv_iconst (v := (1 : Int32)) hC.1 hC.2.1 dX5_tell_117 (by decide) ?_
                  obtain ⟨hg23, h⟩ := gd_some h
                  obtain ⟨r20, D21, hF22, h⟩ := bd2_some h
                  refine gcallV (As := [.int (1 : Int32)]) (rest := []) (Cn := RX5) hC hE hml hH hS (c_X5_held hF22) ⟨wd_1057, wd_648, wd_649, wd_5, wd_650⟩ hd_X5_held rfl rfl ⟨Nat.le_of_ble_eq_true rfl, Nat.le_of_ble_eq_true rfl⟩ (rfv_in hg23) (hw_recv (q := 6) (i := x0.toNatClampNeg) hC hH ⟨(inb_lt hg23), fun h => absurd h (by decide)⟩ rfl rfl) rfl hl.1 rfl (Nat.le_of_ble_eq_true rfl) dX5_tell_118 ⟨Nat.le_of_ble_eq_true rfl, Nat.le_of_ble_eq_true rfl⟩ (fun ed H locs hH hS => ?_)
                  refine W.eq (g2 := F0 m 121 ls [.int r20]) rfl ?_
                  cases h
                  exact gret_i hC hr hlk hH hS (Nat.le_of_ble_eq_true rfl) (Nat.le_of_ble_eq_true rfl) dX5_tell_121
                · rw [if_neg hs19] at h
                  by_cases hs24 : x1 = 8
                  · rw [if_pos hs24] at h
                    refine lv_tableIn (x := x1) (off := 121) (tgt := 122) hC.1 hC.2.1 dX5_tell_1 (by rw [hs24]; decide) (by rw [hs24]; decide) (by rw [hs24]; rfl) (by decide) ?_
                    refine gl_aload_n hC dX5_tell_122 rfl (lv_at hl 0 rfl) ?_
                    refine lv_iconst (v := (2 : Int32)) hC.1 hC.2.1 dX5_tell_123 (by decide) ?_
                    obtain ⟨hg28, h⟩ := gd_some h
                    obtain ⟨r25, D26, hF27, h⟩ := bd2_some h
                    refine gcallV (As := [.int (2 : Int32)]) (rest := []) (Cn := RX5) hC hE hml hH hS (c_X5_held hF27) ⟨wd_1057, wd_648, wd_649, wd_5, wd_650⟩ hd_X5_held rfl rfl ⟨Nat.le_of_ble_eq_true rfl, Nat.le_of_ble_eq_true rfl⟩ (rfv_in hg28) (hw_recv (q := 6) (i := x0.toNatClampNeg) hC hH ⟨(inb_lt hg28), fun h => absurd h (by decide)⟩ rfl rfl) rfl hl.1 rfl (Nat.le_of_ble_eq_true rfl) dX5_tell_124 ⟨Nat.le_of_ble_eq_true rfl, Nat.le_of_ble_eq_true rfl⟩ (fun ed H locs hH hS => ?_)
                    refine W.eq (g2 := F0 m 127 ls [.int r25]) rfl ?_
                    cases h
                    exact gret_i hC hr hlk hH hS (Nat.le_of_ble_eq_true rfl) (Nat.le_of_ble_eq_true rfl) dX5_tell_127
                  · rw [if_neg hs24] at h
                    by_cases hs29 : x1 = 9
                    · rw [if_pos hs29] at h
                      refine lv_tableIn (x := x1) (off := 127) (tgt := 128) hC.1 hC.2.1 dX5_tell_1 (by rw [hs29]; decide) (by rw [hs29]; decide) (by rw [hs29]; rfl) (by decide) ?_
                      refine gl_aload_n hC dX5_tell_128 rfl (lv_at hl 0 rfl) ?_
                      obtain ⟨hg30, h⟩ := gd_some h
                      refine gf_RX5_58 hC hH (inb_lt hg30) (rfv_in hg30) dX5_tell_129 ?_
                      cases h
                      exact gret_i hC hr hlk hH hS (Nat.le_of_ble_eq_true rfl) (Nat.le_of_ble_eq_true rfl) dX5_tell_132
                    · rw [if_neg hs29] at h
                      by_cases hs31 : x1 = 10
                      · rw [if_pos hs31] at h
                        refine lv_tableIn (x := x1) (off := 132) (tgt := 133) hC.1 hC.2.1 dX5_tell_1 (by rw [hs31]; decide) (by rw [hs31]; decide) (by rw [hs31]; rfl) (by decide) ?_
                        refine gl_aload_n hC dX5_tell_133 rfl (lv_at hl 0 rfl) ?_
                        obtain ⟨hg32, h⟩ := gd_some h
                        refine gf_RX5_61 hC hH (inb_lt hg32) (rfv_in hg32) dX5_tell_134 ?_
                        cases h
                        exact gret_i hC hr hlk hH hS (Nat.le_of_ble_eq_true rfl) (Nat.le_of_ble_eq_true rfl) dX5_tell_137
                      · rw [if_neg hs31] at h
                        by_cases hs33 : x1 = 11
                        · rw [if_pos hs33] at h
                          refine lv_tableIn (x := x1) (off := 137) (tgt := 138) hC.1 hC.2.1 dX5_tell_1 (by rw [hs33]; decide) (by rw [hs33]; decide) (by rw [hs33]; rfl) (by decide) ?_
                          refine gl_aload_n hC dX5_tell_138 rfl (lv_at hl 0 rfl) ?_
                          obtain ⟨hg34, h⟩ := gd_some h
                          refine gf_RX5_23 hC hH (inb_lt hg34) (rfv_in hg34) dX5_tell_139 ?_
                          obtain ⟨r35, D36, hF37, h⟩ := bd2_some h
                          refine gcallV (As := []) (rest := []) (Cn := RX8) hC hE hml hH hS (c_X8_size (lt8 hg34) hF37) ⟨wd_1058, wd_568, wd_569, wd_4, wd_570⟩ hd_X8_size rfl rfl ⟨Nat.le_of_ble_eq_true rfl, Nat.le_of_ble_eq_true rfl⟩ rfl (hw_recv (q := 2) (i := (x0.toNatClampNeg + 2)) hC hH ⟨(lt8 hg34), fun h => absurd h (by decide)⟩ rfl rfl) rfl hl.1 rfl (Nat.le_of_ble_eq_true rfl) dX5_tell_142 ⟨Nat.le_of_ble_eq_true rfl, Nat.le_of_ble_eq_true rfl⟩ (fun ed H locs hH hS => ?_)
                          refine W.eq (g2 := F0 m 145 ls [.int r35]) rfl ?_
                          cases h
                          exact gret_i hC hr hlk hH hS (Nat.le_of_ble_eq_true rfl) (Nat.le_of_ble_eq_true rfl) dX5_tell_145
                        · rw [if_neg hs33] at h
                          by_cases hs38 : x1 = 12
                          · rw [if_pos hs38] at h
                            refine lv_tableIn (x := x1) (off := 145) (tgt := 146) hC.1 hC.2.1 dX5_tell_1 (by rw [hs38]; decide) (by rw [hs38]; decide) (by rw [hs38]; rfl) (by decide) ?_
                            refine gl_aload_n hC dX5_tell_146 rfl (lv_at hl 0 rfl) ?_
                            obtain ⟨hg39, h⟩ := gd_some h
                            refine gf_RX5_64 hC hH (inb_lt hg39) (rfv_in hg39) dX5_tell_147 ?_
                            obtain ⟨r40, D41, hF42, h⟩ := bd2_some h
                            refine gcallSN (As := [.int (C 6 x0.toNatClampNeg 18 0)]) (rest := []) hC hE hml hH hS (c_X11_asNumber hF42) ⟨wd_1059, wd_1060, wd_1, wd_1061⟩ hd_X11_asNumber rfl rfl ⟨Nat.le_of_ble_eq_true rfl, Nat.le_of_ble_eq_true rfl⟩ rfl hl.1 rfl (Nat.le_of_ble_eq_true rfl) dX5_tell_150 ⟨Nat.le_of_ble_eq_true rfl, Nat.le_of_ble_eq_true rfl⟩ (fun ed H locs hH hS => ?_)
                            refine W.eq (g2 := F0 m 153 ls [.int r40]) rfl ?_
                            cases h
                            exact gret_i hC hr hlk hH hS (Nat.le_of_ble_eq_true rfl) (Nat.le_of_ble_eq_true rfl) dX5_tell_153
                          · rw [if_neg hs38] at h
                            have q0 := lv_neT (a := 0) hs1 (by decide)
                            have q1 := lv_neT (a := 1) hs3 (by decide)
                            have q2 := lv_neT (a := 2) hs6 (by decide)
                            have q3 := lv_neT (a := 3) hs8 (by decide)
                            have q4 := lv_neT (a := 4) hs10 (by decide)
                            have q5 := lv_neT (a := 5) hs12 (by decide)
                            have q6 := lv_neT (a := 6) hs14 (by decide)
                            have q7 := lv_neT (a := 7) hs19 (by decide)
                            have q8 := lv_neT (a := 8) hs24 (by decide)
                            have q9 := lv_neT (a := 9) hs29 (by decide)
                            have q10 := lv_neT (a := 10) hs31 (by decide)
                            have q11 := lv_neT (a := 11) hs33 (by decide)
                            have q12 := lv_neT (a := 12) hs38 (by decide)
                            refine lv_tableOut (x := x1) (tgt := 154) hC.1 hC.2.1 dX5_tell_1 (by omega) (by decide) ?_
                            refine lv_iconst (v := (-1 : Int32)) hC.1 hC.2.1 dX5_tell_154 (by decide) ?_
                            cases h
                            exact gret_i hC hr hlk hH hS (Nat.le_of_ble_eq_true rfl) (Nat.le_of_ble_eq_true rfl) dX5_tell_155
