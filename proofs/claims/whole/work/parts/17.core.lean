def F_X2_complete_55 (n : Nat) (k27 : Int32 → Int32 → Int32 → St → Option (Int32 × St)) (x1 : Int32) (x4 : Int32) (x5 : Int32) (C : St) : Option (Int32 × St) := k27 x1 x4 (x5 + 1) C
set_option maxHeartbeats 4000000 in
set_option maxRecDepth 100000 in
theorem B_X2_complete_55 {p : Program} {l : Launch} {e : Env} {s : State} {m : MethodId} {args : Array Value} {below : List Frame} {meth : Method} {c : Code} {g : GP} {Z : St} (hC : CX p s m args c cX2_complete RX2 g) (hE : EZ g s s.heap) (hml : c.maxLocals = 7) (hr : meth.sig.returnType = none) (hlk : meth.locks = false) {r : Int32} {C2 : St} {k27 : Int32 → Int32 → Int32 → St → Option (Int32 × St)} (hk27 : ∀ (x1 : Int32) (x4 : Int32) (x5 : Int32) (C : St), k27 x1 x4 x5 C = some (r, C2) → ∀ (ed : Nat → Nat) (H : Heap) (locs : List Loc) (ls : Array Slot), HW g ed C Z H → va_S (gP g) s.heap H locs → lv_has ls 7 [(1, rfv (gA g) 6 x1), (3, .ref (gA g 13 0)), (4, .int x4), (5, .int x5)] → W p l e ({ frames := 1, cells := 0, slots := 0, locals := 21 } : Room) s m args below meth c H locs 0 0 (MQ below (QG none g C2 Z) args s 0 0 (gP g)) (F0 m 27 ls [])) {x1 : Int32} {x4 : Int32} {x5 : Int32} {C : St} (h : F_X2_complete_55 (gn g) k27 x1 x4 x5 C = some (r, C2)) {ed : Nat → Nat} {H : Heap} {locs : List Loc} {ls : Array Slot} (hH : HW g ed C Z H) (hS : va_S (gP g) s.heap H locs) (hl : lv_has ls 7 [(1, rfv (gA g) 6 x1), (3, .ref (gA g 13 0)), (4, .int x4), (5, .int x5)]) : W p l e ({ frames := 1, cells := 0, slots := 0, locals := 21 } : Room) s m args below meth c H locs 0 0 (MQ below (QG none g C2 Z) args s 0 0 (gP g)) (F0 m 55 ls []) := by
  unfold F_X2_complete_55 at h
  refine lv_iinc (v := x5 + 1) (lv' := [(5, .int (x5 + 1)), (1, rfv (gA g) 6 x1), (3, .ref (gA g 13 0)), (4, .int x4)]) hC.1 hC.2.1 dX2_complete_55 hl (k := 3) rfl rfl (by decide) rfl (fun ls hl => ?_)
  refine lv_goto (tgt := 27) hC.1 hC.2.1 dX2_complete_58 (by decide) ?_
  exact hk27 _ _ _ _ h _ _ _ _ hH hS (lv_sub hl [1, 2, 3, 0] rfl)
def F_X2_complete_27 (n : Nat)  : Nat → Int32 → Int32 → Int32 → St → Option (Int32 × St)
  | 0, _, _, _, _ => none
  | fu + 1, x1, x4, x5, C => if x4 ≤ x5 then (some (0, C)) else (gd (inb x5 n) (bd2 (F_X4_isOf n x5 x1 C) (fun r3 D4 => if r3 = 0 then (F_X2_complete_55 n (F_X2_complete_27 n fu) x1 x4 x5 D4) else (st (up D4 14 x5.toNatClampNeg 5 0 (0 : Int32)) (fun D7 => F_X2_complete_55 n (F_X2_complete_27 n fu) x1 x4 x5 D7)))))
set_option maxHeartbeats 4000000 in
set_option maxRecDepth 100000 in
theorem B_X2_complete_27 {p : Program} {l : Launch} {e : Env} {s : State} {m : MethodId} {args : Array Value} {below : List Frame} {meth : Method} {c : Code} {g : GP} {Z : St} (hC : CX p s m args c cX2_complete RX2 g) (hE : EZ g s s.heap) (hml : c.maxLocals = 7) (hr : meth.sig.returnType = none) (hlk : meth.locks = false) {r : Int32} {C2 : St} : ∀ (fu : Nat) (x1 : Int32) (x4 : Int32) (x5 : Int32) (C : St), F_X2_complete_27 (gn g)  fu x1 x4 x5 C = some (r, C2) → ∀ (ed : Nat → Nat) (H : Heap) (locs : List Loc) (ls : Array Slot), HW g ed C Z H → va_S (gP g) s.heap H locs → lv_has ls 7 [(1, rfv (gA g) 6 x1), (3, .ref (gA g 13 0)), (4, .int x4), (5, .int x5)] → W p l e ({ frames := 1, cells := 0, slots := 0, locals := 21 } : Room) s m args below meth c H locs 0 0 (MQ below (QG none g C2 Z) args s 0 0 (gP g)) (F0 m 27 ls []) := by
  intro fu
  induction fu with
  | zero =>
    intro x1 x4 x5 C h
    cases h
  | succ fu ih =>
    intro x1 x4 x5 C h ed H locs ls hH hS hl
    rw [F_X2_complete_27] at h
    refine lv_iload hC.1 hC.2.1 dX2_complete_27 (lv_at hl 3 rfl) ?_
    refine lv_iload hC.1 hC.2.1 dX2_complete_29 (lv_at hl 2 rfl) ?_
    refine lv_icmp_ge (tgt := 61) hC.1 hC.2.1 dX2_complete_31 (by decide) (fun hc1 => ?_) (fun hc1 => ?_)
    · rw [if_pos hc1] at h
      cases h
      exact gret_v hC hr hlk hH hS (Nat.le_of_ble_eq_true rfl) (Nat.le_of_ble_eq_true rfl) dX2_complete_61
    · rw [if_neg hc1] at h
      refine lv_aload_n hC.1 hC.2.1 dX2_complete_34 rfl (lv_at hl 1 rfl) ?_
      refine lv_iload hC.1 hC.2.1 dX2_complete_35 (lv_at hl 3 rfl) ?_
      obtain ⟨hg2, h⟩ := gd_some h
      refine aa_13 hC hH hg2 rfl dX2_complete_37 ?_
      refine gl_astore (lv' := [(6, rfv (gA g) 14 x5), (1, rfv (gA g) 6 x1), (3, .ref (gA g 13 0)), (4, .int x4), (5, .int x5)]) hC dX2_complete_38 hl (by decide) rfl (fun ls hl => ?_)
      refine gl_aload hC dX2_complete_40 (lv_at hl 0 rfl) ?_
      refine gl_aload_n hC dX2_complete_42 rfl (lv_at hl 1 rfl) ?_
      obtain ⟨r3, D4, hF5, h⟩ := bd2_some h
      refine gcallV (As := [rfv (gA g) 6 x1]) (rest := []) (Cn := RX4) hC hE hml hH hS (c_X4_isOf hF5) ⟨wd_635, wd_636, wd_637, wd_7, wd_638⟩ hd_X4_isOf rfl rfl ⟨Nat.le_of_ble_eq_true rfl, Nat.le_of_ble_eq_true rfl⟩ (rfv_in hg2) (hw_recv (q := 14) (i := x5.toNatClampNeg) hC hH ⟨(inb_lt hg2), fun h => absurd h (by decide)⟩ rfl rfl) rfl hl.1 rfl (Nat.le_of_ble_eq_true rfl) dX2_complete_43 ⟨Nat.le_of_ble_eq_true rfl, Nat.le_of_ble_eq_true rfl⟩ (fun ed H locs hH hS => ?_)
      refine W.eq (g2 := F0 m 46 ls [.int r3]) rfl ?_
      refine lv_if_eq (tgt := 55) hC.1 hC.2.1 dX2_complete_46 (by decide) (fun hc6 => ?_) (fun hc6 => ?_)
      · rw [if_pos hc6] at h
        exact B_X2_complete_55 hC hE hml hr hlk ih h hH hS (lv_sub hl [1, 2, 3, 4] rfl)
      · rw [if_neg hc6] at h
        refine gl_aload hC dX2_complete_49 (lv_at hl 0 rfl) ?_
        refine lv_iconst (v := (0 : Int32)) hC.1 hC.2.1 dX2_complete_51 (by decide) ?_
        obtain ⟨D7, e8, h⟩ := st_some h
        refine pf_RX2_40 hC hH hS (inb_lt hg2) (by decide) (rfv_in hg2) dX2_complete_52 (fun H locs hH hS => ?_)
        rw [← e8] at hH
        exact B_X2_complete_55 hC hE hml hr hlk ih h hH hS (lv_sub hl [1, 2, 3, 4] rfl)
def F_X2_complete (n : Nat) (x1 : Int32) (x2 : Int32) (C : St) : Option (Int32 × St) := gd (inb x1 6) (st (up C 6 x1.toNatClampNeg 11 0 ((C 6 x1.toNatClampNeg 11 0) + (1 : Int32))) (fun D2 => st (up D2 6 x1.toNatClampNeg 12 0 x2) (fun D4 => F_X2_complete_27 n 1000 x1 (nI n) (0 : Int32) D4)))
set_option maxHeartbeats 4000000 in
set_option maxRecDepth 100000 in
theorem c_X2_complete {l : Launch} {g : GP} {ed : Nat → Nat} {Z : St} {x1 : Int32} {x2 : Int32} {C : St} {r : Int32} {C2 : St} (h : F_X2_complete (gn g) x1 x2 C = some (r, C2)) : Met l yX2_complete (Cond.code yX2_complete cX2_complete 7 none :: lwG) ({ frames := 1, cells := 0, slots := 0, locals := 21 } : Room) (va_Pc [.ref (gA g 12 0), rfv (gA g) 6 x1, .int x2] (PW g C Z ed)) (QG none g C2 Z) 0 0 (gP g) := by
  refine Met.ofW (cc := cX2_complete) (maxL := 7) (ret := none) (by decide +kernel) rfl ?_
  intro p e s m args below meth c s₁ B hml hv
  obtain ⟨ha, hC, hE, hr, hlk, hH⟩ := g_start B hv
  subst ha
  have hC : CX p s m ([.ref (gA g 12 0), rfv (gA g) 6 x1, .int x2] : List Value).toArray c cX2_complete RX2 g := hC
  have hS : va_S (gP g) s.heap s.heap [] := va_S.rf
  obtain ⟨ls, he, hl⟩ := g_entry m (vs := [.ref (gA g 12 0), rfv (gA g) 6 x1, .int x2]) (n := 7) (List.forall_mem_cons.mpr ⟨rfl, (List.forall_mem_cons.mpr ⟨rfv_cat, (List.forall_mem_cons.mpr ⟨rfl, (fun _ h => absurd h List.not_mem_nil)⟩)⟩)⟩) (Nat.le_of_ble_eq_true rfl)
  rw [he]
  have hl : lv_has ls 7 [(0, .ref (gA g 12 0)), (1, rfv (gA g) 6 x1), (2, .int x2)] := hl
  unfold F_X2_complete at h
  refine gl_aload_n hC dX2_complete_0 rfl (lv_at hl 1 rfl) ?_
  refine lv_dup hC.1 hC.2.1 dX2_complete_1 rfv_cat ?_
  obtain ⟨hg1, h⟩ := gd_some h
  refine gf_RX2_46 hC hH (inb_lt hg1) (rfv_in hg1) dX2_complete_2 ?_
  refine lv_iconst (v := (1 : Int32)) hC.1 hC.2.1 dX2_complete_5 (by decide) ?_
  refine lv_iadd hC.1 hC.2.1 dX2_complete_6 ?_
  obtain ⟨D2, e3, h⟩ := st_some h
  refine pf_RX2_46 hC hH hS (inb_lt hg1)  (rfv_in hg1) dX2_complete_7 (fun H locs hH hS => ?_)
  rw [← e3] at hH
  refine gl_aload_n hC dX2_complete_10 rfl (lv_at hl 1 rfl) ?_
  refine lv_iload_n hC.1 hC.2.1 dX2_complete_11 rfl (lv_at hl 2 rfl) ?_
  obtain ⟨D4, e5, h⟩ := st_some h
  refine pf_RX2_51 hC hH hS (inb_lt hg1)  (rfv_in hg1) dX2_complete_12 (fun H locs hH hS => ?_)
  rw [← e5] at hH
  refine lv_aload_n hC.1 hC.2.1 dX2_complete_15 rfl (lv_at hl 0 rfl) ?_
  refine gf_RX2_17 hC hH rfl dX2_complete_16 ?_
  refine lv_astore_n (i := 3) (lv' := [(3, .ref (gA g 13 0)), (0, .ref (gA g 12 0)), (1, rfv (gA g) 6 x1), (2, .int x2)]) hC.1 hC.2.1 dX2_complete_19 rfl hl (by decide) rfl (fun ls hl => ?_)
  refine lv_aload_n hC.1 hC.2.1 dX2_complete_20 rfl (lv_at hl 0 rfl) ?_
  refine ln_13 hC hH rfl dX2_complete_21 ?_
  refine lv_istore (lv' := [(4, .int (nI (gn g))), (3, .ref (gA g 13 0)), (0, .ref (gA g 12 0)), (1, rfv (gA g) 6 x1), (2, .int x2)]) hC.1 hC.2.1 dX2_complete_22 hl (by decide) rfl (fun ls hl => ?_)
  refine lv_iconst (v := (0 : Int32)) hC.1 hC.2.1 dX2_complete_24 (by decide) ?_
  refine lv_istore (lv' := [(5, .int (0 : Int32)), (4, .int (nI (gn g))), (3, .ref (gA g 13 0)), (0, .ref (gA g 12 0)), (1, rfv (gA g) 6 x1), (2, .int x2)]) hC.1 hC.2.1 dX2_complete_25 hl (by decide) rfl (fun ls hl => ?_)
  exact B_X2_complete_27 hC hE hml hr hlk 1000 _ _ _ _ h _ _ _ _ hH hS (lv_sub hl [4, 2, 1, 0] rfl)
def F_X2_find_46 (n : Nat) (k12 : Int32 → Int32 → Int32 → Int32 → St → Option (Int32 × St)) (x1 : Int32) (x2 : Int32) (x4 : Int32) (x5 : Int32) (C : St) : Option (Int32 × St) := k12 x1 x2 x4 (x5 + 1) C
set_option maxHeartbeats 4000000 in
set_option maxRecDepth 100000 in
theorem B_X2_find_46 {p : Program} {l : Launch} {e : Env} {s : State} {m : MethodId} {args : Array Value} {below : List Frame} {meth : Method} {c : Code} {g : GP} {Z : St} (hC : CX p s m args c cX2_find RX2 g) (hE : EZ g s s.heap) (hml : c.maxLocals = 7) (hr : meth.sig.returnType = (some (.object "DrumLayers$Frame"))) (hlk : meth.locks = false) {r : Int32} {C2 : St} {k12 : Int32 → Int32 → Int32 → Int32 → St → Option (Int32 × St)} (hk12 : ∀ (x1 : Int32) (x2 : Int32) (x4 : Int32) (x5 : Int32) (C : St), k12 x1 x2 x4 x5 C = some (r, C2) → ∀ (ed : Nat → Nat) (H : Heap) (locs : List Loc) (ls : Array Slot), HW g ed C Z H → va_S (gP g) s.heap H locs → lv_has ls 7 [(1, rfv (gA g) 6 x1), (2, .int x2), (3, .ref (gA g 13 0)), (4, .int x4), (5, .int x5)] → W p l e ({ frames := 1, cells := 0, slots := 0, locals := 21 } : Room) s m args below meth c H locs 0 0 (MQ below (QG (some (rfv (gA g) 14 r)) g C2 Z) args s 0 0 (gP g)) (F0 m 12 ls [])) {x1 : Int32} {x2 : Int32} {x4 : Int32} {x5 : Int32} {C : St} (h : F_X2_find_46 (gn g) k12 x1 x2 x4 x5 C = some (r, C2)) {ed : Nat → Nat} {H : Heap} {locs : List Loc} {ls : Array Slot} (hH : HW g ed C Z H) (hS : va_S (gP g) s.heap H locs) (hl : lv_has ls 7 [(1, rfv (gA g) 6 x1), (2, .int x2), (3, .ref (gA g 13 0)), (4, .int x4), (5, .int x5)]) : W p l e ({ frames := 1, cells := 0, slots := 0, locals := 21 } : Room) s m args below meth c H locs 0 0 (MQ below (QG (some (rfv (gA g) 14 r)) g C2 Z) args s 0 0 (gP g)) (F0 m 46 ls []) := by
  unfold F_X2_find_46 at h
  refine lv_iinc (v := x5 + 1) (lv' := [(5, .int (x5 + 1)), (1, rfv (gA g) 6 x1), (2, .int x2), (3, .ref (gA g 13 0)), (4, .int x4)]) hC.1 hC.2.1 dX2_find_46 hl (k := 4) rfl rfl (by decide) rfl (fun ls hl => ?_)
  refine lv_goto (tgt := 12) hC.1 hC.2.1 dX2_find_49 (by decide) ?_
  exact hk12 _ _ _ _ _ h _ _ _ _ hH hS (lv_sub hl [1, 2, 3, 4, 0] rfl)
def F_X2_find_12 (n : Nat)  : Nat → Int32 → Int32 → Int32 → Int32 → St → Option (Int32 × St)
  | 0, _, _, _, _, _ => none
  | fu + 1, x1, x2, x4, x5, C => if x4 ≤ x5 then (some ((-1), C)) else (gd (inb x5 n) (bd2 (F_X4_isOf n x5 x1 C) (fun r3 D4 => if r3 = 0 then (F_X2_find_46 n (F_X2_find_12 n fu) x1 x2 x4 x5 D4) else (if (D4 14 x5.toNatClampNeg 2 0) = x2 then (some (x5, D4)) else (F_X2_find_46 n (F_X2_find_12 n fu) x1 x2 x4 x5 D4)))))
set_option maxHeartbeats 4000000 in
set_option maxRecDepth 100000 in
theorem B_X2_find_12 {p : Program} {l : Launch} {e : Env} {s : State} {m : MethodId} {args : Array Value} {below : List Frame} {meth : Method} {c : Code} {g : GP} {Z : St} (hC : CX p s m args c cX2_find RX2 g) (hE : EZ g s s.heap) (hml : c.maxLocals = 7) (hr : meth.sig.returnType = (some (.object "DrumLayers$Frame"))) (hlk : meth.locks = false) {r : Int32} {C2 : St} : ∀ (fu : Nat) (x1 : Int32) (x2 : Int32) (x4 : Int32) (x5 : Int32) (C : St), F_X2_find_12 (gn g)  fu x1 x2 x4 x5 C = some (r, C2) → ∀ (ed : Nat → Nat) (H : Heap) (locs : List Loc) (ls : Array Slot), HW g ed C Z H → va_S (gP g) s.heap H locs → lv_has ls 7 [(1, rfv (gA g) 6 x1), (2, .int x2), (3, .ref (gA g 13 0)), (4, .int x4), (5, .int x5)] → W p l e ({ frames := 1, cells := 0, slots := 0, locals := 21 } : Room) s m args below meth c H locs 0 0 (MQ below (QG (some (rfv (gA g) 14 r)) g C2 Z) args s 0 0 (gP g)) (F0 m 12 ls []) := by
  intro fu
  induction fu with
  | zero =>
    intro x1 x2 x4 x5 C h
    cases h
  | succ fu ih =>
    intro x1 x2 x4 x5 C h ed H locs ls hH hS hl
    rw [F_X2_find_12] at h
    refine lv_iload hC.1 hC.2.1 dX2_find_12 (lv_at hl 4 rfl) ?_
    refine lv_iload hC.1 hC.2.1 dX2_find_14 (lv_at hl 3 rfl) ?_
    refine lv_icmp_ge (tgt := 52) hC.1 hC.2.1 dX2_find_16 (by decide) (fun hc1 => ?_) (fun hc1 => ?_)
    · rw [if_pos hc1] at h
      refine lv_null hC.1 hC.2.1 dX2_find_52 ?_
      cases h
      refine W.eq (g2 := F0 m 53 ls [rfv (gA g) 14 (-1)]) (by simp only [rfv_m1]) ?_
      exact gret_a hC hr hlk hH hS (Nat.le_of_ble_eq_true rfl) (Nat.le_of_ble_eq_true rfl) dX2_find_53
    · rw [if_neg hc1] at h
      refine lv_aload_n hC.1 hC.2.1 dX2_find_19 rfl (lv_at hl 2 rfl) ?_
      refine lv_iload hC.1 hC.2.1 dX2_find_20 (lv_at hl 4 rfl) ?_
      obtain ⟨hg2, h⟩ := gd_some h
      refine aa_13 hC hH hg2 rfl dX2_find_22 ?_
      refine gl_astore (lv' := [(6, rfv (gA g) 14 x5), (1, rfv (gA g) 6 x1), (2, .int x2), (3, .ref (gA g 13 0)), (4, .int x4), (5, .int x5)]) hC dX2_find_23 hl (by decide) rfl (fun ls hl => ?_)
      refine gl_aload hC dX2_find_25 (lv_at hl 0 rfl) ?_
      refine gl_aload_n hC dX2_find_27 rfl (lv_at hl 1 rfl) ?_
      obtain ⟨r3, D4, hF5, h⟩ := bd2_some h
      refine gcallV (As := [rfv (gA g) 6 x1]) (rest := []) (Cn := RX4) hC hE hml hH hS (c_X4_isOf hF5) ⟨wd_635, wd_636, wd_637, wd_7, wd_638⟩ hd_X4_isOf rfl rfl ⟨Nat.le_of_ble_eq_true rfl, Nat.le_of_ble_eq_true rfl⟩ (rfv_in hg2) (hw_recv (q := 14) (i := x5.toNatClampNeg) hC hH ⟨(inb_lt hg2), fun h => absurd h (by decide)⟩ rfl rfl) rfl hl.1 rfl (Nat.le_of_ble_eq_true rfl) dX2_find_28 ⟨Nat.le_of_ble_eq_true rfl, Nat.le_of_ble_eq_true rfl⟩ (fun ed H locs hH hS => ?_)
      refine W.eq (g2 := F0 m 31 ls [.int r3]) rfl ?_
      refine lv_if_eq (tgt := 46) hC.1 hC.2.1 dX2_find_31 (by decide) (fun hc6 => ?_) (fun hc6 => ?_)
      · rw [if_pos hc6] at h
        exact B_X2_find_46 hC hE hml hr hlk ih h hH hS (lv_sub hl [1, 2, 3, 4, 5] rfl)
      · rw [if_neg hc6] at h
        refine gl_aload hC dX2_find_34 (lv_at hl 0 rfl) ?_
        refine gf_RX2_28 hC hH (inb_lt hg2) (rfv_in hg2) dX2_find_36 ?_
        refine lv_iload_n hC.1 hC.2.1 dX2_find_39 rfl (lv_at hl 2 rfl) ?_
        refine lv_icmp_ne (tgt := 46) hC.1 hC.2.1 dX2_find_40 (by decide) (fun hc7 => ?_) (fun hc7 => ?_)
        · rw [if_neg hc7] at h
          exact B_X2_find_46 hC hE hml hr hlk ih h hH hS (lv_sub hl [1, 2, 3, 4, 5] rfl)
        · rw [if_pos hc7] at h
          refine gl_aload hC dX2_find_43 (lv_at hl 0 rfl) ?_
          cases h
          exact gret_a hC hr hlk hH hS (Nat.le_of_ble_eq_true rfl) (Nat.le_of_ble_eq_true rfl) dX2_find_45
def F_X2_find (n : Nat) (x1 : Int32) (x2 : Int32) (C : St) : Option (Int32 × St) := F_X2_find_12 n 1000 x1 x2 (nI n) (0 : Int32) C
set_option maxHeartbeats 4000000 in
set_option maxRecDepth 100000 in
theorem c_X2_find {l : Launch} {g : GP} {ed : Nat → Nat} {Z : St} {x1 : Int32} {x2 : Int32} {C : St} {r : Int32} {C2 : St} (h : F_X2_find (gn g) x1 x2 C = some (r, C2)) : Met l yX2_find (Cond.code yX2_find cX2_find 7 (some (.object "DrumLayers$Frame")) :: lwG) ({ frames := 1, cells := 0, slots := 0, locals := 21 } : Room) (va_Pc [.ref (gA g 12 0), rfv (gA g) 6 x1, .int x2] (PW g C Z ed)) (QG (some (rfv (gA g) 14 r)) g C2 Z) 0 0 (gP g) := by
  refine Met.ofW (cc := cX2_find) (maxL := 7) (ret := (some (.object "DrumLayers$Frame"))) (by decide +kernel) rfl ?_
  intro p e s m args below meth c s₁ B hml hv
  obtain ⟨ha, hC, hE, hr, hlk, hH⟩ := g_start B hv
  subst ha
  have hC : CX p s m ([.ref (gA g 12 0), rfv (gA g) 6 x1, .int x2] : List Value).toArray c cX2_find RX2 g := hC
  have hS : va_S (gP g) s.heap s.heap [] := va_S.rf
  obtain ⟨ls, he, hl⟩ := g_entry m (vs := [.ref (gA g 12 0), rfv (gA g) 6 x1, .int x2]) (n := 7) (List.forall_mem_cons.mpr ⟨rfl, (List.forall_mem_cons.mpr ⟨rfv_cat, (List.forall_mem_cons.mpr ⟨rfl, (fun _ h => absurd h List.not_mem_nil)⟩)⟩)⟩) (Nat.le_of_ble_eq_true rfl)
  rw [he]
  have hl : lv_has ls 7 [(0, .ref (gA g 12 0)), (1, rfv (gA g) 6 x1), (2, .int x2)] := hl
  unfold F_X2_find at h
  refine lv_aload_n hC.1 hC.2.1 dX2_find_0 rfl (lv_at hl 0 rfl) ?_
  refine gf_RX2_17 hC hH rfl dX2_find_1 ?_
  refine lv_astore_n (i := 3) (lv' := [(3, .ref (gA g 13 0)), (0, .ref (gA g 12 0)), (1, rfv (gA g) 6 x1), (2, .int x2)]) hC.1 hC.2.1 dX2_find_4 rfl hl (by decide) rfl (fun ls hl => ?_)
  refine lv_aload_n hC.1 hC.2.1 dX2_find_5 rfl (lv_at hl 0 rfl) ?_
  refine ln_13 hC hH rfl dX2_find_6 ?_
  refine lv_istore (lv' := [(4, .int (nI (gn g))), (3, .ref (gA g 13 0)), (0, .ref (gA g 12 0)), (1, rfv (gA g) 6 x1), (2, .int x2)]) hC.1 hC.2.1 dX2_find_7 hl (by decide) rfl (fun ls hl => ?_)
  refine lv_iconst (v := (0 : Int32)) hC.1 hC.2.1 dX2_find_9 (by decide) ?_
  refine lv_istore (lv' := [(5, .int (0 : Int32)), (4, .int (nI (gn g))), (3, .ref (gA g 13 0)), (0, .ref (gA g 12 0)), (1, rfv (gA g) 6 x1), (2, .int x2)]) hC.1 hC.2.1 dX2_find_10 hl (by decide) rfl (fun ls hl => ?_)
  exact B_X2_find_12 hC hE hml hr hlk 1000 _ _ _ _ _ h _ _ _ _ hH hS (lv_sub hl [4, 5, 2, 1, 0] rfl)
def F_X2_choose_83 (n : Nat) (k13 : Int32 → Int32 → Int32 → St → Option (Int32 × St)) (x1 : Int32) (x3 : Int32) (x4 : Int32) (C : St) : Option (Int32 × St) := k13 x1 x3 (x4 + 1) C
set_option maxHeartbeats 4000000 in
set_option maxRecDepth 100000 in
theorem B_X2_choose_83 {p : Program} {l : Launch} {e : Env} {s : State} {m : MethodId} {args : Array Value} {below : List Frame} {meth : Method} {c : Code} {g : GP} {Z : St} (hC : CX p s m args c cX2_choose RX2 g) (hE : EZ g s s.heap) (hml : c.maxLocals = 7) (hr : meth.sig.returnType = (some (.object "DrumLayers$Frame"))) (hlk : meth.locks = false) {r : Int32} {C2 : St} {k13 : Int32 → Int32 → Int32 → St → Option (Int32 × St)} (hk13 : ∀ (x1 : Int32) (x3 : Int32) (x4 : Int32) (C : St), k13 x1 x3 x4 C = some (r, C2) → ∀ (ed : Nat → Nat) (H : Heap) (locs : List Loc) (ls : Array Slot), HW g ed C Z H → va_S (gP g) s.heap H locs → lv_has ls 7 [(1, rfv (gA g) 14 x1), (2, .ref (gA g 13 0)), (3, .int x3), (4, .int x4)] → W p l e ({ frames := 1, cells := 0, slots := 0, locals := 20 } : Room) s m args below meth c H locs 0 0 (MQ below (QG (some (rfv (gA g) 14 r)) g C2 Z) args s 0 0 (gP g)) (F0 m 13 ls [])) {x1 : Int32} {x3 : Int32} {x4 : Int32} {C : St} (h : F_X2_choose_83 (gn g) k13 x1 x3 x4 C = some (r, C2)) {ed : Nat → Nat} {H : Heap} {locs : List Loc} {ls : Array Slot} (hH : HW g ed C Z H) (hS : va_S (gP g) s.heap H locs) (hl : lv_has ls 7 [(1, rfv (gA g) 14 x1), (2, .ref (gA g 13 0)), (3, .int x3), (4, .int x4)]) : W p l e ({ frames := 1, cells := 0, slots := 0, locals := 20 } : Room) s m args below meth c H locs 0 0 (MQ below (QG (some (rfv (gA g) 14 r)) g C2 Z) args s 0 0 (gP g)) (F0 m 83 ls []) := by
  unfold F_X2_choose_83 at h
  refine lv_iinc (v := x4 + 1) (lv' := [(4, .int (x4 + 1)), (1, rfv (gA g) 14 x1), (2, .ref (gA g 13 0)), (3, .int x3)]) hC.1 hC.2.1 dX2_choose_83 hl (k := 3) rfl rfl (by decide) rfl (fun ls hl => ?_)
  refine lv_goto (tgt := 13) hC.1 hC.2.1 dX2_choose_86 (by decide) ?_
  exact hk13 _ _ _ _ h _ _ _ _ hH hS (lv_sub hl [1, 2, 3, 0] rfl)
def F_X2_choose_80 (n : Nat) (k13 : Int32 → Int32 → Int32 → St → Option (Int32 × St)) (x3 : Int32) (x4 : Int32) (x5 : Int32) (C : St) : Option (Int32 × St) := F_X2_choose_83 n k13 x5 x3 x4 C
set_option maxHeartbeats 4000000 in
set_option maxRecDepth 100000 in
theorem B_X2_choose_80 {p : Program} {l : Launch} {e : Env} {s : State} {m : MethodId} {args : Array Value} {below : List Frame} {meth : Method} {c : Code} {g : GP} {Z : St} (hC : CX p s m args c cX2_choose RX2 g) (hE : EZ g s s.heap) (hml : c.maxLocals = 7) (hr : meth.sig.returnType = (some (.object "DrumLayers$Frame"))) (hlk : meth.locks = false) {r : Int32} {C2 : St} {k13 : Int32 → Int32 → Int32 → St → Option (Int32 × St)} (hk13 : ∀ (x1 : Int32) (x3 : Int32) (x4 : Int32) (C : St), k13 x1 x3 x4 C = some (r, C2) → ∀ (ed : Nat → Nat) (H : Heap) (locs : List Loc) (ls : Array Slot), HW g ed C Z H → va_S (gP g) s.heap H locs → lv_has ls 7 [(1, rfv (gA g) 14 x1), (2, .ref (gA g 13 0)), (3, .int x3), (4, .int x4)] → W p l e ({ frames := 1, cells := 0, slots := 0, locals := 20 } : Room) s m args below meth c H locs 0 0 (MQ below (QG (some (rfv (gA g) 14 r)) g C2 Z) args s 0 0 (gP g)) (F0 m 13 ls [])) {x3 : Int32} {x4 : Int32} {x5 : Int32} {C : St} (h : F_X2_choose_80 (gn g) k13 x3 x4 x5 C = some (r, C2)) {ed : Nat → Nat} {H : Heap} {locs : List Loc} {ls : Array Slot} (hH : HW g ed C Z H) (hS : va_S (gP g) s.heap H locs) (hl : lv_has ls 7 [(2, .ref (gA g 13 0)), (3, .int x3), (4, .int x4), (5, rfv (gA g) 14 x5)]) : W p l e ({ frames := 1, cells := 0, slots := 0, locals := 20 } : Room) s m args below meth c H locs 0 0 (MQ below (QG (some (rfv (gA g) 14 r)) g C2 Z) args s 0 0 (gP g)) (F0 m 80 ls []) := by
  unfold F_X2_choose_80 at h
  refine gl_aload hC dX2_choose_80 (lv_at hl 3 rfl) ?_
  refine gl_astore_n (j := 1) (lv' := [(1, rfv (gA g) 14 x5), (2, .ref (gA g 13 0)), (3, .int x3), (4, .int x4), (5, rfv (gA g) 14 x5)]) hC dX2_choose_82 rfl hl (by decide) rfl (fun ls hl => ?_)
  exact B_X2_choose_83 hC hE hml hr hlk hk13 h hH hS (lv_sub hl [0, 1, 2, 3] rfl)
def F_X2_choose_57 (n : Nat) (k13 : Int32 → Int32 → Int32 → St → Option (Int32 × St)) (x1 : Int32) (x3 : Int32) (x4 : Int32) (x5 : Int32) (t0 : Int32) (C : St) : Option (Int32 × St) := if t0 = 0 then (F_X2_choose_83 n k13 x1 x3 x4 C) else (if x1 < 0 then (F_X2_choose_80 n k13 x3 x4 x5 C) else (gd (inb x5 n) (gd (inb x1 n) (if (C 14 x1.toNatClampNeg 6 0) ≤ (C 14 x5.toNatClampNeg 6 0) then (F_X2_choose_83 n k13 x1 x3 x4 C) else (F_X2_choose_80 n k13 x3 x4 x5 C)))))
set_option maxHeartbeats 4000000 in
set_option maxRecDepth 100000 in
theorem B_X2_choose_57 {p : Program} {l : Launch} {e : Env} {s : State} {m : MethodId} {args : Array Value} {below : List Frame} {meth : Method} {c : Code} {g : GP} {Z : St} (hC : CX p s m args c cX2_choose RX2 g) (hE : EZ g s s.heap) (hml : c.maxLocals = 7) (hr : meth.sig.returnType = (some (.object "DrumLayers$Frame"))) (hlk : meth.locks = false) {r : Int32} {C2 : St} {k13 : Int32 → Int32 → Int32 → St → Option (Int32 × St)} (hk13 : ∀ (x1 : Int32) (x3 : Int32) (x4 : Int32) (C : St), k13 x1 x3 x4 C = some (r, C2) → ∀ (ed : Nat → Nat) (H : Heap) (locs : List Loc) (ls : Array Slot), HW g ed C Z H → va_S (gP g) s.heap H locs → lv_has ls 7 [(1, rfv (gA g) 14 x1), (2, .ref (gA g 13 0)), (3, .int x3), (4, .int x4)] → W p l e ({ frames := 1, cells := 0, slots := 0, locals := 20 } : Room) s m args below meth c H locs 0 0 (MQ below (QG (some (rfv (gA g) 14 r)) g C2 Z) args s 0 0 (gP g)) (F0 m 13 ls [])) {x1 : Int32} {x3 : Int32} {x4 : Int32} {x5 : Int32} {t0 : Int32} {C : St} (h : F_X2_choose_57 (gn g) k13 x1 x3 x4 x5 t0 C = some (r, C2)) {ed : Nat → Nat} {H : Heap} {locs : List Loc} {ls : Array Slot} (hH : HW g ed C Z H) (hS : va_S (gP g) s.heap H locs) (hl : lv_has ls 7 [(1, rfv (gA g) 14 x1), (2, .ref (gA g 13 0)), (3, .int x3), (4, .int x4), (5, rfv (gA g) 14 x5)]) : W p l e ({ frames := 1, cells := 0, slots := 0, locals := 20 } : Room) s m args below meth c H locs 0 0 (MQ below (QG (some (rfv (gA g) 14 r)) g C2 Z) args s 0 0 (gP g)) (F0 m 57 ls [.int t0]) := by
  unfold F_X2_choose_57 at h
  refine lv_istore (lv' := [(6, .int t0), (1, rfv (gA g) 14 x1), (2, .ref (gA g 13 0)), (3, .int x3), (4, .int x4), (5, rfv (gA g) 14 x5)]) hC.1 hC.2.1 dX2_choose_57 hl (by decide) (by simp [rfv_cat]) (fun ls hl => ?_)
  refine lv_iload hC.1 hC.2.1 dX2_choose_59 (lv_at hl 0 rfl) ?_
  refine lv_if_eq (tgt := 83) hC.1 hC.2.1 dX2_choose_61 (by decide) (fun hc1 => ?_) (fun hc1 => ?_)
  · rw [if_pos hc1] at h
    exact B_X2_choose_83 hC hE hml hr hlk hk13 h hH hS (lv_sub hl [1, 2, 3, 4] rfl)
  · rw [if_neg hc1] at h
    refine gl_aload_n hC dX2_choose_64 rfl (lv_at hl 1 rfl) ?_
    refine gl_ifnull (tgt := 80) hC dX2_choose_65 (by decide) (fun hc2 => ?_) (fun hc2 => ?_)
    · rw [if_pos hc2] at h
      exact B_X2_choose_80 hC hE hml hr hlk hk13 h hH hS (lv_sub hl [2, 3, 4, 5] rfl)
    · rw [if_neg hc2] at h
      refine gl_aload hC dX2_choose_68 (lv_at hl 5 rfl) ?_
      obtain ⟨hg3, h⟩ := gd_some h
      refine gf_RX2_43 hC hH (inb_lt hg3) (rfv_in hg3) dX2_choose_70 ?_
      refine gl_aload_n hC dX2_choose_73 rfl (lv_at hl 1 rfl) ?_
      obtain ⟨hg4, h⟩ := gd_some h
      refine gf_RX2_43 hC hH (inb_lt hg4) (rfv_in hg4) dX2_choose_74 ?_
      refine lv_icmp_ge (tgt := 83) hC.1 hC.2.1 dX2_choose_77 (by decide) (fun hc5 => ?_) (fun hc5 => ?_)
      · rw [if_pos hc5] at h
        exact B_X2_choose_83 hC hE hml hr hlk hk13 h hH hS (lv_sub hl [1, 2, 3, 4] rfl)
      · rw [if_neg hc5] at h
        exact B_X2_choose_80 hC hE hml hr hlk hk13 h hH hS (lv_sub hl [2, 3, 4, 5] rfl)
def F_X2_choose_56 (n : Nat) (k13 : Int32 → Int32 → Int32 → St → Option (Int32 × St)) (x1 : Int32) (x3 : Int32) (x4 : Int32) (x5 : Int32) (C : St) : Option (Int32 × St) := F_X2_choose_57 n k13 x1 x3 x4 x5 (0 : Int32) C
set_option maxHeartbeats 4000000 in
set_option maxRecDepth 100000 in
theorem B_X2_choose_56 {p : Program} {l : Launch} {e : Env} {s : State} {m : MethodId} {args : Array Value} {below : List Frame} {meth : Method} {c : Code} {g : GP} {Z : St} (hC : CX p s m args c cX2_choose RX2 g) (hE : EZ g s s.heap) (hml : c.maxLocals = 7) (hr : meth.sig.returnType = (some (.object "DrumLayers$Frame"))) (hlk : meth.locks = false) {r : Int32} {C2 : St} {k13 : Int32 → Int32 → Int32 → St → Option (Int32 × St)} (hk13 : ∀ (x1 : Int32) (x3 : Int32) (x4 : Int32) (C : St), k13 x1 x3 x4 C = some (r, C2) → ∀ (ed : Nat → Nat) (H : Heap) (locs : List Loc) (ls : Array Slot), HW g ed C Z H → va_S (gP g) s.heap H locs → lv_has ls 7 [(1, rfv (gA g) 14 x1), (2, .ref (gA g 13 0)), (3, .int x3), (4, .int x4)] → W p l e ({ frames := 1, cells := 0, slots := 0, locals := 20 } : Room) s m args below meth c H locs 0 0 (MQ below (QG (some (rfv (gA g) 14 r)) g C2 Z) args s 0 0 (gP g)) (F0 m 13 ls [])) {x1 : Int32} {x3 : Int32} {x4 : Int32} {x5 : Int32} {C : St} (h : F_X2_choose_56 (gn g) k13 x1 x3 x4 x5 C = some (r, C2)) {ed : Nat → Nat} {H : Heap} {locs : List Loc} {ls : Array Slot} (hH : HW g ed C Z H) (hS : va_S (gP g) s.heap H locs) (hl : lv_has ls 7 [(1, rfv (gA g) 14 x1), (2, .ref (gA g 13 0)), (3, .int x3), (4, .int x4), (5, rfv (gA g) 14 x5)]) : W p l e ({ frames := 1, cells := 0, slots := 0, locals := 20 } : Room) s m args below meth c H locs 0 0 (MQ below (QG (some (rfv (gA g) 14 r)) g C2 Z) args s 0 0 (gP g)) (F0 m 56 ls []) := by
  unfold F_X2_choose_56 at h
  refine lv_iconst (v := (0 : Int32)) hC.1 hC.2.1 dX2_choose_56 (by decide) ?_
  exact B_X2_choose_57 hC hE hml hr hlk hk13 h hH hS (lv_sub hl [0, 1, 2, 3, 4] rfl)
def F_X2_choose_13 (n : Nat)  : Nat → Int32 → Int32 → Int32 → St → Option (Int32 × St)
  | 0, _, _, _, _ => none
  | fu + 1, x1, x3, x4, C => if x3 ≤ x4 then (some (x1, C)) else (gd (inb x4 n) (bd2 (F_X4_isFree n x4 C) (fun r3 D4 => if r3 = 0 then (if (D4 14 x4.toNatClampNeg 3 0) = 0 then (if (D4 14 x4.toNatClampNeg 5 0) = 0 then (F_X2_choose_57 n (F_X2_choose_13 n fu) x1 x3 x4 x4 (1 : Int32) D4) else (F_X2_choose_56 n (F_X2_choose_13 n fu) x1 x3 x4 x4 D4)) else (F_X2_choose_56 n (F_X2_choose_13 n fu) x1 x3 x4 x4 D4)) else (some (x4, D4)))))
set_option maxHeartbeats 4000000 in
set_option maxRecDepth 100000 in
theorem B_X2_choose_13 {p : Program} {l : Launch} {e : Env} {s : State} {m : MethodId} {args : Array Value} {below : List Frame} {meth : Method} {c : Code} {g : GP} {Z : St} (hC : CX p s m args c cX2_choose RX2 g) (hE : EZ g s s.heap) (hml : c.maxLocals = 7) (hr : meth.sig.returnType = (some (.object "DrumLayers$Frame"))) (hlk : meth.locks = false) {r : Int32} {C2 : St} : ∀ (fu : Nat) (x1 : Int32) (x3 : Int32) (x4 : Int32) (C : St), F_X2_choose_13 (gn g)  fu x1 x3 x4 C = some (r, C2) → ∀ (ed : Nat → Nat) (H : Heap) (locs : List Loc) (ls : Array Slot), HW g ed C Z H → va_S (gP g) s.heap H locs → lv_has ls 7 [(1, rfv (gA g) 14 x1), (2, .ref (gA g 13 0)), (3, .int x3), (4, .int x4)] → W p l e ({ frames := 1, cells := 0, slots := 0, locals := 20 } : Room) s m args below meth c H locs 0 0 (MQ below (QG (some (rfv (gA g) 14 r)) g C2 Z) args s 0 0 (gP g)) (F0 m 13 ls []) := by
  intro fu
  induction fu with
  | zero =>
    intro x1 x3 x4 C h
    cases h
  | succ fu ih =>
    intro x1 x3 x4 C h ed H locs ls hH hS hl
    rw [F_X2_choose_13] at h
    refine lv_iload hC.1 hC.2.1 dX2_choose_13 (lv_at hl 3 rfl) ?_
    refine lv_iload_n hC.1 hC.2.1 dX2_choose_15 rfl (lv_at hl 2 rfl) ?_
    refine lv_icmp_ge (tgt := 89) hC.1 hC.2.1 dX2_choose_16 (by decide) (fun hc1 => ?_) (fun hc1 => ?_)
    · rw [if_pos hc1] at h
      refine gl_aload_n hC dX2_choose_89 rfl (lv_at hl 0 rfl) ?_
      cases h
      exact gret_a hC hr hlk hH hS (Nat.le_of_ble_eq_true rfl) (Nat.le_of_ble_eq_true rfl) dX2_choose_90
    · rw [if_neg hc1] at h
      refine lv_aload_n hC.1 hC.2.1 dX2_choose_19 rfl (lv_at hl 1 rfl) ?_
      refine lv_iload hC.1 hC.2.1 dX2_choose_20 (lv_at hl 3 rfl) ?_
      obtain ⟨hg2, h⟩ := gd_some h
      refine aa_13 hC hH hg2 rfl dX2_choose_22 ?_
      refine gl_astore (lv' := [(5, rfv (gA g) 14 x4), (1, rfv (gA g) 14 x1), (2, .ref (gA g 13 0)), (3, .int x3), (4, .int x4)]) hC dX2_choose_23 hl (by decide) rfl (fun ls hl => ?_)
      refine gl_aload hC dX2_choose_25 (lv_at hl 0 rfl) ?_
      obtain ⟨r3, D4, hF5, h⟩ := bd2_some h
      refine gcallV (As := []) (rest := []) (Cn := RX4) hC hE hml hH hS (c_X4_isFree hF5) ⟨wd_899, wd_900, wd_901, wd_7, wd_902⟩ hd_X4_isFree rfl rfl ⟨Nat.le_of_ble_eq_true rfl, Nat.le_of_ble_eq_true rfl⟩ (rfv_in hg2) (hw_recv (q := 14) (i := x4.toNatClampNeg) hC hH ⟨(inb_lt hg2), fun h => absurd h (by decide)⟩ rfl rfl) rfl hl.1 rfl (Nat.le_of_ble_eq_true rfl) dX2_choose_27 ⟨Nat.le_of_ble_eq_true rfl, Nat.le_of_ble_eq_true rfl⟩ (fun ed H locs hH hS => ?_)
      refine W.eq (g2 := F0 m 30 ls [.int r3]) rfl ?_
      refine lv_if_eq (tgt := 36) hC.1 hC.2.1 dX2_choose_30 (by decide) (fun hc6 => ?_) (fun hc6 => ?_)
      · rw [if_pos hc6] at h
        refine gl_aload hC dX2_choose_36 (lv_at hl 0 rfl) ?_
        refine gf_RX2_36 hC hH (inb_lt hg2) (rfv_in hg2) dX2_choose_38 ?_
        refine lv_if_ne (tgt := 56) hC.1 hC.2.1 dX2_choose_41 (by decide) (fun hc7 => ?_) (fun hc7 => ?_)
        · rw [if_neg hc7] at h
          exact B_X2_choose_56 hC hE hml hr hlk ih h hH hS (lv_sub hl [1, 2, 3, 4, 0] rfl)
        · rw [if_pos hc7] at h
          refine gl_aload hC dX2_choose_44 (lv_at hl 0 rfl) ?_
          refine gf_RX2_40 hC hH (inb_lt hg2) (rfv_in hg2) dX2_choose_46 ?_
          refine lv_if_ne (tgt := 56) hC.1 hC.2.1 dX2_choose_49 (by decide) (fun hc8 => ?_) (fun hc8 => ?_)
          · rw [if_neg hc8] at h
            exact B_X2_choose_56 hC hE hml hr hlk ih h hH hS (lv_sub hl [1, 2, 3, 4, 0] rfl)
          · rw [if_pos hc8] at h
            refine lv_iconst (v := (1 : Int32)) hC.1 hC.2.1 dX2_choose_52 (by decide) ?_
            refine lv_goto (tgt := 57) hC.1 hC.2.1 dX2_choose_53 (by decide) ?_
            exact B_X2_choose_57 hC hE hml hr hlk ih h hH hS (lv_sub hl [1, 2, 3, 4, 0] rfl)
      · rw [if_neg hc6] at h
        refine gl_aload hC dX2_choose_33 (lv_at hl 0 rfl) ?_
        cases h
        exact gret_a hC hr hlk hH hS (Nat.le_of_ble_eq_true rfl) (Nat.le_of_ble_eq_true rfl) dX2_choose_35
def F_X2_choose (n : Nat)  (C : St) : Option (Int32 × St) := F_X2_choose_13 n 1000 (-1) (nI n) (0 : Int32) C
set_option maxHeartbeats 4000000 in
set_option maxRecDepth 100000 in
theorem c_X2_choose {l : Launch} {g : GP} {ed : Nat → Nat} {Z : St}  {C : St} {r : Int32} {C2 : St} (h : F_X2_choose (gn g)  C = some (r, C2)) : Met l yX2_choose (Cond.code yX2_choose cX2_choose 7 (some (.object "DrumLayers$Frame")) :: lwG) ({ frames := 1, cells := 0, slots := 0, locals := 20 } : Room) (va_Pc [.ref (gA g 12 0)] (PW g C Z ed)) (QG (some (rfv (gA g) 14 r)) g C2 Z) 0 0 (gP g) := by
  refine Met.ofW (cc := cX2_choose) (maxL := 7) (ret := (some (.object "DrumLayers$Frame"))) (by decide +kernel) rfl ?_
  intro p e s m args below meth c s₁ B hml hv
  obtain ⟨ha, hC, hE, hr, hlk, hH⟩ := g_start B hv
  subst ha
  have hC : CX p s m ([.ref (gA g 12 0)] : List Value).toArray c cX2_choose RX2 g := hC
  have hS : va_S (gP g) s.heap s.heap [] := va_S.rf
  obtain ⟨ls, he, hl⟩ := g_entry m (vs := [.ref (gA g 12 0)]) (n := 7) (List.forall_mem_cons.mpr ⟨rfl, (fun _ h => absurd h List.not_mem_nil)⟩) (Nat.le_of_ble_eq_true rfl)
  rw [he]
  have hl : lv_has ls 7 [(0, .ref (gA g 12 0))] := hl
  unfold F_X2_choose at h
  refine lv_null hC.1 hC.2.1 dX2_choose_0 ?_
  refine lv_astore_nN (i := 1) (lv' := [(1, .null), (0, .ref (gA g 12 0))]) hC.1 hC.2.1 dX2_choose_1 rfl hl (by decide) rfl (fun ls hl => ?_)
  refine lv_aload_n hC.1 hC.2.1 dX2_choose_2 rfl (lv_at hl 1 rfl) ?_
  refine gf_RX2_17 hC hH rfl dX2_choose_3 ?_
  refine lv_astore_n (i := 2) (lv' := [(2, .ref (gA g 13 0)), (1, .null), (0, .ref (gA g 12 0))]) hC.1 hC.2.1 dX2_choose_6 rfl hl (by decide) rfl (fun ls hl => ?_)
  refine lv_aload_n hC.1 hC.2.1 dX2_choose_7 rfl (lv_at hl 0 rfl) ?_
  refine ln_13 hC hH rfl dX2_choose_8 ?_
  refine lv_istore_n (i := 3) (lv' := [(3, .int (nI (gn g))), (2, .ref (gA g 13 0)), (1, .null), (0, .ref (gA g 12 0))]) hC.1 hC.2.1 dX2_choose_9 rfl hl (by decide) rfl (fun ls hl => ?_)
  refine lv_iconst (v := (0 : Int32)) hC.1 hC.2.1 dX2_choose_10 (by decide) ?_
  refine lv_istore (lv' := [(4, .int (0 : Int32)), (3, .int (nI (gn g))), (2, .ref (gA g 13 0)), (1, .null), (0, .ref (gA g 12 0))]) hC.1 hC.2.1 dX2_choose_11 hl (by decide) rfl (fun ls hl => ?_)
  exact B_X2_choose_13 hC hE hml hr hlk 1000 _ _ _ _ h _ _ _ _ hH hS (lv_sub hl [3, 2, 1, 0] (by first | rfl | (simp only [rfv_m1]; rfl)))
def F_X2_vacateAll_37 (n : Nat) (k11 : Int32 → Int32 → Int32 → St → Option (Int32 × St)) (x1 : Int32) (x3 : Int32) (x4 : Int32) (C : St) : Option (Int32 × St) := k11 x1 x3 (x4 + 1) C
set_option maxHeartbeats 4000000 in
set_option maxRecDepth 100000 in
theorem B_X2_vacateAll_37 {p : Program} {l : Launch} {e : Env} {s : State} {m : MethodId} {args : Array Value} {below : List Frame} {meth : Method} {c : Code} {g : GP} {Z : St} (hC : CX p s m args c cX2_vacateAll RX2 g) (hE : EZ g s s.heap) (hml : c.maxLocals = 6) (hr : meth.sig.returnType = none) (hlk : meth.locks = false) {r : Int32} {C2 : St} {k11 : Int32 → Int32 → Int32 → St → Option (Int32 × St)} (hk11 : ∀ (x1 : Int32) (x3 : Int32) (x4 : Int32) (C : St), k11 x1 x3 x4 C = some (r, C2) → ∀ (ed : Nat → Nat) (H : Heap) (locs : List Loc) (ls : Array Slot), HW g ed C Z H → va_S (gP g) s.heap H locs → lv_has ls 6 [(1, rfv (gA g) 6 x1), (2, .ref (gA g 13 0)), (3, .int x3), (4, .int x4)] → W p l e ({ frames := 1, cells := 0, slots := 0, locals := 21 } : Room) s m args below meth c H locs 0 0 (MQ below (QG none g C2 Z) args s 0 0 (gP g)) (F0 m 11 ls [])) {x1 : Int32} {x3 : Int32} {x4 : Int32} {C : St} (h : F_X2_vacateAll_37 (gn g) k11 x1 x3 x4 C = some (r, C2)) {ed : Nat → Nat} {H : Heap} {locs : List Loc} {ls : Array Slot} (hH : HW g ed C Z H) (hS : va_S (gP g) s.heap H locs) (hl : lv_has ls 6 [(1, rfv (gA g) 6 x1), (2, .ref (gA g 13 0)), (3, .int x3), (4, .int x4)]) : W p l e ({ frames := 1, cells := 0, slots := 0, locals := 21 } : Room) s m args below meth c H locs 0 0 (MQ below (QG none g C2 Z) args s 0 0 (gP g)) (F0 m 37 ls []) := by
  unfold F_X2_vacateAll_37 at h
  refine lv_iinc (v := x4 + 1) (lv' := [(4, .int (x4 + 1)), (1, rfv (gA g) 6 x1), (2, .ref (gA g 13 0)), (3, .int x3)]) hC.1 hC.2.1 dX2_vacateAll_37 hl (k := 3) rfl rfl (by decide) rfl (fun ls hl => ?_)
  refine lv_goto (tgt := 11) hC.1 hC.2.1 dX2_vacateAll_40 (by decide) ?_
  exact hk11 _ _ _ _ h _ _ _ _ hH hS (lv_sub hl [1, 2, 3, 0] rfl)
def F_X2_vacateAll_11 (n : Nat)  : Nat → Int32 → Int32 → Int32 → St → Option (Int32 × St)
  | 0, _, _, _, _ => none
  | fu + 1, x1, x3, x4, C => if x3 ≤ x4 then (some (0, C)) else (gd (inb x4 n) (bd2 (F_X4_isOf n x4 x1 C) (fun r3 D4 => if r3 = 0 then (F_X2_vacateAll_37 n (F_X2_vacateAll_11 n fu) x1 x3 x4 D4) else (bd2 (F_X4_vacate n x4 D4) (fun r7 D8 => F_X2_vacateAll_37 n (F_X2_vacateAll_11 n fu) x1 x3 x4 D8)))))
set_option maxHeartbeats 4000000 in
set_option maxRecDepth 100000 in
theorem B_X2_vacateAll_11 {p : Program} {l : Launch} {e : Env} {s : State} {m : MethodId} {args : Array Value} {below : List Frame} {meth : Method} {c : Code} {g : GP} {Z : St} (hC : CX p s m args c cX2_vacateAll RX2 g) (hE : EZ g s s.heap) (hml : c.maxLocals = 6) (hr : meth.sig.returnType = none) (hlk : meth.locks = false) {r : Int32} {C2 : St} : ∀ (fu : Nat) (x1 : Int32) (x3 : Int32) (x4 : Int32) (C : St), F_X2_vacateAll_11 (gn g)  fu x1 x3 x4 C = some (r, C2) → ∀ (ed : Nat → Nat) (H : Heap) (locs : List Loc) (ls : Array Slot), HW g ed C Z H → va_S (gP g) s.heap H locs → lv_has ls 6 [(1, rfv (gA g) 6 x1), (2, .ref (gA g 13 0)), (3, .int x3), (4, .int x4)] → W p l e ({ frames := 1, cells := 0, slots := 0, locals := 21 } : Room) s m args below meth c H locs 0 0 (MQ below (QG none g C2 Z) args s 0 0 (gP g)) (F0 m 11 ls []) := by
  intro fu
  induction fu with
  | zero =>
    intro x1 x3 x4 C h
    cases h
  | succ fu ih =>
    intro x1 x3 x4 C h ed H locs ls hH hS hl
    rw [F_X2_vacateAll_11] at h
    refine lv_iload hC.1 hC.2.1 dX2_vacateAll_11 (lv_at hl 3 rfl) ?_
    refine lv_iload_n hC.1 hC.2.1 dX2_vacateAll_13 rfl (lv_at hl 2 rfl) ?_
    refine lv_icmp_ge (tgt := 43) hC.1 hC.2.1 dX2_vacateAll_14 (by decide) (fun hc1 => ?_) (fun hc1 => ?_)
    · rw [if_pos hc1] at h
      cases h
      exact gret_v hC hr hlk hH hS (Nat.le_of_ble_eq_true rfl) (Nat.le_of_ble_eq_true rfl) dX2_vacateAll_43
    · rw [if_neg hc1] at h
      refine lv_aload_n hC.1 hC.2.1 dX2_vacateAll_17 rfl (lv_at hl 1 rfl) ?_
      refine lv_iload hC.1 hC.2.1 dX2_vacateAll_18 (lv_at hl 3 rfl) ?_
      obtain ⟨hg2, h⟩ := gd_some h
      refine aa_13 hC hH hg2 rfl dX2_vacateAll_20 ?_
      refine gl_astore (lv' := [(5, rfv (gA g) 14 x4), (1, rfv (gA g) 6 x1), (2, .ref (gA g 13 0)), (3, .int x3), (4, .int x4)]) hC dX2_vacateAll_21 hl (by decide) rfl (fun ls hl => ?_)
      refine gl_aload hC dX2_vacateAll_23 (lv_at hl 0 rfl) ?_
      refine gl_aload_n hC dX2_vacateAll_25 rfl (lv_at hl 1 rfl) ?_
      obtain ⟨r3, D4, hF5, h⟩ := bd2_some h
      refine gcallV (As := [rfv (gA g) 6 x1]) (rest := []) (Cn := RX4) hC hE hml hH hS (c_X4_isOf hF5) ⟨wd_635, wd_636, wd_637, wd_7, wd_638⟩ hd_X4_isOf rfl rfl ⟨Nat.le_of_ble_eq_true rfl, Nat.le_of_ble_eq_true rfl⟩ (rfv_in hg2) (hw_recv (q := 14) (i := x4.toNatClampNeg) hC hH ⟨(inb_lt hg2), fun h => absurd h (by decide)⟩ rfl rfl) rfl hl.1 rfl (Nat.le_of_ble_eq_true rfl) dX2_vacateAll_26 ⟨Nat.le_of_ble_eq_true rfl, Nat.le_of_ble_eq_true rfl⟩ (fun ed H locs hH hS => ?_)
      refine W.eq (g2 := F0 m 29 ls [.int r3]) rfl ?_
      refine lv_if_eq (tgt := 37) hC.1 hC.2.1 dX2_vacateAll_29 (by decide) (fun hc6 => ?_) (fun hc6 => ?_)
      · rw [if_pos hc6] at h
        exact B_X2_vacateAll_37 hC hE hml hr hlk ih h hH hS (lv_sub hl [1, 2, 3, 4] rfl)
      · rw [if_neg hc6] at h
        refine gl_aload hC dX2_vacateAll_32 (lv_at hl 0 rfl) ?_
        obtain ⟨r7, D8, hF9, h⟩ := bd2_some h
        refine gcallV (As := []) (rest := []) (Cn := RX4) hC hE hml hH hS (c_X4_vacate hF9) ⟨wd_639, wd_640, wd_641, wd_7, wd_642⟩ hd_X4_vacate rfl rfl ⟨Nat.le_of_ble_eq_true rfl, Nat.le_of_ble_eq_true rfl⟩ (rfv_in hg2) (hw_recv (q := 14) (i := x4.toNatClampNeg) hC hH ⟨(inb_lt hg2), fun h => absurd h (by decide)⟩ rfl rfl) rfl hl.1 rfl (Nat.le_of_ble_eq_true rfl) dX2_vacateAll_34 ⟨Nat.le_of_ble_eq_true rfl, Nat.le_of_ble_eq_true rfl⟩ (fun ed H locs hH hS => ?_)
        refine W.eq (g2 := F0 m 37 ls []) rfl ?_
        exact B_X2_vacateAll_37 hC hE hml hr hlk ih h hH hS (lv_sub hl [1, 2, 3, 4] rfl)
def F_X2_vacateAll (n : Nat) (x1 : Int32) (C : St) : Option (Int32 × St) := F_X2_vacateAll_11 n 1000 x1 (nI n) (0 : Int32) C
set_option maxHeartbeats 4000000 in
set_option maxRecDepth 100000 in
theorem c_X2_vacateAll {l : Launch} {g : GP} {ed : Nat → Nat} {Z : St} {x1 : Int32} {C : St} {r : Int32} {C2 : St} (h : F_X2_vacateAll (gn g) x1 C = some (r, C2)) : Met l yX2_vacateAll (Cond.code yX2_vacateAll cX2_vacateAll 6 none :: lwG) ({ frames := 1, cells := 0, slots := 0, locals := 21 } : Room) (va_Pc [.ref (gA g 12 0), rfv (gA g) 6 x1] (PW g C Z ed)) (QG none g C2 Z) 0 0 (gP g) := by
  refine Met.ofW (cc := cX2_vacateAll) (maxL := 6) (ret := none) (by decide +kernel) rfl ?_
  intro p e s m args below meth c s₁ B hml hv
  obtain ⟨ha, hC, hE, hr, hlk, hH⟩ := g_start B hv
  subst ha
  have hC : CX p s m ([.ref (gA g 12 0), rfv (gA g) 6 x1] : List Value).toArray c cX2_vacateAll RX2 g := hC
  have hS : va_S (gP g) s.heap s.heap [] := va_S.rf
  obtain ⟨ls, he, hl⟩ := g_entry m (vs := [.ref (gA g 12 0), rfv (gA g) 6 x1]) (n := 6) (List.forall_mem_cons.mpr ⟨rfl, (List.forall_mem_cons.mpr ⟨rfv_cat, (fun _ h => absurd h List.not_mem_nil)⟩)⟩) (Nat.le_of_ble_eq_true rfl)
  rw [he]
  have hl : lv_has ls 6 [(0, .ref (gA g 12 0)), (1, rfv (gA g) 6 x1)] := hl
  unfold F_X2_vacateAll at h
  refine lv_aload_n hC.1 hC.2.1 dX2_vacateAll_0 rfl (lv_at hl 0 rfl) ?_
  refine gf_RX2_17 hC hH rfl dX2_vacateAll_1 ?_
  refine lv_astore_n (i := 2) (lv' := [(2, .ref (gA g 13 0)), (0, .ref (gA g 12 0)), (1, rfv (gA g) 6 x1)]) hC.1 hC.2.1 dX2_vacateAll_4 rfl hl (by decide) (by simp [rfv_cat]) (fun ls hl => ?_)
  refine lv_aload_n hC.1 hC.2.1 dX2_vacateAll_5 rfl (lv_at hl 0 rfl) ?_
  refine ln_13 hC hH rfl dX2_vacateAll_6 ?_
  refine lv_istore_n (i := 3) (lv' := [(3, .int (nI (gn g))), (2, .ref (gA g 13 0)), (0, .ref (gA g 12 0)), (1, rfv (gA g) 6 x1)]) hC.1 hC.2.1 dX2_vacateAll_7 rfl hl (by decide) rfl (fun ls hl => ?_)
  refine lv_iconst (v := (0 : Int32)) hC.1 hC.2.1 dX2_vacateAll_8 (by decide) ?_
  refine lv_istore (lv' := [(4, .int (0 : Int32)), (3, .int (nI (gn g))), (2, .ref (gA g 13 0)), (0, .ref (gA g 12 0)), (1, rfv (gA g) 6 x1)]) hC.1 hC.2.1 dX2_vacateAll_9 hl (by decide) rfl (fun ls hl => ?_)
  exact B_X2_vacateAll_11 hC hE hml hr hlk 1000 _ _ _ _ h _ _ _ _ hH hS (lv_sub hl [4, 2, 1, 0] rfl)
def F_X2_tell_13 (n : Nat)   (C : St) : Option (Int32 × St) := some ((-1 : Int32), C)
set_option maxHeartbeats 4000000 in
set_option maxRecDepth 100000 in
theorem B_X2_tell_13 {p : Program} {l : Launch} {e : Env} {s : State} {m : MethodId} {args : Array Value} {below : List Frame} {meth : Method} {c : Code} {g : GP} {Z : St} (hC : CX p s m args c cX2_tell RX2 g) (hE : EZ g s s.heap) (hml : c.maxLocals = 4) (hr : meth.sig.returnType = (some .int)) (hlk : meth.locks = false) {r : Int32} {C2 : St}  {C : St} (h : F_X2_tell_13 (gn g)   C = some (r, C2)) {ed : Nat → Nat} {H : Heap} {locs : List Loc} {ls : Array Slot} (hH : HW g ed C Z H) (hS : va_S (gP g) s.heap H locs) (hl : lv_has ls 4 []) : W p l e ({ frames := 2, cells := 0, slots := 0, locals := 41 } : Room) s m args below meth c H locs 0 0 (MQ below (QG (some (.int r)) g C2 Z) args s 0 0 (gP g)) (F0 m 13 ls []) := by
  unfold F_X2_tell_13 at h
  refine lv_iconst (v := (-1 : Int32)) hC.1 hC.2.1 dX2_tell_13 (by decide) ?_
  cases h
  exact gret_i hC hr hlk hH hS (Nat.le_of_ble_eq_true rfl) (Nat.le_of_ble_eq_true rfl) dX2_tell_14
def F_X2_tell_39 (n : Nat)  (t0 : Int32) (C : St) : Option (Int32 × St) := some (t0, C)
set_option maxHeartbeats 4000000 in
set_option maxRecDepth 100000 in
theorem B_X2_tell_39 {p : Program} {l : Launch} {e : Env} {s : State} {m : MethodId} {args : Array Value} {below : List Frame} {meth : Method} {c : Code} {g : GP} {Z : St} (hC : CX p s m args c cX2_tell RX2 g) (hE : EZ g s s.heap) (hml : c.maxLocals = 4) (hr : meth.sig.returnType = (some .int)) (hlk : meth.locks = false) {r : Int32} {C2 : St} {t0 : Int32} {C : St} (h : F_X2_tell_39 (gn g)  t0 C = some (r, C2)) {ed : Nat → Nat} {H : Heap} {locs : List Loc} {ls : Array Slot} (hH : HW g ed C Z H) (hS : va_S (gP g) s.heap H locs) (hl : lv_has ls 4 []) : W p l e ({ frames := 2, cells := 0, slots := 0, locals := 41 } : Room) s m args below meth c H locs 0 0 (MQ below (QG (some (.int r)) g C2 Z) args s 0 0 (gP g)) (F0 m 39 ls [.int t0]) := by
  unfold F_X2_tell_39 at h
  cases h
  exact gret_i hC hr hlk hH hS (Nat.le_of_ble_eq_true rfl) (Nat.le_of_ble_eq_true rfl) dX2_tell_39
def F_X2_tell_68 (n : Nat)  (t0 : Int32) (C : St) : Option (Int32 × St) := some (t0, C)
set_option maxHeartbeats 4000000 in
set_option maxRecDepth 100000 in
theorem B_X2_tell_68 {p : Program} {l : Launch} {e : Env} {s : State} {m : MethodId} {args : Array Value} {below : List Frame} {meth : Method} {c : Code} {g : GP} {Z : St} (hC : CX p s m args c cX2_tell RX2 g) (hE : EZ g s s.heap) (hml : c.maxLocals = 4) (hr : meth.sig.returnType = (some .int)) (hlk : meth.locks = false) {r : Int32} {C2 : St} {t0 : Int32} {C : St} (h : F_X2_tell_68 (gn g)  t0 C = some (r, C2)) {ed : Nat → Nat} {H : Heap} {locs : List Loc} {ls : Array Slot} (hH : HW g ed C Z H) (hS : va_S (gP g) s.heap H locs) (hl : lv_has ls 4 []) : W p l e ({ frames := 2, cells := 0, slots := 0, locals := 41 } : Room) s m args below meth c H locs 0 0 (MQ below (QG (some (.int r)) g C2 Z) args s 0 0 (gP g)) (F0 m 68 ls [.int t0]) := by
  unfold F_X2_tell_68 at h
  cases h
  exact gret_i hC hr hlk hH hS (Nat.le_of_ble_eq_true rfl) (Nat.le_of_ble_eq_true rfl) dX2_tell_68
def F_X2_tell (n : Nat) (x1 : Int32) (x2 : Int32) (C : St) : Option (Int32 × St) := if x1 < 0 then (F_X2_tell_13 n  C) else (if x1 < (nI n) then (gd (inb x1 n) (if (C 14 x1.toNatClampNeg 3 0) = 0 then (if (C 14 x1.toNatClampNeg 1 0) < 0 then (some ((-1 : Int32), C)) else (if x2 = 0 then (gd (inb (C 14 x1.toNatClampNeg 1 0) 6) (F_X2_tell_68 n (C 6 (C 14 x1.toNatClampNeg 1 0).toNatClampNeg 0 0) C)) else (bd2 (F_X4_tell n x1 x2 C) (fun r7 D8 => F_X2_tell_68 n r7 D8)))) else (if x2 = 0 then (F_X2_tell_39 n (-2 : Int32) C) else (F_X2_tell_39 n (-1 : Int32) C)))) else (F_X2_tell_13 n  C))
set_option maxHeartbeats 4000000 in
set_option maxRecDepth 100000 in
theorem c_X2_tell {l : Launch} {g : GP} {ed : Nat → Nat} {Z : St} {x1 : Int32} {x2 : Int32} {C : St} {r : Int32} {C2 : St} (h : F_X2_tell (gn g) x1 x2 C = some (r, C2)) : Met l yX2_tell (Cond.code yX2_tell cX2_tell 4 (some .int) :: lwG) ({ frames := 2, cells := 0, slots := 0, locals := 41 } : Room) (va_Pc [.ref (gA g 12 0), .int x1, .int x2] (PW g C Z ed)) (QG (some (.int r)) g C2 Z) 0 0 (gP g) := by
  refine Met.ofW (cc := cX2_tell) (maxL := 4) (ret := (some .int)) (by decide +kernel) rfl ?_
  intro p e s m args below meth c s₁ B hml hv
  obtain ⟨ha, hC, hE, hr, hlk, hH⟩ := g_start B hv
  subst ha
  have hC : CX p s m ([.ref (gA g 12 0), .int x1, .int x2] : List Value).toArray c cX2_tell RX2 g := hC
  have hS : va_S (gP g) s.heap s.heap [] := va_S.rf
  obtain ⟨ls, he, hl⟩ := g_entry m (vs := [.ref (gA g 12 0), .int x1, .int x2]) (n := 4) (List.forall_mem_cons.mpr ⟨rfl, (List.forall_mem_cons.mpr ⟨rfl, (List.forall_mem_cons.mpr ⟨rfl, (fun _ h => absurd h List.not_mem_nil)⟩)⟩)⟩) (Nat.le_of_ble_eq_true rfl)
  rw [he]
  have hl : lv_has ls 4 [(0, .ref (gA g 12 0)), (1, .int x1), (2, .int x2)] := hl
  unfold F_X2_tell at h
  refine lv_iload_n hC.1 hC.2.1 dX2_tell_0 rfl (lv_at hl 1 rfl) ?_
  refine lv_if_lt (tgt := 13) hC.1 hC.2.1 dX2_tell_1 (by decide) (fun hc1 => ?_) (fun hc1 => ?_)
  · rw [if_pos hc1] at h
    exact B_X2_tell_13 hC hE hml hr hlk h hH hS (lv_sub hl [] rfl)
  · rw [if_neg hc1] at h
    refine lv_iload_n hC.1 hC.2.1 dX2_tell_4 rfl (lv_at hl 1 rfl) ?_
    refine lv_aload_n hC.1 hC.2.1 dX2_tell_5 rfl (lv_at hl 0 rfl) ?_
    refine gf_RX2_17 hC hH rfl dX2_tell_6 ?_
    refine ln_13 hC hH rfl dX2_tell_9 ?_
    refine lv_icmp_lt (tgt := 15) hC.1 hC.2.1 dX2_tell_10 (by decide) (fun hc2 => ?_) (fun hc2 => ?_)
    · rw [if_pos hc2] at h
      refine lv_aload_n hC.1 hC.2.1 dX2_tell_15 rfl (lv_at hl 0 rfl) ?_
      refine gf_RX2_17 hC hH rfl dX2_tell_16 ?_
      refine lv_iload_n hC.1 hC.2.1 dX2_tell_19 rfl (lv_at hl 1 rfl) ?_
      obtain ⟨hg3, h⟩ := gd_some h
      refine aa_13 hC hH hg3 rfl dX2_tell_20 ?_
      refine gl_astore_n (j := 3) (lv' := [(3, rfv (gA g) 14 x1), (0, .ref (gA g 12 0)), (1, .int x1), (2, .int x2)]) hC dX2_tell_21 rfl hl (by decide) rfl (fun ls hl => ?_)
      refine gl_aload_n hC dX2_tell_22 rfl (lv_at hl 0 rfl) ?_
      refine gf_RX2_36 hC hH (inb_lt hg3) (rfv_in hg3) dX2_tell_23 ?_
      refine lv_if_eq (tgt := 40) hC.1 hC.2.1 dX2_tell_26 (by decide) (fun hc4 => ?_) (fun hc4 => ?_)
      · rw [if_pos hc4] at h
        refine gl_aload_n hC dX2_tell_40 rfl (lv_at hl 0 rfl) ?_
        refine gf_RX2_57 hC hH (inb_lt hg3) (rfv_in hg3) dX2_tell_41 ?_
        refine gl_ifnonnull (tgt := 49) hC dX2_tell_44 (by decide) (fun hc5 => ?_) (fun hc5 => ?_)
        · rw [if_neg hc5] at h
          refine lv_iload_n hC.1 hC.2.1 dX2_tell_49 rfl (lv_at hl 3 rfl) ?_
          refine lv_if_ne (tgt := 63) hC.1 hC.2.1 dX2_tell_50 (by decide) (fun hc6 => ?_) (fun hc6 => ?_)
          · rw [if_neg hc6] at h
            refine gl_aload_n hC dX2_tell_63 rfl (lv_at hl 0 rfl) ?_
            refine lv_iload_n hC.1 hC.2.1 dX2_tell_64 rfl (lv_at hl 3 rfl) ?_
            obtain ⟨r7, D8, hF9, h⟩ := bd2_some h
            refine gcallV (As := [.int x2]) (rest := []) (Cn := RX4) hC hE hml hH hS (c_X4_tell hF9) ⟨wd_1090, wd_1091, wd_1092, wd_7, wd_1093⟩ hd_X4_tell rfl rfl ⟨Nat.le_of_ble_eq_true rfl, Nat.le_of_ble_eq_true rfl⟩ (rfv_in hg3) (hw_recv (q := 14) (i := x1.toNatClampNeg) hC hH ⟨(inb_lt hg3), fun h => absurd h (by decide)⟩ rfl rfl) rfl hl.1 rfl (Nat.le_of_ble_eq_true rfl) dX2_tell_65 ⟨Nat.le_of_ble_eq_true rfl, Nat.le_of_ble_eq_true rfl⟩ (fun ed H locs hH hS => ?_)
            refine W.eq (g2 := F0 m 68 ls [.int r7]) rfl ?_
            exact B_X2_tell_68 hC hE hml hr hlk h hH hS (lv_sub hl [] rfl)
          · rw [if_pos hc6] at h
            refine gl_aload_n hC dX2_tell_53 rfl (lv_at hl 0 rfl) ?_
            refine gf_RX2_57 hC hH (inb_lt hg3) (rfv_in hg3) dX2_tell_54 ?_
            obtain ⟨hg10, h⟩ := gd_some h
            refine gf_RX2_61 hC hH (inb_lt hg10) (rfv_in hg10) dX2_tell_57 ?_
            refine lv_goto (tgt := 68) hC.1 hC.2.1 dX2_tell_60 (by decide) ?_
            exact B_X2_tell_68 hC hE hml hr hlk h hH hS (lv_sub hl [] rfl)
        · rw [if_pos hc5] at h
          refine lv_iconst (v := (-1 : Int32)) hC.1 hC.2.1 dX2_tell_47 (by decide) ?_
          cases h
          exact gret_i hC hr hlk hH hS (Nat.le_of_ble_eq_true rfl) (Nat.le_of_ble_eq_true rfl) dX2_tell_48
      · rw [if_neg hc4] at h
        refine lv_iload_n hC.1 hC.2.1 dX2_tell_29 rfl (lv_at hl 3 rfl) ?_
        refine lv_if_ne (tgt := 38) hC.1 hC.2.1 dX2_tell_30 (by decide) (fun hc11 => ?_) (fun hc11 => ?_)
        · rw [if_neg hc11] at h
          refine lv_iconst (v := (-1 : Int32)) hC.1 hC.2.1 dX2_tell_38 (by decide) ?_
          exact B_X2_tell_39 hC hE hml hr hlk h hH hS (lv_sub hl [] rfl)
        · rw [if_pos hc11] at h
          refine lv_bipush (v := (-2 : Int32)) hC.1 hC.2.1 dX2_tell_33 (by decide) ?_
          refine lv_goto (tgt := 39) hC.1 hC.2.1 dX2_tell_35 (by decide) ?_
          exact B_X2_tell_39 hC hE hml hr hlk h hH hS (lv_sub hl [] rfl)
    · rw [if_neg hc2] at h
      exact B_X2_tell_13 hC hE hml hr hlk h hH hS (lv_sub hl [] rfl)
