def F_X10_ask (n : Nat) (x1 : Int32) (x2 : Int32) (C : St) : Option (Int32 × St) := gd (inb x1 6) (st (up C 6 x1.toNatClampNeg 19 0 x2) (fun D2 => bd2 (F_Jx4a65c_add_9ea2d 0 x1 D2) (fun r4 D5 => bd2 (F_X7_suspend n (D5 6 x1.toNatClampNeg 0 0) (1 : Int32) D5) (fun r7 D8 => bd2 (F_X9_v n 0 D8) (fun r10 D11 => some (0, D11))))))
set_option maxHeartbeats 4000000 in
set_option maxRecDepth 100000 in
theorem c_X10_ask {l : Launch} {g : GP} {ed : Nat → Nat} {Z : St} {x1 : Int32} {x2 : Int32} {C : St} {r : Int32} {C2 : St} (h : F_X10_ask (gn g) x1 x2 C = some (r, C2)) : Met l yX10_ask (Cond.code yX10_ask cX10_ask 3 none :: lwG) ({ frames := 5, cells := 1, slots := 10, locals := 111 } : Room) (va_Pc [.ref (gA g 16 0), rfv (gA g) 6 x1, .int x2] (PW g C Z ed)) (QG none g C2 Z) 1 10 (gP g) := by
  refine Met.ofW (cc := cX10_ask) (maxL := 3) (ret := none) (by decide +kernel) rfl ?_
  intro p e s m args below meth c s₁ B hml hv
  obtain ⟨ha, hC, hE, hr, hlk, hH⟩ := g_start B hv
  subst ha
  have hC : CX p s m ([.ref (gA g 16 0), rfv (gA g) 6 x1, .int x2] : List Value).toArray c cX10_ask RX10 g := hC
  have hS : va_S (gP g) s.heap s.heap [] := va_S.rf
  obtain ⟨ls, he, hl⟩ := g_entry m (vs := [.ref (gA g 16 0), rfv (gA g) 6 x1, .int x2]) (n := 3) (List.forall_mem_cons.mpr ⟨rfl, (List.forall_mem_cons.mpr ⟨rfv_cat, (List.forall_mem_cons.mpr ⟨rfl, (fun _ h => absurd h List.not_mem_nil)⟩)⟩)⟩) (Nat.le_of_ble_eq_true rfl)
  rw [he]
  have hl : lv_has ls 3 [(0, .ref (gA g 16 0)), (1, rfv (gA g) 6 x1), (2, .int x2)] := hl
  unfold F_X10_ask at h
  refine gl_aload_n hC dX10_ask_0 rfl (lv_at hl 1 rfl) ?_
  refine lv_iload_n hC.1 hC.2.1 dX10_ask_1 rfl (lv_at hl 2 rfl) ?_
  obtain ⟨hg1, h⟩ := gd_some h
  obtain ⟨D2, e3, h⟩ := st_some h
  refine pf_RX10_48 hC hH hS (inb_lt hg1)  (rfv_in hg1) dX10_ask_2 (fun H locs hH hS => ?_)
  rw [← e3] at hH
  refine lv_aload_n hC.1 hC.2.1 dX10_ask_5 rfl (lv_at hl 0 rfl) ?_
  refine gf_RX10_12 hC hH rfl dX10_ask_6 ?_
  refine gl_aload_n hC dX10_ask_9 rfl (lv_at hl 1 rfl) ?_
  obtain ⟨r4, D5, hF6, h⟩ := bd2_some h
  refine gcallV (As := [rfv (gA g) 6 x1]) (rest := []) (Cn := RJx4a65c) hC hE hml hH hS (c_Jx4a65c_add_9ea2d (Nat.le_of_ble_eq_true rfl) hF6) ⟨wd_743, wd_744, wd_745, wd_11, wd_746⟩ hd_Jx4a65c_add_9ea2d rfl rfl ⟨Nat.le_of_ble_eq_true rfl, Nat.le_of_ble_eq_true rfl⟩ rfl (hw_recv (q := 17) (i := 0) hC hH ⟨(Nat.le_of_ble_eq_true rfl), fun h => absurd h (by decide)⟩ rfl rfl) rfl hl.1 rfl (Nat.le_of_ble_eq_true rfl) dX10_ask_10 ⟨Nat.le_of_ble_eq_true rfl, Nat.le_of_ble_eq_true rfl⟩ (fun ed H locs hH hS => ?_)
  refine W.eq (g2 := F0 m 13 ls [.int r4]) rfl ?_
  refine lv_pop hC.1 hC.2.1 dX10_ask_13 rfl ?_
  refine lv_aload_n hC.1 hC.2.1 dX10_ask_14 rfl (lv_at hl 0 rfl) ?_
  refine gf_RX10_25 hC hH rfl dX10_ask_15 ?_
  refine gl_aload_n hC dX10_ask_18 rfl (lv_at hl 1 rfl) ?_
  refine gf_RX10_56 hC hH (inb_lt hg1) (rfv_in hg1) dX10_ask_19 ?_
  refine lv_iconst (v := (1 : Int32)) hC.1 hC.2.1 dX10_ask_22 (by decide) ?_
  obtain ⟨r7, D8, hF9, h⟩ := bd2_some h
  refine gcallV (As := [.int (D5 6 x1.toNatClampNeg 0 0), .int (1 : Int32)]) (rest := []) (Cn := RX7) hC hE hml hH hS (c_X7_suspend hF9) ⟨wd_798, wd_303, wd_304, wd_2, wd_305⟩ hd_X7_suspend rfl rfl ⟨Nat.le_of_ble_eq_true rfl, Nat.le_of_ble_eq_true rfl⟩ rfl (hw_recv (q := 1) (i := 0) hC hH ⟨Nat.zero_lt_one, fun h => absurd h (by decide)⟩ rfl rfl) rfl hl.1 rfl (Nat.le_of_ble_eq_true rfl) dX10_ask_23 ⟨Nat.le_of_ble_eq_true rfl, Nat.le_of_ble_eq_true rfl⟩ (fun ed H locs hH hS => ?_)
  refine W.eq (g2 := F0 m 26 ls []) rfl ?_
  refine lv_aload_n hC.1 hC.2.1 dX10_ask_26 rfl (lv_at hl 0 rfl) ?_
  refine gf_RX10_38 hC hH rfl dX10_ask_27 ?_
  obtain ⟨r10, D11, hF12, h⟩ := bd2_some h
  refine gcallV (As := []) (rest := []) (Cn := RX9) hC hE hml hH hS (c_X9_v (Nat.le_of_ble_eq_true rfl) hF12) ⟨wd_799, wd_800, wd_801, wd_12, wd_802⟩ hd_X9_v rfl rfl ⟨Nat.le_of_ble_eq_true rfl, Nat.le_of_ble_eq_true rfl⟩ rfl (hw_recv (q := 5) (i := 0) hC hH ⟨(Nat.le_of_ble_eq_true rfl), fun h => absurd h (by decide)⟩ rfl rfl) rfl hl.1 rfl (Nat.le_of_ble_eq_true rfl) dX10_ask_30 ⟨Nat.le_of_ble_eq_true rfl, Nat.le_of_ble_eq_true rfl⟩ (fun ed H locs hH hS => ?_)
  refine W.eq (g2 := F0 m 33 ls []) rfl ?_
  cases h
  exact gret_v hC hr hlk hH hS (Nat.le_of_ble_eq_true rfl) (Nat.le_of_ble_eq_true rfl) dX10_ask_33
def F_X10_begin (n : Nat) (x1 : Int32) (C : St) : Option (Int32 × St) := st (up C 16 0 5 0 x1) (fun D1 => st (up D1 16 0 6 0 x1) (fun D3 => some (0, D3)))
set_option maxHeartbeats 4000000 in
set_option maxRecDepth 100000 in
theorem c_X10_begin {l : Launch} {g : GP} {ed : Nat → Nat} {Z : St} {x1 : Int32} {C : St} {r : Int32} {C2 : St} (h : F_X10_begin (gn g) x1 C = some (r, C2)) : Met l yX10_begin (Cond.code yX10_begin cX10_begin 2 none :: lwG) ({ frames := 0, cells := 0, slots := 0, locals := 0 } : Room) (va_Pc [.ref (gA g 16 0), .int x1] (PW g C Z ed)) (QG none g C2 Z) 0 0 (gP g) := by
  refine Met.ofW (cc := cX10_begin) (maxL := 2) (ret := none) (by decide +kernel) rfl ?_
  intro p e s m args below meth c s₁ B hml hv
  obtain ⟨ha, hC, hE, hr, hlk, hH⟩ := g_start B hv
  subst ha
  have hC : CX p s m ([.ref (gA g 16 0), .int x1] : List Value).toArray c cX10_begin RX10 g := hC
  have hS : va_S (gP g) s.heap s.heap [] := va_S.rf
  obtain ⟨ls, he, hl⟩ := g_entry m (vs := [.ref (gA g 16 0), .int x1]) (n := 2) (List.forall_mem_cons.mpr ⟨rfl, (List.forall_mem_cons.mpr ⟨rfl, (fun _ h => absurd h List.not_mem_nil)⟩)⟩) (Nat.le_of_ble_eq_true rfl)
  rw [he]
  have hl : lv_has ls 2 [(0, .ref (gA g 16 0)), (1, .int x1)] := hl
  unfold F_X10_begin at h
  refine lv_aload_n hC.1 hC.2.1 dX10_begin_0 rfl (lv_at hl 0 rfl) ?_
  refine lv_iload_n hC.1 hC.2.1 dX10_begin_1 rfl (lv_at hl 1 rfl) ?_
  obtain ⟨D1, e2, h⟩ := st_some h
  refine pf_RX10_18 hC hH hS  rfl dX10_begin_2 (fun H locs hH hS => ?_)
  rw [← e2] at hH
  refine lv_aload_n hC.1 hC.2.1 dX10_begin_5 rfl (lv_at hl 0 rfl) ?_
  refine lv_iload_n hC.1 hC.2.1 dX10_begin_6 rfl (lv_at hl 1 rfl) ?_
  obtain ⟨D3, e4, h⟩ := st_some h
  refine pf_RX10_22 hC hH hS  rfl dX10_begin_7 (fun H locs hH hS => ?_)
  rw [← e4] at hH
  cases h
  exact gret_v hC hr hlk hH hS (Nat.le_of_ble_eq_true rfl) (Nat.le_of_ble_eq_true rfl) dX10_begin_10
def F_X10_bring_68 (n : Nat)   (C : St) : Option (Int32 × St) := st (up C 16 0 7 0 (-1)) (fun D1 => st (up D1 16 0 8 0 (-1)) (fun D3 => some (0, D3)))
set_option maxHeartbeats 4000000 in
set_option maxRecDepth 100000 in
theorem B_X10_bring_68 {p : Program} {l : Launch} {e : Env} {s : State} {m : MethodId} {args : Array Value} {below : List Frame} {meth : Method} {c : Code} {g : GP} {Z : St} (hC : CX p s m args c cX10_bring RX10 g) (hE : EZ g s s.heap) (hml : c.maxLocals = 1) (hr : meth.sig.returnType = none) (hlk : meth.locks = false) {r : Int32} {C2 : St}  {C : St} (h : F_X10_bring_68 (gn g)   C = some (r, C2)) {ed : Nat → Nat} {H : Heap} {locs : List Loc} {ls : Array Slot} (hH : HW g ed C Z H) (hS : va_S (gP g) s.heap H locs) (hl : lv_has ls 1 [(0, .ref (gA g 16 0))]) : W p l e ({ frames := 2, cells := 0, slots := 0, locals := 43 } : Room) s m args below meth c H locs 0 0 (MQ below (QG none g C2 Z) args s 0 0 (gP g)) (F0 m 68 ls []) := by
  unfold F_X10_bring_68 at h
  refine lv_aload_n hC.1 hC.2.1 dX10_bring_68 rfl (lv_at hl 0 rfl) ?_
  refine lv_null hC.1 hC.2.1 dX10_bring_69 ?_
  obtain ⟨D1, e2, h⟩ := st_some h
  refine pf_RX10_96 hC hH hS  rfv_m1.symm rfl dX10_bring_70 (fun H locs hH hS => ?_)
  rw [← e2] at hH
  refine lv_aload_n hC.1 hC.2.1 dX10_bring_73 rfl (lv_at hl 0 rfl) ?_
  refine lv_null hC.1 hC.2.1 dX10_bring_74 ?_
  obtain ⟨D3, e4, h⟩ := st_some h
  refine pf_RX10_92 hC hH hS  rfv_m1.symm rfl dX10_bring_75 (fun H locs hH hS => ?_)
  rw [← e4] at hH
  cases h
  exact gret_v hC hr hlk hH hS (Nat.le_of_ble_eq_true rfl) (Nat.le_of_ble_eq_true rfl) dX10_bring_78
def F_X10_bring (n : Nat)  (C : St) : Option (Int32 × St) := st (up C 16 0 6 0 (0 : Int32)) (fun D1 => if (D1 16 0 7 0) < 0 then (F_X10_bring_68 n  D1) else (if (D1 16 0 8 0) < 0 then (F_X10_bring_68 n  D1) else (gd (inb (D1 16 0 8 0) 6) (gd (inb (D1 16 0 7 0) n) (bd2 (F_X4_occupy n (D1 16 0 7 0) (D1 16 0 8 0) (D1 6 (D1 16 0 8 0).toNatClampNeg 19 0) (D1 1 0 3 0) D1) (fun r6 D7 => st (up D7 16 0 12 0 ((D7 16 0 12 0) + (1 : Int32))) (fun D10 => gd (inb (D10 16 0 8 0) 6) (bd2 (F_X7_wake n (D10 6 (D10 16 0 8 0).toNatClampNeg 0 0) D10) (fun r13 D14 => F_X10_bring_68 n  D14)))))))))
set_option maxHeartbeats 4000000 in
set_option maxRecDepth 100000 in
theorem c_X10_bring {l : Launch} {g : GP} {ed : Nat → Nat} {Z : St}  {C : St} {r : Int32} {C2 : St} (h : F_X10_bring (gn g)  C = some (r, C2)) : Met l yX10_bring (Cond.code yX10_bring cX10_bring 1 none :: lwG) ({ frames := 2, cells := 0, slots := 0, locals := 43 } : Room) (va_Pc [.ref (gA g 16 0)] (PW g C Z ed)) (QG none g C2 Z) 0 0 (gP g) := by
  refine Met.ofW (cc := cX10_bring) (maxL := 1) (ret := none) (by decide +kernel) rfl ?_
  intro p e s m args below meth c s₁ B hml hv
  obtain ⟨ha, hC, hE, hr, hlk, hH⟩ := g_start B hv
  subst ha
  have hC : CX p s m ([.ref (gA g 16 0)] : List Value).toArray c cX10_bring RX10 g := hC
  have hS : va_S (gP g) s.heap s.heap [] := va_S.rf
  obtain ⟨ls, he, hl⟩ := g_entry m (vs := [.ref (gA g 16 0)]) (n := 1) (List.forall_mem_cons.mpr ⟨rfl, (fun _ h => absurd h List.not_mem_nil)⟩) (Nat.le_of_ble_eq_true rfl)
  rw [he]
  have hl : lv_has ls 1 [(0, .ref (gA g 16 0))] := hl
  unfold F_X10_bring at h
  refine lv_aload_n hC.1 hC.2.1 dX10_bring_0 rfl (lv_at hl 0 rfl) ?_
  refine lv_iconst (v := (0 : Int32)) hC.1 hC.2.1 dX10_bring_1 (by decide) ?_
  obtain ⟨D1, e2, h⟩ := st_some h
  refine pf_RX10_22 hC hH hS  rfl dX10_bring_2 (fun H locs hH hS => ?_)
  rw [← e2] at hH
  refine lv_aload_n hC.1 hC.2.1 dX10_bring_5 rfl (lv_at hl 0 rfl) ?_
  refine gf_RX10_96 hC hH rfl dX10_bring_6 ?_
  refine gl_ifnull (tgt := 68) hC dX10_bring_9 (by decide) (fun hc3 => ?_) (fun hc3 => ?_)
  · rw [if_pos hc3] at h
    exact B_X10_bring_68 hC hE hml hr hlk h hH hS (lv_sub hl [0] rfl)
  · rw [if_neg hc3] at h
    refine lv_aload_n hC.1 hC.2.1 dX10_bring_12 rfl (lv_at hl 0 rfl) ?_
    refine gf_RX10_92 hC hH rfl dX10_bring_13 ?_
    refine gl_ifnull (tgt := 68) hC dX10_bring_16 (by decide) (fun hc4 => ?_) (fun hc4 => ?_)
    · rw [if_pos hc4] at h
      exact B_X10_bring_68 hC hE hml hr hlk h hH hS (lv_sub hl [0] rfl)
    · rw [if_neg hc4] at h
      refine lv_aload_n hC.1 hC.2.1 dX10_bring_19 rfl (lv_at hl 0 rfl) ?_
      refine gf_RX10_96 hC hH rfl dX10_bring_20 ?_
      refine lv_aload_n hC.1 hC.2.1 dX10_bring_23 rfl (lv_at hl 0 rfl) ?_
      refine gf_RX10_92 hC hH rfl dX10_bring_24 ?_
      refine lv_aload_n hC.1 hC.2.1 dX10_bring_27 rfl (lv_at hl 0 rfl) ?_
      refine gf_RX10_92 hC hH rfl dX10_bring_28 ?_
      obtain ⟨hg5, h⟩ := gd_some h
      refine gf_RX10_48 hC hH (inb_lt hg5) (rfv_in hg5) dX10_bring_31 ?_
      refine lv_aload_n hC.1 hC.2.1 dX10_bring_34 rfl (lv_at hl 0 rfl) ?_
      refine gf_RX10_25 hC hH rfl dX10_bring_35 ?_
      refine gf_RX10_130 hC hH rfl dX10_bring_38 ?_
      obtain ⟨hg9, h⟩ := gd_some h
      obtain ⟨r6, D7, hF8, h⟩ := bd2_some h
      refine gcallV (As := [rfv (gA g) 6 (D1 16 0 8 0), .int (D1 6 (D1 16 0 8 0).toNatClampNeg 19 0), .int (D1 1 0 3 0)]) (rest := []) (Cn := RX4) hC hE hml hH hS (c_X4_occupy hF8) ⟨wd_886, wd_887, wd_888, wd_7, wd_889⟩ hd_X4_occupy rfl rfl ⟨Nat.le_of_ble_eq_true rfl, Nat.le_of_ble_eq_true rfl⟩ (rfv_in hg9) (hw_recv (q := 14) (i := (D1 16 0 7 0).toNatClampNeg) hC hH ⟨(inb_lt hg9), fun h => absurd h (by decide)⟩ rfl rfl) rfl hl.1 rfl (Nat.le_of_ble_eq_true rfl) dX10_bring_41 ⟨Nat.le_of_ble_eq_true rfl, Nat.le_of_ble_eq_true rfl⟩ (fun ed H locs hH hS => ?_)
      refine W.eq (g2 := F0 m 44 ls []) rfl ?_
      refine lv_aload_n hC.1 hC.2.1 dX10_bring_44 rfl (lv_at hl 0 rfl) ?_
      refine lv_dup hC.1 hC.2.1 dX10_bring_45 rfl ?_
      refine gf_RX10_137 hC hH rfl dX10_bring_46 ?_
      refine lv_iconst (v := (1 : Int32)) hC.1 hC.2.1 dX10_bring_49 (by decide) ?_
      refine lv_iadd hC.1 hC.2.1 dX10_bring_50 ?_
      obtain ⟨D10, e11, h⟩ := st_some h
      refine pf_RX10_137 hC hH hS  rfl dX10_bring_51 (fun H locs hH hS => ?_)
      rw [← e11] at hH
      refine lv_aload_n hC.1 hC.2.1 dX10_bring_54 rfl (lv_at hl 0 rfl) ?_
      refine gf_RX10_25 hC hH rfl dX10_bring_55 ?_
      refine lv_aload_n hC.1 hC.2.1 dX10_bring_58 rfl (lv_at hl 0 rfl) ?_
      refine gf_RX10_92 hC hH rfl dX10_bring_59 ?_
      obtain ⟨hg12, h⟩ := gd_some h
      refine gf_RX10_56 hC hH (inb_lt hg12) (rfv_in hg12) dX10_bring_62 ?_
      obtain ⟨r13, D14, hF15, h⟩ := bd2_some h
      refine gcallV (As := [.int (D10 6 (D10 16 0 8 0).toNatClampNeg 0 0)]) (rest := []) (Cn := RX7) hC hE hml hH hS (c_X7_wake hF15) ⟨wd_890, wd_723, wd_724, wd_2, wd_725⟩ hd_X7_wake rfl rfl ⟨Nat.le_of_ble_eq_true rfl, Nat.le_of_ble_eq_true rfl⟩ rfl (hw_recv (q := 1) (i := 0) hC hH ⟨Nat.zero_lt_one, fun h => absurd h (by decide)⟩ rfl rfl) rfl hl.1 rfl (Nat.le_of_ble_eq_true rfl) dX10_bring_65 ⟨Nat.le_of_ble_eq_true rfl, Nat.le_of_ble_eq_true rfl⟩ (fun ed H locs hH hS => ?_)
      refine W.eq (g2 := F0 m 68 ls []) rfl ?_
      exact B_X10_bring_68 hC hE hml hr hlk h hH hS (lv_sub hl [0] rfl)
def F_X10_takeFirst_22 (n : Nat)   (C : St) : Option (Int32 × St) := some (0, C)
set_option maxHeartbeats 4000000 in
set_option maxRecDepth 100000 in
theorem B_X10_takeFirst_22 {p : Program} {l : Launch} {e : Env} {s : State} {m : MethodId} {args : Array Value} {below : List Frame} {meth : Method} {c : Code} {g : GP} {Z : St} (hC : CX p s m args c cX10_takeFirst RX10 g) (hE : EZ g s s.heap) (hml : c.maxLocals = 4) (hr : meth.sig.returnType = none) (hlk : meth.locks = false) {r : Int32} {C2 : St}  {C : St} (h : F_X10_takeFirst_22 (gn g)   C = some (r, C2)) {ed : Nat → Nat} {H : Heap} {locs : List Loc} {ls : Array Slot} (hH : HW g ed C Z H) (hS : va_S (gP g) s.heap H locs) (hl : lv_has ls 4 []) : W p l e ({ frames := 3, cells := 0, slots := 0, locals := 106 } : Room) s m args below meth c H locs 0 0 (MQ below (QG none g C2 Z) args s 0 0 (gP g)) (F0 m 22 ls []) := by
  unfold F_X10_takeFirst_22 at h
  cases h
  exact gret_v hC hr hlk hH hS (Nat.le_of_ble_eq_true rfl) (Nat.le_of_ble_eq_true rfl) dX10_takeFirst_22
def F_X10_takeFirst_109 (n : Nat)  (t0 : Int32) (C : St) : Option (Int32 × St) := bd2 (F_X10_begin n t0 C) (fun r1 D2 => some (0, D2))
set_option maxHeartbeats 4000000 in
set_option maxRecDepth 100000 in
theorem B_X10_takeFirst_109 {p : Program} {l : Launch} {e : Env} {s : State} {m : MethodId} {args : Array Value} {below : List Frame} {meth : Method} {c : Code} {g : GP} {Z : St} (hC : CX p s m args c cX10_takeFirst RX10 g) (hE : EZ g s s.heap) (hml : c.maxLocals = 4) (hr : meth.sig.returnType = none) (hlk : meth.locks = false) {r : Int32} {C2 : St} {t0 : Int32} {C : St} (h : F_X10_takeFirst_109 (gn g)  t0 C = some (r, C2)) {ed : Nat → Nat} {H : Heap} {locs : List Loc} {ls : Array Slot} (hH : HW g ed C Z H) (hS : va_S (gP g) s.heap H locs) (hl : lv_has ls 4 []) : W p l e ({ frames := 3, cells := 0, slots := 0, locals := 106 } : Room) s m args below meth c H locs 0 0 (MQ below (QG none g C2 Z) args s 0 0 (gP g)) (F0 m 109 ls [.int t0, .ref (gA g 16 0)]) := by
  unfold F_X10_takeFirst_109 at h
  obtain ⟨r1, D2, hF3, h⟩ := bd2_some h
  refine gcallV (As := [.int t0]) (rest := []) (Cn := RX10) hC hE hml hH hS (c_X10_begin hF3) ⟨wd_878, wd_880, wp_18, wd_8, wd_881⟩ hd_X10_begin rfl rfl ⟨Nat.le_of_ble_eq_true rfl, Nat.le_of_ble_eq_true rfl⟩ rfl (hw_recv (q := 16) (i := 0) hC hH ⟨Nat.zero_lt_one, fun h => absurd h (by decide)⟩ rfl rfl) rfl hl.1 rfl (Nat.le_of_ble_eq_true rfl) dX10_takeFirst_109 ⟨Nat.le_of_ble_eq_true rfl, Nat.le_of_ble_eq_true rfl⟩ (fun ed H locs hH hS => ?_)
  refine W.eq (g2 := F0 m 112 ls []) rfl ?_
  cases h
  exact gret_v hC hr hlk hH hS (Nat.le_of_ble_eq_true rfl) (Nat.le_of_ble_eq_true rfl) dX10_takeFirst_112
def F_X10_takeFirst_90 (n : Nat)  (x1 : Int32) (x3 : Int32) (C : St) : Option (Int32 × St) := gd (inb x1 n) (bd2 (F_X4_vacate n x1 C) (fun r1 D2 => st (up D2 14 x1.toNatClampNeg 3 0 (1 : Int32)) (fun D5 => if x3 = 0 then (F_X10_takeFirst_109 n (2 : Int32) D5) else (F_X10_takeFirst_109 n (1 : Int32) D5))))
set_option maxHeartbeats 4000000 in
set_option maxRecDepth 100000 in
theorem B_X10_takeFirst_90 {p : Program} {l : Launch} {e : Env} {s : State} {m : MethodId} {args : Array Value} {below : List Frame} {meth : Method} {c : Code} {g : GP} {Z : St} (hC : CX p s m args c cX10_takeFirst RX10 g) (hE : EZ g s s.heap) (hml : c.maxLocals = 4) (hr : meth.sig.returnType = none) (hlk : meth.locks = false) {r : Int32} {C2 : St} {x1 : Int32} {x3 : Int32} {C : St} (h : F_X10_takeFirst_90 (gn g)  x1 x3 C = some (r, C2)) {ed : Nat → Nat} {H : Heap} {locs : List Loc} {ls : Array Slot} (hH : HW g ed C Z H) (hS : va_S (gP g) s.heap H locs) (hl : lv_has ls 4 [(0, .ref (gA g 16 0)), (1, rfv (gA g) 14 x1), (3, .int x3)]) : W p l e ({ frames := 3, cells := 0, slots := 0, locals := 106 } : Room) s m args below meth c H locs 0 0 (MQ below (QG none g C2 Z) args s 0 0 (gP g)) (F0 m 90 ls []) := by
  unfold F_X10_takeFirst_90 at h
  refine gl_aload_n hC dX10_takeFirst_90 rfl (lv_at hl 1 rfl) ?_
  obtain ⟨hg4, h⟩ := gd_some h
  obtain ⟨r1, D2, hF3, h⟩ := bd2_some h
  refine gcallV (As := []) (rest := []) (Cn := RX4) hC hE hml hH hS (c_X4_vacate hF3) ⟨wd_909, wd_640, wd_641, wd_7, wd_642⟩ hd_X4_vacate rfl rfl ⟨Nat.le_of_ble_eq_true rfl, Nat.le_of_ble_eq_true rfl⟩ (rfv_in hg4) (hw_recv (q := 14) (i := x1.toNatClampNeg) hC hH ⟨(inb_lt hg4), fun h => absurd h (by decide)⟩ rfl rfl) rfl hl.1 rfl (Nat.le_of_ble_eq_true rfl) dX10_takeFirst_91 ⟨Nat.le_of_ble_eq_true rfl, Nat.le_of_ble_eq_true rfl⟩ (fun ed H locs hH hS => ?_)
  refine W.eq (g2 := F0 m 94 ls []) rfl ?_
  refine gl_aload_n hC dX10_takeFirst_94 rfl (lv_at hl 1 rfl) ?_
  refine lv_iconst (v := (1 : Int32)) hC.1 hC.2.1 dX10_takeFirst_95 (by decide) ?_
  obtain ⟨D5, e6, h⟩ := st_some h
  refine pf_RX10_127 hC hH hS (inb_lt hg4) (by decide) (rfv_in hg4) dX10_takeFirst_96 (fun H locs hH hS => ?_)
  rw [← e6] at hH
  refine lv_aload_n hC.1 hC.2.1 dX10_takeFirst_99 rfl (lv_at hl 0 rfl) ?_
  refine lv_iload_n hC.1 hC.2.1 dX10_takeFirst_100 rfl (lv_at hl 2 rfl) ?_
  refine lv_if_eq (tgt := 108) hC.1 hC.2.1 dX10_takeFirst_101 (by decide) (fun hc7 => ?_) (fun hc7 => ?_)
  · rw [if_pos hc7] at h
    refine lv_iconst (v := (2 : Int32)) hC.1 hC.2.1 dX10_takeFirst_108 (by decide) ?_
    exact B_X10_takeFirst_109 hC hE hml hr hlk h hH hS (lv_sub hl [] rfl)
  · rw [if_neg hc7] at h
    refine lv_iconst (v := (1 : Int32)) hC.1 hC.2.1 dX10_takeFirst_104 (by decide) ?_
    refine lv_goto (tgt := 109) hC.1 hC.2.1 dX10_takeFirst_105 (by decide) ?_
    exact B_X10_takeFirst_109 hC hE hml hr hlk h hH hS (lv_sub hl [] rfl)
def F_X10_takeFirst_64 (n : Nat)  (x1 : Int32) (x2 : Int32) (t0 : Int32) (C : St) : Option (Int32 × St) := if t0 = 0 then (F_X10_takeFirst_90 n x1 t0 C) else (st (up C 16 0 9 0 x2) (fun D2 => gd (inb x2 6) (st (up D2 16 0 10 0 (D2 6 x2.toNatClampNeg 6 0)) (fun D5 => gd (inb x1 n) (st (up D5 16 0 11 0 (D5 14 x1.toNatClampNeg 2 0)) (fun D8 => F_X10_takeFirst_90 n x1 t0 D8))))))
set_option maxHeartbeats 4000000 in
set_option maxRecDepth 100000 in
theorem B_X10_takeFirst_64 {p : Program} {l : Launch} {e : Env} {s : State} {m : MethodId} {args : Array Value} {below : List Frame} {meth : Method} {c : Code} {g : GP} {Z : St} (hC : CX p s m args c cX10_takeFirst RX10 g) (hE : EZ g s s.heap) (hml : c.maxLocals = 4) (hr : meth.sig.returnType = none) (hlk : meth.locks = false) {r : Int32} {C2 : St} {x1 : Int32} {x2 : Int32} {t0 : Int32} {C : St} (h : F_X10_takeFirst_64 (gn g)  x1 x2 t0 C = some (r, C2)) {ed : Nat → Nat} {H : Heap} {locs : List Loc} {ls : Array Slot} (hH : HW g ed C Z H) (hS : va_S (gP g) s.heap H locs) (hl : lv_has ls 4 [(0, .ref (gA g 16 0)), (1, rfv (gA g) 14 x1), (2, rfv (gA g) 6 x2)]) : W p l e ({ frames := 3, cells := 0, slots := 0, locals := 106 } : Room) s m args below meth c H locs 0 0 (MQ below (QG none g C2 Z) args s 0 0 (gP g)) (F0 m 64 ls [.int t0]) := by
  unfold F_X10_takeFirst_64 at h
  refine lv_istore_n (i := 3) (lv' := [(3, .int t0), (0, .ref (gA g 16 0)), (1, rfv (gA g) 14 x1), (2, rfv (gA g) 6 x2)]) hC.1 hC.2.1 dX10_takeFirst_64 rfl hl (by decide) (by simp [rfv_cat]) (fun ls hl => ?_)
  refine lv_iload_n hC.1 hC.2.1 dX10_takeFirst_65 rfl (lv_at hl 0 rfl) ?_
  refine lv_if_eq (tgt := 90) hC.1 hC.2.1 dX10_takeFirst_66 (by decide) (fun hc1 => ?_) (fun hc1 => ?_)
  · rw [if_pos hc1] at h
    exact B_X10_takeFirst_90 hC hE hml hr hlk h hH hS (lv_sub hl [1, 2, 0] rfl)
  · rw [if_neg hc1] at h
    refine lv_aload_n hC.1 hC.2.1 dX10_takeFirst_69 rfl (lv_at hl 1 rfl) ?_
    refine gl_aload_n hC dX10_takeFirst_70 rfl (lv_at hl 3 rfl) ?_
    obtain ⟨D2, e3, h⟩ := st_some h
    refine pf_RX10_109 hC hH hS  rfl rfl dX10_takeFirst_71 (fun H locs hH hS => ?_)
    rw [← e3] at hH
    refine lv_aload_n hC.1 hC.2.1 dX10_takeFirst_74 rfl (lv_at hl 1 rfl) ?_
    refine gl_aload_n hC dX10_takeFirst_75 rfl (lv_at hl 3 rfl) ?_
    obtain ⟨hg4, h⟩ := gd_some h
    refine gf_RX10_112 hC hH (inb_lt hg4) (rfv_in hg4) dX10_takeFirst_76 ?_
    obtain ⟨D5, e6, h⟩ := st_some h
    refine pf_RX10_115 hC hH hS  rfl dX10_takeFirst_79 (fun H locs hH hS => ?_)
    rw [← e6] at hH
    refine lv_aload_n hC.1 hC.2.1 dX10_takeFirst_82 rfl (lv_at hl 1 rfl) ?_
    refine gl_aload_n hC dX10_takeFirst_83 rfl (lv_at hl 2 rfl) ?_
    obtain ⟨hg7, h⟩ := gd_some h
    refine gf_RX10_118 hC hH (inb_lt hg7) (rfv_in hg7) dX10_takeFirst_84 ?_
    obtain ⟨D8, e9, h⟩ := st_some h
    refine pf_RX10_121 hC hH hS  rfl dX10_takeFirst_87 (fun H locs hH hS => ?_)
    rw [← e9] at hH
    exact B_X10_takeFirst_90 hC hE hml hr hlk h hH hS (lv_sub hl [1, 2, 0] rfl)
def F_X10_takeFirst_63 (n : Nat)  (x1 : Int32) (x2 : Int32) (C : St) : Option (Int32 × St) := F_X10_takeFirst_64 n x1 x2 (0 : Int32) C
set_option maxHeartbeats 4000000 in
set_option maxRecDepth 100000 in
theorem B_X10_takeFirst_63 {p : Program} {l : Launch} {e : Env} {s : State} {m : MethodId} {args : Array Value} {below : List Frame} {meth : Method} {c : Code} {g : GP} {Z : St} (hC : CX p s m args c cX10_takeFirst RX10 g) (hE : EZ g s s.heap) (hml : c.maxLocals = 4) (hr : meth.sig.returnType = none) (hlk : meth.locks = false) {r : Int32} {C2 : St} {x1 : Int32} {x2 : Int32} {C : St} (h : F_X10_takeFirst_63 (gn g)  x1 x2 C = some (r, C2)) {ed : Nat → Nat} {H : Heap} {locs : List Loc} {ls : Array Slot} (hH : HW g ed C Z H) (hS : va_S (gP g) s.heap H locs) (hl : lv_has ls 4 [(0, .ref (gA g 16 0)), (1, rfv (gA g) 14 x1), (2, rfv (gA g) 6 x2)]) : W p l e ({ frames := 3, cells := 0, slots := 0, locals := 106 } : Room) s m args below meth c H locs 0 0 (MQ below (QG none g C2 Z) args s 0 0 (gP g)) (F0 m 63 ls []) := by
  unfold F_X10_takeFirst_63 at h
  refine lv_iconst (v := (0 : Int32)) hC.1 hC.2.1 dX10_takeFirst_63 (by decide) ?_
  exact B_X10_takeFirst_64 hC hE hml hr hlk h hH hS (lv_sub hl [0, 1, 2] rfl)
def F_X10_takeFirst (n : Nat)  (C : St) : Option (Int32 × St) := bd2 (F_X2_choose n  C) (fun r1 D2 => bd2 (F_Jx4a65c_isEmpty_aae02 0 D2) (fun r4 D5 => if r4 = 0 then (if r1 < 0 then (F_X10_takeFirst_22 n  D5) else (bd2 (F_Jx4a65c_remove_915e3 0 (0 : Int32) D5) (fun r9 D10 => gd (okr r9 6) (st (up D10 16 0 8 0 r9) (fun D13 => st (up D13 16 0 7 0 r1) (fun D15 => gd (inb r1 n) (if (D15 14 r1.toNatClampNeg 1 0) < 0 then (F_X10_takeFirst_63 n r1 (D15 14 r1.toNatClampNeg 1 0) D15) else (if (D15 14 r1.toNatClampNeg 4 0) = 0 then (F_X10_takeFirst_63 n r1 (D15 14 r1.toNatClampNeg 1 0) D15) else (F_X10_takeFirst_64 n r1 (D15 14 r1.toNatClampNeg 1 0) (1 : Int32) D15))))))))) else (F_X10_takeFirst_22 n  D5)))
set_option maxHeartbeats 4000000 in
set_option maxRecDepth 100000 in
theorem c_X10_takeFirst {l : Launch} {g : GP} {ed : Nat → Nat} {Z : St}  {C : St} {r : Int32} {C2 : St} (h : F_X10_takeFirst (gn g)  C = some (r, C2)) : Met l yX10_takeFirst (Cond.code yX10_takeFirst cX10_takeFirst 4 none :: lwG) ({ frames := 3, cells := 0, slots := 0, locals := 106 } : Room) (va_Pc [.ref (gA g 16 0)] (PW g C Z ed)) (QG none g C2 Z) 0 0 (gP g) := by
  refine Met.ofW (cc := cX10_takeFirst) (maxL := 4) (ret := none) (by decide +kernel) rfl ?_
  intro p e s m args below meth c s₁ B hml hv
  obtain ⟨ha, hC, hE, hr, hlk, hH⟩ := g_start B hv
  subst ha
  have hC : CX p s m ([.ref (gA g 16 0)] : List Value).toArray c cX10_takeFirst RX10 g := hC
  have hS : va_S (gP g) s.heap s.heap [] := va_S.rf
  obtain ⟨ls, he, hl⟩ := g_entry m (vs := [.ref (gA g 16 0)]) (n := 4) (List.forall_mem_cons.mpr ⟨rfl, (fun _ h => absurd h List.not_mem_nil)⟩) (Nat.le_of_ble_eq_true rfl)
  rw [he]
  have hl : lv_has ls 4 [(0, .ref (gA g 16 0))] := hl
  unfold F_X10_takeFirst at h
  refine lv_aload_n hC.1 hC.2.1 dX10_takeFirst_0 rfl (lv_at hl 0 rfl) ?_
  refine gf_RX10_29 hC hH rfl dX10_takeFirst_1 ?_
  obtain ⟨r1, D2, hF3, h⟩ := bd2_some h
  refine gcallV (As := []) (rest := []) (Cn := RX2) hC hE hml hH hS (c_X2_choose hF3) ⟨wd_895, wd_896, wd_897, wd_6, wd_898⟩ hd_X2_choose rfl rfl ⟨Nat.le_of_ble_eq_true rfl, Nat.le_of_ble_eq_true rfl⟩ rfl (hw_recv (q := 12) (i := 0) hC hH ⟨Nat.zero_lt_one, fun h => absurd h (by decide)⟩ rfl rfl) rfl hl.1 rfl (Nat.le_of_ble_eq_true rfl) dX10_takeFirst_4 ⟨Nat.le_of_ble_eq_true rfl, Nat.le_of_ble_eq_true rfl⟩ (fun ed H locs hH hS => ?_)
  refine W.eq (g2 := F0 m 7 ls [rfv (gA g) 14 r1]) rfl ?_
  refine gl_astore_n (j := 1) (lv' := [(1, rfv (gA g) 14 r1), (0, .ref (gA g 16 0))]) hC dX10_takeFirst_7 rfl hl (by decide) rfl (fun ls hl => ?_)
  refine lv_aload_n hC.1 hC.2.1 dX10_takeFirst_8 rfl (lv_at hl 1 rfl) ?_
  refine gf_RX10_12 hC hH rfl dX10_takeFirst_9 ?_
  obtain ⟨r4, D5, hF6, h⟩ := bd2_some h
  refine gcallV (As := []) (rest := []) (Cn := RJx4a65c) hC hE hml hH hS (c_Jx4a65c_isEmpty_aae02 (Nat.le_of_ble_eq_true rfl) hF6) ⟨wd_903, wd_904, wd_905, wd_11, wd_906⟩ hd_Jx4a65c_isEmpty_aae02 rfl rfl ⟨Nat.le_of_ble_eq_true rfl, Nat.le_of_ble_eq_true rfl⟩ rfl (hw_recv (q := 17) (i := 0) hC hH ⟨(Nat.le_of_ble_eq_true rfl), fun h => absurd h (by decide)⟩ rfl rfl) rfl hl.1 rfl (Nat.le_of_ble_eq_true rfl) dX10_takeFirst_12 ⟨Nat.le_of_ble_eq_true rfl, Nat.le_of_ble_eq_true rfl⟩ (fun ed H locs hH hS => ?_)
  refine W.eq (g2 := F0 m 15 ls [.int r4]) rfl ?_
  refine lv_if_ne (tgt := 22) hC.1 hC.2.1 dX10_takeFirst_15 (by decide) (fun hc7 => ?_) (fun hc7 => ?_)
  · rw [if_neg hc7] at h
    exact B_X10_takeFirst_22 hC hE hml hr hlk h hH hS (lv_sub hl [] rfl)
  · rw [if_pos hc7] at h
    refine gl_aload_n hC dX10_takeFirst_18 rfl (lv_at hl 0 rfl) ?_
    refine gl_ifnonnull (tgt := 23) hC dX10_takeFirst_19 (by decide) (fun hc8 => ?_) (fun hc8 => ?_)
    · rw [if_neg hc8] at h
      refine lv_aload_n hC.1 hC.2.1 dX10_takeFirst_23 rfl (lv_at hl 1 rfl) ?_
      refine lv_aload_n hC.1 hC.2.1 dX10_takeFirst_24 rfl (lv_at hl 1 rfl) ?_
      refine gf_RX10_12 hC hH rfl dX10_takeFirst_25 ?_
      refine lv_iconst (v := (0 : Int32)) hC.1 hC.2.1 dX10_takeFirst_28 (by decide) ?_
      obtain ⟨r9, D10, hF11, h⟩ := bd2_some h
      refine gcallV (As := [.int (0 : Int32)]) (rest := [.ref (gA g 16 0)]) (Cn := RJx4a65c) hC hE hml hH hS (c_Jx4a65c_remove_915e3 (Nat.le_of_ble_eq_true rfl) hF11) ⟨wd_907, wd_708, wd_709, wd_11, wd_710⟩ hd_Jx4a65c_remove_915e3 rfl rfl ⟨Nat.le_of_ble_eq_true rfl, Nat.le_of_ble_eq_true rfl⟩ rfl (hw_recv (q := 17) (i := 0) hC hH ⟨(Nat.le_of_ble_eq_true rfl), fun h => absurd h (by decide)⟩ rfl rfl) rfl hl.1 rfl (Nat.le_of_ble_eq_true rfl) dX10_takeFirst_29 ⟨Nat.le_of_ble_eq_true rfl, Nat.le_of_ble_eq_true rfl⟩ (fun ed H locs hH hS => ?_)
      refine W.eq (g2 := F0 m 32 ls [rfv (gA g) 6 r9, .ref (gA g 16 0)]) rfl ?_
      obtain ⟨hg12, h⟩ := gd_some h
      refine gl_castJ hC hH hg12 wd_908 dX10_takeFirst_32 ?_
      obtain ⟨D13, e14, h⟩ := st_some h
      refine pf_RX10_92 hC hH hS  rfl rfl dX10_takeFirst_35 (fun H locs hH hS => ?_)
      rw [← e14] at hH
      refine lv_aload_n hC.1 hC.2.1 dX10_takeFirst_38 rfl (lv_at hl 1 rfl) ?_
      refine gl_aload_n hC dX10_takeFirst_39 rfl (lv_at hl 0 rfl) ?_
      obtain ⟨D15, e16, h⟩ := st_some h
      refine pf_RX10_96 hC hH hS  rfl rfl dX10_takeFirst_40 (fun H locs hH hS => ?_)
      rw [← e16] at hH
      refine gl_aload_n hC dX10_takeFirst_43 rfl (lv_at hl 0 rfl) ?_
      obtain ⟨hg17, h⟩ := gd_some h
      refine gf_RX10_100 hC hH (inb_lt hg17) (rfv_in hg17) dX10_takeFirst_44 ?_
      refine gl_astore_n (j := 2) (lv' := [(2, rfv (gA g) 6 (D15 14 r1.toNatClampNeg 1 0)), (1, rfv (gA g) 14 r1), (0, .ref (gA g 16 0))]) hC dX10_takeFirst_47 rfl hl (by decide) (by simp [rfv_cat]) (fun ls hl => ?_)
      refine gl_aload_n hC dX10_takeFirst_48 rfl (lv_at hl 0 rfl) ?_
      refine gl_ifnull (tgt := 63) hC dX10_takeFirst_49 (by decide) (fun hc18 => ?_) (fun hc18 => ?_)
      · rw [if_pos hc18] at h
        exact B_X10_takeFirst_63 hC hE hml hr hlk h hH hS (lv_sub hl [2, 1, 0] rfl)
      · rw [if_neg hc18] at h
        refine gl_aload_n hC dX10_takeFirst_52 rfl (lv_at hl 1 rfl) ?_
        refine gf_RX10_105 hC hH (inb_lt hg17) (rfv_in hg17) dX10_takeFirst_53 ?_
        refine lv_if_eq (tgt := 63) hC.1 hC.2.1 dX10_takeFirst_56 (by decide) (fun hc19 => ?_) (fun hc19 => ?_)
        · rw [if_pos hc19] at h
          exact B_X10_takeFirst_63 hC hE hml hr hlk h hH hS (lv_sub hl [2, 1, 0] rfl)
        · rw [if_neg hc19] at h
          refine lv_iconst (v := (1 : Int32)) hC.1 hC.2.1 dX10_takeFirst_59 (by decide) ?_
          refine lv_goto (tgt := 64) hC.1 hC.2.1 dX10_takeFirst_60 (by decide) ?_
          exact B_X10_takeFirst_64 hC hE hml hr hlk h hH hS (lv_sub hl [2, 1, 0] rfl)
    · rw [if_pos hc8] at h
      exact B_X10_takeFirst_22 hC hE hml hr hlk h hH hS (lv_sub hl [] rfl)
def F_X10_step_59 (n : Nat)   (C : St) : Option (Int32 × St) := some (0, C)
set_option maxHeartbeats 4000000 in
set_option maxRecDepth 100000 in
theorem B_X10_step_59 {p : Program} {l : Launch} {e : Env} {s : State} {m : MethodId} {args : Array Value} {below : List Frame} {meth : Method} {c : Code} {g : GP} {Z : St} (hC : CX p s m args c cX10_step RX10 g) (hE : EZ g s s.heap) (hml : c.maxLocals = 1) (hr : meth.sig.returnType = none) (hlk : meth.locks = false) {r : Int32} {C2 : St}  {C : St} (h : F_X10_step_59 (gn g)   C = some (r, C2)) {ed : Nat → Nat} {H : Heap} {locs : List Loc} {ls : Array Slot} (hH : HW g ed C Z H) (hS : va_S (gP g) s.heap H locs) (hl : lv_has ls 1 []) : W p l e ({ frames := 4, cells := 0, slots := 0, locals := 129 } : Room) s m args below meth c H locs 0 0 (MQ below (QG none g C2 Z) args s 0 0 (gP g)) (F0 m 59 ls []) := by
  unfold F_X10_step_59 at h
  cases h
  exact gret_v hC hr hlk hH hS (Nat.le_of_ble_eq_true rfl) (Nat.le_of_ble_eq_true rfl) dX10_step_59
def F_X10_step_35 (n : Nat)   (C : St) : Option (Int32 × St) := if (C 16 0 6 0) = 0 then (bd2 (F_X9_p n 0 C) (fun r5 D6 => F_X10_step_59 n  D6)) else (bd2 (F_X9_p n 1 C) (fun r2 D3 => F_X10_step_59 n  D3))
set_option maxHeartbeats 4000000 in
set_option maxRecDepth 100000 in
theorem B_X10_step_35 {p : Program} {l : Launch} {e : Env} {s : State} {m : MethodId} {args : Array Value} {below : List Frame} {meth : Method} {c : Code} {g : GP} {Z : St} (hC : CX p s m args c cX10_step RX10 g) (hE : EZ g s s.heap) (hml : c.maxLocals = 1) (hr : meth.sig.returnType = none) (hlk : meth.locks = false) {r : Int32} {C2 : St}  {C : St} (h : F_X10_step_35 (gn g)   C = some (r, C2)) {ed : Nat → Nat} {H : Heap} {locs : List Loc} {ls : Array Slot} (hH : HW g ed C Z H) (hS : va_S (gP g) s.heap H locs) (hl : lv_has ls 1 [(0, .ref (gA g 16 0))]) : W p l e ({ frames := 4, cells := 0, slots := 0, locals := 129 } : Room) s m args below meth c H locs 0 0 (MQ below (QG none g C2 Z) args s 0 0 (gP g)) (F0 m 35 ls []) := by
  unfold F_X10_step_35 at h
  refine lv_aload_n hC.1 hC.2.1 dX10_step_35 rfl (lv_at hl 0 rfl) ?_
  refine gf_RX10_22 hC hH rfl dX10_step_36 ?_
  refine lv_if_ne (tgt := 52) hC.1 hC.2.1 dX10_step_39 (by decide) (fun hc1 => ?_) (fun hc1 => ?_)
  · rw [if_neg hc1] at h
    refine lv_aload_n hC.1 hC.2.1 dX10_step_52 rfl (lv_at hl 0 rfl) ?_
    refine gf_RX10_42 hC hH rfl dX10_step_53 ?_
    obtain ⟨r2, D3, hF4, h⟩ := bd2_some h
    refine gcallV (As := []) (rest := []) (Cn := RX9) hC hE hml hH hS (c_X9_p (Nat.le_of_ble_eq_true rfl) hF4) ⟨wd_298, wd_299, wd_300, wd_12, wd_301⟩ hd_X9_p rfl rfl ⟨Nat.le_of_ble_eq_true rfl, Nat.le_of_ble_eq_true rfl⟩ rfl (hw_recv (q := 5) (i := 1) hC hH ⟨(Nat.le_of_ble_eq_true rfl), fun h => absurd h (by decide)⟩ rfl rfl) rfl hl.1 rfl (Nat.le_of_ble_eq_true rfl) dX10_step_56 ⟨Nat.le_of_ble_eq_true rfl, Nat.le_of_ble_eq_true rfl⟩ (fun ed H locs hH hS => ?_)
    refine W.eq (g2 := F0 m 59 ls []) rfl ?_
    exact B_X10_step_59 hC hE hml hr hlk h hH hS (lv_sub hl [] rfl)
  · rw [if_pos hc1] at h
    refine lv_aload_n hC.1 hC.2.1 dX10_step_42 rfl (lv_at hl 0 rfl) ?_
    refine gf_RX10_38 hC hH rfl dX10_step_43 ?_
    obtain ⟨r5, D6, hF7, h⟩ := bd2_some h
    refine gcallV (As := []) (rest := []) (Cn := RX9) hC hE hml hH hS (c_X9_p (Nat.le_of_ble_eq_true rfl) hF7) ⟨wd_298, wd_299, wd_300, wd_12, wd_301⟩ hd_X9_p rfl rfl ⟨Nat.le_of_ble_eq_true rfl, Nat.le_of_ble_eq_true rfl⟩ rfl (hw_recv (q := 5) (i := 0) hC hH ⟨(Nat.le_of_ble_eq_true rfl), fun h => absurd h (by decide)⟩ rfl rfl) rfl hl.1 rfl (Nat.le_of_ble_eq_true rfl) dX10_step_46 ⟨Nat.le_of_ble_eq_true rfl, Nat.le_of_ble_eq_true rfl⟩ (fun ed H locs hH hS => ?_)
    refine W.eq (g2 := F0 m 49 ls []) rfl ?_
    refine lv_goto (tgt := 59) hC.1 hC.2.1 dX10_step_49 (by decide) ?_
    exact B_X10_step_59 hC hE hml hr hlk h hH hS (lv_sub hl [] rfl)
def F_X10_step (n : Nat)  (C : St) : Option (Int32 × St) := if (C 16 0 6 0) = (1 : Int32) then (bd2 (F_X10_begin n (2 : Int32) C) (fun r9 D10 => F_X10_step_35 n  D10)) else (if (C 16 0 6 0) = (2 : Int32) then (bd2 (F_X10_bring n  C) (fun r6 D7 => F_X10_step_35 n  D7)) else (bd2 (F_X10_takeFirst n  C) (fun r3 D4 => F_X10_step_35 n  D4)))
set_option maxHeartbeats 4000000 in
set_option maxRecDepth 100000 in
theorem c_X10_step {l : Launch} {g : GP} {ed : Nat → Nat} {Z : St}  {C : St} {r : Int32} {C2 : St} (h : F_X10_step (gn g)  C = some (r, C2)) : Met l yX10_step (Cond.code yX10_step cX10_step 1 none :: lwG) ({ frames := 4, cells := 0, slots := 0, locals := 129 } : Room) (va_Pc [.ref (gA g 16 0)] (PW g C Z ed)) (QG none g C2 Z) 0 0 (gP g) := by
  refine Met.ofW (cc := cX10_step) (maxL := 1) (ret := none) (by decide +kernel) rfl ?_
  intro p e s m args below meth c s₁ B hml hv
  obtain ⟨ha, hC, hE, hr, hlk, hH⟩ := g_start B hv
  subst ha
  have hC : CX p s m ([.ref (gA g 16 0)] : List Value).toArray c cX10_step RX10 g := hC
  have hS : va_S (gP g) s.heap s.heap [] := va_S.rf
  obtain ⟨ls, he, hl⟩ := g_entry m (vs := [.ref (gA g 16 0)]) (n := 1) (List.forall_mem_cons.mpr ⟨rfl, (fun _ h => absurd h List.not_mem_nil)⟩) (Nat.le_of_ble_eq_true rfl)
  rw [he]
  have hl : lv_has ls 1 [(0, .ref (gA g 16 0))] := hl
  unfold F_X10_step at h
  refine lv_aload_n hC.1 hC.2.1 dX10_step_0 rfl (lv_at hl 0 rfl) ?_
  refine gf_RX10_22 hC hH rfl dX10_step_1 ?_
  refine lv_iconst (v := (1 : Int32)) hC.1 hC.2.1 dX10_step_4 (by decide) ?_
  refine lv_icmp_ne (tgt := 16) hC.1 hC.2.1 dX10_step_5 (by decide) (fun hc1 => ?_) (fun hc1 => ?_)
  · rw [if_neg hc1] at h
    refine lv_aload_n hC.1 hC.2.1 dX10_step_16 rfl (lv_at hl 0 rfl) ?_
    refine gf_RX10_22 hC hH rfl dX10_step_17 ?_
    refine lv_iconst (v := (2 : Int32)) hC.1 hC.2.1 dX10_step_20 (by decide) ?_
    refine lv_icmp_ne (tgt := 31) hC.1 hC.2.1 dX10_step_21 (by decide) (fun hc2 => ?_) (fun hc2 => ?_)
    · rw [if_neg hc2] at h
      refine lv_aload_n hC.1 hC.2.1 dX10_step_31 rfl (lv_at hl 0 rfl) ?_
      obtain ⟨r3, D4, hF5, h⟩ := bd2_some h
      refine gcallV (As := []) (rest := []) (Cn := RX10) hC hE hml hH hS (c_X10_takeFirst hF5) ⟨wd_891, wd_893, wp_20, wd_8, wd_894⟩ hd_X10_takeFirst rfl rfl ⟨Nat.le_of_ble_eq_true rfl, Nat.le_of_ble_eq_true rfl⟩ rfl (hw_recv (q := 16) (i := 0) hC hH ⟨Nat.zero_lt_one, fun h => absurd h (by decide)⟩ rfl rfl) rfl hl.1 rfl (Nat.le_of_ble_eq_true rfl) dX10_step_32 ⟨Nat.le_of_ble_eq_true rfl, Nat.le_of_ble_eq_true rfl⟩ (fun ed H locs hH hS => ?_)
      refine W.eq (g2 := F0 m 35 ls []) rfl ?_
      exact B_X10_step_35 hC hE hml hr hlk h hH hS (lv_sub hl [0] rfl)
    · rw [if_pos hc2] at h
      refine lv_aload_n hC.1 hC.2.1 dX10_step_24 rfl (lv_at hl 0 rfl) ?_
      obtain ⟨r6, D7, hF8, h⟩ := bd2_some h
      refine gcallV (As := []) (rest := []) (Cn := RX10) hC hE hml hH hS (c_X10_bring hF8) ⟨wd_882, wd_884, wp_19, wd_8, wd_885⟩ hd_X10_bring rfl rfl ⟨Nat.le_of_ble_eq_true rfl, Nat.le_of_ble_eq_true rfl⟩ rfl (hw_recv (q := 16) (i := 0) hC hH ⟨Nat.zero_lt_one, fun h => absurd h (by decide)⟩ rfl rfl) rfl hl.1 rfl (Nat.le_of_ble_eq_true rfl) dX10_step_25 ⟨Nat.le_of_ble_eq_true rfl, Nat.le_of_ble_eq_true rfl⟩ (fun ed H locs hH hS => ?_)
      refine W.eq (g2 := F0 m 28 ls []) rfl ?_
      refine lv_goto (tgt := 35) hC.1 hC.2.1 dX10_step_28 (by decide) ?_
      exact B_X10_step_35 hC hE hml hr hlk h hH hS (lv_sub hl [0] rfl)
  · rw [if_pos hc1] at h
    refine lv_aload_n hC.1 hC.2.1 dX10_step_8 rfl (lv_at hl 0 rfl) ?_
    refine lv_iconst (v := (2 : Int32)) hC.1 hC.2.1 dX10_step_9 (by decide) ?_
    obtain ⟨r9, D10, hF11, h⟩ := bd2_some h
    refine gcallV (As := [.int (2 : Int32)]) (rest := []) (Cn := RX10) hC hE hml hH hS (c_X10_begin hF11) ⟨wd_878, wd_880, wp_18, wd_8, wd_881⟩ hd_X10_begin rfl rfl ⟨Nat.le_of_ble_eq_true rfl, Nat.le_of_ble_eq_true rfl⟩ rfl (hw_recv (q := 16) (i := 0) hC hH ⟨Nat.zero_lt_one, fun h => absurd h (by decide)⟩ rfl rfl) rfl hl.1 rfl (Nat.le_of_ble_eq_true rfl) dX10_step_10 ⟨Nat.le_of_ble_eq_true rfl, Nat.le_of_ble_eq_true rfl⟩ (fun ed H locs hH hS => ?_)
    refine W.eq (g2 := F0 m 13 ls []) rfl ?_
    refine lv_goto (tgt := 35) hC.1 hC.2.1 dX10_step_13 (by decide) ?_
    exact B_X10_step_35 hC hE hml hr hlk h hH hS (lv_sub hl [0] rfl)
def F_X10_moveToDrum_28 (n : Nat)   (C : St) : Option (Int32 × St) := some (0, C)
set_option maxHeartbeats 4000000 in
set_option maxRecDepth 100000 in
theorem B_X10_moveToDrum_28 {p : Program} {l : Launch} {e : Env} {s : State} {m : MethodId} {args : Array Value} {below : List Frame} {meth : Method} {c : Code} {g : GP} {Z : St} (hC : CX p s m args c cX10_moveToDrum RX10 g) (hE : EZ g s s.heap) (hml : c.maxLocals = 2) (hr : meth.sig.returnType = none) (hlk : meth.locks = false) {r : Int32} {C2 : St}  {C : St} (h : F_X10_moveToDrum_28 (gn g)   C = some (r, C2)) {ed : Nat → Nat} {H : Heap} {locs : List Loc} {ls : Array Slot} (hH : HW g ed C Z H) (hS : va_S (gP g) s.heap H locs) (hl : lv_has ls 2 []) : W p l e ({ frames := 2, cells := 0, slots := 0, locals := 44 } : Room) s m args below meth c H locs 0 0 (MQ below (QG none g C2 Z) args s 0 0 (gP g)) (F0 m 28 ls []) := by
  unfold F_X10_moveToDrum_28 at h
  cases h
  exact gret_v hC hr hlk hH hS (Nat.le_of_ble_eq_true rfl) (Nat.le_of_ble_eq_true rfl) dX10_moveToDrum_28
def F_X10_moveToDrum_31 (n : Nat)  : Nat → Int32 → St → Option (Int32 × St)
  | 0, _, _ => none
  | fu + 1, x1, C => if (16 : Int32) ≤ x1 then (some (0, C)) else (gd (inb (C 16 0 7 0) n) (bd2 (F_X4_read n (C 16 0 7 0) x1 C) (fun r2 D3 => gd (inb (C 16 0 9 0) 6) (bd2 (F_X5_putOnDrum n (C 16 0 9 0) (((C 16 0 11 0) * (16 : Int32)) + x1) r2 D3) (fun r6 D7 => F_X10_moveToDrum_31 n fu (x1 + 1) D7)))))
set_option maxHeartbeats 4000000 in
set_option maxRecDepth 100000 in
theorem B_X10_moveToDrum_31 {p : Program} {l : Launch} {e : Env} {s : State} {m : MethodId} {args : Array Value} {below : List Frame} {meth : Method} {c : Code} {g : GP} {Z : St} (hC : CX p s m args c cX10_moveToDrum RX10 g) (hE : EZ g s s.heap) (hml : c.maxLocals = 2) (hr : meth.sig.returnType = none) (hlk : meth.locks = false) {r : Int32} {C2 : St} : ∀ (fu : Nat) (x1 : Int32) (C : St), F_X10_moveToDrum_31 (gn g)  fu x1 C = some (r, C2) → ∀ (ed : Nat → Nat) (H : Heap) (locs : List Loc) (ls : Array Slot), HW g ed C Z H → va_S (gP g) s.heap H locs → lv_has ls 2 [(0, .ref (gA g 16 0)), (1, .int x1)] → W p l e ({ frames := 2, cells := 0, slots := 0, locals := 44 } : Room) s m args below meth c H locs 0 0 (MQ below (QG none g C2 Z) args s 0 0 (gP g)) (F0 m 31 ls []) := by
  intro fu
  induction fu with
  | zero =>
    intro x1 C h
    cases h
  | succ fu ih =>
    intro x1 C h ed H locs ls hH hS hl
    rw [F_X10_moveToDrum_31] at h
    refine lv_iload_n hC.1 hC.2.1 dX10_moveToDrum_31 rfl (lv_at hl 1 rfl) ?_
    refine lv_bipush (v := (16 : Int32)) hC.1 hC.2.1 dX10_moveToDrum_32 (by decide) ?_
    refine lv_icmp_ge (tgt := 67) hC.1 hC.2.1 dX10_moveToDrum_34 (by decide) (fun hc1 => ?_) (fun hc1 => ?_)
    · rw [if_pos hc1] at h
      cases h
      exact gret_v hC hr hlk hH hS (Nat.le_of_ble_eq_true rfl) (Nat.le_of_ble_eq_true rfl) dX10_moveToDrum_67
    · rw [if_neg hc1] at h
      refine lv_aload_n hC.1 hC.2.1 dX10_moveToDrum_37 rfl (lv_at hl 0 rfl) ?_
      refine gf_RX10_109 hC hH rfl dX10_moveToDrum_38 ?_
      refine lv_aload_n hC.1 hC.2.1 dX10_moveToDrum_41 rfl (lv_at hl 0 rfl) ?_
      refine gf_RX10_121 hC hH rfl dX10_moveToDrum_42 ?_
      refine lv_bipush (v := (16 : Int32)) hC.1 hC.2.1 dX10_moveToDrum_45 (by decide) ?_
      refine lv_imul hC.1 hC.2.1 dX10_moveToDrum_47 ?_
      refine lv_iload_n hC.1 hC.2.1 dX10_moveToDrum_48 rfl (lv_at hl 1 rfl) ?_
      refine lv_iadd hC.1 hC.2.1 dX10_moveToDrum_49 ?_
      refine lv_aload_n hC.1 hC.2.1 dX10_moveToDrum_50 rfl (lv_at hl 0 rfl) ?_
      refine gf_RX10_96 hC hH rfl dX10_moveToDrum_51 ?_
      refine lv_iload_n hC.1 hC.2.1 dX10_moveToDrum_54 rfl (lv_at hl 1 rfl) ?_
      obtain ⟨hg5, h⟩ := gd_some h
      obtain ⟨r2, D3, hF4, h⟩ := bd2_some h
      refine gcallV (As := [.int x1]) (rest := [.int (((C 16 0 11 0) * (16 : Int32)) + x1), rfv (gA g) 6 (C 16 0 9 0)]) (Cn := RX4) hC hE hml hH hS (c_X4_read hF4) ⟨wd_1008, wd_805, wd_806, wd_7, wd_807⟩ hd_X4_read rfl rfl ⟨Nat.le_of_ble_eq_true rfl, Nat.le_of_ble_eq_true rfl⟩ (rfv_in hg5) (hw_recv (q := 14) (i := (C 16 0 7 0).toNatClampNeg) hC hH ⟨(inb_lt hg5), fun h => absurd h (by decide)⟩ rfl rfl) rfl hl.1 rfl (by simp only [List.map_cons, List.map_nil, rfv_cat]; exact Nat.le_of_ble_eq_true rfl) dX10_moveToDrum_55 ⟨Nat.le_of_ble_eq_true rfl, Nat.le_of_ble_eq_true rfl⟩ (fun ed H locs hH hS => ?_)
      refine W.eq (g2 := F0 m 58 ls [.int r2, .int (((C 16 0 11 0) * (16 : Int32)) + x1), rfv (gA g) 6 (C 16 0 9 0)]) rfl ?_
      obtain ⟨hg9, h⟩ := gd_some h
      obtain ⟨r6, D7, hF8, h⟩ := bd2_some h
      refine gcallV (As := [.int (((C 16 0 11 0) * (16 : Int32)) + x1), .int r2]) (rest := []) (Cn := RX5) hC hE hml hH hS (c_X5_putOnDrum hF8) ⟨wd_1009, wd_1010, wd_1011, wd_5, wd_1012⟩ hd_X5_putOnDrum rfl rfl ⟨Nat.le_of_ble_eq_true rfl, Nat.le_of_ble_eq_true rfl⟩ (rfv_in hg9) (hw_recv (q := 6) (i := (C 16 0 9 0).toNatClampNeg) hC hH ⟨(inb_lt hg9), fun h => absurd h (by decide)⟩ rfl rfl) rfl hl.1 rfl (Nat.le_of_ble_eq_true rfl) dX10_moveToDrum_58 ⟨Nat.le_of_ble_eq_true rfl, Nat.le_of_ble_eq_true rfl⟩ (fun ed H locs hH hS => ?_)
      refine W.eq (g2 := F0 m 61 ls []) rfl ?_
      refine lv_iinc (v := x1 + 1) (lv' := [(1, .int (x1 + 1)), (0, .ref (gA g 16 0))]) hC.1 hC.2.1 dX10_moveToDrum_61 hl (k := 1) rfl rfl (by decide) rfl (fun ls hl => ?_)
      refine lv_goto (tgt := 31) hC.1 hC.2.1 dX10_moveToDrum_64 (by decide) ?_
      exact ih _ _ h _ _ _ _ hH hS (lv_sub hl [1, 0] rfl)
def F_X10_moveToDrum (n : Nat)  (C : St) : Option (Int32 × St) := if (C 16 0 7 0) < 0 then (F_X10_moveToDrum_28 n  C) else (if (C 16 0 9 0) < 0 then (F_X10_moveToDrum_28 n  C) else (gd (inb (C 16 0 9 0) 6) (bd2 (F_X5_isAsOf n (C 16 0 9 0) (C 16 0 10 0) C) (fun r3 D4 => if r3 = 0 then (F_X10_moveToDrum_28 n  D4) else (F_X10_moveToDrum_31 n 1000 (0 : Int32) D4)))))
set_option maxHeartbeats 4000000 in
set_option maxRecDepth 100000 in
theorem c_X10_moveToDrum {l : Launch} {g : GP} {ed : Nat → Nat} {Z : St}  {C : St} {r : Int32} {C2 : St} (h : F_X10_moveToDrum (gn g)  C = some (r, C2)) : Met l yX10_moveToDrum (Cond.code yX10_moveToDrum cX10_moveToDrum 2 none :: lwG) ({ frames := 2, cells := 0, slots := 0, locals := 44 } : Room) (va_Pc [.ref (gA g 16 0)] (PW g C Z ed)) (QG none g C2 Z) 0 0 (gP g) := by
  refine Met.ofW (cc := cX10_moveToDrum) (maxL := 2) (ret := none) (by decide +kernel) rfl ?_
  intro p e s m args below meth c s₁ B hml hv
  obtain ⟨ha, hC, hE, hr, hlk, hH⟩ := g_start B hv
  subst ha
  have hC : CX p s m ([.ref (gA g 16 0)] : List Value).toArray c cX10_moveToDrum RX10 g := hC
  have hS : va_S (gP g) s.heap s.heap [] := va_S.rf
  obtain ⟨ls, he, hl⟩ := g_entry m (vs := [.ref (gA g 16 0)]) (n := 2) (List.forall_mem_cons.mpr ⟨rfl, (fun _ h => absurd h List.not_mem_nil)⟩) (Nat.le_of_ble_eq_true rfl)
  rw [he]
  have hl : lv_has ls 2 [(0, .ref (gA g 16 0))] := hl
  unfold F_X10_moveToDrum at h
  refine lv_aload_n hC.1 hC.2.1 dX10_moveToDrum_0 rfl (lv_at hl 0 rfl) ?_
  refine gf_RX10_96 hC hH rfl dX10_moveToDrum_1 ?_
  refine gl_ifnull (tgt := 28) hC dX10_moveToDrum_4 (by decide) (fun hc1 => ?_) (fun hc1 => ?_)
  · rw [if_pos hc1] at h
    exact B_X10_moveToDrum_28 hC hE hml hr hlk h hH hS (lv_sub hl [] rfl)
  · rw [if_neg hc1] at h
    refine lv_aload_n hC.1 hC.2.1 dX10_moveToDrum_7 rfl (lv_at hl 0 rfl) ?_
    refine gf_RX10_109 hC hH rfl dX10_moveToDrum_8 ?_
    refine gl_ifnull (tgt := 28) hC dX10_moveToDrum_11 (by decide) (fun hc2 => ?_) (fun hc2 => ?_)
    · rw [if_pos hc2] at h
      exact B_X10_moveToDrum_28 hC hE hml hr hlk h hH hS (lv_sub hl [] rfl)
    · rw [if_neg hc2] at h
      refine lv_aload_n hC.1 hC.2.1 dX10_moveToDrum_14 rfl (lv_at hl 0 rfl) ?_
      refine gf_RX10_109 hC hH rfl dX10_moveToDrum_15 ?_
      refine lv_aload_n hC.1 hC.2.1 dX10_moveToDrum_18 rfl (lv_at hl 0 rfl) ?_
      refine gf_RX10_115 hC hH rfl dX10_moveToDrum_19 ?_
      obtain ⟨hg6, h⟩ := gd_some h
      obtain ⟨r3, D4, hF5, h⟩ := bd2_some h
      refine gcallV (As := [.int (C 16 0 10 0)]) (rest := []) (Cn := RX5) hC hE hml hH hS (c_X5_isAsOf hF5) ⟨wd_1004, wd_1005, wd_1006, wd_5, wd_1007⟩ hd_X5_isAsOf rfl rfl ⟨Nat.le_of_ble_eq_true rfl, Nat.le_of_ble_eq_true rfl⟩ (rfv_in hg6) (hw_recv (q := 6) (i := (C 16 0 9 0).toNatClampNeg) hC hH ⟨(inb_lt hg6), fun h => absurd h (by decide)⟩ rfl rfl) rfl hl.1 rfl (Nat.le_of_ble_eq_true rfl) dX10_moveToDrum_22 ⟨Nat.le_of_ble_eq_true rfl, Nat.le_of_ble_eq_true rfl⟩ (fun ed H locs hH hS => ?_)
      refine W.eq (g2 := F0 m 25 ls [.int r3]) rfl ?_
      refine lv_if_ne (tgt := 29) hC.1 hC.2.1 dX10_moveToDrum_25 (by decide) (fun hc7 => ?_) (fun hc7 => ?_)
      · rw [if_neg hc7] at h
        refine lv_iconst (v := (0 : Int32)) hC.1 hC.2.1 dX10_moveToDrum_29 (by decide) ?_
        refine lv_istore_n (i := 1) (lv' := [(1, .int (0 : Int32)), (0, .ref (gA g 16 0))]) hC.1 hC.2.1 dX10_moveToDrum_30 rfl hl (by decide) rfl (fun ls hl => ?_)
        exact B_X10_moveToDrum_31 hC hE hml hr hlk 1000 _ _ h _ _ _ _ hH hS (lv_sub hl [1, 0] rfl)
      · rw [if_pos hc7] at h
        exact B_X10_moveToDrum_28 hC hE hml hr hlk h hH hS (lv_sub hl [] rfl)
def F_X10_moveToCore_14 (n : Nat)   (C : St) : Option (Int32 × St) := some (0, C)
set_option maxHeartbeats 4000000 in
set_option maxRecDepth 100000 in
theorem B_X10_moveToCore_14 {p : Program} {l : Launch} {e : Env} {s : State} {m : MethodId} {args : Array Value} {below : List Frame} {meth : Method} {c : Code} {g : GP} {Z : St} (hC : CX p s m args c cX10_moveToCore RX10 g) (hE : EZ g s s.heap) (hml : c.maxLocals = 2) (hr : meth.sig.returnType = none) (hlk : meth.locks = false) {r : Int32} {C2 : St}  {C : St} (h : F_X10_moveToCore_14 (gn g)   C = some (r, C2)) {ed : Nat → Nat} {H : Heap} {locs : List Loc} {ls : Array Slot} (hH : HW g ed C Z H) (hS : va_S (gP g) s.heap H locs) (hl : lv_has ls 2 []) : W p l e ({ frames := 2, cells := 0, slots := 0, locals := 45 } : Room) s m args below meth c H locs 0 0 (MQ below (QG none g C2 Z) args s 0 0 (gP g)) (F0 m 14 ls []) := by
  unfold F_X10_moveToCore_14 at h
  cases h
  exact gret_v hC hr hlk hH hS (Nat.le_of_ble_eq_true rfl) (Nat.le_of_ble_eq_true rfl) dX10_moveToCore_14
def F_X10_moveToCore_17 (n : Nat)  : Nat → Int32 → St → Option (Int32 × St)
  | 0, _, _ => none
  | fu + 1, x1, C => if (16 : Int32) ≤ x1 then (some (0, C)) else (gd (inb (C 16 0 8 0) 6) (bd2 (F_X5_onDrum n (C 16 0 8 0) (((C 6 (C 16 0 8 0).toNatClampNeg 19 0) * (16 : Int32)) + x1) C) (fun r3 D4 => gd (inb (C 16 0 7 0) n) (bd2 (F_X4_write n (C 16 0 7 0) x1 r3 D4) (fun r6 D7 => F_X10_moveToCore_17 n fu (x1 + 1) D7)))))
set_option maxHeartbeats 4000000 in
set_option maxRecDepth 100000 in
theorem B_X10_moveToCore_17 {p : Program} {l : Launch} {e : Env} {s : State} {m : MethodId} {args : Array Value} {below : List Frame} {meth : Method} {c : Code} {g : GP} {Z : St} (hC : CX p s m args c cX10_moveToCore RX10 g) (hE : EZ g s s.heap) (hml : c.maxLocals = 2) (hr : meth.sig.returnType = none) (hlk : meth.locks = false) {r : Int32} {C2 : St} : ∀ (fu : Nat) (x1 : Int32) (C : St), F_X10_moveToCore_17 (gn g)  fu x1 C = some (r, C2) → ∀ (ed : Nat → Nat) (H : Heap) (locs : List Loc) (ls : Array Slot), HW g ed C Z H → va_S (gP g) s.heap H locs → lv_has ls 2 [(0, .ref (gA g 16 0)), (1, .int x1)] → W p l e ({ frames := 2, cells := 0, slots := 0, locals := 45 } : Room) s m args below meth c H locs 0 0 (MQ below (QG none g C2 Z) args s 0 0 (gP g)) (F0 m 17 ls []) := by
  intro fu
  induction fu with
  | zero =>
    intro x1 C h
    cases h
  | succ fu ih =>
    intro x1 C h ed H locs ls hH hS hl
    rw [F_X10_moveToCore_17] at h
    refine lv_iload_n hC.1 hC.2.1 dX10_moveToCore_17 rfl (lv_at hl 1 rfl) ?_
    refine lv_bipush (v := (16 : Int32)) hC.1 hC.2.1 dX10_moveToCore_18 (by decide) ?_
    refine lv_icmp_ge (tgt := 56) hC.1 hC.2.1 dX10_moveToCore_20 (by decide) (fun hc1 => ?_) (fun hc1 => ?_)
    · rw [if_pos hc1] at h
      cases h
      exact gret_v hC hr hlk hH hS (Nat.le_of_ble_eq_true rfl) (Nat.le_of_ble_eq_true rfl) dX10_moveToCore_56
    · rw [if_neg hc1] at h
      refine lv_aload_n hC.1 hC.2.1 dX10_moveToCore_23 rfl (lv_at hl 0 rfl) ?_
      refine gf_RX10_96 hC hH rfl dX10_moveToCore_24 ?_
      refine lv_iload_n hC.1 hC.2.1 dX10_moveToCore_27 rfl (lv_at hl 1 rfl) ?_
      refine lv_aload_n hC.1 hC.2.1 dX10_moveToCore_28 rfl (lv_at hl 0 rfl) ?_
      refine gf_RX10_92 hC hH rfl dX10_moveToCore_29 ?_
      refine lv_aload_n hC.1 hC.2.1 dX10_moveToCore_32 rfl (lv_at hl 0 rfl) ?_
      refine gf_RX10_92 hC hH rfl dX10_moveToCore_33 ?_
      obtain ⟨hg2, h⟩ := gd_some h
      refine gf_RX10_48 hC hH (inb_lt hg2) (rfv_in hg2) dX10_moveToCore_36 ?_
      refine lv_bipush (v := (16 : Int32)) hC.1 hC.2.1 dX10_moveToCore_39 (by decide) ?_
      refine lv_imul hC.1 hC.2.1 dX10_moveToCore_41 ?_
      refine lv_iload_n hC.1 hC.2.1 dX10_moveToCore_42 rfl (lv_at hl 1 rfl) ?_
      refine lv_iadd hC.1 hC.2.1 dX10_moveToCore_43 ?_
      obtain ⟨r3, D4, hF5, h⟩ := bd2_some h
      refine gcallV (As := [.int (((C 6 (C 16 0 8 0).toNatClampNeg 19 0) * (16 : Int32)) + x1)]) (rest := [.int x1, rfv (gA g) 14 (C 16 0 7 0)]) (Cn := RX5) hC hE hml hH hS (c_X5_onDrum hF5) ⟨wd_1017, wd_1018, wd_1019, wd_5, wd_1020⟩ hd_X5_onDrum rfl rfl ⟨Nat.le_of_ble_eq_true rfl, Nat.le_of_ble_eq_true rfl⟩ (rfv_in hg2) (hw_recv (q := 6) (i := (C 16 0 8 0).toNatClampNeg) hC hH ⟨(inb_lt hg2), fun h => absurd h (by decide)⟩ rfl rfl) rfl hl.1 rfl (by simp only [List.map_cons, List.map_nil, rfv_cat]; exact Nat.le_of_ble_eq_true rfl) dX10_moveToCore_44 ⟨Nat.le_of_ble_eq_true rfl, Nat.le_of_ble_eq_true rfl⟩ (fun ed H locs hH hS => ?_)
      refine W.eq (g2 := F0 m 47 ls [.int r3, .int x1, rfv (gA g) 14 (C 16 0 7 0)]) rfl ?_
      obtain ⟨hg9, h⟩ := gd_some h
      obtain ⟨r6, D7, hF8, h⟩ := bd2_some h
      refine gcallV (As := [.int x1, .int r3]) (rest := []) (Cn := RX4) hC hE hml hH hS (c_X4_write hF8) ⟨wd_1021, wd_819, wd_820, wd_7, wd_821⟩ hd_X4_write rfl rfl ⟨Nat.le_of_ble_eq_true rfl, Nat.le_of_ble_eq_true rfl⟩ (rfv_in hg9) (hw_recv (q := 14) (i := (C 16 0 7 0).toNatClampNeg) hC hH ⟨(inb_lt hg9), fun h => absurd h (by decide)⟩ rfl rfl) rfl hl.1 rfl (Nat.le_of_ble_eq_true rfl) dX10_moveToCore_47 ⟨Nat.le_of_ble_eq_true rfl, Nat.le_of_ble_eq_true rfl⟩ (fun ed H locs hH hS => ?_)
      refine W.eq (g2 := F0 m 50 ls []) rfl ?_
      refine lv_iinc (v := x1 + 1) (lv' := [(1, .int (x1 + 1)), (0, .ref (gA g 16 0))]) hC.1 hC.2.1 dX10_moveToCore_50 hl (k := 1) rfl rfl (by decide) rfl (fun ls hl => ?_)
      refine lv_goto (tgt := 17) hC.1 hC.2.1 dX10_moveToCore_53 (by decide) ?_
      exact ih _ _ h _ _ _ _ hH hS (lv_sub hl [1, 0] rfl)
def F_X10_moveToCore (n : Nat)  (C : St) : Option (Int32 × St) := if (C 16 0 7 0) < 0 then (F_X10_moveToCore_14 n  C) else (if (C 16 0 8 0) < 0 then (F_X10_moveToCore_14 n  C) else (F_X10_moveToCore_17 n 1000 (0 : Int32) C))
set_option maxHeartbeats 4000000 in
set_option maxRecDepth 100000 in
theorem c_X10_moveToCore {l : Launch} {g : GP} {ed : Nat → Nat} {Z : St}  {C : St} {r : Int32} {C2 : St} (h : F_X10_moveToCore (gn g)  C = some (r, C2)) : Met l yX10_moveToCore (Cond.code yX10_moveToCore cX10_moveToCore 2 none :: lwG) ({ frames := 2, cells := 0, slots := 0, locals := 45 } : Room) (va_Pc [.ref (gA g 16 0)] (PW g C Z ed)) (QG none g C2 Z) 0 0 (gP g) := by
  refine Met.ofW (cc := cX10_moveToCore) (maxL := 2) (ret := none) (by decide +kernel) rfl ?_
  intro p e s m args below meth c s₁ B hml hv
  obtain ⟨ha, hC, hE, hr, hlk, hH⟩ := g_start B hv
  subst ha
  have hC : CX p s m ([.ref (gA g 16 0)] : List Value).toArray c cX10_moveToCore RX10 g := hC
  have hS : va_S (gP g) s.heap s.heap [] := va_S.rf
  obtain ⟨ls, he, hl⟩ := g_entry m (vs := [.ref (gA g 16 0)]) (n := 2) (List.forall_mem_cons.mpr ⟨rfl, (fun _ h => absurd h List.not_mem_nil)⟩) (Nat.le_of_ble_eq_true rfl)
  rw [he]
  have hl : lv_has ls 2 [(0, .ref (gA g 16 0))] := hl
  unfold F_X10_moveToCore at h
  refine lv_aload_n hC.1 hC.2.1 dX10_moveToCore_0 rfl (lv_at hl 0 rfl) ?_
  refine gf_RX10_96 hC hH rfl dX10_moveToCore_1 ?_
  refine gl_ifnull (tgt := 14) hC dX10_moveToCore_4 (by decide) (fun hc1 => ?_) (fun hc1 => ?_)
  · rw [if_pos hc1] at h
    exact B_X10_moveToCore_14 hC hE hml hr hlk h hH hS (lv_sub hl [] rfl)
  · rw [if_neg hc1] at h
    refine lv_aload_n hC.1 hC.2.1 dX10_moveToCore_7 rfl (lv_at hl 0 rfl) ?_
    refine gf_RX10_92 hC hH rfl dX10_moveToCore_8 ?_
    refine gl_ifnonnull (tgt := 15) hC dX10_moveToCore_11 (by decide) (fun hc2 => ?_) (fun hc2 => ?_)
    · rw [if_neg hc2] at h
      refine lv_iconst (v := (0 : Int32)) hC.1 hC.2.1 dX10_moveToCore_15 (by decide) ?_
      refine lv_istore_n (i := 1) (lv' := [(1, .int (0 : Int32)), (0, .ref (gA g 16 0))]) hC.1 hC.2.1 dX10_moveToCore_16 rfl hl (by decide) rfl (fun ls hl => ?_)
      exact B_X10_moveToCore_17 hC hE hml hr hlk 1000 _ _ h _ _ _ _ hH hS (lv_sub hl [1, 0] rfl)
    · rw [if_pos hc2] at h
      exact B_X10_moveToCore_14 hC hE hml hr hlk h hH hS (lv_sub hl [] rfl)
def F_X10_drumIsDone_28 (n : Nat)   (C : St) : Option (Int32 × St) := st (up C 16 0 5 0 (0 : Int32)) (fun D1 => bd2 (F_X9_v n 1 D1) (fun r3 D4 => some ((1 : Int32), D4)))
set_option maxHeartbeats 4000000 in
set_option maxRecDepth 100000 in
theorem B_X10_drumIsDone_28 {p : Program} {l : Launch} {e : Env} {s : State} {m : MethodId} {args : Array Value} {below : List Frame} {meth : Method} {c : Code} {g : GP} {Z : St} (hC : CX p s m args c cX10_drumIsDone RX10 g) (hE : EZ g s s.heap) (hml : c.maxLocals = 1) (hr : meth.sig.returnType = (some .boolean)) (hlk : meth.locks = false) {r : Int32} {C2 : St}  {C : St} (h : F_X10_drumIsDone_28 (gn g)   C = some (r, C2)) {ed : Nat → Nat} {H : Heap} {locs : List Loc} {ls : Array Slot} (hH : HW g ed C Z H) (hS : va_S (gP g) s.heap H locs) (hl : lv_has ls 1 [(0, .ref (gA g 16 0))]) : W p l e ({ frames := 3, cells := 0, slots := 0, locals := 66 } : Room) s m args below meth c H locs 0 0 (MQ below (QG (some (.int r)) g C2 Z) args s 0 0 (gP g)) (F0 m 28 ls []) := by
  unfold F_X10_drumIsDone_28 at h
  refine lv_aload_n hC.1 hC.2.1 dX10_drumIsDone_28 rfl (lv_at hl 0 rfl) ?_
  refine lv_iconst (v := (0 : Int32)) hC.1 hC.2.1 dX10_drumIsDone_29 (by decide) ?_
  obtain ⟨D1, e2, h⟩ := st_some h
  refine pf_RX10_18 hC hH hS  rfl dX10_drumIsDone_30 (fun H locs hH hS => ?_)
  rw [← e2] at hH
  refine lv_aload_n hC.1 hC.2.1 dX10_drumIsDone_33 rfl (lv_at hl 0 rfl) ?_
  refine gf_RX10_42 hC hH rfl dX10_drumIsDone_34 ?_
  obtain ⟨r3, D4, hF5, h⟩ := bd2_some h
  refine gcallV (As := []) (rest := []) (Cn := RX9) hC hE hml hH hS (c_X9_v (Nat.le_of_ble_eq_true rfl) hF5) ⟨wd_799, wd_800, wd_801, wd_12, wd_802⟩ hd_X9_v rfl rfl ⟨Nat.le_of_ble_eq_true rfl, Nat.le_of_ble_eq_true rfl⟩ rfl (hw_recv (q := 5) (i := 1) hC hH ⟨(Nat.le_of_ble_eq_true rfl), fun h => absurd h (by decide)⟩ rfl rfl) rfl hl.1 rfl (Nat.le_of_ble_eq_true rfl) dX10_drumIsDone_37 ⟨Nat.le_of_ble_eq_true rfl, Nat.le_of_ble_eq_true rfl⟩ (fun ed H locs hH hS => ?_)
  refine W.eq (g2 := F0 m 40 ls []) rfl ?_
  refine lv_iconst (v := (1 : Int32)) hC.1 hC.2.1 dX10_drumIsDone_40 (by decide) ?_
  cases h
  exact gret_z hC hr hlk (by decide) hH hS (Nat.le_of_ble_eq_true rfl) (Nat.le_of_ble_eq_true rfl) dX10_drumIsDone_41
def F_X10_drumIsDone (n : Nat)  (C : St) : Option (Int32 × St) := if (C 16 0 5 0) = 0 then (some ((0 : Int32), C)) else (if (C 16 0 5 0) = (1 : Int32) then (bd2 (F_X10_moveToDrum n  C) (fun r6 D7 => F_X10_drumIsDone_28 n  D7)) else (bd2 (F_X10_moveToCore n  C) (fun r3 D4 => F_X10_drumIsDone_28 n  D4)))
set_option maxHeartbeats 4000000 in
set_option maxRecDepth 100000 in
theorem c_X10_drumIsDone {l : Launch} {g : GP} {ed : Nat → Nat} {Z : St}  {C : St} {r : Int32} {C2 : St} (h : F_X10_drumIsDone (gn g)  C = some (r, C2)) : Met l yX10_drumIsDone (Cond.code yX10_drumIsDone cX10_drumIsDone 1 (some .boolean) :: lwG) ({ frames := 3, cells := 0, slots := 0, locals := 66 } : Room) (va_Pc [.ref (gA g 16 0)] (PW g C Z ed)) (QG (some (.int r)) g C2 Z) 0 0 (gP g) := by
  refine Met.ofW (cc := cX10_drumIsDone) (maxL := 1) (ret := (some .boolean)) (by decide +kernel) rfl ?_
  intro p e s m args below meth c s₁ B hml hv
  obtain ⟨ha, hC, hE, hr, hlk, hH⟩ := g_start B hv
  subst ha
  have hC : CX p s m ([.ref (gA g 16 0)] : List Value).toArray c cX10_drumIsDone RX10 g := hC
  have hS : va_S (gP g) s.heap s.heap [] := va_S.rf
  obtain ⟨ls, he, hl⟩ := g_entry m (vs := [.ref (gA g 16 0)]) (n := 1) (List.forall_mem_cons.mpr ⟨rfl, (fun _ h => absurd h List.not_mem_nil)⟩) (Nat.le_of_ble_eq_true rfl)
  rw [he]
  have hl : lv_has ls 1 [(0, .ref (gA g 16 0))] := hl
  unfold F_X10_drumIsDone at h
  refine lv_aload_n hC.1 hC.2.1 dX10_drumIsDone_0 rfl (lv_at hl 0 rfl) ?_
  refine gf_RX10_18 hC hH rfl dX10_drumIsDone_1 ?_
  refine lv_if_ne (tgt := 9) hC.1 hC.2.1 dX10_drumIsDone_4 (by decide) (fun hc1 => ?_) (fun hc1 => ?_)
  · rw [if_neg hc1] at h
    refine lv_aload_n hC.1 hC.2.1 dX10_drumIsDone_9 rfl (lv_at hl 0 rfl) ?_
    refine gf_RX10_18 hC hH rfl dX10_drumIsDone_10 ?_
    refine lv_iconst (v := (1 : Int32)) hC.1 hC.2.1 dX10_drumIsDone_13 (by decide) ?_
    refine lv_icmp_ne (tgt := 24) hC.1 hC.2.1 dX10_drumIsDone_14 (by decide) (fun hc2 => ?_) (fun hc2 => ?_)
    · rw [if_neg hc2] at h
      refine lv_aload_n hC.1 hC.2.1 dX10_drumIsDone_24 rfl (lv_at hl 0 rfl) ?_
      obtain ⟨r3, D4, hF5, h⟩ := bd2_some h
      refine gcallV (As := []) (rest := []) (Cn := RX10) hC hE hml hH hS (c_X10_moveToCore hF5) ⟨wd_1013, wd_1015, wp_31, wd_8, wd_1016⟩ hd_X10_moveToCore rfl rfl ⟨Nat.le_of_ble_eq_true rfl, Nat.le_of_ble_eq_true rfl⟩ rfl (hw_recv (q := 16) (i := 0) hC hH ⟨Nat.zero_lt_one, fun h => absurd h (by decide)⟩ rfl rfl) rfl hl.1 rfl (Nat.le_of_ble_eq_true rfl) dX10_drumIsDone_25 ⟨Nat.le_of_ble_eq_true rfl, Nat.le_of_ble_eq_true rfl⟩ (fun ed H locs hH hS => ?_)
      refine W.eq (g2 := F0 m 28 ls []) rfl ?_
      exact B_X10_drumIsDone_28 hC hE hml hr hlk h hH hS (lv_sub hl [0] rfl)
    · rw [if_pos hc2] at h
      refine lv_aload_n hC.1 hC.2.1 dX10_drumIsDone_17 rfl (lv_at hl 0 rfl) ?_
      obtain ⟨r6, D7, hF8, h⟩ := bd2_some h
      refine gcallV (As := []) (rest := []) (Cn := RX10) hC hE hml hH hS (c_X10_moveToDrum hF8) ⟨wd_1000, wd_1002, wp_30, wd_8, wd_1003⟩ hd_X10_moveToDrum rfl rfl ⟨Nat.le_of_ble_eq_true rfl, Nat.le_of_ble_eq_true rfl⟩ rfl (hw_recv (q := 16) (i := 0) hC hH ⟨Nat.zero_lt_one, fun h => absurd h (by decide)⟩ rfl rfl) rfl hl.1 rfl (Nat.le_of_ble_eq_true rfl) dX10_drumIsDone_18 ⟨Nat.le_of_ble_eq_true rfl, Nat.le_of_ble_eq_true rfl⟩ (fun ed H locs hH hS => ?_)
      refine W.eq (g2 := F0 m 21 ls []) rfl ?_
      refine lv_goto (tgt := 28) hC.1 hC.2.1 dX10_drumIsDone_21 (by decide) ?_
      exact B_X10_drumIsDone_28 hC hE hml hr hlk h hH hS (lv_sub hl [0] rfl)
  · rw [if_pos hc1] at h
    refine lv_iconst (v := (0 : Int32)) hC.1 hC.2.1 dX10_drumIsDone_7 (by decide) ?_
    cases h
    exact gret_z hC hr hlk (by decide) hH hS (Nat.le_of_ble_eq_true rfl) (Nat.le_of_ble_eq_true rfl) dX10_drumIsDone_8
def F_X10_holderOf_61 (n : Nat)  (t0 : Int32) (C : St) : Option (Int32 × St) := some (t0, C)
set_option maxHeartbeats 4000000 in
set_option maxRecDepth 100000 in
theorem B_X10_holderOf_61 {p : Program} {l : Launch} {e : Env} {s : State} {m : MethodId} {args : Array Value} {below : List Frame} {meth : Method} {c : Code} {g : GP} {Z : St} (hC : CX p s m args c cX10_holderOf RX10 g) (hE : EZ g s s.heap) (hml : c.maxLocals = 4) (hr : meth.sig.returnType = (some (.object "DrumLayers$Frame"))) (hlk : meth.locks = false) {r : Int32} {C2 : St} {t0 : Int32} {C : St} (h : F_X10_holderOf_61 (gn g)  t0 C = some (r, C2)) {ed : Nat → Nat} {H : Heap} {locs : List Loc} {ls : Array Slot} (hH : HW g ed C Z H) (hS : va_S (gP g) s.heap H locs) (hl : lv_has ls 4 []) : W p l e ({ frames := 2, cells := 0, slots := 0, locals := 47 } : Room) s m args below meth c H locs 0 0 (MQ below (QG (some (rfv (gA g) 14 r)) g C2 Z) args s 0 0 (gP g)) (F0 m 61 ls [rfv (gA g) 14 t0]) := by
  unfold F_X10_holderOf_61 at h
  cases h
  exact gret_a hC hr hlk hH hS (Nat.le_of_ble_eq_true rfl) (Nat.le_of_ble_eq_true rfl) dX10_holderOf_61
def F_X10_holderOf_40 (n : Nat)  (x1 : Int32) (x2 : Int32) (t0 : Int32) (C : St) : Option (Int32 × St) := if t0 = 0 then (bd2 (F_X2_find n x1 x2 C) (fun r2 D3 => F_X10_holderOf_61 n r2 D3)) else (F_X10_holderOf_61 n (C 16 0 7 0) C)
set_option maxHeartbeats 4000000 in
set_option maxRecDepth 100000 in
theorem B_X10_holderOf_40 {p : Program} {l : Launch} {e : Env} {s : State} {m : MethodId} {args : Array Value} {below : List Frame} {meth : Method} {c : Code} {g : GP} {Z : St} (hC : CX p s m args c cX10_holderOf RX10 g) (hE : EZ g s s.heap) (hml : c.maxLocals = 4) (hr : meth.sig.returnType = (some (.object "DrumLayers$Frame"))) (hlk : meth.locks = false) {r : Int32} {C2 : St} {x1 : Int32} {x2 : Int32} {t0 : Int32} {C : St} (h : F_X10_holderOf_40 (gn g)  x1 x2 t0 C = some (r, C2)) {ed : Nat → Nat} {H : Heap} {locs : List Loc} {ls : Array Slot} (hH : HW g ed C Z H) (hS : va_S (gP g) s.heap H locs) (hl : lv_has ls 4 [(0, .ref (gA g 16 0)), (1, rfv (gA g) 6 x1), (2, .int x2)]) : W p l e ({ frames := 2, cells := 0, slots := 0, locals := 47 } : Room) s m args below meth c H locs 0 0 (MQ below (QG (some (rfv (gA g) 14 r)) g C2 Z) args s 0 0 (gP g)) (F0 m 40 ls [.int t0]) := by
  unfold F_X10_holderOf_40 at h
  refine lv_istore_n (i := 3) (lv' := [(3, .int t0), (0, .ref (gA g 16 0)), (1, rfv (gA g) 6 x1), (2, .int x2)]) hC.1 hC.2.1 dX10_holderOf_40 rfl hl (by decide) rfl (fun ls hl => ?_)
  refine lv_iload_n hC.1 hC.2.1 dX10_holderOf_41 rfl (lv_at hl 0 rfl) ?_
  refine lv_if_eq (tgt := 52) hC.1 hC.2.1 dX10_holderOf_42 (by decide) (fun hc1 => ?_) (fun hc1 => ?_)
  · rw [if_pos hc1] at h
    refine lv_aload_n hC.1 hC.2.1 dX10_holderOf_52 rfl (lv_at hl 1 rfl) ?_
    refine gf_RX10_29 hC hH rfl dX10_holderOf_53 ?_
    refine gl_aload_n hC dX10_holderOf_56 rfl (lv_at hl 2 rfl) ?_
    refine lv_iload_n hC.1 hC.2.1 dX10_holderOf_57 rfl (lv_at hl 3 rfl) ?_
    obtain ⟨r2, D3, hF4, h⟩ := bd2_some h
    refine gcallV (As := [rfv (gA g) 6 x1, .int x2]) (rest := []) (Cn := RX2) hC hE hml hH hS (c_X2_find hF4) ⟨wd_1079, wd_736, wd_737, wd_6, wd_738⟩ hd_X2_find rfl rfl ⟨Nat.le_of_ble_eq_true rfl, Nat.le_of_ble_eq_true rfl⟩ rfl (hw_recv (q := 12) (i := 0) hC hH ⟨Nat.zero_lt_one, fun h => absurd h (by decide)⟩ rfl rfl) rfl hl.1 rfl (Nat.le_of_ble_eq_true rfl) dX10_holderOf_58 ⟨Nat.le_of_ble_eq_true rfl, Nat.le_of_ble_eq_true rfl⟩ (fun ed H locs hH hS => ?_)
    refine W.eq (g2 := F0 m 61 ls [rfv (gA g) 14 r2]) rfl ?_
    exact B_X10_holderOf_61 hC hE hml hr hlk h hH hS (lv_sub hl [] rfl)
  · rw [if_neg hc1] at h
    refine lv_aload_n hC.1 hC.2.1 dX10_holderOf_45 rfl (lv_at hl 1 rfl) ?_
    refine gf_RX10_96 hC hH rfl dX10_holderOf_46 ?_
    refine lv_goto (tgt := 61) hC.1 hC.2.1 dX10_holderOf_49 (by decide) ?_
    exact B_X10_holderOf_61 hC hE hml hr hlk h hH hS (lv_sub hl [] rfl)
def F_X10_holderOf_39 (n : Nat)  (x1 : Int32) (x2 : Int32) (C : St) : Option (Int32 × St) := F_X10_holderOf_40 n x1 x2 (0 : Int32) C
set_option maxHeartbeats 4000000 in
set_option maxRecDepth 100000 in
theorem B_X10_holderOf_39 {p : Program} {l : Launch} {e : Env} {s : State} {m : MethodId} {args : Array Value} {below : List Frame} {meth : Method} {c : Code} {g : GP} {Z : St} (hC : CX p s m args c cX10_holderOf RX10 g) (hE : EZ g s s.heap) (hml : c.maxLocals = 4) (hr : meth.sig.returnType = (some (.object "DrumLayers$Frame"))) (hlk : meth.locks = false) {r : Int32} {C2 : St} {x1 : Int32} {x2 : Int32} {C : St} (h : F_X10_holderOf_39 (gn g)  x1 x2 C = some (r, C2)) {ed : Nat → Nat} {H : Heap} {locs : List Loc} {ls : Array Slot} (hH : HW g ed C Z H) (hS : va_S (gP g) s.heap H locs) (hl : lv_has ls 4 [(0, .ref (gA g 16 0)), (1, rfv (gA g) 6 x1), (2, .int x2)]) : W p l e ({ frames := 2, cells := 0, slots := 0, locals := 47 } : Room) s m args below meth c H locs 0 0 (MQ below (QG (some (rfv (gA g) 14 r)) g C2 Z) args s 0 0 (gP g)) (F0 m 39 ls []) := by
  unfold F_X10_holderOf_39 at h
  refine lv_iconst (v := (0 : Int32)) hC.1 hC.2.1 dX10_holderOf_39 (by decide) ?_
  exact B_X10_holderOf_40 hC hE hml hr hlk h hH hS (lv_sub hl [0, 1, 2] rfl)
def F_X10_holderOf (n : Nat) (x1 : Int32) (x2 : Int32) (C : St) : Option (Int32 × St) := if (C 16 0 5 0) = (1 : Int32) then (gd (okr (C 16 0 9 0) 6) (gd (okr x1 6) (if (C 16 0 9 0) = x1 then (gd (inb x1 6) (bd2 (F_X5_isAsOf n x1 (C 16 0 10 0) C) (fun r5 D6 => if r5 = 0 then (F_X10_holderOf_39 n x1 x2 D6) else (if (D6 16 0 11 0) = x2 then (F_X10_holderOf_40 n x1 x2 (1 : Int32) D6) else (F_X10_holderOf_39 n x1 x2 D6))))) else (F_X10_holderOf_39 n x1 x2 C)))) else (F_X10_holderOf_39 n x1 x2 C)
set_option maxHeartbeats 4000000 in
set_option maxRecDepth 100000 in
theorem c_X10_holderOf {l : Launch} {g : GP} {ed : Nat → Nat} {Z : St} {x1 : Int32} {x2 : Int32} {C : St} {r : Int32} {C2 : St} (h : F_X10_holderOf (gn g) x1 x2 C = some (r, C2)) : Met l yX10_holderOf (Cond.code yX10_holderOf cX10_holderOf 4 (some (.object "DrumLayers$Frame")) :: lwG) ({ frames := 2, cells := 0, slots := 0, locals := 47 } : Room) (va_Pc [.ref (gA g 16 0), rfv (gA g) 6 x1, .int x2] (PW g C Z ed)) (QG (some (rfv (gA g) 14 r)) g C2 Z) 0 0 (gP g) := by
  refine Met.ofW (cc := cX10_holderOf) (maxL := 4) (ret := (some (.object "DrumLayers$Frame"))) (by decide +kernel) rfl ?_
  intro p e s m args below meth c s₁ B hml hv
  obtain ⟨ha, hC, hE, hr, hlk, hH⟩ := g_start B hv
  subst ha
  have hC : CX p s m ([.ref (gA g 16 0), rfv (gA g) 6 x1, .int x2] : List Value).toArray c cX10_holderOf RX10 g := hC
  have hS : va_S (gP g) s.heap s.heap [] := va_S.rf
  obtain ⟨ls, he, hl⟩ := g_entry m (vs := [.ref (gA g 16 0), rfv (gA g) 6 x1, .int x2]) (n := 4) (List.forall_mem_cons.mpr ⟨rfl, (List.forall_mem_cons.mpr ⟨rfv_cat, (List.forall_mem_cons.mpr ⟨rfl, (fun _ h => absurd h List.not_mem_nil)⟩)⟩)⟩) (Nat.le_of_ble_eq_true rfl)
  rw [he]
  have hl : lv_has ls 4 [(0, .ref (gA g 16 0)), (1, rfv (gA g) 6 x1), (2, .int x2)] := hl
  unfold F_X10_holderOf at h
  refine lv_aload_n hC.1 hC.2.1 dX10_holderOf_0 rfl (lv_at hl 0 rfl) ?_
  refine gf_RX10_18 hC hH rfl dX10_holderOf_1 ?_
  refine lv_iconst (v := (1 : Int32)) hC.1 hC.2.1 dX10_holderOf_4 (by decide) ?_
  refine lv_icmp_ne (tgt := 39) hC.1 hC.2.1 dX10_holderOf_5 (by decide) (fun hc1 => ?_) (fun hc1 => ?_)
  · rw [if_neg hc1] at h
    exact B_X10_holderOf_39 hC hE hml hr hlk h hH hS (lv_sub hl [0, 1, 2] rfl)
  · rw [if_pos hc1] at h
    refine lv_aload_n hC.1 hC.2.1 dX10_holderOf_8 rfl (lv_at hl 0 rfl) ?_
    refine gf_RX10_109 hC hH rfl dX10_holderOf_9 ?_
    refine gl_aload_n hC dX10_holderOf_12 rfl (lv_at hl 1 rfl) ?_
    obtain ⟨hg2, h⟩ := gd_some h
    obtain ⟨hg3, h⟩ := gd_some h
    refine gl_acmp_ne (tgt := 39) (n := 6) hC hH (by decide) rfl hg2 hg3 dX10_holderOf_13 (by decide) (fun hc4 => ?_) (fun hc4 => ?_)
    · rw [if_neg hc4] at h
      exact B_X10_holderOf_39 hC hE hml hr hlk h hH hS (lv_sub hl [0, 1, 2] rfl)
    · rw [if_pos hc4] at h
      refine gl_aload_n hC dX10_holderOf_16 rfl (lv_at hl 1 rfl) ?_
      refine lv_aload_n hC.1 hC.2.1 dX10_holderOf_17 rfl (lv_at hl 0 rfl) ?_
      refine gf_RX10_115 hC hH rfl dX10_holderOf_18 ?_
      obtain ⟨hg8, h⟩ := gd_some h
      obtain ⟨r5, D6, hF7, h⟩ := bd2_some h
      refine gcallV (As := [.int (C 16 0 10 0)]) (rest := []) (Cn := RX5) hC hE hml hH hS (c_X5_isAsOf hF7) ⟨wd_1004, wd_1005, wd_1006, wd_5, wd_1007⟩ hd_X5_isAsOf rfl rfl ⟨Nat.le_of_ble_eq_true rfl, Nat.le_of_ble_eq_true rfl⟩ (rfv_in hg8) (hw_recv (q := 6) (i := x1.toNatClampNeg) hC hH ⟨(inb_lt hg8), fun h => absurd h (by decide)⟩ rfl rfl) rfl hl.1 rfl (Nat.le_of_ble_eq_true rfl) dX10_holderOf_21 ⟨Nat.le_of_ble_eq_true rfl, Nat.le_of_ble_eq_true rfl⟩ (fun ed H locs hH hS => ?_)
      refine W.eq (g2 := F0 m 24 ls [.int r5]) rfl ?_
      refine lv_if_eq (tgt := 39) hC.1 hC.2.1 dX10_holderOf_24 (by decide) (fun hc9 => ?_) (fun hc9 => ?_)
      · rw [if_pos hc9] at h
        exact B_X10_holderOf_39 hC hE hml hr hlk h hH hS (lv_sub hl [0, 1, 2] rfl)
      · rw [if_neg hc9] at h
        refine lv_aload_n hC.1 hC.2.1 dX10_holderOf_27 rfl (lv_at hl 0 rfl) ?_
        refine gf_RX10_121 hC hH rfl dX10_holderOf_28 ?_
        refine lv_iload_n hC.1 hC.2.1 dX10_holderOf_31 rfl (lv_at hl 2 rfl) ?_
        refine lv_icmp_ne (tgt := 39) hC.1 hC.2.1 dX10_holderOf_32 (by decide) (fun hc10 => ?_) (fun hc10 => ?_)
        · rw [if_neg hc10] at h
          exact B_X10_holderOf_39 hC hE hml hr hlk h hH hS (lv_sub hl [0, 1, 2] rfl)
        · rw [if_pos hc10] at h
          refine lv_iconst (v := (1 : Int32)) hC.1 hC.2.1 dX10_holderOf_35 (by decide) ?_
          refine lv_goto (tgt := 40) hC.1 hC.2.1 dX10_holderOf_36 (by decide) ?_
          exact B_X10_holderOf_40 hC hE hml hr hlk h hH hS (lv_sub hl [0, 1, 2] rfl)
