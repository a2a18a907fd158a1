def F_X3_read_15 (n : Nat)  (x1 : Int32) (C : St) : Option (Int32 × St) := gd (inb x1 6) (st (up C 6 x1.toNatClampNeg 8 0 (4 : Int32)) (fun D2 => some (0, D2)))
set_option maxHeartbeats 4000000 in
set_option maxRecDepth 100000 in
theorem B_X3_read_15 {p : Program} {l : Launch} {e : Env} {s : State} {m : MethodId} {args : Array Value} {below : List Frame} {meth : Method} {c : Code} {g : GP} {Z : St} (hC : CX p s m args c cX3_read RX3 g) (hE : EZ g s s.heap) (hml : c.maxLocals = 2) (hr : meth.sig.returnType = none) (hlk : meth.locks = false) {r : Int32} {C2 : St} {x1 : Int32} {C : St} (h : F_X3_read_15 (gn g)  x1 C = some (r, C2)) {ed : Nat → Nat} {H : Heap} {locs : List Loc} {ls : Array Slot} (hH : HW g ed C Z H) (hS : va_S (gP g) s.heap H locs) (hl : lv_has ls 2 [(1, rfv (gA g) 6 x1)]) : W p l e ({ frames := 5, cells := 1, slots := 10, locals := 111 } : Room) s m args below meth c H locs 0 0 (MQ below (QG none g C2 Z) args s 1 10 (gP g)) (F0 m 15 ls []) := by
  unfold F_X3_read_15 at h
  refine gl_aload_n hC dX3_read_15 rfl (lv_at hl 0 rfl) ?_
  refine lv_iconst (v := (4 : Int32)) hC.1 hC.2.1 dX3_read_16 (by decide) ?_
  obtain ⟨hg1, h⟩ := gd_some h
  obtain ⟨D2, e3, h⟩ := st_some h
  refine pf_RX3_68 hC hH hS (inb_lt hg1)  (rfv_in hg1) dX3_read_17 (fun H locs hH hS => ?_)
  rw [← e3] at hH
  cases h
  exact gret_v hC hr hlk hH hS (Nat.le_of_ble_eq_true rfl) (Nat.le_of_ble_eq_true rfl) dX3_read_20
def F_X3_read (n : Nat) (x1 : Int32) (C : St) : Option (Int32 × St) := gd (inb x1 6) (bd2 (F_X5_held n x1 (0 : Int32) C) (fun r1 D2 => if r1 ≤ 0 then (F_X3_read_15 n x1 D2) else (bd2 (F_X5_hasCard n x1 D2) (fun r6 D7 => if r6 = 0 then (F_X3_read_15 n x1 D7) else (bd2 (F_Jx4a65c_add_9ea2d 2 x1 D7) (fun r10 D11 => bd2 (F_X7_suspend n (D11 6 x1.toNatClampNeg 0 0) (2 : Int32) D11) (fun r13 D14 => bd2 (F_X9_v n 2 D14) (fun r16 D17 => some (0, D17)))))))))
set_option maxHeartbeats 4000000 in
set_option maxRecDepth 100000 in
theorem c_X3_read {l : Launch} {g : GP} {ed : Nat → Nat} {Z : St} {x1 : Int32} {C : St} {r : Int32} {C2 : St} (h : F_X3_read (gn g) x1 C = some (r, C2)) : Met l yX3_read (Cond.code yX3_read cX3_read 2 none :: lwG) ({ frames := 5, cells := 1, slots := 10, locals := 111 } : Room) (va_Pc [.ref (gA g 23 0), rfv (gA g) 6 x1] (PW g C Z ed)) (QG none g C2 Z) 1 10 (gP g) := by
  refine Met.ofW (cc := cX3_read) (maxL := 2) (ret := none) (by decide +kernel) rfl ?_
  intro p e s m args below meth c s₁ B hml hv
  obtain ⟨ha, hC, hE, hr, hlk, hH⟩ := g_start B hv
  subst ha
  have hC : CX p s m ([.ref (gA g 23 0), rfv (gA g) 6 x1] : List Value).toArray c cX3_read RX3 g := hC
  have hS : va_S (gP g) s.heap s.heap [] := va_S.rf
  obtain ⟨ls, he, hl⟩ := g_entry m (vs := [.ref (gA g 23 0), rfv (gA g) 6 x1]) (n := 2) (List.forall_mem_cons.mpr ⟨rfl, (List.forall_mem_cons.mpr ⟨rfv_cat, (fun _ h => absurd h List.not_mem_nil)⟩)⟩) (Nat.le_of_ble_eq_true rfl)
  rw [he]
  have hl : lv_has ls 2 [(0, .ref (gA g 23 0)), (1, rfv (gA g) 6 x1)] := hl
  unfold F_X3_read at h
  refine gl_aload_n hC dX3_read_0 rfl (lv_at hl 1 rfl) ?_
  refine lv_iconst (v := (0 : Int32)) hC.1 hC.2.1 dX3_read_1 (by decide) ?_
  obtain ⟨hg4, h⟩ := gd_some h
  obtain ⟨r1, D2, hF3, h⟩ := bd2_some h
  refine gcallV (As := [.int (0 : Int32)]) (rest := []) (Cn := RX5) hC hE hml hH hS (c_X5_held hF3) ⟨wd_835, wd_648, wd_649, wd_5, wd_650⟩ hd_X5_held rfl rfl ⟨Nat.le_of_ble_eq_true rfl, Nat.le_of_ble_eq_true rfl⟩ (rfv_in hg4) (hw_recv (q := 6) (i := x1.toNatClampNeg) hC hH ⟨(inb_lt hg4), fun h => absurd h (by decide)⟩ rfl rfl) rfl hl.1 rfl (Nat.le_of_ble_eq_true rfl) dX3_read_2 ⟨Nat.le_of_ble_eq_true rfl, Nat.le_of_ble_eq_true rfl⟩ (fun ed H locs hH hS => ?_)
  refine W.eq (g2 := F0 m 5 ls [.int r1]) rfl ?_
  refine lv_if_le (tgt := 15) hC.1 hC.2.1 dX3_read_5 (by decide) (fun hc5 => ?_) (fun hc5 => ?_)
  · rw [if_pos hc5] at h
    exact B_X3_read_15 hC hE hml hr hlk h hH hS (lv_sub hl [1] rfl)
  · rw [if_neg hc5] at h
    refine gl_aload_n hC dX3_read_8 rfl (lv_at hl 1 rfl) ?_
    obtain ⟨r6, D7, hF8, h⟩ := bd2_some h
    refine gcallV (As := []) (rest := []) (Cn := RX5) hC hE hml hH hS (c_X5_hasCard hF8) ⟨wd_836, wd_837, wd_838, wd_5, wd_839⟩ hd_X5_hasCard rfl rfl ⟨Nat.le_of_ble_eq_true rfl, Nat.le_of_ble_eq_true rfl⟩ (rfv_in hg4) (hw_recv (q := 6) (i := x1.toNatClampNeg) hC hH ⟨(inb_lt hg4), fun h => absurd h (by decide)⟩ rfl rfl) rfl hl.1 rfl (Nat.le_of_ble_eq_true rfl) dX3_read_9 ⟨Nat.le_of_ble_eq_true rfl, Nat.le_of_ble_eq_true rfl⟩ (fun ed H locs hH hS => ?_)
    refine W.eq (g2 := F0 m 12 ls [.int r6]) rfl ?_
    refine lv_if_ne (tgt := 21) hC.1 hC.2.1 dX3_read_12 (by decide) (fun hc9 => ?_) (fun hc9 => ?_)
    · rw [if_neg hc9] at h
      refine lv_aload_n hC.1 hC.2.1 dX3_read_21 rfl (lv_at hl 0 rfl) ?_
      refine gf_RX3_12 hC hH rfl dX3_read_22 ?_
      refine gl_aload_n hC dX3_read_25 rfl (lv_at hl 1 rfl) ?_
      obtain ⟨r10, D11, hF12, h⟩ := bd2_some h
      refine gcallV (As := [rfv (gA g) 6 x1]) (rest := []) (Cn := RJx4a65c) hC hE hml hH hS (c_Jx4a65c_add_9ea2d (Nat.le_of_ble_eq_true rfl) hF12) ⟨wd_840, wd_744, wd_745, wd_11, wd_746⟩ hd_Jx4a65c_add_9ea2d rfl rfl ⟨Nat.le_of_ble_eq_true rfl, Nat.le_of_ble_eq_true rfl⟩ rfl (hw_recv (q := 17) (i := 2) hC hH ⟨(Nat.le_of_ble_eq_true rfl), fun h => absurd h (by decide)⟩ rfl rfl) rfl hl.1 rfl (Nat.le_of_ble_eq_true rfl) dX3_read_26 ⟨Nat.le_of_ble_eq_true rfl, Nat.le_of_ble_eq_true rfl⟩ (fun ed H locs hH hS => ?_)
      refine W.eq (g2 := F0 m 29 ls [.int r10]) rfl ?_
      refine lv_pop hC.1 hC.2.1 dX3_read_29 rfl ?_
      refine lv_aload_n hC.1 hC.2.1 dX3_read_30 rfl (lv_at hl 0 rfl) ?_
      refine gf_RX3_25 hC hH rfl dX3_read_31 ?_
      refine gl_aload_n hC dX3_read_34 rfl (lv_at hl 1 rfl) ?_
      refine gf_RX3_76 hC hH (inb_lt hg4) (rfv_in hg4) dX3_read_35 ?_
      refine lv_iconst (v := (2 : Int32)) hC.1 hC.2.1 dX3_read_38 (by decide) ?_
      obtain ⟨r13, D14, hF15, h⟩ := bd2_some h
      refine gcallV (As := [.int (D11 6 x1.toNatClampNeg 0 0), .int (2 : Int32)]) (rest := []) (Cn := RX7) hC hE hml hH hS (c_X7_suspend hF15) ⟨wd_841, wd_303, wd_304, wd_2, wd_305⟩ hd_X7_suspend rfl rfl ⟨Nat.le_of_ble_eq_true rfl, Nat.le_of_ble_eq_true rfl⟩ rfl (hw_recv (q := 1) (i := 0) hC hH ⟨Nat.zero_lt_one, fun h => absurd h (by decide)⟩ rfl rfl) rfl hl.1 rfl (Nat.le_of_ble_eq_true rfl) dX3_read_39 ⟨Nat.le_of_ble_eq_true rfl, Nat.le_of_ble_eq_true rfl⟩ (fun ed H locs hH hS => ?_)
      refine W.eq (g2 := F0 m 42 ls []) rfl ?_
      refine lv_aload_n hC.1 hC.2.1 dX3_read_42 rfl (lv_at hl 0 rfl) ?_
      refine gf_RX3_42 hC hH rfl dX3_read_43 ?_
      obtain ⟨r16, D17, hF18, h⟩ := bd2_some h
      refine gcallV (As := []) (rest := []) (Cn := RX9) hC hE hml hH hS (c_X9_v (Nat.le_of_ble_eq_true rfl) hF18) ⟨wd_842, wd_800, wd_801, wd_12, wd_802⟩ hd_X9_v rfl rfl ⟨Nat.le_of_ble_eq_true rfl, Nat.le_of_ble_eq_true rfl⟩ rfl (hw_recv (q := 5) (i := 2) hC hH ⟨(Nat.le_of_ble_eq_true rfl), fun h => absurd h (by decide)⟩ rfl rfl) rfl hl.1 rfl (Nat.le_of_ble_eq_true rfl) dX3_read_46 ⟨Nat.le_of_ble_eq_true rfl, Nat.le_of_ble_eq_true rfl⟩ (fun ed H locs hH hS => ?_)
      refine W.eq (g2 := F0 m 49 ls []) rfl ?_
      cases h
      exact gret_v hC hr hlk hH hS (Nat.le_of_ble_eq_true rfl) (Nat.le_of_ble_eq_true rfl) dX3_read_49
    · rw [if_pos hc9] at h
      exact B_X3_read_15 hC hE hml hr hlk h hH hS (lv_sub hl [1] rfl)
def F_X3_readingStep_117 (n : Nat)   (C : St) : Option (Int32 × St) := some (0, C)
set_option maxHeartbeats 4000000 in
set_option maxRecDepth 100000 in
theorem B_X3_readingStep_117 {p : Program} {l : Launch} {e : Env} {s : State} {m : MethodId} {args : Array Value} {below : List Frame} {meth : Method} {c : Code} {g : GP} {Z : St} (hC : CX p s m args c cX3_readingStep RX3 g) (hE : EZ g s s.heap) (hml : c.maxLocals = 1) (hr : meth.sig.returnType = none) (hlk : meth.locks = false) {r : Int32} {C2 : St}  {C : St} (h : F_X3_readingStep_117 (gn g)   C = some (r, C2)) {ed : Nat → Nat} {H : Heap} {locs : List Loc} {ls : Array Slot} (hH : HW g ed C Z H) (hS : va_S (gP g) s.heap H locs) (hl : lv_has ls 1 []) : W p l e ({ frames := 4, cells := 0, slots := 0, locals := 106 } : Room) s m args below meth c H locs 0 0 (MQ below (QG none g C2 Z) args s 0 0 (gP g)) (F0 m 117 ls []) := by
  unfold F_X3_readingStep_117 at h
  cases h
  exact gret_v hC hr hlk hH hS (Nat.le_of_ble_eq_true rfl) (Nat.le_of_ble_eq_true rfl) dX3_readingStep_117
def F_X3_readingStep (n : Nat)  (C : St) : Option (Int32 × St) := if (C 23 0 10 0) < 0 then (bd2 (F_Jx4a65c_isEmpty_aae02 2 C) (fun r2 D3 => if r2 = 0 then (bd2 (F_Jx4a65c_remove_915e3 2 (0 : Int32) D3) (fun r6 D7 => gd (okr r6 6) (st (up D7 23 0 10 0 r6) (fun D10 => st (up D10 23 0 8 0 (1 : Int32)) (fun D12 => bd2 (F_X9_p n 3 D12) (fun r14 D15 => F_X3_readingStep_117 n  D15)))))) else (bd2 (F_X9_p n 2 D3) (fun r17 D18 => F_X3_readingStep_117 n  D18)))) else (gd (inb (C 23 0 10 0) 6) (bd2 (F_X5_takeCard n (C 23 0 10 0) C) (fun r20 D21 => st (up D21 6 (C 23 0 10 0).toNatClampNeg 13 0 r20) (fun D24 => gd (inb (D24 23 0 10 0) 6) (bd2 (F_X2_complete n (D24 23 0 10 0) ((D24 6 (D24 23 0 10 0).toNatClampNeg 12 0) + (1 : Int32)) D24) (fun r27 D28 => gd (inb (D28 23 0 10 0) 6) (bd2 (F_X7_wake n (D28 6 (D28 23 0 10 0).toNatClampNeg 0 0) D28) (fun r31 D32 => st (up D32 23 0 10 0 (-1)) (fun D34 => bd2 (F_X9_p n 2 D34) (fun r36 D37 => F_X3_readingStep_117 n  D37))))))))))
set_option maxHeartbeats 4000000 in
set_option maxRecDepth 100000 in
theorem c_X3_readingStep {l : Launch} {g : GP} {ed : Nat → Nat} {Z : St}  {C : St} {r : Int32} {C2 : St} (h : F_X3_readingStep (gn g)  C = some (r, C2)) : Met l yX3_readingStep (Cond.code yX3_readingStep cX3_readingStep 1 none :: lwG) ({ frames := 4, cells := 0, slots := 0, locals := 106 } : Room) (va_Pc [.ref (gA g 23 0)] (PW g C Z ed)) (QG none g C2 Z) 0 0 (gP g) := by
  refine Met.ofW (cc := cX3_readingStep) (maxL := 1) (ret := none) (by decide +kernel) rfl ?_
  intro p e s m args below meth c s₁ B hml hv
  obtain ⟨ha, hC, hE, hr, hlk, hH⟩ := g_start B hv
  subst ha
  have hC : CX p s m ([.ref (gA g 23 0)] : List Value).toArray c cX3_readingStep RX3 g := hC
  have hS : va_S (gP g) s.heap s.heap [] := va_S.rf
  obtain ⟨ls, he, hl⟩ := g_entry m (vs := [.ref (gA g 23 0)]) (n := 1) (List.forall_mem_cons.mpr ⟨rfl, (fun _ h => absurd h List.not_mem_nil)⟩) (Nat.le_of_ble_eq_true rfl)
  rw [he]
  have hl : lv_has ls 1 [(0, .ref (gA g 23 0))] := hl
  unfold F_X3_readingStep at h
  refine lv_aload_n hC.1 hC.2.1 dX3_readingStep_0 rfl (lv_at hl 0 rfl) ?_
  refine gf_RX3_88 hC hH rfl dX3_readingStep_1 ?_
  refine gl_ifnull (tgt := 70) hC dX3_readingStep_4 (by decide) (fun hc1 => ?_) (fun hc1 => ?_)
  · rw [if_pos hc1] at h
    refine lv_aload_n hC.1 hC.2.1 dX3_readingStep_70 rfl (lv_at hl 0 rfl) ?_
    refine gf_RX3_12 hC hH rfl dX3_readingStep_71 ?_
    obtain ⟨r2, D3, hF4, h⟩ := bd2_some h
    refine gcallV (As := []) (rest := []) (Cn := RJx4a65c) hC hE hml hH hS (c_Jx4a65c_isEmpty_aae02 (Nat.le_of_ble_eq_true rfl) hF4) ⟨wd_919, wd_904, wd_905, wd_11, wd_906⟩ hd_Jx4a65c_isEmpty_aae02 rfl rfl ⟨Nat.le_of_ble_eq_true rfl, Nat.le_of_ble_eq_true rfl⟩ rfl (hw_recv (q := 17) (i := 2) hC hH ⟨(Nat.le_of_ble_eq_true rfl), fun h => absurd h (by decide)⟩ rfl rfl) rfl hl.1 rfl (Nat.le_of_ble_eq_true rfl) dX3_readingStep_74 ⟨Nat.le_of_ble_eq_true rfl, Nat.le_of_ble_eq_true rfl⟩ (fun ed H locs hH hS => ?_)
    refine W.eq (g2 := F0 m 77 ls [.int r2]) rfl ?_
    refine lv_if_eq (tgt := 90) hC.1 hC.2.1 dX3_readingStep_77 (by decide) (fun hc5 => ?_) (fun hc5 => ?_)
    · rw [if_pos hc5] at h
      refine lv_aload_n hC.1 hC.2.1 dX3_readingStep_90 rfl (lv_at hl 0 rfl) ?_
      refine lv_aload_n hC.1 hC.2.1 dX3_readingStep_91 rfl (lv_at hl 0 rfl) ?_
      refine gf_RX3_12 hC hH rfl dX3_readingStep_92 ?_
      refine lv_iconst (v := (0 : Int32)) hC.1 hC.2.1 dX3_readingStep_95 (by decide) ?_
      obtain ⟨r6, D7, hF8, h⟩ := bd2_some h
      refine gcallV (As := [.int (0 : Int32)]) (rest := [.ref (gA g 23 0)]) (Cn := RJx4a65c) hC hE hml hH hS (c_Jx4a65c_remove_915e3 (Nat.le_of_ble_eq_true rfl) hF8) ⟨wd_920, wd_708, wd_709, wd_11, wd_710⟩ hd_Jx4a65c_remove_915e3 rfl rfl ⟨Nat.le_of_ble_eq_true rfl, Nat.le_of_ble_eq_true rfl⟩ rfl (hw_recv (q := 17) (i := 2) hC hH ⟨(Nat.le_of_ble_eq_true rfl), fun h => absurd h (by decide)⟩ rfl rfl) rfl hl.1 rfl (Nat.le_of_ble_eq_true rfl) dX3_readingStep_96 ⟨Nat.le_of_ble_eq_true rfl, Nat.le_of_ble_eq_true rfl⟩ (fun ed H locs hH hS => ?_)
      refine W.eq (g2 := F0 m 99 ls [rfv (gA g) 6 r6, .ref (gA g 23 0)]) rfl ?_
      obtain ⟨hg9, h⟩ := gd_some h
      refine gl_castJ hC hH hg9 wd_921 dX3_readingStep_99 ?_
      obtain ⟨D10, e11, h⟩ := st_some h
      refine pf_RX3_88 hC hH hS  rfl rfl dX3_readingStep_102 (fun H locs hH hS => ?_)
      rw [← e11] at hH
      refine lv_aload_n hC.1 hC.2.1 dX3_readingStep_105 rfl (lv_at hl 0 rfl) ?_
      refine lv_iconst (v := (1 : Int32)) hC.1 hC.2.1 dX3_readingStep_106 (by decide) ?_
      obtain ⟨D12, e13, h⟩ := st_some h
      refine pf_RX3_119 hC hH hS (by decide) rfl dX3_readingStep_107 (fun H locs hH hS => ?_)
      rw [← e13] at hH
      refine lv_aload_n hC.1 hC.2.1 dX3_readingStep_110 rfl (lv_at hl 0 rfl) ?_
      refine gf_RX3_46 hC hH rfl dX3_readingStep_111 ?_
      obtain ⟨r14, D15, hF16, h⟩ := bd2_some h
      refine gcallV (As := []) (rest := []) (Cn := RX9) hC hE hml hH hS (c_X9_p (Nat.le_of_ble_eq_true rfl) hF16) ⟨wd_405, wd_299, wd_300, wd_12, wd_301⟩ hd_X9_p rfl rfl ⟨Nat.le_of_ble_eq_true rfl, Nat.le_of_ble_eq_true rfl⟩ rfl (hw_recv (q := 5) (i := 3) hC hH ⟨(Nat.le_of_ble_eq_true rfl), fun h => absurd h (by decide)⟩ rfl rfl) rfl hl.1 rfl (Nat.le_of_ble_eq_true rfl) dX3_readingStep_114 ⟨Nat.le_of_ble_eq_true rfl, Nat.le_of_ble_eq_true rfl⟩ (fun ed H locs hH hS => ?_)
      refine W.eq (g2 := F0 m 117 ls []) rfl ?_
      exact B_X3_readingStep_117 hC hE hml hr hlk h hH hS (lv_sub hl [] rfl)
    · rw [if_neg hc5] at h
      refine lv_aload_n hC.1 hC.2.1 dX3_readingStep_80 rfl (lv_at hl 0 rfl) ?_
      refine gf_RX3_42 hC hH rfl dX3_readingStep_81 ?_
      obtain ⟨r17, D18, hF19, h⟩ := bd2_some h
      refine gcallV (As := []) (rest := []) (Cn := RX9) hC hE hml hH hS (c_X9_p (Nat.le_of_ble_eq_true rfl) hF19) ⟨wd_405, wd_299, wd_300, wd_12, wd_301⟩ hd_X9_p rfl rfl ⟨Nat.le_of_ble_eq_true rfl, Nat.le_of_ble_eq_true rfl⟩ rfl (hw_recv (q := 5) (i := 2) hC hH ⟨(Nat.le_of_ble_eq_true rfl), fun h => absurd h (by decide)⟩ rfl rfl) rfl hl.1 rfl (Nat.le_of_ble_eq_true rfl) dX3_readingStep_84 ⟨Nat.le_of_ble_eq_true rfl, Nat.le_of_ble_eq_true rfl⟩ (fun ed H locs hH hS => ?_)
      refine W.eq (g2 := F0 m 87 ls []) rfl ?_
      refine lv_goto (tgt := 117) hC.1 hC.2.1 dX3_readingStep_87 (by decide) ?_
      exact B_X3_readingStep_117 hC hE hml hr hlk h hH hS (lv_sub hl [] rfl)
  · rw [if_neg hc1] at h
    refine lv_aload_n hC.1 hC.2.1 dX3_readingStep_7 rfl (lv_at hl 0 rfl) ?_
    refine gf_RX3_88 hC hH rfl dX3_readingStep_8 ?_
    refine lv_aload_n hC.1 hC.2.1 dX3_readingStep_11 rfl (lv_at hl 0 rfl) ?_
    refine gf_RX3_88 hC hH rfl dX3_readingStep_12 ?_
    obtain ⟨hg23, h⟩ := gd_some h
    obtain ⟨r20, D21, hF22, h⟩ := bd2_some h
    refine gcallV (As := []) (rest := [rfv (gA g) 6 (C 23 0 10 0)]) (Cn := RX5) hC hE hml hH hS (c_X5_takeCard hF22) ⟨wd_914, wd_915, wd_916, wd_5, wd_917⟩ hd_X5_takeCard rfl rfl ⟨Nat.le_of_ble_eq_true rfl, Nat.le_of_ble_eq_true rfl⟩ (rfv_in hg23) (hw_recv (q := 6) (i := (C 23 0 10 0).toNatClampNeg) hC hH ⟨(inb_lt hg23), fun h => absurd h (by decide)⟩ rfl rfl) rfl hl.1 rfl (by simp only [List.map_cons, List.map_nil, rfv_cat]; exact Nat.le_of_ble_eq_true rfl) dX3_readingStep_15 ⟨Nat.le_of_ble_eq_true rfl, Nat.le_of_ble_eq_true rfl⟩ (fun ed H locs hH hS => ?_)
    refine W.eq (g2 := F0 m 18 ls [.int r20, rfv (gA g) 6 (C 23 0 10 0)]) rfl ?_
    obtain ⟨D24, e25, h⟩ := st_some h
    refine pf_RX3_96 hC hH hS (inb_lt hg23)  (rfv_in hg23) dX3_readingStep_18 (fun H locs hH hS => ?_)
    rw [← e25] at hH
    refine lv_aload_n hC.1 hC.2.1 dX3_readingStep_21 rfl (lv_at hl 0 rfl) ?_
    refine gf_RX3_29 hC hH rfl dX3_readingStep_22 ?_
    refine lv_aload_n hC.1 hC.2.1 dX3_readingStep_25 rfl (lv_at hl 0 rfl) ?_
    refine gf_RX3_88 hC hH rfl dX3_readingStep_26 ?_
    refine lv_aload_n hC.1 hC.2.1 dX3_readingStep_29 rfl (lv_at hl 0 rfl) ?_
    refine gf_RX3_88 hC hH rfl dX3_readingStep_30 ?_
    obtain ⟨hg26, h⟩ := gd_some h
    refine gf_RX3_99 hC hH (inb_lt hg26) (rfv_in hg26) dX3_readingStep_33 ?_
    refine lv_iconst (v := (1 : Int32)) hC.1 hC.2.1 dX3_readingStep_36 (by decide) ?_
    refine lv_iadd hC.1 hC.2.1 dX3_readingStep_37 ?_
    obtain ⟨r27, D28, hF29, h⟩ := bd2_some h
    refine gcallV (As := [rfv (gA g) 6 (D24 23 0 10 0), .int ((D24 6 (D24 23 0 10 0).toNatClampNeg 12 0) + (1 : Int32))]) (rest := []) (Cn := RX2) hC hE hml hH hS (c_X2_complete hF29) ⟨wd_849, wd_719, wd_720, wd_6, wd_721⟩ hd_X2_complete rfl rfl ⟨Nat.le_of_ble_eq_true rfl, Nat.le_of_ble_eq_true rfl⟩ rfl (hw_recv (q := 12) (i := 0) hC hH ⟨Nat.zero_lt_one, fun h => absurd h (by decide)⟩ rfl rfl) rfl hl.1 rfl (Nat.le_of_ble_eq_true rfl) dX3_readingStep_38 ⟨Nat.le_of_ble_eq_true rfl, Nat.le_of_ble_eq_true rfl⟩ (fun ed H locs hH hS => ?_)
    refine W.eq (g2 := F0 m 41 ls []) rfl ?_
    refine lv_aload_n hC.1 hC.2.1 dX3_readingStep_41 rfl (lv_at hl 0 rfl) ?_
    refine gf_RX3_25 hC hH rfl dX3_readingStep_42 ?_
    refine lv_aload_n hC.1 hC.2.1 dX3_readingStep_45 rfl (lv_at hl 0 rfl) ?_
    refine gf_RX3_88 hC hH rfl dX3_readingStep_46 ?_
    obtain ⟨hg30, h⟩ := gd_some h
    refine gf_RX3_76 hC hH (inb_lt hg30) (rfv_in hg30) dX3_readingStep_49 ?_
    obtain ⟨r31, D32, hF33, h⟩ := bd2_some h
    refine gcallV (As := [.int (D28 6 (D28 23 0 10 0).toNatClampNeg 0 0)]) (rest := []) (Cn := RX7) hC hE hml hH hS (c_X7_wake hF33) ⟨wd_918, wd_723, wd_724, wd_2, wd_725⟩ hd_X7_wake rfl rfl ⟨Nat.le_of_ble_eq_true rfl, Nat.le_of_ble_eq_true rfl⟩ rfl (hw_recv (q := 1) (i := 0) hC hH ⟨Nat.zero_lt_one, fun h => absurd h (by decide)⟩ rfl rfl) rfl hl.1 rfl (Nat.le_of_ble_eq_true rfl) dX3_readingStep_52 ⟨Nat.le_of_ble_eq_true rfl, Nat.le_of_ble_eq_true rfl⟩ (fun ed H locs hH hS => ?_)
    refine W.eq (g2 := F0 m 55 ls []) rfl ?_
    refine lv_aload_n hC.1 hC.2.1 dX3_readingStep_55 rfl (lv_at hl 0 rfl) ?_
    refine lv_null hC.1 hC.2.1 dX3_readingStep_56 ?_
    obtain ⟨D34, e35, h⟩ := st_some h
    refine pf_RX3_88 hC hH hS  rfv_m1.symm rfl dX3_readingStep_57 (fun H locs hH hS => ?_)
    rw [← e35] at hH
    refine lv_aload_n hC.1 hC.2.1 dX3_readingStep_60 rfl (lv_at hl 0 rfl) ?_
    refine gf_RX3_42 hC hH rfl dX3_readingStep_61 ?_
    obtain ⟨r36, D37, hF38, h⟩ := bd2_some h
    refine gcallV (As := []) (rest := []) (Cn := RX9) hC hE hml hH hS (c_X9_p (Nat.le_of_ble_eq_true rfl) hF38) ⟨wd_405, wd_299, wd_300, wd_12, wd_301⟩ hd_X9_p rfl rfl ⟨Nat.le_of_ble_eq_true rfl, Nat.le_of_ble_eq_true rfl⟩ rfl (hw_recv (q := 5) (i := 2) hC hH ⟨(Nat.le_of_ble_eq_true rfl), fun h => absurd h (by decide)⟩ rfl rfl) rfl hl.1 rfl (Nat.le_of_ble_eq_true rfl) dX3_readingStep_64 ⟨Nat.le_of_ble_eq_true rfl, Nat.le_of_ble_eq_true rfl⟩ (fun ed H locs hH hS => ?_)
    refine W.eq (g2 := F0 m 67 ls []) rfl ?_
    refine lv_goto (tgt := 117) hC.1 hC.2.1 dX3_readingStep_67 (by decide) ?_
    exact B_X3_readingStep_117 hC hE hml hr hlk h hH hS (lv_sub hl [] rfl)
def F_X3_readerIsDone (n : Nat)  (C : St) : Option (Int32 × St) := if (C 23 0 8 0) = 0 then (some ((0 : Int32), C)) else (st (up C 23 0 8 0 (0 : Int32)) (fun D2 => bd2 (F_X9_v n 3 D2) (fun r4 D5 => some ((1 : Int32), D5))))
set_option maxHeartbeats 4000000 in
set_option maxRecDepth 100000 in
theorem c_X3_readerIsDone {l : Launch} {g : GP} {ed : Nat → Nat} {Z : St}  {C : St} {r : Int32} {C2 : St} (h : F_X3_readerIsDone (gn g)  C = some (r, C2)) : Met l yX3_readerIsDone (Cond.code yX3_readerIsDone cX3_readerIsDone 1 (some .boolean) :: lwG) ({ frames := 3, cells := 0, slots := 0, locals := 63 } : Room) (va_Pc [.ref (gA g 23 0)] (PW g C Z ed)) (QG (some (.int r)) g C2 Z) 0 0 (gP g) := by
  refine Met.ofW (cc := cX3_readerIsDone) (maxL := 1) (ret := (some .boolean)) (by decide +kernel) rfl ?_
  intro p e s m args below meth c s₁ B hml hv
  obtain ⟨ha, hC, hE, hr, hlk, hH⟩ := g_start B hv
  subst ha
  have hC : CX p s m ([.ref (gA g 23 0)] : List Value).toArray c cX3_readerIsDone RX3 g := hC
  have hS : va_S (gP g) s.heap s.heap [] := va_S.rf
  obtain ⟨ls, he, hl⟩ := g_entry m (vs := [.ref (gA g 23 0)]) (n := 1) (List.forall_mem_cons.mpr ⟨rfl, (fun _ h => absurd h List.not_mem_nil)⟩) (Nat.le_of_ble_eq_true rfl)
  rw [he]
  have hl : lv_has ls 1 [(0, .ref (gA g 23 0))] := hl
  unfold F_X3_readerIsDone at h
  refine lv_aload_n hC.1 hC.2.1 dX3_readerIsDone_0 rfl (lv_at hl 0 rfl) ?_
  refine gf_RX3_119 hC hH rfl dX3_readerIsDone_1 ?_
  refine lv_if_ne (tgt := 9) hC.1 hC.2.1 dX3_readerIsDone_4 (by decide) (fun hc1 => ?_) (fun hc1 => ?_)
  · rw [if_neg hc1] at h
    refine lv_aload_n hC.1 hC.2.1 dX3_readerIsDone_9 rfl (lv_at hl 0 rfl) ?_
    refine lv_iconst (v := (0 : Int32)) hC.1 hC.2.1 dX3_readerIsDone_10 (by decide) ?_
    obtain ⟨D2, e3, h⟩ := st_some h
    refine pf_RX3_119 hC hH hS (by decide) rfl dX3_readerIsDone_11 (fun H locs hH hS => ?_)
    rw [← e3] at hH
    refine lv_aload_n hC.1 hC.2.1 dX3_readerIsDone_14 rfl (lv_at hl 0 rfl) ?_
    refine gf_RX3_46 hC hH rfl dX3_readerIsDone_15 ?_
    obtain ⟨r4, D5, hF6, h⟩ := bd2_some h
    refine gcallV (As := []) (rest := []) (Cn := RX9) hC hE hml hH hS (c_X9_v (Nat.le_of_ble_eq_true rfl) hF6) ⟨wd_842, wd_800, wd_801, wd_12, wd_802⟩ hd_X9_v rfl rfl ⟨Nat.le_of_ble_eq_true rfl, Nat.le_of_ble_eq_true rfl⟩ rfl (hw_recv (q := 5) (i := 3) hC hH ⟨(Nat.le_of_ble_eq_true rfl), fun h => absurd h (by decide)⟩ rfl rfl) rfl hl.1 rfl (Nat.le_of_ble_eq_true rfl) dX3_readerIsDone_18 ⟨Nat.le_of_ble_eq_true rfl, Nat.le_of_ble_eq_true rfl⟩ (fun ed H locs hH hS => ?_)
    refine W.eq (g2 := F0 m 21 ls []) rfl ?_
    refine lv_iconst (v := (1 : Int32)) hC.1 hC.2.1 dX3_readerIsDone_21 (by decide) ?_
    cases h
    exact gret_z hC hr hlk (by decide) hH hS (Nat.le_of_ble_eq_true rfl) (Nat.le_of_ble_eq_true rfl) dX3_readerIsDone_22
  · rw [if_pos hc1] at h
    refine lv_iconst (v := (0 : Int32)) hC.1 hC.2.1 dX3_readerIsDone_7 (by decide) ?_
    cases h
    exact gret_z hC hr hlk (by decide) hH hS (Nat.le_of_ble_eq_true rfl) (Nat.le_of_ble_eq_true rfl) dX3_readerIsDone_8
def F_X3_print_88 (n : Nat)   (C : St) : Option (Int32 × St) := some (0, C)
set_option maxHeartbeats 4000000 in
set_option maxRecDepth 100000 in
theorem B_X3_print_88 {p : Program} {l : Launch} {e : Env} {s : State} {m : MethodId} {args : Array Value} {below : List Frame} {meth : Method} {c : Code} {g : GP} {Z : St} (hC : CX p s m args c cX3_print RX3 g) (hE : EZ g s s.heap) (hml : c.maxLocals = 2) (hr : meth.sig.returnType = none) (hlk : meth.locks = false) {r : Int32} {C2 : St}  {C : St} (h : F_X3_print_88 (gn g)   C = some (r, C2)) {ed : Nat → Nat} {H : Heap} {locs : List Loc} {ls : Array Slot} (hH : HW g ed C Z H) (hS : va_S (gP g) s.heap H locs) (hl : lv_has ls 2 []) : W p l e ({ frames := 3, cells := 0, slots := 0, locals := 65 } : Room) s m args below meth c H locs 0 0 (MQ below (QG none g C2 Z) args s 0 0 (gP g)) (F0 m 88 ls []) := by
  unfold F_X3_print_88 at h
  cases h
  exact gret_v hC hr hlk hH hS (Nat.le_of_ble_eq_true rfl) (Nat.le_of_ble_eq_true rfl) dX3_print_88
def F_X3_print_16 (n : Nat)  (x1 : Int32) (C : St) : Option (Int32 × St) := gd (inb x1 6) (st (up C 6 x1.toNatClampNeg 8 0 (4 : Int32)) (fun D2 => F_X3_print_88 n  D2))
set_option maxHeartbeats 4000000 in
set_option maxRecDepth 100000 in
theorem B_X3_print_16 {p : Program} {l : Launch} {e : Env} {s : State} {m : MethodId} {args : Array Value} {below : List Frame} {meth : Method} {c : Code} {g : GP} {Z : St} (hC : CX p s m args c cX3_print RX3 g) (hE : EZ g s s.heap) (hml : c.maxLocals = 2) (hr : meth.sig.returnType = none) (hlk : meth.locks = false) {r : Int32} {C2 : St} {x1 : Int32} {C : St} (h : F_X3_print_16 (gn g)  x1 C = some (r, C2)) {ed : Nat → Nat} {H : Heap} {locs : List Loc} {ls : Array Slot} (hH : HW g ed C Z H) (hS : va_S (gP g) s.heap H locs) (hl : lv_has ls 2 [(1, rfv (gA g) 6 x1)]) : W p l e ({ frames := 3, cells := 0, slots := 0, locals := 65 } : Room) s m args below meth c H locs 0 0 (MQ below (QG none g C2 Z) args s 0 0 (gP g)) (F0 m 16 ls []) := by
  unfold F_X3_print_16 at h
  refine gl_aload_n hC dX3_print_16 rfl (lv_at hl 0 rfl) ?_
  refine lv_iconst (v := (4 : Int32)) hC.1 hC.2.1 dX3_print_17 (by decide) ?_
  obtain ⟨hg1, h⟩ := gd_some h
  obtain ⟨D2, e3, h⟩ := st_some h
  refine pf_RX3_68 hC hH hS (inb_lt hg1)  (rfv_in hg1) dX3_print_18 (fun H locs hH hS => ?_)
  rw [← e3] at hH
  refine lv_goto (tgt := 88) hC.1 hC.2.1 dX3_print_21 (by decide) ?_
  exact B_X3_print_88 hC hE hml hr hlk h hH hS (lv_sub hl [] rfl)
def F_X3_print (n : Nat) (x1 : Int32) (C : St) : Option (Int32 × St) := gd (inb x1 6) (bd2 (F_X5_held n x1 (1 : Int32) C) (fun r1 D2 => if r1 ≤ 0 then (F_X3_print_16 n x1 D2) else (bd2 (F_X5_held n x1 (2 : Int32) D2) (fun r6 D7 => if 0 < r6 then (bd2 (F_X8_size n (x1.toNatClampNeg + 2) D7) (fun r10 D11 => bd2 (F_X5_held n x1 (2 : Int32) D11) (fun r13 D14 => if r10 < ((4 : Int32) * r13) then (bd2 (F_X8_append n (x1.toNatClampNeg + 2) (D14 6 x1.toNatClampNeg 13 0) D14) (fun r17 D18 => bd2 (F_X2_complete n x1 ((D18 6 x1.toNatClampNeg 12 0) + (1 : Int32)) D18) (fun r20 D21 => bd2 (F_X9_v n 4 D21) (fun r23 D24 => F_X3_print_88 n  D24)))) else (bd2 (F_X7_suspend n (D14 6 x1.toNatClampNeg 0 0) (3 : Int32) D14) (fun r26 D27 => F_X3_print_88 n  D27))))) else (F_X3_print_16 n x1 D7)))))
set_option maxHeartbeats 4000000 in
set_option maxRecDepth 100000 in
theorem c_X3_print {l : Launch} {g : GP} {ed : Nat → Nat} {Z : St} {x1 : Int32} {C : St} {r : Int32} {C2 : St} (h : F_X3_print (gn g) x1 C = some (r, C2)) : Met l yX3_print (Cond.code yX3_print cX3_print 2 none :: lwG) ({ frames := 3, cells := 0, slots := 0, locals := 65 } : Room) (va_Pc [.ref (gA g 23 0), rfv (gA g) 6 x1] (PW g C Z ed)) (QG none g C2 Z) 0 0 (gP g) := by
  refine Met.ofW (cc := cX3_print) (maxL := 2) (ret := none) (by decide +kernel) rfl ?_
  intro p e s m args below meth c s₁ B hml hv
  obtain ⟨ha, hC, hE, hr, hlk, hH⟩ := g_start B hv
  subst ha
  have hC : CX p s m ([.ref (gA g 23 0), rfv (gA g) 6 x1] : List Value).toArray c cX3_print RX3 g := hC
  have hS : va_S (gP g) s.heap s.heap [] := va_S.rf
  obtain ⟨ls, he, hl⟩ := g_entry m (vs := [.ref (gA g 23 0), rfv (gA g) 6 x1]) (n := 2) (List.forall_mem_cons.mpr ⟨rfl, (List.forall_mem_cons.mpr ⟨rfv_cat, (fun _ h => absurd h List.not_mem_nil)⟩)⟩) (Nat.le_of_ble_eq_true rfl)
  rw [he]
  have hl : lv_has ls 2 [(0, .ref (gA g 23 0)), (1, rfv (gA g) 6 x1)] := hl
  unfold F_X3_print at h
  refine gl_aload_n hC dX3_print_0 rfl (lv_at hl 1 rfl) ?_
  refine lv_iconst (v := (1 : Int32)) hC.1 hC.2.1 dX3_print_1 (by decide) ?_
  obtain ⟨hg4, h⟩ := gd_some h
  obtain ⟨r1, D2, hF3, h⟩ := bd2_some h
  refine gcallV (As := [.int (1 : Int32)]) (rest := []) (Cn := RX5) hC hE hml hH hS (c_X5_held hF3) ⟨wd_835, wd_648, wd_649, wd_5, wd_650⟩ hd_X5_held rfl rfl ⟨Nat.le_of_ble_eq_true rfl, Nat.le_of_ble_eq_true rfl⟩ (rfv_in hg4) (hw_recv (q := 6) (i := x1.toNatClampNeg) hC hH ⟨(inb_lt hg4), fun h => absurd h (by decide)⟩ rfl rfl) rfl hl.1 rfl (Nat.le_of_ble_eq_true rfl) dX3_print_2 ⟨Nat.le_of_ble_eq_true rfl, Nat.le_of_ble_eq_true rfl⟩ (fun ed H locs hH hS => ?_)
  refine W.eq (g2 := F0 m 5 ls [.int r1]) rfl ?_
  refine lv_if_le (tgt := 16) hC.1 hC.2.1 dX3_print_5 (by decide) (fun hc5 => ?_) (fun hc5 => ?_)
  · rw [if_pos hc5] at h
    exact B_X3_print_16 hC hE hml hr hlk h hH hS (lv_sub hl [1] rfl)
  · rw [if_neg hc5] at h
    refine gl_aload_n hC dX3_print_8 rfl (lv_at hl 1 rfl) ?_
    refine lv_iconst (v := (2 : Int32)) hC.1 hC.2.1 dX3_print_9 (by decide) ?_
    obtain ⟨r6, D7, hF8, h⟩ := bd2_some h
    refine gcallV (As := [.int (2 : Int32)]) (rest := []) (Cn := RX5) hC hE hml hH hS (c_X5_held hF8) ⟨wd_835, wd_648, wd_649, wd_5, wd_650⟩ hd_X5_held rfl rfl ⟨Nat.le_of_ble_eq_true rfl, Nat.le_of_ble_eq_true rfl⟩ (rfv_in hg4) (hw_recv (q := 6) (i := x1.toNatClampNeg) hC hH ⟨(inb_lt hg4), fun h => absurd h (by decide)⟩ rfl rfl) rfl hl.1 rfl (Nat.le_of_ble_eq_true rfl) dX3_print_10 ⟨Nat.le_of_ble_eq_true rfl, Nat.le_of_ble_eq_true rfl⟩ (fun ed H locs hH hS => ?_)
    refine W.eq (g2 := F0 m 13 ls [.int r6]) rfl ?_
    refine lv_if_gt (tgt := 24) hC.1 hC.2.1 dX3_print_13 (by decide) (fun hc9 => ?_) (fun hc9 => ?_)
    · rw [if_pos hc9] at h
      refine gl_aload_n hC dX3_print_24 rfl (lv_at hl 1 rfl) ?_
      refine gf_RX3_123 hC hH (inb_lt hg4) (rfv_in hg4) dX3_print_25 ?_
      obtain ⟨r10, D11, hF12, h⟩ := bd2_some h
      refine gcallV (As := []) (rest := []) (Cn := RX8) hC hE hml hH hS (c_X8_size (lt8 hg4) hF12) ⟨wd_847, wd_568, wd_569, wd_4, wd_570⟩ hd_X8_size rfl rfl ⟨Nat.le_of_ble_eq_true rfl, Nat.le_of_ble_eq_true rfl⟩ rfl (hw_recv (q := 2) (i := (x1.toNatClampNeg + 2)) hC hH ⟨(lt8 hg4), fun h => absurd h (by decide)⟩ rfl rfl) rfl hl.1 rfl (Nat.le_of_ble_eq_true rfl) dX3_print_28 ⟨Nat.le_of_ble_eq_true rfl, Nat.le_of_ble_eq_true rfl⟩ (fun ed H locs hH hS => ?_)
      refine W.eq (g2 := F0 m 31 ls [.int r10]) rfl ?_
      refine lv_iconst (v := (4 : Int32)) hC.1 hC.2.1 dX3_print_31 (by decide) ?_
      refine gl_aload_n hC dX3_print_32 rfl (lv_at hl 1 rfl) ?_
      refine lv_iconst (v := (2 : Int32)) hC.1 hC.2.1 dX3_print_33 (by decide) ?_
      obtain ⟨r13, D14, hF15, h⟩ := bd2_some h
      refine gcallV (As := [.int (2 : Int32)]) (rest := [.int (4 : Int32), .int r10]) (Cn := RX5) hC hE hml hH hS (c_X5_held hF15) ⟨wd_835, wd_648, wd_649, wd_5, wd_650⟩ hd_X5_held rfl rfl ⟨Nat.le_of_ble_eq_true rfl, Nat.le_of_ble_eq_true rfl⟩ (rfv_in hg4) (hw_recv (q := 6) (i := x1.toNatClampNeg) hC hH ⟨(inb_lt hg4), fun h => absurd h (by decide)⟩ rfl rfl) rfl hl.1 rfl (Nat.le_of_ble_eq_true rfl) dX3_print_34 ⟨Nat.le_of_ble_eq_true rfl, Nat.le_of_ble_eq_true rfl⟩ (fun ed H locs hH hS => ?_)
      refine W.eq (g2 := F0 m 37 ls [.int r13, .int (4 : Int32), .int r10]) rfl ?_
      refine lv_imul hC.1 hC.2.1 dX3_print_37 ?_
      refine lv_icmp_lt (tgt := 56) hC.1 hC.2.1 dX3_print_38 (by decide) (fun hc16 => ?_) (fun hc16 => ?_)
      · rw [if_pos hc16] at h
        refine gl_aload_n hC dX3_print_56 rfl (lv_at hl 1 rfl) ?_
        refine gf_RX3_123 hC hH (inb_lt hg4) (rfv_in hg4) dX3_print_57 ?_
        refine gl_aload_n hC dX3_print_60 rfl (lv_at hl 1 rfl) ?_
        refine gf_RX3_96 hC hH (inb_lt hg4) (rfv_in hg4) dX3_print_61 ?_
        obtain ⟨r17, D18, hF19, h⟩ := bd2_some h
        refine gcallV (As := [.int (D14 6 x1.toNatClampNeg 13 0)]) (rest := []) (Cn := RX8) hC hE hml hH hS (c_X8_append (lt8 hg4) hF19) ⟨wd_848, wd_572, wd_573, wd_4, wd_574⟩ hd_X8_append rfl rfl ⟨Nat.le_of_ble_eq_true rfl, Nat.le_of_ble_eq_true rfl⟩ rfl (hw_recv (q := 2) (i := (x1.toNatClampNeg + 2)) hC hH ⟨(lt8 hg4), fun h => absurd h (by decide)⟩ rfl rfl) rfl hl.1 rfl (Nat.le_of_ble_eq_true rfl) dX3_print_64 ⟨Nat.le_of_ble_eq_true rfl, Nat.le_of_ble_eq_true rfl⟩ (fun ed H locs hH hS => ?_)
        refine W.eq (g2 := F0 m 67 ls []) rfl ?_
        refine lv_aload_n hC.1 hC.2.1 dX3_print_67 rfl (lv_at hl 0 rfl) ?_
        refine gf_RX3_29 hC hH rfl dX3_print_68 ?_
        refine gl_aload_n hC dX3_print_71 rfl (lv_at hl 1 rfl) ?_
        refine gl_aload_n hC dX3_print_72 rfl (lv_at hl 1 rfl) ?_
        refine gf_RX3_99 hC hH (inb_lt hg4) (rfv_in hg4) dX3_print_73 ?_
        refine lv_iconst (v := (1 : Int32)) hC.1 hC.2.1 dX3_print_76 (by decide) ?_
        refine lv_iadd hC.1 hC.2.1 dX3_print_77 ?_
        obtain ⟨r20, D21, hF22, h⟩ := bd2_some h
        refine gcallV (As := [rfv (gA g) 6 x1, .int ((D18 6 x1.toNatClampNeg 12 0) + (1 : Int32))]) (rest := []) (Cn := RX2) hC hE hml hH hS (c_X2_complete hF22) ⟨wd_849, wd_719, wd_720, wd_6, wd_721⟩ hd_X2_complete rfl rfl ⟨Nat.le_of_ble_eq_true rfl, Nat.le_of_ble_eq_true rfl⟩ rfl (hw_recv (q := 12) (i := 0) hC hH ⟨Nat.zero_lt_one, fun h => absurd h (by decide)⟩ rfl rfl) rfl hl.1 rfl (Nat.le_of_ble_eq_true rfl) dX3_print_78 ⟨Nat.le_of_ble_eq_true rfl, Nat.le_of_ble_eq_true rfl⟩ (fun ed H locs hH hS => ?_)
        refine W.eq (g2 := F0 m 81 ls []) rfl ?_
        refine lv_aload_n hC.1 hC.2.1 dX3_print_81 rfl (lv_at hl 0 rfl) ?_
        refine gf_RX3_49 hC hH rfl dX3_print_82 ?_
        obtain ⟨r23, D24, hF25, h⟩ := bd2_some h
        refine gcallV (As := []) (rest := []) (Cn := RX9) hC hE hml hH hS (c_X9_v (Nat.le_of_ble_eq_true rfl) hF25) ⟨wd_842, wd_800, wd_801, wd_12, wd_802⟩ hd_X9_v rfl rfl ⟨Nat.le_of_ble_eq_true rfl, Nat.le_of_ble_eq_true rfl⟩ rfl (hw_recv (q := 5) (i := 4) hC hH ⟨(Nat.le_of_ble_eq_true rfl), fun h => absurd h (by decide)⟩ rfl rfl) rfl hl.1 rfl (Nat.le_of_ble_eq_true rfl) dX3_print_85 ⟨Nat.le_of_ble_eq_true rfl, Nat.le_of_ble_eq_true rfl⟩ (fun ed H locs hH hS => ?_)
        refine W.eq (g2 := F0 m 88 ls []) rfl ?_
        exact B_X3_print_88 hC hE hml hr hlk h hH hS (lv_sub hl [] rfl)
      · rw [if_neg hc16] at h
        refine lv_aload_n hC.1 hC.2.1 dX3_print_41 rfl (lv_at hl 0 rfl) ?_
        refine gf_RX3_25 hC hH rfl dX3_print_42 ?_
        refine gl_aload_n hC dX3_print_45 rfl (lv_at hl 1 rfl) ?_
        refine gf_RX3_76 hC hH (inb_lt hg4) (rfv_in hg4) dX3_print_46 ?_
        refine lv_iconst (v := (3 : Int32)) hC.1 hC.2.1 dX3_print_49 (by decide) ?_
        obtain ⟨r26, D27, hF28, h⟩ := bd2_some h
        refine gcallV (As := [.int (D14 6 x1.toNatClampNeg 0 0), .int (3 : Int32)]) (rest := []) (Cn := RX7) hC hE hml hH hS (c_X7_suspend hF28) ⟨wd_841, wd_303, wd_304, wd_2, wd_305⟩ hd_X7_suspend rfl rfl ⟨Nat.le_of_ble_eq_true rfl, Nat.le_of_ble_eq_true rfl⟩ rfl (hw_recv (q := 1) (i := 0) hC hH ⟨Nat.zero_lt_one, fun h => absurd h (by decide)⟩ rfl rfl) rfl hl.1 rfl (Nat.le_of_ble_eq_true rfl) dX3_print_50 ⟨Nat.le_of_ble_eq_true rfl, Nat.le_of_ble_eq_true rfl⟩ (fun ed H locs hH hS => ?_)
        refine W.eq (g2 := F0 m 53 ls []) rfl ?_
        refine lv_goto (tgt := 88) hC.1 hC.2.1 dX3_print_53 (by decide) ?_
        exact B_X3_print_88 hC hE hml hr hlk h hH hS (lv_sub hl [] rfl)
    · rw [if_neg hc9] at h
      exact B_X3_print_16 hC hE hml hr hlk h hH hS (lv_sub hl [1] rfl)
def F_X3_putOnPaper_67 (n : Nat)  (x1 : Int32) (C : St) : Option (Int32 × St) := gd (inb x1 6) (bd2 (F_X8_removeAt n (x1.toNatClampNeg + 2) (0 : Int32) C) (fun r2 D3 => some (0, D3)))
set_option maxHeartbeats 4000000 in
set_option maxRecDepth 100000 in
theorem B_X3_putOnPaper_67 {p : Program} {l : Launch} {e : Env} {s : State} {m : MethodId} {args : Array Value} {below : List Frame} {meth : Method} {c : Code} {g : GP} {Z : St} (hC : CX p s m args c cX3_putOnPaper RX3 g) (hE : EZ g s s.heap) (hml : c.maxLocals = 2) (hr : meth.sig.returnType = none) (hlk : meth.locks = false) {r : Int32} {C2 : St} {x1 : Int32} {C : St} (h : F_X3_putOnPaper_67 (gn g)  x1 C = some (r, C2)) {ed : Nat → Nat} {H : Heap} {locs : List Loc} {ls : Array Slot} (hH : HW g ed C Z H) (hS : va_S (gP g) s.heap H locs) (hl : lv_has ls 2 [(1, rfv (gA g) 6 x1)]) : W p l e ({ frames := 1, cells := 0, slots := 0, locals := 22 } : Room) s m args below meth c H locs 0 0 (MQ below (QG none g C2 Z) args s 0 0 (gP g)) (F0 m 67 ls []) := by
  unfold F_X3_putOnPaper_67 at h
  refine gl_aload_n hC dX3_putOnPaper_67 rfl (lv_at hl 0 rfl) ?_
  obtain ⟨hg1, h⟩ := gd_some h
  refine gf_RX3_123 hC hH (inb_lt hg1) (rfv_in hg1) dX3_putOnPaper_68 ?_
  refine lv_iconst (v := (0 : Int32)) hC.1 hC.2.1 dX3_putOnPaper_71 (by decide) ?_
  obtain ⟨r2, D3, hF4, h⟩ := bd2_some h
  refine gcallV (As := [.int (0 : Int32)]) (rest := []) (Cn := RX8) hC hE hml hH hS (c_X8_removeAt (lt8 hg1) hF4) ⟨wd_931, wd_315, wd_316, wd_4, wd_317⟩ hd_X8_removeAt rfl rfl ⟨Nat.le_of_ble_eq_true rfl, Nat.le_of_ble_eq_true rfl⟩ rfl (hw_recv (q := 2) (i := (x1.toNatClampNeg + 2)) hC hH ⟨(lt8 hg1), fun h => absurd h (by decide)⟩ rfl rfl) rfl hl.1 rfl (Nat.le_of_ble_eq_true rfl) dX3_putOnPaper_72 ⟨Nat.le_of_ble_eq_true rfl, Nat.le_of_ble_eq_true rfl⟩ (fun ed H locs hH hS => ?_)
  refine W.eq (g2 := F0 m 75 ls []) rfl ?_
  cases h
  exact gret_v hC hr hlk hH hS (Nat.le_of_ble_eq_true rfl) (Nat.le_of_ble_eq_true rfl) dX3_putOnPaper_75
def F_X3_putOnPaper (n : Nat) (x1 : Int32) (C : St) : Option (Int32 × St) := if (C 23 0 14 0) < 0 then (F_X3_putOnPaper_67 n x1 C) else (if (512 : Int32) ≤ (C 23 0 14 0) then (F_X3_putOnPaper_67 n x1 C) else (gd (inb x1 6) (bd2 (F_X8_at n (x1.toNatClampNeg + 2) (0 : Int32) C) (fun r4 D5 => gd (inb (C 23 0 14 0) 512) (st (up D5 24 0 0 (C 23 0 14 0).toNatClampNeg r4) (fun D8 => gd (inb (D8 23 0 14 0) 512) (st (up D8 25 0 0 (D8 23 0 14 0).toNatClampNeg (D8 6 x1.toNatClampNeg 6 0)) (fun D11 => st (up D11 23 0 14 0 ((D11 23 0 14 0) + (1 : Int32))) (fun D13 => st (up D13 6 x1.toNatClampNeg 17 0 ((D13 6 x1.toNatClampNeg 17 0) + (1 : Int32))) (fun D15 => F_X3_putOnPaper_67 n x1 D15))))))))))
set_option maxHeartbeats 4000000 in
set_option maxRecDepth 100000 in
theorem c_X3_putOnPaper {l : Launch} {g : GP} {ed : Nat → Nat} {Z : St} {x1 : Int32} {C : St} {r : Int32} {C2 : St} (h : F_X3_putOnPaper (gn g) x1 C = some (r, C2)) : Met l yX3_putOnPaper (Cond.code yX3_putOnPaper cX3_putOnPaper 2 none :: lwG) ({ frames := 1, cells := 0, slots := 0, locals := 22 } : Room) (va_Pc [.ref (gA g 23 0), rfv (gA g) 6 x1] (PW g C Z ed)) (QG none g C2 Z) 0 0 (gP g) := by
  refine Met.ofW (cc := cX3_putOnPaper) (maxL := 2) (ret := none) (by decide +kernel) rfl ?_
  intro p e s m args below meth c s₁ B hml hv
  obtain ⟨ha, hC, hE, hr, hlk, hH⟩ := g_start B hv
  subst ha
  have hC : CX p s m ([.ref (gA g 23 0), rfv (gA g) 6 x1] : List Value).toArray c cX3_putOnPaper RX3 g := hC
  have hS : va_S (gP g) s.heap s.heap [] := va_S.rf
  obtain ⟨ls, he, hl⟩ := g_entry m (vs := [.ref (gA g 23 0), rfv (gA g) 6 x1]) (n := 2) (List.forall_mem_cons.mpr ⟨rfl, (List.forall_mem_cons.mpr ⟨rfv_cat, (fun _ h => absurd h List.not_mem_nil)⟩)⟩) (Nat.le_of_ble_eq_true rfl)
  rw [he]
  have hl : lv_has ls 2 [(0, .ref (gA g 23 0)), (1, rfv (gA g) 6 x1)] := hl
  unfold F_X3_putOnPaper at h
  refine lv_aload_n hC.1 hC.2.1 dX3_putOnPaper_0 rfl (lv_at hl 0 rfl) ?_
  refine gf_RX3_154 hC hH rfl dX3_putOnPaper_1 ?_
  refine lv_if_lt (tgt := 67) hC.1 hC.2.1 dX3_putOnPaper_4 (by decide) (fun hc1 => ?_) (fun hc1 => ?_)
  · rw [if_pos hc1] at h
    exact B_X3_putOnPaper_67 hC hE hml hr hlk h hH hS (lv_sub hl [1] rfl)
  · rw [if_neg hc1] at h
    refine lv_aload_n hC.1 hC.2.1 dX3_putOnPaper_7 rfl (lv_at hl 0 rfl) ?_
    refine gf_RX3_154 hC hH rfl dX3_putOnPaper_8 ?_
    refine lv_sipush (v := (512 : Int32)) hC.1 hC.2.1 dX3_putOnPaper_11 (by decide) ?_
    refine lv_icmp_ge (tgt := 67) hC.1 hC.2.1 dX3_putOnPaper_14 (by decide) (fun hc2 => ?_) (fun hc2 => ?_)
    · rw [if_pos hc2] at h
      exact B_X3_putOnPaper_67 hC hE hml hr hlk h hH hS (lv_sub hl [1] rfl)
    · rw [if_neg hc2] at h
      refine lv_aload_n hC.1 hC.2.1 dX3_putOnPaper_17 rfl (lv_at hl 0 rfl) ?_
      refine gf_RX3_18 hC hH rfl dX3_putOnPaper_18 ?_
      refine lv_aload_n hC.1 hC.2.1 dX3_putOnPaper_21 rfl (lv_at hl 0 rfl) ?_
      refine gf_RX3_154 hC hH rfl dX3_putOnPaper_22 ?_
      refine gl_aload_n hC dX3_putOnPaper_25 rfl (lv_at hl 1 rfl) ?_
      obtain ⟨hg3, h⟩ := gd_some h
      refine gf_RX3_123 hC hH (inb_lt hg3) (rfv_in hg3) dX3_putOnPaper_26 ?_
      refine lv_iconst (v := (0 : Int32)) hC.1 hC.2.1 dX3_putOnPaper_29 (by decide) ?_
      obtain ⟨r4, D5, hF6, h⟩ := bd2_some h
      refine gcallV (As := [.int (0 : Int32)]) (rest := [.int (C 23 0 14 0), .ref (gA g 24 0)]) (Cn := RX8) hC hE hml hH hS (c_X8_at (lt8 hg3) hF6) ⟨wd_930, wd_604, wd_605, wd_4, wd_606⟩ hd_X8_at rfl rfl ⟨Nat.le_of_ble_eq_true rfl, Nat.le_of_ble_eq_true rfl⟩ rfl (hw_recv (q := 2) (i := (x1.toNatClampNeg + 2)) hC hH ⟨(lt8 hg3), fun h => absurd h (by decide)⟩ rfl rfl) rfl hl.1 rfl (Nat.le_of_ble_eq_true rfl) dX3_putOnPaper_30 ⟨Nat.le_of_ble_eq_true rfl, Nat.le_of_ble_eq_true rfl⟩ (fun ed H locs hH hS => ?_)
      refine W.eq (g2 := F0 m 33 ls [.int r4, .int (C 23 0 14 0), .ref (gA g 24 0)]) rfl ?_
      obtain ⟨hg7, h⟩ := gd_some h
      obtain ⟨D8, e9, h⟩ := st_some h
      refine as_24 hC hH hS hg7 rfl dX3_putOnPaper_33 (fun H locs hH hS => ?_)
      rw [← e9] at hH
      refine lv_aload_n hC.1 hC.2.1 dX3_putOnPaper_34 rfl (lv_at hl 0 rfl) ?_
      refine gf_RX3_22 hC hH rfl dX3_putOnPaper_35 ?_
      refine lv_aload_n hC.1 hC.2.1 dX3_putOnPaper_38 rfl (lv_at hl 0 rfl) ?_
      refine gf_RX3_154 hC hH rfl dX3_putOnPaper_39 ?_
      refine gl_aload_n hC dX3_putOnPaper_42 rfl (lv_at hl 1 rfl) ?_
      refine gf_RX3_160 hC hH (inb_lt hg3) (rfv_in hg3) dX3_putOnPaper_43 ?_
      obtain ⟨hg10, h⟩ := gd_some h
      obtain ⟨D11, e12, h⟩ := st_some h
      refine as_25 hC hH hS hg10 rfl dX3_putOnPaper_46 (fun H locs hH hS => ?_)
      rw [← e12] at hH
      refine lv_aload_n hC.1 hC.2.1 dX3_putOnPaper_47 rfl (lv_at hl 0 rfl) ?_
      refine lv_dup hC.1 hC.2.1 dX3_putOnPaper_48 rfl ?_
      refine gf_RX3_154 hC hH rfl dX3_putOnPaper_49 ?_
      refine lv_iconst (v := (1 : Int32)) hC.1 hC.2.1 dX3_putOnPaper_52 (by decide) ?_
      refine lv_iadd hC.1 hC.2.1 dX3_putOnPaper_53 ?_
      obtain ⟨D13, e14, h⟩ := st_some h
      refine pf_RX3_154 hC hH hS  rfl dX3_putOnPaper_54 (fun H locs hH hS => ?_)
      rw [← e14] at hH
      refine gl_aload_n hC dX3_putOnPaper_57 rfl (lv_at hl 1 rfl) ?_
      refine lv_dup hC.1 hC.2.1 dX3_putOnPaper_58 rfv_cat ?_
      refine gf_RX3_163 hC hH (inb_lt hg3) (rfv_in hg3) dX3_putOnPaper_59 ?_
      refine lv_iconst (v := (1 : Int32)) hC.1 hC.2.1 dX3_putOnPaper_62 (by decide) ?_
      refine lv_iadd hC.1 hC.2.1 dX3_putOnPaper_63 ?_
      obtain ⟨D15, e16, h⟩ := st_some h
      refine pf_RX3_163 hC hH hS (inb_lt hg3)  (rfv_in hg3) dX3_putOnPaper_64 (fun H locs hH hS => ?_)
      rw [← e16] at hH
      exact B_X3_putOnPaper_67 hC hE hml hr hlk h hH hS (lv_sub hl [1] rfl)
def F_X3_wakePrinted_53 (n : Nat)   (C : St) : Option (Int32 × St) := some (0, C)
set_option maxHeartbeats 4000000 in
set_option maxRecDepth 100000 in
theorem B_X3_wakePrinted_53 {p : Program} {l : Launch} {e : Env} {s : State} {m : MethodId} {args : Array Value} {below : List Frame} {meth : Method} {c : Code} {g : GP} {Z : St} (hC : CX p s m args c cX3_wakePrinted RX3 g) (hE : EZ g s s.heap) (hml : c.maxLocals = 4) (hr : meth.sig.returnType = none) (hlk : meth.locks = false) {r : Int32} {C2 : St}  {C : St} (h : F_X3_wakePrinted_53 (gn g)   C = some (r, C2)) {ed : Nat → Nat} {H : Heap} {locs : List Loc} {ls : Array Slot} (hH : HW g ed C Z H) (hS : va_S (gP g) s.heap H locs) (hl : lv_has ls 4 []) : W p l e ({ frames := 2, cells := 0, slots := 0, locals := 43 } : Room) s m args below meth c H locs 0 0 (MQ below (QG none g C2 Z) args s 0 0 (gP g)) (F0 m 53 ls []) := by
  unfold F_X3_wakePrinted_53 at h
  cases h
  exact gret_v hC hr hlk hH hS (Nat.le_of_ble_eq_true rfl) (Nat.le_of_ble_eq_true rfl) dX3_wakePrinted_53
def F_X3_wakePrinted_42 (n : Nat)  (x1 : Int32) (C : St) : Option (Int32 × St) := gd (inb x1 6) (bd2 (F_X7_wake n (C 6 x1.toNatClampNeg 0 0) C) (fun r2 D3 => F_X3_wakePrinted_53 n  D3))
set_option maxHeartbeats 4000000 in
set_option maxRecDepth 100000 in
theorem B_X3_wakePrinted_42 {p : Program} {l : Launch} {e : Env} {s : State} {m : MethodId} {args : Array Value} {below : List Frame} {meth : Method} {c : Code} {g : GP} {Z : St} (hC : CX p s m args c cX3_wakePrinted RX3 g) (hE : EZ g s s.heap) (hml : c.maxLocals = 4) (hr : meth.sig.returnType = none) (hlk : meth.locks = false) {r : Int32} {C2 : St} {x1 : Int32} {C : St} (h : F_X3_wakePrinted_42 (gn g)  x1 C = some (r, C2)) {ed : Nat → Nat} {H : Heap} {locs : List Loc} {ls : Array Slot} (hH : HW g ed C Z H) (hS : va_S (gP g) s.heap H locs) (hl : lv_has ls 4 [(0, .ref (gA g 23 0)), (1, rfv (gA g) 6 x1)]) : W p l e ({ frames := 2, cells := 0, slots := 0, locals := 43 } : Room) s m args below meth c H locs 0 0 (MQ below (QG none g C2 Z) args s 0 0 (gP g)) (F0 m 42 ls []) := by
  unfold F_X3_wakePrinted_42 at h
  refine lv_aload_n hC.1 hC.2.1 dX3_wakePrinted_42 rfl (lv_at hl 0 rfl) ?_
  refine gf_RX3_25 hC hH rfl dX3_wakePrinted_43 ?_
  refine gl_aload_n hC dX3_wakePrinted_46 rfl (lv_at hl 1 rfl) ?_
  obtain ⟨hg1, h⟩ := gd_some h
  refine gf_RX3_76 hC hH (inb_lt hg1) (rfv_in hg1) dX3_wakePrinted_47 ?_
  obtain ⟨r2, D3, hF4, h⟩ := bd2_some h
  refine gcallV (As := [.int (C 6 x1.toNatClampNeg 0 0)]) (rest := []) (Cn := RX7) hC hE hml hH hS (c_X7_wake hF4) ⟨wd_918, wd_723, wd_724, wd_2, wd_725⟩ hd_X7_wake rfl rfl ⟨Nat.le_of_ble_eq_true rfl, Nat.le_of_ble_eq_true rfl⟩ rfl (hw_recv (q := 1) (i := 0) hC hH ⟨Nat.zero_lt_one, fun h => absurd h (by decide)⟩ rfl rfl) rfl hl.1 rfl (Nat.le_of_ble_eq_true rfl) dX3_wakePrinted_50 ⟨Nat.le_of_ble_eq_true rfl, Nat.le_of_ble_eq_true rfl⟩ (fun ed H locs hH hS => ?_)
  refine W.eq (g2 := F0 m 53 ls []) rfl ?_
  exact B_X3_wakePrinted_53 hC hE hml hr hlk h hH hS (lv_sub hl [] rfl)
def F_X3_wakePrinted_32 (n : Nat)  (x1 : Int32) (x2 : Int32) (t0 : Int32) (C : St) : Option (Int32 × St) := if x2 = (3 : Int32) then (F_X3_wakePrinted_42 n x1 C) else (if t0 = 0 then (F_X3_wakePrinted_53 n  C) else (F_X3_wakePrinted_42 n x1 C))
set_option maxHeartbeats 4000000 in
set_option maxRecDepth 100000 in
theorem B_X3_wakePrinted_32 {p : Program} {l : Launch} {e : Env} {s : State} {m : MethodId} {args : Array Value} {below : List Frame} {meth : Method} {c : Code} {g : GP} {Z : St} (hC : CX p s m args c cX3_wakePrinted RX3 g) (hE : EZ g s s.heap) (hml : c.maxLocals = 4) (hr : meth.sig.returnType = none) (hlk : meth.locks = false) {r : Int32} {C2 : St} {x1 : Int32} {x2 : Int32} {t0 : Int32} {C : St} (h : F_X3_wakePrinted_32 (gn g)  x1 x2 t0 C = some (r, C2)) {ed : Nat → Nat} {H : Heap} {locs : List Loc} {ls : Array Slot} (hH : HW g ed C Z H) (hS : va_S (gP g) s.heap H locs) (hl : lv_has ls 4 [(0, .ref (gA g 23 0)), (1, rfv (gA g) 6 x1), (2, .int x2)]) : W p l e ({ frames := 2, cells := 0, slots := 0, locals := 43 } : Room) s m args below meth c H locs 0 0 (MQ below (QG none g C2 Z) args s 0 0 (gP g)) (F0 m 32 ls [.int t0]) := by
  unfold F_X3_wakePrinted_32 at h
  refine lv_istore_n (i := 3) (lv' := [(3, .int t0), (0, .ref (gA g 23 0)), (1, rfv (gA g) 6 x1), (2, .int x2)]) hC.1 hC.2.1 dX3_wakePrinted_32 rfl hl (by decide) rfl (fun ls hl => ?_)
  refine lv_iload_n hC.1 hC.2.1 dX3_wakePrinted_33 rfl (lv_at hl 3 rfl) ?_
  refine lv_iconst (v := (3 : Int32)) hC.1 hC.2.1 dX3_wakePrinted_34 (by decide) ?_
  refine lv_icmp_eq (tgt := 42) hC.1 hC.2.1 dX3_wakePrinted_35 (by decide) (fun hc1 => ?_) (fun hc1 => ?_)
  · rw [if_pos hc1] at h
    exact B_X3_wakePrinted_42 hC hE hml hr hlk h hH hS (lv_sub hl [1, 2] rfl)
  · rw [if_neg hc1] at h
    refine lv_iload_n hC.1 hC.2.1 dX3_wakePrinted_38 rfl (lv_at hl 0 rfl) ?_
    refine lv_if_eq (tgt := 53) hC.1 hC.2.1 dX3_wakePrinted_39 (by decide) (fun hc2 => ?_) (fun hc2 => ?_)
    · rw [if_pos hc2] at h
      exact B_X3_wakePrinted_53 hC hE hml hr hlk h hH hS (lv_sub hl [] rfl)
    · rw [if_neg hc2] at h
      exact B_X3_wakePrinted_42 hC hE hml hr hlk h hH hS (lv_sub hl [1, 2] rfl)
def F_X3_wakePrinted_31 (n : Nat)  (x1 : Int32) (x2 : Int32) (C : St) : Option (Int32 × St) := F_X3_wakePrinted_32 n x1 x2 (0 : Int32) C
set_option maxHeartbeats 4000000 in
set_option maxRecDepth 100000 in
theorem B_X3_wakePrinted_31 {p : Program} {l : Launch} {e : Env} {s : State} {m : MethodId} {args : Array Value} {below : List Frame} {meth : Method} {c : Code} {g : GP} {Z : St} (hC : CX p s m args c cX3_wakePrinted RX3 g) (hE : EZ g s s.heap) (hml : c.maxLocals = 4) (hr : meth.sig.returnType = none) (hlk : meth.locks = false) {r : Int32} {C2 : St} {x1 : Int32} {x2 : Int32} {C : St} (h : F_X3_wakePrinted_31 (gn g)  x1 x2 C = some (r, C2)) {ed : Nat → Nat} {H : Heap} {locs : List Loc} {ls : Array Slot} (hH : HW g ed C Z H) (hS : va_S (gP g) s.heap H locs) (hl : lv_has ls 4 [(0, .ref (gA g 23 0)), (1, rfv (gA g) 6 x1), (2, .int x2)]) : W p l e ({ frames := 2, cells := 0, slots := 0, locals := 43 } : Room) s m args below meth c H locs 0 0 (MQ below (QG none g C2 Z) args s 0 0 (gP g)) (F0 m 31 ls []) := by
  unfold F_X3_wakePrinted_31 at h
  refine lv_iconst (v := (0 : Int32)) hC.1 hC.2.1 dX3_wakePrinted_31 (by decide) ?_
  exact B_X3_wakePrinted_32 hC hE hml hr hlk h hH hS (lv_sub hl [0, 1, 2] rfl)
def F_X3_wakePrinted (n : Nat) (x1 : Int32) (C : St) : Option (Int32 × St) := gd (inb x1 6) (bd2 (F_X7_causeOf n (C 6 x1.toNatClampNeg 0 0) C) (fun r2 D3 => if r2 = (4 : Int32) then (bd2 (F_X8_size n (x1.toNatClampNeg + 2) D3) (fun r6 D7 => if r6 = 0 then (F_X3_wakePrinted_32 n x1 r2 (1 : Int32) D7) else (F_X3_wakePrinted_31 n x1 r2 D7))) else (F_X3_wakePrinted_31 n x1 r2 D3)))
set_option maxHeartbeats 4000000 in
set_option maxRecDepth 100000 in
theorem c_X3_wakePrinted {l : Launch} {g : GP} {ed : Nat → Nat} {Z : St} {x1 : Int32} {C : St} {r : Int32} {C2 : St} (h : F_X3_wakePrinted (gn g) x1 C = some (r, C2)) : Met l yX3_wakePrinted (Cond.code yX3_wakePrinted cX3_wakePrinted 4 none :: lwG) ({ frames := 2, cells := 0, slots := 0, locals := 43 } : Room) (va_Pc [.ref (gA g 23 0), rfv (gA g) 6 x1] (PW g C Z ed)) (QG none g C2 Z) 0 0 (gP g) := by
  refine Met.ofW (cc := cX3_wakePrinted) (maxL := 4) (ret := none) (by decide +kernel) rfl ?_
  intro p e s m args below meth c s₁ B hml hv
  obtain ⟨ha, hC, hE, hr, hlk, hH⟩ := g_start B hv
  subst ha
  have hC : CX p s m ([.ref (gA g 23 0), rfv (gA g) 6 x1] : List Value).toArray c cX3_wakePrinted RX3 g := hC
  have hS : va_S (gP g) s.heap s.heap [] := va_S.rf
  obtain ⟨ls, he, hl⟩ := g_entry m (vs := [.ref (gA g 23 0), rfv (gA g) 6 x1]) (n := 4) (List.forall_mem_cons.mpr ⟨rfl, (List.forall_mem_cons.mpr ⟨rfv_cat, (fun _ h => absurd h List.not_mem_nil)⟩)⟩) (Nat.le_of_ble_eq_true rfl)
  rw [he]
  have hl : lv_has ls 4 [(0, .ref (gA g 23 0)), (1, rfv (gA g) 6 x1)] := hl
  unfold F_X3_wakePrinted at h
  refine lv_aload_n hC.1 hC.2.1 dX3_wakePrinted_0 rfl (lv_at hl 0 rfl) ?_
  refine gf_RX3_25 hC hH rfl dX3_wakePrinted_1 ?_
  refine gl_aload_n hC dX3_wakePrinted_4 rfl (lv_at hl 1 rfl) ?_
  obtain ⟨hg1, h⟩ := gd_some h
  refine gf_RX3_76 hC hH (inb_lt hg1) (rfv_in hg1) dX3_wakePrinted_5 ?_
  obtain ⟨r2, D3, hF4, h⟩ := bd2_some h
  refine gcallV (As := [.int (C 6 x1.toNatClampNeg 0 0)]) (rest := []) (Cn := RX7) hC hE hml hH hS (c_X7_causeOf hF4) ⟨wd_936, wd_937, wd_938, wd_2, wd_939⟩ hd_X7_causeOf rfl rfl ⟨Nat.le_of_ble_eq_true rfl, Nat.le_of_ble_eq_true rfl⟩ rfl (hw_recv (q := 1) (i := 0) hC hH ⟨Nat.zero_lt_one, fun h => absurd h (by decide)⟩ rfl rfl) rfl hl.1 rfl (Nat.le_of_ble_eq_true rfl) dX3_wakePrinted_8 ⟨Nat.le_of_ble_eq_true rfl, Nat.le_of_ble_eq_true rfl⟩ (fun ed H locs hH hS => ?_)
  refine W.eq (g2 := F0 m 11 ls [.int r2]) rfl ?_
  refine lv_istore_n (i := 2) (lv' := [(2, .int r2), (0, .ref (gA g 23 0)), (1, rfv (gA g) 6 x1)]) hC.1 hC.2.1 dX3_wakePrinted_11 rfl hl (by decide) (by simp [rfv_cat]) (fun ls hl => ?_)
  refine lv_iload_n hC.1 hC.2.1 dX3_wakePrinted_12 rfl (lv_at hl 0 rfl) ?_
  refine lv_iconst (v := (4 : Int32)) hC.1 hC.2.1 dX3_wakePrinted_13 (by decide) ?_
  refine lv_icmp_ne (tgt := 31) hC.1 hC.2.1 dX3_wakePrinted_14 (by decide) (fun hc5 => ?_) (fun hc5 => ?_)
  · rw [if_neg hc5] at h
    exact B_X3_wakePrinted_31 hC hE hml hr hlk h hH hS (lv_sub hl [1, 2, 0] rfl)
  · rw [if_pos hc5] at h
    refine gl_aload_n hC dX3_wakePrinted_17 rfl (lv_at hl 2 rfl) ?_
    refine gf_RX3_123 hC hH (inb_lt hg1) (rfv_in hg1) dX3_wakePrinted_18 ?_
    obtain ⟨r6, D7, hF8, h⟩ := bd2_some h
    refine gcallV (As := []) (rest := []) (Cn := RX8) hC hE hml hH hS (c_X8_size (lt8 hg1) hF8) ⟨wd_847, wd_568, wd_569, wd_4, wd_570⟩ hd_X8_size rfl rfl ⟨Nat.le_of_ble_eq_true rfl, Nat.le_of_ble_eq_true rfl⟩ rfl (hw_recv (q := 2) (i := (x1.toNatClampNeg + 2)) hC hH ⟨(lt8 hg1), fun h => absurd h (by decide)⟩ rfl rfl) rfl hl.1 rfl (Nat.le_of_ble_eq_true rfl) dX3_wakePrinted_21 ⟨Nat.le_of_ble_eq_true rfl, Nat.le_of_ble_eq_true rfl⟩ (fun ed H locs hH hS => ?_)
    refine W.eq (g2 := F0 m 24 ls [.int r6]) rfl ?_
    refine lv_if_ne (tgt := 31) hC.1 hC.2.1 dX3_wakePrinted_24 (by decide) (fun hc9 => ?_) (fun hc9 => ?_)
    · rw [if_neg hc9] at h
      exact B_X3_wakePrinted_31 hC hE hml hr hlk h hH hS (lv_sub hl [1, 2, 0] rfl)
    · rw [if_pos hc9] at h
      refine lv_iconst (v := (1 : Int32)) hC.1 hC.2.1 dX3_wakePrinted_27 (by decide) ?_
      refine lv_goto (tgt := 32) hC.1 hC.2.1 dX3_wakePrinted_28 (by decide) ?_
      exact B_X3_wakePrinted_32 hC hE hml hr hlk h hH hS (lv_sub hl [1, 2, 0] rfl)
def F_X3_printingStep_76 (n : Nat)   (C : St) : Option (Int32 × St) := some (0, C)
set_option maxHeartbeats 4000000 in
set_option maxRecDepth 100000 in
theorem B_X3_printingStep_76 {p : Program} {l : Launch} {e : Env} {s : State} {m : MethodId} {args : Array Value} {below : List Frame} {meth : Method} {c : Code} {g : GP} {Z : St} (hC : CX p s m args c cX3_printingStep RX3 g) (hE : EZ g s s.heap) (hml : c.maxLocals = 1) (hr : meth.sig.returnType = none) (hlk : meth.locks = false) {r : Int32} {C2 : St}  {C : St} (h : F_X3_printingStep_76 (gn g)   C = some (r, C2)) {ed : Nat → Nat} {H : Heap} {locs : List Loc} {ls : Array Slot} (hH : HW g ed C Z H) (hS : va_S (gP g) s.heap H locs) (hl : lv_has ls 1 []) : W p l e ({ frames := 4, cells := 0, slots := 0, locals := 85 } : Room) s m args below meth c H locs 0 0 (MQ below (QG none g C2 Z) args s 0 0 (gP g)) (F0 m 76 ls []) := by
  unfold F_X3_printingStep_76 at h
  cases h
  exact gret_v hC hr hlk hH hS (Nat.le_of_ble_eq_true rfl) (Nat.le_of_ble_eq_true rfl) dX3_printingStep_76
def F_X3_printingStep (n : Nat)  (C : St) : Option (Int32 × St) := if (C 23 0 11 0) < 0 then (bd2 (F_X0_holderOfPrinter n  C) (fun r2 D3 => st (up D3 23 0 11 0 r2) (fun D5 => if (D5 23 0 11 0) < 0 then (bd2 (F_X9_p n 4 D5) (fun r13 D14 => F_X3_printingStep_76 n  D14)) else (st (up D5 23 0 9 0 (1 : Int32)) (fun D8 => bd2 (F_X9_p n 5 D8) (fun r10 D11 => F_X3_printingStep_76 n  D11)))))) else (bd2 (F_X3_putOnPaper n (C 23 0 11 0) C) (fun r16 D17 => bd2 (F_X3_wakePrinted n (D17 23 0 11 0) D17) (fun r19 D20 => st (up D20 23 0 11 0 (-1)) (fun D22 => bd2 (F_X9_p n 4 D22) (fun r24 D25 => some (0, D25))))))
set_option maxHeartbeats 4000000 in
set_option maxRecDepth 100000 in
theorem c_X3_printingStep {l : Launch} {g : GP} {ed : Nat → Nat} {Z : St}  {C : St} {r : Int32} {C2 : St} (h : F_X3_printingStep (gn g)  C = some (r, C2)) : Met l yX3_printingStep (Cond.code yX3_printingStep cX3_printingStep 1 none :: lwG) ({ frames := 4, cells := 0, slots := 0, locals := 85 } : Room) (va_Pc [.ref (gA g 23 0)] (PW g C Z ed)) (QG none g C2 Z) 0 0 (gP g) := by
  refine Met.ofW (cc := cX3_printingStep) (maxL := 1) (ret := none) (by decide +kernel) rfl ?_
  intro p e s m args below meth c s₁ B hml hv
  obtain ⟨ha, hC, hE, hr, hlk, hH⟩ := g_start B hv
  subst ha
  have hC : CX p s m ([.ref (gA g 23 0)] : List Value).toArray c cX3_printingStep RX3 g := hC
  have hS : va_S (gP g) s.heap s.heap [] := va_S.rf
  obtain ⟨ls, he, hl⟩ := g_entry m (vs := [.ref (gA g 23 0)]) (n := 1) (List.forall_mem_cons.mpr ⟨rfl, (fun _ h => absurd h List.not_mem_nil)⟩) (Nat.le_of_ble_eq_true rfl)
  rw [he]
  have hl : lv_has ls 1 [(0, .ref (gA g 23 0))] := hl
  unfold F_X3_printingStep at h
  refine lv_aload_n hC.1 hC.2.1 dX3_printingStep_0 rfl (lv_at hl 0 rfl) ?_
  refine gf_RX3_135 hC hH rfl dX3_printingStep_1 ?_
  refine gl_ifnull (tgt := 36) hC dX3_printingStep_4 (by decide) (fun hc1 => ?_) (fun hc1 => ?_)
  · rw [if_pos hc1] at h
    refine lv_aload_n hC.1 hC.2.1 dX3_printingStep_36 rfl (lv_at hl 0 rfl) ?_
    refine lv_aload_n hC.1 hC.2.1 dX3_printingStep_37 rfl (lv_at hl 0 rfl) ?_
    refine gf_RX3_33 hC hH rfl dX3_printingStep_38 ?_
    obtain ⟨r2, D3, hF4, h⟩ := bd2_some h
    refine gcallV (As := []) (rest := [.ref (gA g 23 0)]) (Cn := RX0) hC hE hml hH hS (c_X0_holderOfPrinter hF4) ⟨wd_940, wd_941, wd_942, wd_13, wd_943⟩ hd_X0_holderOfPrinter rfl rfl ⟨Nat.le_of_ble_eq_true rfl, Nat.le_of_ble_eq_true rfl⟩ rfl (hw_recv (q := 19) (i := 0) hC hH ⟨Nat.zero_lt_one, fun h => absurd h (by decide)⟩ rfl rfl) rfl hl.1 rfl (Nat.le_of_ble_eq_true rfl) dX3_printingStep_41 ⟨Nat.le_of_ble_eq_true rfl, Nat.le_of_ble_eq_true rfl⟩ (fun ed H locs hH hS => ?_)
    refine W.eq (g2 := F0 m 44 ls [rfv (gA g) 6 r2, .ref (gA g 23 0)]) rfl ?_
    obtain ⟨D5, e6, h⟩ := st_some h
    refine pf_RX3_135 hC hH hS  rfl rfl dX3_printingStep_44 (fun H locs hH hS => ?_)
    rw [← e6] at hH
    refine lv_aload_n hC.1 hC.2.1 dX3_printingStep_47 rfl (lv_at hl 0 rfl) ?_
    refine gf_RX3_135 hC hH rfl dX3_printingStep_48 ?_
    refine gl_ifnonnull (tgt := 64) hC dX3_printingStep_51 (by decide) (fun hc7 => ?_) (fun hc7 => ?_)
    · rw [if_neg hc7] at h
      refine lv_aload_n hC.1 hC.2.1 dX3_printingStep_64 rfl (lv_at hl 0 rfl) ?_
      refine lv_iconst (v := (1 : Int32)) hC.1 hC.2.1 dX3_printingStep_65 (by decide) ?_
      obtain ⟨D8, e9, h⟩ := st_some h
      refine pf_RX3_151 hC hH hS (by decide) rfl dX3_printingStep_66 (fun H locs hH hS => ?_)
      rw [← e9] at hH
      refine lv_aload_n hC.1 hC.2.1 dX3_printingStep_69 rfl (lv_at hl 0 rfl) ?_
      refine gf_RX3_52 hC hH rfl dX3_printingStep_70 ?_
      obtain ⟨r10, D11, hF12, h⟩ := bd2_some h
      refine gcallV (As := []) (rest := []) (Cn := RX9) hC hE hml hH hS (c_X9_p (Nat.le_of_ble_eq_true rfl) hF12) ⟨wd_405, wd_299, wd_300, wd_12, wd_301⟩ hd_X9_p rfl rfl ⟨Nat.le_of_ble_eq_true rfl, Nat.le_of_ble_eq_true rfl⟩ rfl (hw_recv (q := 5) (i := 5) hC hH ⟨(Nat.le_of_ble_eq_true rfl), fun h => absurd h (by decide)⟩ rfl rfl) rfl hl.1 rfl (Nat.le_of_ble_eq_true rfl) dX3_printingStep_73 ⟨Nat.le_of_ble_eq_true rfl, Nat.le_of_ble_eq_true rfl⟩ (fun ed H locs hH hS => ?_)
      refine W.eq (g2 := F0 m 76 ls []) rfl ?_
      exact B_X3_printingStep_76 hC hE hml hr hlk h hH hS (lv_sub hl [] rfl)
    · rw [if_pos hc7] at h
      refine lv_aload_n hC.1 hC.2.1 dX3_printingStep_54 rfl (lv_at hl 0 rfl) ?_
      refine gf_RX3_49 hC hH rfl dX3_printingStep_55 ?_
      obtain ⟨r13, D14, hF15, h⟩ := bd2_some h
      refine gcallV (As := []) (rest := []) (Cn := RX9) hC hE hml hH hS (c_X9_p (Nat.le_of_ble_eq_true rfl) hF15) ⟨wd_405, wd_299, wd_300, wd_12, wd_301⟩ hd_X9_p rfl rfl ⟨Nat.le_of_ble_eq_true rfl, Nat.le_of_ble_eq_true rfl⟩ rfl (hw_recv (q := 5) (i := 4) hC hH ⟨(Nat.le_of_ble_eq_true rfl), fun h => absurd h (by decide)⟩ rfl rfl) rfl hl.1 rfl (Nat.le_of_ble_eq_true rfl) dX3_printingStep_58 ⟨Nat.le_of_ble_eq_true rfl, Nat.le_of_ble_eq_true rfl⟩ (fun ed H locs hH hS => ?_)
      refine W.eq (g2 := F0 m 61 ls []) rfl ?_
      refine lv_goto (tgt := 76) hC.1 hC.2.1 dX3_printingStep_61 (by decide) ?_
      exact B_X3_printingStep_76 hC hE hml hr hlk h hH hS (lv_sub hl [] rfl)
  · rw [if_neg hc1] at h
    refine lv_aload_n hC.1 hC.2.1 dX3_printingStep_7 rfl (lv_at hl 0 rfl) ?_
    refine lv_aload_n hC.1 hC.2.1 dX3_printingStep_8 rfl (lv_at hl 0 rfl) ?_
    refine gf_RX3_135 hC hH rfl dX3_printingStep_9 ?_
    obtain ⟨r16, D17, hF18, h⟩ := bd2_some h
    refine gcallV (As := [rfv (gA g) 6 (C 23 0 11 0)]) (rest := []) (Cn := RX3) hC hE hml hH hS (c_X3_putOnPaper hF18) ⟨wd_926, wd_928, wp_21, wd_14, wd_929⟩ hd_X3_putOnPaper rfl rfl ⟨Nat.le_of_ble_eq_true rfl, Nat.le_of_ble_eq_true rfl⟩ rfl (hw_recv (q := 23) (i := 0) hC hH ⟨Nat.zero_lt_one, fun h => absurd h (by decide)⟩ rfl rfl) rfl hl.1 rfl (Nat.le_of_ble_eq_true rfl) dX3_printingStep_12 ⟨Nat.le_of_ble_eq_true rfl, Nat.le_of_ble_eq_true rfl⟩ (fun ed H locs hH hS => ?_)
    refine W.eq (g2 := F0 m 15 ls []) rfl ?_
    refine lv_aload_n hC.1 hC.2.1 dX3_printingStep_15 rfl (lv_at hl 0 rfl) ?_
    refine lv_aload_n hC.1 hC.2.1 dX3_printingStep_16 rfl (lv_at hl 0 rfl) ?_
    refine gf_RX3_135 hC hH rfl dX3_printingStep_17 ?_
    obtain ⟨r19, D20, hF21, h⟩ := bd2_some h
    refine gcallV (As := [rfv (gA g) 6 (D17 23 0 11 0)]) (rest := []) (Cn := RX3) hC hE hml hH hS (c_X3_wakePrinted hF21) ⟨wd_932, wd_934, wp_22, wd_14, wd_935⟩ hd_X3_wakePrinted rfl rfl ⟨Nat.le_of_ble_eq_true rfl, Nat.le_of_ble_eq_true rfl⟩ rfl (hw_recv (q := 23) (i := 0) hC hH ⟨Nat.zero_lt_one, fun h => absurd h (by decide)⟩ rfl rfl) rfl hl.1 rfl (Nat.le_of_ble_eq_true rfl) dX3_printingStep_20 ⟨Nat.le_of_ble_eq_true rfl, Nat.le_of_ble_eq_true rfl⟩ (fun ed H locs hH hS => ?_)
    refine W.eq (g2 := F0 m 23 ls []) rfl ?_
    refine lv_aload_n hC.1 hC.2.1 dX3_printingStep_23 rfl (lv_at hl 0 rfl) ?_
    refine lv_null hC.1 hC.2.1 dX3_printingStep_24 ?_
    obtain ⟨D22, e23, h⟩ := st_some h
    refine pf_RX3_135 hC hH hS  rfv_m1.symm rfl dX3_printingStep_25 (fun H locs hH hS => ?_)
    rw [← e23] at hH
    refine lv_aload_n hC.1 hC.2.1 dX3_printingStep_28 rfl (lv_at hl 0 rfl) ?_
    refine gf_RX3_49 hC hH rfl dX3_printingStep_29 ?_
    obtain ⟨r24, D25, hF26, h⟩ := bd2_some h
    refine gcallV (As := []) (rest := []) (Cn := RX9) hC hE hml hH hS (c_X9_p (Nat.le_of_ble_eq_true rfl) hF26) ⟨wd_405, wd_299, wd_300, wd_12, wd_301⟩ hd_X9_p rfl rfl ⟨Nat.le_of_ble_eq_true rfl, Nat.le_of_ble_eq_true rfl⟩ rfl (hw_recv (q := 5) (i := 4) hC hH ⟨(Nat.le_of_ble_eq_true rfl), fun h => absurd h (by decide)⟩ rfl rfl) rfl hl.1 rfl (Nat.le_of_ble_eq_true rfl) dX3_printingStep_32 ⟨Nat.le_of_ble_eq_true rfl, Nat.le_of_ble_eq_true rfl⟩ (fun ed H locs hH hS => ?_)
    refine W.eq (g2 := F0 m 35 ls []) rfl ?_
    cases h
    exact gret_v hC hr hlk hH hS (Nat.le_of_ble_eq_true rfl) (Nat.le_of_ble_eq_true rfl) dX3_printingStep_35
def F_X3_printerIsDone (n : Nat)  (C : St) : Option (Int32 × St) := if (C 23 0 9 0) = 0 then (some ((0 : Int32), C)) else (st (up C 23 0 9 0 (0 : Int32)) (fun D2 => bd2 (F_X9_v n 5 D2) (fun r4 D5 => some ((1 : Int32), D5))))
set_option maxHeartbeats 4000000 in
set_option maxRecDepth 100000 in
theorem c_X3_printerIsDone {l : Launch} {g : GP} {ed : Nat → Nat} {Z : St}  {C : St} {r : Int32} {C2 : St} (h : F_X3_printerIsDone (gn g)  C = some (r, C2)) : Met l yX3_printerIsDone (Cond.code yX3_printerIsDone cX3_printerIsDone 1 (some .boolean) :: lwG) ({ frames := 3, cells := 0, slots := 0, locals := 63 } : Room) (va_Pc [.ref (gA g 23 0)] (PW g C Z ed)) (QG (some (.int r)) g C2 Z) 0 0 (gP g) := by
  refine Met.ofW (cc := cX3_printerIsDone) (maxL := 1) (ret := (some .boolean)) (by decide +kernel) rfl ?_
  intro p e s m args below meth c s₁ B hml hv
  obtain ⟨ha, hC, hE, hr, hlk, hH⟩ := g_start B hv
  subst ha
  have hC : CX p s m ([.ref (gA g 23 0)] : List Value).toArray c cX3_printerIsDone RX3 g := hC
  have hS : va_S (gP g) s.heap s.heap [] := va_S.rf
  obtain ⟨ls, he, hl⟩ := g_entry m (vs := [.ref (gA g 23 0)]) (n := 1) (List.forall_mem_cons.mpr ⟨rfl, (fun _ h => absurd h List.not_mem_nil)⟩) (Nat.le_of_ble_eq_true rfl)
  rw [he]
  have hl : lv_has ls 1 [(0, .ref (gA g 23 0))] := hl
  unfold F_X3_printerIsDone at h
  refine lv_aload_n hC.1 hC.2.1 dX3_printerIsDone_0 rfl (lv_at hl 0 rfl) ?_
  refine gf_RX3_151 hC hH rfl dX3_printerIsDone_1 ?_
  refine lv_if_ne (tgt := 9) hC.1 hC.2.1 dX3_printerIsDone_4 (by decide) (fun hc1 => ?_) (fun hc1 => ?_)
  · rw [if_neg hc1] at h
    refine lv_aload_n hC.1 hC.2.1 dX3_printerIsDone_9 rfl (lv_at hl 0 rfl) ?_
    refine lv_iconst (v := (0 : Int32)) hC.1 hC.2.1 dX3_printerIsDone_10 (by decide) ?_
    obtain ⟨D2, e3, h⟩ := st_some h
    refine pf_RX3_151 hC hH hS (by decide) rfl dX3_printerIsDone_11 (fun H locs hH hS => ?_)
    rw [← e3] at hH
    refine lv_aload_n hC.1 hC.2.1 dX3_printerIsDone_14 rfl (lv_at hl 0 rfl) ?_
    refine gf_RX3_52 hC hH rfl dX3_printerIsDone_15 ?_
    obtain ⟨r4, D5, hF6, h⟩ := bd2_some h
    refine gcallV (As := []) (rest := []) (Cn := RX9) hC hE hml hH hS (c_X9_v (Nat.le_of_ble_eq_true rfl) hF6) ⟨wd_842, wd_800, wd_801, wd_12, wd_802⟩ hd_X9_v rfl rfl ⟨Nat.le_of_ble_eq_true rfl, Nat.le_of_ble_eq_true rfl⟩ rfl (hw_recv (q := 5) (i := 5) hC hH ⟨(Nat.le_of_ble_eq_true rfl), fun h => absurd h (by decide)⟩ rfl rfl) rfl hl.1 rfl (Nat.le_of_ble_eq_true rfl) dX3_printerIsDone_18 ⟨Nat.le_of_ble_eq_true rfl, Nat.le_of_ble_eq_true rfl⟩ (fun ed H locs hH hS => ?_)
    refine W.eq (g2 := F0 m 21 ls []) rfl ?_
    refine lv_iconst (v := (1 : Int32)) hC.1 hC.2.1 dX3_printerIsDone_21 (by decide) ?_
    cases h
    exact gret_z hC hr hlk (by decide) hH hS (Nat.le_of_ble_eq_true rfl) (Nat.le_of_ble_eq_true rfl) dX3_printerIsDone_22
  · rw [if_pos hc1] at h
    refine lv_iconst (v := (0 : Int32)) hC.1 hC.2.1 dX3_printerIsDone_7 (by decide) ?_
    cases h
    exact gret_z hC hr hlk (by decide) hH hS (Nat.le_of_ble_eq_true rfl) (Nat.le_of_ble_eq_true rfl) dX3_printerIsDone_8
def F_X3_lineOnPaper_19 (n : Nat)   (C : St) : Option (Int32 × St) := some ((0 : Int32), C)
set_option maxHeartbeats 4000000 in
set_option maxRecDepth 100000 in
theorem B_X3_lineOnPaper_19 {p : Program} {l : Launch} {e : Env} {s : State} {m : MethodId} {args : Array Value} {below : List Frame} {meth : Method} {c : Code} {g : GP} {Z : St} (hC : CX p s m args c cX3_lineOnPaper RX3 g) (hE : EZ g s s.heap) (hml : c.maxLocals = 5) (hr : meth.sig.returnType = (some .int)) (hlk : meth.locks = false) {r : Int32} {C2 : St}  {C : St} (h : F_X3_lineOnPaper_19 (gn g)   C = some (r, C2)) {ed : Nat → Nat} {H : Heap} {locs : List Loc} {ls : Array Slot} (hH : HW g ed C Z H) (hS : va_S (gP g) s.heap H locs) (hl : lv_has ls 5 []) : W p l e ({ frames := 0, cells := 0, slots := 0, locals := 0 } : Room) s m args below meth c H locs 0 0 (MQ below (QG (some (.int r)) g C2 Z) args s 0 0 (gP g)) (F0 m 19 ls []) := by
  unfold F_X3_lineOnPaper_19 at h
  refine lv_iconst (v := (0 : Int32)) hC.1 hC.2.1 dX3_lineOnPaper_19 (by decide) ?_
  cases h
  exact gret_i hC hr hlk hH hS (Nat.le_of_ble_eq_true rfl) (Nat.le_of_ble_eq_true rfl) dX3_lineOnPaper_20
def F_X3_lineOnPaper_73 (n : Nat) (k26 : Int32 → Int32 → Int32 → Int32 → St → Option (Int32 × St)) (x1 : Int32) (x2 : Int32) (x3 : Int32) (x4 : Int32) (C : St) : Option (Int32 × St) := k26 x1 x2 x3 (x4 + 1) C
set_option maxHeartbeats 4000000 in
set_option maxRecDepth 100000 in
theorem B_X3_lineOnPaper_73 {p : Program} {l : Launch} {e : Env} {s : State} {m : MethodId} {args : Array Value} {below : List Frame} {meth : Method} {c : Code} {g : GP} {Z : St} (hC : CX p s m args c cX3_lineOnPaper RX3 g) (hE : EZ g s s.heap) (hml : c.maxLocals = 5) (hr : meth.sig.returnType = (some .int)) (hlk : meth.locks = false) {r : Int32} {C2 : St} {k26 : Int32 → Int32 → Int32 → Int32 → St → Option (Int32 × St)} (hk26 : ∀ (x1 : Int32) (x2 : Int32) (x3 : Int32) (x4 : Int32) (C : St), k26 x1 x2 x3 x4 C = some (r, C2) → ∀ (ed : Nat → Nat) (H : Heap) (locs : List Loc) (ls : Array Slot), HW g ed C Z H → va_S (gP g) s.heap H locs → lv_has ls 5 [(0, .ref (gA g 23 0)), (1, rfv (gA g) 6 x1), (2, .int x2), (3, .int x3), (4, .int x4)] → W p l e ({ frames := 0, cells := 0, slots := 0, locals := 0 } : Room) s m args below meth c H locs 0 0 (MQ below (QG (some (.int r)) g C2 Z) args s 0 0 (gP g)) (F0 m 26 ls [])) {x1 : Int32} {x2 : Int32} {x3 : Int32} {x4 : Int32} {C : St} (h : F_X3_lineOnPaper_73 (gn g) k26 x1 x2 x3 x4 C = some (r, C2)) {ed : Nat → Nat} {H : Heap} {locs : List Loc} {ls : Array Slot} (hH : HW g ed C Z H) (hS : va_S (gP g) s.heap H locs) (hl : lv_has ls 5 [(0, .ref (gA g 23 0)), (1, rfv (gA g) 6 x1), (2, .int x2), (3, .int x3), (4, .int x4)]) : W p l e ({ frames := 0, cells := 0, slots := 0, locals := 0 } : Room) s m args below meth c H locs 0 0 (MQ below (QG (some (.int r)) g C2 Z) args s 0 0 (gP g)) (F0 m 73 ls []) := by
  unfold F_X3_lineOnPaper_73 at h
  refine lv_iinc (v := x4 + 1) (lv' := [(4, .int (x4 + 1)), (0, .ref (gA g 23 0)), (1, rfv (gA g) 6 x1), (2, .int x2), (3, .int x3)]) hC.1 hC.2.1 dX3_lineOnPaper_73 hl (k := 4) rfl rfl (by decide) rfl (fun ls hl => ?_)
  refine lv_goto (tgt := 26) hC.1 hC.2.1 dX3_lineOnPaper_76 (by decide) ?_
  exact hk26 _ _ _ _ _ h _ _ _ _ hH hS (lv_sub hl [1, 2, 3, 4, 0] rfl)
def F_X3_lineOnPaper_79 (n : Nat)   (C : St) : Option (Int32 × St) := some ((0 : Int32), C)
set_option maxHeartbeats 4000000 in
set_option maxRecDepth 100000 in
theorem B_X3_lineOnPaper_79 {p : Program} {l : Launch} {e : Env} {s : State} {m : MethodId} {args : Array Value} {below : List Frame} {meth : Method} {c : Code} {g : GP} {Z : St} (hC : CX p s m args c cX3_lineOnPaper RX3 g) (hE : EZ g s s.heap) (hml : c.maxLocals = 5) (hr : meth.sig.returnType = (some .int)) (hlk : meth.locks = false) {r : Int32} {C2 : St}  {C : St} (h : F_X3_lineOnPaper_79 (gn g)   C = some (r, C2)) {ed : Nat → Nat} {H : Heap} {locs : List Loc} {ls : Array Slot} (hH : HW g ed C Z H) (hS : va_S (gP g) s.heap H locs) (hl : lv_has ls 5 []) : W p l e ({ frames := 0, cells := 0, slots := 0, locals := 0 } : Room) s m args below meth c H locs 0 0 (MQ below (QG (some (.int r)) g C2 Z) args s 0 0 (gP g)) (F0 m 79 ls []) := by
  unfold F_X3_lineOnPaper_79 at h
  refine lv_iconst (v := (0 : Int32)) hC.1 hC.2.1 dX3_lineOnPaper_79 (by decide) ?_
  cases h
  exact gret_i hC hr hlk hH hS (Nat.le_of_ble_eq_true rfl) (Nat.le_of_ble_eq_true rfl) dX3_lineOnPaper_80
def F_X3_lineOnPaper_26 (n : Nat)  : Nat → Int32 → Int32 → Int32 → Int32 → St → Option (Int32 × St)
  | 0, _, _, _, _, _ => none
  | fu + 1, x1, x2, x3, x4, C => if (C 23 0 14 0) ≤ x4 then (F_X3_lineOnPaper_79 n  C) else (if (512 : Int32) ≤ x4 then (F_X3_lineOnPaper_79 n  C) else (gd (inb x4 512) (gd (inb x1 6) (if (C 25 0 0 x4.toNatClampNeg) = (C 6 x1.toNatClampNeg 6 0) then (if x3 = x2 then (some (C 24 0 0 x4.toNatClampNeg, C)) else (F_X3_lineOnPaper_73 n (F_X3_lineOnPaper_26 n fu) x1 x2 (x3 + 1) x4 C)) else (F_X3_lineOnPaper_73 n (F_X3_lineOnPaper_26 n fu) x1 x2 x3 x4 C)))))
set_option maxHeartbeats 4000000 in
set_option maxRecDepth 100000 in
theorem B_X3_lineOnPaper_26 {p : Program} {l : Launch} {e : Env} {s : State} {m : MethodId} {args : Array Value} {below : List Frame} {meth : Method} {c : Code} {g : GP} {Z : St} (hC : CX p s m args c cX3_lineOnPaper RX3 g) (hE : EZ g s s.heap) (hml : c.maxLocals = 5) (hr : meth.sig.returnType = (some .int)) (hlk : meth.locks = false) {r : Int32} {C2 : St} : ∀ (fu : Nat) (x1 : Int32) (x2 : Int32) (x3 : Int32) (x4 : Int32) (C : St), F_X3_lineOnPaper_26 (gn g)  fu x1 x2 x3 x4 C = some (r, C2) → ∀ (ed : Nat → Nat) (H : Heap) (locs : List Loc) (ls : Array Slot), HW g ed C Z H → va_S (gP g) s.heap H locs → lv_has ls 5 [(0, .ref (gA g 23 0)), (1, rfv (gA g) 6 x1), (2, .int x2), (3, .int x3), (4, .int x4)] → W p l e ({ frames := 0, cells := 0, slots := 0, locals := 0 } : Room) s m args below meth c H locs 0 0 (MQ below (QG (some (.int r)) g C2 Z) args s 0 0 (gP g)) (F0 m 26 ls []) := by
  intro fu
  induction fu with
  | zero =>
    intro x1 x2 x3 x4 C h
    cases h
  | succ fu ih =>
    intro x1 x2 x3 x4 C h ed H locs ls hH hS hl
    rw [F_X3_lineOnPaper_26] at h
    refine lv_iload hC.1 hC.2.1 dX3_lineOnPaper_26 (lv_at hl 4 rfl) ?_
    refine lv_aload_n hC.1 hC.2.1 dX3_lineOnPaper_28 rfl (lv_at hl 0 rfl) ?_
    refine gf_RX3_154 hC hH rfl dX3_lineOnPaper_29 ?_
    refine lv_icmp_ge (tgt := 79) hC.1 hC.2.1 dX3_lineOnPaper_32 (by decide) (fun hc1 => ?_) (fun hc1 => ?_)
    · rw [if_pos hc1] at h
      exact B_X3_lineOnPaper_79 hC hE hml hr hlk h hH hS (lv_sub hl [] rfl)
    · rw [if_neg hc1] at h
      refine lv_iload hC.1 hC.2.1 dX3_lineOnPaper_35 (lv_at hl 4 rfl) ?_
      refine lv_sipush (v := (512 : Int32)) hC.1 hC.2.1 dX3_lineOnPaper_37 (by decide) ?_
      refine lv_icmp_ge (tgt := 79) hC.1 hC.2.1 dX3_lineOnPaper_40 (by decide) (fun hc2 => ?_) (fun hc2 => ?_)
      · rw [if_pos hc2] at h
        exact B_X3_lineOnPaper_79 hC hE hml hr hlk h hH hS (lv_sub hl [] rfl)
      · rw [if_neg hc2] at h
        refine lv_aload_n hC.1 hC.2.1 dX3_lineOnPaper_43 rfl (lv_at hl 0 rfl) ?_
        refine gf_RX3_22 hC hH rfl dX3_lineOnPaper_44 ?_
        refine lv_iload hC.1 hC.2.1 dX3_lineOnPaper_47 (lv_at hl 4 rfl) ?_
        obtain ⟨hg3, h⟩ := gd_some h
        refine al_25 hC hH hg3 rfl dX3_lineOnPaper_49 ?_
        refine gl_aload_n hC dX3_lineOnPaper_50 rfl (lv_at hl 1 rfl) ?_
        obtain ⟨hg4, h⟩ := gd_some h
        refine gf_RX3_160 hC hH (inb_lt hg4) (rfv_in hg4) dX3_lineOnPaper_51 ?_
        refine lv_icmp_ne (tgt := 73) hC.1 hC.2.1 dX3_lineOnPaper_54 (by decide) (fun hc5 => ?_) (fun hc5 => ?_)
        · rw [if_neg hc5] at h
          exact B_X3_lineOnPaper_73 hC hE hml hr hlk ih h hH hS (lv_sub hl [0, 1, 2, 3, 4] rfl)
        · rw [if_pos hc5] at h
          refine lv_iload_n hC.1 hC.2.1 dX3_lineOnPaper_57 rfl (lv_at hl 3 rfl) ?_
          refine lv_iload_n hC.1 hC.2.1 dX3_lineOnPaper_58 rfl (lv_at hl 2 rfl) ?_
          refine lv_icmp_ne (tgt := 70) hC.1 hC.2.1 dX3_lineOnPaper_59 (by decide) (fun hc6 => ?_) (fun hc6 => ?_)
          · rw [if_neg hc6] at h
            refine lv_iinc (v := x3 + 1) (lv' := [(3, .int (x3 + 1)), (0, .ref (gA g 23 0)), (1, rfv (gA g) 6 x1), (2, .int x2), (4, .int x4)]) hC.1 hC.2.1 dX3_lineOnPaper_70 hl (k := 3) rfl rfl (by decide) rfl (fun ls hl => ?_)
            exact B_X3_lineOnPaper_73 hC hE hml hr hlk ih h hH hS (lv_sub hl [1, 2, 3, 0, 4] rfl)
          · rw [if_pos hc6] at h
            refine lv_aload_n hC.1 hC.2.1 dX3_lineOnPaper_62 rfl (lv_at hl 0 rfl) ?_
            refine gf_RX3_18 hC hH rfl dX3_lineOnPaper_63 ?_
            refine lv_iload hC.1 hC.2.1 dX3_lineOnPaper_66 (lv_at hl 4 rfl) ?_
            refine al_24 hC hH hg3 rfl dX3_lineOnPaper_68 ?_
            cases h
            exact gret_i hC hr hlk hH hS (Nat.le_of_ble_eq_true rfl) (Nat.le_of_ble_eq_true rfl) dX3_lineOnPaper_69
def F_X3_lineOnPaper (n : Nat) (x1 : Int32) (x2 : Int32) (C : St) : Option (Int32 × St) := gd (inb x1 6) (if (C 6 x1.toNatClampNeg 7 0) = 0 then (F_X3_lineOnPaper_19 n  C) else (if x2 < 0 then (F_X3_lineOnPaper_19 n  C) else (if x2 < (C 6 x1.toNatClampNeg 17 0) then (F_X3_lineOnPaper_26 n 1000 x1 x2 (0 : Int32) (0 : Int32) C) else (F_X3_lineOnPaper_19 n  C))))
set_option maxHeartbeats 4000000 in
set_option maxRecDepth 100000 in
theorem c_X3_lineOnPaper {l : Launch} {g : GP} {ed : Nat → Nat} {Z : St} {x1 : Int32} {x2 : Int32} {C : St} {r : Int32} {C2 : St} (h : F_X3_lineOnPaper (gn g) x1 x2 C = some (r, C2)) : Met l yX3_lineOnPaper (Cond.code yX3_lineOnPaper cX3_lineOnPaper 5 (some .int) :: lwG) ({ frames := 0, cells := 0, slots := 0, locals := 0 } : Room) (va_Pc [.ref (gA g 23 0), rfv (gA g) 6 x1, .int x2] (PW g C Z ed)) (QG (some (.int r)) g C2 Z) 0 0 (gP g) := by
  refine Met.ofW (cc := cX3_lineOnPaper) (maxL := 5) (ret := (some .int)) (by decide +kernel) rfl ?_
  intro p e s m args below meth c s₁ B hml hv
  obtain ⟨ha, hC, hE, hr, hlk, hH⟩ := g_start B hv
  subst ha
  have hC : CX p s m ([.ref (gA g 23 0), rfv (gA g) 6 x1, .int x2] : List Value).toArray c cX3_lineOnPaper RX3 g := hC
  have hS : va_S (gP g) s.heap s.heap [] := va_S.rf
  obtain ⟨ls, he, hl⟩ := g_entry m (vs := [.ref (gA g 23 0), rfv (gA g) 6 x1, .int x2]) (n := 5) (List.forall_mem_cons.mpr ⟨rfl, (List.forall_mem_cons.mpr ⟨rfv_cat, (List.forall_mem_cons.mpr ⟨rfl, (fun _ h => absurd h List.not_mem_nil)⟩)⟩)⟩) (Nat.le_of_ble_eq_true rfl)
  rw [he]
  have hl : lv_has ls 5 [(0, .ref (gA g 23 0)), (1, rfv (gA g) 6 x1), (2, .int x2)] := hl
  unfold F_X3_lineOnPaper at h
  refine gl_aload_n hC dX3_lineOnPaper_0 rfl (lv_at hl 1 rfl) ?_
  obtain ⟨hg1, h⟩ := gd_some h
  refine gf_RX3_172 hC hH (inb_lt hg1) (rfv_in hg1) dX3_lineOnPaper_1 ?_
  refine lv_if_eq (tgt := 19) hC.1 hC.2.1 dX3_lineOnPaper_4 (by decide) (fun hc2 => ?_) (fun hc2 => ?_)
  · rw [if_pos hc2] at h
    exact B_X3_lineOnPaper_19 hC hE hml hr hlk h hH hS (lv_sub hl [] rfl)
  · rw [if_neg hc2] at h
    refine lv_iload_n hC.1 hC.2.1 dX3_lineOnPaper_7 rfl (lv_at hl 2 rfl) ?_
    refine lv_if_lt (tgt := 19) hC.1 hC.2.1 dX3_lineOnPaper_8 (by decide) (fun hc3 => ?_) (fun hc3 => ?_)
    · rw [if_pos hc3] at h
      exact B_X3_lineOnPaper_19 hC hE hml hr hlk h hH hS (lv_sub hl [] rfl)
    · rw [if_neg hc3] at h
      refine lv_iload_n hC.1 hC.2.1 dX3_lineOnPaper_11 rfl (lv_at hl 2 rfl) ?_
      refine gl_aload_n hC dX3_lineOnPaper_12 rfl (lv_at hl 1 rfl) ?_
      refine gf_RX3_163 hC hH (inb_lt hg1) (rfv_in hg1) dX3_lineOnPaper_13 ?_
      refine lv_icmp_lt (tgt := 21) hC.1 hC.2.1 dX3_lineOnPaper_16 (by decide) (fun hc4 => ?_) (fun hc4 => ?_)
      · rw [if_pos hc4] at h
        refine lv_iconst (v := (0 : Int32)) hC.1 hC.2.1 dX3_lineOnPaper_21 (by decide) ?_
        refine lv_istore_n (i := 3) (lv' := [(3, .int (0 : Int32)), (0, .ref (gA g 23 0)), (1, rfv (gA g) 6 x1), (2, .int x2)]) hC.1 hC.2.1 dX3_lineOnPaper_22 rfl hl (by decide) rfl (fun ls hl => ?_)
        refine lv_iconst (v := (0 : Int32)) hC.1 hC.2.1 dX3_lineOnPaper_23 (by decide) ?_
        refine lv_istore (lv' := [(4, .int (0 : Int32)), (3, .int (0 : Int32)), (0, .ref (gA g 23 0)), (1, rfv (gA g) 6 x1), (2, .int x2)]) hC.1 hC.2.1 dX3_lineOnPaper_24 hl (by decide) rfl (fun ls hl => ?_)
        exact B_X3_lineOnPaper_26 hC hE hml hr hlk 1000 _ _ _ _ _ h _ _ _ _ hH hS (lv_sub hl [2, 3, 4, 1, 0] rfl)
      · rw [if_neg hc4] at h
        exact B_X3_lineOnPaper_19 hC hE hml hr hlk h hH hS (lv_sub hl [] rfl)
