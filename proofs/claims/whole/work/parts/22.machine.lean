def F_X6_end (n : Nat) (x1 : Int32) (C : St) : Option (Int32 × St) := gd (inb x1 6) (bd2 (F_X8_size n (x1.toNatClampNeg + 2) C) (fun r2 D3 => if r2 ≤ 0 then (bd2 (F_X2_vacateAll n x1 D3) (fun r6 D7 => bd2 (F_X0_giveAllBack n x1 D7) (fun r9 D10 => st (up D10 6 x1.toNatClampNeg 7 0 (3 : Int32)) (fun D12 => bd2 (F_X7_leave n (D12 6 x1.toNatClampNeg 0 0) D12) (fun r14 D15 => bd2 (F_X1_sayOver n x1 D15) (fun r17 D18 => bd2 (F_X0_grantWaiting n  D18) (fun r20 D21 => some (0, D21)))))))) else (bd2 (F_X7_suspend n (D3 6 x1.toNatClampNeg 0 0) (4 : Int32) D3) (fun r23 D24 => some (0, D24)))))
set_option maxHeartbeats 4000000 in
set_option maxRecDepth 100000 in
theorem c_X6_end {l : Launch} {g : GP} {ed : Nat → Nat} {Z : St} {x1 : Int32} {C : St} {r : Int32} {C2 : St} (h : F_X6_end (gn g) x1 C = some (r, C2)) : Met l yX6_end (Cond.code yX6_end cX6_end 2 none :: lwG) ({ frames := 4, cells := 0, slots := 0, locals := 130 } : Room) (va_Pc [.ref (gA g 32 0), rfv (gA g) 6 x1] (PW g C Z ed)) (QG none g C2 Z) 0 0 (gP g) := by
  refine Met.ofW (cc := cX6_end) (maxL := 2) (ret := none) (by decide +kernel) rfl ?_
  intro p e s m args below meth c s₁ B hml hv
  obtain ⟨ha, hC, hE, hr, hlk, hH⟩ := g_start B hv
  subst ha
  have hC : CX p s m ([.ref (gA g 32 0), rfv (gA g) 6 x1] : List Value).toArray c cX6_end RX6 g := hC
  have hS : va_S (gP g) s.heap s.heap [] := va_S.rf
  obtain ⟨ls, he, hl⟩ := g_entry m (vs := [.ref (gA g 32 0), rfv (gA g) 6 x1]) (n := 2) (List.forall_mem_cons.mpr ⟨rfl, (List.forall_mem_cons.mpr ⟨rfv_cat, (fun _ h => absurd h List.not_mem_nil)⟩)⟩) (Nat.le_of_ble_eq_true rfl)
  rw [he]
  have hl : lv_has ls 2 [(0, .ref (gA g 32 0)), (1, rfv (gA g) 6 x1)] := hl
  unfold F_X6_end at h
  refine gl_aload_n hC dX6_end_0 rfl (lv_at hl 1 rfl) ?_
  obtain ⟨hg1, h⟩ := gd_some h
  refine gf_RX6_58 hC hH (inb_lt hg1) (rfv_in hg1) dX6_end_1 ?_
  obtain ⟨r2, D3, hF4, h⟩ := bd2_some h
  refine gcallV (As := []) (rest := []) (Cn := RX8) hC hE hml hH hS (c_X8_size (lt8 hg1) hF4) ⟨wd_629, wd_568, wd_569, wd_4, wd_570⟩ hd_X8_size rfl rfl ⟨Nat.le_of_ble_eq_true rfl, Nat.le_of_ble_eq_true rfl⟩ rfl (hw_recv (q := 2) (i := (x1.toNatClampNeg + 2)) hC hH ⟨(lt8 hg1), fun h => absurd h (by decide)⟩ rfl rfl) rfl hl.1 rfl (Nat.le_of_ble_eq_true rfl) dX6_end_4 ⟨Nat.le_of_ble_eq_true rfl, Nat.le_of_ble_eq_true rfl⟩ (fun ed H locs hH hS => ?_)
  refine W.eq (g2 := F0 m 7 ls [.int r2]) rfl ?_
  refine lv_if_le (tgt := 23) hC.1 hC.2.1 dX6_end_7 (by decide) (fun hc5 => ?_) (fun hc5 => ?_)
  · rw [if_pos hc5] at h
    refine lv_aload_n hC.1 hC.2.1 dX6_end_23 rfl (lv_at hl 0 rfl) ?_
    refine gf_RX6_15 hC hH rfl dX6_end_24 ?_
    refine gl_aload_n hC dX6_end_27 rfl (lv_at hl 1 rfl) ?_
    obtain ⟨r6, D7, hF8, h⟩ := bd2_some h
    refine gcallV (As := [rfv (gA g) 6 x1]) (rest := []) (Cn := RX2) hC hE hml hH hS (c_X2_vacateAll hF8) ⟨wd_631, wd_632, wd_633, wd_6, wd_634⟩ hd_X2_vacateAll rfl rfl ⟨Nat.le_of_ble_eq_true rfl, Nat.le_of_ble_eq_true rfl⟩ rfl (hw_recv (q := 12) (i := 0) hC hH ⟨Nat.zero_lt_one, fun h => absurd h (by decide)⟩ rfl rfl) rfl hl.1 rfl (Nat.le_of_ble_eq_true rfl) dX6_end_28 ⟨Nat.le_of_ble_eq_true rfl, Nat.le_of_ble_eq_true rfl⟩ (fun ed H locs hH hS => ?_)
    refine W.eq (g2 := F0 m 31 ls []) rfl ?_
    refine lv_aload_n hC.1 hC.2.1 dX6_end_31 rfl (lv_at hl 0 rfl) ?_
    refine gf_RX6_23 hC hH rfl dX6_end_32 ?_
    refine gl_aload_n hC dX6_end_35 rfl (lv_at hl 1 rfl) ?_
    obtain ⟨r9, D10, hF11, h⟩ := bd2_some h
    refine gcallV (As := [rfv (gA g) 6 x1]) (rest := []) (Cn := RX0) hC hE hml hH hS (c_X0_giveAllBack hF11) ⟨wd_643, wd_644, wd_645, wd_13, wd_646⟩ hd_X0_giveAllBack rfl rfl ⟨Nat.le_of_ble_eq_true rfl, Nat.le_of_ble_eq_true rfl⟩ rfl (hw_recv (q := 19) (i := 0) hC hH ⟨Nat.zero_lt_one, fun h => absurd h (by decide)⟩ rfl rfl) rfl hl.1 rfl (Nat.le_of_ble_eq_true rfl) dX6_end_36 ⟨Nat.le_of_ble_eq_true rfl, Nat.le_of_ble_eq_true rfl⟩ (fun ed H locs hH hS => ?_)
    refine W.eq (g2 := F0 m 39 ls []) rfl ?_
    refine gl_aload_n hC dX6_end_39 rfl (lv_at hl 1 rfl) ?_
    refine lv_iconst (v := (3 : Int32)) hC.1 hC.2.1 dX6_end_40 (by decide) ?_
    obtain ⟨D12, e13, h⟩ := st_some h
    refine pf_RX6_87 hC hH hS (inb_lt hg1)  (rfv_in hg1) dX6_end_41 (fun H locs hH hS => ?_)
    rw [← e13] at hH
    refine lv_aload_n hC.1 hC.2.1 dX6_end_44 rfl (lv_at hl 0 rfl) ?_
    refine gf_RX6_9 hC hH rfl dX6_end_45 ?_
    refine gl_aload_n hC dX6_end_48 rfl (lv_at hl 1 rfl) ?_
    refine gf_RX6_68 hC hH (inb_lt hg1) (rfv_in hg1) dX6_end_49 ?_
    obtain ⟨r14, D15, hF16, h⟩ := bd2_some h
    refine gcallV (As := [.int (D12 6 x1.toNatClampNeg 0 0)]) (rest := []) (Cn := RX7) hC hE hml hH hS (c_X7_leave hF16) ⟨wd_651, wd_307, wd_308, wd_2, wd_309⟩ hd_X7_leave rfl rfl ⟨Nat.le_of_ble_eq_true rfl, Nat.le_of_ble_eq_true rfl⟩ rfl (hw_recv (q := 1) (i := 0) hC hH ⟨Nat.zero_lt_one, fun h => absurd h (by decide)⟩ rfl rfl) rfl hl.1 rfl (Nat.le_of_ble_eq_true rfl) dX6_end_52 ⟨Nat.le_of_ble_eq_true rfl, Nat.le_of_ble_eq_true rfl⟩ (fun ed H locs hH hS => ?_)
    refine W.eq (g2 := F0 m 55 ls []) rfl ?_
    refine lv_aload_n hC.1 hC.2.1 dX6_end_55 rfl (lv_at hl 0 rfl) ?_
    refine gf_RX6_31 hC hH rfl dX6_end_56 ?_
    refine gl_aload_n hC dX6_end_59 rfl (lv_at hl 1 rfl) ?_
    obtain ⟨r17, D18, hF19, h⟩ := bd2_some h
    refine gcallV (As := [rfv (gA g) 6 x1]) (rest := []) (Cn := RX1) hC hE hml hH hS (c_X1_sayOver hF19) ⟨wd_652, wd_653, wd_654, wd_15, wd_655⟩ hd_X1_sayOver rfl rfl ⟨Nat.le_of_ble_eq_true rfl, Nat.le_of_ble_eq_true rfl⟩ rfl (hw_recv (q := 26) (i := 0) hC hH ⟨Nat.zero_lt_one, fun h => absurd h (by decide)⟩ rfl rfl) rfl hl.1 rfl (Nat.le_of_ble_eq_true rfl) dX6_end_60 ⟨Nat.le_of_ble_eq_true rfl, Nat.le_of_ble_eq_true rfl⟩ (fun ed H locs hH hS => ?_)
    refine W.eq (g2 := F0 m 63 ls []) rfl ?_
    refine lv_aload_n hC.1 hC.2.1 dX6_end_63 rfl (lv_at hl 0 rfl) ?_
    refine gf_RX6_23 hC hH rfl dX6_end_64 ?_
    obtain ⟨r20, D21, hF22, h⟩ := bd2_some h
    refine gcallV (As := []) (rest := []) (Cn := RX0) hC hE hml hH hS (c_X0_grantWaiting hF22) ⟨wd_660, wd_661, wd_662, wd_13, wd_663⟩ hd_X0_grantWaiting rfl rfl ⟨Nat.le_of_ble_eq_true rfl, Nat.le_of_ble_eq_true rfl⟩ rfl (hw_recv (q := 19) (i := 0) hC hH ⟨Nat.zero_lt_one, fun h => absurd h (by decide)⟩ rfl rfl) rfl hl.1 rfl (Nat.le_of_ble_eq_true rfl) dX6_end_67 ⟨Nat.le_of_ble_eq_true rfl, Nat.le_of_ble_eq_true rfl⟩ (fun ed H locs hH hS => ?_)
    refine W.eq (g2 := F0 m 70 ls []) rfl ?_
    cases h
    exact gret_v hC hr hlk hH hS (Nat.le_of_ble_eq_true rfl) (Nat.le_of_ble_eq_true rfl) dX6_end_70
  · rw [if_neg hc5] at h
    refine lv_aload_n hC.1 hC.2.1 dX6_end_10 rfl (lv_at hl 0 rfl) ?_
    refine gf_RX6_9 hC hH rfl dX6_end_11 ?_
    refine gl_aload_n hC dX6_end_14 rfl (lv_at hl 1 rfl) ?_
    refine gf_RX6_68 hC hH (inb_lt hg1) (rfv_in hg1) dX6_end_15 ?_
    refine lv_iconst (v := (4 : Int32)) hC.1 hC.2.1 dX6_end_18 (by decide) ?_
    obtain ⟨r23, D24, hF25, h⟩ := bd2_some h
    refine gcallV (As := [.int (D3 6 x1.toNatClampNeg 0 0), .int (4 : Int32)]) (rest := []) (Cn := RX7) hC hE hml hH hS (c_X7_suspend hF25) ⟨wd_630, wd_303, wd_304, wd_2, wd_305⟩ hd_X7_suspend rfl rfl ⟨Nat.le_of_ble_eq_true rfl, Nat.le_of_ble_eq_true rfl⟩ rfl (hw_recv (q := 1) (i := 0) hC hH ⟨Nat.zero_lt_one, fun h => absurd h (by decide)⟩ rfl rfl) rfl hl.1 rfl (Nat.le_of_ble_eq_true rfl) dX6_end_19 ⟨Nat.le_of_ble_eq_true rfl, Nat.le_of_ble_eq_true rfl⟩ (fun ed H locs hH hS => ?_)
    refine W.eq (g2 := F0 m 22 ls []) rfl ?_
    cases h
    exact gret_v hC hr hlk hH hS (Nat.le_of_ble_eq_true rfl) (Nat.le_of_ble_eq_true rfl) dX6_end_22
def F_X6_hasOperand_28 (n : Nat)  (t0 : Int32) (C : St) : Option (Int32 × St) := gd (isb t0) (some (t0, C))
set_option maxHeartbeats 4000000 in
set_option maxRecDepth 100000 in
theorem B_X6_hasOperand_28 {p : Program} {l : Launch} {e : Env} {s : State} {m : MethodId} {args : Array Value} {below : List Frame} {meth : Method} {c : Code} {g : GP} {Z : St} (hC : CX p s m args c cX6_hasOperand RX6 g) (hE : EZ g s s.heap) (hml : c.maxLocals = 1) (hr : meth.sig.returnType = (some .boolean)) (hlk : meth.locks = false) {r : Int32} {C2 : St} {t0 : Int32} {C : St} (h : F_X6_hasOperand_28 (gn g)  t0 C = some (r, C2)) {ed : Nat → Nat} {H : Heap} {locs : List Loc} {ls : Array Slot} (hH : HW g ed C Z H) (hS : va_S (gP g) s.heap H locs) (hl : lv_has ls 1 []) : W p l e ({ frames := 0, cells := 0, slots := 0, locals := 0 } : Room) s m args below meth c H locs 0 0 (MQ below (QG (some (.int r)) g C2 Z) args s 0 0 (gP g)) (F0 m 28 ls [.int t0]) := by
  unfold F_X6_hasOperand_28 at h
  obtain ⟨hg1, h⟩ := gd_some h
  cases h
  exact gret_z hC hr hlk hg1 hH hS (Nat.le_of_ble_eq_true rfl) (Nat.le_of_ble_eq_true rfl) dX6_hasOperand_28
def F_X6_hasOperand_23 (n : Nat)   (C : St) : Option (Int32 × St) := F_X6_hasOperand_28 n (1 : Int32) C
set_option maxHeartbeats 4000000 in
set_option maxRecDepth 100000 in
theorem B_X6_hasOperand_23 {p : Program} {l : Launch} {e : Env} {s : State} {m : MethodId} {args : Array Value} {below : List Frame} {meth : Method} {c : Code} {g : GP} {Z : St} (hC : CX p s m args c cX6_hasOperand RX6 g) (hE : EZ g s s.heap) (hml : c.maxLocals = 1) (hr : meth.sig.returnType = (some .boolean)) (hlk : meth.locks = false) {r : Int32} {C2 : St}  {C : St} (h : F_X6_hasOperand_23 (gn g)   C = some (r, C2)) {ed : Nat → Nat} {H : Heap} {locs : List Loc} {ls : Array Slot} (hH : HW g ed C Z H) (hS : va_S (gP g) s.heap H locs) (hl : lv_has ls 1 []) : W p l e ({ frames := 0, cells := 0, slots := 0, locals := 0 } : Room) s m args below meth c H locs 0 0 (MQ below (QG (some (.int r)) g C2 Z) args s 0 0 (gP g)) (F0 m 23 ls []) := by
  unfold F_X6_hasOperand_23 at h
  refine lv_iconst (v := (1 : Int32)) hC.1 hC.2.1 dX6_hasOperand_23 (by decide) ?_
  refine lv_goto (tgt := 28) hC.1 hC.2.1 dX6_hasOperand_24 (by decide) ?_
  exact B_X6_hasOperand_28 hC hE hml hr hlk h hH hS (lv_sub hl [] rfl)
def F_X6_hasOperand_27 (n : Nat)   (C : St) : Option (Int32 × St) := F_X6_hasOperand_28 n (0 : Int32) C
set_option maxHeartbeats 4000000 in
set_option maxRecDepth 100000 in
theorem B_X6_hasOperand_27 {p : Program} {l : Launch} {e : Env} {s : State} {m : MethodId} {args : Array Value} {below : List Frame} {meth : Method} {c : Code} {g : GP} {Z : St} (hC : CX p s m args c cX6_hasOperand RX6 g) (hE : EZ g s s.heap) (hml : c.maxLocals = 1) (hr : meth.sig.returnType = (some .boolean)) (hlk : meth.locks = false) {r : Int32} {C2 : St}  {C : St} (h : F_X6_hasOperand_27 (gn g)   C = some (r, C2)) {ed : Nat → Nat} {H : Heap} {locs : List Loc} {ls : Array Slot} (hH : HW g ed C Z H) (hS : va_S (gP g) s.heap H locs) (hl : lv_has ls 1 []) : W p l e ({ frames := 0, cells := 0, slots := 0, locals := 0 } : Room) s m args below meth c H locs 0 0 (MQ below (QG (some (.int r)) g C2 Z) args s 0 0 (gP g)) (F0 m 27 ls []) := by
  unfold F_X6_hasOperand_27 at h
  refine lv_iconst (v := (0 : Int32)) hC.1 hC.2.1 dX6_hasOperand_27 (by decide) ?_
  exact B_X6_hasOperand_28 hC hE hml hr hlk h hH hS (lv_sub hl [] rfl)
def F_X6_hasOperand_11 (n : Nat)  (x0 : Int32) (C : St) : Option (Int32 × St) := if x0 < (10 : Int32) then (F_X6_hasOperand_27 n  C) else (if (12 : Int32) < x0 then (F_X6_hasOperand_27 n  C) else (F_X6_hasOperand_23 n  C))
set_option maxHeartbeats 4000000 in
set_option maxRecDepth 100000 in
theorem B_X6_hasOperand_11 {p : Program} {l : Launch} {e : Env} {s : State} {m : MethodId} {args : Array Value} {below : List Frame} {meth : Method} {c : Code} {g : GP} {Z : St} (hC : CX p s m args c cX6_hasOperand RX6 g) (hE : EZ g s s.heap) (hml : c.maxLocals = 1) (hr : meth.sig.returnType = (some .boolean)) (hlk : meth.locks = false) {r : Int32} {C2 : St} {x0 : Int32} {C : St} (h : F_X6_hasOperand_11 (gn g)  x0 C = some (r, C2)) {ed : Nat → Nat} {H : Heap} {locs : List Loc} {ls : Array Slot} (hH : HW g ed C Z H) (hS : va_S (gP g) s.heap H locs) (hl : lv_has ls 1 [(0, .int x0)]) : W p l e ({ frames := 0, cells := 0, slots := 0, locals := 0 } : Room) s m args below meth c H locs 0 0 (MQ below (QG (some (.int r)) g C2 Z) args s 0 0 (gP g)) (F0 m 11 ls []) := by
  unfold F_X6_hasOperand_11 at h
  refine lv_iload_n hC.1 hC.2.1 dX6_hasOperand_11 rfl (lv_at hl 0 rfl) ?_
  refine lv_bipush (v := (10 : Int32)) hC.1 hC.2.1 dX6_hasOperand_12 (by decide) ?_
  refine lv_icmp_lt (tgt := 27) hC.1 hC.2.1 dX6_hasOperand_14 (by decide) (fun hc1 => ?_) (fun hc1 => ?_)
  · rw [if_pos hc1] at h
    exact B_X6_hasOperand_27 hC hE hml hr hlk h hH hS (lv_sub hl [] rfl)
  · rw [if_neg hc1] at h
    refine lv_iload_n hC.1 hC.2.1 dX6_hasOperand_17 rfl (lv_at hl 0 rfl) ?_
    refine lv_bipush (v := (12 : Int32)) hC.1 hC.2.1 dX6_hasOperand_18 (by decide) ?_
    refine lv_icmp_gt (tgt := 27) hC.1 hC.2.1 dX6_hasOperand_20 (by decide) (fun hc2 => ?_) (fun hc2 => ?_)
    · rw [if_pos hc2] at h
      exact B_X6_hasOperand_27 hC hE hml hr hlk h hH hS (lv_sub hl [] rfl)
    · rw [if_neg hc2] at h
      exact B_X6_hasOperand_23 hC hE hml hr hlk h hH hS (lv_sub hl [] rfl)
def F_X6_hasOperand (n : Nat) (x0 : Int32) (C : St) : Option (Int32 × St) := if x0 < (1 : Int32) then (F_X6_hasOperand_11 n x0 C) else (if x0 ≤ (6 : Int32) then (F_X6_hasOperand_23 n  C) else (F_X6_hasOperand_11 n x0 C))
set_option maxHeartbeats 4000000 in
set_option maxRecDepth 100000 in
theorem c_X6_hasOperand {l : Launch} {g : GP} {ed : Nat → Nat} {Z : St} {x0 : Int32} {C : St} {r : Int32} {C2 : St} (h : F_X6_hasOperand (gn g) x0 C = some (r, C2)) : Met l yX6_hasOperand (Cond.code yX6_hasOperand cX6_hasOperand 1 (some .boolean) :: lwG) ({ frames := 0, cells := 0, slots := 0, locals := 0 } : Room) (va_Pc [.int x0] (PW g C Z ed)) (QG (some (.int r)) g C2 Z) 0 0 (gP g) := by
  refine Met.ofW (cc := cX6_hasOperand) (maxL := 1) (ret := (some .boolean)) (by decide +kernel) rfl ?_
  intro p e s m args below meth c s₁ B hml hv
  obtain ⟨ha, hC, hE, hr, hlk, hH⟩ := g_start B hv
  subst ha
  have hC : CX p s m ([.int x0] : List Value).toArray c cX6_hasOperand RX6 g := hC
  have hS : va_S (gP g) s.heap s.heap [] := va_S.rf
  obtain ⟨ls, he, hl⟩ := g_entry m (vs := [.int x0]) (n := 1) (List.forall_mem_cons.mpr ⟨rfl, (fun _ h => absurd h List.not_mem_nil)⟩) (Nat.le_of_ble_eq_true rfl)
  rw [he]
  have hl : lv_has ls 1 [(0, .int x0)] := hl
  unfold F_X6_hasOperand at h
  refine lv_iload_n hC.1 hC.2.1 dX6_hasOperand_0 rfl (lv_at hl 0 rfl) ?_
  refine lv_iconst (v := (1 : Int32)) hC.1 hC.2.1 dX6_hasOperand_1 (by decide) ?_
  refine lv_icmp_lt (tgt := 11) hC.1 hC.2.1 dX6_hasOperand_2 (by decide) (fun hc1 => ?_) (fun hc1 => ?_)
  · rw [if_pos hc1] at h
    exact B_X6_hasOperand_11 hC hE hml hr hlk h hH hS (lv_sub hl [0] rfl)
  · rw [if_neg hc1] at h
    refine lv_iload_n hC.1 hC.2.1 dX6_hasOperand_5 rfl (lv_at hl 0 rfl) ?_
    refine lv_bipush (v := (6 : Int32)) hC.1 hC.2.1 dX6_hasOperand_6 (by decide) ?_
    refine lv_icmp_le (tgt := 23) hC.1 hC.2.1 dX6_hasOperand_8 (by decide) (fun hc2 => ?_) (fun hc2 => ?_)
    · rw [if_pos hc2] at h
      exact B_X6_hasOperand_23 hC hE hml hr hlk h hH hS (lv_sub hl [] rfl)
    · rw [if_neg hc2] at h
      exact B_X6_hasOperand_11 hC hE hml hr hlk h hH hS (lv_sub hl [0] rfl)
def F_X6_compute_123 (n : Nat)  (x1 : Int32) (C : St) : Option (Int32 × St) := gd (inb x1 6) (bd2 (F_X2_complete n x1 ((C 6 x1.toNatClampNeg 12 0) + (1 : Int32)) C) (fun r2 D3 => some (0, D3)))
set_option maxHeartbeats 4000000 in
set_option maxRecDepth 100000 in
theorem B_X6_compute_123 {p : Program} {l : Launch} {e : Env} {s : State} {m : MethodId} {args : Array Value} {below : List Frame} {meth : Method} {c : Code} {g : GP} {Z : St} (hC : CX p s m args c cX6_compute RX6 g) (hE : EZ g s s.heap) (hml : c.maxLocals = 4) (hr : meth.sig.returnType = none) (hlk : meth.locks = false) {r : Int32} {C2 : St} {x1 : Int32} {C : St} (h : F_X6_compute_123 (gn g)  x1 C = some (r, C2)) {ed : Nat → Nat} {H : Heap} {locs : List Loc} {ls : Array Slot} (hH : HW g ed C Z H) (hS : va_S (gP g) s.heap H locs) (hl : lv_has ls 4 [(0, .ref (gA g 32 0)), (1, rfv (gA g) 6 x1)]) : W p l e ({ frames := 2, cells := 0, slots := 0, locals := 47 } : Room) s m args below meth c H locs 0 0 (MQ below (QG none g C2 Z) args s 0 0 (gP g)) (F0 m 123 ls []) := by
  unfold F_X6_compute_123 at h
  refine lv_aload_n hC.1 hC.2.1 dX6_compute_123 rfl (lv_at hl 0 rfl) ?_
  refine gf_RX6_15 hC hH rfl dX6_compute_124 ?_
  refine gl_aload_n hC dX6_compute_127 rfl (lv_at hl 1 rfl) ?_
  refine gl_aload_n hC dX6_compute_128 rfl (lv_at hl 1 rfl) ?_
  obtain ⟨hg1, h⟩ := gd_some h
  refine gf_RX6_102 hC hH (inb_lt hg1) (rfv_in hg1) dX6_compute_129 ?_
  refine lv_iconst (v := (1 : Int32)) hC.1 hC.2.1 dX6_compute_132 (by decide) ?_
  refine lv_iadd hC.1 hC.2.1 dX6_compute_133 ?_
  obtain ⟨r2, D3, hF4, h⟩ := bd2_some h
  refine gcallV (As := [rfv (gA g) 6 x1, .int ((C 6 x1.toNatClampNeg 12 0) + (1 : Int32))]) (rest := []) (Cn := RX2) hC hE hml hH hS (c_X2_complete hF4) ⟨wd_822, wd_719, wd_720, wd_6, wd_721⟩ hd_X2_complete rfl rfl ⟨Nat.le_of_ble_eq_true rfl, Nat.le_of_ble_eq_true rfl⟩ rfl (hw_recv (q := 12) (i := 0) hC hH ⟨Nat.zero_lt_one, fun h => absurd h (by decide)⟩ rfl rfl) rfl hl.1 rfl (Nat.le_of_ble_eq_true rfl) dX6_compute_134 ⟨Nat.le_of_ble_eq_true rfl, Nat.le_of_ble_eq_true rfl⟩ (fun ed H locs hH hS => ?_)
  refine W.eq (g2 := F0 m 137 ls []) rfl ?_
  cases h
  exact gret_v hC hr hlk hH hS (Nat.le_of_ble_eq_true rfl) (Nat.le_of_ble_eq_true rfl) dX6_compute_137
def F_X6_compute_118 (n : Nat)  (x1 : Int32) (x3 : Int32) (C : St) : Option (Int32 × St) := gd (inb x1 6) (st (up C 6 x1.toNatClampNeg 13 0 x3) (fun D2 => F_X6_compute_123 n x1 D2))
set_option maxHeartbeats 4000000 in
set_option maxRecDepth 100000 in
theorem B_X6_compute_118 {p : Program} {l : Launch} {e : Env} {s : State} {m : MethodId} {args : Array Value} {below : List Frame} {meth : Method} {c : Code} {g : GP} {Z : St} (hC : CX p s m args c cX6_compute RX6 g) (hE : EZ g s s.heap) (hml : c.maxLocals = 4) (hr : meth.sig.returnType = none) (hlk : meth.locks = false) {r : Int32} {C2 : St} {x1 : Int32} {x3 : Int32} {C : St} (h : F_X6_compute_118 (gn g)  x1 x3 C = some (r, C2)) {ed : Nat → Nat} {H : Heap} {locs : List Loc} {ls : Array Slot} (hH : HW g ed C Z H) (hS : va_S (gP g) s.heap H locs) (hl : lv_has ls 4 [(0, .ref (gA g 32 0)), (1, rfv (gA g) 6 x1), (3, .int x3)]) : W p l e ({ frames := 2, cells := 0, slots := 0, locals := 47 } : Room) s m args below meth c H locs 0 0 (MQ below (QG none g C2 Z) args s 0 0 (gP g)) (F0 m 118 ls []) := by
  unfold F_X6_compute_118 at h
  refine gl_aload_n hC dX6_compute_118 rfl (lv_at hl 1 rfl) ?_
  refine lv_iload_n hC.1 hC.2.1 dX6_compute_119 rfl (lv_at hl 2 rfl) ?_
  obtain ⟨hg1, h⟩ := gd_some h
  obtain ⟨D2, e3, h⟩ := st_some h
  refine pf_RX6_145 hC hH hS (inb_lt hg1)  (rfv_in hg1) dX6_compute_120 (fun H locs hH hS => ?_)
  rw [← e3] at hH
  exact B_X6_compute_123 hC hE hml hr hlk h hH hS (lv_sub hl [0, 1] rfl)
def F_X6_compute (n : Nat) (x1 : Int32) (x2 : Int32) (x3 : Int32) (C : St) : Option (Int32 × St) := if x2 = 3 then (gd (inb x1 6) (st (up C 6 x1.toNatClampNeg 13 0 ((C 6 x1.toNatClampNeg 13 0) + x3)) (fun D3 => F_X6_compute_123 n x1 D3))) else (if x2 = 4 then (gd (inb x1 6) (st (up C 6 x1.toNatClampNeg 13 0 ((C 6 x1.toNatClampNeg 13 0) - x3)) (fun D7 => F_X6_compute_123 n x1 D7))) else (if x2 = 5 then (gd (inb x1 6) (st (up C 6 x1.toNatClampNeg 13 0 ((C 6 x1.toNatClampNeg 13 0) * x3)) (fun D11 => F_X6_compute_123 n x1 D11))) else (if x2 = 6 then (if x3 = 0 then (gd (inb x1 6) (st (up C 6 x1.toNatClampNeg 8 0 (4 : Int32)) (fun D20 => some (0, D20)))) else (gd (inb x1 6) (gd (decide (¬ x3 = 0)) (st (up C 6 x1.toNatClampNeg 13 0 ((C 6 x1.toNatClampNeg 13 0) / x3)) (fun D17 => F_X6_compute_123 n x1 D17))))) else (if x2 = 7 then (F_X6_compute_118 n x1 x3 C) else (if x2 = 8 then (F_X6_compute_118 n x1 x3 C) else (if x2 = 9 then (F_X6_compute_118 n x1 x3 C) else (if x2 = 10 then (gd (inb x1 6) (st (up C 6 x1.toNatClampNeg 14 0 x3) (fun D27 => F_X6_compute_123 n x1 D27))) else (F_X6_compute_118 n x1 x3 C))))))))
set_option maxHeartbeats 4000000 in
set_option maxRecDepth 100000 in
theorem c_X6_compute {l : Launch} {g : GP} {ed : Nat → Nat} {Z : St} {x1 : Int32} {x2 : Int32} {x3 : Int32} {C : St} {r : Int32} {C2 : St} (h : F_X6_compute (gn g) x1 x2 x3 C = some (r, C2)) : Met l yX6_compute (Cond.code yX6_compute cX6_compute 4 none :: lwG) ({ frames := 2, cells := 0, slots := 0, locals := 47 } : Room) (va_Pc [.ref (gA g 32 0), rfv (gA g) 6 x1, .int x2, .int x3] (PW g C Z ed)) (QG none g C2 Z) 0 0 (gP g) := by
  refine Met.ofW (cc := cX6_compute) (maxL := 4) (ret := none) (by decide +kernel) rfl ?_
  intro p e s m args below meth c s₁ B hml hv
  obtain ⟨ha, hC, hE, hr, hlk, hH⟩ := g_start B hv
  subst ha
  have hC : CX p s m ([.ref (gA g 32 0), rfv (gA g) 6 x1, .int x2, .int x3] : List Value).toArray c cX6_compute RX6 g := hC
  have hS : va_S (gP g) s.heap s.heap [] := va_S.rf
  obtain ⟨ls, he, hl⟩ := g_entry m (vs := [.ref (gA g 32 0), rfv (gA g) 6 x1, .int x2, .int x3]) (n := 4) (List.forall_mem_cons.mpr ⟨rfl, (List.forall_mem_cons.mpr ⟨rfv_cat, (List.forall_mem_cons.mpr ⟨rfl, (List.forall_mem_cons.mpr ⟨rfl, (fun _ h => absurd h List.not_mem_nil)⟩)⟩)⟩)⟩) (Nat.le_of_ble_eq_true rfl)
  rw [he]
  have hl : lv_has ls 4 [(0, .ref (gA g 32 0)), (1, rfv (gA g) 6 x1), (2, .int x2), (3, .int x3)] := hl
  unfold F_X6_compute at h
  refine lv_iload_n hC.1 hC.2.1 dX6_compute_0 rfl (lv_at hl 2 rfl) ?_
  by_cases hs1 : x2 = 3
  · rw [if_pos hs1] at h
    refine lv_tableIn (x := x2) (off := 47) (tgt := 48) hC.1 hC.2.1 dX6_compute_1 (by rw [hs1]; decide) (by rw [hs1]; decide) (by rw [hs1]; rfl) (by decide) ?_
    refine gl_aload_n hC dX6_compute_48 rfl (lv_at hl 1 rfl) ?_
    refine lv_dup hC.1 hC.2.1 dX6_compute_49 rfv_cat ?_
    obtain ⟨hg2, h⟩ := gd_some h
    refine gf_RX6_145 hC hH (inb_lt hg2) (rfv_in hg2) dX6_compute_50 ?_
    refine lv_iload_n hC.1 hC.2.1 dX6_compute_53 rfl (lv_at hl 3 rfl) ?_
    refine lv_iadd hC.1 hC.2.1 dX6_compute_54 ?_
    obtain ⟨D3, e4, h⟩ := st_some h
    refine pf_RX6_145 hC hH hS (inb_lt hg2)  (rfv_in hg2) dX6_compute_55 (fun H locs hH hS => ?_)
    rw [← e4] at hH
    refine lv_goto (tgt := 123) hC.1 hC.2.1 dX6_compute_58 (by decide) ?_
    exact B_X6_compute_123 hC hE hml hr hlk h hH hS (lv_sub hl [0, 1] rfl)
  · rw [if_neg hs1] at h
    by_cases hs5 : x2 = 4
    · rw [if_pos hs5] at h
      refine lv_tableIn (x := x2) (off := 60) (tgt := 61) hC.1 hC.2.1 dX6_compute_1 (by rw [hs5]; decide) (by rw [hs5]; decide) (by rw [hs5]; rfl) (by decide) ?_
      refine gl_aload_n hC dX6_compute_61 rfl (lv_at hl 1 rfl) ?_
      refine lv_dup hC.1 hC.2.1 dX6_compute_62 rfv_cat ?_
      obtain ⟨hg6, h⟩ := gd_some h
      refine gf_RX6_145 hC hH (inb_lt hg6) (rfv_in hg6) dX6_compute_63 ?_
      refine lv_iload_n hC.1 hC.2.1 dX6_compute_66 rfl (lv_at hl 3 rfl) ?_
      refine lv_isub hC.1 hC.2.1 dX6_compute_67 ?_
      obtain ⟨D7, e8, h⟩ := st_some h
      refine pf_RX6_145 hC hH hS (inb_lt hg6)  (rfv_in hg6) dX6_compute_68 (fun H locs hH hS => ?_)
      rw [← e8] at hH
      refine lv_goto (tgt := 123) hC.1 hC.2.1 dX6_compute_71 (by decide) ?_
      exact B_X6_compute_123 hC hE hml hr hlk h hH hS (lv_sub hl [0, 1] rfl)
    · rw [if_neg hs5] at h
      by_cases hs9 : x2 = 5
      · rw [if_pos hs9] at h
        refine lv_tableIn (x := x2) (off := 73) (tgt := 74) hC.1 hC.2.1 dX6_compute_1 (by rw [hs9]; decide) (by rw [hs9]; decide) (by rw [hs9]; rfl) (by decide) ?_
        refine gl_aload_n hC dX6_compute_74 rfl (lv_at hl 1 rfl) ?_
        refine lv_dup hC.1 hC.2.1 dX6_compute_75 rfv_cat ?_
        obtain ⟨hg10, h⟩ := gd_some h
        refine gf_RX6_145 hC hH (inb_lt hg10) (rfv_in hg10) dX6_compute_76 ?_
        refine lv_iload_n hC.1 hC.2.1 dX6_compute_79 rfl (lv_at hl 3 rfl) ?_
        refine lv_imul hC.1 hC.2.1 dX6_compute_80 ?_
        obtain ⟨D11, e12, h⟩ := st_some h
        refine pf_RX6_145 hC hH hS (inb_lt hg10)  (rfv_in hg10) dX6_compute_81 (fun H locs hH hS => ?_)
        rw [← e12] at hH
        refine lv_goto (tgt := 123) hC.1 hC.2.1 dX6_compute_84 (by decide) ?_
        exact B_X6_compute_123 hC hE hml hr hlk h hH hS (lv_sub hl [0, 1] rfl)
      · rw [if_neg hs9] at h
        by_cases hs13 : x2 = 6
        · rw [if_pos hs13] at h
          refine lv_tableIn (x := x2) (off := 86) (tgt := 87) hC.1 hC.2.1 dX6_compute_1 (by rw [hs13]; decide) (by rw [hs13]; decide) (by rw [hs13]; rfl) (by decide) ?_
          refine lv_iload_n hC.1 hC.2.1 dX6_compute_87 rfl (lv_at hl 3 rfl) ?_
          refine lv_if_ne (tgt := 97) hC.1 hC.2.1 dX6_compute_88 (by decide) (fun hc14 => ?_) (fun hc14 => ?_)
          · rw [if_neg hc14] at h
            refine gl_aload_n hC dX6_compute_97 rfl (lv_at hl 1 rfl) ?_
            refine lv_dup hC.1 hC.2.1 dX6_compute_98 rfv_cat ?_
            obtain ⟨hg15, h⟩ := gd_some h
            refine gf_RX6_145 hC hH (inb_lt hg15) (rfv_in hg15) dX6_compute_99 ?_
            refine lv_iload_n hC.1 hC.2.1 dX6_compute_102 rfl (lv_at hl 3 rfl) ?_
            obtain ⟨hg16, h⟩ := gd_some h
            refine lv_idiv hC.1 hC.2.1 dX6_compute_103 (of_decide_eq_true hg16) ?_
            obtain ⟨D17, e18, h⟩ := st_some h
            refine pf_RX6_145 hC hH hS (inb_lt hg15)  (rfv_in hg15) dX6_compute_104 (fun H locs hH hS => ?_)
            rw [← e18] at hH
            refine lv_goto (tgt := 123) hC.1 hC.2.1 dX6_compute_107 (by decide) ?_
            exact B_X6_compute_123 hC hE hml hr hlk h hH hS (lv_sub hl [0, 1] rfl)
          · rw [if_pos hc14] at h
            refine gl_aload_n hC dX6_compute_91 rfl (lv_at hl 1 rfl) ?_
            refine lv_iconst (v := (4 : Int32)) hC.1 hC.2.1 dX6_compute_92 (by decide) ?_
            obtain ⟨hg19, h⟩ := gd_some h
            obtain ⟨D20, e21, h⟩ := st_some h
            refine pf_RX6_35 hC hH hS (inb_lt hg19)  (rfv_in hg19) dX6_compute_93 (fun H locs hH hS => ?_)
            rw [← e21] at hH
            cases h
            exact gret_v hC hr hlk hH hS (Nat.le_of_ble_eq_true rfl) (Nat.le_of_ble_eq_true rfl) dX6_compute_96
        · rw [if_neg hs13] at h
          by_cases hs22 : x2 = 7
          · rw [if_pos hs22] at h
            refine lv_tableIn (x := x2) (off := 117) (tgt := 118) hC.1 hC.2.1 dX6_compute_1 (by rw [hs22]; decide) (by rw [hs22]; decide) (by rw [hs22]; rfl) (by decide) ?_
            exact B_X6_compute_118 hC hE hml hr hlk h hH hS (lv_sub hl [0, 1, 3] rfl)
          · rw [if_neg hs22] at h
            by_cases hs23 : x2 = 8
            · rw [if_pos hs23] at h
              refine lv_tableIn (x := x2) (off := 117) (tgt := 118) hC.1 hC.2.1 dX6_compute_1 (by rw [hs23]; decide) (by rw [hs23]; decide) (by rw [hs23]; rfl) (by decide) ?_
              exact B_X6_compute_118 hC hE hml hr hlk h hH hS (lv_sub hl [0, 1, 3] rfl)
            · rw [if_neg hs23] at h
              by_cases hs24 : x2 = 9
              · rw [if_pos hs24] at h
                refine lv_tableIn (x := x2) (off := 117) (tgt := 118) hC.1 hC.2.1 dX6_compute_1 (by rw [hs24]; decide) (by rw [hs24]; decide) (by rw [hs24]; rfl) (by decide) ?_
                exact B_X6_compute_118 hC hE hml hr hlk h hH hS (lv_sub hl [0, 1, 3] rfl)
              · rw [if_neg hs24] at h
                by_cases hs25 : x2 = 10
                · rw [if_pos hs25] at h
                  refine lv_tableIn (x := x2) (off := 109) (tgt := 110) hC.1 hC.2.1 dX6_compute_1 (by rw [hs25]; decide) (by rw [hs25]; decide) (by rw [hs25]; rfl) (by decide) ?_
                  refine gl_aload_n hC dX6_compute_110 rfl (lv_at hl 1 rfl) ?_
                  refine lv_iload_n hC.1 hC.2.1 dX6_compute_111 rfl (lv_at hl 3 rfl) ?_
                  obtain ⟨hg26, h⟩ := gd_some h
                  obtain ⟨D27, e28, h⟩ := st_some h
                  refine pf_RX6_128 hC hH hS (inb_lt hg26)  (rfv_in hg26) dX6_compute_112 (fun H locs hH hS => ?_)
                  rw [← e28] at hH
                  refine lv_goto (tgt := 123) hC.1 hC.2.1 dX6_compute_115 (by decide) ?_
                  exact B_X6_compute_123 hC hE hml hr hlk h hH hS (lv_sub hl [0, 1] rfl)
                · rw [if_neg hs25] at h
                  have q3 := lv_neT (a := 3) hs1 (by decide)
                  have q4 := lv_neT (a := 4) hs5 (by decide)
                  have q5 := lv_neT (a := 5) hs9 (by decide)
                  have q6 := lv_neT (a := 6) hs13 (by decide)
                  have q7 := lv_neT (a := 7) hs22 (by decide)
                  have q8 := lv_neT (a := 8) hs23 (by decide)
                  have q9 := lv_neT (a := 9) hs24 (by decide)
                  have q10 := lv_neT (a := 10) hs25 (by decide)
                  refine lv_tableOut (x := x2) (tgt := 118) hC.1 hC.2.1 dX6_compute_1 (by omega) (by decide) ?_
                  exact B_X6_compute_118 hC hE hml hr hlk h hH hS (lv_sub hl [0, 1, 3] rfl)
def F_X6_attemptOperand_142 (n : Nat)   (C : St) : Option (Int32 × St) := some (0, C)
set_option maxHeartbeats 4000000 in
set_option maxRecDepth 100000 in
theorem B_X6_attemptOperand_142 {p : Program} {l : Launch} {e : Env} {s : State} {m : MethodId} {args : Array Value} {below : List Frame} {meth : Method} {c : Code} {g : GP} {Z : St} (hC : CX p s m args c cX6_attemptOperand RX6 g) (hE : EZ g s s.heap) (hml : c.maxLocals = 7) (hr : meth.sig.returnType = none) (hlk : meth.locks = false) {r : Int32} {C2 : St}  {C : St} (h : F_X6_attemptOperand_142 (gn g)   C = some (r, C2)) {ed : Nat → Nat} {H : Heap} {locs : List Loc} {ls : Array Slot} (hH : HW g ed C Z H) (hS : va_S (gP g) s.heap H locs) (hl : lv_has ls 7 []) : W p l e ({ frames := 6, cells := 1, slots := 10, locals := 133 } : Room) s m args below meth c H locs 0 0 (MQ below (QG none g C2 Z) args s 1 10 (gP g)) (F0 m 142 ls []) := by
  unfold F_X6_attemptOperand_142 at h
  cases h
  exact gret_v hC hr hlk hH hS (Nat.le_of_ble_eq_true rfl) (Nat.le_of_ble_eq_true rfl) dX6_attemptOperand_142
def F_X6_attemptOperand_95 (n : Nat)  (x1 : Int32) (x4 : Int32) (x6 : Int32) (C : St) : Option (Int32 × St) := gd (inb x1 6) (gd (inb x6 n) (bd2 (F_X4_write n x6 x4 (C 6 x1.toNatClampNeg 13 0) C) (fun r2 D3 => st (up D3 14 x6.toNatClampNeg 4 0 (1 : Int32)) (fun D6 => bd2 (F_X2_complete n x1 ((D6 6 x1.toNatClampNeg 12 0) + (1 : Int32)) D6) (fun r8 D9 => F_X6_attemptOperand_142 n  D9)))))
set_option maxHeartbeats 4000000 in
set_option maxRecDepth 100000 in
theorem B_X6_attemptOperand_95 {p : Program} {l : Launch} {e : Env} {s : State} {m : MethodId} {args : Array Value} {below : List Frame} {meth : Method} {c : Code} {g : GP} {Z : St} (hC : CX p s m args c cX6_attemptOperand RX6 g) (hE : EZ g s s.heap) (hml : c.maxLocals = 7) (hr : meth.sig.returnType = none) (hlk : meth.locks = false) {r : Int32} {C2 : St} {x1 : Int32} {x4 : Int32} {x6 : Int32} {C : St} (h : F_X6_attemptOperand_95 (gn g)  x1 x4 x6 C = some (r, C2)) {ed : Nat → Nat} {H : Heap} {locs : List Loc} {ls : Array Slot} (hH : HW g ed C Z H) (hS : va_S (gP g) s.heap H locs) (hl : lv_has ls 7 [(0, .ref (gA g 32 0)), (1, rfv (gA g) 6 x1), (4, .int x4), (6, rfv (gA g) 14 x6)]) : W p l e ({ frames := 6, cells := 1, slots := 10, locals := 133 } : Room) s m args below meth c H locs 0 0 (MQ below (QG none g C2 Z) args s 1 10 (gP g)) (F0 m 95 ls []) := by
  unfold F_X6_attemptOperand_95 at h
  refine gl_aload hC dX6_attemptOperand_95 (lv_at hl 3 rfl) ?_
  refine lv_iload hC.1 hC.2.1 dX6_attemptOperand_97 (lv_at hl 2 rfl) ?_
  refine gl_aload_n hC dX6_attemptOperand_99 rfl (lv_at hl 1 rfl) ?_
  obtain ⟨hg1, h⟩ := gd_some h
  refine gf_RX6_145 hC hH (inb_lt hg1) (rfv_in hg1) dX6_attemptOperand_100 ?_
  obtain ⟨hg5, h⟩ := gd_some h
  obtain ⟨r2, D3, hF4, h⟩ := bd2_some h
  refine gcallV (As := [.int x4, .int (C 6 x1.toNatClampNeg 13 0)]) (rest := []) (Cn := RX4) hC hE hml hH hS (c_X4_write hF4) ⟨wd_818, wd_819, wd_820, wd_7, wd_821⟩ hd_X4_write rfl rfl ⟨Nat.le_of_ble_eq_true rfl, Nat.le_of_ble_eq_true rfl⟩ (rfv_in hg5) (hw_recv (q := 14) (i := x6.toNatClampNeg) hC hH ⟨(inb_lt hg5), fun h => absurd h (by decide)⟩ rfl rfl) rfl hl.1 rfl (Nat.le_of_ble_eq_true rfl) dX6_attemptOperand_103 ⟨Nat.le_of_ble_eq_true rfl, Nat.le_of_ble_eq_true rfl⟩ (fun ed H locs hH hS => ?_)
  refine W.eq (g2 := F0 m 106 ls []) rfl ?_
  refine gl_aload hC dX6_attemptOperand_106 (lv_at hl 3 rfl) ?_
  refine lv_iconst (v := (1 : Int32)) hC.1 hC.2.1 dX6_attemptOperand_108 (by decide) ?_
  obtain ⟨D6, e7, h⟩ := st_some h
  refine pf_RX6_151 hC hH hS (inb_lt hg5) (by decide) (rfv_in hg5) dX6_attemptOperand_109 (fun H locs hH hS => ?_)
  rw [← e7] at hH
  refine lv_aload_n hC.1 hC.2.1 dX6_attemptOperand_112 rfl (lv_at hl 0 rfl) ?_
  refine gf_RX6_15 hC hH rfl dX6_attemptOperand_113 ?_
  refine gl_aload_n hC dX6_attemptOperand_116 rfl (lv_at hl 1 rfl) ?_
  refine gl_aload_n hC dX6_attemptOperand_117 rfl (lv_at hl 1 rfl) ?_
  refine gf_RX6_102 hC hH (inb_lt hg1) (rfv_in hg1) dX6_attemptOperand_118 ?_
  refine lv_iconst (v := (1 : Int32)) hC.1 hC.2.1 dX6_attemptOperand_121 (by decide) ?_
  refine lv_iadd hC.1 hC.2.1 dX6_attemptOperand_122 ?_
  obtain ⟨r8, D9, hF10, h⟩ := bd2_some h
  refine gcallV (As := [rfv (gA g) 6 x1, .int ((D6 6 x1.toNatClampNeg 12 0) + (1 : Int32))]) (rest := []) (Cn := RX2) hC hE hml hH hS (c_X2_complete hF10) ⟨wd_822, wd_719, wd_720, wd_6, wd_721⟩ hd_X2_complete rfl rfl ⟨Nat.le_of_ble_eq_true rfl, Nat.le_of_ble_eq_true rfl⟩ rfl (hw_recv (q := 12) (i := 0) hC hH ⟨Nat.zero_lt_one, fun h => absurd h (by decide)⟩ rfl rfl) rfl hl.1 rfl (Nat.le_of_ble_eq_true rfl) dX6_attemptOperand_123 ⟨Nat.le_of_ble_eq_true rfl, Nat.le_of_ble_eq_true rfl⟩ (fun ed H locs hH hS => ?_)
  refine W.eq (g2 := F0 m 126 ls []) rfl ?_
  refine lv_goto (tgt := 142) hC.1 hC.2.1 dX6_attemptOperand_126 (by decide) ?_
  exact B_X6_attemptOperand_142 hC hE hml hr hlk h hH hS (lv_sub hl [] rfl)
def F_X6_attemptOperand (n : Nat) (x1 : Int32) (x2 : Int32) (x3 : Int32) (x4 : Int32) (C : St) : Option (Int32 × St) := gd (inb x1 6) (bd2 (F_X5_has n x1 x4 C) (fun r1 D2 => if r1 = 0 then (gd (inb x2 n) (st (up D2 14 x2.toNatClampNeg 6 0 (D2 1 0 3 0)) (fun D28 => st (up D28 6 x1.toNatClampNeg 8 0 (4 : Int32)) (fun D30 => some (0, D30))))) else (bd2 (F_X2_find n x1 (x4 / (16 : Int32)) D2) (fun r6 D7 => if r6 < 0 then (bd2 (F_X10_ask n x1 (x4 / (16 : Int32)) D7) (fun r24 D25 => some (0, D25))) else (gd (inb x2 n) (st (up D7 14 x2.toNatClampNeg 6 0 (D7 1 0 3 0)) (fun D11 => gd (inb r6 n) (st (up D11 14 r6.toNatClampNeg 6 0 (D11 1 0 3 0)) (fun D14 => if x3 = (2 : Int32) then (F_X6_attemptOperand_95 n x1 x4 r6 D14) else (if x3 = (12 : Int32) then (F_X6_attemptOperand_95 n x1 x4 r6 D14) else (bd2 (F_X4_read n r6 x4 D14) (fun r18 D19 => bd2 (F_X6_compute n x1 x3 r18 D19) (fun r21 D22 => F_X6_attemptOperand_142 n  D22)))))))))))))
set_option maxHeartbeats 4000000 in
set_option maxRecDepth 100000 in
theorem c_X6_attemptOperand {l : Launch} {g : GP} {ed : Nat → Nat} {Z : St} {x1 : Int32} {x2 : Int32} {x3 : Int32} {x4 : Int32} {C : St} {r : Int32} {C2 : St} (h : F_X6_attemptOperand (gn g) x1 x2 x3 x4 C = some (r, C2)) : Met l yX6_attemptOperand (Cond.code yX6_attemptOperand cX6_attemptOperand 7 none :: lwG) ({ frames := 6, cells := 1, slots := 10, locals := 133 } : Room) (va_Pc [.ref (gA g 32 0), rfv (gA g) 6 x1, rfv (gA g) 14 x2, .int x3, .int x4] (PW g C Z ed)) (QG none g C2 Z) 1 10 (gP g) := by
  refine Met.ofW (cc := cX6_attemptOperand) (maxL := 7) (ret := none) (by decide +kernel) rfl ?_
  intro p e s m args below meth c s₁ B hml hv
  obtain ⟨ha, hC, hE, hr, hlk, hH⟩ := g_start B hv
  subst ha
  have hC : CX p s m ([.ref (gA g 32 0), rfv (gA g) 6 x1, rfv (gA g) 14 x2, .int x3, .int x4] : List Value).toArray c cX6_attemptOperand RX6 g := hC
  have hS : va_S (gP g) s.heap s.heap [] := va_S.rf
  obtain ⟨ls, he, hl⟩ := g_entry m (vs := [.ref (gA g 32 0), rfv (gA g) 6 x1, rfv (gA g) 14 x2, .int x3, .int x4]) (n := 7) (List.forall_mem_cons.mpr ⟨rfl, (List.forall_mem_cons.mpr ⟨rfv_cat, (List.forall_mem_cons.mpr ⟨rfv_cat, (List.forall_mem_cons.mpr ⟨rfl, (List.forall_mem_cons.mpr ⟨rfl, (fun _ h => absurd h List.not_mem_nil)⟩)⟩)⟩)⟩)⟩) (Nat.le_of_ble_eq_true rfl)
  rw [he]
  have hl : lv_has ls 7 [(0, .ref (gA g 32 0)), (1, rfv (gA g) 6 x1), (2, rfv (gA g) 14 x2), (3, .int x3), (4, .int x4)] := hl
  unfold F_X6_attemptOperand at h
  refine gl_aload_n hC dX6_attemptOperand_0 rfl (lv_at hl 1 rfl) ?_
  refine lv_iload hC.1 hC.2.1 dX6_attemptOperand_1 (lv_at hl 4 rfl) ?_
  obtain ⟨hg4, h⟩ := gd_some h
  obtain ⟨r1, D2, hF3, h⟩ := bd2_some h
  refine gcallV (As := [.int x4]) (rest := []) (Cn := RX5) hC hE hml hH hS (c_X5_has hF3) ⟨wd_731, wd_732, wd_733, wd_5, wd_734⟩ hd_X5_has rfl rfl ⟨Nat.le_of_ble_eq_true rfl, Nat.le_of_ble_eq_true rfl⟩ (rfv_in hg4) (hw_recv (q := 6) (i := x1.toNatClampNeg) hC hH ⟨(inb_lt hg4), fun h => absurd h (by decide)⟩ rfl rfl) rfl hl.1 rfl (Nat.le_of_ble_eq_true rfl) dX6_attemptOperand_3 ⟨Nat.le_of_ble_eq_true rfl, Nat.le_of_ble_eq_true rfl⟩ (fun ed H locs hH hS => ?_)
  refine W.eq (g2 := F0 m 6 ls [.int r1]) rfl ?_
  refine lv_if_ne (tgt := 26) hC.1 hC.2.1 dX6_attemptOperand_6 (by decide) (fun hc5 => ?_) (fun hc5 => ?_)
  · rw [if_neg hc5] at h
    refine lv_iload hC.1 hC.2.1 dX6_attemptOperand_26 (lv_at hl 4 rfl) ?_
    refine lv_bipush (v := (16 : Int32)) hC.1 hC.2.1 dX6_attemptOperand_28 (by decide) ?_
    refine lv_idiv hC.1 hC.2.1 dX6_attemptOperand_30 (by decide) ?_
    refine lv_istore (lv' := [(5, .int (x4 / (16 : Int32))), (0, .ref (gA g 32 0)), (1, rfv (gA g) 6 x1), (2, rfv (gA g) 14 x2), (3, .int x3), (4, .int x4)]) hC.1 hC.2.1 dX6_attemptOperand_31 hl (by decide) rfl (fun ls hl => ?_)
    refine lv_aload_n hC.1 hC.2.1 dX6_attemptOperand_33 rfl (lv_at hl 1 rfl) ?_
    refine gf_RX6_15 hC hH rfl dX6_attemptOperand_34 ?_
    refine gl_aload_n hC dX6_attemptOperand_37 rfl (lv_at hl 2 rfl) ?_
    refine lv_iload hC.1 hC.2.1 dX6_attemptOperand_38 (lv_at hl 0 rfl) ?_
    obtain ⟨r6, D7, hF8, h⟩ := bd2_some h
    refine gcallV (As := [rfv (gA g) 6 x1, .int (x4 / (16 : Int32))]) (rest := []) (Cn := RX2) hC hE hml hH hS (c_X2_find hF8) ⟨wd_735, wd_736, wd_737, wd_6, wd_738⟩ hd_X2_find rfl rfl ⟨Nat.le_of_ble_eq_true rfl, Nat.le_of_ble_eq_true rfl⟩ rfl (hw_recv (q := 12) (i := 0) hC hH ⟨Nat.zero_lt_one, fun h => absurd h (by decide)⟩ rfl rfl) rfl hl.1 rfl (Nat.le_of_ble_eq_true rfl) dX6_attemptOperand_40 ⟨Nat.le_of_ble_eq_true rfl, Nat.le_of_ble_eq_true rfl⟩ (fun ed H locs hH hS => ?_)
    refine W.eq (g2 := F0 m 43 ls [rfv (gA g) 14 r6]) rfl ?_
    refine gl_astore (lv' := [(6, rfv (gA g) 14 r6), (5, .int (x4 / (16 : Int32))), (0, .ref (gA g 32 0)), (1, rfv (gA g) 6 x1), (2, rfv (gA g) 14 x2), (3, .int x3), (4, .int x4)]) hC dX6_attemptOperand_43 hl (by decide) rfl (fun ls hl => ?_)
    refine gl_aload hC dX6_attemptOperand_45 (lv_at hl 0 rfl) ?_
    refine gl_ifnonnull (tgt := 61) hC dX6_attemptOperand_47 (by decide) (fun hc9 => ?_) (fun hc9 => ?_)
    · rw [if_neg hc9] at h
      refine gl_aload_n hC dX6_attemptOperand_61 rfl (lv_at hl 4 rfl) ?_
      refine lv_aload_n hC.1 hC.2.1 dX6_attemptOperand_62 rfl (lv_at hl 2 rfl) ?_
      refine gf_RX6_9 hC hH rfl dX6_attemptOperand_63 ?_
      refine gf_RX6_135 hC hH rfl dX6_attemptOperand_66 ?_
      obtain ⟨hg10, h⟩ := gd_some h
      obtain ⟨D11, e12, h⟩ := st_some h
      refine pf_RX6_138 hC hH hS (inb_lt hg10)  (rfv_in hg10) dX6_attemptOperand_69 (fun H locs hH hS => ?_)
      rw [← e12] at hH
      refine gl_aload hC dX6_attemptOperand_72 (lv_at hl 0 rfl) ?_
      refine lv_aload_n hC.1 hC.2.1 dX6_attemptOperand_74 rfl (lv_at hl 2 rfl) ?_
      refine gf_RX6_9 hC hH rfl dX6_attemptOperand_75 ?_
      refine gf_RX6_135 hC hH rfl dX6_attemptOperand_78 ?_
      obtain ⟨hg13, h⟩ := gd_some h
      obtain ⟨D14, e15, h⟩ := st_some h
      refine pf_RX6_138 hC hH hS (inb_lt hg13)  (rfv_in hg13) dX6_attemptOperand_81 (fun H locs hH hS => ?_)
      rw [← e15] at hH
      refine lv_iload_n hC.1 hC.2.1 dX6_attemptOperand_84 rfl (lv_at hl 5 rfl) ?_
      refine lv_iconst (v := (2 : Int32)) hC.1 hC.2.1 dX6_attemptOperand_85 (by decide) ?_
      refine lv_icmp_eq (tgt := 95) hC.1 hC.2.1 dX6_attemptOperand_86 (by decide) (fun hc16 => ?_) (fun hc16 => ?_)
      · rw [if_pos hc16] at h
        exact B_X6_attemptOperand_95 hC hE hml hr hlk h hH hS (lv_sub hl [2, 3, 6, 0] rfl)
      · rw [if_neg hc16] at h
        refine lv_iload_n hC.1 hC.2.1 dX6_attemptOperand_89 rfl (lv_at hl 5 rfl) ?_
        refine lv_bipush (v := (12 : Int32)) hC.1 hC.2.1 dX6_attemptOperand_90 (by decide) ?_
        refine lv_icmp_ne (tgt := 129) hC.1 hC.2.1 dX6_attemptOperand_92 (by decide) (fun hc17 => ?_) (fun hc17 => ?_)
        · rw [if_neg hc17] at h
          refine lv_aload_n hC.1 hC.2.1 dX6_attemptOperand_129 rfl (lv_at hl 2 rfl) ?_
          refine gl_aload_n hC dX6_attemptOperand_130 rfl (lv_at hl 3 rfl) ?_
          refine lv_iload_n hC.1 hC.2.1 dX6_attemptOperand_131 rfl (lv_at hl 5 rfl) ?_
          refine gl_aload hC dX6_attemptOperand_132 (lv_at hl 0 rfl) ?_
          refine lv_iload hC.1 hC.2.1 dX6_attemptOperand_134 (lv_at hl 6 rfl) ?_
          obtain ⟨r18, D19, hF20, h⟩ := bd2_some h
          refine gcallV (As := [.int x4]) (rest := [.int x3, rfv (gA g) 6 x1, .ref (gA g 32 0)]) (Cn := RX4) hC hE hml hH hS (c_X4_read hF20) ⟨wd_804, wd_805, wd_806, wd_7, wd_807⟩ hd_X4_read rfl rfl ⟨Nat.le_of_ble_eq_true rfl, Nat.le_of_ble_eq_true rfl⟩ (rfv_in hg13) (hw_recv (q := 14) (i := r6.toNatClampNeg) hC hH ⟨(inb_lt hg13), fun h => absurd h (by decide)⟩ rfl rfl) rfl hl.1 rfl (by simp only [List.map_cons, List.map_nil, rfv_cat]; exact Nat.le_of_ble_eq_true rfl) dX6_attemptOperand_136 ⟨Nat.le_of_ble_eq_true rfl, Nat.le_of_ble_eq_true rfl⟩ (fun ed H locs hH hS => ?_)
          refine W.eq (g2 := F0 m 139 ls [.int r18, .int x3, rfv (gA g) 6 x1, .ref (gA g 32 0)]) rfl ?_
          obtain ⟨r21, D22, hF23, h⟩ := bd2_some h
          refine gcallV (As := [rfv (gA g) 6 x1, .int x3, .int r18]) (rest := []) (Cn := RX6) hC hE hml hH hS (c_X6_compute hF23) ⟨wd_823, wd_825, wp_15, wd_16, wd_826⟩ hd_X6_compute rfl rfl ⟨Nat.le_of_ble_eq_true rfl, Nat.le_of_ble_eq_true rfl⟩ rfl (hw_recv (q := 32) (i := 0) hC hH ⟨Nat.zero_lt_one, fun h => absurd h (by decide)⟩ rfl rfl) rfl hl.1 rfl (Nat.le_of_ble_eq_true rfl) dX6_attemptOperand_139 ⟨Nat.le_of_ble_eq_true rfl, Nat.le_of_ble_eq_true rfl⟩ (fun ed H locs hH hS => ?_)
          refine W.eq (g2 := F0 m 142 ls []) rfl ?_
          exact B_X6_attemptOperand_142 hC hE hml hr hlk h hH hS (lv_sub hl [] rfl)
        · rw [if_pos hc17] at h
          exact B_X6_attemptOperand_95 hC hE hml hr hlk h hH hS (lv_sub hl [2, 3, 6, 0] rfl)
    · rw [if_pos hc9] at h
      refine lv_aload_n hC.1 hC.2.1 dX6_attemptOperand_50 rfl (lv_at hl 2 rfl) ?_
      refine gf_RX6_19 hC hH rfl dX6_attemptOperand_51 ?_
      refine gl_aload_n hC dX6_attemptOperand_54 rfl (lv_at hl 3 rfl) ?_
      refine lv_iload hC.1 hC.2.1 dX6_attemptOperand_55 (lv_at hl 1 rfl) ?_
      obtain ⟨r24, D25, hF26, h⟩ := bd2_some h
      refine gcallV (As := [rfv (gA g) 6 x1, .int (x4 / (16 : Int32))]) (rest := []) (Cn := RX10) hC hE hml hH hS (c_X10_ask hF26) ⟨wd_739, wd_740, wd_741, wd_8, wd_742⟩ hd_X10_ask rfl rfl ⟨Nat.le_of_ble_eq_true rfl, Nat.le_of_ble_eq_true rfl⟩ rfl (hw_recv (q := 16) (i := 0) hC hH ⟨Nat.zero_lt_one, fun h => absurd h (by decide)⟩ rfl rfl) rfl hl.1 rfl (Nat.le_of_ble_eq_true rfl) dX6_attemptOperand_57 ⟨Nat.le_of_ble_eq_true rfl, Nat.le_of_ble_eq_true rfl⟩ (fun ed H locs hH hS => ?_)
      refine W.eq (g2 := F0 m 60 ls []) rfl ?_
      cases h
      exact gret_v hC hr hlk hH hS (Nat.le_of_ble_eq_true rfl) (Nat.le_of_ble_eq_true rfl) dX6_attemptOperand_60
  · rw [if_pos hc5] at h
    refine gl_aload_n hC dX6_attemptOperand_9 rfl (lv_at hl 2 rfl) ?_
    refine lv_aload_n hC.1 hC.2.1 dX6_attemptOperand_10 rfl (lv_at hl 0 rfl) ?_
    refine gf_RX6_9 hC hH rfl dX6_attemptOperand_11 ?_
    refine gf_RX6_135 hC hH rfl dX6_attemptOperand_14 ?_
    obtain ⟨hg27, h⟩ := gd_some h
    obtain ⟨D28, e29, h⟩ := st_some h
    refine pf_RX6_138 hC hH hS (inb_lt hg27)  (rfv_in hg27) dX6_attemptOperand_17 (fun H locs hH hS => ?_)
    rw [← e29] at hH
    refine gl_aload_n hC dX6_attemptOperand_20 rfl (lv_at hl 1 rfl) ?_
    refine lv_iconst (v := (4 : Int32)) hC.1 hC.2.1 dX6_attemptOperand_21 (by decide) ?_
    obtain ⟨D30, e31, h⟩ := st_some h
    refine pf_RX6_35 hC hH hS (inb_lt hg4)  (rfv_in hg4) dX6_attemptOperand_22 (fun H locs hH hS => ?_)
    rw [← e31] at hH
    cases h
    exact gret_v hC hr hlk hH hS (Nat.le_of_ble_eq_true rfl) (Nat.le_of_ble_eq_true rfl) dX6_attemptOperand_25
def F_X6_control_281 (n : Nat)   (C : St) : Option (Int32 × St) := some (0, C)
set_option maxHeartbeats 4000000 in
set_option maxRecDepth 100000 in
theorem B_X6_control_281 {p : Program} {l : Launch} {e : Env} {s : State} {m : MethodId} {args : Array Value} {below : List Frame} {meth : Method} {c : Code} {g : GP} {Z : St} (hC : CX p s m args c cX6_control RX6 g) (hE : EZ g s s.heap) (hml : c.maxLocals = 5) (hr : meth.sig.returnType = none) (hlk : meth.locks = false) {r : Int32} {C2 : St}  {C : St} (h : F_X6_control_281 (gn g)   C = some (r, C2)) {ed : Nat → Nat} {H : Heap} {locs : List Loc} {ls : Array Slot} (hH : HW g ed C Z H) (hS : va_S (gP g) s.heap H locs) (hl : lv_has ls 5 []) : W p l e ({ frames := 6, cells := 1, slots := 10, locals := 133 } : Room) s m args below meth c H locs 1 10 (MQ below (QG none g C2 Z) args s 1 10 (gP g)) (F0 m 281 ls []) := by
  unfold F_X6_control_281 at h
  cases h
  exact gret_v hC hr hlk hH hS (Nat.le_of_ble_eq_true rfl) (Nat.le_of_ble_eq_true rfl) dX6_control_281
def F_X6_control_148 (n : Nat)  (t0 : Int32) (t1 : Int32) (C : St) : Option (Int32 × St) := bd2 (F_X2_complete n t1 t0 C) (fun r1 D2 => F_X6_control_281 n  D2)
set_option maxHeartbeats 4000000 in
set_option maxRecDepth 100000 in
theorem B_X6_control_148 {p : Program} {l : Launch} {e : Env} {s : State} {m : MethodId} {args : Array Value} {below : List Frame} {meth : Method} {c : Code} {g : GP} {Z : St} (hC : CX p s m args c cX6_control RX6 g) (hE : EZ g s s.heap) (hml : c.maxLocals = 5) (hr : meth.sig.returnType = none) (hlk : meth.locks = false) {r : Int32} {C2 : St} {t0 : Int32} {t1 : Int32} {C : St} (h : F_X6_control_148 (gn g)  t0 t1 C = some (r, C2)) {ed : Nat → Nat} {H : Heap} {locs : List Loc} {ls : Array Slot} (hH : HW g ed C Z H) (hS : va_S (gP g) s.heap H locs) (hl : lv_has ls 5 []) : W p l e ({ frames := 6, cells := 1, slots := 10, locals := 133 } : Room) s m args below meth c H locs 0 0 (MQ below (QG none g C2 Z) args s 1 10 (gP g)) (F0 m 148 ls [.int t0, rfv (gA g) 6 t1, .ref (gA g 12 0)]) := by
  unfold F_X6_control_148 at h
  obtain ⟨r1, D2, hF3, h⟩ := bd2_some h
  refine gcallV (As := [rfv (gA g) 6 t1, .int t0]) (rest := []) (Cn := RX2) hC hE hml hH hS (c_X2_complete hF3) ⟨wd_822, wd_719, wd_720, wd_6, wd_721⟩ hd_X2_complete rfl rfl ⟨Nat.le_of_ble_eq_true rfl, Nat.le_of_ble_eq_true rfl⟩ rfl (hw_recv (q := 12) (i := 0) hC hH ⟨Nat.zero_lt_one, fun h => absurd h (by decide)⟩ rfl rfl) rfl hl.1 rfl (Nat.le_of_ble_eq_true rfl) dX6_control_148 ⟨Nat.le_of_ble_eq_true rfl, Nat.le_of_ble_eq_true rfl⟩ (fun ed H locs hH hS => ?_)
  refine W.eq (g2 := F0 m 151 ls []) rfl ?_
  refine lv_goto (tgt := 281) hC.1 hC.2.1 dX6_control_151 (by decide) ?_
  refine W.widen (k := 1) (n := 10) (Nat.le_of_ble_eq_true rfl) (Nat.le_of_ble_eq_true rfl) ?_
  exact B_X6_control_281 hC hE hml hr hlk h hH hS (lv_sub hl [] rfl)
def F_X6_control_172 (n : Nat)  (t0 : Int32) (t1 : Int32) (C : St) : Option (Int32 × St) := bd2 (F_X2_complete n t1 t0 C) (fun r1 D2 => F_X6_control_281 n  D2)
set_option maxHeartbeats 4000000 in
set_option maxRecDepth 100000 in
theorem B_X6_control_172 {p : Program} {l : Launch} {e : Env} {s : State} {m : MethodId} {args : Array Value} {below : List Frame} {meth : Method} {c : Code} {g : GP} {Z : St} (hC : CX p s m args c cX6_control RX6 g) (hE : EZ g s s.heap) (hml : c.maxLocals = 5) (hr : meth.sig.returnType = none) (hlk : meth.locks = false) {r : Int32} {C2 : St} {t0 : Int32} {t1 : Int32} {C : St} (h : F_X6_control_172 (gn g)  t0 t1 C = some (r, C2)) {ed : Nat → Nat} {H : Heap} {locs : List Loc} {ls : Array Slot} (hH : HW g ed C Z H) (hS : va_S (gP g) s.heap H locs) (hl : lv_has ls 5 []) : W p l e ({ frames := 6, cells := 1, slots := 10, locals := 133 } : Room) s m args below meth c H locs 0 0 (MQ below (QG none g C2 Z) args s 1 10 (gP g)) (F0 m 172 ls [.int t0, rfv (gA g) 6 t1, .ref (gA g 12 0)]) := by
  unfold F_X6_control_172 at h
  obtain ⟨r1, D2, hF3, h⟩ := bd2_some h
  refine gcallV (As := [rfv (gA g) 6 t1, .int t0]) (rest := []) (Cn := RX2) hC hE hml hH hS (c_X2_complete hF3) ⟨wd_822, wd_719, wd_720, wd_6, wd_721⟩ hd_X2_complete rfl rfl ⟨Nat.le_of_ble_eq_true rfl, Nat.le_of_ble_eq_true rfl⟩ rfl (hw_recv (q := 12) (i := 0) hC hH ⟨Nat.zero_lt_one, fun h => absurd h (by decide)⟩ rfl rfl) rfl hl.1 rfl (Nat.le_of_ble_eq_true rfl) dX6_control_172 ⟨Nat.le_of_ble_eq_true rfl, Nat.le_of_ble_eq_true rfl⟩ (fun ed H locs hH hS => ?_)
  refine W.eq (g2 := F0 m 175 ls []) rfl ?_
  refine lv_goto (tgt := 281) hC.1 hC.2.1 dX6_control_175 (by decide) ?_
  refine W.widen (k := 1) (n := 10) (Nat.le_of_ble_eq_true rfl) (Nat.le_of_ble_eq_true rfl) ?_
  exact B_X6_control_281 hC hE hml hr hlk h hH hS (lv_sub hl [] rfl)
def F_X6_control_263 (n : Nat)  (x1 : Int32) (x4 : Int32) (C : St) : Option (Int32 × St) := gd (inb x1 6) (st (up C 6 x1.toNatClampNeg 13 0 (C 6 x1.toNatClampNeg 14 0)) (fun D2 => bd2 (F_X2_complete n x1 x4 D2) (fun r4 D5 => F_X6_control_281 n  D5)))
set_option maxHeartbeats 4000000 in
set_option maxRecDepth 100000 in
theorem B_X6_control_263 {p : Program} {l : Launch} {e : Env} {s : State} {m : MethodId} {args : Array Value} {below : List Frame} {meth : Method} {c : Code} {g : GP} {Z : St} (hC : CX p s m args c cX6_control RX6 g) (hE : EZ g s s.heap) (hml : c.maxLocals = 5) (hr : meth.sig.returnType = none) (hlk : meth.locks = false) {r : Int32} {C2 : St} {x1 : Int32} {x4 : Int32} {C : St} (h : F_X6_control_263 (gn g)  x1 x4 C = some (r, C2)) {ed : Nat → Nat} {H : Heap} {locs : List Loc} {ls : Array Slot} (hH : HW g ed C Z H) (hS : va_S (gP g) s.heap H locs) (hl : lv_has ls 5 [(0, .ref (gA g 32 0)), (1, rfv (gA g) 6 x1), (4, .int x4)]) : W p l e ({ frames := 6, cells := 1, slots := 10, locals := 133 } : Room) s m args below meth c H locs 0 0 (MQ below (QG none g C2 Z) args s 1 10 (gP g)) (F0 m 263 ls []) := by
  unfold F_X6_control_263 at h
  refine gl_aload_n hC dX6_control_263 rfl (lv_at hl 1 rfl) ?_
  refine gl_aload_n hC dX6_control_264 rfl (lv_at hl 1 rfl) ?_
  obtain ⟨hg1, h⟩ := gd_some h
  refine gf_RX6_128 hC hH (inb_lt hg1) (rfv_in hg1) dX6_control_265 ?_
  obtain ⟨D2, e3, h⟩ := st_some h
  refine pf_RX6_145 hC hH hS (inb_lt hg1)  (rfv_in hg1) dX6_control_268 (fun H locs hH hS => ?_)
  rw [← e3] at hH
  refine lv_aload_n hC.1 hC.2.1 dX6_control_271 rfl (lv_at hl 0 rfl) ?_
  refine gf_RX6_15 hC hH rfl dX6_control_272 ?_
  refine gl_aload_n hC dX6_control_275 rfl (lv_at hl 1 rfl) ?_
  refine lv_iload hC.1 hC.2.1 dX6_control_276 (lv_at hl 2 rfl) ?_
  obtain ⟨r4, D5, hF6, h⟩ := bd2_some h
  refine gcallV (As := [rfv (gA g) 6 x1, .int x4]) (rest := []) (Cn := RX2) hC hE hml hH hS (c_X2_complete hF6) ⟨wd_822, wd_719, wd_720, wd_6, wd_721⟩ hd_X2_complete rfl rfl ⟨Nat.le_of_ble_eq_true rfl, Nat.le_of_ble_eq_true rfl⟩ rfl (hw_recv (q := 12) (i := 0) hC hH ⟨Nat.zero_lt_one, fun h => absurd h (by decide)⟩ rfl rfl) rfl hl.1 rfl (Nat.le_of_ble_eq_true rfl) dX6_control_278 ⟨Nat.le_of_ble_eq_true rfl, Nat.le_of_ble_eq_true rfl⟩ (fun ed H locs hH hS => ?_)
  refine W.eq (g2 := F0 m 281 ls []) rfl ?_
  refine W.widen (k := 1) (n := 10) (Nat.le_of_ble_eq_true rfl) (Nat.le_of_ble_eq_true rfl) ?_
  exact B_X6_control_281 hC hE hml hr hlk h hH hS (lv_sub hl [] rfl)
def F_X6_control (n : Nat) (x1 : Int32) (x2 : Int32) (x3 : Int32) (C : St) : Option (Int32 × St) := gd (inb x1 6) (if x2 = 0 then (bd2 (F_X2_complete n x1 ((C 6 x1.toNatClampNeg 12 0) + (1 : Int32)) C) (fun r3 D4 => st (up D4 6 x1.toNatClampNeg 8 0 (1 : Int32)) (fun D6 => F_X6_control_281 n  D6))) else (if x2 = 1 then (F_X6_control_263 n x1 ((C 6 x1.toNatClampNeg 12 0) + (1 : Int32)) C) else (if x2 = 2 then (F_X6_control_263 n x1 ((C 6 x1.toNatClampNeg 12 0) + (1 : Int32)) C) else (if x2 = 3 then (F_X6_control_263 n x1 ((C 6 x1.toNatClampNeg 12 0) + (1 : Int32)) C) else (if x2 = 4 then (F_X6_control_263 n x1 ((C 6 x1.toNatClampNeg 12 0) + (1 : Int32)) C) else (if x2 = 5 then (F_X6_control_263 n x1 ((C 6 x1.toNatClampNeg 12 0) + (1 : Int32)) C) else (if x2 = 6 then (F_X6_control_263 n x1 ((C 6 x1.toNatClampNeg 12 0) + (1 : Int32)) C) else (if x2 = 7 then (bd2 (F_X2_complete n x1 x3 C) (fun r15 D16 => F_X6_control_281 n  D16)) else (if x2 = 8 then (if 0 ≤ (C 6 x1.toNatClampNeg 13 0) then (F_X6_control_148 n ((C 6 x1.toNatClampNeg 12 0) + (1 : Int32)) x1 C) else (F_X6_control_148 n x3 x1 C)) else (if x2 = 9 then (if (C 6 x1.toNatClampNeg 13 0) = 0 then (F_X6_control_172 n x3 x1 C) else (F_X6_control_172 n ((C 6 x1.toNatClampNeg 12 0) + (1 : Int32)) x1 C)) else (if x2 = 10 then (F_X6_control_263 n x1 ((C 6 x1.toNatClampNeg 12 0) + (1 : Int32)) C) else (if x2 = 11 then (F_X6_control_263 n x1 ((C 6 x1.toNatClampNeg 12 0) + (1 : Int32)) C) else (if x2 = 12 then (F_X6_control_263 n x1 ((C 6 x1.toNatClampNeg 12 0) + (1 : Int32)) C) else (if x2 = 13 then (bd2 (F_X3_read n x1 C) (fun r26 D27 => F_X6_control_281 n  D27)) else (if x2 = 14 then (bd2 (F_X3_print n x1 C) (fun r30 D31 => F_X6_control_281 n  D31)) else (if x2 = 15 then (bd2 (F_X1_ask n x1 C) (fun r34 D35 => F_X6_control_281 n  D35)) else (if x2 = 16 then (bd2 (F_X0_get n x1 x3 C) (fun r38 D39 => F_X6_control_281 n  D39)) else (if x2 = 17 then (bd2 (F_X0_takesBack n x1 x3 C) (fun r42 D43 => if r42 = 0 then (F_X6_control_281 n  D43) else (bd2 (F_X0_grantWaiting n  D43) (fun r46 D47 => F_X6_control_281 n  D47)))) else (if x2 = 18 then (st (up C 6 x1.toNatClampNeg 13 0 x3) (fun D50 => bd2 (F_X2_complete n x1 ((C 6 x1.toNatClampNeg 12 0) + (1 : Int32)) D50) (fun r52 D53 => F_X6_control_281 n  D53))) else (F_X6_control_263 n x1 ((C 6 x1.toNatClampNeg 12 0) + (1 : Int32)) C))))))))))))))))))))
set_option maxHeartbeats 4000000 in
set_option maxRecDepth 100000 in
theorem c_X6_control {l : Launch} {g : GP} {ed : Nat → Nat} {Z : St} {x1 : Int32} {x2 : Int32} {x3 : Int32} {C : St} {r : Int32} {C2 : St} (h : F_X6_control (gn g) x1 x2 x3 C = some (r, C2)) : Met l yX6_control (Cond.code yX6_control cX6_control 5 none :: lwG) ({ frames := 6, cells := 1, slots := 10, locals := 133 } : Room) (va_Pc [.ref (gA g 32 0), rfv (gA g) 6 x1, .int x2, .int x3] (PW g C Z ed)) (QG none g C2 Z) 1 10 (gP g) := by
  refine Met.ofW (cc := cX6_control) (maxL := 5) (ret := none) (by decide +kernel) rfl ?_
  intro p e s m args below meth c s₁ B hml hv
  obtain ⟨ha, hC, hE, hr, hlk, hH⟩ := g_start B hv
  subst ha
  have hC : CX p s m ([.ref (gA g 32 0), rfv (gA g) 6 x1, .int x2, .int x3] : List Value).toArray c cX6_control RX6 g := hC
  have hS : va_S (gP g) s.heap s.heap [] := va_S.rf
  obtain ⟨ls, he, hl⟩ := g_entry m (vs := [.ref (gA g 32 0), rfv (gA g) 6 x1, .int x2, .int x3]) (n := 5) (List.forall_mem_cons.mpr ⟨rfl, (List.forall_mem_cons.mpr ⟨rfv_cat, (List.forall_mem_cons.mpr ⟨rfl, (List.forall_mem_cons.mpr ⟨rfl, (fun _ h => absurd h List.not_mem_nil)⟩)⟩)⟩)⟩) (Nat.le_of_ble_eq_true rfl)
  rw [he]
  have hl : lv_has ls 5 [(0, .ref (gA g 32 0)), (1, rfv (gA g) 6 x1), (2, .int x2), (3, .int x3)] := hl
  unfold F_X6_control at h
  refine gl_aload_n hC dX6_control_0 rfl (lv_at hl 1 rfl) ?_
  obtain ⟨hg1, h⟩ := gd_some h
  refine gf_RX6_102 hC hH (inb_lt hg1) (rfv_in hg1) dX6_control_1 ?_
  refine lv_iconst (v := (1 : Int32)) hC.1 hC.2.1 dX6_control_4 (by decide) ?_
  refine lv_iadd hC.1 hC.2.1 dX6_control_5 ?_
  refine lv_istore (lv' := [(4, .int ((C 6 x1.toNatClampNeg 12 0) + (1 : Int32))), (0, .ref (gA g 32 0)), (1, rfv (gA g) 6 x1), (2, .int x2), (3, .int x3)]) hC.1 hC.2.1 dX6_control_6 hl (by decide) rfl (fun ls hl => ?_)
  refine lv_iload_n hC.1 hC.2.1 dX6_control_8 rfl (lv_at hl 3 rfl) ?_
  by_cases hs2 : x2 = 0
  · rw [if_pos hs2] at h
    refine lv_tableIn (x := x2) (off := 91) (tgt := 100) hC.1 hC.2.1 dX6_control_9 (by rw [hs2]; decide) (by rw [hs2]; decide) (by rw [hs2]; rfl) (by decide) ?_
    refine lv_aload_n hC.1 hC.2.1 dX6_control_100 rfl (lv_at hl 1 rfl) ?_
    refine gf_RX6_15 hC hH rfl dX6_control_101 ?_
    refine gl_aload_n hC dX6_control_104 rfl (lv_at hl 2 rfl) ?_
    refine lv_iload hC.1 hC.2.1 dX6_control_105 (lv_at hl 0 rfl) ?_
    obtain ⟨r3, D4, hF5, h⟩ := bd2_some h
    refine gcallV (As := [rfv (gA g) 6 x1, .int ((C 6 x1.toNatClampNeg 12 0) + (1 : Int32))]) (rest := []) (Cn := RX2) hC hE hml hH hS (c_X2_complete hF5) ⟨wd_822, wd_719, wd_720, wd_6, wd_721⟩ hd_X2_complete rfl rfl ⟨Nat.le_of_ble_eq_true rfl, Nat.le_of_ble_eq_true rfl⟩ rfl (hw_recv (q := 12) (i := 0) hC hH ⟨Nat.zero_lt_one, fun h => absurd h (by decide)⟩ rfl rfl) rfl hl.1 rfl (Nat.le_of_ble_eq_true rfl) dX6_control_107 ⟨Nat.le_of_ble_eq_true rfl, Nat.le_of_ble_eq_true rfl⟩ (fun ed H locs hH hS => ?_)
    refine W.eq (g2 := F0 m 110 ls []) rfl ?_
    refine gl_aload_n hC dX6_control_110 rfl (lv_at hl 2 rfl) ?_
    refine lv_iconst (v := (1 : Int32)) hC.1 hC.2.1 dX6_control_111 (by decide) ?_
    obtain ⟨D6, e7, h⟩ := st_some h
    refine pf_RX6_35 hC hH hS (inb_lt hg1)  (rfv_in hg1) dX6_control_112 (fun H locs hH hS => ?_)
    rw [← e7] at hH
    refine lv_goto (tgt := 281) hC.1 hC.2.1 dX6_control_115 (by decide) ?_
    refine W.widen (k := 1) (n := 10) (Nat.le_of_ble_eq_true rfl) (Nat.le_of_ble_eq_true rfl) ?_
    exact B_X6_control_281 hC hE hml hr hlk h hH hS (lv_sub hl [] rfl)
  · rw [if_neg hs2] at h
    by_cases hs8 : x2 = 1
    · rw [if_pos hs8] at h
      refine lv_tableIn (x := x2) (off := 254) (tgt := 263) hC.1 hC.2.1 dX6_control_9 (by rw [hs8]; decide) (by rw [hs8]; decide) (by rw [hs8]; rfl) (by decide) ?_
      exact B_X6_control_263 hC hE hml hr hlk h hH hS (lv_sub hl [1, 2, 0] rfl)
    · rw [if_neg hs8] at h
      by_cases hs9 : x2 = 2
      · rw [if_pos hs9] at h
        refine lv_tableIn (x := x2) (off := 254) (tgt := 263) hC.1 hC.2.1 dX6_control_9 (by rw [hs9]; decide) (by rw [hs9]; decide) (by rw [hs9]; rfl) (by decide) ?_
        exact B_X6_control_263 hC hE hml hr hlk h hH hS (lv_sub hl [1, 2, 0] rfl)
      · rw [if_neg hs9] at h
        by_cases hs10 : x2 = 3
        · rw [if_pos hs10] at h
          refine lv_tableIn (x := x2) (off := 254) (tgt := 263) hC.1 hC.2.1 dX6_control_9 (by rw [hs10]; decide) (by rw [hs10]; decide) (by rw [hs10]; rfl) (by decide) ?_
          exact B_X6_control_263 hC hE hml hr hlk h hH hS (lv_sub hl [1, 2, 0] rfl)
        · rw [if_neg hs10] at h
          by_cases hs11 : x2 = 4
          · rw [if_pos hs11] at h
            refine lv_tableIn (x := x2) (off := 254) (tgt := 263) hC.1 hC.2.1 dX6_control_9 (by rw [hs11]; decide) (by rw [hs11]; decide) (by rw [hs11]; rfl) (by decide) ?_
            exact B_X6_control_263 hC hE hml hr hlk h hH hS (lv_sub hl [1, 2, 0] rfl)
          · rw [if_neg hs11] at h
            by_cases hs12 : x2 = 5
            · rw [if_pos hs12] at h
              refine lv_tableIn (x := x2) (off := 254) (tgt := 263) hC.1 hC.2.1 dX6_control_9 (by rw [hs12]; decide) (by rw [hs12]; decide) (by rw [hs12]; rfl) (by decide) ?_
              exact B_X6_control_263 hC hE hml hr hlk h hH hS (lv_sub hl [1, 2, 0] rfl)
            · rw [if_neg hs12] at h
              by_cases hs13 : x2 = 6
              · rw [if_pos hs13] at h
                refine lv_tableIn (x := x2) (off := 254) (tgt := 263) hC.1 hC.2.1 dX6_control_9 (by rw [hs13]; decide) (by rw [hs13]; decide) (by rw [hs13]; rfl) (by decide) ?_
                exact B_X6_control_263 hC hE hml hr hlk h hH hS (lv_sub hl [1, 2, 0] rfl)
              · rw [if_neg hs13] at h
                by_cases hs14 : x2 = 7
                · rw [if_pos hs14] at h
                  refine lv_tableIn (x := x2) (off := 109) (tgt := 118) hC.1 hC.2.1 dX6_control_9 (by rw [hs14]; decide) (by rw [hs14]; decide) (by rw [hs14]; rfl) (by decide) ?_
                  refine lv_aload_n hC.1 hC.2.1 dX6_control_118 rfl (lv_at hl 1 rfl) ?_
                  refine gf_RX6_15 hC hH rfl dX6_control_119 ?_
                  refine gl_aload_n hC dX6_control_122 rfl (lv_at hl 2 rfl) ?_
                  refine lv_iload_n hC.1 hC.2.1 dX6_control_123 rfl (lv_at hl 4 rfl) ?_
                  obtain ⟨r15, D16, hF17, h⟩ := bd2_some h
                  refine gcallV (As := [rfv (gA g) 6 x1, .int x3]) (rest := []) (Cn := RX2) hC hE hml hH hS (c_X2_complete hF17) ⟨wd_822, wd_719, wd_720, wd_6, wd_721⟩ hd_X2_complete rfl rfl ⟨Nat.le_of_ble_eq_true rfl, Nat.le_of_ble_eq_true rfl⟩ rfl (hw_recv (q := 12) (i := 0) hC hH ⟨Nat.zero_lt_one, fun h => absurd h (by decide)⟩ rfl rfl) rfl hl.1 rfl (Nat.le_of_ble_eq_true rfl) dX6_control_124 ⟨Nat.le_of_ble_eq_true rfl, Nat.le_of_ble_eq_true rfl⟩ (fun ed H locs hH hS => ?_)
                  refine W.eq (g2 := F0 m 127 ls []) rfl ?_
                  refine lv_goto (tgt := 281) hC.1 hC.2.1 dX6_control_127 (by decide) ?_
                  refine W.widen (k := 1) (n := 10) (Nat.le_of_ble_eq_true rfl) (Nat.le_of_ble_eq_true rfl) ?_
                  exact B_X6_control_281 hC hE hml hr hlk h hH hS (lv_sub hl [] rfl)
                · rw [if_neg hs14] at h
                  by_cases hs18 : x2 = 8
                  · rw [if_pos hs18] at h
                    refine lv_tableIn (x := x2) (off := 121) (tgt := 130) hC.1 hC.2.1 dX6_control_9 (by rw [hs18]; decide) (by rw [hs18]; decide) (by rw [hs18]; rfl) (by decide) ?_
                    refine lv_aload_n hC.1 hC.2.1 dX6_control_130 rfl (lv_at hl 1 rfl) ?_
                    refine gf_RX6_15 hC hH rfl dX6_control_131 ?_
                    refine gl_aload_n hC dX6_control_134 rfl (lv_at hl 2 rfl) ?_
                    refine gl_aload_n hC dX6_control_135 rfl (lv_at hl 2 rfl) ?_
                    refine gf_RX6_145 hC hH (inb_lt hg1) (rfv_in hg1) dX6_control_136 ?_
                    refine lv_if_ge (tgt := 146) hC.1 hC.2.1 dX6_control_139 (by decide) (fun hc19 => ?_) (fun hc19 => ?_)
                    · rw [if_pos hc19] at h
                      refine lv_iload hC.1 hC.2.1 dX6_control_146 (lv_at hl 0 rfl) ?_
                      exact B_X6_control_148 hC hE hml hr hlk h hH hS (lv_sub hl [] rfl)
                    · rw [if_neg hc19] at h
                      refine lv_iload_n hC.1 hC.2.1 dX6_control_142 rfl (lv_at hl 4 rfl) ?_
                      refine lv_goto (tgt := 148) hC.1 hC.2.1 dX6_control_143 (by decide) ?_
                      exact B_X6_control_148 hC hE hml hr hlk h hH hS (lv_sub hl [] rfl)
                  · rw [if_neg hs18] at h
                    by_cases hs20 : x2 = 9
                    · rw [if_pos hs20] at h
                      refine lv_tableIn (x := x2) (off := 145) (tgt := 154) hC.1 hC.2.1 dX6_control_9 (by rw [hs20]; decide) (by rw [hs20]; decide) (by rw [hs20]; rfl) (by decide) ?_
                      refine lv_aload_n hC.1 hC.2.1 dX6_control_154 rfl (lv_at hl 1 rfl) ?_
                      refine gf_RX6_15 hC hH rfl dX6_control_155 ?_
                      refine gl_aload_n hC dX6_control_158 rfl (lv_at hl 2 rfl) ?_
                      refine gl_aload_n hC dX6_control_159 rfl (lv_at hl 2 rfl) ?_
                      refine gf_RX6_145 hC hH (inb_lt hg1) (rfv_in hg1) dX6_control_160 ?_
                      refine lv_if_ne (tgt := 170) hC.1 hC.2.1 dX6_control_163 (by decide) (fun hc21 => ?_) (fun hc21 => ?_)
                      · rw [if_neg hc21] at h
                        refine lv_iload hC.1 hC.2.1 dX6_control_170 (lv_at hl 0 rfl) ?_
                        exact B_X6_control_172 hC hE hml hr hlk h hH hS (lv_sub hl [] rfl)
                      · rw [if_pos hc21] at h
                        refine lv_iload_n hC.1 hC.2.1 dX6_control_166 rfl (lv_at hl 4 rfl) ?_
                        refine lv_goto (tgt := 172) hC.1 hC.2.1 dX6_control_167 (by decide) ?_
                        exact B_X6_control_172 hC hE hml hr hlk h hH hS (lv_sub hl [] rfl)
                    · rw [if_neg hs20] at h
                      by_cases hs22 : x2 = 10
                      · rw [if_pos hs22] at h
                        refine lv_tableIn (x := x2) (off := 254) (tgt := 263) hC.1 hC.2.1 dX6_control_9 (by rw [hs22]; decide) (by rw [hs22]; decide) (by rw [hs22]; rfl) (by decide) ?_
                        exact B_X6_control_263 hC hE hml hr hlk h hH hS (lv_sub hl [1, 2, 0] rfl)
                      · rw [if_neg hs22] at h
                        by_cases hs23 : x2 = 11
                        · rw [if_pos hs23] at h
                          refine lv_tableIn (x := x2) (off := 254) (tgt := 263) hC.1 hC.2.1 dX6_control_9 (by rw [hs23]; decide) (by rw [hs23]; decide) (by rw [hs23]; rfl) (by decide) ?_
                          exact B_X6_control_263 hC hE hml hr hlk h hH hS (lv_sub hl [1, 2, 0] rfl)
                        · rw [if_neg hs23] at h
                          by_cases hs24 : x2 = 12
                          · rw [if_pos hs24] at h
                            refine lv_tableIn (x := x2) (off := 254) (tgt := 263) hC.1 hC.2.1 dX6_control_9 (by rw [hs24]; decide) (by rw [hs24]; decide) (by rw [hs24]; rfl) (by decide) ?_
                            exact B_X6_control_263 hC hE hml hr hlk h hH hS (lv_sub hl [1, 2, 0] rfl)
                          · rw [if_neg hs24] at h
                            by_cases hs25 : x2 = 13
                            · rw [if_pos hs25] at h
                              refine lv_tableIn (x := x2) (off := 169) (tgt := 178) hC.1 hC.2.1 dX6_control_9 (by rw [hs25]; decide) (by rw [hs25]; decide) (by rw [hs25]; rfl) (by decide) ?_
                              refine lv_aload_n hC.1 hC.2.1 dX6_control_178 rfl (lv_at hl 1 rfl) ?_
                              refine gf_RX6_27 hC hH rfl dX6_control_179 ?_
                              refine gl_aload_n hC dX6_control_182 rfl (lv_at hl 2 rfl) ?_
                              obtain ⟨r26, D27, hF28, h⟩ := bd2_some h
                              refine gcallV (As := [rfv (gA g) 6 x1]) (rest := []) (Cn := RX3) hC hE hml hH hS (c_X3_read hF28) ⟨wd_831, wd_832, wd_833, wd_14, wd_834⟩ hd_X3_read rfl rfl ⟨Nat.le_of_ble_eq_true rfl, Nat.le_of_ble_eq_true rfl⟩ rfl (hw_recv (q := 23) (i := 0) hC hH ⟨Nat.zero_lt_one, fun h => absurd h (by decide)⟩ rfl rfl) rfl hl.1 rfl (Nat.le_of_ble_eq_true rfl) dX6_control_183 ⟨Nat.le_of_ble_eq_true rfl, Nat.le_of_ble_eq_true rfl⟩ (fun ed H locs hH hS => ?_)
                              refine W.eq (g2 := F0 m 186 ls []) rfl ?_
                              refine lv_goto (tgt := 281) hC.1 hC.2.1 dX6_control_186 (by decide) ?_
                              exact B_X6_control_281 hC hE hml hr hlk h hH hS (lv_sub hl [] rfl)
                            · rw [if_neg hs25] at h
                              by_cases hs29 : x2 = 14
                              · rw [if_pos hs29] at h
                                refine lv_tableIn (x := x2) (off := 180) (tgt := 189) hC.1 hC.2.1 dX6_control_9 (by rw [hs29]; decide) (by rw [hs29]; decide) (by rw [hs29]; rfl) (by decide) ?_
                                refine lv_aload_n hC.1 hC.2.1 dX6_control_189 rfl (lv_at hl 1 rfl) ?_
                                refine gf_RX6_27 hC hH rfl dX6_control_190 ?_
                                refine gl_aload_n hC dX6_control_193 rfl (lv_at hl 2 rfl) ?_
                                obtain ⟨r30, D31, hF32, h⟩ := bd2_some h
                                refine gcallV (As := [rfv (gA g) 6 x1]) (rest := []) (Cn := RX3) hC hE hml hH hS (c_X3_print hF32) ⟨wd_843, wd_844, wd_845, wd_14, wd_846⟩ hd_X3_print rfl rfl ⟨Nat.le_of_ble_eq_true rfl, Nat.le_of_ble_eq_true rfl⟩ rfl (hw_recv (q := 23) (i := 0) hC hH ⟨Nat.zero_lt_one, fun h => absurd h (by decide)⟩ rfl rfl) rfl hl.1 rfl (Nat.le_of_ble_eq_true rfl) dX6_control_194 ⟨Nat.le_of_ble_eq_true rfl, Nat.le_of_ble_eq_true rfl⟩ (fun ed H locs hH hS => ?_)
                                refine W.eq (g2 := F0 m 197 ls []) rfl ?_
                                refine lv_goto (tgt := 281) hC.1 hC.2.1 dX6_control_197 (by decide) ?_
                                refine W.widen (k := 1) (n := 10) (Nat.le_of_ble_eq_true rfl) (Nat.le_of_ble_eq_true rfl) ?_
                                exact B_X6_control_281 hC hE hml hr hlk h hH hS (lv_sub hl [] rfl)
                              · rw [if_neg hs29] at h
                                by_cases hs33 : x2 = 15
                                · rw [if_pos hs33] at h
                                  refine lv_tableIn (x := x2) (off := 191) (tgt := 200) hC.1 hC.2.1 dX6_control_9 (by rw [hs33]; decide) (by rw [hs33]; decide) (by rw [hs33]; rfl) (by decide) ?_
                                  refine lv_aload_n hC.1 hC.2.1 dX6_control_200 rfl (lv_at hl 1 rfl) ?_
                                  refine gf_RX6_31 hC hH rfl dX6_control_201 ?_
                                  refine gl_aload_n hC dX6_control_204 rfl (lv_at hl 2 rfl) ?_
                                  obtain ⟨r34, D35, hF36, h⟩ := bd2_some h
                                  refine gcallV (As := [rfv (gA g) 6 x1]) (rest := []) (Cn := RX1) hC hE hml hH hS (c_X1_ask hF36) ⟨wd_850, wd_851, wd_852, wd_15, wd_853⟩ hd_X1_ask rfl rfl ⟨Nat.le_of_ble_eq_true rfl, Nat.le_of_ble_eq_true rfl⟩ rfl (hw_recv (q := 26) (i := 0) hC hH ⟨Nat.zero_lt_one, fun h => absurd h (by decide)⟩ rfl rfl) rfl hl.1 rfl (Nat.le_of_ble_eq_true rfl) dX6_control_205 ⟨Nat.le_of_ble_eq_true rfl, Nat.le_of_ble_eq_true rfl⟩ (fun ed H locs hH hS => ?_)
                                  refine W.eq (g2 := F0 m 208 ls []) rfl ?_
                                  refine lv_goto (tgt := 281) hC.1 hC.2.1 dX6_control_208 (by decide) ?_
                                  refine W.widen (k := 1) (n := 10) (Nat.le_of_ble_eq_true rfl) (Nat.le_of_ble_eq_true rfl) ?_
                                  exact B_X6_control_281 hC hE hml hr hlk h hH hS (lv_sub hl [] rfl)
                                · rw [if_neg hs33] at h
                                  by_cases hs37 : x2 = 16
                                  · rw [if_pos hs37] at h
                                    refine lv_tableIn (x := x2) (off := 202) (tgt := 211) hC.1 hC.2.1 dX6_control_9 (by rw [hs37]; decide) (by rw [hs37]; decide) (by rw [hs37]; rfl) (by decide) ?_
                                    refine lv_aload_n hC.1 hC.2.1 dX6_control_211 rfl (lv_at hl 1 rfl) ?_
                                    refine gf_RX6_23 hC hH rfl dX6_control_212 ?_
                                    refine gl_aload_n hC dX6_control_215 rfl (lv_at hl 2 rfl) ?_
                                    refine lv_iload_n hC.1 hC.2.1 dX6_control_216 rfl (lv_at hl 4 rfl) ?_
                                    obtain ⟨r38, D39, hF40, h⟩ := bd2_some h
                                    refine gcallV (As := [rfv (gA g) 6 x1, .int x3]) (rest := []) (Cn := RX0) hC hE hml hH hS (c_X0_get hF40) ⟨wd_855, wd_856, wd_857, wd_13, wd_858⟩ hd_X0_get rfl rfl ⟨Nat.le_of_ble_eq_true rfl, Nat.le_of_ble_eq_true rfl⟩ rfl (hw_recv (q := 19) (i := 0) hC hH ⟨Nat.zero_lt_one, fun h => absurd h (by decide)⟩ rfl rfl) rfl hl.1 rfl (Nat.le_of_ble_eq_true rfl) dX6_control_217 ⟨Nat.le_of_ble_eq_true rfl, Nat.le_of_ble_eq_true rfl⟩ (fun ed H locs hH hS => ?_)
                                    refine W.eq (g2 := F0 m 220 ls []) rfl ?_
                                    refine lv_goto (tgt := 281) hC.1 hC.2.1 dX6_control_220 (by decide) ?_
                                    exact B_X6_control_281 hC hE hml hr hlk h hH hS (lv_sub hl [] rfl)
                                  · rw [if_neg hs37] at h
                                    by_cases hs41 : x2 = 17
                                    · rw [if_pos hs41] at h
                                      refine lv_tableIn (x := x2) (off := 214) (tgt := 223) hC.1 hC.2.1 dX6_control_9 (by rw [hs41]; decide) (by rw [hs41]; decide) (by rw [hs41]; rfl) (by decide) ?_
                                      refine lv_aload_n hC.1 hC.2.1 dX6_control_223 rfl (lv_at hl 1 rfl) ?_
                                      refine gf_RX6_23 hC hH rfl dX6_control_224 ?_
                                      refine gl_aload_n hC dX6_control_227 rfl (lv_at hl 2 rfl) ?_
                                      refine lv_iload_n hC.1 hC.2.1 dX6_control_228 rfl (lv_at hl 4 rfl) ?_
                                      obtain ⟨r42, D43, hF44, h⟩ := bd2_some h
                                      refine gcallV (As := [rfv (gA g) 6 x1, .int x3]) (rest := []) (Cn := RX0) hC hE hml hH hS (c_X0_takesBack hF44) ⟨wd_865, wd_866, wd_867, wd_13, wd_868⟩ hd_X0_takesBack rfl rfl ⟨Nat.le_of_ble_eq_true rfl, Nat.le_of_ble_eq_true rfl⟩ rfl (hw_recv (q := 19) (i := 0) hC hH ⟨Nat.zero_lt_one, fun h => absurd h (by decide)⟩ rfl rfl) rfl hl.1 rfl (Nat.le_of_ble_eq_true rfl) dX6_control_229 ⟨Nat.le_of_ble_eq_true rfl, Nat.le_of_ble_eq_true rfl⟩ (fun ed H locs hH hS => ?_)
                                      refine W.eq (g2 := F0 m 232 ls [.int r42]) rfl ?_
                                      refine lv_if_eq (tgt := 281) hC.1 hC.2.1 dX6_control_232 (by decide) (fun hc45 => ?_) (fun hc45 => ?_)
                                      · rw [if_pos hc45] at h
                                        refine W.widen (k := 1) (n := 10) (Nat.le_of_ble_eq_true rfl) (Nat.le_of_ble_eq_true rfl) ?_
                                        exact B_X6_control_281 hC hE hml hr hlk h hH hS (lv_sub hl [] rfl)
                                      · rw [if_neg hc45] at h
                                        refine lv_aload_n hC.1 hC.2.1 dX6_control_235 rfl (lv_at hl 1 rfl) ?_
                                        refine gf_RX6_23 hC hH rfl dX6_control_236 ?_
                                        obtain ⟨r46, D47, hF48, h⟩ := bd2_some h
                                        refine gcallV (As := []) (rest := []) (Cn := RX0) hC hE hml hH hS (c_X0_grantWaiting hF48) ⟨wd_660, wd_661, wd_662, wd_13, wd_663⟩ hd_X0_grantWaiting rfl rfl ⟨Nat.le_of_ble_eq_true rfl, Nat.le_of_ble_eq_true rfl⟩ rfl (hw_recv (q := 19) (i := 0) hC hH ⟨Nat.zero_lt_one, fun h => absurd h (by decide)⟩ rfl rfl) rfl hl.1 rfl (Nat.le_of_ble_eq_true rfl) dX6_control_239 ⟨Nat.le_of_ble_eq_true rfl, Nat.le_of_ble_eq_true rfl⟩ (fun ed H locs hH hS => ?_)
                                        refine W.eq (g2 := F0 m 242 ls []) rfl ?_
                                        refine lv_goto (tgt := 281) hC.1 hC.2.1 dX6_control_242 (by decide) ?_
                                        refine W.widen (k := 1) (n := 10) (Nat.le_of_ble_eq_true rfl) (Nat.le_of_ble_eq_true rfl) ?_
                                        exact B_X6_control_281 hC hE hml hr hlk h hH hS (lv_sub hl [] rfl)
                                    · rw [if_neg hs41] at h
                                      by_cases hs49 : x2 = 18
                                      · rw [if_pos hs49] at h
                                        refine lv_tableIn (x := x2) (off := 236) (tgt := 245) hC.1 hC.2.1 dX6_control_9 (by rw [hs49]; decide) (by rw [hs49]; decide) (by rw [hs49]; rfl) (by decide) ?_
                                        refine gl_aload_n hC dX6_control_245 rfl (lv_at hl 2 rfl) ?_
                                        refine lv_iload_n hC.1 hC.2.1 dX6_control_246 rfl (lv_at hl 4 rfl) ?_
                                        obtain ⟨D50, e51, h⟩ := st_some h
                                        refine pf_RX6_145 hC hH hS (inb_lt hg1)  (rfv_in hg1) dX6_control_247 (fun H locs hH hS => ?_)
                                        rw [← e51] at hH
                                        refine lv_aload_n hC.1 hC.2.1 dX6_control_250 rfl (lv_at hl 1 rfl) ?_
                                        refine gf_RX6_15 hC hH rfl dX6_control_251 ?_
                                        refine gl_aload_n hC dX6_control_254 rfl (lv_at hl 2 rfl) ?_
                                        refine lv_iload hC.1 hC.2.1 dX6_control_255 (lv_at hl 0 rfl) ?_
                                        obtain ⟨r52, D53, hF54, h⟩ := bd2_some h
                                        refine gcallV (As := [rfv (gA g) 6 x1, .int ((C 6 x1.toNatClampNeg 12 0) + (1 : Int32))]) (rest := []) (Cn := RX2) hC hE hml hH hS (c_X2_complete hF54) ⟨wd_822, wd_719, wd_720, wd_6, wd_721⟩ hd_X2_complete rfl rfl ⟨Nat.le_of_ble_eq_true rfl, Nat.le_of_ble_eq_true rfl⟩ rfl (hw_recv (q := 12) (i := 0) hC hH ⟨Nat.zero_lt_one, fun h => absurd h (by decide)⟩ rfl rfl) rfl hl.1 rfl (Nat.le_of_ble_eq_true rfl) dX6_control_257 ⟨Nat.le_of_ble_eq_true rfl, Nat.le_of_ble_eq_true rfl⟩ (fun ed H locs hH hS => ?_)
                                        refine W.eq (g2 := F0 m 260 ls []) rfl ?_
                                        refine lv_goto (tgt := 281) hC.1 hC.2.1 dX6_control_260 (by decide) ?_
                                        refine W.widen (k := 1) (n := 10) (Nat.le_of_ble_eq_true rfl) (Nat.le_of_ble_eq_true rfl) ?_
                                        exact B_X6_control_281 hC hE hml hr hlk h hH hS (lv_sub hl [] rfl)
                                      · rw [if_neg hs49] at h
                                        have q0 := lv_neT (a := 0) hs2 (by decide)
                                        have q1 := lv_neT (a := 1) hs8 (by decide)
                                        have q2 := lv_neT (a := 2) hs9 (by decide)
                                        have q3 := lv_neT (a := 3) hs10 (by decide)
                                        have q4 := lv_neT (a := 4) hs11 (by decide)
                                        have q5 := lv_neT (a := 5) hs12 (by decide)
                                        have q6 := lv_neT (a := 6) hs13 (by decide)
                                        have q7 := lv_neT (a := 7) hs14 (by decide)
                                        have q8 := lv_neT (a := 8) hs18 (by decide)
                                        have q9 := lv_neT (a := 9) hs20 (by decide)
                                        have q10 := lv_neT (a := 10) hs22 (by decide)
                                        have q11 := lv_neT (a := 11) hs23 (by decide)
                                        have q12 := lv_neT (a := 12) hs24 (by decide)
                                        have q13 := lv_neT (a := 13) hs25 (by decide)
                                        have q14 := lv_neT (a := 14) hs29 (by decide)
                                        have q15 := lv_neT (a := 15) hs33 (by decide)
                                        have q16 := lv_neT (a := 16) hs37 (by decide)
                                        have q17 := lv_neT (a := 17) hs41 (by decide)
                                        have q18 := lv_neT (a := 18) hs49 (by decide)
                                        refine lv_tableOut (x := x2) (tgt := 263) hC.1 hC.2.1 dX6_control_9 (by omega) (by decide) ?_
                                        exact B_X6_control_263 hC hE hml hr hlk h hH hS (lv_sub hl [1, 2, 0] rfl)
def F_X6_attempt_131 (n : Nat)  (t0 : Int32) (t1 : Int32) (t2 : Int32) (t3 : Int32) (C : St) : Option (Int32 × St) := bd2 (F_X6_attemptOperand n t3 t2 t1 t0 C) (fun r1 D2 => some (0, D2))
set_option maxHeartbeats 4000000 in
set_option maxRecDepth 100000 in
theorem B_X6_attempt_131 {p : Program} {l : Launch} {e : Env} {s : State} {m : MethodId} {args : Array Value} {below : List Frame} {meth : Method} {c : Code} {g : GP} {Z : St} (hC : CX p s m args c cX6_attempt RX6 g) (hE : EZ g s s.heap) (hml : c.maxLocals = 8) (hr : meth.sig.returnType = none) (hlk : meth.locks = false) {r : Int32} {C2 : St} {t0 : Int32} {t1 : Int32} {t2 : Int32} {t3 : Int32} {C : St} (h : F_X6_attempt_131 (gn g)  t0 t1 t2 t3 C = some (r, C2)) {ed : Nat → Nat} {H : Heap} {locs : List Loc} {ls : Array Slot} (hH : HW g ed C Z H) (hS : va_S (gP g) s.heap H locs) (hl : lv_has ls 8 []) : W p l e ({ frames := 7, cells := 1, slots := 10, locals := 159 } : Room) s m args below meth c H locs 0 0 (MQ below (QG none g C2 Z) args s 1 10 (gP g)) (F0 m 131 ls [.int t0, .int t1, rfv (gA g) 14 t2, rfv (gA g) 6 t3, .ref (gA g 32 0)]) := by
  unfold F_X6_attempt_131 at h
  obtain ⟨r1, D2, hF3, h⟩ := bd2_some h
  refine gcallV (As := [rfv (gA g) 6 t3, rfv (gA g) 14 t2, .int t1, .int t0]) (rest := []) (Cn := RX6) hC hE hml hH hS (c_X6_attemptOperand hF3) ⟨wd_814, wd_816, wp_14, wd_16, wd_817⟩ hd_X6_attemptOperand rfl rfl ⟨Nat.le_of_ble_eq_true rfl, Nat.le_of_ble_eq_true rfl⟩ rfl (hw_recv (q := 32) (i := 0) hC hH ⟨Nat.zero_lt_one, fun h => absurd h (by decide)⟩ rfl rfl) rfl hl.1 rfl (Nat.le_of_ble_eq_true rfl) dX6_attempt_131 ⟨Nat.le_of_ble_eq_true rfl, Nat.le_of_ble_eq_true rfl⟩ (fun ed H locs hH hS => ?_)
  refine W.eq (g2 := F0 m 134 ls []) rfl ?_
  cases h
  exact gret_v hC hr hlk hH hS (Nat.le_of_ble_eq_true rfl) (Nat.le_of_ble_eq_true rfl) dX6_attempt_134
def F_X6_attempt_107 (n : Nat)  (x1 : Int32) (x3 : Int32) (x5 : Int32) (x6 : Int32) (t0 : Int32) (C : St) : Option (Int32 × St) := if t0 = 0 then (F_X6_attempt_131 n x6 x5 x3 x1 C) else (gd (inb x1 6) (F_X6_attempt_131 n (x6 + (C 6 x1.toNatClampNeg 14 0)) x5 x3 x1 C))
set_option maxHeartbeats 4000000 in
set_option maxRecDepth 100000 in
theorem B_X6_attempt_107 {p : Program} {l : Launch} {e : Env} {s : State} {m : MethodId} {args : Array Value} {below : List Frame} {meth : Method} {c : Code} {g : GP} {Z : St} (hC : CX p s m args c cX6_attempt RX6 g) (hE : EZ g s s.heap) (hml : c.maxLocals = 8) (hr : meth.sig.returnType = none) (hlk : meth.locks = false) {r : Int32} {C2 : St} {x1 : Int32} {x3 : Int32} {x5 : Int32} {x6 : Int32} {t0 : Int32} {C : St} (h : F_X6_attempt_107 (gn g)  x1 x3 x5 x6 t0 C = some (r, C2)) {ed : Nat → Nat} {H : Heap} {locs : List Loc} {ls : Array Slot} (hH : HW g ed C Z H) (hS : va_S (gP g) s.heap H locs) (hl : lv_has ls 8 [(0, .ref (gA g 32 0)), (1, rfv (gA g) 6 x1), (3, rfv (gA g) 14 x3), (5, .int x5), (6, .int x6)]) : W p l e ({ frames := 7, cells := 1, slots := 10, locals := 159 } : Room) s m args below meth c H locs 0 0 (MQ below (QG none g C2 Z) args s 1 10 (gP g)) (F0 m 107 ls [.int t0]) := by
  unfold F_X6_attempt_107 at h
  refine lv_istore (lv' := [(7, .int t0), (0, .ref (gA g 32 0)), (1, rfv (gA g) 6 x1), (3, rfv (gA g) 14 x3), (5, .int x5), (6, .int x6)]) hC.1 hC.2.1 dX6_attempt_107 hl (by decide) rfl (fun ls hl => ?_)
  refine lv_aload_n hC.1 hC.2.1 dX6_attempt_109 rfl (lv_at hl 1 rfl) ?_
  refine gl_aload_n hC dX6_attempt_110 rfl (lv_at hl 2 rfl) ?_
  refine gl_aload_n hC dX6_attempt_111 rfl (lv_at hl 3 rfl) ?_
  refine lv_iload hC.1 hC.2.1 dX6_attempt_112 (lv_at hl 4 rfl) ?_
  refine lv_iload hC.1 hC.2.1 dX6_attempt_114 (lv_at hl 0 rfl) ?_
  refine lv_if_eq (tgt := 129) hC.1 hC.2.1 dX6_attempt_116 (by decide) (fun hc1 => ?_) (fun hc1 => ?_)
  · rw [if_pos hc1] at h
    refine lv_iload hC.1 hC.2.1 dX6_attempt_129 (lv_at hl 5 rfl) ?_
    exact B_X6_attempt_131 hC hE hml hr hlk h hH hS (lv_sub hl [] rfl)
  · rw [if_neg hc1] at h
    refine lv_iload hC.1 hC.2.1 dX6_attempt_119 (lv_at hl 5 rfl) ?_
    refine gl_aload_n hC dX6_attempt_121 rfl (lv_at hl 2 rfl) ?_
    obtain ⟨hg2, h⟩ := gd_some h
    refine gf_RX6_128 hC hH (inb_lt hg2) (rfv_in hg2) dX6_attempt_122 ?_
    refine lv_iadd hC.1 hC.2.1 dX6_attempt_125 ?_
    refine lv_goto (tgt := 131) hC.1 hC.2.1 dX6_attempt_126 (by decide) ?_
    exact B_X6_attempt_131 hC hE hml hr hlk h hH hS (lv_sub hl [] rfl)
def F_X6_attempt_102 (n : Nat)  (x1 : Int32) (x3 : Int32) (x5 : Int32) (x6 : Int32) (C : St) : Option (Int32 × St) := F_X6_attempt_107 n x1 x3 x5 x6 (1 : Int32) C
set_option maxHeartbeats 4000000 in
set_option maxRecDepth 100000 in
theorem B_X6_attempt_102 {p : Program} {l : Launch} {e : Env} {s : State} {m : MethodId} {args : Array Value} {below : List Frame} {meth : Method} {c : Code} {g : GP} {Z : St} (hC : CX p s m args c cX6_attempt RX6 g) (hE : EZ g s s.heap) (hml : c.maxLocals = 8) (hr : meth.sig.returnType = none) (hlk : meth.locks = false) {r : Int32} {C2 : St} {x1 : Int32} {x3 : Int32} {x5 : Int32} {x6 : Int32} {C : St} (h : F_X6_attempt_102 (gn g)  x1 x3 x5 x6 C = some (r, C2)) {ed : Nat → Nat} {H : Heap} {locs : List Loc} {ls : Array Slot} (hH : HW g ed C Z H) (hS : va_S (gP g) s.heap H locs) (hl : lv_has ls 8 [(0, .ref (gA g 32 0)), (1, rfv (gA g) 6 x1), (3, rfv (gA g) 14 x3), (5, .int x5), (6, .int x6)]) : W p l e ({ frames := 7, cells := 1, slots := 10, locals := 159 } : Room) s m args below meth c H locs 0 0 (MQ below (QG none g C2 Z) args s 1 10 (gP g)) (F0 m 102 ls []) := by
  unfold F_X6_attempt_102 at h
  refine lv_iconst (v := (1 : Int32)) hC.1 hC.2.1 dX6_attempt_102 (by decide) ?_
  refine lv_goto (tgt := 107) hC.1 hC.2.1 dX6_attempt_103 (by decide) ?_
  exact B_X6_attempt_107 hC hE hml hr hlk h hH hS (lv_sub hl [0, 1, 2, 3, 4] rfl)
def F_X6_attempt_175 (n : Nat)   (C : St) : Option (Int32 × St) := some (0, C)
set_option maxHeartbeats 4000000 in
set_option maxRecDepth 100000 in
theorem B_X6_attempt_175 {p : Program} {l : Launch} {e : Env} {s : State} {m : MethodId} {args : Array Value} {below : List Frame} {meth : Method} {c : Code} {g : GP} {Z : St} (hC : CX p s m args c cX6_attempt RX6 g) (hE : EZ g s s.heap) (hml : c.maxLocals = 8) (hr : meth.sig.returnType = none) (hlk : meth.locks = false) {r : Int32} {C2 : St}  {C : St} (h : F_X6_attempt_175 (gn g)   C = some (r, C2)) {ed : Nat → Nat} {H : Heap} {locs : List Loc} {ls : Array Slot} (hH : HW g ed C Z H) (hS : va_S (gP g) s.heap H locs) (hl : lv_has ls 8 []) : W p l e ({ frames := 7, cells := 1, slots := 10, locals := 159 } : Room) s m args below meth c H locs 1 10 (MQ below (QG none g C2 Z) args s 1 10 (gP g)) (F0 m 175 ls []) := by
  unfold F_X6_attempt_175 at h
  cases h
  exact gret_v hC hr hlk hH hS (Nat.le_of_ble_eq_true rfl) (Nat.le_of_ble_eq_true rfl) dX6_attempt_175
def F_X6_attempt_158 (n : Nat)  (x1 : Int32) (C : St) : Option (Int32 × St) := gd (inb x1 6) (st (up C 6 x1.toNatClampNeg 8 0 (4 : Int32)) (fun D2 => F_X6_attempt_175 n  D2))
set_option maxHeartbeats 4000000 in
set_option maxRecDepth 100000 in
theorem B_X6_attempt_158 {p : Program} {l : Launch} {e : Env} {s : State} {m : MethodId} {args : Array Value} {below : List Frame} {meth : Method} {c : Code} {g : GP} {Z : St} (hC : CX p s m args c cX6_attempt RX6 g) (hE : EZ g s s.heap) (hml : c.maxLocals = 8) (hr : meth.sig.returnType = none) (hlk : meth.locks = false) {r : Int32} {C2 : St} {x1 : Int32} {C : St} (h : F_X6_attempt_158 (gn g)  x1 C = some (r, C2)) {ed : Nat → Nat} {H : Heap} {locs : List Loc} {ls : Array Slot} (hH : HW g ed C Z H) (hS : va_S (gP g) s.heap H locs) (hl : lv_has ls 8 [(1, rfv (gA g) 6 x1)]) : W p l e ({ frames := 7, cells := 1, slots := 10, locals := 159 } : Room) s m args below meth c H locs 0 0 (MQ below (QG none g C2 Z) args s 1 10 (gP g)) (F0 m 158 ls []) := by
  unfold F_X6_attempt_158 at h
  refine gl_aload_n hC dX6_attempt_158 rfl (lv_at hl 0 rfl) ?_
  refine lv_iconst (v := (4 : Int32)) hC.1 hC.2.1 dX6_attempt_159 (by decide) ?_
  obtain ⟨hg1, h⟩ := gd_some h
  obtain ⟨D2, e3, h⟩ := st_some h
  refine pf_RX6_35 hC hH hS (inb_lt hg1)  (rfv_in hg1) dX6_attempt_160 (fun H locs hH hS => ?_)
  rw [← e3] at hH
  refine lv_goto (tgt := 175) hC.1 hC.2.1 dX6_attempt_163 (by decide) ?_
  refine W.widen (k := 1) (n := 10) (Nat.le_of_ble_eq_true rfl) (Nat.le_of_ble_eq_true rfl) ?_
  exact B_X6_attempt_175 hC hE hml hr hlk h hH hS (lv_sub hl [] rfl)
def F_X6_attempt_135 (n : Nat)  (x1 : Int32) (x3 : Int32) (x4 : Int32) (x5 : Int32) (x6 : Int32) (C : St) : Option (Int32 × St) := gd (inb x3 n) (st (up C 14 x3.toNatClampNeg 6 0 (C 1 0 3 0)) (fun D2 => if x4 < 0 then (F_X6_attempt_158 n x1 D2) else (if x5 ≤ (19 : Int32) then (bd2 (F_X6_control n x1 x5 x6 D2) (fun r6 D7 => F_X6_attempt_175 n  D7)) else (F_X6_attempt_158 n x1 D2))))
set_option maxHeartbeats 4000000 in
set_option maxRecDepth 100000 in
theorem B_X6_attempt_135 {p : Program} {l : Launch} {e : Env} {s : State} {m : MethodId} {args : Array Value} {below : List Frame} {meth : Method} {c : Code} {g : GP} {Z : St} (hC : CX p s m args c cX6_attempt RX6 g) (hE : EZ g s s.heap) (hml : c.maxLocals = 8) (hr : meth.sig.returnType = none) (hlk : meth.locks = false) {r : Int32} {C2 : St} {x1 : Int32} {x3 : Int32} {x4 : Int32} {x5 : Int32} {x6 : Int32} {C : St} (h : F_X6_attempt_135 (gn g)  x1 x3 x4 x5 x6 C = some (r, C2)) {ed : Nat → Nat} {H : Heap} {locs : List Loc} {ls : Array Slot} (hH : HW g ed C Z H) (hS : va_S (gP g) s.heap H locs) (hl : lv_has ls 8 [(0, .ref (gA g 32 0)), (1, rfv (gA g) 6 x1), (3, rfv (gA g) 14 x3), (4, .int x4), (5, .int x5), (6, .int x6)]) : W p l e ({ frames := 7, cells := 1, slots := 10, locals := 159 } : Room) s m args below meth c H locs 0 0 (MQ below (QG none g C2 Z) args s 1 10 (gP g)) (F0 m 135 ls []) := by
  unfold F_X6_attempt_135 at h
  refine gl_aload_n hC dX6_attempt_135 rfl (lv_at hl 2 rfl) ?_
  refine lv_aload_n hC.1 hC.2.1 dX6_attempt_136 rfl (lv_at hl 0 rfl) ?_
  refine gf_RX6_9 hC hH rfl dX6_attempt_137 ?_
  refine gf_RX6_135 hC hH rfl dX6_attempt_140 ?_
  obtain ⟨hg1, h⟩ := gd_some h
  obtain ⟨D2, e3, h⟩ := st_some h
  refine pf_RX6_138 hC hH hS (inb_lt hg1)  (rfv_in hg1) dX6_attempt_143 (fun H locs hH hS => ?_)
  rw [← e3] at hH
  refine lv_iload hC.1 hC.2.1 dX6_attempt_146 (lv_at hl 3 rfl) ?_
  refine lv_if_lt (tgt := 158) hC.1 hC.2.1 dX6_attempt_148 (by decide) (fun hc4 => ?_) (fun hc4 => ?_)
  · rw [if_pos hc4] at h
    exact B_X6_attempt_158 hC hE hml hr hlk h hH hS (lv_sub hl [1] rfl)
  · rw [if_neg hc4] at h
    refine lv_iload hC.1 hC.2.1 dX6_attempt_151 (lv_at hl 4 rfl) ?_
    refine lv_bipush (v := (19 : Int32)) hC.1 hC.2.1 dX6_attempt_153 (by decide) ?_
    refine lv_icmp_le (tgt := 166) hC.1 hC.2.1 dX6_attempt_155 (by decide) (fun hc5 => ?_) (fun hc5 => ?_)
    · rw [if_pos hc5] at h
      refine lv_aload_n hC.1 hC.2.1 dX6_attempt_166 rfl (lv_at hl 0 rfl) ?_
      refine gl_aload_n hC dX6_attempt_167 rfl (lv_at hl 1 rfl) ?_
      refine lv_iload hC.1 hC.2.1 dX6_attempt_168 (lv_at hl 4 rfl) ?_
      refine lv_iload hC.1 hC.2.1 dX6_attempt_170 (lv_at hl 5 rfl) ?_
      obtain ⟨r6, D7, hF8, h⟩ := bd2_some h
      refine gcallV (As := [rfv (gA g) 6 x1, .int x5, .int x6]) (rest := []) (Cn := RX6) hC hE hml hH hS (c_X6_control hF8) ⟨wd_827, wd_829, wp_16, wd_16, wd_830⟩ hd_X6_control rfl rfl ⟨Nat.le_of_ble_eq_true rfl, Nat.le_of_ble_eq_true rfl⟩ rfl (hw_recv (q := 32) (i := 0) hC hH ⟨Nat.zero_lt_one, fun h => absurd h (by decide)⟩ rfl rfl) rfl hl.1 rfl (Nat.le_of_ble_eq_true rfl) dX6_attempt_172 ⟨Nat.le_of_ble_eq_true rfl, Nat.le_of_ble_eq_true rfl⟩ (fun ed H locs hH hS => ?_)
      refine W.eq (g2 := F0 m 175 ls []) rfl ?_
      exact B_X6_attempt_175 hC hE hml hr hlk h hH hS (lv_sub hl [] rfl)
    · rw [if_neg hc5] at h
      exact B_X6_attempt_158 hC hE hml hr hlk h hH hS (lv_sub hl [1] rfl)
def F_X6_attempt (n : Nat) (x1 : Int32) (C : St) : Option (Int32 × St) := gd (inb x1 6) (bd2 (F_X5_has n x1 (C 6 x1.toNatClampNeg 12 0) C) (fun r2 D3 => if r2 = 0 then (st (up D3 6 x1.toNatClampNeg 8 0 (4 : Int32)) (fun D24 => some (0, D24))) else (bd2 (F_X2_find n x1 ((D3 6 x1.toNatClampNeg 12 0) / (16 : Int32)) D3) (fun r6 D7 => if r6 < 0 then (bd2 (F_X10_ask n x1 ((D3 6 x1.toNatClampNeg 12 0) / (16 : Int32)) D7) (fun r21 D22 => some (0, D22))) else (gd (inb r6 n) (bd2 (F_X4_read n r6 (D7 6 x1.toNatClampNeg 12 0) D7) (fun r10 D11 => if r10 < 0 then (F_X6_attempt_135 n x1 r6 r10 (r10 / (256 : Int32)) (r10 - r10 / (256 : Int32) * (256 : Int32)) D11) else (bd2 (F_X6_hasOperand n (r10 / (256 : Int32)) D11) (fun r15 D16 => if r15 = 0 then (F_X6_attempt_135 n x1 r6 r10 (r10 / (256 : Int32)) (r10 - r10 / (256 : Int32) * (256 : Int32)) D16) else (if (r10 / (256 : Int32)) = (11 : Int32) then (F_X6_attempt_102 n x1 r6 (r10 / (256 : Int32)) (r10 - r10 / (256 : Int32) * (256 : Int32)) D16) else (if (r10 / (256 : Int32)) = (12 : Int32) then (F_X6_attempt_102 n x1 r6 (r10 / (256 : Int32)) (r10 - r10 / (256 : Int32) * (256 : Int32)) D16) else (F_X6_attempt_107 n x1 r6 (r10 / (256 : Int32)) (r10 - r10 / (256 : Int32) * (256 : Int32)) (0 : Int32) D16))))))))))))
set_option maxHeartbeats 4000000 in
set_option maxRecDepth 100000 in
theorem c_X6_attempt {l : Launch} {g : GP} {ed : Nat → Nat} {Z : St} {x1 : Int32} {C : St} {r : Int32} {C2 : St} (h : F_X6_attempt (gn g) x1 C = some (r, C2)) : Met l yX6_attempt (Cond.code yX6_attempt cX6_attempt 8 none :: lwG) ({ frames := 7, cells := 1, slots := 10, locals := 159 } : Room) (va_Pc [.ref (gA g 32 0), rfv (gA g) 6 x1] (PW g C Z ed)) (QG none g C2 Z) 1 10 (gP g) := by
  refine Met.ofW (cc := cX6_attempt) (maxL := 8) (ret := none) (by decide +kernel) rfl ?_
  intro p e s m args below meth c s₁ B hml hv
  obtain ⟨ha, hC, hE, hr, hlk, hH⟩ := g_start B hv
  subst ha
  have hC : CX p s m ([.ref (gA g 32 0), rfv (gA g) 6 x1] : List Value).toArray c cX6_attempt RX6 g := hC
  have hS : va_S (gP g) s.heap s.heap [] := va_S.rf
  obtain ⟨ls, he, hl⟩ := g_entry m (vs := [.ref (gA g 32 0), rfv (gA g) 6 x1]) (n := 8) (List.forall_mem_cons.mpr ⟨rfl, (List.forall_mem_cons.mpr ⟨rfv_cat, (fun _ h => absurd h List.not_mem_nil)⟩)⟩) (Nat.le_of_ble_eq_true rfl)
  rw [he]
  have hl : lv_has ls 8 [(0, .ref (gA g 32 0)), (1, rfv (gA g) 6 x1)] := hl
  unfold F_X6_attempt at h
  refine gl_aload_n hC dX6_attempt_0 rfl (lv_at hl 1 rfl) ?_
  refine gl_aload_n hC dX6_attempt_1 rfl (lv_at hl 1 rfl) ?_
  obtain ⟨hg1, h⟩ := gd_some h
  refine gf_RX6_102 hC hH (inb_lt hg1) (rfv_in hg1) dX6_attempt_2 ?_
  obtain ⟨r2, D3, hF4, h⟩ := bd2_some h
  refine gcallV (As := [.int (C 6 x1.toNatClampNeg 12 0)]) (rest := []) (Cn := RX5) hC hE hml hH hS (c_X5_has hF4) ⟨wd_731, wd_732, wd_733, wd_5, wd_734⟩ hd_X5_has rfl rfl ⟨Nat.le_of_ble_eq_true rfl, Nat.le_of_ble_eq_true rfl⟩ (rfv_in hg1) (hw_recv (q := 6) (i := x1.toNatClampNeg) hC hH ⟨(inb_lt hg1), fun h => absurd h (by decide)⟩ rfl rfl) rfl hl.1 rfl (Nat.le_of_ble_eq_true rfl) dX6_attempt_5 ⟨Nat.le_of_ble_eq_true rfl, Nat.le_of_ble_eq_true rfl⟩ (fun ed H locs hH hS => ?_)
  refine W.eq (g2 := F0 m 8 ls [.int r2]) rfl ?_
  refine lv_if_ne (tgt := 17) hC.1 hC.2.1 dX6_attempt_8 (by decide) (fun hc5 => ?_) (fun hc5 => ?_)
  · rw [if_neg hc5] at h
    refine gl_aload_n hC dX6_attempt_17 rfl (lv_at hl 1 rfl) ?_
    refine gf_RX6_102 hC hH (inb_lt hg1) (rfv_in hg1) dX6_attempt_18 ?_
    refine lv_bipush (v := (16 : Int32)) hC.1 hC.2.1 dX6_attempt_21 (by decide) ?_
    refine lv_idiv hC.1 hC.2.1 dX6_attempt_23 (by decide) ?_
    refine lv_istore_n (i := 2) (lv' := [(2, .int ((D3 6 x1.toNatClampNeg 12 0) / (16 : Int32))), (0, .ref (gA g 32 0)), (1, rfv (gA g) 6 x1)]) hC.1 hC.2.1 dX6_attempt_24 rfl hl (by decide) (by simp [rfv_cat]) (fun ls hl => ?_)
    refine lv_aload_n hC.1 hC.2.1 dX6_attempt_25 rfl (lv_at hl 1 rfl) ?_
    refine gf_RX6_15 hC hH rfl dX6_attempt_26 ?_
    refine gl_aload_n hC dX6_attempt_29 rfl (lv_at hl 2 rfl) ?_
    refine lv_iload_n hC.1 hC.2.1 dX6_attempt_30 rfl (lv_at hl 0 rfl) ?_
    obtain ⟨r6, D7, hF8, h⟩ := bd2_some h
    refine gcallV (As := [rfv (gA g) 6 x1, .int ((D3 6 x1.toNatClampNeg 12 0) / (16 : Int32))]) (rest := []) (Cn := RX2) hC hE hml hH hS (c_X2_find hF8) ⟨wd_735, wd_736, wd_737, wd_6, wd_738⟩ hd_X2_find rfl rfl ⟨Nat.le_of_ble_eq_true rfl, Nat.le_of_ble_eq_true rfl⟩ rfl (hw_recv (q := 12) (i := 0) hC hH ⟨Nat.zero_lt_one, fun h => absurd h (by decide)⟩ rfl rfl) rfl hl.1 rfl (Nat.le_of_ble_eq_true rfl) dX6_attempt_31 ⟨Nat.le_of_ble_eq_true rfl, Nat.le_of_ble_eq_true rfl⟩ (fun ed H locs hH hS => ?_)
    refine W.eq (g2 := F0 m 34 ls [rfv (gA g) 14 r6]) rfl ?_
    refine gl_astore_n (j := 3) (lv' := [(3, rfv (gA g) 14 r6), (2, .int ((D3 6 x1.toNatClampNeg 12 0) / (16 : Int32))), (0, .ref (gA g 32 0)), (1, rfv (gA g) 6 x1)]) hC dX6_attempt_34 rfl hl (by decide) rfl (fun ls hl => ?_)
    refine gl_aload_n hC dX6_attempt_35 rfl (lv_at hl 0 rfl) ?_
    refine gl_ifnonnull (tgt := 49) hC dX6_attempt_36 (by decide) (fun hc9 => ?_) (fun hc9 => ?_)
    · rw [if_neg hc9] at h
      refine gl_aload_n hC dX6_attempt_49 rfl (lv_at hl 0 rfl) ?_
      refine gl_aload_n hC dX6_attempt_50 rfl (lv_at hl 3 rfl) ?_
      refine gf_RX6_102 hC hH (inb_lt hg1) (rfv_in hg1) dX6_attempt_51 ?_
      obtain ⟨hg13, h⟩ := gd_some h
      obtain ⟨r10, D11, hF12, h⟩ := bd2_some h
      refine gcallV (As := [.int (D7 6 x1.toNatClampNeg 12 0)]) (rest := []) (Cn := RX4) hC hE hml hH hS (c_X4_read hF12) ⟨wd_804, wd_805, wd_806, wd_7, wd_807⟩ hd_X4_read rfl rfl ⟨Nat.le_of_ble_eq_true rfl, Nat.le_of_ble_eq_true rfl⟩ (rfv_in hg13) (hw_recv (q := 14) (i := r6.toNatClampNeg) hC hH ⟨(inb_lt hg13), fun h => absurd h (by decide)⟩ rfl rfl) rfl hl.1 rfl (Nat.le_of_ble_eq_true rfl) dX6_attempt_54 ⟨Nat.le_of_ble_eq_true rfl, Nat.le_of_ble_eq_true rfl⟩ (fun ed H locs hH hS => ?_)
      refine W.eq (g2 := F0 m 57 ls [.int r10]) rfl ?_
      refine lv_istore (lv' := [(4, .int r10), (3, rfv (gA g) 14 r6), (2, .int ((D3 6 x1.toNatClampNeg 12 0) / (16 : Int32))), (0, .ref (gA g 32 0)), (1, rfv (gA g) 6 x1)]) hC.1 hC.2.1 dX6_attempt_57 hl (by decide) (by simp [rfv_cat]) (fun ls hl => ?_)
      refine lv_iload hC.1 hC.2.1 dX6_attempt_59 (lv_at hl 0 rfl) ?_
      refine lv_sipush (v := (256 : Int32)) hC.1 hC.2.1 dX6_attempt_61 (by decide) ?_
      refine lv_idiv hC.1 hC.2.1 dX6_attempt_64 (by decide) ?_
      refine lv_istore (lv' := [(5, .int (r10 / (256 : Int32))), (4, .int r10), (3, rfv (gA g) 14 r6), (2, .int ((D3 6 x1.toNatClampNeg 12 0) / (16 : Int32))), (0, .ref (gA g 32 0)), (1, rfv (gA g) 6 x1)]) hC.1 hC.2.1 dX6_attempt_65 hl (by decide) rfl (fun ls hl => ?_)
      refine lv_iload hC.1 hC.2.1 dX6_attempt_67 (lv_at hl 1 rfl) ?_
      refine lv_sipush (v := (256 : Int32)) hC.1 hC.2.1 dX6_attempt_69 (by decide) ?_
      refine lv_irem hC.1 hC.2.1 dX6_attempt_72 (by decide) ?_
      refine lv_istore (lv' := [(6, .int (r10 - r10 / (256 : Int32) * (256 : Int32))), (5, .int (r10 / (256 : Int32))), (4, .int r10), (3, rfv (gA g) 14 r6), (2, .int ((D3 6 x1.toNatClampNeg 12 0) / (16 : Int32))), (0, .ref (gA g 32 0)), (1, rfv (gA g) 6 x1)]) hC.1 hC.2.1 dX6_attempt_73 hl (by decide) rfl (fun ls hl => ?_)
      refine lv_iload hC.1 hC.2.1 dX6_attempt_75 (lv_at hl 2 rfl) ?_
      refine lv_if_lt (tgt := 135) hC.1 hC.2.1 dX6_attempt_77 (by decide) (fun hc14 => ?_) (fun hc14 => ?_)
      · rw [if_pos hc14] at h
        exact B_X6_attempt_135 hC hE hml hr hlk h hH hS (lv_sub hl [5, 6, 3, 2, 1, 0] rfl)
      · rw [if_neg hc14] at h
        refine lv_iload hC.1 hC.2.1 dX6_attempt_80 (lv_at hl 1 rfl) ?_
        obtain ⟨r15, D16, hF17, h⟩ := bd2_some h
        refine gcallS (As := [.int (r10 / (256 : Int32))]) (rest := []) hC hE hml hH hS (c_X6_hasOperand hF17) ⟨wd_811, wd_812, wd_16, wd_813⟩ hd_X6_hasOperand rfl rfl ⟨Nat.le_of_ble_eq_true rfl, Nat.le_of_ble_eq_true rfl⟩ rfl hl.1 rfl (Nat.le_of_ble_eq_true rfl) dX6_attempt_82 ⟨Nat.le_of_ble_eq_true rfl, Nat.le_of_ble_eq_true rfl⟩ (fun ed H locs hH hS => ?_)
        refine W.eq (g2 := F0 m 85 ls [.int r15]) rfl ?_
        refine lv_if_eq (tgt := 135) hC.1 hC.2.1 dX6_attempt_85 (by decide) (fun hc18 => ?_) (fun hc18 => ?_)
        · rw [if_pos hc18] at h
          exact B_X6_attempt_135 hC hE hml hr hlk h hH hS (lv_sub hl [5, 6, 3, 2, 1, 0] rfl)
        · rw [if_neg hc18] at h
          refine lv_iload hC.1 hC.2.1 dX6_attempt_88 (lv_at hl 1 rfl) ?_
          refine lv_bipush (v := (11 : Int32)) hC.1 hC.2.1 dX6_attempt_90 (by decide) ?_
          refine lv_icmp_eq (tgt := 102) hC.1 hC.2.1 dX6_attempt_92 (by decide) (fun hc19 => ?_) (fun hc19 => ?_)
          · rw [if_pos hc19] at h
            exact B_X6_attempt_102 hC hE hml hr hlk h hH hS (lv_sub hl [5, 6, 3, 1, 0] rfl)
          · rw [if_neg hc19] at h
            refine lv_iload hC.1 hC.2.1 dX6_attempt_95 (lv_at hl 1 rfl) ?_
            refine lv_bipush (v := (12 : Int32)) hC.1 hC.2.1 dX6_attempt_97 (by decide) ?_
            refine lv_icmp_ne (tgt := 106) hC.1 hC.2.1 dX6_attempt_99 (by decide) (fun hc20 => ?_) (fun hc20 => ?_)
            · rw [if_neg hc20] at h
              refine lv_iconst (v := (0 : Int32)) hC.1 hC.2.1 dX6_attempt_106 (by decide) ?_
              exact B_X6_attempt_107 hC hE hml hr hlk h hH hS (lv_sub hl [5, 6, 3, 1, 0] rfl)
            · rw [if_pos hc20] at h
              exact B_X6_attempt_102 hC hE hml hr hlk h hH hS (lv_sub hl [5, 6, 3, 1, 0] rfl)
    · rw [if_pos hc9] at h
      refine lv_aload_n hC.1 hC.2.1 dX6_attempt_39 rfl (lv_at hl 2 rfl) ?_
      refine gf_RX6_19 hC hH rfl dX6_attempt_40 ?_
      refine gl_aload_n hC dX6_attempt_43 rfl (lv_at hl 3 rfl) ?_
      refine lv_iload_n hC.1 hC.2.1 dX6_attempt_44 rfl (lv_at hl 1 rfl) ?_
      obtain ⟨r21, D22, hF23, h⟩ := bd2_some h
      refine gcallV (As := [rfv (gA g) 6 x1, .int ((D3 6 x1.toNatClampNeg 12 0) / (16 : Int32))]) (rest := []) (Cn := RX10) hC hE hml hH hS (c_X10_ask hF23) ⟨wd_739, wd_740, wd_741, wd_8, wd_742⟩ hd_X10_ask rfl rfl ⟨Nat.le_of_ble_eq_true rfl, Nat.le_of_ble_eq_true rfl⟩ rfl (hw_recv (q := 16) (i := 0) hC hH ⟨Nat.zero_lt_one, fun h => absurd h (by decide)⟩ rfl rfl) rfl hl.1 rfl (Nat.le_of_ble_eq_true rfl) dX6_attempt_45 ⟨Nat.le_of_ble_eq_true rfl, Nat.le_of_ble_eq_true rfl⟩ (fun ed H locs hH hS => ?_)
      refine W.eq (g2 := F0 m 48 ls []) rfl ?_
      cases h
      exact gret_v hC hr hlk hH hS (Nat.le_of_ble_eq_true rfl) (Nat.le_of_ble_eq_true rfl) dX6_attempt_48
  · rw [if_pos hc5] at h
    refine gl_aload_n hC dX6_attempt_11 rfl (lv_at hl 1 rfl) ?_
    refine lv_iconst (v := (4 : Int32)) hC.1 hC.2.1 dX6_attempt_12 (by decide) ?_
    obtain ⟨D24, e25, h⟩ := st_some h
    refine pf_RX6_35 hC hH hS (inb_lt hg1)  (rfv_in hg1) dX6_attempt_13 (fun H locs hH hS => ?_)
    rw [← e25] at hH
    cases h
    exact gret_v hC hr hlk hH hS (Nat.le_of_ble_eq_true rfl) (Nat.le_of_ble_eq_true rfl) dX6_attempt_16
def F_X6_step_54 (n : Nat)   (C : St) : Option (Int32 × St) := some (0, C)
set_option maxHeartbeats 4000000 in
set_option maxRecDepth 100000 in
theorem B_X6_step_54 {p : Program} {l : Launch} {e : Env} {s : State} {m : MethodId} {args : Array Value} {below : List Frame} {meth : Method} {c : Code} {g : GP} {Z : St} (hC : CX p s m args c cX6_step RX6 g) (hE : EZ g s s.heap) (hml : c.maxLocals = 2) (hr : meth.sig.returnType = none) (hlk : meth.locks = false) {r : Int32} {C2 : St}  {C : St} (h : F_X6_step_54 (gn g)   C = some (r, C2)) {ed : Nat → Nat} {H : Heap} {locs : List Loc} {ls : Array Slot} (hH : HW g ed C Z H) (hS : va_S (gP g) s.heap H locs) (hl : lv_has ls 2 []) : W p l e ({ frames := 8, cells := 1, slots := 10, locals := 186 } : Room) s m args below meth c H locs 1 10 (MQ below (QG none g C2 Z) args s 1 10 (gP g)) (F0 m 54 ls []) := by
  unfold F_X6_step_54 at h
  cases h
  exact gret_v hC hr hlk hH hS (Nat.le_of_ble_eq_true rfl) (Nat.le_of_ble_eq_true rfl) dX6_step_54
def F_X6_step (n : Nat) (x1 : Int32) (C : St) : Option (Int32 × St) := gd (inb x1 6) (if (C 6 x1.toNatClampNeg 8 0) = 0 then (if (C 6 x1.toNatClampNeg 18 0) = 0 then (if (C 6 x1.toNatClampNeg 11 0) < (C 6 x1.toNatClampNeg 10 0) then (bd2 (F_X6_attempt n x1 C) (fun r5 D6 => F_X6_step_54 n  D6)) else (st (up C 6 x1.toNatClampNeg 8 0 (2 : Int32)) (fun D8 => F_X6_step_54 n  D8))) else (st (up C 6 x1.toNatClampNeg 8 0 (5 : Int32)) (fun D10 => F_X6_step_54 n  D10))) else (bd2 (F_X6_end n x1 C) (fun r12 D13 => F_X6_step_54 n  D13)))
set_option maxHeartbeats 4000000 in
set_option maxRecDepth 100000 in
theorem c_X6_step {l : Launch} {g : GP} {ed : Nat → Nat} {Z : St} {x1 : Int32} {C : St} {r : Int32} {C2 : St} (h : F_X6_step (gn g) x1 C = some (r, C2)) : Met l yX6_step (Cond.code yX6_step cX6_step 2 none :: lwG) ({ frames := 8, cells := 1, slots := 10, locals := 186 } : Room) (va_Pc [.ref (gA g 32 0), rfv (gA g) 6 x1] (PW g C Z ed)) (QG none g C2 Z) 1 10 (gP g) := by
  refine Met.ofW (cc := cX6_step) (maxL := 2) (ret := none) (by decide +kernel) rfl ?_
  intro p e s m args below meth c s₁ B hml hv
  obtain ⟨ha, hC, hE, hr, hlk, hH⟩ := g_start B hv
  subst ha
  have hC : CX p s m ([.ref (gA g 32 0), rfv (gA g) 6 x1] : List Value).toArray c cX6_step RX6 g := hC
  have hS : va_S (gP g) s.heap s.heap [] := va_S.rf
  obtain ⟨ls, he, hl⟩ := g_entry m (vs := [.ref (gA g 32 0), rfv (gA g) 6 x1]) (n := 2) (List.forall_mem_cons.mpr ⟨rfl, (List.forall_mem_cons.mpr ⟨rfv_cat, (fun _ h => absurd h List.not_mem_nil)⟩)⟩) (Nat.le_of_ble_eq_true rfl)
  rw [he]
  have hl : lv_has ls 2 [(0, .ref (gA g 32 0)), (1, rfv (gA g) 6 x1)] := hl
  unfold F_X6_step at h
  refine gl_aload_n hC dX6_step_0 rfl (lv_at hl 1 rfl) ?_
  obtain ⟨hg1, h⟩ := gd_some h
  refine gf_RX6_35 hC hH (inb_lt hg1) (rfv_in hg1) dX6_step_1 ?_
  refine lv_if_eq (tgt := 15) hC.1 hC.2.1 dX6_step_4 (by decide) (fun hc2 => ?_) (fun hc2 => ?_)
  · rw [if_pos hc2] at h
    refine gl_aload_n hC dX6_step_15 rfl (lv_at hl 1 rfl) ?_
    refine gf_RX6_45 hC hH (inb_lt hg1) (rfv_in hg1) dX6_step_16 ?_
    refine lv_if_eq (tgt := 30) hC.1 hC.2.1 dX6_step_19 (by decide) (fun hc3 => ?_) (fun hc3 => ?_)
    · rw [if_pos hc3] at h
      refine gl_aload_n hC dX6_step_30 rfl (lv_at hl 1 rfl) ?_
      refine gf_RX6_49 hC hH (inb_lt hg1) (rfv_in hg1) dX6_step_31 ?_
      refine gl_aload_n hC dX6_step_34 rfl (lv_at hl 1 rfl) ?_
      refine gf_RX6_52 hC hH (inb_lt hg1) (rfv_in hg1) dX6_step_35 ?_
      refine lv_icmp_lt (tgt := 49) hC.1 hC.2.1 dX6_step_38 (by decide) (fun hc4 => ?_) (fun hc4 => ?_)
      · rw [if_pos hc4] at h
        refine lv_aload_n hC.1 hC.2.1 dX6_step_49 rfl (lv_at hl 0 rfl) ?_
        refine gl_aload_n hC dX6_step_50 rfl (lv_at hl 1 rfl) ?_
        obtain ⟨r5, D6, hF7, h⟩ := bd2_some h
        refine gcallV (As := [rfv (gA g) 6 x1]) (rest := []) (Cn := RX6) hC hE hml hH hS (c_X6_attempt hF7) ⟨wd_727, wd_729, wp_10, wd_16, wd_730⟩ hd_X6_attempt rfl rfl ⟨Nat.le_of_ble_eq_true rfl, Nat.le_of_ble_eq_true rfl⟩ rfl (hw_recv (q := 32) (i := 0) hC hH ⟨Nat.zero_lt_one, fun h => absurd h (by decide)⟩ rfl rfl) rfl hl.1 rfl (Nat.le_of_ble_eq_true rfl) dX6_step_51 ⟨Nat.le_of_ble_eq_true rfl, Nat.le_of_ble_eq_true rfl⟩ (fun ed H locs hH hS => ?_)
        refine W.eq (g2 := F0 m 54 ls []) rfl ?_
        exact B_X6_step_54 hC hE hml hr hlk h hH hS (lv_sub hl [] rfl)
      · rw [if_neg hc4] at h
        refine gl_aload_n hC dX6_step_41 rfl (lv_at hl 1 rfl) ?_
        refine lv_iconst (v := (2 : Int32)) hC.1 hC.2.1 dX6_step_42 (by decide) ?_
        obtain ⟨D8, e9, h⟩ := st_some h
        refine pf_RX6_35 hC hH hS (inb_lt hg1)  (rfv_in hg1) dX6_step_43 (fun H locs hH hS => ?_)
        rw [← e9] at hH
        refine lv_goto (tgt := 54) hC.1 hC.2.1 dX6_step_46 (by decide) ?_
        refine W.widen (k := 1) (n := 10) (Nat.le_of_ble_eq_true rfl) (Nat.le_of_ble_eq_true rfl) ?_
        exact B_X6_step_54 hC hE hml hr hlk h hH hS (lv_sub hl [] rfl)
    · rw [if_neg hc3] at h
      refine gl_aload_n hC dX6_step_22 rfl (lv_at hl 1 rfl) ?_
      refine lv_iconst (v := (5 : Int32)) hC.1 hC.2.1 dX6_step_23 (by decide) ?_
      obtain ⟨D10, e11, h⟩ := st_some h
      refine pf_RX6_35 hC hH hS (inb_lt hg1)  (rfv_in hg1) dX6_step_24 (fun H locs hH hS => ?_)
      rw [← e11] at hH
      refine lv_goto (tgt := 54) hC.1 hC.2.1 dX6_step_27 (by decide) ?_
      refine W.widen (k := 1) (n := 10) (Nat.le_of_ble_eq_true rfl) (Nat.le_of_ble_eq_true rfl) ?_
      exact B_X6_step_54 hC hE hml hr hlk h hH hS (lv_sub hl [] rfl)
  · rw [if_neg hc2] at h
    refine lv_aload_n hC.1 hC.2.1 dX6_step_7 rfl (lv_at hl 0 rfl) ?_
    refine gl_aload_n hC dX6_step_8 rfl (lv_at hl 1 rfl) ?_
    obtain ⟨r12, D13, hF14, h⟩ := bd2_some h
    refine gcallV (As := [rfv (gA g) 6 x1]) (rest := []) (Cn := RX6) hC hE hml hH hS (c_X6_end hF14) ⟨wd_625, wd_627, wp_2, wd_16, wd_628⟩ hd_X6_end rfl rfl ⟨Nat.le_of_ble_eq_true rfl, Nat.le_of_ble_eq_true rfl⟩ rfl (hw_recv (q := 32) (i := 0) hC hH ⟨Nat.zero_lt_one, fun h => absurd h (by decide)⟩ rfl rfl) rfl hl.1 rfl (Nat.le_of_ble_eq_true rfl) dX6_step_9 ⟨Nat.le_of_ble_eq_true rfl, Nat.le_of_ble_eq_true rfl⟩ (fun ed H locs hH hS => ?_)
    refine W.eq (g2 := F0 m 12 ls []) rfl ?_
    refine lv_goto (tgt := 54) hC.1 hC.2.1 dX6_step_12 (by decide) ?_
    refine W.widen (k := 1) (n := 10) (Nat.le_of_ble_eq_true rfl) (Nat.le_of_ble_eq_true rfl) ?_
    exact B_X6_step_54 hC hE hml hr hlk h hH hS (lv_sub hl [] rfl)
