def F_X1_acceptLine_16 (n : Nat)   (C : St) : Option (Int32 × St) := some ((0 : Int32), C)
set_option maxHeartbeats 4000000 in
set_option maxRecDepth 100000 in
theorem B_X1_acceptLine_16 {p : Program} {l : Launch} {e : Env} {s : State} {m : MethodId} {args : Array Value} {below : List Frame} {meth : Method} {c : Code} {g : GP} {Z : St} (hC : CX p s m args c cX1_acceptLine RX1 g) (hE : EZ g s s.heap) (hml : c.maxLocals = 2) (hr : meth.sig.returnType = (some .boolean)) (hlk : meth.locks = false) {r : Int32} {C2 : St}  {C : St} (h : F_X1_acceptLine_16 (gn g)   C = some (r, C2)) {ed : Nat → Nat} {H : Heap} {locs : List Loc} {ls : Array Slot} (hH : HW g ed C Z H) (hS : va_S (gP g) s.heap H locs) (hl : lv_has ls 2 []) : W p l e ({ frames := 3, cells := 0, slots := 0, locals := 63 } : Room) s m args below meth c H locs 0 0 (MQ below (QG (some (.int r)) g C2 Z) args s 0 0 (gP g)) (F0 m 16 ls []) := by
  unfold F_X1_acceptLine_16 at h
  refine lv_iconst (v := (0 : Int32)) hC.1 hC.2.1 dX1_acceptLine_16 (by decide) ?_
  cases h
  exact gret_z hC hr hlk (by decide) hH hS (Nat.le_of_ble_eq_true rfl) (Nat.le_of_ble_eq_true rfl) dX1_acceptLine_17
def F_X1_acceptLine_57 (n : Nat)   (C : St) : Option (Int32 × St) := gd (inb (C 26 0 11 0) 8) (st (up C 31 0 0 (C 26 0 11 0).toNatClampNeg (C 26 0 8 0)) (fun D2 => st (up D2 26 0 8 0 (0 : Int32)) (fun D4 => st (up D4 26 0 11 0 ((D4 26 0 11 0) + (1 : Int32))) (fun D6 => bd2 (F_X9_v n 6 D6) (fun r8 D9 => some ((1 : Int32), D9))))))
set_option maxHeartbeats 4000000 in
set_option maxRecDepth 100000 in
theorem B_X1_acceptLine_57 {p : Program} {l : Launch} {e : Env} {s : State} {m : MethodId} {args : Array Value} {below : List Frame} {meth : Method} {c : Code} {g : GP} {Z : St} (hC : CX p s m args c cX1_acceptLine RX1 g) (hE : EZ g s s.heap) (hml : c.maxLocals = 2) (hr : meth.sig.returnType = (some .boolean)) (hlk : meth.locks = false) {r : Int32} {C2 : St}  {C : St} (h : F_X1_acceptLine_57 (gn g)   C = some (r, C2)) {ed : Nat → Nat} {H : Heap} {locs : List Loc} {ls : Array Slot} (hH : HW g ed C Z H) (hS : va_S (gP g) s.heap H locs) (hl : lv_has ls 2 [(0, .ref (gA g 26 0))]) : W p l e ({ frames := 3, cells := 0, slots := 0, locals := 63 } : Room) s m args below meth c H locs 0 0 (MQ below (QG (some (.int r)) g C2 Z) args s 0 0 (gP g)) (F0 m 57 ls []) := by
  unfold F_X1_acceptLine_57 at h
  refine lv_aload_n hC.1 hC.2.1 dX1_acceptLine_57 rfl (lv_at hl 0 rfl) ?_
  refine gf_RX1_23 hC hH rfl dX1_acceptLine_58 ?_
  refine lv_aload_n hC.1 hC.2.1 dX1_acceptLine_61 rfl (lv_at hl 0 rfl) ?_
  refine gf_RX1_63 hC hH rfl dX1_acceptLine_62 ?_
  refine lv_aload_n hC.1 hC.2.1 dX1_acceptLine_65 rfl (lv_at hl 0 rfl) ?_
  refine gf_RX1_59 hC hH rfl dX1_acceptLine_66 ?_
  obtain ⟨hg1, h⟩ := gd_some h
  obtain ⟨D2, e3, h⟩ := st_some h
  refine as_31 hC hH hS hg1 rfl dX1_acceptLine_69 (fun H locs hH hS => ?_)
  rw [← e3] at hH
  refine lv_aload_n hC.1 hC.2.1 dX1_acceptLine_70 rfl (lv_at hl 0 rfl) ?_
  refine lv_iconst (v := (0 : Int32)) hC.1 hC.2.1 dX1_acceptLine_71 (by decide) ?_
  obtain ⟨D4, e5, h⟩ := st_some h
  refine pf_RX1_59 hC hH hS  rfl dX1_acceptLine_72 (fun H locs hH hS => ?_)
  rw [← e5] at hH
  refine lv_aload_n hC.1 hC.2.1 dX1_acceptLine_75 rfl (lv_at hl 0 rfl) ?_
  refine lv_dup hC.1 hC.2.1 dX1_acceptLine_76 rfl ?_
  refine gf_RX1_63 hC hH rfl dX1_acceptLine_77 ?_
  refine lv_iconst (v := (1 : Int32)) hC.1 hC.2.1 dX1_acceptLine_80 (by decide) ?_
  refine lv_iadd hC.1 hC.2.1 dX1_acceptLine_81 ?_
  obtain ⟨D6, e7, h⟩ := st_some h
  refine pf_RX1_63 hC hH hS  rfl dX1_acceptLine_82 (fun H locs hH hS => ?_)
  rw [← e7] at hH
  refine lv_aload_n hC.1 hC.2.1 dX1_acceptLine_85 rfl (lv_at hl 0 rfl) ?_
  refine gf_RX1_48 hC hH rfl dX1_acceptLine_86 ?_
  obtain ⟨r8, D9, hF10, h⟩ := bd2_some h
  refine gcallV (As := []) (rest := []) (Cn := RX9) hC hE hml hH hS (c_X9_v (Nat.le_of_ble_eq_true rfl) hF10) ⟨wd_1042, wd_800, wd_801, wd_12, wd_802⟩ hd_X9_v rfl rfl ⟨Nat.le_of_ble_eq_true rfl, Nat.le_of_ble_eq_true rfl⟩ rfl (hw_recv (q := 5) (i := 6) hC hH ⟨(Nat.le_of_ble_eq_true rfl), fun h => absurd h (by decide)⟩ rfl rfl) rfl hl.1 rfl (Nat.le_of_ble_eq_true rfl) dX1_acceptLine_89 ⟨Nat.le_of_ble_eq_true rfl, Nat.le_of_ble_eq_true rfl⟩ (fun ed H locs hH hS => ?_)
  refine W.eq (g2 := F0 m 92 ls []) rfl ?_
  refine lv_iconst (v := (1 : Int32)) hC.1 hC.2.1 dX1_acceptLine_92 (by decide) ?_
  cases h
  exact gret_z hC hr hlk (by decide) hH hS (Nat.le_of_ble_eq_true rfl) (Nat.le_of_ble_eq_true rfl) dX1_acceptLine_93
def F_X1_acceptLine_20 (n : Nat)  : Nat → Int32 → St → Option (Int32 × St)
  | 0, _, _ => none
  | fu + 1, x1, C => if (C 26 0 8 0) ≤ x1 then (F_X1_acceptLine_57 n  C) else (if (20 : Int32) ≤ x1 then (F_X1_acceptLine_57 n  C) else (gd (inb (C 26 0 11 0) 8) (gd (inb x1 20) (st (up C 30 (C 26 0 11 0).toNatClampNeg 0 x1.toNatClampNeg ((C 28 0 0 x1.toNatClampNeg).toInt8.toInt32)) (fun D5 => F_X1_acceptLine_20 n fu (x1 + 1) D5)))))
set_option maxHeartbeats 4000000 in
set_option maxRecDepth 100000 in
theorem B_X1_acceptLine_20 {p : Program} {l : Launch} {e : Env} {s : State} {m : MethodId} {args : Array Value} {below : List Frame} {meth : Method} {c : Code} {g : GP} {Z : St} (hC : CX p s m args c cX1_acceptLine RX1 g) (hE : EZ g s s.heap) (hml : c.maxLocals = 2) (hr : meth.sig.returnType = (some .boolean)) (hlk : meth.locks = false) {r : Int32} {C2 : St} : ∀ (fu : Nat) (x1 : Int32) (C : St), F_X1_acceptLine_20 (gn g)  fu x1 C = some (r, C2) → ∀ (ed : Nat → Nat) (H : Heap) (locs : List Loc) (ls : Array Slot), HW g ed C Z H → va_S (gP g) s.heap H locs → lv_has ls 2 [(0, .ref (gA g 26 0)), (1, .int x1)] → W p l e ({ frames := 3, cells := 0, slots := 0, locals := 63 } : Room) s m args below meth c H locs 0 0 (MQ below (QG (some (.int r)) g C2 Z) args s 0 0 (gP g)) (F0 m 20 ls []) := by
  intro fu
  induction fu with
  | zero =>
    intro x1 C h
    cases h
  | succ fu ih =>
    intro x1 C h ed H locs ls hH hS hl
    rw [F_X1_acceptLine_20] at h
    refine lv_iload_n hC.1 hC.2.1 dX1_acceptLine_20 rfl (lv_at hl 1 rfl) ?_
    refine lv_aload_n hC.1 hC.2.1 dX1_acceptLine_21 rfl (lv_at hl 0 rfl) ?_
    refine gf_RX1_59 hC hH rfl dX1_acceptLine_22 ?_
    refine lv_icmp_ge (tgt := 57) hC.1 hC.2.1 dX1_acceptLine_25 (by decide) (fun hc1 => ?_) (fun hc1 => ?_)
    · rw [if_pos hc1] at h
      exact B_X1_acceptLine_57 hC hE hml hr hlk h hH hS (lv_sub hl [0] rfl)
    · rw [if_neg hc1] at h
      refine lv_iload_n hC.1 hC.2.1 dX1_acceptLine_28 rfl (lv_at hl 1 rfl) ?_
      refine lv_bipush (v := (20 : Int32)) hC.1 hC.2.1 dX1_acceptLine_29 (by decide) ?_
      refine lv_icmp_ge (tgt := 57) hC.1 hC.2.1 dX1_acceptLine_31 (by decide) (fun hc2 => ?_) (fun hc2 => ?_)
      · rw [if_pos hc2] at h
        exact B_X1_acceptLine_57 hC hE hml hr hlk h hH hS (lv_sub hl [0] rfl)
      · rw [if_neg hc2] at h
        refine lv_aload_n hC.1 hC.2.1 dX1_acceptLine_34 rfl (lv_at hl 0 rfl) ?_
        refine gf_RX1_20 hC hH rfl dX1_acceptLine_35 ?_
        refine lv_aload_n hC.1 hC.2.1 dX1_acceptLine_38 rfl (lv_at hl 0 rfl) ?_
        refine gf_RX1_63 hC hH rfl dX1_acceptLine_39 ?_
        obtain ⟨hg3, h⟩ := gd_some h
        refine aa_29 hC hH hg3 rfl dX1_acceptLine_42 ?_
        refine lv_iload_n hC.1 hC.2.1 dX1_acceptLine_43 rfl (lv_at hl 1 rfl) ?_
        refine lv_aload_n hC.1 hC.2.1 dX1_acceptLine_44 rfl (lv_at hl 0 rfl) ?_
        refine gf_RX1_15 hC hH rfl dX1_acceptLine_45 ?_
        refine lv_iload_n hC.1 hC.2.1 dX1_acceptLine_48 rfl (lv_at hl 1 rfl) ?_
        obtain ⟨hg4, h⟩ := gd_some h
        refine al_28 hC hH hg4 rfl dX1_acceptLine_49 ?_
        obtain ⟨D5, e6, h⟩ := st_some h
        refine as_30 hC hH hS (inb_lt hg3) hg4 (rfv_in hg3) dX1_acceptLine_50 (fun H locs hH hS => ?_)
        rw [← e6] at hH
        refine lv_iinc (v := x1 + 1) (lv' := [(1, .int (x1 + 1)), (0, .ref (gA g 26 0))]) hC.1 hC.2.1 dX1_acceptLine_51 hl (k := 1) rfl rfl (by decide) rfl (fun ls hl => ?_)
        refine lv_goto (tgt := 20) hC.1 hC.2.1 dX1_acceptLine_54 (by decide) ?_
        exact ih _ _ h _ _ _ _ hH hS (lv_sub hl [1, 0] rfl)
def F_X1_acceptLine (n : Nat)  (C : St) : Option (Int32 × St) := if (C 26 0 11 0) < 0 then (F_X1_acceptLine_16 n  C) else (if (C 26 0 11 0) < (8 : Int32) then (F_X1_acceptLine_20 n 1000 (0 : Int32) C) else (F_X1_acceptLine_16 n  C))
set_option maxHeartbeats 4000000 in
set_option maxRecDepth 100000 in
theorem c_X1_acceptLine {l : Launch} {g : GP} {ed : Nat → Nat} {Z : St}  {C : St} {r : Int32} {C2 : St} (h : F_X1_acceptLine (gn g)  C = some (r, C2)) : Met l yX1_acceptLine (Cond.code yX1_acceptLine cX1_acceptLine 2 (some .boolean) :: lwG) ({ frames := 3, cells := 0, slots := 0, locals := 63 } : Room) (va_Pc [.ref (gA g 26 0)] (PW g C Z ed)) (QG (some (.int r)) g C2 Z) 0 0 (gP g) := by
  refine Met.ofW (cc := cX1_acceptLine) (maxL := 2) (ret := (some .boolean)) (by decide +kernel) rfl ?_
  intro p e s m args below meth c s₁ B hml hv
  obtain ⟨ha, hC, hE, hr, hlk, hH⟩ := g_start B hv
  subst ha
  have hC : CX p s m ([.ref (gA g 26 0)] : List Value).toArray c cX1_acceptLine RX1 g := hC
  have hS : va_S (gP g) s.heap s.heap [] := va_S.rf
  obtain ⟨ls, he, hl⟩ := g_entry m (vs := [.ref (gA g 26 0)]) (n := 2) (List.forall_mem_cons.mpr ⟨rfl, (fun _ h => absurd h List.not_mem_nil)⟩) (Nat.le_of_ble_eq_true rfl)
  rw [he]
  have hl : lv_has ls 2 [(0, .ref (gA g 26 0))] := hl
  unfold F_X1_acceptLine at h
  refine lv_aload_n hC.1 hC.2.1 dX1_acceptLine_0 rfl (lv_at hl 0 rfl) ?_
  refine gf_RX1_63 hC hH rfl dX1_acceptLine_1 ?_
  refine lv_if_lt (tgt := 16) hC.1 hC.2.1 dX1_acceptLine_4 (by decide) (fun hc1 => ?_) (fun hc1 => ?_)
  · rw [if_pos hc1] at h
    exact B_X1_acceptLine_16 hC hE hml hr hlk h hH hS (lv_sub hl [] rfl)
  · rw [if_neg hc1] at h
    refine lv_aload_n hC.1 hC.2.1 dX1_acceptLine_7 rfl (lv_at hl 0 rfl) ?_
    refine gf_RX1_63 hC hH rfl dX1_acceptLine_8 ?_
    refine lv_bipush (v := (8 : Int32)) hC.1 hC.2.1 dX1_acceptLine_11 (by decide) ?_
    refine lv_icmp_lt (tgt := 18) hC.1 hC.2.1 dX1_acceptLine_13 (by decide) (fun hc2 => ?_) (fun hc2 => ?_)
    · rw [if_pos hc2] at h
      refine lv_iconst (v := (0 : Int32)) hC.1 hC.2.1 dX1_acceptLine_18 (by decide) ?_
      refine lv_istore_n (i := 1) (lv' := [(1, .int (0 : Int32)), (0, .ref (gA g 26 0))]) hC.1 hC.2.1 dX1_acceptLine_19 rfl hl (by decide) rfl (fun ls hl => ?_)
      exact B_X1_acceptLine_20 hC hE hml hr hlk 1000 _ _ h _ _ _ _ hH hS (lv_sub hl [1, 0] rfl)
    · rw [if_neg hc2] at h
      exact B_X1_acceptLine_16 hC hE hml hr hlk h hH hS (lv_sub hl [] rfl)
def F_X1_accept_70 (n : Nat)  (x2 : Int32) (C : St) : Option (Int32 × St) := gd (isb x2) (some (x2, C))
set_option maxHeartbeats 4000000 in
set_option maxRecDepth 100000 in
theorem B_X1_accept_70 {p : Program} {l : Launch} {e : Env} {s : State} {m : MethodId} {args : Array Value} {below : List Frame} {meth : Method} {c : Code} {g : GP} {Z : St} (hC : CX p s m args c cX1_accept RX1 g) (hE : EZ g s s.heap) (hml : c.maxLocals = 3) (hr : meth.sig.returnType = (some .boolean)) (hlk : meth.locks = false) {r : Int32} {C2 : St} {x2 : Int32} {C : St} (h : F_X1_accept_70 (gn g)  x2 C = some (r, C2)) {ed : Nat → Nat} {H : Heap} {locs : List Loc} {ls : Array Slot} (hH : HW g ed C Z H) (hS : va_S (gP g) s.heap H locs) (hl : lv_has ls 3 [(2, .int x2)]) : W p l e ({ frames := 4, cells := 0, slots := 0, locals := 84 } : Room) s m args below meth c H locs 0 0 (MQ below (QG (some (.int r)) g C2 Z) args s 0 0 (gP g)) (F0 m 70 ls []) := by
  unfold F_X1_accept_70 at h
  refine lv_iload_n hC.1 hC.2.1 dX1_accept_70 rfl (lv_at hl 0 rfl) ?_
  obtain ⟨hg1, h⟩ := gd_some h
  cases h
  exact gret_z hC hr hlk hg1 hH hS (Nat.le_of_ble_eq_true rfl) (Nat.le_of_ble_eq_true rfl) dX1_accept_71
def F_X1_accept_44 (n : Nat)  (x1 : Int32) (t0 : Int32) (C : St) : Option (Int32 × St) := if t0 = 0 then (F_X1_accept_70 n t0 C) else (gd (inb (C 26 0 8 0) 20) (st (up C 28 0 0 (C 26 0 8 0).toNatClampNeg ((x1.toInt8.toInt32).toInt8.toInt32)) (fun D3 => st (up D3 26 0 8 0 ((D3 26 0 8 0) + (1 : Int32))) (fun D5 => F_X1_accept_70 n t0 D5))))
set_option maxHeartbeats 4000000 in
set_option maxRecDepth 100000 in
theorem B_X1_accept_44 {p : Program} {l : Launch} {e : Env} {s : State} {m : MethodId} {args : Array Value} {below : List Frame} {meth : Method} {c : Code} {g : GP} {Z : St} (hC : CX p s m args c cX1_accept RX1 g) (hE : EZ g s s.heap) (hml : c.maxLocals = 3) (hr : meth.sig.returnType = (some .boolean)) (hlk : meth.locks = false) {r : Int32} {C2 : St} {x1 : Int32} {t0 : Int32} {C : St} (h : F_X1_accept_44 (gn g)  x1 t0 C = some (r, C2)) {ed : Nat → Nat} {H : Heap} {locs : List Loc} {ls : Array Slot} (hH : HW g ed C Z H) (hS : va_S (gP g) s.heap H locs) (hl : lv_has ls 3 [(0, .ref (gA g 26 0)), (1, .int x1)]) : W p l e ({ frames := 4, cells := 0, slots := 0, locals := 84 } : Room) s m args below meth c H locs 0 0 (MQ below (QG (some (.int r)) g C2 Z) args s 0 0 (gP g)) (F0 m 44 ls [.int t0]) := by
  unfold F_X1_accept_44 at h
  refine lv_istore_n (i := 2) (lv' := [(2, .int t0), (0, .ref (gA g 26 0)), (1, .int x1)]) hC.1 hC.2.1 dX1_accept_44 rfl hl (by decide) rfl (fun ls hl => ?_)
  refine lv_iload_n hC.1 hC.2.1 dX1_accept_45 rfl (lv_at hl 0 rfl) ?_
  refine lv_if_eq (tgt := 70) hC.1 hC.2.1 dX1_accept_46 (by decide) (fun hc1 => ?_) (fun hc1 => ?_)
  · rw [if_pos hc1] at h
    exact B_X1_accept_70 hC hE hml hr hlk h hH hS (lv_sub hl [0] rfl)
  · rw [if_neg hc1] at h
    refine lv_aload_n hC.1 hC.2.1 dX1_accept_49 rfl (lv_at hl 1 rfl) ?_
    refine gf_RX1_15 hC hH rfl dX1_accept_50 ?_
    refine lv_aload_n hC.1 hC.2.1 dX1_accept_53 rfl (lv_at hl 1 rfl) ?_
    refine gf_RX1_59 hC hH rfl dX1_accept_54 ?_
    refine lv_iload_n hC.1 hC.2.1 dX1_accept_57 rfl (lv_at hl 2 rfl) ?_
    refine lv_i2b hC.1 hC.2.1 dX1_accept_58 rfl ?_
    obtain ⟨hg2, h⟩ := gd_some h
    obtain ⟨D3, e4, h⟩ := st_some h
    refine as_28 hC hH hS hg2 rfl dX1_accept_59 (fun H locs hH hS => ?_)
    rw [← e4] at hH
    refine lv_aload_n hC.1 hC.2.1 dX1_accept_60 rfl (lv_at hl 1 rfl) ?_
    refine lv_dup hC.1 hC.2.1 dX1_accept_61 rfl ?_
    refine gf_RX1_59 hC hH rfl dX1_accept_62 ?_
    refine lv_iconst (v := (1 : Int32)) hC.1 hC.2.1 dX1_accept_65 (by decide) ?_
    refine lv_iadd hC.1 hC.2.1 dX1_accept_66 ?_
    obtain ⟨D5, e6, h⟩ := st_some h
    refine pf_RX1_59 hC hH hS  rfl dX1_accept_67 (fun H locs hH hS => ?_)
    rw [← e6] at hH
    exact B_X1_accept_70 hC hE hml hr hlk h hH hS (lv_sub hl [0] rfl)
def F_X1_accept_43 (n : Nat)  (x1 : Int32) (C : St) : Option (Int32 × St) := F_X1_accept_44 n x1 (0 : Int32) C
set_option maxHeartbeats 4000000 in
set_option maxRecDepth 100000 in
theorem B_X1_accept_43 {p : Program} {l : Launch} {e : Env} {s : State} {m : MethodId} {args : Array Value} {below : List Frame} {meth : Method} {c : Code} {g : GP} {Z : St} (hC : CX p s m args c cX1_accept RX1 g) (hE : EZ g s s.heap) (hml : c.maxLocals = 3) (hr : meth.sig.returnType = (some .boolean)) (hlk : meth.locks = false) {r : Int32} {C2 : St} {x1 : Int32} {C : St} (h : F_X1_accept_43 (gn g)  x1 C = some (r, C2)) {ed : Nat → Nat} {H : Heap} {locs : List Loc} {ls : Array Slot} (hH : HW g ed C Z H) (hS : va_S (gP g) s.heap H locs) (hl : lv_has ls 3 [(0, .ref (gA g 26 0)), (1, .int x1)]) : W p l e ({ frames := 4, cells := 0, slots := 0, locals := 84 } : Room) s m args below meth c H locs 0 0 (MQ below (QG (some (.int r)) g C2 Z) args s 0 0 (gP g)) (F0 m 43 ls []) := by
  unfold F_X1_accept_43 at h
  refine lv_iconst (v := (0 : Int32)) hC.1 hC.2.1 dX1_accept_43 (by decide) ?_
  exact B_X1_accept_44 hC hE hml hr hlk h hH hS (lv_sub hl [0, 1] rfl)
def F_X1_accept (n : Nat) (x1 : Int32) (C : St) : Option (Int32 × St) := if x1 = (10 : Int32) then (bd2 (F_X1_acceptLine n  C) (fun r6 D7 => gd (isb r6) (some (r6, D7)))) else (if x1 < (32 : Int32) then (F_X1_accept_43 n x1 C) else (if (126 : Int32) < x1 then (F_X1_accept_43 n x1 C) else (if (C 26 0 8 0) < 0 then (F_X1_accept_43 n x1 C) else (if (20 : Int32) ≤ (C 26 0 8 0) then (F_X1_accept_43 n x1 C) else (F_X1_accept_44 n x1 (1 : Int32) C)))))
set_option maxHeartbeats 4000000 in
set_option maxRecDepth 100000 in
theorem c_X1_accept {l : Launch} {g : GP} {ed : Nat → Nat} {Z : St} {x1 : Int32} {C : St} {r : Int32} {C2 : St} (h : F_X1_accept (gn g) x1 C = some (r, C2)) : Met l yX1_accept (Cond.code yX1_accept cX1_accept 3 (some .boolean) :: lwG) ({ frames := 4, cells := 0, slots := 0, locals := 84 } : Room) (va_Pc [.ref (gA g 26 0), .int x1] (PW g C Z ed)) (QG (some (.int r)) g C2 Z) 0 0 (gP g) := by
  refine Met.ofW (cc := cX1_accept) (maxL := 3) (ret := (some .boolean)) (by decide +kernel) rfl ?_
  intro p e s m args below meth c s₁ B hml hv
  obtain ⟨ha, hC, hE, hr, hlk, hH⟩ := g_start B hv
  subst ha
  have hC : CX p s m ([.ref (gA g 26 0), .int x1] : List Value).toArray c cX1_accept RX1 g := hC
  have hS : va_S (gP g) s.heap s.heap [] := va_S.rf
  obtain ⟨ls, he, hl⟩ := g_entry m (vs := [.ref (gA g 26 0), .int x1]) (n := 3) (List.forall_mem_cons.mpr ⟨rfl, (List.forall_mem_cons.mpr ⟨rfl, (fun _ h => absurd h List.not_mem_nil)⟩)⟩) (Nat.le_of_ble_eq_true rfl)
  rw [he]
  have hl : lv_has ls 3 [(0, .ref (gA g 26 0)), (1, .int x1)] := hl
  unfold F_X1_accept at h
  refine lv_iload_n hC.1 hC.2.1 dX1_accept_0 rfl (lv_at hl 1 rfl) ?_
  refine lv_bipush (v := (10 : Int32)) hC.1 hC.2.1 dX1_accept_1 (by decide) ?_
  refine lv_icmp_ne (tgt := 11) hC.1 hC.2.1 dX1_accept_3 (by decide) (fun hc1 => ?_) (fun hc1 => ?_)
  · rw [if_neg hc1] at h
    refine lv_iload_n hC.1 hC.2.1 dX1_accept_11 rfl (lv_at hl 1 rfl) ?_
    refine lv_bipush (v := (32 : Int32)) hC.1 hC.2.1 dX1_accept_12 (by decide) ?_
    refine lv_icmp_lt (tgt := 43) hC.1 hC.2.1 dX1_accept_14 (by decide) (fun hc2 => ?_) (fun hc2 => ?_)
    · rw [if_pos hc2] at h
      exact B_X1_accept_43 hC hE hml hr hlk h hH hS (lv_sub hl [0, 1] rfl)
    · rw [if_neg hc2] at h
      refine lv_iload_n hC.1 hC.2.1 dX1_accept_17 rfl (lv_at hl 1 rfl) ?_
      refine lv_bipush (v := (126 : Int32)) hC.1 hC.2.1 dX1_accept_18 (by decide) ?_
      refine lv_icmp_gt (tgt := 43) hC.1 hC.2.1 dX1_accept_20 (by decide) (fun hc3 => ?_) (fun hc3 => ?_)
      · rw [if_pos hc3] at h
        exact B_X1_accept_43 hC hE hml hr hlk h hH hS (lv_sub hl [0, 1] rfl)
      · rw [if_neg hc3] at h
        refine lv_aload_n hC.1 hC.2.1 dX1_accept_23 rfl (lv_at hl 0 rfl) ?_
        refine gf_RX1_59 hC hH rfl dX1_accept_24 ?_
        refine lv_if_lt (tgt := 43) hC.1 hC.2.1 dX1_accept_27 (by decide) (fun hc4 => ?_) (fun hc4 => ?_)
        · rw [if_pos hc4] at h
          exact B_X1_accept_43 hC hE hml hr hlk h hH hS (lv_sub hl [0, 1] rfl)
        · rw [if_neg hc4] at h
          refine lv_aload_n hC.1 hC.2.1 dX1_accept_30 rfl (lv_at hl 0 rfl) ?_
          refine gf_RX1_59 hC hH rfl dX1_accept_31 ?_
          refine lv_bipush (v := (20 : Int32)) hC.1 hC.2.1 dX1_accept_34 (by decide) ?_
          refine lv_icmp_ge (tgt := 43) hC.1 hC.2.1 dX1_accept_36 (by decide) (fun hc5 => ?_) (fun hc5 => ?_)
          · rw [if_pos hc5] at h
            exact B_X1_accept_43 hC hE hml hr hlk h hH hS (lv_sub hl [0, 1] rfl)
          · rw [if_neg hc5] at h
            refine lv_iconst (v := (1 : Int32)) hC.1 hC.2.1 dX1_accept_39 (by decide) ?_
            refine lv_goto (tgt := 44) hC.1 hC.2.1 dX1_accept_40 (by decide) ?_
            exact B_X1_accept_44 hC hE hml hr hlk h hH hS (lv_sub hl [0, 1] rfl)
  · rw [if_pos hc1] at h
    refine lv_aload_n hC.1 hC.2.1 dX1_accept_6 rfl (lv_at hl 0 rfl) ?_
    obtain ⟨r6, D7, hF8, h⟩ := bd2_some h
    refine gcallV (As := []) (rest := []) (Cn := RX1) hC hE hml hH hS (c_X1_acceptLine hF8) ⟨wd_1038, wd_1040, wp_32, wd_15, wd_1041⟩ hd_X1_acceptLine rfl rfl ⟨Nat.le_of_ble_eq_true rfl, Nat.le_of_ble_eq_true rfl⟩ rfl (hw_recv (q := 26) (i := 0) hC hH ⟨Nat.zero_lt_one, fun h => absurd h (by decide)⟩ rfl rfl) rfl hl.1 rfl (Nat.le_of_ble_eq_true rfl) dX1_accept_7 ⟨Nat.le_of_ble_eq_true rfl, Nat.le_of_ble_eq_true rfl⟩ (fun ed H locs hH hS => ?_)
    refine W.eq (g2 := F0 m 10 ls [.int r6]) rfl ?_
    obtain ⟨hg9, h⟩ := gd_some h
    cases h
    exact gret_z hC hr hlk hg9 hH hS (Nat.le_of_ble_eq_true rfl) (Nat.le_of_ble_eq_true rfl) dX1_accept_10
def F_X1_signAt_32 (n : Nat)  (t0 : Int32) (C : St) : Option (Int32 × St) := some (t0, C)
set_option maxHeartbeats 4000000 in
set_option maxRecDepth 100000 in
theorem B_X1_signAt_32 {p : Program} {l : Launch} {e : Env} {s : State} {m : MethodId} {args : Array Value} {below : List Frame} {meth : Method} {c : Code} {g : GP} {Z : St} (hC : CX p s m args c cX1_signAt RX1 g) (hE : EZ g s s.heap) (hml : c.maxLocals = 2) (hr : meth.sig.returnType = (some .int)) (hlk : meth.locks = false) {r : Int32} {C2 : St} {t0 : Int32} {C : St} (h : F_X1_signAt_32 (gn g)  t0 C = some (r, C2)) {ed : Nat → Nat} {H : Heap} {locs : List Loc} {ls : Array Slot} (hH : HW g ed C Z H) (hS : va_S (gP g) s.heap H locs) (hl : lv_has ls 2 []) : W p l e ({ frames := 0, cells := 0, slots := 0, locals := 0 } : Room) s m args below meth c H locs 0 0 (MQ below (QG (some (.int r)) g C2 Z) args s 0 0 (gP g)) (F0 m 32 ls [.int t0]) := by
  unfold F_X1_signAt_32 at h
  cases h
  exact gret_i hC hr hlk hH hS (Nat.le_of_ble_eq_true rfl) (Nat.le_of_ble_eq_true rfl) dX1_signAt_32
def F_X1_signAt_31 (n : Nat)   (C : St) : Option (Int32 × St) := F_X1_signAt_32 n (-1 : Int32) C
set_option maxHeartbeats 4000000 in
set_option maxRecDepth 100000 in
theorem B_X1_signAt_31 {p : Program} {l : Launch} {e : Env} {s : State} {m : MethodId} {args : Array Value} {below : List Frame} {meth : Method} {c : Code} {g : GP} {Z : St} (hC : CX p s m args c cX1_signAt RX1 g) (hE : EZ g s s.heap) (hml : c.maxLocals = 2) (hr : meth.sig.returnType = (some .int)) (hlk : meth.locks = false) {r : Int32} {C2 : St}  {C : St} (h : F_X1_signAt_31 (gn g)   C = some (r, C2)) {ed : Nat → Nat} {H : Heap} {locs : List Loc} {ls : Array Slot} (hH : HW g ed C Z H) (hS : va_S (gP g) s.heap H locs) (hl : lv_has ls 2 []) : W p l e ({ frames := 0, cells := 0, slots := 0, locals := 0 } : Room) s m args below meth c H locs 0 0 (MQ below (QG (some (.int r)) g C2 Z) args s 0 0 (gP g)) (F0 m 31 ls []) := by
  unfold F_X1_signAt_31 at h
  refine lv_iconst (v := (-1 : Int32)) hC.1 hC.2.1 dX1_signAt_31 (by decide) ?_
  exact B_X1_signAt_32 hC hE hml hr hlk h hH hS (lv_sub hl [] rfl)
def F_X1_signAt (n : Nat) (x1 : Int32) (C : St) : Option (Int32 × St) := if x1 < 0 then (F_X1_signAt_31 n  C) else (gd (inb (0 : Int32) 8) (if (C 31 0 0 (0 : Int32).toNatClampNeg) ≤ x1 then (F_X1_signAt_31 n  C) else (if (20 : Int32) ≤ x1 then (F_X1_signAt_31 n  C) else (gd (inb x1 20) (F_X1_signAt_32 n (C 30 (0 : Int32).toNatClampNeg 0 x1.toNatClampNeg) C)))))
set_option maxHeartbeats 4000000 in
set_option maxRecDepth 100000 in
theorem c_X1_signAt {l : Launch} {g : GP} {ed : Nat → Nat} {Z : St} {x1 : Int32} {C : St} {r : Int32} {C2 : St} (h : F_X1_signAt (gn g) x1 C = some (r, C2)) : Met l yX1_signAt (Cond.code yX1_signAt cX1_signAt 2 (some .int) :: lwG) ({ frames := 0, cells := 0, slots := 0, locals := 0 } : Room) (va_Pc [.ref (gA g 26 0), .int x1] (PW g C Z ed)) (QG (some (.int r)) g C2 Z) 0 0 (gP g) := by
  refine Met.ofW (cc := cX1_signAt) (maxL := 2) (ret := (some .int)) (by decide +kernel) rfl ?_
  intro p e s m args below meth c s₁ B hml hv
  obtain ⟨ha, hC, hE, hr, hlk, hH⟩ := g_start B hv
  subst ha
  have hC : CX p s m ([.ref (gA g 26 0), .int x1] : List Value).toArray c cX1_signAt RX1 g := hC
  have hS : va_S (gP g) s.heap s.heap [] := va_S.rf
  obtain ⟨ls, he, hl⟩ := g_entry m (vs := [.ref (gA g 26 0), .int x1]) (n := 2) (List.forall_mem_cons.mpr ⟨rfl, (List.forall_mem_cons.mpr ⟨rfl, (fun _ h => absurd h List.not_mem_nil)⟩)⟩) (Nat.le_of_ble_eq_true rfl)
  rw [he]
  have hl : lv_has ls 2 [(0, .ref (gA g 26 0)), (1, .int x1)] := hl
  unfold F_X1_signAt at h
  refine lv_iload_n hC.1 hC.2.1 dX1_signAt_0 rfl (lv_at hl 1 rfl) ?_
  refine lv_if_lt (tgt := 31) hC.1 hC.2.1 dX1_signAt_1 (by decide) (fun hc1 => ?_) (fun hc1 => ?_)
  · rw [if_pos hc1] at h
    exact B_X1_signAt_31 hC hE hml hr hlk h hH hS (lv_sub hl [] rfl)
  · rw [if_neg hc1] at h
    refine lv_iload_n hC.1 hC.2.1 dX1_signAt_4 rfl (lv_at hl 1 rfl) ?_
    refine lv_aload_n hC.1 hC.2.1 dX1_signAt_5 rfl (lv_at hl 0 rfl) ?_
    refine gf_RX1_23 hC hH rfl dX1_signAt_6 ?_
    refine lv_iconst (v := (0 : Int32)) hC.1 hC.2.1 dX1_signAt_9 (by decide) ?_
    obtain ⟨hg2, h⟩ := gd_some h
    refine al_31 hC hH hg2 rfl dX1_signAt_10 ?_
    refine lv_icmp_ge (tgt := 31) hC.1 hC.2.1 dX1_signAt_11 (by decide) (fun hc3 => ?_) (fun hc3 => ?_)
    · rw [if_pos hc3] at h
      exact B_X1_signAt_31 hC hE hml hr hlk h hH hS (lv_sub hl [] rfl)
    · rw [if_neg hc3] at h
      refine lv_iload_n hC.1 hC.2.1 dX1_signAt_14 rfl (lv_at hl 1 rfl) ?_
      refine lv_bipush (v := (20 : Int32)) hC.1 hC.2.1 dX1_signAt_15 (by decide) ?_
      refine lv_icmp_ge (tgt := 31) hC.1 hC.2.1 dX1_signAt_17 (by decide) (fun hc4 => ?_) (fun hc4 => ?_)
      · rw [if_pos hc4] at h
        exact B_X1_signAt_31 hC hE hml hr hlk h hH hS (lv_sub hl [] rfl)
      · rw [if_neg hc4] at h
        refine lv_aload_n hC.1 hC.2.1 dX1_signAt_20 rfl (lv_at hl 0 rfl) ?_
        refine gf_RX1_20 hC hH rfl dX1_signAt_21 ?_
        refine lv_iconst (v := (0 : Int32)) hC.1 hC.2.1 dX1_signAt_24 (by decide) ?_
        refine aa_29 hC hH hg2 rfl dX1_signAt_25 ?_
        refine lv_iload_n hC.1 hC.2.1 dX1_signAt_26 rfl (lv_at hl 1 rfl) ?_
        obtain ⟨hg5, h⟩ := gd_some h
        refine al_30 hC hH (inb_lt hg2) hg5 (rfv_in hg2) dX1_signAt_27 ?_
        refine lv_goto (tgt := 32) hC.1 hC.2.1 dX1_signAt_28 (by decide) ?_
        exact B_X1_signAt_32 hC hE hml hr hlk h hH hS (lv_sub hl [] rfl)
def F_X1_digitAt_26 (n : Nat)  (t0 : Int32) (C : St) : Option (Int32 × St) := some (t0, C)
set_option maxHeartbeats 4000000 in
set_option maxRecDepth 100000 in
theorem B_X1_digitAt_26 {p : Program} {l : Launch} {e : Env} {s : State} {m : MethodId} {args : Array Value} {below : List Frame} {meth : Method} {c : Code} {g : GP} {Z : St} (hC : CX p s m args c cX1_digitAt RX1 g) (hE : EZ g s s.heap) (hml : c.maxLocals = 3) (hr : meth.sig.returnType = (some .int)) (hlk : meth.locks = false) {r : Int32} {C2 : St} {t0 : Int32} {C : St} (h : F_X1_digitAt_26 (gn g)  t0 C = some (r, C2)) {ed : Nat → Nat} {H : Heap} {locs : List Loc} {ls : Array Slot} (hH : HW g ed C Z H) (hS : va_S (gP g) s.heap H locs) (hl : lv_has ls 3 []) : W p l e ({ frames := 1, cells := 0, slots := 0, locals := 21 } : Room) s m args below meth c H locs 0 0 (MQ below (QG (some (.int r)) g C2 Z) args s 0 0 (gP g)) (F0 m 26 ls [.int t0]) := by
  unfold F_X1_digitAt_26 at h
  cases h
  exact gret_i hC hr hlk hH hS (Nat.le_of_ble_eq_true rfl) (Nat.le_of_ble_eq_true rfl) dX1_digitAt_26
def F_X1_digitAt_25 (n : Nat)   (C : St) : Option (Int32 × St) := F_X1_digitAt_26 n (-1 : Int32) C
set_option maxHeartbeats 4000000 in
set_option maxRecDepth 100000 in
theorem B_X1_digitAt_25 {p : Program} {l : Launch} {e : Env} {s : State} {m : MethodId} {args : Array Value} {below : List Frame} {meth : Method} {c : Code} {g : GP} {Z : St} (hC : CX p s m args c cX1_digitAt RX1 g) (hE : EZ g s s.heap) (hml : c.maxLocals = 3) (hr : meth.sig.returnType = (some .int)) (hlk : meth.locks = false) {r : Int32} {C2 : St}  {C : St} (h : F_X1_digitAt_25 (gn g)   C = some (r, C2)) {ed : Nat → Nat} {H : Heap} {locs : List Loc} {ls : Array Slot} (hH : HW g ed C Z H) (hS : va_S (gP g) s.heap H locs) (hl : lv_has ls 3 []) : W p l e ({ frames := 1, cells := 0, slots := 0, locals := 21 } : Room) s m args below meth c H locs 0 0 (MQ below (QG (some (.int r)) g C2 Z) args s 0 0 (gP g)) (F0 m 25 ls []) := by
  unfold F_X1_digitAt_25 at h
  refine lv_iconst (v := (-1 : Int32)) hC.1 hC.2.1 dX1_digitAt_25 (by decide) ?_
  exact B_X1_digitAt_26 hC hE hml hr hlk h hH hS (lv_sub hl [] rfl)
def F_X1_digitAt (n : Nat) (x1 : Int32) (C : St) : Option (Int32 × St) := bd2 (F_X1_signAt n x1 C) (fun r1 D2 => if r1 < (48 : Int32) then (F_X1_digitAt_25 n  D2) else (if (57 : Int32) < r1 then (F_X1_digitAt_25 n  D2) else (F_X1_digitAt_26 n (r1 - (48 : Int32)) D2)))
set_option maxHeartbeats 4000000 in
set_option maxRecDepth 100000 in
theorem c_X1_digitAt {l : Launch} {g : GP} {ed : Nat → Nat} {Z : St} {x1 : Int32} {C : St} {r : Int32} {C2 : St} (h : F_X1_digitAt (gn g) x1 C = some (r, C2)) : Met l yX1_digitAt (Cond.code yX1_digitAt cX1_digitAt 3 (some .int) :: lwG) ({ frames := 1, cells := 0, slots := 0, locals := 21 } : Room) (va_Pc [.ref (gA g 26 0), .int x1] (PW g C Z ed)) (QG (some (.int r)) g C2 Z) 0 0 (gP g) := by
  refine Met.ofW (cc := cX1_digitAt) (maxL := 3) (ret := (some .int)) (by decide +kernel) rfl ?_
  intro p e s m args below meth c s₁ B hml hv
  obtain ⟨ha, hC, hE, hr, hlk, hH⟩ := g_start B hv
  subst ha
  have hC : CX p s m ([.ref (gA g 26 0), .int x1] : List Value).toArray c cX1_digitAt RX1 g := hC
  have hS : va_S (gP g) s.heap s.heap [] := va_S.rf
  obtain ⟨ls, he, hl⟩ := g_entry m (vs := [.ref (gA g 26 0), .int x1]) (n := 3) (List.forall_mem_cons.mpr ⟨rfl, (List.forall_mem_cons.mpr ⟨rfl, (fun _ h => absurd h List.not_mem_nil)⟩)⟩) (Nat.le_of_ble_eq_true rfl)
  rw [he]
  have hl : lv_has ls 3 [(0, .ref (gA g 26 0)), (1, .int x1)] := hl
  unfold F_X1_digitAt at h
  refine lv_aload_n hC.1 hC.2.1 dX1_digitAt_0 rfl (lv_at hl 0 rfl) ?_
  refine lv_iload_n hC.1 hC.2.1 dX1_digitAt_1 rfl (lv_at hl 1 rfl) ?_
  obtain ⟨r1, D2, hF3, h⟩ := bd2_some h
  refine gcallV (As := [.int x1]) (rest := []) (Cn := RX1) hC hE hml hH hS (c_X1_signAt hF3) ⟨wd_956, wd_958, wp_25, wd_15, wd_959⟩ hd_X1_signAt rfl rfl ⟨Nat.le_of_ble_eq_true rfl, Nat.le_of_ble_eq_true rfl⟩ rfl (hw_recv (q := 26) (i := 0) hC hH ⟨Nat.zero_lt_one, fun h => absurd h (by decide)⟩ rfl rfl) rfl hl.1 rfl (Nat.le_of_ble_eq_true rfl) dX1_digitAt_2 ⟨Nat.le_of_ble_eq_true rfl, Nat.le_of_ble_eq_true rfl⟩ (fun ed H locs hH hS => ?_)
  refine W.eq (g2 := F0 m 5 ls [.int r1]) rfl ?_
  refine lv_istore_n (i := 2) (lv' := [(2, .int r1), (0, .ref (gA g 26 0)), (1, .int x1)]) hC.1 hC.2.1 dX1_digitAt_5 rfl hl (by decide) rfl (fun ls hl => ?_)
  refine lv_iload_n hC.1 hC.2.1 dX1_digitAt_6 rfl (lv_at hl 0 rfl) ?_
  refine lv_bipush (v := (48 : Int32)) hC.1 hC.2.1 dX1_digitAt_7 (by decide) ?_
  refine lv_icmp_lt (tgt := 25) hC.1 hC.2.1 dX1_digitAt_9 (by decide) (fun hc4 => ?_) (fun hc4 => ?_)
  · rw [if_pos hc4] at h
    exact B_X1_digitAt_25 hC hE hml hr hlk h hH hS (lv_sub hl [] rfl)
  · rw [if_neg hc4] at h
    refine lv_iload_n hC.1 hC.2.1 dX1_digitAt_12 rfl (lv_at hl 0 rfl) ?_
    refine lv_bipush (v := (57 : Int32)) hC.1 hC.2.1 dX1_digitAt_13 (by decide) ?_
    refine lv_icmp_gt (tgt := 25) hC.1 hC.2.1 dX1_digitAt_15 (by decide) (fun hc5 => ?_) (fun hc5 => ?_)
    · rw [if_pos hc5] at h
      exact B_X1_digitAt_25 hC hE hml hr hlk h hH hS (lv_sub hl [] rfl)
    · rw [if_neg hc5] at h
      refine lv_iload_n hC.1 hC.2.1 dX1_digitAt_18 rfl (lv_at hl 0 rfl) ?_
      refine lv_bipush (v := (48 : Int32)) hC.1 hC.2.1 dX1_digitAt_19 (by decide) ?_
      refine lv_isub hC.1 hC.2.1 dX1_digitAt_21 ?_
      refine lv_goto (tgt := 26) hC.1 hC.2.1 dX1_digitAt_22 (by decide) ?_
      exact B_X1_digitAt_26 hC hE hml hr hlk h hH hS (lv_sub hl [] rfl)
def F_X1_admits_30 (n : Nat)   (C : St) : Option (Int32 × St) := some ((0 : Int32), C)
set_option maxHeartbeats 4000000 in
set_option maxRecDepth 100000 in
theorem B_X1_admits_30 {p : Program} {l : Launch} {e : Env} {s : State} {m : MethodId} {args : Array Value} {below : List Frame} {meth : Method} {c : Code} {g : GP} {Z : St} (hC : CX p s m args c cX1_admits RX1 g) (hE : EZ g s s.heap) (hml : c.maxLocals = 2) (hr : meth.sig.returnType = (some .boolean)) (hlk : meth.locks = false) {r : Int32} {C2 : St}  {C : St} (h : F_X1_admits_30 (gn g)   C = some (r, C2)) {ed : Nat → Nat} {H : Heap} {locs : List Loc} {ls : Array Slot} (hH : HW g ed C Z H) (hS : va_S (gP g) s.heap H locs) (hl : lv_has ls 2 []) : W p l e ({ frames := 2, cells := 0, slots := 0, locals := 43 } : Room) s m args below meth c H locs 0 0 (MQ below (QG (some (.int r)) g C2 Z) args s 0 0 (gP g)) (F0 m 30 ls []) := by
  unfold F_X1_admits_30 at h
  refine lv_iconst (v := (0 : Int32)) hC.1 hC.2.1 dX1_admits_30 (by decide) ?_
  cases h
  exact gret_z hC hr hlk (by decide) hH hS (Nat.le_of_ble_eq_true rfl) (Nat.le_of_ble_eq_true rfl) dX1_admits_31
def F_X1_admits (n : Nat) (x1 : Int32) (C : St) : Option (Int32 × St) := gd (inb x1 6) (if (C 6 x1.toNatClampNeg 7 0) = (1 : Int32) then (bd2 (F_X0_admitted n  C) (fun r3 D4 => if ((2 : Int32) * (r3 + (1 : Int32))) ≤ (nI n) then (st (up D4 6 x1.toNatClampNeg 7 0 (2 : Int32)) (fun D7 => bd2 (F_X7_wake n (D7 6 x1.toNatClampNeg 0 0) D7) (fun r9 D10 => some ((1 : Int32), D10)))) else (F_X1_admits_30 n  D4))) else (F_X1_admits_30 n  C))
set_option maxHeartbeats 4000000 in
set_option maxRecDepth 100000 in
theorem c_X1_admits {l : Launch} {g : GP} {ed : Nat → Nat} {Z : St} {x1 : Int32} {C : St} {r : Int32} {C2 : St} (h : F_X1_admits (gn g) x1 C = some (r, C2)) : Met l yX1_admits (Cond.code yX1_admits cX1_admits 2 (some .boolean) :: lwG) ({ frames := 2, cells := 0, slots := 0, locals := 43 } : Room) (va_Pc [.ref (gA g 26 0), rfv (gA g) 6 x1] (PW g C Z ed)) (QG (some (.int r)) g C2 Z) 0 0 (gP g) := by
  refine Met.ofW (cc := cX1_admits) (maxL := 2) (ret := (some .boolean)) (by decide +kernel) rfl ?_
  intro p e s m args below meth c s₁ B hml hv
  obtain ⟨ha, hC, hE, hr, hlk, hH⟩ := g_start B hv
  subst ha
  have hC : CX p s m ([.ref (gA g 26 0), rfv (gA g) 6 x1] : List Value).toArray c cX1_admits RX1 g := hC
  have hS : va_S (gP g) s.heap s.heap [] := va_S.rf
  obtain ⟨ls, he, hl⟩ := g_entry m (vs := [.ref (gA g 26 0), rfv (gA g) 6 x1]) (n := 2) (List.forall_mem_cons.mpr ⟨rfl, (List.forall_mem_cons.mpr ⟨rfv_cat, (fun _ h => absurd h List.not_mem_nil)⟩)⟩) (Nat.le_of_ble_eq_true rfl)
  rw [he]
  have hl : lv_has ls 2 [(0, .ref (gA g 26 0)), (1, rfv (gA g) 6 x1)] := hl
  unfold F_X1_admits at h
  refine gl_aload_n hC dX1_admits_0 rfl (lv_at hl 1 rfl) ?_
  obtain ⟨hg1, h⟩ := gd_some h
  refine gf_RX1_100 hC hH (inb_lt hg1) (rfv_in hg1) dX1_admits_1 ?_
  refine lv_iconst (v := (1 : Int32)) hC.1 hC.2.1 dX1_admits_4 (by decide) ?_
  refine lv_icmp_ne (tgt := 30) hC.1 hC.2.1 dX1_admits_5 (by decide) (fun hc2 => ?_) (fun hc2 => ?_)
  · rw [if_neg hc2] at h
    exact B_X1_admits_30 hC hE hml hr hlk h hH hS (lv_sub hl [] rfl)
  · rw [if_pos hc2] at h
    refine lv_iconst (v := (2 : Int32)) hC.1 hC.2.1 dX1_admits_8 (by decide) ?_
    refine lv_aload_n hC.1 hC.2.1 dX1_admits_9 rfl (lv_at hl 0 rfl) ?_
    refine gf_RX1_35 hC hH rfl dX1_admits_10 ?_
    obtain ⟨r3, D4, hF5, h⟩ := bd2_some h
    refine gcallV (As := []) (rest := [.int (2 : Int32)]) (Cn := RX0) hC hE hml hH hS (c_X0_admitted hF5) ⟨wd_965, wd_966, wd_967, wd_13, wd_968⟩ hd_X0_admitted rfl rfl ⟨Nat.le_of_ble_eq_true rfl, Nat.le_of_ble_eq_true rfl⟩ rfl (hw_recv (q := 19) (i := 0) hC hH ⟨Nat.zero_lt_one, fun h => absurd h (by decide)⟩ rfl rfl) rfl hl.1 rfl (Nat.le_of_ble_eq_true rfl) dX1_admits_13 ⟨Nat.le_of_ble_eq_true rfl, Nat.le_of_ble_eq_true rfl⟩ (fun ed H locs hH hS => ?_)
    refine W.eq (g2 := F0 m 16 ls [.int r3, .int (2 : Int32)]) rfl ?_
    refine lv_iconst (v := (1 : Int32)) hC.1 hC.2.1 dX1_admits_16 (by decide) ?_
    refine lv_iadd hC.1 hC.2.1 dX1_admits_17 ?_
    refine lv_imul hC.1 hC.2.1 dX1_admits_18 ?_
    refine lv_aload_n hC.1 hC.2.1 dX1_admits_19 rfl (lv_at hl 0 rfl) ?_
    refine gf_RX1_31 hC hH rfl dX1_admits_20 ?_
    refine gf_RX1_111 hC hH rfl dX1_admits_23 ?_
    refine ln_13 hC hH rfl dX1_admits_26 ?_
    refine lv_icmp_le (tgt := 32) hC.1 hC.2.1 dX1_admits_27 (by decide) (fun hc6 => ?_) (fun hc6 => ?_)
    · rw [if_pos hc6] at h
      refine gl_aload_n hC dX1_admits_32 rfl (lv_at hl 1 rfl) ?_
      refine lv_iconst (v := (2 : Int32)) hC.1 hC.2.1 dX1_admits_33 (by decide) ?_
      obtain ⟨D7, e8, h⟩ := st_some h
      refine pf_RX1_100 hC hH hS (inb_lt hg1)  (rfv_in hg1) dX1_admits_34 (fun H locs hH hS => ?_)
      rw [← e8] at hH
      refine lv_aload_n hC.1 hC.2.1 dX1_admits_37 rfl (lv_at hl 0 rfl) ?_
      refine gf_RX1_27 hC hH rfl dX1_admits_38 ?_
      refine gl_aload_n hC dX1_admits_41 rfl (lv_at hl 1 rfl) ?_
      refine gf_RX1_117 hC hH (inb_lt hg1) (rfv_in hg1) dX1_admits_42 ?_
      obtain ⟨r9, D10, hF11, h⟩ := bd2_some h
      refine gcallV (As := [.int (D7 6 x1.toNatClampNeg 0 0)]) (rest := []) (Cn := RX7) hC hE hml hH hS (c_X7_wake hF11) ⟨wd_969, wd_723, wd_724, wd_2, wd_725⟩ hd_X7_wake rfl rfl ⟨Nat.le_of_ble_eq_true rfl, Nat.le_of_ble_eq_true rfl⟩ rfl (hw_recv (q := 1) (i := 0) hC hH ⟨Nat.zero_lt_one, fun h => absurd h (by decide)⟩ rfl rfl) rfl hl.1 rfl (Nat.le_of_ble_eq_true rfl) dX1_admits_45 ⟨Nat.le_of_ble_eq_true rfl, Nat.le_of_ble_eq_true rfl⟩ (fun ed H locs hH hS => ?_)
      refine W.eq (g2 := F0 m 48 ls []) rfl ?_
      refine lv_iconst (v := (1 : Int32)) hC.1 hC.2.1 dX1_admits_48 (by decide) ?_
      cases h
      exact gret_z hC hr hlk (by decide) hH hS (Nat.le_of_ble_eq_true rfl) (Nat.le_of_ble_eq_true rfl) dX1_admits_49
    · rw [if_neg hc6] at h
      exact B_X1_admits_30 hC hE hml hr hlk h hH hS (lv_sub hl [] rfl)
def F_X1_cancels_57 (n : Nat)   (C : St) : Option (Int32 × St) := some ((1 : Int32), C)
set_option maxHeartbeats 4000000 in
set_option maxRecDepth 100000 in
theorem B_X1_cancels_57 {p : Program} {l : Launch} {e : Env} {s : State} {m : MethodId} {args : Array Value} {below : List Frame} {meth : Method} {c : Code} {g : GP} {Z : St} (hC : CX p s m args c cX1_cancels RX1 g) (hE : EZ g s s.heap) (hml : c.maxLocals = 3) (hr : meth.sig.returnType = (some .boolean)) (hlk : meth.locks = false) {r : Int32} {C2 : St}  {C : St} (h : F_X1_cancels_57 (gn g)   C = some (r, C2)) {ed : Nat → Nat} {H : Heap} {locs : List Loc} {ls : Array Slot} (hH : HW g ed C Z H) (hS : va_S (gP g) s.heap H locs) (hl : lv_has ls 3 []) : W p l e ({ frames := 4, cells := 0, slots := 0, locals := 128 } : Room) s m args below meth c H locs 0 0 (MQ below (QG (some (.int r)) g C2 Z) args s 0 0 (gP g)) (F0 m 57 ls []) := by
  unfold F_X1_cancels_57 at h
  refine lv_iconst (v := (1 : Int32)) hC.1 hC.2.1 dX1_cancels_57 (by decide) ?_
  cases h
  exact gret_z hC hr hlk (by decide) hH hS (Nat.le_of_ble_eq_true rfl) (Nat.le_of_ble_eq_true rfl) dX1_cancels_58
def F_X1_cancels_38 (n : Nat)  (x1 : Int32) (C : St) : Option (Int32 × St) := bd2 (F_X0_leaveRow n x1 C) (fun r1 D2 => gd (inb x1 6) (bd2 (F_X7_wake n (D2 6 x1.toNatClampNeg 0 0) D2) (fun r5 D6 => F_X1_cancels_57 n  D6)))
set_option maxHeartbeats 4000000 in
set_option maxRecDepth 100000 in
theorem B_X1_cancels_38 {p : Program} {l : Launch} {e : Env} {s : State} {m : MethodId} {args : Array Value} {below : List Frame} {meth : Method} {c : Code} {g : GP} {Z : St} (hC : CX p s m args c cX1_cancels RX1 g) (hE : EZ g s s.heap) (hml : c.maxLocals = 3) (hr : meth.sig.returnType = (some .boolean)) (hlk : meth.locks = false) {r : Int32} {C2 : St} {x1 : Int32} {C : St} (h : F_X1_cancels_38 (gn g)  x1 C = some (r, C2)) {ed : Nat → Nat} {H : Heap} {locs : List Loc} {ls : Array Slot} (hH : HW g ed C Z H) (hS : va_S (gP g) s.heap H locs) (hl : lv_has ls 3 [(0, .ref (gA g 26 0)), (1, rfv (gA g) 6 x1)]) : W p l e ({ frames := 4, cells := 0, slots := 0, locals := 128 } : Room) s m args below meth c H locs 0 0 (MQ below (QG (some (.int r)) g C2 Z) args s 0 0 (gP g)) (F0 m 38 ls []) := by
  unfold F_X1_cancels_38 at h
  refine lv_aload_n hC.1 hC.2.1 dX1_cancels_38 rfl (lv_at hl 0 rfl) ?_
  refine gf_RX1_35 hC hH rfl dX1_cancels_39 ?_
  refine gl_aload_n hC dX1_cancels_42 rfl (lv_at hl 1 rfl) ?_
  obtain ⟨r1, D2, hF3, h⟩ := bd2_some h
  refine gcallV (As := [rfv (gA g) 6 x1]) (rest := []) (Cn := RX0) hC hE hml hH hS (c_X0_leaveRow hF3) ⟨wd_975, wd_976, wd_977, wd_13, wd_978⟩ hd_X0_leaveRow rfl rfl ⟨Nat.le_of_ble_eq_true rfl, Nat.le_of_ble_eq_true rfl⟩ rfl (hw_recv (q := 19) (i := 0) hC hH ⟨Nat.zero_lt_one, fun h => absurd h (by decide)⟩ rfl rfl) rfl hl.1 rfl (Nat.le_of_ble_eq_true rfl) dX1_cancels_43 ⟨Nat.le_of_ble_eq_true rfl, Nat.le_of_ble_eq_true rfl⟩ (fun ed H locs hH hS => ?_)
  refine W.eq (g2 := F0 m 46 ls []) rfl ?_
  refine lv_aload_n hC.1 hC.2.1 dX1_cancels_46 rfl (lv_at hl 0 rfl) ?_
  refine gf_RX1_27 hC hH rfl dX1_cancels_47 ?_
  refine gl_aload_n hC dX1_cancels_50 rfl (lv_at hl 1 rfl) ?_
  obtain ⟨hg4, h⟩ := gd_some h
  refine gf_RX1_117 hC hH (inb_lt hg4) (rfv_in hg4) dX1_cancels_51 ?_
  obtain ⟨r5, D6, hF7, h⟩ := bd2_some h
  refine gcallV (As := [.int (D2 6 x1.toNatClampNeg 0 0)]) (rest := []) (Cn := RX7) hC hE hml hH hS (c_X7_wake hF7) ⟨wd_969, wd_723, wd_724, wd_2, wd_725⟩ hd_X7_wake rfl rfl ⟨Nat.le_of_ble_eq_true rfl, Nat.le_of_ble_eq_true rfl⟩ rfl (hw_recv (q := 1) (i := 0) hC hH ⟨Nat.zero_lt_one, fun h => absurd h (by decide)⟩ rfl rfl) rfl hl.1 rfl (Nat.le_of_ble_eq_true rfl) dX1_cancels_54 ⟨Nat.le_of_ble_eq_true rfl, Nat.le_of_ble_eq_true rfl⟩ (fun ed H locs hH hS => ?_)
  refine W.eq (g2 := F0 m 57 ls []) rfl ?_
  exact B_X1_cancels_57 hC hE hml hr hlk h hH hS (lv_sub hl [] rfl)
def F_X1_cancels (n : Nat) (x1 : Int32) (C : St) : Option (Int32 × St) := gd (inb x1 6) (if (C 6 x1.toNatClampNeg 7 0) = (2 : Int32) then (st (up C 6 x1.toNatClampNeg 18 0 (1 : Int32)) (fun D3 => bd2 (F_X7_causeOf n (D3 6 x1.toNatClampNeg 0 0) D3) (fun r5 D6 => if r5 = (5 : Int32) then (F_X1_cancels_38 n x1 D6) else (if r5 = (6 : Int32) then (F_X1_cancels_38 n x1 D6) else (F_X1_cancels_57 n  D6))))) else (some ((0 : Int32), C)))
set_option maxHeartbeats 4000000 in
set_option maxRecDepth 100000 in
theorem c_X1_cancels {l : Launch} {g : GP} {ed : Nat → Nat} {Z : St} {x1 : Int32} {C : St} {r : Int32} {C2 : St} (h : F_X1_cancels (gn g) x1 C = some (r, C2)) : Met l yX1_cancels (Cond.code yX1_cancels cX1_cancels 3 (some .boolean) :: lwG) ({ frames := 4, cells := 0, slots := 0, locals := 128 } : Room) (va_Pc [.ref (gA g 26 0), rfv (gA g) 6 x1] (PW g C Z ed)) (QG (some (.int r)) g C2 Z) 0 0 (gP g) := by
  refine Met.ofW (cc := cX1_cancels) (maxL := 3) (ret := (some .boolean)) (by decide +kernel) rfl ?_
  intro p e s m args below meth c s₁ B hml hv
  obtain ⟨ha, hC, hE, hr, hlk, hH⟩ := g_start B hv
  subst ha
  have hC : CX p s m ([.ref (gA g 26 0), rfv (gA g) 6 x1] : List Value).toArray c cX1_cancels RX1 g := hC
  have hS : va_S (gP g) s.heap s.heap [] := va_S.rf
  obtain ⟨ls, he, hl⟩ := g_entry m (vs := [.ref (gA g 26 0), rfv (gA g) 6 x1]) (n := 3) (List.forall_mem_cons.mpr ⟨rfl, (List.forall_mem_cons.mpr ⟨rfv_cat, (fun _ h => absurd h List.not_mem_nil)⟩)⟩) (Nat.le_of_ble_eq_true rfl)
  rw [he]
  have hl : lv_has ls 3 [(0, .ref (gA g 26 0)), (1, rfv (gA g) 6 x1)] := hl
  unfold F_X1_cancels at h
  refine gl_aload_n hC dX1_cancels_0 rfl (lv_at hl 1 rfl) ?_
  obtain ⟨hg1, h⟩ := gd_some h
  refine gf_RX1_100 hC hH (inb_lt hg1) (rfv_in hg1) dX1_cancels_1 ?_
  refine lv_iconst (v := (2 : Int32)) hC.1 hC.2.1 dX1_cancels_4 (by decide) ?_
  refine lv_icmp_eq (tgt := 10) hC.1 hC.2.1 dX1_cancels_5 (by decide) (fun hc2 => ?_) (fun hc2 => ?_)
  · rw [if_pos hc2] at h
    refine gl_aload_n hC dX1_cancels_10 rfl (lv_at hl 1 rfl) ?_
    refine lv_iconst (v := (1 : Int32)) hC.1 hC.2.1 dX1_cancels_11 (by decide) ?_
    obtain ⟨D3, e4, h⟩ := st_some h
    refine pf_RX1_125 hC hH hS (inb_lt hg1) (by decide) (rfv_in hg1) dX1_cancels_12 (fun H locs hH hS => ?_)
    rw [← e4] at hH
    refine lv_aload_n hC.1 hC.2.1 dX1_cancels_15 rfl (lv_at hl 0 rfl) ?_
    refine gf_RX1_27 hC hH rfl dX1_cancels_16 ?_
    refine gl_aload_n hC dX1_cancels_19 rfl (lv_at hl 1 rfl) ?_
    refine gf_RX1_117 hC hH (inb_lt hg1) (rfv_in hg1) dX1_cancels_20 ?_
    obtain ⟨r5, D6, hF7, h⟩ := bd2_some h
    refine gcallV (As := [.int (D3 6 x1.toNatClampNeg 0 0)]) (rest := []) (Cn := RX7) hC hE hml hH hS (c_X7_causeOf hF7) ⟨wd_974, wd_937, wd_938, wd_2, wd_939⟩ hd_X7_causeOf rfl rfl ⟨Nat.le_of_ble_eq_true rfl, Nat.le_of_ble_eq_true rfl⟩ rfl (hw_recv (q := 1) (i := 0) hC hH ⟨Nat.zero_lt_one, fun h => absurd h (by decide)⟩ rfl rfl) rfl hl.1 rfl (Nat.le_of_ble_eq_true rfl) dX1_cancels_23 ⟨Nat.le_of_ble_eq_true rfl, Nat.le_of_ble_eq_true rfl⟩ (fun ed H locs hH hS => ?_)
    refine W.eq (g2 := F0 m 26 ls [.int r5]) rfl ?_
    refine lv_istore_n (i := 2) (lv' := [(2, .int r5), (0, .ref (gA g 26 0)), (1, rfv (gA g) 6 x1)]) hC.1 hC.2.1 dX1_cancels_26 rfl hl (by decide) (by simp [rfv_cat]) (fun ls hl => ?_)
    refine lv_iload_n hC.1 hC.2.1 dX1_cancels_27 rfl (lv_at hl 0 rfl) ?_
    refine lv_iconst (v := (5 : Int32)) hC.1 hC.2.1 dX1_cancels_28 (by decide) ?_
    refine lv_icmp_eq (tgt := 38) hC.1 hC.2.1 dX1_cancels_29 (by decide) (fun hc8 => ?_) (fun hc8 => ?_)
    · rw [if_pos hc8] at h
      exact B_X1_cancels_38 hC hE hml hr hlk h hH hS (lv_sub hl [1, 2] rfl)
    · rw [if_neg hc8] at h
      refine lv_iload_n hC.1 hC.2.1 dX1_cancels_32 rfl (lv_at hl 0 rfl) ?_
      refine lv_bipush (v := (6 : Int32)) hC.1 hC.2.1 dX1_cancels_33 (by decide) ?_
      refine lv_icmp_ne (tgt := 57) hC.1 hC.2.1 dX1_cancels_35 (by decide) (fun hc9 => ?_) (fun hc9 => ?_)
      · rw [if_neg hc9] at h
        exact B_X1_cancels_57 hC hE hml hr hlk h hH hS (lv_sub hl [] rfl)
      · rw [if_pos hc9] at h
        exact B_X1_cancels_38 hC hE hml hr hlk h hH hS (lv_sub hl [1, 2] rfl)
  · rw [if_neg hc2] at h
    refine lv_iconst (v := (0 : Int32)) hC.1 hC.2.1 dX1_cancels_8 (by decide) ?_
    cases h
    exact gret_z hC hr hlk (by decide) hH hS (Nat.le_of_ble_eq_true rfl) (Nat.le_of_ble_eq_true rfl) dX1_cancels_9
def F_X1_replies_105 (n : Nat) (k74 : Int32 → Int32 → Int32 → Int32 → Int32 → St → Option (Int32 × St)) (x1 : Int32) (x2 : Int32) (x5 : Int32) (x6 : Int32) (t0 : Int32) (C : St) : Option (Int32 × St) := bd2 (F_X1_digitAt n x6 C) (fun r1 D2 => k74 x1 x2 t0 ((x5 * (10 : Int32)) + r1) (x6 + 1) D2)
set_option maxHeartbeats 4000000 in
set_option maxRecDepth 100000 in
theorem B_X1_replies_105 {p : Program} {l : Launch} {e : Env} {s : State} {m : MethodId} {args : Array Value} {below : List Frame} {meth : Method} {c : Code} {g : GP} {Z : St} (hC : CX p s m args c cX1_replies RX1 g) (hE : EZ g s s.heap) (hml : c.maxLocals = 7) (hr : meth.sig.returnType = (some .boolean)) (hlk : meth.locks = false) {r : Int32} {C2 : St} {k74 : Int32 → Int32 → Int32 → Int32 → Int32 → St → Option (Int32 × St)} (hk74 : ∀ (x1 : Int32) (x2 : Int32) (x4 : Int32) (x5 : Int32) (x6 : Int32) (C : St), k74 x1 x2 x4 x5 x6 C = some (r, C2) → ∀ (ed : Nat → Nat) (H : Heap) (locs : List Loc) (ls : Array Slot), HW g ed C Z H → va_S (gP g) s.heap H locs → lv_has ls 7 [(0, .ref (gA g 26 0)), (1, rfv (gA g) 6 x1), (2, .int x2), (4, .int x4), (5, .int x5), (6, .int x6)] → W p l e ({ frames := 2, cells := 0, slots := 0, locals := 47 } : Room) s m args below meth c H locs 0 0 (MQ below (QG (some (.int r)) g C2 Z) args s 0 0 (gP g)) (F0 m 74 ls [])) {x1 : Int32} {x2 : Int32} {x5 : Int32} {x6 : Int32} {t0 : Int32} {C : St} (h : F_X1_replies_105 (gn g) k74 x1 x2 x5 x6 t0 C = some (r, C2)) {ed : Nat → Nat} {H : Heap} {locs : List Loc} {ls : Array Slot} (hH : HW g ed C Z H) (hS : va_S (gP g) s.heap H locs) (hl : lv_has ls 7 [(0, .ref (gA g 26 0)), (1, rfv (gA g) 6 x1), (2, .int x2), (5, .int x5), (6, .int x6)]) : W p l e ({ frames := 2, cells := 0, slots := 0, locals := 47 } : Room) s m args below meth c H locs 0 0 (MQ below (QG (some (.int r)) g C2 Z) args s 0 0 (gP g)) (F0 m 105 ls [.int t0]) := by
  unfold F_X1_replies_105 at h
  refine lv_istore (lv' := [(4, .int t0), (0, .ref (gA g 26 0)), (1, rfv (gA g) 6 x1), (2, .int x2), (5, .int x5), (6, .int x6)]) hC.1 hC.2.1 dX1_replies_105 hl (by decide) rfl (fun ls hl => ?_)
  refine lv_iload hC.1 hC.2.1 dX1_replies_107 (lv_at hl 4 rfl) ?_
  refine lv_bipush (v := (10 : Int32)) hC.1 hC.2.1 dX1_replies_109 (by decide) ?_
  refine lv_imul hC.1 hC.2.1 dX1_replies_111 ?_
  refine lv_aload_n hC.1 hC.2.1 dX1_replies_112 rfl (lv_at hl 1 rfl) ?_
  refine lv_iload hC.1 hC.2.1 dX1_replies_113 (lv_at hl 5 rfl) ?_
  obtain ⟨r1, D2, hF3, h⟩ := bd2_some h
  refine gcallV (As := [.int x6]) (rest := [.int (x5 * (10 : Int32))]) (Cn := RX1) hC hE hml hH hS (c_X1_digitAt hF3) ⟨wd_952, wd_954, wp_24, wd_15, wd_955⟩ hd_X1_digitAt rfl rfl ⟨Nat.le_of_ble_eq_true rfl, Nat.le_of_ble_eq_true rfl⟩ rfl (hw_recv (q := 26) (i := 0) hC hH ⟨Nat.zero_lt_one, fun h => absurd h (by decide)⟩ rfl rfl) rfl hl.1 rfl (Nat.le_of_ble_eq_true rfl) dX1_replies_115 ⟨Nat.le_of_ble_eq_true rfl, Nat.le_of_ble_eq_true rfl⟩ (fun ed H locs hH hS => ?_)
  refine W.eq (g2 := F0 m 118 ls [.int r1, .int (x5 * (10 : Int32))]) rfl ?_
  refine lv_iadd hC.1 hC.2.1 dX1_replies_118 ?_
  refine lv_istore (lv' := [(5, .int ((x5 * (10 : Int32)) + r1)), (4, .int t0), (0, .ref (gA g 26 0)), (1, rfv (gA g) 6 x1), (2, .int x2), (6, .int x6)]) hC.1 hC.2.1 dX1_replies_119 hl (by decide) rfl (fun ls hl => ?_)
  refine lv_iinc (v := x6 + 1) (lv' := [(6, .int (x6 + 1)), (5, .int ((x5 * (10 : Int32)) + r1)), (4, .int t0), (0, .ref (gA g 26 0)), (1, rfv (gA g) 6 x1), (2, .int x2)]) hC.1 hC.2.1 dX1_replies_121 hl (k := 5) rfl rfl (by decide) rfl (fun ls hl => ?_)
  refine lv_goto (tgt := 74) hC.1 hC.2.1 dX1_replies_124 (by decide) ?_
  exact hk74 _ _ _ _ _ _ h _ _ _ _ hH hS (lv_sub hl [3, 4, 5, 2, 1, 0] rfl)
def F_X1_replies_174 (n : Nat)  (x4 : Int32) (C : St) : Option (Int32 × St) := gd (isb x4) (some (x4, C))
set_option maxHeartbeats 4000000 in
set_option maxRecDepth 100000 in
theorem B_X1_replies_174 {p : Program} {l : Launch} {e : Env} {s : State} {m : MethodId} {args : Array Value} {below : List Frame} {meth : Method} {c : Code} {g : GP} {Z : St} (hC : CX p s m args c cX1_replies RX1 g) (hE : EZ g s s.heap) (hml : c.maxLocals = 7) (hr : meth.sig.returnType = (some .boolean)) (hlk : meth.locks = false) {r : Int32} {C2 : St} {x4 : Int32} {C : St} (h : F_X1_replies_174 (gn g)  x4 C = some (r, C2)) {ed : Nat → Nat} {H : Heap} {locs : List Loc} {ls : Array Slot} (hH : HW g ed C Z H) (hS : va_S (gP g) s.heap H locs) (hl : lv_has ls 7 [(4, .int x4)]) : W p l e ({ frames := 2, cells := 0, slots := 0, locals := 47 } : Room) s m args below meth c H locs 0 0 (MQ below (QG (some (.int r)) g C2 Z) args s 0 0 (gP g)) (F0 m 174 ls []) := by
  unfold F_X1_replies_174 at h
  refine lv_iload hC.1 hC.2.1 dX1_replies_174 (lv_at hl 0 rfl) ?_
  obtain ⟨hg1, h⟩ := gd_some h
  cases h
  exact gret_z hC hr hlk hg1 hH hS (Nat.le_of_ble_eq_true rfl) (Nat.le_of_ble_eq_true rfl) dX1_replies_176
def F_X1_replies_146 (n : Nat)  (x1 : Int32) (x4 : Int32) (t0 : Int32) (t1 : Int32) (C : St) : Option (Int32 × St) := gd (inb t1 6) (st (up C 6 t1.toNatClampNeg 13 0 t0) (fun D2 => gd (inb x1 6) (bd2 (F_X2_complete n x1 ((D2 6 x1.toNatClampNeg 12 0) + (1 : Int32)) D2) (fun r5 D6 => bd2 (F_X7_wake n (D6 6 x1.toNatClampNeg 0 0) D6) (fun r8 D9 => F_X1_replies_174 n x4 D9)))))
set_option maxHeartbeats 4000000 in
set_option maxRecDepth 100000 in
theorem B_X1_replies_146 {p : Program} {l : Launch} {e : Env} {s : State} {m : MethodId} {args : Array Value} {below : List Frame} {meth : Method} {c : Code} {g : GP} {Z : St} (hC : CX p s m args c cX1_replies RX1 g) (hE : EZ g s s.heap) (hml : c.maxLocals = 7) (hr : meth.sig.returnType = (some .boolean)) (hlk : meth.locks = false) {r : Int32} {C2 : St} {x1 : Int32} {x4 : Int32} {t0 : Int32} {t1 : Int32} {C : St} (h : F_X1_replies_146 (gn g)  x1 x4 t0 t1 C = some (r, C2)) {ed : Nat → Nat} {H : Heap} {locs : List Loc} {ls : Array Slot} (hH : HW g ed C Z H) (hS : va_S (gP g) s.heap H locs) (hl : lv_has ls 7 [(0, .ref (gA g 26 0)), (1, rfv (gA g) 6 x1), (4, .int x4)]) : W p l e ({ frames := 2, cells := 0, slots := 0, locals := 47 } : Room) s m args below meth c H locs 0 0 (MQ below (QG (some (.int r)) g C2 Z) args s 0 0 (gP g)) (F0 m 146 ls [.int t0, rfv (gA g) 6 t1]) := by
  unfold F_X1_replies_146 at h
  obtain ⟨hg1, h⟩ := gd_some h
  obtain ⟨D2, e3, h⟩ := st_some h
  refine pf_RX1_136 hC hH hS (inb_lt hg1)  (rfv_in hg1) dX1_replies_146 (fun H locs hH hS => ?_)
  rw [← e3] at hH
  refine lv_aload_n hC.1 hC.2.1 dX1_replies_149 rfl (lv_at hl 0 rfl) ?_
  refine gf_RX1_31 hC hH rfl dX1_replies_150 ?_
  refine gl_aload_n hC dX1_replies_153 rfl (lv_at hl 1 rfl) ?_
  refine gl_aload_n hC dX1_replies_154 rfl (lv_at hl 1 rfl) ?_
  obtain ⟨hg4, h⟩ := gd_some h
  refine gf_RX1_139 hC hH (inb_lt hg4) (rfv_in hg4) dX1_replies_155 ?_
  refine lv_iconst (v := (1 : Int32)) hC.1 hC.2.1 dX1_replies_158 (by decide) ?_
  refine lv_iadd hC.1 hC.2.1 dX1_replies_159 ?_
  obtain ⟨r5, D6, hF7, h⟩ := bd2_some h
  refine gcallV (As := [rfv (gA g) 6 x1, .int ((D2 6 x1.toNatClampNeg 12 0) + (1 : Int32))]) (rest := []) (Cn := RX2) hC hE hml hH hS (c_X2_complete hF7) ⟨wd_983, wd_719, wd_720, wd_6, wd_721⟩ hd_X2_complete rfl rfl ⟨Nat.le_of_ble_eq_true rfl, Nat.le_of_ble_eq_true rfl⟩ rfl (hw_recv (q := 12) (i := 0) hC hH ⟨Nat.zero_lt_one, fun h => absurd h (by decide)⟩ rfl rfl) rfl hl.1 rfl (Nat.le_of_ble_eq_true rfl) dX1_replies_160 ⟨Nat.le_of_ble_eq_true rfl, Nat.le_of_ble_eq_true rfl⟩ (fun ed H locs hH hS => ?_)
  refine W.eq (g2 := F0 m 163 ls []) rfl ?_
  refine lv_aload_n hC.1 hC.2.1 dX1_replies_163 rfl (lv_at hl 0 rfl) ?_
  refine gf_RX1_27 hC hH rfl dX1_replies_164 ?_
  refine gl_aload_n hC dX1_replies_167 rfl (lv_at hl 1 rfl) ?_
  refine gf_RX1_117 hC hH (inb_lt hg4) (rfv_in hg4) dX1_replies_168 ?_
  obtain ⟨r8, D9, hF10, h⟩ := bd2_some h
  refine gcallV (As := [.int (D6 6 x1.toNatClampNeg 0 0)]) (rest := []) (Cn := RX7) hC hE hml hH hS (c_X7_wake hF10) ⟨wd_969, wd_723, wd_724, wd_2, wd_725⟩ hd_X7_wake rfl rfl ⟨Nat.le_of_ble_eq_true rfl, Nat.le_of_ble_eq_true rfl⟩ rfl (hw_recv (q := 1) (i := 0) hC hH ⟨Nat.zero_lt_one, fun h => absurd h (by decide)⟩ rfl rfl) rfl hl.1 rfl (Nat.le_of_ble_eq_true rfl) dX1_replies_171 ⟨Nat.le_of_ble_eq_true rfl, Nat.le_of_ble_eq_true rfl⟩ (fun ed H locs hH hS => ?_)
  refine W.eq (g2 := F0 m 174 ls []) rfl ?_
  exact B_X1_replies_174 hC hE hml hr hlk h hH hS (lv_sub hl [2] rfl)
def F_X1_replies_127 (n : Nat)  (x1 : Int32) (x2 : Int32) (x4 : Int32) (x5 : Int32) (C : St) : Option (Int32 × St) := if x4 = 0 then (F_X1_replies_174 n x4 C) else (if x2 = (4 : Int32) then (F_X1_replies_146 n x1 x4 (-x5) x1 C) else (F_X1_replies_146 n x1 x4 x5 x1 C))
set_option maxHeartbeats 4000000 in
set_option maxRecDepth 100000 in
theorem B_X1_replies_127 {p : Program} {l : Launch} {e : Env} {s : State} {m : MethodId} {args : Array Value} {below : List Frame} {meth : Method} {c : Code} {g : GP} {Z : St} (hC : CX p s m args c cX1_replies RX1 g) (hE : EZ g s s.heap) (hml : c.maxLocals = 7) (hr : meth.sig.returnType = (some .boolean)) (hlk : meth.locks = false) {r : Int32} {C2 : St} {x1 : Int32} {x2 : Int32} {x4 : Int32} {x5 : Int32} {C : St} (h : F_X1_replies_127 (gn g)  x1 x2 x4 x5 C = some (r, C2)) {ed : Nat → Nat} {H : Heap} {locs : List Loc} {ls : Array Slot} (hH : HW g ed C Z H) (hS : va_S (gP g) s.heap H locs) (hl : lv_has ls 7 [(0, .ref (gA g 26 0)), (1, rfv (gA g) 6 x1), (2, .int x2), (4, .int x4), (5, .int x5)]) : W p l e ({ frames := 2, cells := 0, slots := 0, locals := 47 } : Room) s m args below meth c H locs 0 0 (MQ below (QG (some (.int r)) g C2 Z) args s 0 0 (gP g)) (F0 m 127 ls []) := by
  unfold F_X1_replies_127 at h
  refine lv_iload hC.1 hC.2.1 dX1_replies_127 (lv_at hl 3 rfl) ?_
  refine lv_if_eq (tgt := 174) hC.1 hC.2.1 dX1_replies_129 (by decide) (fun hc1 => ?_) (fun hc1 => ?_)
  · rw [if_pos hc1] at h
    exact B_X1_replies_174 hC hE hml hr hlk h hH hS (lv_sub hl [3] rfl)
  · rw [if_neg hc1] at h
    refine gl_aload_n hC dX1_replies_132 rfl (lv_at hl 1 rfl) ?_
    refine lv_iload_n hC.1 hC.2.1 dX1_replies_133 rfl (lv_at hl 2 rfl) ?_
    refine lv_iconst (v := (4 : Int32)) hC.1 hC.2.1 dX1_replies_134 (by decide) ?_
    refine lv_icmp_ne (tgt := 144) hC.1 hC.2.1 dX1_replies_135 (by decide) (fun hc2 => ?_) (fun hc2 => ?_)
    · rw [if_neg hc2] at h
      refine lv_iload hC.1 hC.2.1 dX1_replies_144 (lv_at hl 4 rfl) ?_
      exact B_X1_replies_146 hC hE hml hr hlk h hH hS (lv_sub hl [0, 1, 3] rfl)
    · rw [if_pos hc2] at h
      refine lv_iload hC.1 hC.2.1 dX1_replies_138 (lv_at hl 4 rfl) ?_
      refine lv_ineg hC.1 hC.2.1 dX1_replies_140 ?_
      refine lv_goto (tgt := 146) hC.1 hC.2.1 dX1_replies_141 (by decide) ?_
      exact B_X1_replies_146 hC hE hml hr hlk h hH hS (lv_sub hl [0, 1, 3] rfl)
def F_X1_replies_74 (n : Nat)  : Nat → Int32 → Int32 → Int32 → Int32 → Int32 → St → Option (Int32 × St)
  | 0, _, _, _, _, _, _ => none
  | fu + 1, x1, x2, x4, x5, x6, C => if x4 = 0 then (F_X1_replies_127 n x1 x2 x4 x5 C) else (gd (inb (0 : Int32) 8) (if (C 31 0 0 (0 : Int32).toNatClampNeg) ≤ x6 then (F_X1_replies_127 n x1 x2 x4 x5 C) else (bd2 (F_X1_digitAt n x6 C) (fun r4 D5 => if r4 = (-1 : Int32) then (F_X1_replies_105 n (F_X1_replies_74 n fu) x1 x2 x5 x6 (0 : Int32) D5) else (F_X1_replies_105 n (F_X1_replies_74 n fu) x1 x2 x5 x6 (1 : Int32) D5)))))
set_option maxHeartbeats 4000000 in
set_option maxRecDepth 100000 in
theorem B_X1_replies_74 {p : Program} {l : Launch} {e : Env} {s : State} {m : MethodId} {args : Array Value} {below : List Frame} {meth : Method} {c : Code} {g : GP} {Z : St} (hC : CX p s m args c cX1_replies RX1 g) (hE : EZ g s s.heap) (hml : c.maxLocals = 7) (hr : meth.sig.returnType = (some .boolean)) (hlk : meth.locks = false) {r : Int32} {C2 : St} : ∀ (fu : Nat) (x1 : Int32) (x2 : Int32) (x4 : Int32) (x5 : Int32) (x6 : Int32) (C : St), F_X1_replies_74 (gn g)  fu x1 x2 x4 x5 x6 C = some (r, C2) → ∀ (ed : Nat → Nat) (H : Heap) (locs : List Loc) (ls : Array Slot), HW g ed C Z H → va_S (gP g) s.heap H locs → lv_has ls 7 [(0, .ref (gA g 26 0)), (1, rfv (gA g) 6 x1), (2, .int x2), (4, .int x4), (5, .int x5), (6, .int x6)] → W p l e ({ frames := 2, cells := 0, slots := 0, locals := 47 } : Room) s m args below meth c H locs 0 0 (MQ below (QG (some (.int r)) g C2 Z) args s 0 0 (gP g)) (F0 m 74 ls []) := by
  intro fu
  induction fu with
  | zero =>
    intro x1 x2 x4 x5 x6 C h
    cases h
  | succ fu ih =>
    intro x1 x2 x4 x5 x6 C h ed H locs ls hH hS hl
    rw [F_X1_replies_74] at h
    refine lv_iload hC.1 hC.2.1 dX1_replies_74 (lv_at hl 3 rfl) ?_
    refine lv_if_eq (tgt := 127) hC.1 hC.2.1 dX1_replies_76 (by decide) (fun hc1 => ?_) (fun hc1 => ?_)
    · rw [if_pos hc1] at h
      exact B_X1_replies_127 hC hE hml hr hlk h hH hS (lv_sub hl [0, 1, 2, 3, 4] rfl)
    · rw [if_neg hc1] at h
      refine lv_iload hC.1 hC.2.1 dX1_replies_79 (lv_at hl 5 rfl) ?_
      refine lv_aload_n hC.1 hC.2.1 dX1_replies_81 rfl (lv_at hl 0 rfl) ?_
      refine gf_RX1_23 hC hH rfl dX1_replies_82 ?_
      refine lv_iconst (v := (0 : Int32)) hC.1 hC.2.1 dX1_replies_85 (by decide) ?_
      obtain ⟨hg2, h⟩ := gd_some h
      refine al_31 hC hH hg2 rfl dX1_replies_86 ?_
      refine lv_icmp_ge (tgt := 127) hC.1 hC.2.1 dX1_replies_87 (by decide) (fun hc3 => ?_) (fun hc3 => ?_)
      · rw [if_pos hc3] at h
        exact B_X1_replies_127 hC hE hml hr hlk h hH hS (lv_sub hl [0, 1, 2, 3, 4] rfl)
      · rw [if_neg hc3] at h
        refine lv_aload_n hC.1 hC.2.1 dX1_replies_90 rfl (lv_at hl 0 rfl) ?_
        refine lv_iload hC.1 hC.2.1 dX1_replies_91 (lv_at hl 5 rfl) ?_
        obtain ⟨r4, D5, hF6, h⟩ := bd2_some h
        refine gcallV (As := [.int x6]) (rest := []) (Cn := RX1) hC hE hml hH hS (c_X1_digitAt hF6) ⟨wd_952, wd_954, wp_24, wd_15, wd_955⟩ hd_X1_digitAt rfl rfl ⟨Nat.le_of_ble_eq_true rfl, Nat.le_of_ble_eq_true rfl⟩ rfl (hw_recv (q := 26) (i := 0) hC hH ⟨Nat.zero_lt_one, fun h => absurd h (by decide)⟩ rfl rfl) rfl hl.1 rfl (Nat.le_of_ble_eq_true rfl) dX1_replies_93 ⟨Nat.le_of_ble_eq_true rfl, Nat.le_of_ble_eq_true rfl⟩ (fun ed H locs hH hS => ?_)
        refine W.eq (g2 := F0 m 96 ls [.int r4]) rfl ?_
        refine lv_iconst (v := (-1 : Int32)) hC.1 hC.2.1 dX1_replies_96 (by decide) ?_
        refine lv_icmp_eq (tgt := 104) hC.1 hC.2.1 dX1_replies_97 (by decide) (fun hc7 => ?_) (fun hc7 => ?_)
        · rw [if_pos hc7] at h
          refine lv_iconst (v := (0 : Int32)) hC.1 hC.2.1 dX1_replies_104 (by decide) ?_
          exact B_X1_replies_105 hC hE hml hr hlk ih h hH hS (lv_sub hl [0, 1, 2, 4, 5] rfl)
        · rw [if_neg hc7] at h
          refine lv_iconst (v := (1 : Int32)) hC.1 hC.2.1 dX1_replies_100 (by decide) ?_
          refine lv_goto (tgt := 105) hC.1 hC.2.1 dX1_replies_101 (by decide) ?_
          exact B_X1_replies_105 hC hE hml hr hlk ih h hH hS (lv_sub hl [0, 1, 2, 4, 5] rfl)
def F_X1_replies_66 (n : Nat)  (x1 : Int32) (x2 : Int32) (t0 : Int32) (C : St) : Option (Int32 × St) := F_X1_replies_74 n 1000 x1 x2 t0 (0 : Int32) x2 C
set_option maxHeartbeats 4000000 in
set_option maxRecDepth 100000 in
theorem B_X1_replies_66 {p : Program} {l : Launch} {e : Env} {s : State} {m : MethodId} {args : Array Value} {below : List Frame} {meth : Method} {c : Code} {g : GP} {Z : St} (hC : CX p s m args c cX1_replies RX1 g) (hE : EZ g s s.heap) (hml : c.maxLocals = 7) (hr : meth.sig.returnType = (some .boolean)) (hlk : meth.locks = false) {r : Int32} {C2 : St} {x1 : Int32} {x2 : Int32} {t0 : Int32} {C : St} (h : F_X1_replies_66 (gn g)  x1 x2 t0 C = some (r, C2)) {ed : Nat → Nat} {H : Heap} {locs : List Loc} {ls : Array Slot} (hH : HW g ed C Z H) (hS : va_S (gP g) s.heap H locs) (hl : lv_has ls 7 [(0, .ref (gA g 26 0)), (1, rfv (gA g) 6 x1), (2, .int x2)]) : W p l e ({ frames := 2, cells := 0, slots := 0, locals := 47 } : Room) s m args below meth c H locs 0 0 (MQ below (QG (some (.int r)) g C2 Z) args s 0 0 (gP g)) (F0 m 66 ls [.int t0]) := by
  unfold F_X1_replies_66 at h
  refine lv_istore (lv' := [(4, .int t0), (0, .ref (gA g 26 0)), (1, rfv (gA g) 6 x1), (2, .int x2)]) hC.1 hC.2.1 dX1_replies_66 hl (by decide) rfl (fun ls hl => ?_)
  refine lv_iconst (v := (0 : Int32)) hC.1 hC.2.1 dX1_replies_68 (by decide) ?_
  refine lv_istore (lv' := [(5, .int (0 : Int32)), (4, .int t0), (0, .ref (gA g 26 0)), (1, rfv (gA g) 6 x1), (2, .int x2)]) hC.1 hC.2.1 dX1_replies_69 hl (by decide) rfl (fun ls hl => ?_)
  refine lv_iload_n hC.1 hC.2.1 dX1_replies_71 rfl (lv_at hl 4 rfl) ?_
  refine lv_istore (lv' := [(6, .int x2), (5, .int (0 : Int32)), (4, .int t0), (0, .ref (gA g 26 0)), (1, rfv (gA g) 6 x1), (2, .int x2)]) hC.1 hC.2.1 dX1_replies_72 hl (by decide) rfl (fun ls hl => ?_)
  exact B_X1_replies_74 hC hE hml hr hlk 1000 _ _ _ _ _ _ h _ _ _ _ hH hS (lv_sub hl [3, 4, 5, 2, 1, 0] rfl)
def F_X1_replies_65 (n : Nat)  (x1 : Int32) (x2 : Int32) (C : St) : Option (Int32 × St) := F_X1_replies_66 n x1 x2 (0 : Int32) C
set_option maxHeartbeats 4000000 in
set_option maxRecDepth 100000 in
theorem B_X1_replies_65 {p : Program} {l : Launch} {e : Env} {s : State} {m : MethodId} {args : Array Value} {below : List Frame} {meth : Method} {c : Code} {g : GP} {Z : St} (hC : CX p s m args c cX1_replies RX1 g) (hE : EZ g s s.heap) (hml : c.maxLocals = 7) (hr : meth.sig.returnType = (some .boolean)) (hlk : meth.locks = false) {r : Int32} {C2 : St} {x1 : Int32} {x2 : Int32} {C : St} (h : F_X1_replies_65 (gn g)  x1 x2 C = some (r, C2)) {ed : Nat → Nat} {H : Heap} {locs : List Loc} {ls : Array Slot} (hH : HW g ed C Z H) (hS : va_S (gP g) s.heap H locs) (hl : lv_has ls 7 [(0, .ref (gA g 26 0)), (1, rfv (gA g) 6 x1), (2, .int x2)]) : W p l e ({ frames := 2, cells := 0, slots := 0, locals := 47 } : Room) s m args below meth c H locs 0 0 (MQ below (QG (some (.int r)) g C2 Z) args s 0 0 (gP g)) (F0 m 65 ls []) := by
  unfold F_X1_replies_65 at h
  refine lv_iconst (v := (0 : Int32)) hC.1 hC.2.1 dX1_replies_65 (by decide) ?_
  exact B_X1_replies_66 hC hE hml hr hlk h hH hS (lv_sub hl [0, 1, 2] rfl)
def F_X1_replies_15 (n : Nat)  (x1 : Int32) (t0 : Int32) (C : St) : Option (Int32 × St) := gd (inb (0 : Int32) 8) (bd2 (F_X1_signAt n (2 : Int32) C) (fun r2 D3 => if r2 = (32 : Int32) then (if ((C 31 0 0 (0 : Int32).toNatClampNeg) - t0) < (1 : Int32) then (F_X1_replies_65 n x1 t0 D3) else (if (9 : Int32) < ((C 31 0 0 (0 : Int32).toNatClampNeg) - t0) then (F_X1_replies_65 n x1 t0 D3) else (gd (inb x1 6) (bd2 (F_X7_causeOf n (D3 6 x1.toNatClampNeg 0 0) D3) (fun r9 D10 => if r9 = (5 : Int32) then (F_X1_replies_66 n x1 t0 (1 : Int32) D10) else (F_X1_replies_65 n x1 t0 D10)))))) else (F_X1_replies_65 n x1 t0 D3)))
set_option maxHeartbeats 4000000 in
set_option maxRecDepth 100000 in
theorem B_X1_replies_15 {p : Program} {l : Launch} {e : Env} {s : State} {m : MethodId} {args : Array Value} {below : List Frame} {meth : Method} {c : Code} {g : GP} {Z : St} (hC : CX p s m args c cX1_replies RX1 g) (hE : EZ g s s.heap) (hml : c.maxLocals = 7) (hr : meth.sig.returnType = (some .boolean)) (hlk : meth.locks = false) {r : Int32} {C2 : St} {x1 : Int32} {t0 : Int32} {C : St} (h : F_X1_replies_15 (gn g)  x1 t0 C = some (r, C2)) {ed : Nat → Nat} {H : Heap} {locs : List Loc} {ls : Array Slot} (hH : HW g ed C Z H) (hS : va_S (gP g) s.heap H locs) (hl : lv_has ls 7 [(0, .ref (gA g 26 0)), (1, rfv (gA g) 6 x1)]) : W p l e ({ frames := 2, cells := 0, slots := 0, locals := 47 } : Room) s m args below meth c H locs 0 0 (MQ below (QG (some (.int r)) g C2 Z) args s 0 0 (gP g)) (F0 m 15 ls [.int t0]) := by
  unfold F_X1_replies_15 at h
  refine lv_istore_n (i := 2) (lv' := [(2, .int t0), (0, .ref (gA g 26 0)), (1, rfv (gA g) 6 x1)]) hC.1 hC.2.1 dX1_replies_15 rfl hl (by decide) (by simp [rfv_cat]) (fun ls hl => ?_)
  refine lv_aload_n hC.1 hC.2.1 dX1_replies_16 rfl (lv_at hl 1 rfl) ?_
  refine gf_RX1_23 hC hH rfl dX1_replies_17 ?_
  refine lv_iconst (v := (0 : Int32)) hC.1 hC.2.1 dX1_replies_20 (by decide) ?_
  obtain ⟨hg1, h⟩ := gd_some h
  refine al_31 hC hH hg1 rfl dX1_replies_21 ?_
  refine lv_iload_n hC.1 hC.2.1 dX1_replies_22 rfl (lv_at hl 0 rfl) ?_
  refine lv_isub hC.1 hC.2.1 dX1_replies_23 ?_
  refine lv_istore_n (i := 3) (lv' := [(3, .int ((C 31 0 0 (0 : Int32).toNatClampNeg) - t0)), (2, .int t0), (0, .ref (gA g 26 0)), (1, rfv (gA g) 6 x1)]) hC.1 hC.2.1 dX1_replies_24 rfl hl (by decide) rfl (fun ls hl => ?_)
  refine lv_aload_n hC.1 hC.2.1 dX1_replies_25 rfl (lv_at hl 2 rfl) ?_
  refine lv_iconst (v := (2 : Int32)) hC.1 hC.2.1 dX1_replies_26 (by decide) ?_
  obtain ⟨r2, D3, hF4, h⟩ := bd2_some h
  refine gcallV (As := [.int (2 : Int32)]) (rest := []) (Cn := RX1) hC hE hml hH hS (c_X1_signAt hF4) ⟨wd_956, wd_958, wp_25, wd_15, wd_959⟩ hd_X1_signAt rfl rfl ⟨Nat.le_of_ble_eq_true rfl, Nat.le_of_ble_eq_true rfl⟩ rfl (hw_recv (q := 26) (i := 0) hC hH ⟨Nat.zero_lt_one, fun h => absurd h (by decide)⟩ rfl rfl) rfl hl.1 rfl (Nat.le_of_ble_eq_true rfl) dX1_replies_27 ⟨Nat.le_of_ble_eq_true rfl, Nat.le_of_ble_eq_true rfl⟩ (fun ed H locs hH hS => ?_)
  refine W.eq (g2 := F0 m 30 ls [.int r2]) rfl ?_
  refine lv_bipush (v := (32 : Int32)) hC.1 hC.2.1 dX1_replies_30 (by decide) ?_
  refine lv_icmp_ne (tgt := 65) hC.1 hC.2.1 dX1_replies_32 (by decide) (fun hc5 => ?_) (fun hc5 => ?_)
  · rw [if_neg hc5] at h
    exact B_X1_replies_65 hC hE hml hr hlk h hH hS (lv_sub hl [2, 3, 1] rfl)
  · rw [if_pos hc5] at h
    refine lv_iload_n hC.1 hC.2.1 dX1_replies_35 rfl (lv_at hl 0 rfl) ?_
    refine lv_iconst (v := (1 : Int32)) hC.1 hC.2.1 dX1_replies_36 (by decide) ?_
    refine lv_icmp_lt (tgt := 65) hC.1 hC.2.1 dX1_replies_37 (by decide) (fun hc6 => ?_) (fun hc6 => ?_)
    · rw [if_pos hc6] at h
      exact B_X1_replies_65 hC hE hml hr hlk h hH hS (lv_sub hl [2, 3, 1] rfl)
    · rw [if_neg hc6] at h
      refine lv_iload_n hC.1 hC.2.1 dX1_replies_40 rfl (lv_at hl 0 rfl) ?_
      refine lv_bipush (v := (9 : Int32)) hC.1 hC.2.1 dX1_replies_41 (by decide) ?_
      refine lv_icmp_gt (tgt := 65) hC.1 hC.2.1 dX1_replies_43 (by decide) (fun hc7 => ?_) (fun hc7 => ?_)
      · rw [if_pos hc7] at h
        exact B_X1_replies_65 hC hE hml hr hlk h hH hS (lv_sub hl [2, 3, 1] rfl)
      · rw [if_neg hc7] at h
        refine lv_aload_n hC.1 hC.2.1 dX1_replies_46 rfl (lv_at hl 2 rfl) ?_
        refine gf_RX1_27 hC hH rfl dX1_replies_47 ?_
        refine gl_aload_n hC dX1_replies_50 rfl (lv_at hl 3 rfl) ?_
        obtain ⟨hg8, h⟩ := gd_some h
        refine gf_RX1_117 hC hH (inb_lt hg8) (rfv_in hg8) dX1_replies_51 ?_
        obtain ⟨r9, D10, hF11, h⟩ := bd2_some h
        refine gcallV (As := [.int (D3 6 x1.toNatClampNeg 0 0)]) (rest := []) (Cn := RX7) hC hE hml hH hS (c_X7_causeOf hF11) ⟨wd_974, wd_937, wd_938, wd_2, wd_939⟩ hd_X7_causeOf rfl rfl ⟨Nat.le_of_ble_eq_true rfl, Nat.le_of_ble_eq_true rfl⟩ rfl (hw_recv (q := 1) (i := 0) hC hH ⟨Nat.zero_lt_one, fun h => absurd h (by decide)⟩ rfl rfl) rfl hl.1 rfl (Nat.le_of_ble_eq_true rfl) dX1_replies_54 ⟨Nat.le_of_ble_eq_true rfl, Nat.le_of_ble_eq_true rfl⟩ (fun ed H locs hH hS => ?_)
        refine W.eq (g2 := F0 m 57 ls [.int r9]) rfl ?_
        refine lv_iconst (v := (5 : Int32)) hC.1 hC.2.1 dX1_replies_57 (by decide) ?_
        refine lv_icmp_ne (tgt := 65) hC.1 hC.2.1 dX1_replies_58 (by decide) (fun hc12 => ?_) (fun hc12 => ?_)
        · rw [if_neg hc12] at h
          exact B_X1_replies_65 hC hE hml hr hlk h hH hS (lv_sub hl [2, 3, 1] rfl)
        · rw [if_pos hc12] at h
          refine lv_iconst (v := (1 : Int32)) hC.1 hC.2.1 dX1_replies_61 (by decide) ?_
          refine lv_goto (tgt := 66) hC.1 hC.2.1 dX1_replies_62 (by decide) ?_
          exact B_X1_replies_66 hC hE hml hr hlk h hH hS (lv_sub hl [2, 3, 1] rfl)
def F_X1_replies (n : Nat) (x1 : Int32) (C : St) : Option (Int32 × St) := bd2 (F_X1_signAt n (3 : Int32) C) (fun r1 D2 => if r1 = (45 : Int32) then (F_X1_replies_15 n x1 (4 : Int32) D2) else (F_X1_replies_15 n x1 (3 : Int32) D2))
set_option maxHeartbeats 4000000 in
set_option maxRecDepth 100000 in
theorem c_X1_replies {l : Launch} {g : GP} {ed : Nat → Nat} {Z : St} {x1 : Int32} {C : St} {r : Int32} {C2 : St} (h : F_X1_replies (gn g) x1 C = some (r, C2)) : Met l yX1_replies (Cond.code yX1_replies cX1_replies 7 (some .boolean) :: lwG) ({ frames := 2, cells := 0, slots := 0, locals := 47 } : Room) (va_Pc [.ref (gA g 26 0), rfv (gA g) 6 x1] (PW g C Z ed)) (QG (some (.int r)) g C2 Z) 0 0 (gP g) := by
  refine Met.ofW (cc := cX1_replies) (maxL := 7) (ret := (some .boolean)) (by decide +kernel) rfl ?_
  intro p e s m args below meth c s₁ B hml hv
  obtain ⟨ha, hC, hE, hr, hlk, hH⟩ := g_start B hv
  subst ha
  have hC : CX p s m ([.ref (gA g 26 0), rfv (gA g) 6 x1] : List Value).toArray c cX1_replies RX1 g := hC
  have hS : va_S (gP g) s.heap s.heap [] := va_S.rf
  obtain ⟨ls, he, hl⟩ := g_entry m (vs := [.ref (gA g 26 0), rfv (gA g) 6 x1]) (n := 7) (List.forall_mem_cons.mpr ⟨rfl, (List.forall_mem_cons.mpr ⟨rfv_cat, (fun _ h => absurd h List.not_mem_nil)⟩)⟩) (Nat.le_of_ble_eq_true rfl)
  rw [he]
  have hl : lv_has ls 7 [(0, .ref (gA g 26 0)), (1, rfv (gA g) 6 x1)] := hl
  unfold F_X1_replies at h
  refine lv_aload_n hC.1 hC.2.1 dX1_replies_0 rfl (lv_at hl 0 rfl) ?_
  refine lv_iconst (v := (3 : Int32)) hC.1 hC.2.1 dX1_replies_1 (by decide) ?_
  obtain ⟨r1, D2, hF3, h⟩ := bd2_some h
  refine gcallV (As := [.int (3 : Int32)]) (rest := []) (Cn := RX1) hC hE hml hH hS (c_X1_signAt hF3) ⟨wd_956, wd_958, wp_25, wd_15, wd_959⟩ hd_X1_signAt rfl rfl ⟨Nat.le_of_ble_eq_true rfl, Nat.le_of_ble_eq_true rfl⟩ rfl (hw_recv (q := 26) (i := 0) hC hH ⟨Nat.zero_lt_one, fun h => absurd h (by decide)⟩ rfl rfl) rfl hl.1 rfl (Nat.le_of_ble_eq_true rfl) dX1_replies_2 ⟨Nat.le_of_ble_eq_true rfl, Nat.le_of_ble_eq_true rfl⟩ (fun ed H locs hH hS => ?_)
  refine W.eq (g2 := F0 m 5 ls [.int r1]) rfl ?_
  refine lv_bipush (v := (45 : Int32)) hC.1 hC.2.1 dX1_replies_5 (by decide) ?_
  refine lv_icmp_ne (tgt := 14) hC.1 hC.2.1 dX1_replies_7 (by decide) (fun hc4 => ?_) (fun hc4 => ?_)
  · rw [if_neg hc4] at h
    refine lv_iconst (v := (3 : Int32)) hC.1 hC.2.1 dX1_replies_14 (by decide) ?_
    exact B_X1_replies_15 hC hE hml hr hlk h hH hS (lv_sub hl [0, 1] rfl)
  · rw [if_pos hc4] at h
    refine lv_iconst (v := (4 : Int32)) hC.1 hC.2.1 dX1_replies_10 (by decide) ?_
    refine lv_goto (tgt := 15) hC.1 hC.2.1 dX1_replies_11 (by decide) ?_
    exact B_X1_replies_15 hC hE hml hr hlk h hH hS (lv_sub hl [0, 1] rfl)
def F_X1_obeys_93 (n : Nat)  (t0 : Int32) (C : St) : Option (Int32 × St) := gd (isb t0) (some (t0, C))
set_option maxHeartbeats 4000000 in
set_option maxRecDepth 100000 in
theorem B_X1_obeys_93 {p : Program} {l : Launch} {e : Env} {s : State} {m : MethodId} {args : Array Value} {below : List Frame} {meth : Method} {c : Code} {g : GP} {Z : St} (hC : CX p s m args c cX1_obeys RX1 g) (hE : EZ g s s.heap) (hml : c.maxLocals = 3) (hr : meth.sig.returnType = (some .boolean)) (hlk : meth.locks = false) {r : Int32} {C2 : St} {t0 : Int32} {C : St} (h : F_X1_obeys_93 (gn g)  t0 C = some (r, C2)) {ed : Nat → Nat} {H : Heap} {locs : List Loc} {ls : Array Slot} (hH : HW g ed C Z H) (hS : va_S (gP g) s.heap H locs) (hl : lv_has ls 3 []) : W p l e ({ frames := 5, cells := 0, slots := 0, locals := 150 } : Room) s m args below meth c H locs 0 0 (MQ below (QG (some (.int r)) g C2 Z) args s 0 0 (gP g)) (F0 m 93 ls [.int t0]) := by
  unfold F_X1_obeys_93 at h
  obtain ⟨hg1, h⟩ := gd_some h
  cases h
  exact gret_z hC hr hlk hg1 hH hS (Nat.le_of_ble_eq_true rfl) (Nat.le_of_ble_eq_true rfl) dX1_obeys_93
def F_X1_obeys_92 (n : Nat)   (C : St) : Option (Int32 × St) := F_X1_obeys_93 n (0 : Int32) C
set_option maxHeartbeats 4000000 in
set_option maxRecDepth 100000 in
theorem B_X1_obeys_92 {p : Program} {l : Launch} {e : Env} {s : State} {m : MethodId} {args : Array Value} {below : List Frame} {meth : Method} {c : Code} {g : GP} {Z : St} (hC : CX p s m args c cX1_obeys RX1 g) (hE : EZ g s s.heap) (hml : c.maxLocals = 3) (hr : meth.sig.returnType = (some .boolean)) (hlk : meth.locks = false) {r : Int32} {C2 : St}  {C : St} (h : F_X1_obeys_92 (gn g)   C = some (r, C2)) {ed : Nat → Nat} {H : Heap} {locs : List Loc} {ls : Array Slot} (hH : HW g ed C Z H) (hS : va_S (gP g) s.heap H locs) (hl : lv_has ls 3 []) : W p l e ({ frames := 5, cells := 0, slots := 0, locals := 150 } : Room) s m args below meth c H locs 0 0 (MQ below (QG (some (.int r)) g C2 Z) args s 0 0 (gP g)) (F0 m 92 ls []) := by
  unfold F_X1_obeys_92 at h
  refine lv_iconst (v := (0 : Int32)) hC.1 hC.2.1 dX1_obeys_92 (by decide) ?_
  exact B_X1_obeys_93 hC hE hml hr hlk h hH hS (lv_sub hl [] rfl)
def F_X1_obeys_111 (n : Nat)  (t0 : Int32) (C : St) : Option (Int32 × St) := gd (isb t0) (some (t0, C))
set_option maxHeartbeats 4000000 in
set_option maxRecDepth 100000 in
theorem B_X1_obeys_111 {p : Program} {l : Launch} {e : Env} {s : State} {m : MethodId} {args : Array Value} {below : List Frame} {meth : Method} {c : Code} {g : GP} {Z : St} (hC : CX p s m args c cX1_obeys RX1 g) (hE : EZ g s s.heap) (hml : c.maxLocals = 3) (hr : meth.sig.returnType = (some .boolean)) (hlk : meth.locks = false) {r : Int32} {C2 : St} {t0 : Int32} {C : St} (h : F_X1_obeys_111 (gn g)  t0 C = some (r, C2)) {ed : Nat → Nat} {H : Heap} {locs : List Loc} {ls : Array Slot} (hH : HW g ed C Z H) (hS : va_S (gP g) s.heap H locs) (hl : lv_has ls 3 []) : W p l e ({ frames := 5, cells := 0, slots := 0, locals := 150 } : Room) s m args below meth c H locs 0 0 (MQ below (QG (some (.int r)) g C2 Z) args s 0 0 (gP g)) (F0 m 111 ls [.int t0]) := by
  unfold F_X1_obeys_111 at h
  obtain ⟨hg1, h⟩ := gd_some h
  cases h
  exact gret_z hC hr hlk hg1 hH hS (Nat.le_of_ble_eq_true rfl) (Nat.le_of_ble_eq_true rfl) dX1_obeys_111
def F_X1_obeys_110 (n : Nat)   (C : St) : Option (Int32 × St) := F_X1_obeys_111 n (0 : Int32) C
set_option maxHeartbeats 4000000 in
set_option maxRecDepth 100000 in
theorem B_X1_obeys_110 {p : Program} {l : Launch} {e : Env} {s : State} {m : MethodId} {args : Array Value} {below : List Frame} {meth : Method} {c : Code} {g : GP} {Z : St} (hC : CX p s m args c cX1_obeys RX1 g) (hE : EZ g s s.heap) (hml : c.maxLocals = 3) (hr : meth.sig.returnType = (some .boolean)) (hlk : meth.locks = false) {r : Int32} {C2 : St}  {C : St} (h : F_X1_obeys_110 (gn g)   C = some (r, C2)) {ed : Nat → Nat} {H : Heap} {locs : List Loc} {ls : Array Slot} (hH : HW g ed C Z H) (hS : va_S (gP g) s.heap H locs) (hl : lv_has ls 3 []) : W p l e ({ frames := 5, cells := 0, slots := 0, locals := 150 } : Room) s m args below meth c H locs 0 0 (MQ below (QG (some (.int r)) g C2 Z) args s 0 0 (gP g)) (F0 m 110 ls []) := by
  unfold F_X1_obeys_110 at h
  refine lv_iconst (v := (0 : Int32)) hC.1 hC.2.1 dX1_obeys_110 (by decide) ?_
  exact B_X1_obeys_111 hC hE hml hr hlk h hH hS (lv_sub hl [] rfl)
def F_X1_obeys_34 (n : Nat)  (x1 : Int32) (t0 : Int32) (C : St) : Option (Int32 × St) := bd2 (F_X1_signAt n (0 : Int32) C) (fun r1 D2 => if r1 = 65 then (if t0 = 0 then (F_X1_obeys_92 n  D2) else (bd2 (F_X1_admits n x1 D2) (fun r6 D7 => if r6 = 0 then (F_X1_obeys_92 n  D7) else (F_X1_obeys_93 n (1 : Int32) D7)))) else (if r1 = 67 then (if t0 = 0 then (F_X1_obeys_110 n  D2) else (bd2 (F_X1_cancels n x1 D2) (fun r12 D13 => if r12 = 0 then (F_X1_obeys_110 n  D13) else (F_X1_obeys_111 n (1 : Int32) D13)))) else (if r1 = 82 then (bd2 (F_X1_replies n x1 D2) (fun r17 D18 => gd (isb r17) (some (r17, D18)))) else (some ((0 : Int32), D2)))))
set_option maxHeartbeats 4000000 in
set_option maxRecDepth 100000 in
theorem B_X1_obeys_34 {p : Program} {l : Launch} {e : Env} {s : State} {m : MethodId} {args : Array Value} {below : List Frame} {meth : Method} {c : Code} {g : GP} {Z : St} (hC : CX p s m args c cX1_obeys RX1 g) (hE : EZ g s s.heap) (hml : c.maxLocals = 3) (hr : meth.sig.returnType = (some .boolean)) (hlk : meth.locks = false) {r : Int32} {C2 : St} {x1 : Int32} {t0 : Int32} {C : St} (h : F_X1_obeys_34 (gn g)  x1 t0 C = some (r, C2)) {ed : Nat → Nat} {H : Heap} {locs : List Loc} {ls : Array Slot} (hH : HW g ed C Z H) (hS : va_S (gP g) s.heap H locs) (hl : lv_has ls 3 [(0, .ref (gA g 26 0)), (1, rfv (gA g) 6 x1)]) : W p l e ({ frames := 5, cells := 0, slots := 0, locals := 150 } : Room) s m args below meth c H locs 0 0 (MQ below (QG (some (.int r)) g C2 Z) args s 0 0 (gP g)) (F0 m 34 ls [.int t0]) := by
  unfold F_X1_obeys_34 at h
  refine lv_istore_n (i := 2) (lv' := [(2, .int t0), (0, .ref (gA g 26 0)), (1, rfv (gA g) 6 x1)]) hC.1 hC.2.1 dX1_obeys_34 rfl hl (by decide) (by simp [rfv_cat]) (fun ls hl => ?_)
  refine lv_aload_n hC.1 hC.2.1 dX1_obeys_35 rfl (lv_at hl 1 rfl) ?_
  refine lv_iconst (v := (0 : Int32)) hC.1 hC.2.1 dX1_obeys_36 (by decide) ?_
  obtain ⟨r1, D2, hF3, h⟩ := bd2_some h
  refine gcallV (As := [.int (0 : Int32)]) (rest := []) (Cn := RX1) hC hE hml hH hS (c_X1_signAt hF3) ⟨wd_956, wd_958, wp_25, wd_15, wd_959⟩ hd_X1_signAt rfl rfl ⟨Nat.le_of_ble_eq_true rfl, Nat.le_of_ble_eq_true rfl⟩ rfl (hw_recv (q := 26) (i := 0) hC hH ⟨Nat.zero_lt_one, fun h => absurd h (by decide)⟩ rfl rfl) rfl hl.1 rfl (Nat.le_of_ble_eq_true rfl) dX1_obeys_37 ⟨Nat.le_of_ble_eq_true rfl, Nat.le_of_ble_eq_true rfl⟩ (fun ed H locs hH hS => ?_)
  refine W.eq (g2 := F0 m 40 ls [.int r1]) rfl ?_
  by_cases hs4 : r1 = 65
  · rw [if_pos hs4] at h
    refine lv_lookup (x := r1) (off := 36) (tgt := 76) hC.1 hC.2.1 dX1_obeys_40 (by decide) (by rw [hs4]; rfl) (by decide) ?_
    refine lv_iload_n hC.1 hC.2.1 dX1_obeys_76 rfl (lv_at hl 0 rfl) ?_
    refine lv_if_eq (tgt := 92) hC.1 hC.2.1 dX1_obeys_77 (by decide) (fun hc5 => ?_) (fun hc5 => ?_)
    · rw [if_pos hc5] at h
      exact B_X1_obeys_92 hC hE hml hr hlk h hH hS (lv_sub hl [] rfl)
    · rw [if_neg hc5] at h
      refine lv_aload_n hC.1 hC.2.1 dX1_obeys_80 rfl (lv_at hl 1 rfl) ?_
      refine gl_aload_n hC dX1_obeys_81 rfl (lv_at hl 2 rfl) ?_
      obtain ⟨r6, D7, hF8, h⟩ := bd2_some h
      refine gcallV (As := [rfv (gA g) 6 x1]) (rest := []) (Cn := RX1) hC hE hml hH hS (c_X1_admits hF8) ⟨wd_961, wd_963, wp_26, wd_15, wd_964⟩ hd_X1_admits rfl rfl ⟨Nat.le_of_ble_eq_true rfl, Nat.le_of_ble_eq_true rfl⟩ rfl (hw_recv (q := 26) (i := 0) hC hH ⟨Nat.zero_lt_one, fun h => absurd h (by decide)⟩ rfl rfl) rfl hl.1 rfl (Nat.le_of_ble_eq_true rfl) dX1_obeys_82 ⟨Nat.le_of_ble_eq_true rfl, Nat.le_of_ble_eq_true rfl⟩ (fun ed H locs hH hS => ?_)
      refine W.eq (g2 := F0 m 85 ls [.int r6]) rfl ?_
      refine lv_if_eq (tgt := 92) hC.1 hC.2.1 dX1_obeys_85 (by decide) (fun hc9 => ?_) (fun hc9 => ?_)
      · rw [if_pos hc9] at h
        exact B_X1_obeys_92 hC hE hml hr hlk h hH hS (lv_sub hl [] rfl)
      · rw [if_neg hc9] at h
        refine lv_iconst (v := (1 : Int32)) hC.1 hC.2.1 dX1_obeys_88 (by decide) ?_
        refine lv_goto (tgt := 93) hC.1 hC.2.1 dX1_obeys_89 (by decide) ?_
        exact B_X1_obeys_93 hC hE hml hr hlk h hH hS (lv_sub hl [] rfl)
  · rw [if_neg hs4] at h
    by_cases hs10 : r1 = 67
    · rw [if_pos hs10] at h
      refine lv_lookup (x := r1) (off := 54) (tgt := 94) hC.1 hC.2.1 dX1_obeys_40 (by decide) (by rw [hs10]; rfl) (by decide) ?_
      refine lv_iload_n hC.1 hC.2.1 dX1_obeys_94 rfl (lv_at hl 0 rfl) ?_
      refine lv_if_eq (tgt := 110) hC.1 hC.2.1 dX1_obeys_95 (by decide) (fun hc11 => ?_) (fun hc11 => ?_)
      · rw [if_pos hc11] at h
        exact B_X1_obeys_110 hC hE hml hr hlk h hH hS (lv_sub hl [] rfl)
      · rw [if_neg hc11] at h
        refine lv_aload_n hC.1 hC.2.1 dX1_obeys_98 rfl (lv_at hl 1 rfl) ?_
        refine gl_aload_n hC dX1_obeys_99 rfl (lv_at hl 2 rfl) ?_
        obtain ⟨r12, D13, hF14, h⟩ := bd2_some h
        refine gcallV (As := [rfv (gA g) 6 x1]) (rest := []) (Cn := RX1) hC hE hml hH hS (c_X1_cancels hF14) ⟨wd_970, wd_972, wp_27, wd_15, wd_973⟩ hd_X1_cancels rfl rfl ⟨Nat.le_of_ble_eq_true rfl, Nat.le_of_ble_eq_true rfl⟩ rfl (hw_recv (q := 26) (i := 0) hC hH ⟨Nat.zero_lt_one, fun h => absurd h (by decide)⟩ rfl rfl) rfl hl.1 rfl (Nat.le_of_ble_eq_true rfl) dX1_obeys_100 ⟨Nat.le_of_ble_eq_true rfl, Nat.le_of_ble_eq_true rfl⟩ (fun ed H locs hH hS => ?_)
        refine W.eq (g2 := F0 m 103 ls [.int r12]) rfl ?_
        refine lv_if_eq (tgt := 110) hC.1 hC.2.1 dX1_obeys_103 (by decide) (fun hc15 => ?_) (fun hc15 => ?_)
        · rw [if_pos hc15] at h
          exact B_X1_obeys_110 hC hE hml hr hlk h hH hS (lv_sub hl [] rfl)
        · rw [if_neg hc15] at h
          refine lv_iconst (v := (1 : Int32)) hC.1 hC.2.1 dX1_obeys_106 (by decide) ?_
          refine lv_goto (tgt := 111) hC.1 hC.2.1 dX1_obeys_107 (by decide) ?_
          exact B_X1_obeys_111 hC hE hml hr hlk h hH hS (lv_sub hl [] rfl)
    · rw [if_neg hs10] at h
      by_cases hs16 : r1 = 82
      · rw [if_pos hs16] at h
        refine lv_lookup (x := r1) (off := 72) (tgt := 112) hC.1 hC.2.1 dX1_obeys_40 (by decide) (by rw [hs16]; rfl) (by decide) ?_
        refine lv_aload_n hC.1 hC.2.1 dX1_obeys_112 rfl (lv_at hl 1 rfl) ?_
        refine gl_aload_n hC dX1_obeys_113 rfl (lv_at hl 2 rfl) ?_
        obtain ⟨r17, D18, hF19, h⟩ := bd2_some h
        refine gcallV (As := [rfv (gA g) 6 x1]) (rest := []) (Cn := RX1) hC hE hml hH hS (c_X1_replies hF19) ⟨wd_979, wd_981, wp_28, wd_15, wd_982⟩ hd_X1_replies rfl rfl ⟨Nat.le_of_ble_eq_true rfl, Nat.le_of_ble_eq_true rfl⟩ rfl (hw_recv (q := 26) (i := 0) hC hH ⟨Nat.zero_lt_one, fun h => absurd h (by decide)⟩ rfl rfl) rfl hl.1 rfl (Nat.le_of_ble_eq_true rfl) dX1_obeys_114 ⟨Nat.le_of_ble_eq_true rfl, Nat.le_of_ble_eq_true rfl⟩ (fun ed H locs hH hS => ?_)
        refine W.eq (g2 := F0 m 117 ls [.int r17]) rfl ?_
        obtain ⟨hg20, h⟩ := gd_some h
        cases h
        exact gret_z hC hr hlk hg20 hH hS (Nat.le_of_ble_eq_true rfl) (Nat.le_of_ble_eq_true rfl) dX1_obeys_117
      · rw [if_neg hs16] at h
        refine lv_lookup (x := r1) (off := 78) (tgt := 118) hC.1 hC.2.1 dX1_obeys_40 (by decide) (by show Op.lookupswitch.offset [(65, 36), (67, 54), (82, 72)] (78) _ = _; rw [lv_osw hs4 (by decide), lv_osw hs10 (by decide), lv_osw hs16 (by decide)]; rfl) (by decide) ?_
        refine lv_iconst (v := (0 : Int32)) hC.1 hC.2.1 dX1_obeys_118 (by decide) ?_
        cases h
        exact gret_z hC hr hlk (by decide) hH hS (Nat.le_of_ble_eq_true rfl) (Nat.le_of_ble_eq_true rfl) dX1_obeys_119
def F_X1_obeys (n : Nat)  (C : St) : Option (Int32 × St) := bd2 (F_X1_digitAt n (1 : Int32) C) (fun r1 D2 => bd2 (F_X11_jobAt n r1 D2) (fun r4 D5 => if r4 < 0 then (some ((0 : Int32), D5)) else (gd (inb (0 : Int32) 8) (if (D5 31 0 0 (0 : Int32).toNatClampNeg) = (2 : Int32) then (F_X1_obeys_34 n r4 (1 : Int32) D5) else (F_X1_obeys_34 n r4 (0 : Int32) D5)))))
set_option maxHeartbeats 4000000 in
set_option maxRecDepth 100000 in
theorem c_X1_obeys {l : Launch} {g : GP} {ed : Nat → Nat} {Z : St}  {C : St} {r : Int32} {C2 : St} (h : F_X1_obeys (gn g)  C = some (r, C2)) : Met l yX1_obeys (Cond.code yX1_obeys cX1_obeys 3 (some .boolean) :: lwG) ({ frames := 5, cells := 0, slots := 0, locals := 150 } : Room) (va_Pc [.ref (gA g 26 0)] (PW g C Z ed)) (QG (some (.int r)) g C2 Z) 0 0 (gP g) := by
  refine Met.ofW (cc := cX1_obeys) (maxL := 3) (ret := (some .boolean)) (by decide +kernel) rfl ?_
  intro p e s m args below meth c s₁ B hml hv
  obtain ⟨ha, hC, hE, hr, hlk, hH⟩ := g_start B hv
  subst ha
  have hC : CX p s m ([.ref (gA g 26 0)] : List Value).toArray c cX1_obeys RX1 g := hC
  have hS : va_S (gP g) s.heap s.heap [] := va_S.rf
  obtain ⟨ls, he, hl⟩ := g_entry m (vs := [.ref (gA g 26 0)]) (n := 3) (List.forall_mem_cons.mpr ⟨rfl, (fun _ h => absurd h List.not_mem_nil)⟩) (Nat.le_of_ble_eq_true rfl)
  rw [he]
  have hl : lv_has ls 3 [(0, .ref (gA g 26 0))] := hl
  unfold F_X1_obeys at h
  refine lv_aload_n hC.1 hC.2.1 dX1_obeys_0 rfl (lv_at hl 0 rfl) ?_
  refine gf_RX1_39 hC hH rfl dX1_obeys_1 ?_
  refine lv_aload_n hC.1 hC.2.1 dX1_obeys_4 rfl (lv_at hl 0 rfl) ?_
  refine lv_iconst (v := (1 : Int32)) hC.1 hC.2.1 dX1_obeys_5 (by decide) ?_
  obtain ⟨r1, D2, hF3, h⟩ := bd2_some h
  refine gcallV (As := [.int (1 : Int32)]) (rest := [.ref (gA g 11 0)]) (Cn := RX1) hC hE hml hH hS (c_X1_digitAt hF3) ⟨wd_952, wd_954, wp_24, wd_15, wd_955⟩ hd_X1_digitAt rfl rfl ⟨Nat.le_of_ble_eq_true rfl, Nat.le_of_ble_eq_true rfl⟩ rfl (hw_recv (q := 26) (i := 0) hC hH ⟨Nat.zero_lt_one, fun h => absurd h (by decide)⟩ rfl rfl) rfl hl.1 rfl (Nat.le_of_ble_eq_true rfl) dX1_obeys_6 ⟨Nat.le_of_ble_eq_true rfl, Nat.le_of_ble_eq_true rfl⟩ (fun ed H locs hH hS => ?_)
  refine W.eq (g2 := F0 m 9 ls [.int r1, .ref (gA g 11 0)]) rfl ?_
  obtain ⟨r4, D5, hF6, h⟩ := bd2_some h
  refine gcallSN (As := [.ref (gA g 11 0), .int r1]) (rest := []) hC hE hml hH hS (c_X11_jobAt hF6) ⟨wd_960, wd_619, wd_1, wd_620⟩ hd_X11_jobAt rfl rfl ⟨Nat.le_of_ble_eq_true rfl, Nat.le_of_ble_eq_true rfl⟩ rfl hl.1 rfl (Nat.le_of_ble_eq_true rfl) dX1_obeys_9 ⟨Nat.le_of_ble_eq_true rfl, Nat.le_of_ble_eq_true rfl⟩ (fun ed H locs hH hS => ?_)
  refine W.eq (g2 := F0 m 12 ls [rfv (gA g) 6 r4]) rfl ?_
  refine gl_astore_n (j := 1) (lv' := [(1, rfv (gA g) 6 r4), (0, .ref (gA g 26 0))]) hC dX1_obeys_12 rfl hl (by decide) rfl (fun ls hl => ?_)
  refine gl_aload_n hC dX1_obeys_13 rfl (lv_at hl 0 rfl) ?_
  refine gl_ifnonnull (tgt := 19) hC dX1_obeys_14 (by decide) (fun hc7 => ?_) (fun hc7 => ?_)
  · rw [if_neg hc7] at h
    refine lv_aload_n hC.1 hC.2.1 dX1_obeys_19 rfl (lv_at hl 1 rfl) ?_
    refine gf_RX1_23 hC hH rfl dX1_obeys_20 ?_
    refine lv_iconst (v := (0 : Int32)) hC.1 hC.2.1 dX1_obeys_23 (by decide) ?_
    obtain ⟨hg8, h⟩ := gd_some h
    refine al_31 hC hH hg8 rfl dX1_obeys_24 ?_
    refine lv_iconst (v := (2 : Int32)) hC.1 hC.2.1 dX1_obeys_25 (by decide) ?_
    refine lv_icmp_ne (tgt := 33) hC.1 hC.2.1 dX1_obeys_26 (by decide) (fun hc9 => ?_) (fun hc9 => ?_)
    · rw [if_neg hc9] at h
      refine lv_iconst (v := (0 : Int32)) hC.1 hC.2.1 dX1_obeys_33 (by decide) ?_
      exact B_X1_obeys_34 hC hE hml hr hlk h hH hS (lv_sub hl [1, 0] rfl)
    · rw [if_pos hc9] at h
      refine lv_iconst (v := (1 : Int32)) hC.1 hC.2.1 dX1_obeys_29 (by decide) ?_
      refine lv_goto (tgt := 34) hC.1 hC.2.1 dX1_obeys_30 (by decide) ?_
      exact B_X1_obeys_34 hC hE hml hr hlk h hH hS (lv_sub hl [1, 0] rfl)
  · rw [if_pos hc7] at h
    refine lv_iconst (v := (0 : Int32)) hC.1 hC.2.1 dX1_obeys_17 (by decide) ?_
    cases h
    exact gret_z hC hr hlk (by decide) hH hS (Nat.le_of_ble_eq_true rfl) (Nat.le_of_ble_eq_true rfl) dX1_obeys_18
def F_X1_say_28 (n : Nat)   (C : St) : Option (Int32 × St) := st (up C 26 0 6 0 ((C 26 0 6 0) + (1 : Int32))) (fun D1 => some (0, D1))
set_option maxHeartbeats 4000000 in
set_option maxRecDepth 100000 in
theorem B_X1_say_28 {p : Program} {l : Launch} {e : Env} {s : State} {m : MethodId} {args : Array Value} {below : List Frame} {meth : Method} {c : Code} {g : GP} {Z : St} (hC : CX p s m args c cX1_say RX1 g) (hE : EZ g s s.heap) (hml : c.maxLocals = 2) (hr : meth.sig.returnType = none) (hlk : meth.locks = false) {r : Int32} {C2 : St}  {C : St} (h : F_X1_say_28 (gn g)   C = some (r, C2)) {ed : Nat → Nat} {H : Heap} {locs : List Loc} {ls : Array Slot} (hH : HW g ed C Z H) (hS : va_S (gP g) s.heap H locs) (hl : lv_has ls 2 [(0, .ref (gA g 26 0))]) : W p l e ({ frames := 0, cells := 0, slots := 0, locals := 0 } : Room) s m args below meth c H locs 0 0 (MQ below (QG none g C2 Z) args s 0 0 (gP g)) (F0 m 28 ls []) := by
  unfold F_X1_say_28 at h
  refine lv_aload_n hC.1 hC.2.1 dX1_say_28 rfl (lv_at hl 0 rfl) ?_
  refine lv_dup hC.1 hC.2.1 dX1_say_29 rfl ?_
  refine gf_RX1_153 hC hH rfl dX1_say_30 ?_
  refine lv_iconst (v := (1 : Int32)) hC.1 hC.2.1 dX1_say_33 (by decide) ?_
  refine lv_iadd hC.1 hC.2.1 dX1_say_34 ?_
  obtain ⟨D1, e2, h⟩ := st_some h
  refine pf_RX1_153 hC hH hS  rfl dX1_say_35 (fun H locs hH hS => ?_)
  rw [← e2] at hH
  cases h
  exact gret_v hC hr hlk hH hS (Nat.le_of_ble_eq_true rfl) (Nat.le_of_ble_eq_true rfl) dX1_say_38
def F_X1_say (n : Nat) (x1 : Int32) (C : St) : Option (Int32 × St) := if (C 26 0 6 0) < 0 then (F_X1_say_28 n  C) else (if (600 : Int32) ≤ (C 26 0 6 0) then (F_X1_say_28 n  C) else (gd (inb (C 26 0 6 0) 600) (st (up C 27 0 0 (C 26 0 6 0).toNatClampNeg ((x1.toInt8.toInt32).toInt8.toInt32)) (fun D4 => F_X1_say_28 n  D4))))
set_option maxHeartbeats 4000000 in
set_option maxRecDepth 100000 in
theorem c_X1_say {l : Launch} {g : GP} {ed : Nat → Nat} {Z : St} {x1 : Int32} {C : St} {r : Int32} {C2 : St} (h : F_X1_say (gn g) x1 C = some (r, C2)) : Met l yX1_say (Cond.code yX1_say cX1_say 2 none :: lwG) ({ frames := 0, cells := 0, slots := 0, locals := 0 } : Room) (va_Pc [.ref (gA g 26 0), .int x1] (PW g C Z ed)) (QG none g C2 Z) 0 0 (gP g) := by
  refine Met.ofW (cc := cX1_say) (maxL := 2) (ret := none) (by decide +kernel) rfl ?_
  intro p e s m args below meth c s₁ B hml hv
  obtain ⟨ha, hC, hE, hr, hlk, hH⟩ := g_start B hv
  subst ha
  have hC : CX p s m ([.ref (gA g 26 0), .int x1] : List Value).toArray c cX1_say RX1 g := hC
  have hS : va_S (gP g) s.heap s.heap [] := va_S.rf
  obtain ⟨ls, he, hl⟩ := g_entry m (vs := [.ref (gA g 26 0), .int x1]) (n := 2) (List.forall_mem_cons.mpr ⟨rfl, (List.forall_mem_cons.mpr ⟨rfl, (fun _ h => absurd h List.not_mem_nil)⟩)⟩) (Nat.le_of_ble_eq_true rfl)
  rw [he]
  have hl : lv_has ls 2 [(0, .ref (gA g 26 0)), (1, .int x1)] := hl
  unfold F_X1_say at h
  refine lv_aload_n hC.1 hC.2.1 dX1_say_0 rfl (lv_at hl 0 rfl) ?_
  refine gf_RX1_153 hC hH rfl dX1_say_1 ?_
  refine lv_if_lt (tgt := 28) hC.1 hC.2.1 dX1_say_4 (by decide) (fun hc1 => ?_) (fun hc1 => ?_)
  · rw [if_pos hc1] at h
    exact B_X1_say_28 hC hE hml hr hlk h hH hS (lv_sub hl [0] rfl)
  · rw [if_neg hc1] at h
    refine lv_aload_n hC.1 hC.2.1 dX1_say_7 rfl (lv_at hl 0 rfl) ?_
    refine gf_RX1_153 hC hH rfl dX1_say_8 ?_
    refine lv_sipush (v := (600 : Int32)) hC.1 hC.2.1 dX1_say_11 (by decide) ?_
    refine lv_icmp_ge (tgt := 28) hC.1 hC.2.1 dX1_say_14 (by decide) (fun hc2 => ?_) (fun hc2 => ?_)
    · rw [if_pos hc2] at h
      exact B_X1_say_28 hC hE hml hr hlk h hH hS (lv_sub hl [0] rfl)
    · rw [if_neg hc2] at h
      refine lv_aload_n hC.1 hC.2.1 dX1_say_17 rfl (lv_at hl 0 rfl) ?_
      refine gf_RX1_9 hC hH rfl dX1_say_18 ?_
      refine lv_aload_n hC.1 hC.2.1 dX1_say_21 rfl (lv_at hl 0 rfl) ?_
      refine gf_RX1_153 hC hH rfl dX1_say_22 ?_
      refine lv_iload_n hC.1 hC.2.1 dX1_say_25 rfl (lv_at hl 1 rfl) ?_
      refine lv_i2b hC.1 hC.2.1 dX1_say_26 rfl ?_
      obtain ⟨hg3, h⟩ := gd_some h
      obtain ⟨D4, e5, h⟩ := st_some h
      refine as_27 hC hH hS hg3 rfl dX1_say_27 (fun H locs hH hS => ?_)
      rw [← e5] at hH
      exact B_X1_say_28 hC hE hml hr hlk h hH hS (lv_sub hl [0] rfl)
def F_X1_dropFirst_18 (n : Nat) (k2 : Int32 → St → Option (Int32 × St)) : Nat → Int32 → Int32 → St → Option (Int32 × St)
  | 0, _, _, _ => none
  | fu + 1, x1, x2, C => if (20 : Int32) ≤ x2 then (gd (inb x1 8) (gd (inb (x1 - (1 : Int32)) 8) (st (up C 31 0 0 (x1 - (1 : Int32)).toNatClampNeg (C 31 0 0 x1.toNatClampNeg)) (fun D4 => k2 (x1 + 1) D4)))) else (gd (inb (x1 - (1 : Int32)) 8) (gd (inb x1 8) (gd (inb x2 20) (st (up C 30 (x1 - (1 : Int32)).toNatClampNeg 0 x2.toNatClampNeg ((C 30 x1.toNatClampNeg 0 x2.toNatClampNeg).toInt8.toInt32)) (fun D9 => F_X1_dropFirst_18 n k2 fu x1 (x2 + 1) D9)))))
set_option maxHeartbeats 4000000 in
set_option maxRecDepth 100000 in
theorem B_X1_dropFirst_18 {p : Program} {l : Launch} {e : Env} {s : State} {m : MethodId} {args : Array Value} {below : List Frame} {meth : Method} {c : Code} {g : GP} {Z : St} (hC : CX p s m args c cX1_dropFirst RX1 g) (hE : EZ g s s.heap) (hml : c.maxLocals = 3) (hr : meth.sig.returnType = none) (hlk : meth.locks = false) {r : Int32} {C2 : St} {k2 : Int32 → St → Option (Int32 × St)} (hk2 : ∀ (x1 : Int32) (C : St), k2 x1 C = some (r, C2) → ∀ (ed : Nat → Nat) (H : Heap) (locs : List Loc) (ls : Array Slot), HW g ed C Z H → va_S (gP g) s.heap H locs → lv_has ls 3 [(0, .ref (gA g 26 0)), (1, .int x1)] → W p l e ({ frames := 0, cells := 0, slots := 0, locals := 0 } : Room) s m args below meth c H locs 0 0 (MQ below (QG none g C2 Z) args s 0 0 (gP g)) (F0 m 2 ls [])) : ∀ (fu : Nat) (x1 : Int32) (x2 : Int32) (C : St), F_X1_dropFirst_18 (gn g) k2 fu x1 x2 C = some (r, C2) → ∀ (ed : Nat → Nat) (H : Heap) (locs : List Loc) (ls : Array Slot), HW g ed C Z H → va_S (gP g) s.heap H locs → lv_has ls 3 [(0, .ref (gA g 26 0)), (1, .int x1), (2, .int x2)] → W p l e ({ frames := 0, cells := 0, slots := 0, locals := 0 } : Room) s m args below meth c H locs 0 0 (MQ below (QG none g C2 Z) args s 0 0 (gP g)) (F0 m 18 ls []) := by
  intro fu
  induction fu with
  | zero =>
    intro x1 x2 C h
    cases h
  | succ fu ih =>
    intro x1 x2 C h ed H locs ls hH hS hl
    rw [F_X1_dropFirst_18] at h
    refine lv_iload_n hC.1 hC.2.1 dX1_dropFirst_18 rfl (lv_at hl 2 rfl) ?_
    refine lv_bipush (v := (20 : Int32)) hC.1 hC.2.1 dX1_dropFirst_19 (by decide) ?_
    refine lv_icmp_ge (tgt := 48) hC.1 hC.2.1 dX1_dropFirst_21 (by decide) (fun hc1 => ?_) (fun hc1 => ?_)
    · rw [if_pos hc1] at h
      refine lv_aload_n hC.1 hC.2.1 dX1_dropFirst_48 rfl (lv_at hl 0 rfl) ?_
      refine gf_RX1_23 hC hH rfl dX1_dropFirst_49 ?_
      refine lv_iload_n hC.1 hC.2.1 dX1_dropFirst_52 rfl (lv_at hl 1 rfl) ?_
      refine lv_iconst (v := (1 : Int32)) hC.1 hC.2.1 dX1_dropFirst_53 (by decide) ?_
      refine lv_isub hC.1 hC.2.1 dX1_dropFirst_54 ?_
      refine lv_aload_n hC.1 hC.2.1 dX1_dropFirst_55 rfl (lv_at hl 0 rfl) ?_
      refine gf_RX1_23 hC hH rfl dX1_dropFirst_56 ?_
      refine lv_iload_n hC.1 hC.2.1 dX1_dropFirst_59 rfl (lv_at hl 1 rfl) ?_
      obtain ⟨hg2, h⟩ := gd_some h
      refine al_31 hC hH hg2 rfl dX1_dropFirst_60 ?_
      obtain ⟨hg3, h⟩ := gd_some h
      obtain ⟨D4, e5, h⟩ := st_some h
      refine as_31 hC hH hS hg3 rfl dX1_dropFirst_61 (fun H locs hH hS => ?_)
      rw [← e5] at hH
      refine lv_iinc (v := x1 + 1) (lv' := [(1, .int (x1 + 1)), (0, .ref (gA g 26 0)), (2, .int x2)]) hC.1 hC.2.1 dX1_dropFirst_62 hl (k := 1) rfl rfl (by decide) rfl (fun ls hl => ?_)
      refine lv_goto (tgt := 2) hC.1 hC.2.1 dX1_dropFirst_65 (by decide) ?_
      exact hk2 _ _ h _ _ _ _ hH hS (lv_sub hl [1, 0] rfl)
    · rw [if_neg hc1] at h
      refine lv_aload_n hC.1 hC.2.1 dX1_dropFirst_24 rfl (lv_at hl 0 rfl) ?_
      refine gf_RX1_20 hC hH rfl dX1_dropFirst_25 ?_
      refine lv_iload_n hC.1 hC.2.1 dX1_dropFirst_28 rfl (lv_at hl 1 rfl) ?_
      refine lv_iconst (v := (1 : Int32)) hC.1 hC.2.1 dX1_dropFirst_29 (by decide) ?_
      refine lv_isub hC.1 hC.2.1 dX1_dropFirst_30 ?_
      obtain ⟨hg6, h⟩ := gd_some h
      refine aa_29 hC hH hg6 rfl dX1_dropFirst_31 ?_
      refine lv_iload_n hC.1 hC.2.1 dX1_dropFirst_32 rfl (lv_at hl 2 rfl) ?_
      refine lv_aload_n hC.1 hC.2.1 dX1_dropFirst_33 rfl (lv_at hl 0 rfl) ?_
      refine gf_RX1_20 hC hH rfl dX1_dropFirst_34 ?_
      refine lv_iload_n hC.1 hC.2.1 dX1_dropFirst_37 rfl (lv_at hl 1 rfl) ?_
      obtain ⟨hg7, h⟩ := gd_some h
      refine aa_29 hC hH hg7 rfl dX1_dropFirst_38 ?_
      refine lv_iload_n hC.1 hC.2.1 dX1_dropFirst_39 rfl (lv_at hl 2 rfl) ?_
      obtain ⟨hg8, h⟩ := gd_some h
      refine al_30 hC hH (inb_lt hg7) hg8 (rfv_in hg7) dX1_dropFirst_40 ?_
      obtain ⟨D9, e10, h⟩ := st_some h
      refine as_30 hC hH hS (inb_lt hg6) hg8 (rfv_in hg6) dX1_dropFirst_41 (fun H locs hH hS => ?_)
      rw [← e10] at hH
      refine lv_iinc (v := x2 + 1) (lv' := [(2, .int (x2 + 1)), (0, .ref (gA g 26 0)), (1, .int x1)]) hC.1 hC.2.1 dX1_dropFirst_42 hl (k := 2) rfl rfl (by decide) rfl (fun ls hl => ?_)
      refine lv_goto (tgt := 18) hC.1 hC.2.1 dX1_dropFirst_45 (by decide) ?_
      exact ih _ _ _ h _ _ _ _ hH hS (lv_sub hl [1, 2, 0] rfl)
def F_X1_dropFirst_68 (n : Nat)   (C : St) : Option (Int32 × St) := st (up C 26 0 11 0 ((C 26 0 11 0) - (1 : Int32))) (fun D1 => some (0, D1))
set_option maxHeartbeats 4000000 in
set_option maxRecDepth 100000 in
theorem B_X1_dropFirst_68 {p : Program} {l : Launch} {e : Env} {s : State} {m : MethodId} {args : Array Value} {below : List Frame} {meth : Method} {c : Code} {g : GP} {Z : St} (hC : CX p s m args c cX1_dropFirst RX1 g) (hE : EZ g s s.heap) (hml : c.maxLocals = 3) (hr : meth.sig.returnType = none) (hlk : meth.locks = false) {r : Int32} {C2 : St}  {C : St} (h : F_X1_dropFirst_68 (gn g)   C = some (r, C2)) {ed : Nat → Nat} {H : Heap} {locs : List Loc} {ls : Array Slot} (hH : HW g ed C Z H) (hS : va_S (gP g) s.heap H locs) (hl : lv_has ls 3 [(0, .ref (gA g 26 0))]) : W p l e ({ frames := 0, cells := 0, slots := 0, locals := 0 } : Room) s m args below meth c H locs 0 0 (MQ below (QG none g C2 Z) args s 0 0 (gP g)) (F0 m 68 ls []) := by
  unfold F_X1_dropFirst_68 at h
  refine lv_aload_n hC.1 hC.2.1 dX1_dropFirst_68 rfl (lv_at hl 0 rfl) ?_
  refine lv_dup hC.1 hC.2.1 dX1_dropFirst_69 rfl ?_
  refine gf_RX1_63 hC hH rfl dX1_dropFirst_70 ?_
  refine lv_iconst (v := (1 : Int32)) hC.1 hC.2.1 dX1_dropFirst_73 (by decide) ?_
  refine lv_isub hC.1 hC.2.1 dX1_dropFirst_74 ?_
  obtain ⟨D1, e2, h⟩ := st_some h
  refine pf_RX1_63 hC hH hS  rfl dX1_dropFirst_75 (fun H locs hH hS => ?_)
  rw [← e2] at hH
  cases h
  exact gret_v hC hr hlk hH hS (Nat.le_of_ble_eq_true rfl) (Nat.le_of_ble_eq_true rfl) dX1_dropFirst_78
def F_X1_dropFirst_2 (n : Nat)  : Nat → Int32 → St → Option (Int32 × St)
  | 0, _, _ => none
  | fu + 1, x1, C => if (C 26 0 11 0) ≤ x1 then (F_X1_dropFirst_68 n  C) else (if (8 : Int32) ≤ x1 then (F_X1_dropFirst_68 n  C) else (F_X1_dropFirst_18 n (F_X1_dropFirst_2 n fu) 1000 x1 (0 : Int32) C))
set_option maxHeartbeats 4000000 in
set_option maxRecDepth 100000 in
theorem B_X1_dropFirst_2 {p : Program} {l : Launch} {e : Env} {s : State} {m : MethodId} {args : Array Value} {below : List Frame} {meth : Method} {c : Code} {g : GP} {Z : St} (hC : CX p s m args c cX1_dropFirst RX1 g) (hE : EZ g s s.heap) (hml : c.maxLocals = 3) (hr : meth.sig.returnType = none) (hlk : meth.locks = false) {r : Int32} {C2 : St} : ∀ (fu : Nat) (x1 : Int32) (C : St), F_X1_dropFirst_2 (gn g)  fu x1 C = some (r, C2) → ∀ (ed : Nat → Nat) (H : Heap) (locs : List Loc) (ls : Array Slot), HW g ed C Z H → va_S (gP g) s.heap H locs → lv_has ls 3 [(0, .ref (gA g 26 0)), (1, .int x1)] → W p l e ({ frames := 0, cells := 0, slots := 0, locals := 0 } : Room) s m args below meth c H locs 0 0 (MQ below (QG none g C2 Z) args s 0 0 (gP g)) (F0 m 2 ls []) := by
  intro fu
  induction fu with
  | zero =>
    intro x1 C h
    cases h
  | succ fu ih =>
    intro x1 C h ed H locs ls hH hS hl
    rw [F_X1_dropFirst_2] at h
    refine lv_iload_n hC.1 hC.2.1 dX1_dropFirst_2 rfl (lv_at hl 1 rfl) ?_
    refine lv_aload_n hC.1 hC.2.1 dX1_dropFirst_3 rfl (lv_at hl 0 rfl) ?_
    refine gf_RX1_63 hC hH rfl dX1_dropFirst_4 ?_
    refine lv_icmp_ge (tgt := 68) hC.1 hC.2.1 dX1_dropFirst_7 (by decide) (fun hc1 => ?_) (fun hc1 => ?_)
    · rw [if_pos hc1] at h
      exact B_X1_dropFirst_68 hC hE hml hr hlk h hH hS (lv_sub hl [0] rfl)
    · rw [if_neg hc1] at h
      refine lv_iload_n hC.1 hC.2.1 dX1_dropFirst_10 rfl (lv_at hl 1 rfl) ?_
      refine lv_bipush (v := (8 : Int32)) hC.1 hC.2.1 dX1_dropFirst_11 (by decide) ?_
      refine lv_icmp_ge (tgt := 68) hC.1 hC.2.1 dX1_dropFirst_13 (by decide) (fun hc2 => ?_) (fun hc2 => ?_)
      · rw [if_pos hc2] at h
        exact B_X1_dropFirst_68 hC hE hml hr hlk h hH hS (lv_sub hl [0] rfl)
      · rw [if_neg hc2] at h
        refine lv_iconst (v := (0 : Int32)) hC.1 hC.2.1 dX1_dropFirst_16 (by decide) ?_
        refine lv_istore_n (i := 2) (lv' := [(2, .int (0 : Int32)), (0, .ref (gA g 26 0)), (1, .int x1)]) hC.1 hC.2.1 dX1_dropFirst_17 rfl hl (by decide) rfl (fun ls hl => ?_)
        exact B_X1_dropFirst_18 hC hE hml hr hlk ih 1000 _ _ _ h _ _ _ _ hH hS (lv_sub hl [1, 2, 0] rfl)
def F_X1_dropFirst (n : Nat)  (C : St) : Option (Int32 × St) := F_X1_dropFirst_2 n 1000 (1 : Int32) C
set_option maxHeartbeats 4000000 in
set_option maxRecDepth 100000 in
theorem c_X1_dropFirst {l : Launch} {g : GP} {ed : Nat → Nat} {Z : St}  {C : St} {r : Int32} {C2 : St} (h : F_X1_dropFirst (gn g)  C = some (r, C2)) : Met l yX1_dropFirst (Cond.code yX1_dropFirst cX1_dropFirst 3 none :: lwG) ({ frames := 0, cells := 0, slots := 0, locals := 0 } : Room) (va_Pc [.ref (gA g 26 0)] (PW g C Z ed)) (QG none g C2 Z) 0 0 (gP g) := by
  refine Met.ofW (cc := cX1_dropFirst) (maxL := 3) (ret := none) (by decide +kernel) rfl ?_
  intro p e s m args below meth c s₁ B hml hv
  obtain ⟨ha, hC, hE, hr, hlk, hH⟩ := g_start B hv
  subst ha
  have hC : CX p s m ([.ref (gA g 26 0)] : List Value).toArray c cX1_dropFirst RX1 g := hC
  have hS : va_S (gP g) s.heap s.heap [] := va_S.rf
  obtain ⟨ls, he, hl⟩ := g_entry m (vs := [.ref (gA g 26 0)]) (n := 3) (List.forall_mem_cons.mpr ⟨rfl, (fun _ h => absurd h List.not_mem_nil)⟩) (Nat.le_of_ble_eq_true rfl)
  rw [he]
  have hl : lv_has ls 3 [(0, .ref (gA g 26 0))] := hl
  unfold F_X1_dropFirst at h
  refine lv_iconst (v := (1 : Int32)) hC.1 hC.2.1 dX1_dropFirst_0 (by decide) ?_
  refine lv_istore_n (i := 1) (lv' := [(1, .int (1 : Int32)), (0, .ref (gA g 26 0))]) hC.1 hC.2.1 dX1_dropFirst_1 rfl hl (by decide) rfl (fun ls hl => ?_)
  exact B_X1_dropFirst_2 hC hE hml hr hlk 1000 _ _ h _ _ _ _ hH hS (lv_sub hl [1, 0] rfl)
def F_X1_step_30 (n : Nat)   (C : St) : Option (Int32 × St) := bd2 (F_X9_p n 6 C) (fun r1 D2 => some (0, D2))
set_option maxHeartbeats 4000000 in
set_option maxRecDepth 100000 in
theorem B_X1_step_30 {p : Program} {l : Launch} {e : Env} {s : State} {m : MethodId} {args : Array Value} {below : List Frame} {meth : Method} {c : Code} {g : GP} {Z : St} (hC : CX p s m args c cX1_step RX1 g) (hE : EZ g s s.heap) (hml : c.maxLocals = 1) (hr : meth.sig.returnType = none) (hlk : meth.locks = false) {r : Int32} {C2 : St}  {C : St} (h : F_X1_step_30 (gn g)   C = some (r, C2)) {ed : Nat → Nat} {H : Heap} {locs : List Loc} {ls : Array Slot} (hH : HW g ed C Z H) (hS : va_S (gP g) s.heap H locs) (hl : lv_has ls 1 [(0, .ref (gA g 26 0))]) : W p l e ({ frames := 6, cells := 0, slots := 0, locals := 172 } : Room) s m args below meth c H locs 0 0 (MQ below (QG none g C2 Z) args s 0 0 (gP g)) (F0 m 30 ls []) := by
  unfold F_X1_step_30 at h
  refine lv_aload_n hC.1 hC.2.1 dX1_step_30 rfl (lv_at hl 0 rfl) ?_
  refine gf_RX1_48 hC hH rfl dX1_step_31 ?_
  obtain ⟨r1, D2, hF3, h⟩ := bd2_some h
  refine gcallV (As := []) (rest := []) (Cn := RX9) hC hE hml hH hS (c_X9_p (Nat.le_of_ble_eq_true rfl) hF3) ⟨wd_464, wd_299, wd_300, wd_12, wd_301⟩ hd_X9_p rfl rfl ⟨Nat.le_of_ble_eq_true rfl, Nat.le_of_ble_eq_true rfl⟩ rfl (hw_recv (q := 5) (i := 6) hC hH ⟨(Nat.le_of_ble_eq_true rfl), fun h => absurd h (by decide)⟩ rfl rfl) rfl hl.1 rfl (Nat.le_of_ble_eq_true rfl) dX1_step_34 ⟨Nat.le_of_ble_eq_true rfl, Nat.le_of_ble_eq_true rfl⟩ (fun ed H locs hH hS => ?_)
  refine W.eq (g2 := F0 m 37 ls []) rfl ?_
  cases h
  exact gret_v hC hr hlk hH hS (Nat.le_of_ble_eq_true rfl) (Nat.le_of_ble_eq_true rfl) dX1_step_37
def F_X1_step_26 (n : Nat)   (C : St) : Option (Int32 × St) := bd2 (F_X1_dropFirst n  C) (fun r1 D2 => F_X1_step_30 n  D2)
set_option maxHeartbeats 4000000 in
set_option maxRecDepth 100000 in
theorem B_X1_step_26 {p : Program} {l : Launch} {e : Env} {s : State} {m : MethodId} {args : Array Value} {below : List Frame} {meth : Method} {c : Code} {g : GP} {Z : St} (hC : CX p s m args c cX1_step RX1 g) (hE : EZ g s s.heap) (hml : c.maxLocals = 1) (hr : meth.sig.returnType = none) (hlk : meth.locks = false) {r : Int32} {C2 : St}  {C : St} (h : F_X1_step_26 (gn g)   C = some (r, C2)) {ed : Nat → Nat} {H : Heap} {locs : List Loc} {ls : Array Slot} (hH : HW g ed C Z H) (hS : va_S (gP g) s.heap H locs) (hl : lv_has ls 1 [(0, .ref (gA g 26 0))]) : W p l e ({ frames := 6, cells := 0, slots := 0, locals := 172 } : Room) s m args below meth c H locs 0 0 (MQ below (QG none g C2 Z) args s 0 0 (gP g)) (F0 m 26 ls []) := by
  unfold F_X1_step_26 at h
  refine lv_aload_n hC.1 hC.2.1 dX1_step_26 rfl (lv_at hl 0 rfl) ?_
  obtain ⟨r1, D2, hF3, h⟩ := bd2_some h
  refine gcallV (As := []) (rest := []) (Cn := RX1) hC hE hml hH hS (c_X1_dropFirst hF3) ⟨wd_984, wd_986, wp_29, wd_15, wd_987⟩ hd_X1_dropFirst rfl rfl ⟨Nat.le_of_ble_eq_true rfl, Nat.le_of_ble_eq_true rfl⟩ rfl (hw_recv (q := 26) (i := 0) hC hH ⟨Nat.zero_lt_one, fun h => absurd h (by decide)⟩ rfl rfl) rfl hl.1 rfl (Nat.le_of_ble_eq_true rfl) dX1_step_27 ⟨Nat.le_of_ble_eq_true rfl, Nat.le_of_ble_eq_true rfl⟩ (fun ed H locs hH hS => ?_)
  refine W.eq (g2 := F0 m 30 ls []) rfl ?_
  exact B_X1_step_30 hC hE hml hr hlk h hH hS (lv_sub hl [0] rfl)
def F_X1_step (n : Nat)  (C : St) : Option (Int32 × St) := if (C 26 0 11 0) ≤ 0 then (F_X1_step_30 n  C) else (bd2 (F_X1_obeys n  C) (fun r2 D3 => if r2 = 0 then (bd2 (F_X1_say n (63 : Int32) D3) (fun r6 D7 => bd2 (F_X1_say n (10 : Int32) D7) (fun r9 D10 => F_X1_step_26 n  D10))) else (F_X1_step_26 n  D3)))
set_option maxHeartbeats 4000000 in
set_option maxRecDepth 100000 in
theorem c_X1_step {l : Launch} {g : GP} {ed : Nat → Nat} {Z : St}  {C : St} {r : Int32} {C2 : St} (h : F_X1_step (gn g)  C = some (r, C2)) : Met l yX1_step (Cond.code yX1_step cX1_step 1 none :: lwG) ({ frames := 6, cells := 0, slots := 0, locals := 172 } : Room) (va_Pc [.ref (gA g 26 0)] (PW g C Z ed)) (QG none g C2 Z) 0 0 (gP g) := by
  refine Met.ofW (cc := cX1_step) (maxL := 1) (ret := none) (by decide +kernel) rfl ?_
  intro p e s m args below meth c s₁ B hml hv
  obtain ⟨ha, hC, hE, hr, hlk, hH⟩ := g_start B hv
  subst ha
  have hC : CX p s m ([.ref (gA g 26 0)] : List Value).toArray c cX1_step RX1 g := hC
  have hS : va_S (gP g) s.heap s.heap [] := va_S.rf
  obtain ⟨ls, he, hl⟩ := g_entry m (vs := [.ref (gA g 26 0)]) (n := 1) (List.forall_mem_cons.mpr ⟨rfl, (fun _ h => absurd h List.not_mem_nil)⟩) (Nat.le_of_ble_eq_true rfl)
  rw [he]
  have hl : lv_has ls 1 [(0, .ref (gA g 26 0))] := hl
  unfold F_X1_step at h
  refine lv_aload_n hC.1 hC.2.1 dX1_step_0 rfl (lv_at hl 0 rfl) ?_
  refine gf_RX1_63 hC hH rfl dX1_step_1 ?_
  refine lv_if_le (tgt := 30) hC.1 hC.2.1 dX1_step_4 (by decide) (fun hc1 => ?_) (fun hc1 => ?_)
  · rw [if_pos hc1] at h
    exact B_X1_step_30 hC hE hml hr hlk h hH hS (lv_sub hl [0] rfl)
  · rw [if_neg hc1] at h
    refine lv_aload_n hC.1 hC.2.1 dX1_step_7 rfl (lv_at hl 0 rfl) ?_
    obtain ⟨r2, D3, hF4, h⟩ := bd2_some h
    refine gcallV (As := []) (rest := []) (Cn := RX1) hC hE hml hH hS (c_X1_obeys hF4) ⟨wd_948, wd_950, wp_23, wd_15, wd_951⟩ hd_X1_obeys rfl rfl ⟨Nat.le_of_ble_eq_true rfl, Nat.le_of_ble_eq_true rfl⟩ rfl (hw_recv (q := 26) (i := 0) hC hH ⟨Nat.zero_lt_one, fun h => absurd h (by decide)⟩ rfl rfl) rfl hl.1 rfl (Nat.le_of_ble_eq_true rfl) dX1_step_8 ⟨Nat.le_of_ble_eq_true rfl, Nat.le_of_ble_eq_true rfl⟩ (fun ed H locs hH hS => ?_)
    refine W.eq (g2 := F0 m 11 ls [.int r2]) rfl ?_
    refine lv_if_ne (tgt := 26) hC.1 hC.2.1 dX1_step_11 (by decide) (fun hc5 => ?_) (fun hc5 => ?_)
    · rw [if_neg hc5] at h
      exact B_X1_step_26 hC hE hml hr hlk h hH hS (lv_sub hl [0] rfl)
    · rw [if_pos hc5] at h
      refine lv_aload_n hC.1 hC.2.1 dX1_step_14 rfl (lv_at hl 0 rfl) ?_
      refine lv_bipush (v := (63 : Int32)) hC.1 hC.2.1 dX1_step_15 (by decide) ?_
      obtain ⟨r6, D7, hF8, h⟩ := bd2_some h
      refine gcallV (As := [.int (63 : Int32)]) (rest := []) (Cn := RX1) hC hE hml hH hS (c_X1_say hF8) ⟨wd_656, wd_658, wp_3, wd_15, wd_659⟩ hd_X1_say rfl rfl ⟨Nat.le_of_ble_eq_true rfl, Nat.le_of_ble_eq_true rfl⟩ rfl (hw_recv (q := 26) (i := 0) hC hH ⟨Nat.zero_lt_one, fun h => absurd h (by decide)⟩ rfl rfl) rfl hl.1 rfl (Nat.le_of_ble_eq_true rfl) dX1_step_17 ⟨Nat.le_of_ble_eq_true rfl, Nat.le_of_ble_eq_true rfl⟩ (fun ed H locs hH hS => ?_)
      refine W.eq (g2 := F0 m 20 ls []) rfl ?_
      refine lv_aload_n hC.1 hC.2.1 dX1_step_20 rfl (lv_at hl 0 rfl) ?_
      refine lv_bipush (v := (10 : Int32)) hC.1 hC.2.1 dX1_step_21 (by decide) ?_
      obtain ⟨r9, D10, hF11, h⟩ := bd2_some h
      refine gcallV (As := [.int (10 : Int32)]) (rest := []) (Cn := RX1) hC hE hml hH hS (c_X1_say hF11) ⟨wd_656, wd_658, wp_3, wd_15, wd_659⟩ hd_X1_say rfl rfl ⟨Nat.le_of_ble_eq_true rfl, Nat.le_of_ble_eq_true rfl⟩ rfl (hw_recv (q := 26) (i := 0) hC hH ⟨Nat.zero_lt_one, fun h => absurd h (by decide)⟩ rfl rfl) rfl hl.1 rfl (Nat.le_of_ble_eq_true rfl) dX1_step_23 ⟨Nat.le_of_ble_eq_true rfl, Nat.le_of_ble_eq_true rfl⟩ (fun ed H locs hH hS => ?_)
      refine W.eq (g2 := F0 m 26 ls []) rfl ?_
      exact B_X1_step_26 hC hE hml hr hlk h hH hS (lv_sub hl [0] rfl)
def F_X1_ask (n : Nat) (x1 : Int32) (C : St) : Option (Int32 × St) := gd (inb x1 6) (bd2 (F_X1_say n ((48 : Int32) + (C 6 x1.toNatClampNeg 0 0)) C) (fun r2 D3 => bd2 (F_X1_say n (63 : Int32) D3) (fun r5 D6 => bd2 (F_X1_say n (10 : Int32) D6) (fun r8 D9 => bd2 (F_X7_suspend n (D9 6 x1.toNatClampNeg 0 0) (5 : Int32) D9) (fun r11 D12 => some (0, D12))))))
set_option maxHeartbeats 4000000 in
set_option maxRecDepth 100000 in
theorem c_X1_ask {l : Launch} {g : GP} {ed : Nat → Nat} {Z : St} {x1 : Int32} {C : St} {r : Int32} {C2 : St} (h : F_X1_ask (gn g) x1 C = some (r, C2)) : Met l yX1_ask (Cond.code yX1_ask cX1_ask 2 none :: lwG) ({ frames := 3, cells := 0, slots := 0, locals := 65 } : Room) (va_Pc [.ref (gA g 26 0), rfv (gA g) 6 x1] (PW g C Z ed)) (QG none g C2 Z) 0 0 (gP g) := by
  refine Met.ofW (cc := cX1_ask) (maxL := 2) (ret := none) (by decide +kernel) rfl ?_
  intro p e s m args below meth c s₁ B hml hv
  obtain ⟨ha, hC, hE, hr, hlk, hH⟩ := g_start B hv
  subst ha
  have hC : CX p s m ([.ref (gA g 26 0), rfv (gA g) 6 x1] : List Value).toArray c cX1_ask RX1 g := hC
  have hS : va_S (gP g) s.heap s.heap [] := va_S.rf
  obtain ⟨ls, he, hl⟩ := g_entry m (vs := [.ref (gA g 26 0), rfv (gA g) 6 x1]) (n := 2) (List.forall_mem_cons.mpr ⟨rfl, (List.forall_mem_cons.mpr ⟨rfv_cat, (fun _ h => absurd h List.not_mem_nil)⟩)⟩) (Nat.le_of_ble_eq_true rfl)
  rw [he]
  have hl : lv_has ls 2 [(0, .ref (gA g 26 0)), (1, rfv (gA g) 6 x1)] := hl
  unfold F_X1_ask at h
  refine lv_aload_n hC.1 hC.2.1 dX1_ask_0 rfl (lv_at hl 0 rfl) ?_
  refine lv_bipush (v := (48 : Int32)) hC.1 hC.2.1 dX1_ask_1 (by decide) ?_
  refine gl_aload_n hC dX1_ask_3 rfl (lv_at hl 1 rfl) ?_
  obtain ⟨hg1, h⟩ := gd_some h
  refine gf_RX1_117 hC hH (inb_lt hg1) (rfv_in hg1) dX1_ask_4 ?_
  refine lv_iadd hC.1 hC.2.1 dX1_ask_7 ?_
  obtain ⟨r2, D3, hF4, h⟩ := bd2_some h
  refine gcallV (As := [.int ((48 : Int32) + (C 6 x1.toNatClampNeg 0 0))]) (rest := []) (Cn := RX1) hC hE hml hH hS (c_X1_say hF4) ⟨wd_656, wd_658, wp_3, wd_15, wd_659⟩ hd_X1_say rfl rfl ⟨Nat.le_of_ble_eq_true rfl, Nat.le_of_ble_eq_true rfl⟩ rfl (hw_recv (q := 26) (i := 0) hC hH ⟨Nat.zero_lt_one, fun h => absurd h (by decide)⟩ rfl rfl) rfl hl.1 rfl (Nat.le_of_ble_eq_true rfl) dX1_ask_8 ⟨Nat.le_of_ble_eq_true rfl, Nat.le_of_ble_eq_true rfl⟩ (fun ed H locs hH hS => ?_)
  refine W.eq (g2 := F0 m 11 ls []) rfl ?_
  refine lv_aload_n hC.1 hC.2.1 dX1_ask_11 rfl (lv_at hl 0 rfl) ?_
  refine lv_bipush (v := (63 : Int32)) hC.1 hC.2.1 dX1_ask_12 (by decide) ?_
  obtain ⟨r5, D6, hF7, h⟩ := bd2_some h
  refine gcallV (As := [.int (63 : Int32)]) (rest := []) (Cn := RX1) hC hE hml hH hS (c_X1_say hF7) ⟨wd_656, wd_658, wp_3, wd_15, wd_659⟩ hd_X1_say rfl rfl ⟨Nat.le_of_ble_eq_true rfl, Nat.le_of_ble_eq_true rfl⟩ rfl (hw_recv (q := 26) (i := 0) hC hH ⟨Nat.zero_lt_one, fun h => absurd h (by decide)⟩ rfl rfl) rfl hl.1 rfl (Nat.le_of_ble_eq_true rfl) dX1_ask_14 ⟨Nat.le_of_ble_eq_true rfl, Nat.le_of_ble_eq_true rfl⟩ (fun ed H locs hH hS => ?_)
  refine W.eq (g2 := F0 m 17 ls []) rfl ?_
  refine lv_aload_n hC.1 hC.2.1 dX1_ask_17 rfl (lv_at hl 0 rfl) ?_
  refine lv_bipush (v := (10 : Int32)) hC.1 hC.2.1 dX1_ask_18 (by decide) ?_
  obtain ⟨r8, D9, hF10, h⟩ := bd2_some h
  refine gcallV (As := [.int (10 : Int32)]) (rest := []) (Cn := RX1) hC hE hml hH hS (c_X1_say hF10) ⟨wd_656, wd_658, wp_3, wd_15, wd_659⟩ hd_X1_say rfl rfl ⟨Nat.le_of_ble_eq_true rfl, Nat.le_of_ble_eq_true rfl⟩ rfl (hw_recv (q := 26) (i := 0) hC hH ⟨Nat.zero_lt_one, fun h => absurd h (by decide)⟩ rfl rfl) rfl hl.1 rfl (Nat.le_of_ble_eq_true rfl) dX1_ask_20 ⟨Nat.le_of_ble_eq_true rfl, Nat.le_of_ble_eq_true rfl⟩ (fun ed H locs hH hS => ?_)
  refine W.eq (g2 := F0 m 23 ls []) rfl ?_
  refine lv_aload_n hC.1 hC.2.1 dX1_ask_23 rfl (lv_at hl 0 rfl) ?_
  refine gf_RX1_27 hC hH rfl dX1_ask_24 ?_
  refine gl_aload_n hC dX1_ask_27 rfl (lv_at hl 1 rfl) ?_
  refine gf_RX1_117 hC hH (inb_lt hg1) (rfv_in hg1) dX1_ask_28 ?_
  refine lv_iconst (v := (5 : Int32)) hC.1 hC.2.1 dX1_ask_31 (by decide) ?_
  obtain ⟨r11, D12, hF13, h⟩ := bd2_some h
  refine gcallV (As := [.int (D9 6 x1.toNatClampNeg 0 0), .int (5 : Int32)]) (rest := []) (Cn := RX7) hC hE hml hH hS (c_X7_suspend hF13) ⟨wd_854, wd_303, wd_304, wd_2, wd_305⟩ hd_X7_suspend rfl rfl ⟨Nat.le_of_ble_eq_true rfl, Nat.le_of_ble_eq_true rfl⟩ rfl (hw_recv (q := 1) (i := 0) hC hH ⟨Nat.zero_lt_one, fun h => absurd h (by decide)⟩ rfl rfl) rfl hl.1 rfl (Nat.le_of_ble_eq_true rfl) dX1_ask_32 ⟨Nat.le_of_ble_eq_true rfl, Nat.le_of_ble_eq_true rfl⟩ (fun ed H locs hH hS => ?_)
  refine W.eq (g2 := F0 m 35 ls []) rfl ?_
  cases h
  exact gret_v hC hr hlk hH hS (Nat.le_of_ble_eq_true rfl) (Nat.le_of_ble_eq_true rfl) dX1_ask_35
def F_X1_sayOver (n : Nat) (x1 : Int32) (C : St) : Option (Int32 × St) := gd (inb x1 6) (bd2 (F_X1_say n ((48 : Int32) + (C 6 x1.toNatClampNeg 0 0)) C) (fun r2 D3 => bd2 (F_X1_say n (61 : Int32) D3) (fun r5 D6 => bd2 (F_X1_say n ((48 : Int32) + (D6 6 x1.toNatClampNeg 8 0)) D6) (fun r8 D9 => bd2 (F_X1_say n (10 : Int32) D9) (fun r11 D12 => some (0, D12))))))
set_option maxHeartbeats 4000000 in
set_option maxRecDepth 100000 in
theorem c_X1_sayOver {l : Launch} {g : GP} {ed : Nat → Nat} {Z : St} {x1 : Int32} {C : St} {r : Int32} {C2 : St} (h : F_X1_sayOver (gn g) x1 C = some (r, C2)) : Met l yX1_sayOver (Cond.code yX1_sayOver cX1_sayOver 2 none :: lwG) ({ frames := 1, cells := 0, slots := 0, locals := 21 } : Room) (va_Pc [.ref (gA g 26 0), rfv (gA g) 6 x1] (PW g C Z ed)) (QG none g C2 Z) 0 0 (gP g) := by
  refine Met.ofW (cc := cX1_sayOver) (maxL := 2) (ret := none) (by decide +kernel) rfl ?_
  intro p e s m args below meth c s₁ B hml hv
  obtain ⟨ha, hC, hE, hr, hlk, hH⟩ := g_start B hv
  subst ha
  have hC : CX p s m ([.ref (gA g 26 0), rfv (gA g) 6 x1] : List Value).toArray c cX1_sayOver RX1 g := hC
  have hS : va_S (gP g) s.heap s.heap [] := va_S.rf
  obtain ⟨ls, he, hl⟩ := g_entry m (vs := [.ref (gA g 26 0), rfv (gA g) 6 x1]) (n := 2) (List.forall_mem_cons.mpr ⟨rfl, (List.forall_mem_cons.mpr ⟨rfv_cat, (fun _ h => absurd h List.not_mem_nil)⟩)⟩) (Nat.le_of_ble_eq_true rfl)
  rw [he]
  have hl : lv_has ls 2 [(0, .ref (gA g 26 0)), (1, rfv (gA g) 6 x1)] := hl
  unfold F_X1_sayOver at h
  refine lv_aload_n hC.1 hC.2.1 dX1_sayOver_0 rfl (lv_at hl 0 rfl) ?_
  refine lv_bipush (v := (48 : Int32)) hC.1 hC.2.1 dX1_sayOver_1 (by decide) ?_
  refine gl_aload_n hC dX1_sayOver_3 rfl (lv_at hl 1 rfl) ?_
  obtain ⟨hg1, h⟩ := gd_some h
  refine gf_RX1_117 hC hH (inb_lt hg1) (rfv_in hg1) dX1_sayOver_4 ?_
  refine lv_iadd hC.1 hC.2.1 dX1_sayOver_7 ?_
  obtain ⟨r2, D3, hF4, h⟩ := bd2_some h
  refine gcallV (As := [.int ((48 : Int32) + (C 6 x1.toNatClampNeg 0 0))]) (rest := []) (Cn := RX1) hC hE hml hH hS (c_X1_say hF4) ⟨wd_656, wd_658, wp_3, wd_15, wd_659⟩ hd_X1_say rfl rfl ⟨Nat.le_of_ble_eq_true rfl, Nat.le_of_ble_eq_true rfl⟩ rfl (hw_recv (q := 26) (i := 0) hC hH ⟨Nat.zero_lt_one, fun h => absurd h (by decide)⟩ rfl rfl) rfl hl.1 rfl (Nat.le_of_ble_eq_true rfl) dX1_sayOver_8 ⟨Nat.le_of_ble_eq_true rfl, Nat.le_of_ble_eq_true rfl⟩ (fun ed H locs hH hS => ?_)
  refine W.eq (g2 := F0 m 11 ls []) rfl ?_
  refine lv_aload_n hC.1 hC.2.1 dX1_sayOver_11 rfl (lv_at hl 0 rfl) ?_
  refine lv_bipush (v := (61 : Int32)) hC.1 hC.2.1 dX1_sayOver_12 (by decide) ?_
  obtain ⟨r5, D6, hF7, h⟩ := bd2_some h
  refine gcallV (As := [.int (61 : Int32)]) (rest := []) (Cn := RX1) hC hE hml hH hS (c_X1_say hF7) ⟨wd_656, wd_658, wp_3, wd_15, wd_659⟩ hd_X1_say rfl rfl ⟨Nat.le_of_ble_eq_true rfl, Nat.le_of_ble_eq_true rfl⟩ rfl (hw_recv (q := 26) (i := 0) hC hH ⟨Nat.zero_lt_one, fun h => absurd h (by decide)⟩ rfl rfl) rfl hl.1 rfl (Nat.le_of_ble_eq_true rfl) dX1_sayOver_14 ⟨Nat.le_of_ble_eq_true rfl, Nat.le_of_ble_eq_true rfl⟩ (fun ed H locs hH hS => ?_)
  refine W.eq (g2 := F0 m 17 ls []) rfl ?_
  refine lv_aload_n hC.1 hC.2.1 dX1_sayOver_17 rfl (lv_at hl 0 rfl) ?_
  refine lv_bipush (v := (48 : Int32)) hC.1 hC.2.1 dX1_sayOver_18 (by decide) ?_
  refine gl_aload_n hC dX1_sayOver_20 rfl (lv_at hl 1 rfl) ?_
  refine gf_RX1_150 hC hH (inb_lt hg1) (rfv_in hg1) dX1_sayOver_21 ?_
  refine lv_iadd hC.1 hC.2.1 dX1_sayOver_24 ?_
  obtain ⟨r8, D9, hF10, h⟩ := bd2_some h
  refine gcallV (As := [.int ((48 : Int32) + (D6 6 x1.toNatClampNeg 8 0))]) (rest := []) (Cn := RX1) hC hE hml hH hS (c_X1_say hF10) ⟨wd_656, wd_658, wp_3, wd_15, wd_659⟩ hd_X1_say rfl rfl ⟨Nat.le_of_ble_eq_true rfl, Nat.le_of_ble_eq_true rfl⟩ rfl (hw_recv (q := 26) (i := 0) hC hH ⟨Nat.zero_lt_one, fun h => absurd h (by decide)⟩ rfl rfl) rfl hl.1 rfl (Nat.le_of_ble_eq_true rfl) dX1_sayOver_25 ⟨Nat.le_of_ble_eq_true rfl, Nat.le_of_ble_eq_true rfl⟩ (fun ed H locs hH hS => ?_)
  refine W.eq (g2 := F0 m 28 ls []) rfl ?_
  refine lv_aload_n hC.1 hC.2.1 dX1_sayOver_28 rfl (lv_at hl 0 rfl) ?_
  refine lv_bipush (v := (10 : Int32)) hC.1 hC.2.1 dX1_sayOver_29 (by decide) ?_
  obtain ⟨r11, D12, hF13, h⟩ := bd2_some h
  refine gcallV (As := [.int (10 : Int32)]) (rest := []) (Cn := RX1) hC hE hml hH hS (c_X1_say hF13) ⟨wd_656, wd_658, wp_3, wd_15, wd_659⟩ hd_X1_say rfl rfl ⟨Nat.le_of_ble_eq_true rfl, Nat.le_of_ble_eq_true rfl⟩ rfl (hw_recv (q := 26) (i := 0) hC hH ⟨Nat.zero_lt_one, fun h => absurd h (by decide)⟩ rfl rfl) rfl hl.1 rfl (Nat.le_of_ble_eq_true rfl) dX1_sayOver_31 ⟨Nat.le_of_ble_eq_true rfl, Nat.le_of_ble_eq_true rfl⟩ (fun ed H locs hH hS => ?_)
  refine W.eq (g2 := F0 m 34 ls []) rfl ?_
  cases h
  exact gret_v hC hr hlk hH hS (Nat.le_of_ble_eq_true rfl) (Nat.le_of_ble_eq_true rfl) dX1_sayOver_34
def F_X1_byteSaid_29 (n : Nat)  (t0 : Int32) (C : St) : Option (Int32 × St) := some (t0, C)
set_option maxHeartbeats 4000000 in
set_option maxRecDepth 100000 in
theorem B_X1_byteSaid_29 {p : Program} {l : Launch} {e : Env} {s : State} {m : MethodId} {args : Array Value} {below : List Frame} {meth : Method} {c : Code} {g : GP} {Z : St} (hC : CX p s m args c cX1_byteSaid RX1 g) (hE : EZ g s s.heap) (hml : c.maxLocals = 2) (hr : meth.sig.returnType = (some .int)) (hlk : meth.locks = false) {r : Int32} {C2 : St} {t0 : Int32} {C : St} (h : F_X1_byteSaid_29 (gn g)  t0 C = some (r, C2)) {ed : Nat → Nat} {H : Heap} {locs : List Loc} {ls : Array Slot} (hH : HW g ed C Z H) (hS : va_S (gP g) s.heap H locs) (hl : lv_has ls 2 []) : W p l e ({ frames := 0, cells := 0, slots := 0, locals := 0 } : Room) s m args below meth c H locs 0 0 (MQ below (QG (some (.int r)) g C2 Z) args s 0 0 (gP g)) (F0 m 29 ls [.int t0]) := by
  unfold F_X1_byteSaid_29 at h
  cases h
  exact gret_i hC hr hlk hH hS (Nat.le_of_ble_eq_true rfl) (Nat.le_of_ble_eq_true rfl) dX1_byteSaid_29
def F_X1_byteSaid_28 (n : Nat)   (C : St) : Option (Int32 × St) := F_X1_byteSaid_29 n (-1 : Int32) C
set_option maxHeartbeats 4000000 in
set_option maxRecDepth 100000 in
theorem B_X1_byteSaid_28 {p : Program} {l : Launch} {e : Env} {s : State} {m : MethodId} {args : Array Value} {below : List Frame} {meth : Method} {c : Code} {g : GP} {Z : St} (hC : CX p s m args c cX1_byteSaid RX1 g) (hE : EZ g s s.heap) (hml : c.maxLocals = 2) (hr : meth.sig.returnType = (some .int)) (hlk : meth.locks = false) {r : Int32} {C2 : St}  {C : St} (h : F_X1_byteSaid_28 (gn g)   C = some (r, C2)) {ed : Nat → Nat} {H : Heap} {locs : List Loc} {ls : Array Slot} (hH : HW g ed C Z H) (hS : va_S (gP g) s.heap H locs) (hl : lv_has ls 2 []) : W p l e ({ frames := 0, cells := 0, slots := 0, locals := 0 } : Room) s m args below meth c H locs 0 0 (MQ below (QG (some (.int r)) g C2 Z) args s 0 0 (gP g)) (F0 m 28 ls []) := by
  unfold F_X1_byteSaid_28 at h
  refine lv_iconst (v := (-1 : Int32)) hC.1 hC.2.1 dX1_byteSaid_28 (by decide) ?_
  exact B_X1_byteSaid_29 hC hE hml hr hlk h hH hS (lv_sub hl [] rfl)
def F_X1_byteSaid (n : Nat) (x1 : Int32) (C : St) : Option (Int32 × St) := if x1 < 0 then (F_X1_byteSaid_28 n  C) else (if (C 26 0 6 0) ≤ x1 then (F_X1_byteSaid_28 n  C) else (if (600 : Int32) ≤ x1 then (F_X1_byteSaid_28 n  C) else (gd (inb x1 600) (F_X1_byteSaid_29 n (C 27 0 0 x1.toNatClampNeg) C))))
set_option maxHeartbeats 4000000 in
set_option maxRecDepth 100000 in
theorem c_X1_byteSaid {l : Launch} {g : GP} {ed : Nat → Nat} {Z : St} {x1 : Int32} {C : St} {r : Int32} {C2 : St} (h : F_X1_byteSaid (gn g) x1 C = some (r, C2)) : Met l yX1_byteSaid (Cond.code yX1_byteSaid cX1_byteSaid 2 (some .int) :: lwG) ({ frames := 0, cells := 0, slots := 0, locals := 0 } : Room) (va_Pc [.ref (gA g 26 0), .int x1] (PW g C Z ed)) (QG (some (.int r)) g C2 Z) 0 0 (gP g) := by
  refine Met.ofW (cc := cX1_byteSaid) (maxL := 2) (ret := (some .int)) (by decide +kernel) rfl ?_
  intro p e s m args below meth c s₁ B hml hv
  obtain ⟨ha, hC, hE, hr, hlk, hH⟩ := g_start B hv
  subst ha
  have hC : CX p s m ([.ref (gA g 26 0), .int x1] : List Value).toArray c cX1_byteSaid RX1 g := hC
  have hS : va_S (gP g) s.heap s.heap [] := va_S.rf
  obtain ⟨ls, he, hl⟩ := g_entry m (vs := [.ref (gA g 26 0), .int x1]) (n := 2) (List.forall_mem_cons.mpr ⟨rfl, (List.forall_mem_cons.mpr ⟨rfl, (fun _ h => absurd h List.not_mem_nil)⟩)⟩) (Nat.le_of_ble_eq_true rfl)
  rw [he]
  have hl : lv_has ls 2 [(0, .ref (gA g 26 0)), (1, .int x1)] := hl
  unfold F_X1_byteSaid at h
  refine lv_iload_n hC.1 hC.2.1 dX1_byteSaid_0 rfl (lv_at hl 1 rfl) ?_
  refine lv_if_lt (tgt := 28) hC.1 hC.2.1 dX1_byteSaid_1 (by decide) (fun hc1 => ?_) (fun hc1 => ?_)
  · rw [if_pos hc1] at h
    exact B_X1_byteSaid_28 hC hE hml hr hlk h hH hS (lv_sub hl [] rfl)
  · rw [if_neg hc1] at h
    refine lv_iload_n hC.1 hC.2.1 dX1_byteSaid_4 rfl (lv_at hl 1 rfl) ?_
    refine lv_aload_n hC.1 hC.2.1 dX1_byteSaid_5 rfl (lv_at hl 0 rfl) ?_
    refine gf_RX1_153 hC hH rfl dX1_byteSaid_6 ?_
    refine lv_icmp_ge (tgt := 28) hC.1 hC.2.1 dX1_byteSaid_9 (by decide) (fun hc2 => ?_) (fun hc2 => ?_)
    · rw [if_pos hc2] at h
      exact B_X1_byteSaid_28 hC hE hml hr hlk h hH hS (lv_sub hl [] rfl)
    · rw [if_neg hc2] at h
      refine lv_iload_n hC.1 hC.2.1 dX1_byteSaid_12 rfl (lv_at hl 1 rfl) ?_
      refine lv_sipush (v := (600 : Int32)) hC.1 hC.2.1 dX1_byteSaid_13 (by decide) ?_
      refine lv_icmp_ge (tgt := 28) hC.1 hC.2.1 dX1_byteSaid_16 (by decide) (fun hc3 => ?_) (fun hc3 => ?_)
      · rw [if_pos hc3] at h
        exact B_X1_byteSaid_28 hC hE hml hr hlk h hH hS (lv_sub hl [] rfl)
      · rw [if_neg hc3] at h
        refine lv_aload_n hC.1 hC.2.1 dX1_byteSaid_19 rfl (lv_at hl 0 rfl) ?_
        refine gf_RX1_9 hC hH rfl dX1_byteSaid_20 ?_
        refine lv_iload_n hC.1 hC.2.1 dX1_byteSaid_23 rfl (lv_at hl 1 rfl) ?_
        obtain ⟨hg4, h⟩ := gd_some h
        refine al_27 hC hH hg4 rfl dX1_byteSaid_24 ?_
        refine lv_goto (tgt := 29) hC.1 hC.2.1 dX1_byteSaid_25 (by decide) ?_
        exact B_X1_byteSaid_29 hC hE hml hr hlk h hH hS (lv_sub hl [] rfl)
