def F_X11_feed (n : Nat) (x1 : Int32) (x2 : Int32) (x3 : Int32) (x4 : Int32) (C : St) : Option (Int32 × St) := bd2 (F_X8_size n 1 C) (fun r1 D2 => if (r1 + (4 : Int32)) ≤ (200 : Int32) then (bd2 (F_X8_append n 1 x1 D2) (fun r5 D6 => bd2 (F_X8_append n 1 x2 D6) (fun r8 D9 => bd2 (F_X8_append n 1 x3 D9) (fun r11 D12 => bd2 (F_X8_append n 1 x4 D12) (fun r14 D15 => bd2 (F_X8_size n 1 D15) (fun r17 D18 => some (r17, D18))))))) else (some ((-1 : Int32), D2)))
set_option maxHeartbeats 4000000 in
set_option maxRecDepth 100000 in
theorem c_X11_feed {l : Launch} {g : GP} {ed : Nat → Nat} {Z : St} {x1 : Int32} {x2 : Int32} {x3 : Int32} {x4 : Int32} {C : St} {r : Int32} {C2 : St} (h : F_X11_feed (gn g) x1 x2 x3 x4 C = some (r, C2)) : Met l yX11_feed (Cond.code yX11_feed cX11_feed 5 (some .int) :: lwG) ({ frames := 1, cells := 0, slots := 0, locals := 21 } : Room) (va_Pc [.ref (gA g 0 0), .int x1, .int x2, .int x3, .int x4] (PW g C Z ed)) (QG (some (.int r)) g C2 Z) 0 0 (gP g) := by
  refine Met.ofW (cc := cX11_feed) (maxL := 5) (ret := (some .int)) (by decide +kernel) rfl ?_
  intro p e s m args below meth c s₁ B hml hv
  obtain ⟨ha, hC, hE, hr, hlk, hH⟩ := g_start B hv
  subst ha
  have hC : CX p s m ([.ref (gA g 0 0), .int x1, .int x2, .int x3, .int x4] : List Value).toArray c cX11_feed RX11 g := hC
  have hS : va_S (gP g) s.heap s.heap [] := va_S.rf
  obtain ⟨ls, he, hl⟩ := g_entry m (vs := [.ref (gA g 0 0), .int x1, .int x2, .int x3, .int x4]) (n := 5) (List.forall_mem_cons.mpr ⟨rfl, (List.forall_mem_cons.mpr ⟨rfl, (List.forall_mem_cons.mpr ⟨rfl, (List.forall_mem_cons.mpr ⟨rfl, (List.forall_mem_cons.mpr ⟨rfl, (fun _ h => absurd h List.not_mem_nil)⟩)⟩)⟩)⟩)⟩) (Nat.le_of_ble_eq_true rfl)
  rw [he]
  have hl : lv_has ls 5 [(0, .ref (gA g 0 0)), (1, .int x1), (2, .int x2), (3, .int x3), (4, .int x4)] := hl
  unfold F_X11_feed at h
  refine lv_aload_n hC.1 hC.2.1 dX11_feed_0 rfl (lv_at hl 0 rfl) ?_
  refine gf_RX11_84 hC hH rfl dX11_feed_1 ?_
  obtain ⟨r1, D2, hF3, h⟩ := bd2_some h
  refine gcallV (As := []) (rest := []) (Cn := RX8) hC hE hml hH hS (c_X8_size (Nat.le_of_ble_eq_true rfl) hF3) ⟨wd_567, wd_568, wd_569, wd_4, wd_570⟩ hd_X8_size rfl rfl ⟨Nat.le_of_ble_eq_true rfl, Nat.le_of_ble_eq_true rfl⟩ rfl (hw_recv (q := 2) (i := 1) hC hH ⟨(Nat.le_of_ble_eq_true rfl), fun h => absurd h (by decide)⟩ rfl rfl) rfl hl.1 rfl (Nat.le_of_ble_eq_true rfl) dX11_feed_4 ⟨Nat.le_of_ble_eq_true rfl, Nat.le_of_ble_eq_true rfl⟩ (fun ed H locs hH hS => ?_)
  refine W.eq (g2 := F0 m 7 ls [.int r1]) rfl ?_
  refine lv_iconst (v := (4 : Int32)) hC.1 hC.2.1 dX11_feed_7 (by decide) ?_
  refine lv_iadd hC.1 hC.2.1 dX11_feed_8 ?_
  refine lv_sipush (v := (200 : Int32)) hC.1 hC.2.1 dX11_feed_9 (by decide) ?_
  refine lv_icmp_le (tgt := 17) hC.1 hC.2.1 dX11_feed_12 (by decide) (fun hc4 => ?_) (fun hc4 => ?_)
  · rw [if_pos hc4] at h
    refine lv_aload_n hC.1 hC.2.1 dX11_feed_17 rfl (lv_at hl 0 rfl) ?_
    refine gf_RX11_84 hC hH rfl dX11_feed_18 ?_
    refine lv_iload_n hC.1 hC.2.1 dX11_feed_21 rfl (lv_at hl 1 rfl) ?_
    obtain ⟨r5, D6, hF7, h⟩ := bd2_some h
    refine gcallV (As := [.int x1]) (rest := []) (Cn := RX8) hC hE hml hH hS (c_X8_append (Nat.le_of_ble_eq_true rfl) hF7) ⟨wd_571, wd_572, wd_573, wd_4, wd_574⟩ hd_X8_append rfl rfl ⟨Nat.le_of_ble_eq_true rfl, Nat.le_of_ble_eq_true rfl⟩ rfl (hw_recv (q := 2) (i := 1) hC hH ⟨(Nat.le_of_ble_eq_true rfl), fun h => absurd h (by decide)⟩ rfl rfl) rfl hl.1 rfl (Nat.le_of_ble_eq_true rfl) dX11_feed_22 ⟨Nat.le_of_ble_eq_true rfl, Nat.le_of_ble_eq_true rfl⟩ (fun ed H locs hH hS => ?_)
    refine W.eq (g2 := F0 m 25 ls []) rfl ?_
    refine lv_aload_n hC.1 hC.2.1 dX11_feed_25 rfl (lv_at hl 0 rfl) ?_
    refine gf_RX11_84 hC hH rfl dX11_feed_26 ?_
    refine lv_iload_n hC.1 hC.2.1 dX11_feed_29 rfl (lv_at hl 2 rfl) ?_
    obtain ⟨r8, D9, hF10, h⟩ := bd2_some h
    refine gcallV (As := [.int x2]) (rest := []) (Cn := RX8) hC hE hml hH hS (c_X8_append (Nat.le_of_ble_eq_true rfl) hF10) ⟨wd_571, wd_572, wd_573, wd_4, wd_574⟩ hd_X8_append rfl rfl ⟨Nat.le_of_ble_eq_true rfl, Nat.le_of_ble_eq_true rfl⟩ rfl (hw_recv (q := 2) (i := 1) hC hH ⟨(Nat.le_of_ble_eq_true rfl), fun h => absurd h (by decide)⟩ rfl rfl) rfl hl.1 rfl (Nat.le_of_ble_eq_true rfl) dX11_feed_30 ⟨Nat.le_of_ble_eq_true rfl, Nat.le_of_ble_eq_true rfl⟩ (fun ed H locs hH hS => ?_)
    refine W.eq (g2 := F0 m 33 ls []) rfl ?_
    refine lv_aload_n hC.1 hC.2.1 dX11_feed_33 rfl (lv_at hl 0 rfl) ?_
    refine gf_RX11_84 hC hH rfl dX11_feed_34 ?_
    refine lv_iload_n hC.1 hC.2.1 dX11_feed_37 rfl (lv_at hl 3 rfl) ?_
    obtain ⟨r11, D12, hF13, h⟩ := bd2_some h
    refine gcallV (As := [.int x3]) (rest := []) (Cn := RX8) hC hE hml hH hS (c_X8_append (Nat.le_of_ble_eq_true rfl) hF13) ⟨wd_571, wd_572, wd_573, wd_4, wd_574⟩ hd_X8_append rfl rfl ⟨Nat.le_of_ble_eq_true rfl, Nat.le_of_ble_eq_true rfl⟩ rfl (hw_recv (q := 2) (i := 1) hC hH ⟨(Nat.le_of_ble_eq_true rfl), fun h => absurd h (by decide)⟩ rfl rfl) rfl hl.1 rfl (Nat.le_of_ble_eq_true rfl) dX11_feed_38 ⟨Nat.le_of_ble_eq_true rfl, Nat.le_of_ble_eq_true rfl⟩ (fun ed H locs hH hS => ?_)
    refine W.eq (g2 := F0 m 41 ls []) rfl ?_
    refine lv_aload_n hC.1 hC.2.1 dX11_feed_41 rfl (lv_at hl 0 rfl) ?_
    refine gf_RX11_84 hC hH rfl dX11_feed_42 ?_
    refine lv_iload hC.1 hC.2.1 dX11_feed_45 (lv_at hl 4 rfl) ?_
    obtain ⟨r14, D15, hF16, h⟩ := bd2_some h
    refine gcallV (As := [.int x4]) (rest := []) (Cn := RX8) hC hE hml hH hS (c_X8_append (Nat.le_of_ble_eq_true rfl) hF16) ⟨wd_571, wd_572, wd_573, wd_4, wd_574⟩ hd_X8_append rfl rfl ⟨Nat.le_of_ble_eq_true rfl, Nat.le_of_ble_eq_true rfl⟩ rfl (hw_recv (q := 2) (i := 1) hC hH ⟨(Nat.le_of_ble_eq_true rfl), fun h => absurd h (by decide)⟩ rfl rfl) rfl hl.1 rfl (Nat.le_of_ble_eq_true rfl) dX11_feed_47 ⟨Nat.le_of_ble_eq_true rfl, Nat.le_of_ble_eq_true rfl⟩ (fun ed H locs hH hS => ?_)
    refine W.eq (g2 := F0 m 50 ls []) rfl ?_
    refine lv_aload_n hC.1 hC.2.1 dX11_feed_50 rfl (lv_at hl 0 rfl) ?_
    refine gf_RX11_84 hC hH rfl dX11_feed_51 ?_
    obtain ⟨r17, D18, hF19, h⟩ := bd2_some h
    refine gcallV (As := []) (rest := []) (Cn := RX8) hC hE hml hH hS (c_X8_size (Nat.le_of_ble_eq_true rfl) hF19) ⟨wd_567, wd_568, wd_569, wd_4, wd_570⟩ hd_X8_size rfl rfl ⟨Nat.le_of_ble_eq_true rfl, Nat.le_of_ble_eq_true rfl⟩ rfl (hw_recv (q := 2) (i := 1) hC hH ⟨(Nat.le_of_ble_eq_true rfl), fun h => absurd h (by decide)⟩ rfl rfl) rfl hl.1 rfl (Nat.le_of_ble_eq_true rfl) dX11_feed_54 ⟨Nat.le_of_ble_eq_true rfl, Nat.le_of_ble_eq_true rfl⟩ (fun ed H locs hH hS => ?_)
    refine W.eq (g2 := F0 m 57 ls [.int r17]) rfl ?_
    cases h
    exact gret_i hC hr hlk hH hS (Nat.le_of_ble_eq_true rfl) (Nat.le_of_ble_eq_true rfl) dX11_feed_57
  · rw [if_neg hc4] at h
    refine lv_iconst (v := (-1 : Int32)) hC.1 hC.2.1 dX11_feed_15 (by decide) ?_
    cases h
    exact gret_i hC hr hlk hH hS (Nat.le_of_ble_eq_true rfl) (Nat.le_of_ble_eq_true rfl) dX11_feed_16
def F_X11_isDeck_51 (n : Nat)  (t0 : Int32) (C : St) : Option (Int32 × St) := gd (isb t0) (some (t0, C))
set_option maxHeartbeats 4000000 in
set_option maxRecDepth 100000 in
theorem B_X11_isDeck_51 {p : Program} {l : Launch} {e : Env} {s : State} {m : MethodId} {args : Array Value} {below : List Frame} {meth : Method} {c : Code} {g : GP} {Z : St} (hC : CX p s m args c cX11_isDeck RX11 g) (hE : EZ g s s.heap) (hml : c.maxLocals = 4) (hr : meth.sig.returnType = (some .boolean)) (hlk : meth.locks = false) {r : Int32} {C2 : St} {t0 : Int32} {C : St} (h : F_X11_isDeck_51 (gn g)  t0 C = some (r, C2)) {ed : Nat → Nat} {H : Heap} {locs : List Loc} {ls : Array Slot} (hH : HW g ed C Z H) (hS : va_S (gP g) s.heap H locs) (hl : lv_has ls 4 []) : W p l e ({ frames := 1, cells := 0, slots := 0, locals := 20 } : Room) s m args below meth c H locs 0 0 (MQ below (QG (some (.int r)) g C2 Z) args s 0 0 (gP g)) (F0 m 51 ls [.int t0]) := by
  unfold F_X11_isDeck_51 at h
  obtain ⟨hg1, h⟩ := gd_some h
  cases h
  exact gret_z hC hr hlk hg1 hH hS (Nat.le_of_ble_eq_true rfl) (Nat.le_of_ble_eq_true rfl) dX11_isDeck_51
def F_X11_isDeck_50 (n : Nat)   (C : St) : Option (Int32 × St) := F_X11_isDeck_51 n (0 : Int32) C
set_option maxHeartbeats 4000000 in
set_option maxRecDepth 100000 in
theorem B_X11_isDeck_50 {p : Program} {l : Launch} {e : Env} {s : State} {m : MethodId} {args : Array Value} {below : List Frame} {meth : Method} {c : Code} {g : GP} {Z : St} (hC : CX p s m args c cX11_isDeck RX11 g) (hE : EZ g s s.heap) (hml : c.maxLocals = 4) (hr : meth.sig.returnType = (some .boolean)) (hlk : meth.locks = false) {r : Int32} {C2 : St}  {C : St} (h : F_X11_isDeck_50 (gn g)   C = some (r, C2)) {ed : Nat → Nat} {H : Heap} {locs : List Loc} {ls : Array Slot} (hH : HW g ed C Z H) (hS : va_S (gP g) s.heap H locs) (hl : lv_has ls 4 []) : W p l e ({ frames := 1, cells := 0, slots := 0, locals := 20 } : Room) s m args below meth c H locs 0 0 (MQ below (QG (some (.int r)) g C2 Z) args s 0 0 (gP g)) (F0 m 50 ls []) := by
  unfold F_X11_isDeck_50 at h
  refine lv_iconst (v := (0 : Int32)) hC.1 hC.2.1 dX11_isDeck_50 (by decide) ?_
  exact B_X11_isDeck_51 hC hE hml hr hlk h hH hS (lv_sub hl [] rfl)
def F_X11_isDeck (n : Nat) (x1 : Int32) (x2 : Int32) (x3 : Int32) (C : St) : Option (Int32 × St) := if x3 < (1 : Int32) then (F_X11_isDeck_50 n  C) else (if (8 : Int32) < x3 then (F_X11_isDeck_50 n  C) else (if x1 < 0 then (F_X11_isDeck_50 n  C) else (if (x3 * (16 : Int32)) < x1 then (F_X11_isDeck_50 n  C) else (if x2 < 0 then (F_X11_isDeck_50 n  C) else (if (40 : Int32) < x2 then (F_X11_isDeck_50 n  C) else (bd2 (F_X8_size n 1 C) (fun r7 D8 => if r7 < (x1 + x2) then (F_X11_isDeck_50 n  D8) else (F_X11_isDeck_51 n (1 : Int32) D8))))))))
set_option maxHeartbeats 4000000 in
set_option maxRecDepth 100000 in
theorem c_X11_isDeck {l : Launch} {g : GP} {ed : Nat → Nat} {Z : St} {x1 : Int32} {x2 : Int32} {x3 : Int32} {C : St} {r : Int32} {C2 : St} (h : F_X11_isDeck (gn g) x1 x2 x3 C = some (r, C2)) : Met l yX11_isDeck (Cond.code yX11_isDeck cX11_isDeck 4 (some .boolean) :: lwG) ({ frames := 1, cells := 0, slots := 0, locals := 20 } : Room) (va_Pc [.ref (gA g 0 0), .int x1, .int x2, .int x3] (PW g C Z ed)) (QG (some (.int r)) g C2 Z) 0 0 (gP g) := by
  refine Met.ofW (cc := cX11_isDeck) (maxL := 4) (ret := (some .boolean)) (by decide +kernel) rfl ?_
  intro p e s m args below meth c s₁ B hml hv
  obtain ⟨ha, hC, hE, hr, hlk, hH⟩ := g_start B hv
  subst ha
  have hC : CX p s m ([.ref (gA g 0 0), .int x1, .int x2, .int x3] : List Value).toArray c cX11_isDeck RX11 g := hC
  have hS : va_S (gP g) s.heap s.heap [] := va_S.rf
  obtain ⟨ls, he, hl⟩ := g_entry m (vs := [.ref (gA g 0 0), .int x1, .int x2, .int x3]) (n := 4) (List.forall_mem_cons.mpr ⟨rfl, (List.forall_mem_cons.mpr ⟨rfl, (List.forall_mem_cons.mpr ⟨rfl, (List.forall_mem_cons.mpr ⟨rfl, (fun _ h => absurd h List.not_mem_nil)⟩)⟩)⟩)⟩) (Nat.le_of_ble_eq_true rfl)
  rw [he]
  have hl : lv_has ls 4 [(0, .ref (gA g 0 0)), (1, .int x1), (2, .int x2), (3, .int x3)] := hl
  unfold F_X11_isDeck at h
  refine lv_iload_n hC.1 hC.2.1 dX11_isDeck_0 rfl (lv_at hl 3 rfl) ?_
  refine lv_iconst (v := (1 : Int32)) hC.1 hC.2.1 dX11_isDeck_1 (by decide) ?_
  refine lv_icmp_lt (tgt := 50) hC.1 hC.2.1 dX11_isDeck_2 (by decide) (fun hc1 => ?_) (fun hc1 => ?_)
  · rw [if_pos hc1] at h
    exact B_X11_isDeck_50 hC hE hml hr hlk h hH hS (lv_sub hl [] rfl)
  · rw [if_neg hc1] at h
    refine lv_iload_n hC.1 hC.2.1 dX11_isDeck_5 rfl (lv_at hl 3 rfl) ?_
    refine lv_bipush (v := (8 : Int32)) hC.1 hC.2.1 dX11_isDeck_6 (by decide) ?_
    refine lv_icmp_gt (tgt := 50) hC.1 hC.2.1 dX11_isDeck_8 (by decide) (fun hc2 => ?_) (fun hc2 => ?_)
    · rw [if_pos hc2] at h
      exact B_X11_isDeck_50 hC hE hml hr hlk h hH hS (lv_sub hl [] rfl)
    · rw [if_neg hc2] at h
      refine lv_iload_n hC.1 hC.2.1 dX11_isDeck_11 rfl (lv_at hl 1 rfl) ?_
      refine lv_if_lt (tgt := 50) hC.1 hC.2.1 dX11_isDeck_12 (by decide) (fun hc3 => ?_) (fun hc3 => ?_)
      · rw [if_pos hc3] at h
        exact B_X11_isDeck_50 hC hE hml hr hlk h hH hS (lv_sub hl [] rfl)
      · rw [if_neg hc3] at h
        refine lv_iload_n hC.1 hC.2.1 dX11_isDeck_15 rfl (lv_at hl 1 rfl) ?_
        refine lv_iload_n hC.1 hC.2.1 dX11_isDeck_16 rfl (lv_at hl 3 rfl) ?_
        refine lv_bipush (v := (16 : Int32)) hC.1 hC.2.1 dX11_isDeck_17 (by decide) ?_
        refine lv_imul hC.1 hC.2.1 dX11_isDeck_19 ?_
        refine lv_icmp_gt (tgt := 50) hC.1 hC.2.1 dX11_isDeck_20 (by decide) (fun hc4 => ?_) (fun hc4 => ?_)
        · rw [if_pos hc4] at h
          exact B_X11_isDeck_50 hC hE hml hr hlk h hH hS (lv_sub hl [] rfl)
        · rw [if_neg hc4] at h
          refine lv_iload_n hC.1 hC.2.1 dX11_isDeck_23 rfl (lv_at hl 2 rfl) ?_
          refine lv_if_lt (tgt := 50) hC.1 hC.2.1 dX11_isDeck_24 (by decide) (fun hc5 => ?_) (fun hc5 => ?_)
          · rw [if_pos hc5] at h
            exact B_X11_isDeck_50 hC hE hml hr hlk h hH hS (lv_sub hl [] rfl)
          · rw [if_neg hc5] at h
            refine lv_iload_n hC.1 hC.2.1 dX11_isDeck_27 rfl (lv_at hl 2 rfl) ?_
            refine lv_bipush (v := (40 : Int32)) hC.1 hC.2.1 dX11_isDeck_28 (by decide) ?_
            refine lv_icmp_gt (tgt := 50) hC.1 hC.2.1 dX11_isDeck_30 (by decide) (fun hc6 => ?_) (fun hc6 => ?_)
            · rw [if_pos hc6] at h
              exact B_X11_isDeck_50 hC hE hml hr hlk h hH hS (lv_sub hl [] rfl)
            · rw [if_neg hc6] at h
              refine lv_iload_n hC.1 hC.2.1 dX11_isDeck_33 rfl (lv_at hl 1 rfl) ?_
              refine lv_iload_n hC.1 hC.2.1 dX11_isDeck_34 rfl (lv_at hl 2 rfl) ?_
              refine lv_iadd hC.1 hC.2.1 dX11_isDeck_35 ?_
              refine lv_aload_n hC.1 hC.2.1 dX11_isDeck_36 rfl (lv_at hl 0 rfl) ?_
              refine gf_RX11_84 hC hH rfl dX11_isDeck_37 ?_
              obtain ⟨r7, D8, hF9, h⟩ := bd2_some h
              refine gcallV (As := []) (rest := [.int (x1 + x2)]) (Cn := RX8) hC hE hml hH hS (c_X8_size (Nat.le_of_ble_eq_true rfl) hF9) ⟨wd_567, wd_568, wd_569, wd_4, wd_570⟩ hd_X8_size rfl rfl ⟨Nat.le_of_ble_eq_true rfl, Nat.le_of_ble_eq_true rfl⟩ rfl (hw_recv (q := 2) (i := 1) hC hH ⟨(Nat.le_of_ble_eq_true rfl), fun h => absurd h (by decide)⟩ rfl rfl) rfl hl.1 rfl (Nat.le_of_ble_eq_true rfl) dX11_isDeck_40 ⟨Nat.le_of_ble_eq_true rfl, Nat.le_of_ble_eq_true rfl⟩ (fun ed H locs hH hS => ?_)
              refine W.eq (g2 := F0 m 43 ls [.int r7, .int (x1 + x2)]) rfl ?_
              refine lv_icmp_gt (tgt := 50) hC.1 hC.2.1 dX11_isDeck_43 (by decide) (fun hc10 => ?_) (fun hc10 => ?_)
              · rw [if_pos hc10] at h
                exact B_X11_isDeck_50 hC hE hml hr hlk h hH hS (lv_sub hl [] rfl)
              · rw [if_neg hc10] at h
                refine lv_iconst (v := (1 : Int32)) hC.1 hC.2.1 dX11_isDeck_46 (by decide) ?_
                refine lv_goto (tgt := 51) hC.1 hC.2.1 dX11_isDeck_47 (by decide) ?_
                exact B_X11_isDeck_51 hC hE hml hr hlk h hH hS (lv_sub hl [] rfl)
def F_X11_vacantJob_36 (n : Nat)  (x1 : Int32) (C : St) : Option (Int32 × St) := gd (inb x1 6) (some (x1, C))
set_option maxHeartbeats 4000000 in
set_option maxRecDepth 100000 in
theorem B_X11_vacantJob_36 {p : Program} {l : Launch} {e : Env} {s : State} {m : MethodId} {args : Array Value} {below : List Frame} {meth : Method} {c : Code} {g : GP} {Z : St} (hC : CX p s m args c cX11_vacantJob RX11 g) (hE : EZ g s s.heap) (hml : c.maxLocals = 2) (hr : meth.sig.returnType = (some (.object "DrumLayers$Job"))) (hlk : meth.locks = false) {r : Int32} {C2 : St} {x1 : Int32} {C : St} (h : F_X11_vacantJob_36 (gn g)  x1 C = some (r, C2)) {ed : Nat → Nat} {H : Heap} {locs : List Loc} {ls : Array Slot} (hH : HW g ed C Z H) (hS : va_S (gP g) s.heap H locs) (hl : lv_has ls 2 [(0, .ref (gA g 0 0)), (1, .int x1)]) : W p l e ({ frames := 0, cells := 0, slots := 0, locals := 0 } : Room) s m args below meth c H locs 0 0 (MQ below (QG (some (rfv (gA g) 6 r)) g C2 Z) args s 0 0 (gP g)) (F0 m 36 ls []) := by
  unfold F_X11_vacantJob_36 at h
  refine lv_aload_n hC.1 hC.2.1 dX11_vacantJob_36 rfl (lv_at hl 0 rfl) ?_
  refine gf_RX11_24 hC hH rfl dX11_vacantJob_37 ?_
  refine lv_iload_n hC.1 hC.2.1 dX11_vacantJob_40 rfl (lv_at hl 1 rfl) ?_
  obtain ⟨hg1, h⟩ := gd_some h
  refine aa_11 hC hH hg1 rfl dX11_vacantJob_41 ?_
  cases h
  exact gret_a hC hr hlk hH hS (Nat.le_of_ble_eq_true rfl) (Nat.le_of_ble_eq_true rfl) dX11_vacantJob_42
def F_X11_vacantJob_2 (n : Nat)  : Nat → Int32 → St → Option (Int32 × St)
  | 0, _, _ => none
  | fu + 1, x1, C => if (6 : Int32) ≤ x1 then (some ((-1), C)) else (gd (inb x1 6) (if (C 6 x1.toNatClampNeg 7 0) = 0 then (F_X11_vacantJob_36 n x1 C) else (if (C 6 x1.toNatClampNeg 7 0) = (3 : Int32) then (F_X11_vacantJob_36 n x1 C) else (F_X11_vacantJob_2 n fu (x1 + 1) C))))
set_option maxHeartbeats 4000000 in
set_option maxRecDepth 100000 in
theorem B_X11_vacantJob_2 {p : Program} {l : Launch} {e : Env} {s : State} {m : MethodId} {args : Array Value} {below : List Frame} {meth : Method} {c : Code} {g : GP} {Z : St} (hC : CX p s m args c cX11_vacantJob RX11 g) (hE : EZ g s s.heap) (hml : c.maxLocals = 2) (hr : meth.sig.returnType = (some (.object "DrumLayers$Job"))) (hlk : meth.locks = false) {r : Int32} {C2 : St} : ∀ (fu : Nat) (x1 : Int32) (C : St), F_X11_vacantJob_2 (gn g)  fu x1 C = some (r, C2) → ∀ (ed : Nat → Nat) (H : Heap) (locs : List Loc) (ls : Array Slot), HW g ed C Z H → va_S (gP g) s.heap H locs → lv_has ls 2 [(0, .ref (gA g 0 0)), (1, .int x1)] → W p l e ({ frames := 0, cells := 0, slots := 0, locals := 0 } : Room) s m args below meth c H locs 0 0 (MQ below (QG (some (rfv (gA g) 6 r)) g C2 Z) args s 0 0 (gP g)) (F0 m 2 ls []) := by
  intro fu
  induction fu with
  | zero =>
    intro x1 C h
    cases h
  | succ fu ih =>
    intro x1 C h ed H locs ls hH hS hl
    rw [F_X11_vacantJob_2] at h
    refine lv_iload_n hC.1 hC.2.1 dX11_vacantJob_2 rfl (lv_at hl 1 rfl) ?_
    refine lv_aload_n hC.1 hC.2.1 dX11_vacantJob_3 rfl (lv_at hl 0 rfl) ?_
    refine gf_RX11_24 hC hH rfl dX11_vacantJob_4 ?_
    refine ln_11 hC hH rfl dX11_vacantJob_7 ?_
    refine lv_icmp_ge (tgt := 49) hC.1 hC.2.1 dX11_vacantJob_8 (by decide) (fun hc1 => ?_) (fun hc1 => ?_)
    · rw [if_pos hc1] at h
      refine lv_null hC.1 hC.2.1 dX11_vacantJob_49 ?_
      cases h
      refine W.eq (g2 := F0 m 50 ls [rfv (gA g) 6 (-1)]) (by simp only [rfv_m1]) ?_
      exact gret_a hC hr hlk hH hS (Nat.le_of_ble_eq_true rfl) (Nat.le_of_ble_eq_true rfl) dX11_vacantJob_50
    · rw [if_neg hc1] at h
      refine lv_aload_n hC.1 hC.2.1 dX11_vacantJob_11 rfl (lv_at hl 0 rfl) ?_
      refine gf_RX11_24 hC hH rfl dX11_vacantJob_12 ?_
      refine lv_iload_n hC.1 hC.2.1 dX11_vacantJob_15 rfl (lv_at hl 1 rfl) ?_
      obtain ⟨hg2, h⟩ := gd_some h
      refine aa_11 hC hH hg2 rfl dX11_vacantJob_16 ?_
      refine gf_RX11_183 hC hH (inb_lt hg2) (rfv_in hg2) dX11_vacantJob_17 ?_
      refine lv_if_eq (tgt := 36) hC.1 hC.2.1 dX11_vacantJob_20 (by decide) (fun hc3 => ?_) (fun hc3 => ?_)
      · rw [if_pos hc3] at h
        exact B_X11_vacantJob_36 hC hE hml hr hlk h hH hS (lv_sub hl [0, 1] rfl)
      · rw [if_neg hc3] at h
        refine lv_aload_n hC.1 hC.2.1 dX11_vacantJob_23 rfl (lv_at hl 0 rfl) ?_
        refine gf_RX11_24 hC hH rfl dX11_vacantJob_24 ?_
        refine lv_iload_n hC.1 hC.2.1 dX11_vacantJob_27 rfl (lv_at hl 1 rfl) ?_
        refine aa_11 hC hH hg2 rfl dX11_vacantJob_28 ?_
        refine gf_RX11_183 hC hH (inb_lt hg2) (rfv_in hg2) dX11_vacantJob_29 ?_
        refine lv_iconst (v := (3 : Int32)) hC.1 hC.2.1 dX11_vacantJob_32 (by decide) ?_
        refine lv_icmp_ne (tgt := 43) hC.1 hC.2.1 dX11_vacantJob_33 (by decide) (fun hc4 => ?_) (fun hc4 => ?_)
        · rw [if_neg hc4] at h
          refine lv_iinc (v := x1 + 1) (lv' := [(1, .int (x1 + 1)), (0, .ref (gA g 0 0))]) hC.1 hC.2.1 dX11_vacantJob_43 hl (k := 1) rfl rfl (by decide) rfl (fun ls hl => ?_)
          refine lv_goto (tgt := 2) hC.1 hC.2.1 dX11_vacantJob_46 (by decide) ?_
          exact ih _ _ h _ _ _ _ hH hS (lv_sub hl [1, 0] rfl)
        · rw [if_pos hc4] at h
          exact B_X11_vacantJob_36 hC hE hml hr hlk h hH hS (lv_sub hl [0, 1] rfl)
def F_X11_vacantJob (n : Nat)  (C : St) : Option (Int32 × St) := F_X11_vacantJob_2 n 1000 (0 : Int32) C
set_option maxHeartbeats 4000000 in
set_option maxRecDepth 100000 in
theorem c_X11_vacantJob {l : Launch} {g : GP} {ed : Nat → Nat} {Z : St}  {C : St} {r : Int32} {C2 : St} (h : F_X11_vacantJob (gn g)  C = some (r, C2)) : Met l yX11_vacantJob (Cond.code yX11_vacantJob cX11_vacantJob 2 (some (.object "DrumLayers$Job")) :: lwG) ({ frames := 0, cells := 0, slots := 0, locals := 0 } : Room) (va_Pc [.ref (gA g 0 0)] (PW g C Z ed)) (QG (some (rfv (gA g) 6 r)) g C2 Z) 0 0 (gP g) := by
  refine Met.ofW (cc := cX11_vacantJob) (maxL := 2) (ret := (some (.object "DrumLayers$Job"))) (by decide +kernel) rfl ?_
  intro p e s m args below meth c s₁ B hml hv
  obtain ⟨ha, hC, hE, hr, hlk, hH⟩ := g_start B hv
  subst ha
  have hC : CX p s m ([.ref (gA g 0 0)] : List Value).toArray c cX11_vacantJob RX11 g := hC
  have hS : va_S (gP g) s.heap s.heap [] := va_S.rf
  obtain ⟨ls, he, hl⟩ := g_entry m (vs := [.ref (gA g 0 0)]) (n := 2) (List.forall_mem_cons.mpr ⟨rfl, (fun _ h => absurd h List.not_mem_nil)⟩) (Nat.le_of_ble_eq_true rfl)
  rw [he]
  have hl : lv_has ls 2 [(0, .ref (gA g 0 0))] := hl
  unfold F_X11_vacantJob at h
  refine lv_iconst (v := (0 : Int32)) hC.1 hC.2.1 dX11_vacantJob_0 (by decide) ?_
  refine lv_istore_n (i := 1) (lv' := [(1, .int (0 : Int32)), (0, .ref (gA g 0 0))]) hC.1 hC.2.1 dX11_vacantJob_1 rfl hl (by decide) rfl (fun ls hl => ?_)
  exact B_X11_vacantJob_2 hC hE hml hr hlk 1000 _ _ h _ _ _ _ hH hS (lv_sub hl [1, 0] rfl)
def F_X11_submit_141 (n : Nat)  (t0 : Int32) (C : St) : Option (Int32 × St) := some (t0, C)
set_option maxHeartbeats 4000000 in
set_option maxRecDepth 100000 in
theorem B_X11_submit_141 {p : Program} {l : Launch} {e : Env} {s : State} {m : MethodId} {args : Array Value} {below : List Frame} {meth : Method} {c : Code} {g : GP} {Z : St} (hC : CX p s m args c cX11_submit RX11 g) (hE : EZ g s s.heap) (hml : c.maxLocals = 8) (hr : meth.sig.returnType = (some .int)) (hlk : meth.locks = false) {r : Int32} {C2 : St} {t0 : Int32} {C : St} (h : F_X11_submit_141 (gn g)  t0 C = some (r, C2)) {ed : Nat → Nat} {H : Heap} {locs : List Loc} {ls : Array Slot} (hH : HW g ed C Z H) (hS : va_S (gP g) s.heap H locs) (hl : lv_has ls 8 []) : W p l e ({ frames := 3, cells := 0, slots := 0, locals := 67 } : Room) s m args below meth c H locs 0 0 (MQ below (QG (some (.int r)) g C2 Z) args s 0 0 (gP g)) (F0 m 141 ls [.int t0]) := by
  unfold F_X11_submit_141 at h
  cases h
  exact gret_i hC hr hlk hH hS (Nat.le_of_ble_eq_true rfl) (Nat.le_of_ble_eq_true rfl) dX11_submit_141
def F_X11_submit_120 (n : Nat)  (x7 : Int32) (C : St) : Option (Int32 × St) := bd2 (F_X8_clear n 1 C) (fun r1 D2 => if x7 < 0 then (F_X11_submit_141 n (-1 : Int32) D2) else (gd (inb x7 6) (F_X11_submit_141 n (D2 6 x7.toNatClampNeg 0 0) D2)))
set_option maxHeartbeats 4000000 in
set_option maxRecDepth 100000 in
theorem B_X11_submit_120 {p : Program} {l : Launch} {e : Env} {s : State} {m : MethodId} {args : Array Value} {below : List Frame} {meth : Method} {c : Code} {g : GP} {Z : St} (hC : CX p s m args c cX11_submit RX11 g) (hE : EZ g s s.heap) (hml : c.maxLocals = 8) (hr : meth.sig.returnType = (some .int)) (hlk : meth.locks = false) {r : Int32} {C2 : St} {x7 : Int32} {C : St} (h : F_X11_submit_120 (gn g)  x7 C = some (r, C2)) {ed : Nat → Nat} {H : Heap} {locs : List Loc} {ls : Array Slot} (hH : HW g ed C Z H) (hS : va_S (gP g) s.heap H locs) (hl : lv_has ls 8 [(0, .ref (gA g 0 0)), (7, rfv (gA g) 6 x7)]) : W p l e ({ frames := 3, cells := 0, slots := 0, locals := 67 } : Room) s m args below meth c H locs 0 0 (MQ below (QG (some (.int r)) g C2 Z) args s 0 0 (gP g)) (F0 m 120 ls []) := by
  unfold F_X11_submit_120 at h
  refine lv_aload_n hC.1 hC.2.1 dX11_submit_120 rfl (lv_at hl 0 rfl) ?_
  refine gf_RX11_84 hC hH rfl dX11_submit_121 ?_
  obtain ⟨r1, D2, hF3, h⟩ := bd2_some h
  refine gcallV (As := []) (rest := []) (Cn := RX8) hC hE hml hH hS (c_X8_clear (Nat.le_of_ble_eq_true rfl) hF3) ⟨wd_608, wd_592, wd_593, wd_4, wd_594⟩ hd_X8_clear rfl rfl ⟨Nat.le_of_ble_eq_true rfl, Nat.le_of_ble_eq_true rfl⟩ rfl (hw_recv (q := 2) (i := 1) hC hH ⟨(Nat.le_of_ble_eq_true rfl), fun h => absurd h (by decide)⟩ rfl rfl) rfl hl.1 rfl (Nat.le_of_ble_eq_true rfl) dX11_submit_124 ⟨Nat.le_of_ble_eq_true rfl, Nat.le_of_ble_eq_true rfl⟩ (fun ed H locs hH hS => ?_)
  refine W.eq (g2 := F0 m 127 ls []) rfl ?_
  refine gl_aload hC dX11_submit_127 (lv_at hl 1 rfl) ?_
  refine gl_ifnonnull (tgt := 136) hC dX11_submit_129 (by decide) (fun hc4 => ?_) (fun hc4 => ?_)
  · rw [if_neg hc4] at h
    refine gl_aload hC dX11_submit_136 (lv_at hl 1 rfl) ?_
    obtain ⟨hg5, h⟩ := gd_some h
    refine gf_RX11_129 hC hH (inb_lt hg5) (rfv_in hg5) dX11_submit_138 ?_
    exact B_X11_submit_141 hC hE hml hr hlk h hH hS (lv_sub hl [] rfl)
  · rw [if_pos hc4] at h
    refine lv_iconst (v := (-1 : Int32)) hC.1 hC.2.1 dX11_submit_132 (by decide) ?_
    refine lv_goto (tgt := 141) hC.1 hC.2.1 dX11_submit_133 (by decide) ?_
    exact B_X11_submit_141 hC hE hml hr hlk h hH hS (lv_sub hl [] rfl)
def F_X11_submit_63 (n : Nat)  (x1 : Int32) (x2 : Int32) (x3 : Int32) (x4 : Int32) (x5 : Int32) (t0 : Int32) (C : St) : Option (Int32 × St) := if t0 < 0 then (F_X11_submit_120 n t0 C) else (st (up C 0 0 9 0 ((C 0 0 9 0) + (1 : Int32))) (fun D2 => gd (inb t0 6) (bd2 (F_X5_renew n t0 (D2 0 0 9 0) D2) (fun r4 D5 => st (up D5 6 t0.toNatClampNeg 9 0 x3) (fun D8 => st (up D8 6 t0.toNatClampNeg 10 0 x4) (fun D10 => bd2 (F_X5_claim n t0 x5 D10) (fun r12 D13 => bd2 (F_X5_load n t0 x1 x2 D13) (fun r15 D16 => F_X11_submit_120 n t0 D16))))))))
set_option maxHeartbeats 4000000 in
set_option maxRecDepth 100000 in
theorem B_X11_submit_63 {p : Program} {l : Launch} {e : Env} {s : State} {m : MethodId} {args : Array Value} {below : List Frame} {meth : Method} {c : Code} {g : GP} {Z : St} (hC : CX p s m args c cX11_submit RX11 g) (hE : EZ g s s.heap) (hml : c.maxLocals = 8) (hr : meth.sig.returnType = (some .int)) (hlk : meth.locks = false) {r : Int32} {C2 : St} {x1 : Int32} {x2 : Int32} {x3 : Int32} {x4 : Int32} {x5 : Int32} {t0 : Int32} {C : St} (h : F_X11_submit_63 (gn g)  x1 x2 x3 x4 x5 t0 C = some (r, C2)) {ed : Nat → Nat} {H : Heap} {locs : List Loc} {ls : Array Slot} (hH : HW g ed C Z H) (hS : va_S (gP g) s.heap H locs) (hl : lv_has ls 8 [(0, .ref (gA g 0 0)), (1, .int x1), (2, .int x2), (3, .int x3), (4, .int x4), (5, .int x5)]) : W p l e ({ frames := 3, cells := 0, slots := 0, locals := 67 } : Room) s m args below meth c H locs 0 0 (MQ below (QG (some (.int r)) g C2 Z) args s 0 0 (gP g)) (F0 m 63 ls [rfv (gA g) 6 t0]) := by
  unfold F_X11_submit_63 at h
  refine gl_astore (lv' := [(7, rfv (gA g) 6 t0), (0, .ref (gA g 0 0)), (1, .int x1), (2, .int x2), (3, .int x3), (4, .int x4), (5, .int x5)]) hC dX11_submit_63 hl (by decide) rfl (fun ls hl => ?_)
  refine gl_aload hC dX11_submit_65 (lv_at hl 0 rfl) ?_
  refine gl_ifnull (tgt := 120) hC dX11_submit_67 (by decide) (fun hc1 => ?_) (fun hc1 => ?_)
  · rw [if_pos hc1] at h
    exact B_X11_submit_120 hC hE hml hr hlk h hH hS (lv_sub hl [1, 0] rfl)
  · rw [if_neg hc1] at h
    refine lv_aload_n hC.1 hC.2.1 dX11_submit_70 rfl (lv_at hl 1 rfl) ?_
    refine lv_dup hC.1 hC.2.1 dX11_submit_71 rfl ?_
    refine gf_RX11_107 hC hH rfl dX11_submit_72 ?_
    refine lv_iconst (v := (1 : Int32)) hC.1 hC.2.1 dX11_submit_75 (by decide) ?_
    refine lv_iadd hC.1 hC.2.1 dX11_submit_76 ?_
    obtain ⟨D2, e3, h⟩ := st_some h
    refine pf_RX11_107 hC hH hS  rfl dX11_submit_77 (fun H locs hH hS => ?_)
    rw [← e3] at hH
    refine gl_aload hC dX11_submit_80 (lv_at hl 0 rfl) ?_
    refine lv_aload_n hC.1 hC.2.1 dX11_submit_82 rfl (lv_at hl 1 rfl) ?_
    refine gf_RX11_107 hC hH rfl dX11_submit_83 ?_
    obtain ⟨hg7, h⟩ := gd_some h
    obtain ⟨r4, D5, hF6, h⟩ := bd2_some h
    refine gcallV (As := [.int (D2 0 0 9 0)]) (rest := []) (Cn := RX5) hC hE hml hH hS (c_X5_renew hF6) ⟨wd_587, wd_588, wd_589, wd_5, wd_590⟩ hd_X5_renew rfl rfl ⟨Nat.le_of_ble_eq_true rfl, Nat.le_of_ble_eq_true rfl⟩ (rfv_in hg7) (hw_recv (q := 6) (i := t0.toNatClampNeg) hC hH ⟨(inb_lt hg7), fun h => absurd h (by decide)⟩ rfl rfl) rfl hl.1 rfl (Nat.le_of_ble_eq_true rfl) dX11_submit_86 ⟨Nat.le_of_ble_eq_true rfl, Nat.le_of_ble_eq_true rfl⟩ (fun ed H locs hH hS => ?_)
    refine W.eq (g2 := F0 m 89 ls []) rfl ?_
    refine gl_aload hC dX11_submit_89 (lv_at hl 0 rfl) ?_
    refine lv_iload_n hC.1 hC.2.1 dX11_submit_91 rfl (lv_at hl 4 rfl) ?_
    obtain ⟨D8, e9, h⟩ := st_some h
    refine pf_RX11_113 hC hH hS (inb_lt hg7)  (rfv_in hg7) dX11_submit_92 (fun H locs hH hS => ?_)
    rw [← e9] at hH
    refine gl_aload hC dX11_submit_95 (lv_at hl 0 rfl) ?_
    refine lv_iload hC.1 hC.2.1 dX11_submit_97 (lv_at hl 5 rfl) ?_
    obtain ⟨D10, e11, h⟩ := st_some h
    refine pf_RX11_116 hC hH hS (inb_lt hg7)  (rfv_in hg7) dX11_submit_99 (fun H locs hH hS => ?_)
    rw [← e11] at hH
    refine gl_aload hC dX11_submit_102 (lv_at hl 0 rfl) ?_
    refine lv_iload hC.1 hC.2.1 dX11_submit_104 (lv_at hl 6 rfl) ?_
    obtain ⟨r12, D13, hF14, h⟩ := bd2_some h
    refine gcallV (As := [.int x5]) (rest := []) (Cn := RX5) hC hE hml hH hS (c_X5_claim hF14) ⟨wd_595, wd_596, wd_597, wd_5, wd_598⟩ hd_X5_claim rfl rfl ⟨Nat.le_of_ble_eq_true rfl, Nat.le_of_ble_eq_true rfl⟩ (rfv_in hg7) (hw_recv (q := 6) (i := t0.toNatClampNeg) hC hH ⟨(inb_lt hg7), fun h => absurd h (by decide)⟩ rfl rfl) rfl hl.1 rfl (Nat.le_of_ble_eq_true rfl) dX11_submit_106 ⟨Nat.le_of_ble_eq_true rfl, Nat.le_of_ble_eq_true rfl⟩ (fun ed H locs hH hS => ?_)
    refine W.eq (g2 := F0 m 109 ls []) rfl ?_
    refine gl_aload hC dX11_submit_109 (lv_at hl 0 rfl) ?_
    refine lv_aload_n hC.1 hC.2.1 dX11_submit_111 rfl (lv_at hl 1 rfl) ?_
    refine gf_RX11_84 hC hH rfl dX11_submit_112 ?_
    refine lv_iload_n hC.1 hC.2.1 dX11_submit_115 rfl (lv_at hl 2 rfl) ?_
    refine lv_iload_n hC.1 hC.2.1 dX11_submit_116 rfl (lv_at hl 3 rfl) ?_
    obtain ⟨r15, D16, hF17, h⟩ := bd2_some h
    refine gcallV (As := [.ref (gA g 2 1), .int x1, .int x2]) (rest := []) (Cn := RX5) hC hE hml hH hS (c_X5_load hF17) ⟨wd_599, wd_600, wd_601, wd_5, wd_602⟩ hd_X5_load rfl rfl ⟨Nat.le_of_ble_eq_true rfl, Nat.le_of_ble_eq_true rfl⟩ (rfv_in hg7) (hw_recv (q := 6) (i := t0.toNatClampNeg) hC hH ⟨(inb_lt hg7), fun h => absurd h (by decide)⟩ rfl rfl) rfl hl.1 rfl (Nat.le_of_ble_eq_true rfl) dX11_submit_117 ⟨Nat.le_of_ble_eq_true rfl, Nat.le_of_ble_eq_true rfl⟩ (fun ed H locs hH hS => ?_)
    refine W.eq (g2 := F0 m 120 ls []) rfl ?_
    exact B_X11_submit_120 hC hE hml hr hlk h hH hS (lv_sub hl [1, 0] rfl)
def F_X11_submit_48 (n : Nat)  (x1 : Int32) (x2 : Int32) (x3 : Int32) (x4 : Int32) (x5 : Int32) (t0 : Int32) (C : St) : Option (Int32 × St) := if t0 = 0 then (F_X11_submit_63 n x1 x2 x3 x4 x5 (-1) C) else (bd2 (F_X11_vacantJob n  C) (fun r2 D3 => F_X11_submit_63 n x1 x2 x3 x4 x5 r2 D3))
set_option maxHeartbeats 4000000 in
set_option maxRecDepth 100000 in
theorem B_X11_submit_48 {p : Program} {l : Launch} {e : Env} {s : State} {m : MethodId} {args : Array Value} {below : List Frame} {meth : Method} {c : Code} {g : GP} {Z : St} (hC : CX p s m args c cX11_submit RX11 g) (hE : EZ g s s.heap) (hml : c.maxLocals = 8) (hr : meth.sig.returnType = (some .int)) (hlk : meth.locks = false) {r : Int32} {C2 : St} {x1 : Int32} {x2 : Int32} {x3 : Int32} {x4 : Int32} {x5 : Int32} {t0 : Int32} {C : St} (h : F_X11_submit_48 (gn g)  x1 x2 x3 x4 x5 t0 C = some (r, C2)) {ed : Nat → Nat} {H : Heap} {locs : List Loc} {ls : Array Slot} (hH : HW g ed C Z H) (hS : va_S (gP g) s.heap H locs) (hl : lv_has ls 8 [(0, .ref (gA g 0 0)), (1, .int x1), (2, .int x2), (3, .int x3), (4, .int x4), (5, .int x5)]) : W p l e ({ frames := 3, cells := 0, slots := 0, locals := 67 } : Room) s m args below meth c H locs 0 0 (MQ below (QG (some (.int r)) g C2 Z) args s 0 0 (gP g)) (F0 m 48 ls [.int t0]) := by
  unfold F_X11_submit_48 at h
  refine lv_istore (lv' := [(6, .int t0), (0, .ref (gA g 0 0)), (1, .int x1), (2, .int x2), (3, .int x3), (4, .int x4), (5, .int x5)]) hC.1 hC.2.1 dX11_submit_48 hl (by decide) rfl (fun ls hl => ?_)
  refine lv_iload hC.1 hC.2.1 dX11_submit_50 (lv_at hl 0 rfl) ?_
  refine lv_if_eq (tgt := 62) hC.1 hC.2.1 dX11_submit_52 (by decide) (fun hc1 => ?_) (fun hc1 => ?_)
  · rw [if_pos hc1] at h
    refine lv_null hC.1 hC.2.1 dX11_submit_62 ?_
    refine W.eq (g2 := F0 m 63 ls [rfv (gA g) 6 (-1)]) (by simp only [rfv_m1]) ?_
    exact B_X11_submit_63 hC hE hml hr hlk h hH hS (lv_sub hl [1, 2, 3, 4, 5, 6] rfl)
  · rw [if_neg hc1] at h
    refine lv_aload_n hC.1 hC.2.1 dX11_submit_55 rfl (lv_at hl 1 rfl) ?_
    obtain ⟨r2, D3, hF4, h⟩ := bd2_some h
    refine gcallV (As := []) (rest := []) (Cn := RX11) hC hE hml hH hS (c_X11_vacantJob hF4) ⟨wd_583, wd_585, wp_1, wd_1, wd_586⟩ hd_X11_vacantJob rfl rfl ⟨Nat.le_of_ble_eq_true rfl, Nat.le_of_ble_eq_true rfl⟩ rfl (hw_recv (q := 0) (i := 0) hC hH ⟨Nat.zero_lt_one, fun h => absurd h (by decide)⟩ rfl rfl) rfl hl.1 rfl (Nat.le_of_ble_eq_true rfl) dX11_submit_56 ⟨Nat.le_of_ble_eq_true rfl, Nat.le_of_ble_eq_true rfl⟩ (fun ed H locs hH hS => ?_)
    refine W.eq (g2 := F0 m 59 ls [rfv (gA g) 6 r2]) rfl ?_
    refine lv_goto (tgt := 63) hC.1 hC.2.1 dX11_submit_59 (by decide) ?_
    exact B_X11_submit_63 hC hE hml hr hlk h hH hS (lv_sub hl [1, 2, 3, 4, 5, 6] rfl)
def F_X11_submit_47 (n : Nat)  (x1 : Int32) (x2 : Int32) (x3 : Int32) (x4 : Int32) (x5 : Int32) (C : St) : Option (Int32 × St) := F_X11_submit_48 n x1 x2 x3 x4 x5 (0 : Int32) C
set_option maxHeartbeats 4000000 in
set_option maxRecDepth 100000 in
theorem B_X11_submit_47 {p : Program} {l : Launch} {e : Env} {s : State} {m : MethodId} {args : Array Value} {below : List Frame} {meth : Method} {c : Code} {g : GP} {Z : St} (hC : CX p s m args c cX11_submit RX11 g) (hE : EZ g s s.heap) (hml : c.maxLocals = 8) (hr : meth.sig.returnType = (some .int)) (hlk : meth.locks = false) {r : Int32} {C2 : St} {x1 : Int32} {x2 : Int32} {x3 : Int32} {x4 : Int32} {x5 : Int32} {C : St} (h : F_X11_submit_47 (gn g)  x1 x2 x3 x4 x5 C = some (r, C2)) {ed : Nat → Nat} {H : Heap} {locs : List Loc} {ls : Array Slot} (hH : HW g ed C Z H) (hS : va_S (gP g) s.heap H locs) (hl : lv_has ls 8 [(0, .ref (gA g 0 0)), (1, .int x1), (2, .int x2), (3, .int x3), (4, .int x4), (5, .int x5)]) : W p l e ({ frames := 3, cells := 0, slots := 0, locals := 67 } : Room) s m args below meth c H locs 0 0 (MQ below (QG (some (.int r)) g C2 Z) args s 0 0 (gP g)) (F0 m 47 ls []) := by
  unfold F_X11_submit_47 at h
  refine lv_iconst (v := (0 : Int32)) hC.1 hC.2.1 dX11_submit_47 (by decide) ?_
  exact B_X11_submit_48 hC hE hml hr hlk h hH hS (lv_sub hl [0, 1, 2, 3, 4, 5] rfl)
def F_X11_submit (n : Nat) (x1 : Int32) (x2 : Int32) (x3 : Int32) (x4 : Int32) (x5 : Int32) (C : St) : Option (Int32 × St) := bd2 (F_X11_isDeck n x1 x2 x3 C) (fun r1 D2 => if r1 = 0 then (F_X11_submit_47 n x1 x2 x3 x4 x5 D2) else (if x4 < (1 : Int32) then (F_X11_submit_47 n x1 x2 x3 x4 x5 D2) else (if (5000 : Int32) < x4 then (F_X11_submit_47 n x1 x2 x3 x4 x5 D2) else (if x5 < 0 then (F_X11_submit_47 n x1 x2 x3 x4 x5 D2) else (if (D2 19 0 3 0) < (x5 / (4 : Int32)) then (F_X11_submit_47 n x1 x2 x3 x4 x5 D2) else (F_X11_submit_48 n x1 x2 x3 x4 x5 (1 : Int32) D2))))))
set_option maxHeartbeats 4000000 in
set_option maxRecDepth 100000 in
theorem c_X11_submit {l : Launch} {g : GP} {ed : Nat → Nat} {Z : St} {x1 : Int32} {x2 : Int32} {x3 : Int32} {x4 : Int32} {x5 : Int32} {C : St} {r : Int32} {C2 : St} (h : F_X11_submit (gn g) x1 x2 x3 x4 x5 C = some (r, C2)) : Met l yX11_submit (Cond.code yX11_submit cX11_submit 8 (some .int) :: lwG) ({ frames := 3, cells := 0, slots := 0, locals := 67 } : Room) (va_Pc [.ref (gA g 0 0), .int x1, .int x2, .int x3, .int x4, .int x5] (PW g C Z ed)) (QG (some (.int r)) g C2 Z) 0 0 (gP g) := by
  refine Met.ofW (cc := cX11_submit) (maxL := 8) (ret := (some .int)) (by decide +kernel) rfl ?_
  intro p e s m args below meth c s₁ B hml hv
  obtain ⟨ha, hC, hE, hr, hlk, hH⟩ := g_start B hv
  subst ha
  have hC : CX p s m ([.ref (gA g 0 0), .int x1, .int x2, .int x3, .int x4, .int x5] : List Value).toArray c cX11_submit RX11 g := hC
  have hS : va_S (gP g) s.heap s.heap [] := va_S.rf
  obtain ⟨ls, he, hl⟩ := g_entry m (vs := [.ref (gA g 0 0), .int x1, .int x2, .int x3, .int x4, .int x5]) (n := 8) (List.forall_mem_cons.mpr ⟨rfl, (List.forall_mem_cons.mpr ⟨rfl, (List.forall_mem_cons.mpr ⟨rfl, (List.forall_mem_cons.mpr ⟨rfl, (List.forall_mem_cons.mpr ⟨rfl, (List.forall_mem_cons.mpr ⟨rfl, (fun _ h => absurd h List.not_mem_nil)⟩)⟩)⟩)⟩)⟩)⟩) (Nat.le_of_ble_eq_true rfl)
  rw [he]
  have hl : lv_has ls 8 [(0, .ref (gA g 0 0)), (1, .int x1), (2, .int x2), (3, .int x3), (4, .int x4), (5, .int x5)] := hl
  unfold F_X11_submit at h
  refine lv_aload_n hC.1 hC.2.1 dX11_submit_0 rfl (lv_at hl 0 rfl) ?_
  refine lv_iload_n hC.1 hC.2.1 dX11_submit_1 rfl (lv_at hl 1 rfl) ?_
  refine lv_iload_n hC.1 hC.2.1 dX11_submit_2 rfl (lv_at hl 2 rfl) ?_
  refine lv_iload_n hC.1 hC.2.1 dX11_submit_3 rfl (lv_at hl 3 rfl) ?_
  obtain ⟨r1, D2, hF3, h⟩ := bd2_some h
  refine gcallV (As := [.int x1, .int x2, .int x3]) (rest := []) (Cn := RX11) hC hE hml hH hS (c_X11_isDeck hF3) ⟨wd_579, wd_581, wp_0, wd_1, wd_582⟩ hd_X11_isDeck rfl rfl ⟨Nat.le_of_ble_eq_true rfl, Nat.le_of_ble_eq_true rfl⟩ rfl (hw_recv (q := 0) (i := 0) hC hH ⟨Nat.zero_lt_one, fun h => absurd h (by decide)⟩ rfl rfl) rfl hl.1 rfl (Nat.le_of_ble_eq_true rfl) dX11_submit_4 ⟨Nat.le_of_ble_eq_true rfl, Nat.le_of_ble_eq_true rfl⟩ (fun ed H locs hH hS => ?_)
  refine W.eq (g2 := F0 m 7 ls [.int r1]) rfl ?_
  refine lv_if_eq (tgt := 47) hC.1 hC.2.1 dX11_submit_7 (by decide) (fun hc4 => ?_) (fun hc4 => ?_)
  · rw [if_pos hc4] at h
    exact B_X11_submit_47 hC hE hml hr hlk h hH hS (lv_sub hl [0, 1, 2, 3, 4, 5] rfl)
  · rw [if_neg hc4] at h
    refine lv_iload hC.1 hC.2.1 dX11_submit_10 (lv_at hl 4 rfl) ?_
    refine lv_iconst (v := (1 : Int32)) hC.1 hC.2.1 dX11_submit_12 (by decide) ?_
    refine lv_icmp_lt (tgt := 47) hC.1 hC.2.1 dX11_submit_13 (by decide) (fun hc5 => ?_) (fun hc5 => ?_)
    · rw [if_pos hc5] at h
      exact B_X11_submit_47 hC hE hml hr hlk h hH hS (lv_sub hl [0, 1, 2, 3, 4, 5] rfl)
    · rw [if_neg hc5] at h
      refine lv_iload hC.1 hC.2.1 dX11_submit_16 (lv_at hl 4 rfl) ?_
      refine lv_sipush (v := (5000 : Int32)) hC.1 hC.2.1 dX11_submit_18 (by decide) ?_
      refine lv_icmp_gt (tgt := 47) hC.1 hC.2.1 dX11_submit_21 (by decide) (fun hc6 => ?_) (fun hc6 => ?_)
      · rw [if_pos hc6] at h
        exact B_X11_submit_47 hC hE hml hr hlk h hH hS (lv_sub hl [0, 1, 2, 3, 4, 5] rfl)
      · rw [if_neg hc6] at h
        refine lv_iload hC.1 hC.2.1 dX11_submit_24 (lv_at hl 5 rfl) ?_
        refine lv_if_lt (tgt := 47) hC.1 hC.2.1 dX11_submit_26 (by decide) (fun hc7 => ?_) (fun hc7 => ?_)
        · rw [if_pos hc7] at h
          exact B_X11_submit_47 hC hE hml hr hlk h hH hS (lv_sub hl [0, 1, 2, 3, 4, 5] rfl)
        · rw [if_neg hc7] at h
          refine lv_iload hC.1 hC.2.1 dX11_submit_29 (lv_at hl 5 rfl) ?_
          refine lv_iconst (v := (4 : Int32)) hC.1 hC.2.1 dX11_submit_31 (by decide) ?_
          refine lv_idiv hC.1 hC.2.1 dX11_submit_32 (by decide) ?_
          refine lv_aload_n hC.1 hC.2.1 dX11_submit_33 rfl (lv_at hl 0 rfl) ?_
          refine gf_RX11_50 hC hH rfl dX11_submit_34 ?_
          refine gf_RX11_99 hC hH rfl dX11_submit_37 ?_
          refine lv_icmp_gt (tgt := 47) hC.1 hC.2.1 dX11_submit_40 (by decide) (fun hc8 => ?_) (fun hc8 => ?_)
          · rw [if_pos hc8] at h
            exact B_X11_submit_47 hC hE hml hr hlk h hH hS (lv_sub hl [0, 1, 2, 3, 4, 5] rfl)
          · rw [if_neg hc8] at h
            refine lv_iconst (v := (1 : Int32)) hC.1 hC.2.1 dX11_submit_43 (by decide) ?_
            refine lv_goto (tgt := 48) hC.1 hC.2.1 dX11_submit_44 (by decide) ?_
            exact B_X11_submit_48 hC hE hml hr hlk h hH hS (lv_sub hl [0, 1, 2, 3, 4, 5] rfl)
def F_X11_done (n : Nat) (x1 : Int32) (C : St) : Option (Int32 × St) := if x1 = 0 then (bd2 (F_X10_drumIsDone n  C) (fun r2 D3 => gd (isb r2) (some (r2, D3)))) else (if x1 = 1 then (bd2 (F_X3_readerIsDone n  C) (fun r7 D8 => gd (isb r7) (some (r7, D8)))) else (if x1 = 2 then (bd2 (F_X3_printerIsDone n  C) (fun r12 D13 => gd (isb r12) (some (r12, D13)))) else (some ((0 : Int32), C))))
set_option maxHeartbeats 4000000 in
set_option maxRecDepth 100000 in
theorem c_X11_done {l : Launch} {g : GP} {ed : Nat → Nat} {Z : St} {x1 : Int32} {C : St} {r : Int32} {C2 : St} (h : F_X11_done (gn g) x1 C = some (r, C2)) : Met l yX11_done (Cond.code yX11_done cX11_done 2 (some .boolean) :: lwG) ({ frames := 4, cells := 0, slots := 0, locals := 86 } : Room) (va_Pc [.ref (gA g 0 0), .int x1] (PW g C Z ed)) (QG (some (.int r)) g C2 Z) 0 0 (gP g) := by
  refine Met.ofW (cc := cX11_done) (maxL := 2) (ret := (some .boolean)) (by decide +kernel) rfl ?_
  intro p e s m args below meth c s₁ B hml hv
  obtain ⟨ha, hC, hE, hr, hlk, hH⟩ := g_start B hv
  subst ha
  have hC : CX p s m ([.ref (gA g 0 0), .int x1] : List Value).toArray c cX11_done RX11 g := hC
  have hS : va_S (gP g) s.heap s.heap [] := va_S.rf
  obtain ⟨ls, he, hl⟩ := g_entry m (vs := [.ref (gA g 0 0), .int x1]) (n := 2) (List.forall_mem_cons.mpr ⟨rfl, (List.forall_mem_cons.mpr ⟨rfl, (fun _ h => absurd h List.not_mem_nil)⟩)⟩) (Nat.le_of_ble_eq_true rfl)
  rw [he]
  have hl : lv_has ls 2 [(0, .ref (gA g 0 0)), (1, .int x1)] := hl
  unfold F_X11_done at h
  refine lv_iload_n hC.1 hC.2.1 dX11_done_0 rfl (lv_at hl 1 rfl) ?_
  by_cases hs1 : x1 = 0
  · rw [if_pos hs1] at h
    refine lv_tableIn (x := x1) (off := 27) (tgt := 28) hC.1 hC.2.1 dX11_done_1 (by rw [hs1]; decide) (by rw [hs1]; decide) (by rw [hs1]; rfl) (by decide) ?_
    refine lv_aload_n hC.1 hC.2.1 dX11_done_28 rfl (lv_at hl 0 rfl) ?_
    refine gf_RX11_41 hC hH rfl dX11_done_29 ?_
    obtain ⟨r2, D3, hF4, h⟩ := bd2_some h
    refine gcallV (As := []) (rest := []) (Cn := RX10) hC hE hml hH hS (c_X10_drumIsDone hF4) ⟨wd_996, wd_997, wd_998, wd_8, wd_999⟩ hd_X10_drumIsDone rfl rfl ⟨Nat.le_of_ble_eq_true rfl, Nat.le_of_ble_eq_true rfl⟩ rfl (hw_recv (q := 16) (i := 0) hC hH ⟨Nat.zero_lt_one, fun h => absurd h (by decide)⟩ rfl rfl) rfl hl.1 rfl (Nat.le_of_ble_eq_true rfl) dX11_done_32 ⟨Nat.le_of_ble_eq_true rfl, Nat.le_of_ble_eq_true rfl⟩ (fun ed H locs hH hS => ?_)
    refine W.eq (g2 := F0 m 35 ls [.int r2]) rfl ?_
    obtain ⟨hg5, h⟩ := gd_some h
    cases h
    exact gret_z hC hr hlk hg5 hH hS (Nat.le_of_ble_eq_true rfl) (Nat.le_of_ble_eq_true rfl) dX11_done_35
  · rw [if_neg hs1] at h
    by_cases hs6 : x1 = 1
    · rw [if_pos hs6] at h
      refine lv_tableIn (x := x1) (off := 35) (tgt := 36) hC.1 hC.2.1 dX11_done_1 (by rw [hs6]; decide) (by rw [hs6]; decide) (by rw [hs6]; rfl) (by decide) ?_
      refine lv_aload_n hC.1 hC.2.1 dX11_done_36 rfl (lv_at hl 0 rfl) ?_
      refine gf_RX11_59 hC hH rfl dX11_done_37 ?_
      obtain ⟨r7, D8, hF9, h⟩ := bd2_some h
      refine gcallV (As := []) (rest := []) (Cn := RX3) hC hE hml hH hS (c_X3_readerIsDone hF9) ⟨wd_1022, wd_1023, wd_1024, wd_14, wd_1025⟩ hd_X3_readerIsDone rfl rfl ⟨Nat.le_of_ble_eq_true rfl, Nat.le_of_ble_eq_true rfl⟩ rfl (hw_recv (q := 23) (i := 0) hC hH ⟨Nat.zero_lt_one, fun h => absurd h (by decide)⟩ rfl rfl) rfl hl.1 rfl (Nat.le_of_ble_eq_true rfl) dX11_done_40 ⟨Nat.le_of_ble_eq_true rfl, Nat.le_of_ble_eq_true rfl⟩ (fun ed H locs hH hS => ?_)
      refine W.eq (g2 := F0 m 43 ls [.int r7]) rfl ?_
      obtain ⟨hg10, h⟩ := gd_some h
      cases h
      exact gret_z hC hr hlk hg10 hH hS (Nat.le_of_ble_eq_true rfl) (Nat.le_of_ble_eq_true rfl) dX11_done_43
    · rw [if_neg hs6] at h
      by_cases hs11 : x1 = 2
      · rw [if_pos hs11] at h
        refine lv_tableIn (x := x1) (off := 43) (tgt := 44) hC.1 hC.2.1 dX11_done_1 (by rw [hs11]; decide) (by rw [hs11]; decide) (by rw [hs11]; rfl) (by decide) ?_
        refine lv_aload_n hC.1 hC.2.1 dX11_done_44 rfl (lv_at hl 0 rfl) ?_
        refine gf_RX11_59 hC hH rfl dX11_done_45 ?_
        obtain ⟨r12, D13, hF14, h⟩ := bd2_some h
        refine gcallV (As := []) (rest := []) (Cn := RX3) hC hE hml hH hS (c_X3_printerIsDone hF14) ⟨wd_1026, wd_1027, wd_1028, wd_14, wd_1029⟩ hd_X3_printerIsDone rfl rfl ⟨Nat.le_of_ble_eq_true rfl, Nat.le_of_ble_eq_true rfl⟩ rfl (hw_recv (q := 23) (i := 0) hC hH ⟨Nat.zero_lt_one, fun h => absurd h (by decide)⟩ rfl rfl) rfl hl.1 rfl (Nat.le_of_ble_eq_true rfl) dX11_done_48 ⟨Nat.le_of_ble_eq_true rfl, Nat.le_of_ble_eq_true rfl⟩ (fun ed H locs hH hS => ?_)
        refine W.eq (g2 := F0 m 51 ls [.int r12]) rfl ?_
        obtain ⟨hg15, h⟩ := gd_some h
        cases h
        exact gret_z hC hr hlk hg15 hH hS (Nat.le_of_ble_eq_true rfl) (Nat.le_of_ble_eq_true rfl) dX11_done_51
      · rw [if_neg hs11] at h
        have q0 := lv_neT (a := 0) hs1 (by decide)
        have q1 := lv_neT (a := 1) hs6 (by decide)
        have q2 := lv_neT (a := 2) hs11 (by decide)
        refine lv_tableOut (x := x1) (tgt := 52) hC.1 hC.2.1 dX11_done_1 (by omega) (by decide) ?_
        refine lv_iconst (v := (0 : Int32)) hC.1 hC.2.1 dX11_done_52 (by decide) ?_
        cases h
        exact gret_z hC hr hlk (by decide) hH hS (Nat.le_of_ble_eq_true rfl) (Nat.le_of_ble_eq_true rfl) dX11_done_53
def F_X11_type (n : Nat) (x1 : Int32) (C : St) : Option (Int32 × St) := bd2 (F_X1_accept n x1 C) (fun r1 D2 => gd (isb r1) (some (r1, D2)))
set_option maxHeartbeats 4000000 in
set_option maxRecDepth 100000 in
theorem c_X11_type {l : Launch} {g : GP} {ed : Nat → Nat} {Z : St} {x1 : Int32} {C : St} {r : Int32} {C2 : St} (h : F_X11_type (gn g) x1 C = some (r, C2)) : Met l yX11_type (Cond.code yX11_type cX11_type 2 (some .boolean) :: lwG) ({ frames := 5, cells := 0, slots := 0, locals := 106 } : Room) (va_Pc [.ref (gA g 0 0), .int x1] (PW g C Z ed)) (QG (some (.int r)) g C2 Z) 0 0 (gP g) := by
  refine Met.ofW (cc := cX11_type) (maxL := 2) (ret := (some .boolean)) (by decide +kernel) rfl ?_
  intro p e s m args below meth c s₁ B hml hv
  obtain ⟨ha, hC, hE, hr, hlk, hH⟩ := g_start B hv
  subst ha
  have hC : CX p s m ([.ref (gA g 0 0), .int x1] : List Value).toArray c cX11_type RX11 g := hC
  have hS : va_S (gP g) s.heap s.heap [] := va_S.rf
  obtain ⟨ls, he, hl⟩ := g_entry m (vs := [.ref (gA g 0 0), .int x1]) (n := 2) (List.forall_mem_cons.mpr ⟨rfl, (List.forall_mem_cons.mpr ⟨rfl, (fun _ h => absurd h List.not_mem_nil)⟩)⟩) (Nat.le_of_ble_eq_true rfl)
  rw [he]
  have hl : lv_has ls 2 [(0, .ref (gA g 0 0)), (1, .int x1)] := hl
  unfold F_X11_type at h
  refine lv_aload_n hC.1 hC.2.1 dX11_type_0 rfl (lv_at hl 0 rfl) ?_
  refine gf_RX11_68 hC hH rfl dX11_type_1 ?_
  refine lv_iload_n hC.1 hC.2.1 dX11_type_4 rfl (lv_at hl 1 rfl) ?_
  obtain ⟨r1, D2, hF3, h⟩ := bd2_some h
  refine gcallV (As := [.int x1]) (rest := []) (Cn := RX1) hC hE hml hH hS (c_X1_accept hF3) ⟨wd_1034, wd_1035, wd_1036, wd_15, wd_1037⟩ hd_X1_accept rfl rfl ⟨Nat.le_of_ble_eq_true rfl, Nat.le_of_ble_eq_true rfl⟩ rfl (hw_recv (q := 26) (i := 0) hC hH ⟨Nat.zero_lt_one, fun h => absurd h (by decide)⟩ rfl rfl) rfl hl.1 rfl (Nat.le_of_ble_eq_true rfl) dX11_type_5 ⟨Nat.le_of_ble_eq_true rfl, Nat.le_of_ble_eq_true rfl⟩ (fun ed H locs hH hS => ?_)
  refine W.eq (g2 := F0 m 8 ls [.int r1]) rfl ?_
  obtain ⟨hg4, h⟩ := gd_some h
  cases h
  exact gret_z hC hr hlk hg4 hH hS (Nat.le_of_ble_eq_true rfl) (Nat.le_of_ble_eq_true rfl) dX11_type_8
def F_X11_process_10 (n : Nat)   (C : St) : Option (Int32 × St) := some ((-1 : Int32), C)
set_option maxHeartbeats 4000000 in
set_option maxRecDepth 100000 in
theorem B_X11_process_10 {p : Program} {l : Launch} {e : Env} {s : State} {m : MethodId} {args : Array Value} {below : List Frame} {meth : Method} {c : Code} {g : GP} {Z : St} (hC : CX p s m args c cX11_process RX11 g) (hE : EZ g s s.heap) (hml : c.maxLocals = 3) (hr : meth.sig.returnType = (some .int)) (hlk : meth.locks = false) {r : Int32} {C2 : St}  {C : St} (h : F_X11_process_10 (gn g)   C = some (r, C2)) {ed : Nat → Nat} {H : Heap} {locs : List Loc} {ls : Array Slot} (hH : HW g ed C Z H) (hS : va_S (gP g) s.heap H locs) (hl : lv_has ls 3 []) : W p l e ({ frames := 1, cells := 0, slots := 0, locals := 22 } : Room) s m args below meth c H locs 0 0 (MQ below (QG (some (.int r)) g C2 Z) args s 0 0 (gP g)) (F0 m 10 ls []) := by
  unfold F_X11_process_10 at h
  refine lv_iconst (v := (-1 : Int32)) hC.1 hC.2.1 dX11_process_10 (by decide) ?_
  cases h
  exact gret_i hC hr hlk hH hS (Nat.le_of_ble_eq_true rfl) (Nat.le_of_ble_eq_true rfl) dX11_process_11
def F_X11_process (n : Nat) (x1 : Int32) (x2 : Int32) (C : St) : Option (Int32 × St) := if x1 < 0 then (F_X11_process_10 n  C) else (if x1 < (10 : Int32) then (if x2 = 0 then (bd2 (F_X8_placeOf n 0 x1 C) (fun r4 D5 => some (r4, D5))) else (if x2 = 1 then (bd2 (F_X7_causeOf n x1 C) (fun r8 D9 => some (r8, D9))) else (some ((-1 : Int32), C)))) else (F_X11_process_10 n  C))
set_option maxHeartbeats 4000000 in
set_option maxRecDepth 100000 in
theorem c_X11_process {l : Launch} {g : GP} {ed : Nat → Nat} {Z : St} {x1 : Int32} {x2 : Int32} {C : St} {r : Int32} {C2 : St} (h : F_X11_process (gn g) x1 x2 C = some (r, C2)) : Met l yX11_process (Cond.code yX11_process cX11_process 3 (some .int) :: lwG) ({ frames := 1, cells := 0, slots := 0, locals := 22 } : Room) (va_Pc [.ref (gA g 0 0), .int x1, .int x2] (PW g C Z ed)) (QG (some (.int r)) g C2 Z) 0 0 (gP g) := by
  refine Met.ofW (cc := cX11_process) (maxL := 3) (ret := (some .int)) (by decide +kernel) rfl ?_
  intro p e s m args below meth c s₁ B hml hv
  obtain ⟨ha, hC, hE, hr, hlk, hH⟩ := g_start B hv
  subst ha
  have hC : CX p s m ([.ref (gA g 0 0), .int x1, .int x2] : List Value).toArray c cX11_process RX11 g := hC
  have hS : va_S (gP g) s.heap s.heap [] := va_S.rf
  obtain ⟨ls, he, hl⟩ := g_entry m (vs := [.ref (gA g 0 0), .int x1, .int x2]) (n := 3) (List.forall_mem_cons.mpr ⟨rfl, (List.forall_mem_cons.mpr ⟨rfl, (List.forall_mem_cons.mpr ⟨rfl, (fun _ h => absurd h List.not_mem_nil)⟩)⟩)⟩) (Nat.le_of_ble_eq_true rfl)
  rw [he]
  have hl : lv_has ls 3 [(0, .ref (gA g 0 0)), (1, .int x1), (2, .int x2)] := hl
  unfold F_X11_process at h
  refine lv_iload_n hC.1 hC.2.1 dX11_process_0 rfl (lv_at hl 1 rfl) ?_
  refine lv_if_lt (tgt := 10) hC.1 hC.2.1 dX11_process_1 (by decide) (fun hc1 => ?_) (fun hc1 => ?_)
  · rw [if_pos hc1] at h
    exact B_X11_process_10 hC hE hml hr hlk h hH hS (lv_sub hl [] rfl)
  · rw [if_neg hc1] at h
    refine lv_iload_n hC.1 hC.2.1 dX11_process_4 rfl (lv_at hl 1 rfl) ?_
    refine lv_bipush (v := (10 : Int32)) hC.1 hC.2.1 dX11_process_5 (by decide) ?_
    refine lv_icmp_lt (tgt := 12) hC.1 hC.2.1 dX11_process_7 (by decide) (fun hc2 => ?_) (fun hc2 => ?_)
    · rw [if_pos hc2] at h
      refine lv_iload_n hC.1 hC.2.1 dX11_process_12 rfl (lv_at hl 2 rfl) ?_
      by_cases hs3 : x2 = 0
      · rw [if_pos hs3] at h
        refine lv_lookup (x := x2) (off := 27) (tgt := 40) hC.1 hC.2.1 dX11_process_13 (by decide) (by rw [hs3]; rfl) (by decide) ?_
        refine lv_aload_n hC.1 hC.2.1 dX11_process_40 rfl (lv_at hl 0 rfl) ?_
        refine gf_RX11_18 hC hH rfl dX11_process_41 ?_
        refine gf_RX11_166 hC hH rfl dX11_process_44 ?_
        refine lv_iload_n hC.1 hC.2.1 dX11_process_47 rfl (lv_at hl 1 rfl) ?_
        obtain ⟨r4, D5, hF6, h⟩ := bd2_some h
        refine gcallV (As := [.int x1]) (rest := []) (Cn := RX8) hC hE hml hH hS (c_X8_placeOf (Nat.le_of_ble_eq_true rfl) hF6) ⟨wd_1047, wd_311, wd_312, wd_4, wd_313⟩ hd_X8_placeOf rfl rfl ⟨Nat.le_of_ble_eq_true rfl, Nat.le_of_ble_eq_true rfl⟩ rfl (hw_recv (q := 2) (i := 0) hC hH ⟨(Nat.le_of_ble_eq_true rfl), fun h => absurd h (by decide)⟩ rfl rfl) rfl hl.1 rfl (Nat.le_of_ble_eq_true rfl) dX11_process_48 ⟨Nat.le_of_ble_eq_true rfl, Nat.le_of_ble_eq_true rfl⟩ (fun ed H locs hH hS => ?_)
        refine W.eq (g2 := F0 m 51 ls [.int r4]) rfl ?_
        cases h
        exact gret_i hC hr hlk hH hS (Nat.le_of_ble_eq_true rfl) (Nat.le_of_ble_eq_true rfl) dX11_process_51
      · rw [if_neg hs3] at h
        by_cases hs7 : x2 = 1
        · rw [if_pos hs7] at h
          refine lv_lookup (x := x2) (off := 39) (tgt := 52) hC.1 hC.2.1 dX11_process_13 (by decide) (by rw [hs7]; rfl) (by decide) ?_
          refine lv_aload_n hC.1 hC.2.1 dX11_process_52 rfl (lv_at hl 0 rfl) ?_
          refine gf_RX11_18 hC hH rfl dX11_process_53 ?_
          refine lv_iload_n hC.1 hC.2.1 dX11_process_56 rfl (lv_at hl 1 rfl) ?_
          obtain ⟨r8, D9, hF10, h⟩ := bd2_some h
          refine gcallV (As := [.int x1]) (rest := []) (Cn := RX7) hC hE hml hH hS (c_X7_causeOf hF10) ⟨wd_1048, wd_937, wd_938, wd_2, wd_939⟩ hd_X7_causeOf rfl rfl ⟨Nat.le_of_ble_eq_true rfl, Nat.le_of_ble_eq_true rfl⟩ rfl (hw_recv (q := 1) (i := 0) hC hH ⟨Nat.zero_lt_one, fun h => absurd h (by decide)⟩ rfl rfl) rfl hl.1 rfl (Nat.le_of_ble_eq_true rfl) dX11_process_57 ⟨Nat.le_of_ble_eq_true rfl, Nat.le_of_ble_eq_true rfl⟩ (fun ed H locs hH hS => ?_)
          refine W.eq (g2 := F0 m 60 ls [.int r8]) rfl ?_
          cases h
          exact gret_i hC hr hlk hH hS (Nat.le_of_ble_eq_true rfl) (Nat.le_of_ble_eq_true rfl) dX11_process_60
        · rw [if_neg hs7] at h
          refine lv_lookup (x := x2) (off := 48) (tgt := 61) hC.1 hC.2.1 dX11_process_13 (by decide) (by show Op.lookupswitch.offset [(0, 27), (1, 39)] (48) _ = _; rw [lv_osw hs3 (by decide), lv_osw hs7 (by decide)]; rfl) (by decide) ?_
          refine lv_iconst (v := (-1 : Int32)) hC.1 hC.2.1 dX11_process_61 (by decide) ?_
          cases h
          exact gret_i hC hr hlk hH hS (Nat.le_of_ble_eq_true rfl) (Nat.le_of_ble_eq_true rfl) dX11_process_62
    · rw [if_neg hc2] at h
      exact B_X11_process_10 hC hE hml hr hlk h hH hS (lv_sub hl [] rfl)
def F_X11_job_22 (n : Nat)  (t0 : Int32) (C : St) : Option (Int32 × St) := some (t0, C)
set_option maxHeartbeats 4000000 in
set_option maxRecDepth 100000 in
theorem B_X11_job_22 {p : Program} {l : Launch} {e : Env} {s : State} {m : MethodId} {args : Array Value} {below : List Frame} {meth : Method} {c : Code} {g : GP} {Z : St} (hC : CX p s m args c cX11_job RX11 g) (hE : EZ g s s.heap) (hml : c.maxLocals = 4) (hr : meth.sig.returnType = (some .int)) (hlk : meth.locks = false) {r : Int32} {C2 : St} {t0 : Int32} {C : St} (h : F_X11_job_22 (gn g)  t0 C = some (r, C2)) {ed : Nat → Nat} {H : Heap} {locs : List Loc} {ls : Array Slot} (hH : HW g ed C Z H) (hS : va_S (gP g) s.heap H locs) (hl : lv_has ls 4 []) : W p l e ({ frames := 2, cells := 0, slots := 0, locals := 42 } : Room) s m args below meth c H locs 0 0 (MQ below (QG (some (.int r)) g C2 Z) args s 0 0 (gP g)) (F0 m 22 ls [.int t0]) := by
  unfold F_X11_job_22 at h
  cases h
  exact gret_i hC hr hlk hH hS (Nat.le_of_ble_eq_true rfl) (Nat.le_of_ble_eq_true rfl) dX11_job_22
def F_X11_job (n : Nat) (x1 : Int32) (x2 : Int32) (C : St) : Option (Int32 × St) := bd2 (F_X11_jobAt n x1 C) (fun r1 D2 => if r1 < 0 then (F_X11_job_22 n (-1 : Int32) D2) else (gd (inb r1 6) (bd2 (F_X5_tell n r1 x2 D2) (fun r5 D6 => F_X11_job_22 n r5 D6))))
set_option maxHeartbeats 4000000 in
set_option maxRecDepth 100000 in
theorem c_X11_job {l : Launch} {g : GP} {ed : Nat → Nat} {Z : St} {x1 : Int32} {x2 : Int32} {C : St} {r : Int32} {C2 : St} (h : F_X11_job (gn g) x1 x2 C = some (r, C2)) : Met l yX11_job (Cond.code yX11_job cX11_job 4 (some .int) :: lwG) ({ frames := 2, cells := 0, slots := 0, locals := 42 } : Room) (va_Pc [.ref (gA g 0 0), .int x1, .int x2] (PW g C Z ed)) (QG (some (.int r)) g C2 Z) 0 0 (gP g) := by
  refine Met.ofW (cc := cX11_job) (maxL := 4) (ret := (some .int)) (by decide +kernel) rfl ?_
  intro p e s m args below meth c s₁ B hml hv
  obtain ⟨ha, hC, hE, hr, hlk, hH⟩ := g_start B hv
  subst ha
  have hC : CX p s m ([.ref (gA g 0 0), .int x1, .int x2] : List Value).toArray c cX11_job RX11 g := hC
  have hS : va_S (gP g) s.heap s.heap [] := va_S.rf
  obtain ⟨ls, he, hl⟩ := g_entry m (vs := [.ref (gA g 0 0), .int x1, .int x2]) (n := 4) (List.forall_mem_cons.mpr ⟨rfl, (List.forall_mem_cons.mpr ⟨rfl, (List.forall_mem_cons.mpr ⟨rfl, (fun _ h => absurd h List.not_mem_nil)⟩)⟩)⟩) (Nat.le_of_ble_eq_true rfl)
  rw [he]
  have hl : lv_has ls 4 [(0, .ref (gA g 0 0)), (1, .int x1), (2, .int x2)] := hl
  unfold F_X11_job at h
  refine lv_aload_n hC.1 hC.2.1 dX11_job_0 rfl (lv_at hl 0 rfl) ?_
  refine gf_RX11_24 hC hH rfl dX11_job_1 ?_
  refine lv_iload_n hC.1 hC.2.1 dX11_job_4 rfl (lv_at hl 1 rfl) ?_
  obtain ⟨r1, D2, hF3, h⟩ := bd2_some h
  refine gcallS (As := [.ref (gA g 11 0), .int x1]) (rest := []) hC hE hml hH hS (c_X11_jobAt hF3) ⟨wd_618, wd_619, wd_1, wd_620⟩ hd_X11_jobAt rfl rfl ⟨Nat.le_of_ble_eq_true rfl, Nat.le_of_ble_eq_true rfl⟩ rfl hl.1 rfl (Nat.le_of_ble_eq_true rfl) dX11_job_5 ⟨Nat.le_of_ble_eq_true rfl, Nat.le_of_ble_eq_true rfl⟩ (fun ed H locs hH hS => ?_)
  refine W.eq (g2 := F0 m 8 ls [rfv (gA g) 6 r1]) rfl ?_
  refine gl_astore_n (j := 3) (lv' := [(3, rfv (gA g) 6 r1), (0, .ref (gA g 0 0)), (1, .int x1), (2, .int x2)]) hC dX11_job_8 rfl hl (by decide) rfl (fun ls hl => ?_)
  refine gl_aload_n hC dX11_job_9 rfl (lv_at hl 0 rfl) ?_
  refine gl_ifnonnull (tgt := 17) hC dX11_job_10 (by decide) (fun hc4 => ?_) (fun hc4 => ?_)
  · rw [if_neg hc4] at h
    refine gl_aload_n hC dX11_job_17 rfl (lv_at hl 0 rfl) ?_
    refine lv_iload_n hC.1 hC.2.1 dX11_job_18 rfl (lv_at hl 3 rfl) ?_
    obtain ⟨hg8, h⟩ := gd_some h
    obtain ⟨r5, D6, hF7, h⟩ := bd2_some h
    refine gcallV (As := [.int x2]) (rest := []) (Cn := RX5) hC hE hml hH hS (c_X5_tell hF7) ⟨wd_1053, wd_1054, wd_1055, wd_5, wd_1056⟩ hd_X5_tell rfl rfl ⟨Nat.le_of_ble_eq_true rfl, Nat.le_of_ble_eq_true rfl⟩ (rfv_in hg8) (hw_recv (q := 6) (i := r1.toNatClampNeg) hC hH ⟨(inb_lt hg8), fun h => absurd h (by decide)⟩ rfl rfl) rfl hl.1 rfl (Nat.le_of_ble_eq_true rfl) dX11_job_19 ⟨Nat.le_of_ble_eq_true rfl, Nat.le_of_ble_eq_true rfl⟩ (fun ed H locs hH hS => ?_)
    refine W.eq (g2 := F0 m 22 ls [.int r5]) rfl ?_
    exact B_X11_job_22 hC hE hml hr hlk h hH hS (lv_sub hl [] rfl)
  · rw [if_pos hc4] at h
    refine lv_iconst (v := (-1 : Int32)) hC.1 hC.2.1 dX11_job_13 (by decide) ?_
    refine lv_goto (tgt := 22) hC.1 hC.2.1 dX11_job_14 (by decide) ?_
    exact B_X11_job_22 hC hE hml hr hlk h hH hS (lv_sub hl [] rfl)
def F_X11_paper_26 (n : Nat)  (t0 : Int32) (C : St) : Option (Int32 × St) := some (t0, C)
set_option maxHeartbeats 4000000 in
set_option maxRecDepth 100000 in
theorem B_X11_paper_26 {p : Program} {l : Launch} {e : Env} {s : State} {m : MethodId} {args : Array Value} {below : List Frame} {meth : Method} {c : Code} {g : GP} {Z : St} (hC : CX p s m args c cX11_paper RX11 g) (hE : EZ g s s.heap) (hml : c.maxLocals = 4) (hr : meth.sig.returnType = (some .int)) (hlk : meth.locks = false) {r : Int32} {C2 : St} {t0 : Int32} {C : St} (h : F_X11_paper_26 (gn g)  t0 C = some (r, C2)) {ed : Nat → Nat} {H : Heap} {locs : List Loc} {ls : Array Slot} (hH : HW g ed C Z H) (hS : va_S (gP g) s.heap H locs) (hl : lv_has ls 4 []) : W p l e ({ frames := 1, cells := 0, slots := 0, locals := 24 } : Room) s m args below meth c H locs 0 0 (MQ below (QG (some (.int r)) g C2 Z) args s 0 0 (gP g)) (F0 m 26 ls [.int t0]) := by
  unfold F_X11_paper_26 at h
  cases h
  exact gret_i hC hr hlk hH hS (Nat.le_of_ble_eq_true rfl) (Nat.le_of_ble_eq_true rfl) dX11_paper_26
def F_X11_paper (n : Nat) (x1 : Int32) (x2 : Int32) (C : St) : Option (Int32 × St) := bd2 (F_X11_jobAt n x1 C) (fun r1 D2 => if r1 < 0 then (F_X11_paper_26 n (0 : Int32) D2) else (bd2 (F_X3_lineOnPaper n r1 x2 D2) (fun r5 D6 => F_X11_paper_26 n r5 D6)))
set_option maxHeartbeats 4000000 in
set_option maxRecDepth 100000 in
theorem c_X11_paper {l : Launch} {g : GP} {ed : Nat → Nat} {Z : St} {x1 : Int32} {x2 : Int32} {C : St} {r : Int32} {C2 : St} (h : F_X11_paper (gn g) x1 x2 C = some (r, C2)) : Met l yX11_paper (Cond.code yX11_paper cX11_paper 4 (some .int) :: lwG) ({ frames := 1, cells := 0, slots := 0, locals := 24 } : Room) (va_Pc [.ref (gA g 0 0), .int x1, .int x2] (PW g C Z ed)) (QG (some (.int r)) g C2 Z) 0 0 (gP g) := by
  refine Met.ofW (cc := cX11_paper) (maxL := 4) (ret := (some .int)) (by decide +kernel) rfl ?_
  intro p e s m args below meth c s₁ B hml hv
  obtain ⟨ha, hC, hE, hr, hlk, hH⟩ := g_start B hv
  subst ha
  have hC : CX p s m ([.ref (gA g 0 0), .int x1, .int x2] : List Value).toArray c cX11_paper RX11 g := hC
  have hS : va_S (gP g) s.heap s.heap [] := va_S.rf
  obtain ⟨ls, he, hl⟩ := g_entry m (vs := [.ref (gA g 0 0), .int x1, .int x2]) (n := 4) (List.forall_mem_cons.mpr ⟨rfl, (List.forall_mem_cons.mpr ⟨rfl, (List.forall_mem_cons.mpr ⟨rfl, (fun _ h => absurd h List.not_mem_nil)⟩)⟩)⟩) (Nat.le_of_ble_eq_true rfl)
  rw [he]
  have hl : lv_has ls 4 [(0, .ref (gA g 0 0)), (1, .int x1), (2, .int x2)] := hl
  unfold F_X11_paper at h
  refine lv_aload_n hC.1 hC.2.1 dX11_paper_0 rfl (lv_at hl 0 rfl) ?_
  refine gf_RX11_24 hC hH rfl dX11_paper_1 ?_
  refine lv_iload_n hC.1 hC.2.1 dX11_paper_4 rfl (lv_at hl 1 rfl) ?_
  obtain ⟨r1, D2, hF3, h⟩ := bd2_some h
  refine gcallS (As := [.ref (gA g 11 0), .int x1]) (rest := []) hC hE hml hH hS (c_X11_jobAt hF3) ⟨wd_618, wd_619, wd_1, wd_620⟩ hd_X11_jobAt rfl rfl ⟨Nat.le_of_ble_eq_true rfl, Nat.le_of_ble_eq_true rfl⟩ rfl hl.1 rfl (Nat.le_of_ble_eq_true rfl) dX11_paper_5 ⟨Nat.le_of_ble_eq_true rfl, Nat.le_of_ble_eq_true rfl⟩ (fun ed H locs hH hS => ?_)
  refine W.eq (g2 := F0 m 8 ls [rfv (gA g) 6 r1]) rfl ?_
  refine gl_astore_n (j := 3) (lv' := [(3, rfv (gA g) 6 r1), (0, .ref (gA g 0 0)), (1, .int x1), (2, .int x2)]) hC dX11_paper_8 rfl hl (by decide) rfl (fun ls hl => ?_)
  refine gl_aload_n hC dX11_paper_9 rfl (lv_at hl 0 rfl) ?_
  refine gl_ifnonnull (tgt := 17) hC dX11_paper_10 (by decide) (fun hc4 => ?_) (fun hc4 => ?_)
  · rw [if_neg hc4] at h
    refine lv_aload_n hC.1 hC.2.1 dX11_paper_17 rfl (lv_at hl 1 rfl) ?_
    refine gf_RX11_59 hC hH rfl dX11_paper_18 ?_
    refine gl_aload_n hC dX11_paper_21 rfl (lv_at hl 0 rfl) ?_
    refine lv_iload_n hC.1 hC.2.1 dX11_paper_22 rfl (lv_at hl 3 rfl) ?_
    obtain ⟨r5, D6, hF7, h⟩ := bd2_some h
    refine gcallV (As := [rfv (gA g) 6 r1, .int x2]) (rest := []) (Cn := RX3) hC hE hml hH hS (c_X3_lineOnPaper hF7) ⟨wd_1066, wd_1067, wd_1068, wd_14, wd_1069⟩ hd_X3_lineOnPaper rfl rfl ⟨Nat.le_of_ble_eq_true rfl, Nat.le_of_ble_eq_true rfl⟩ rfl (hw_recv (q := 23) (i := 0) hC hH ⟨Nat.zero_lt_one, fun h => absurd h (by decide)⟩ rfl rfl) rfl hl.1 rfl (Nat.le_of_ble_eq_true rfl) dX11_paper_23 ⟨Nat.le_of_ble_eq_true rfl, Nat.le_of_ble_eq_true rfl⟩ (fun ed H locs hH hS => ?_)
    refine W.eq (g2 := F0 m 26 ls [.int r5]) rfl ?_
    exact B_X11_paper_26 hC hE hml hr hlk h hH hS (lv_sub hl [] rfl)
  · rw [if_pos hc4] at h
    refine lv_iconst (v := (0 : Int32)) hC.1 hC.2.1 dX11_paper_13 (by decide) ?_
    refine lv_goto (tgt := 26) hC.1 hC.2.1 dX11_paper_14 (by decide) ?_
    exact B_X11_paper_26 hC hE hml hr hlk h hH hS (lv_sub hl [] rfl)
def F_X11_word_36 (n : Nat)   (C : St) : Option (Int32 × St) := some ((0 : Int32), C)
set_option maxHeartbeats 4000000 in
set_option maxRecDepth 100000 in
theorem B_X11_word_36 {p : Program} {l : Launch} {e : Env} {s : State} {m : MethodId} {args : Array Value} {below : List Frame} {meth : Method} {c : Code} {g : GP} {Z : St} (hC : CX p s m args c cX11_word RX11 g) (hE : EZ g s s.heap) (hml : c.maxLocals = 5) (hr : meth.sig.returnType = (some .int)) (hlk : meth.locks = false) {r : Int32} {C2 : St}  {C : St} (h : F_X11_word_36 (gn g)   C = some (r, C2)) {ed : Nat → Nat} {H : Heap} {locs : List Loc} {ls : Array Slot} (hH : HW g ed C Z H) (hS : va_S (gP g) s.heap H locs) (hl : lv_has ls 5 []) : W p l e ({ frames := 3, cells := 0, slots := 0, locals := 70 } : Room) s m args below meth c H locs 0 0 (MQ below (QG (some (.int r)) g C2 Z) args s 0 0 (gP g)) (F0 m 36 ls []) := by
  unfold F_X11_word_36 at h
  refine lv_iconst (v := (0 : Int32)) hC.1 hC.2.1 dX11_word_36 (by decide) ?_
  cases h
  exact gret_i hC hr hlk hH hS (Nat.le_of_ble_eq_true rfl) (Nat.le_of_ble_eq_true rfl) dX11_word_37
def F_X11_word_71 (n : Nat)  (t0 : Int32) (C : St) : Option (Int32 × St) := some (t0, C)
set_option maxHeartbeats 4000000 in
set_option maxRecDepth 100000 in
theorem B_X11_word_71 {p : Program} {l : Launch} {e : Env} {s : State} {m : MethodId} {args : Array Value} {below : List Frame} {meth : Method} {c : Code} {g : GP} {Z : St} (hC : CX p s m args c cX11_word RX11 g) (hE : EZ g s s.heap) (hml : c.maxLocals = 5) (hr : meth.sig.returnType = (some .int)) (hlk : meth.locks = false) {r : Int32} {C2 : St} {t0 : Int32} {C : St} (h : F_X11_word_71 (gn g)  t0 C = some (r, C2)) {ed : Nat → Nat} {H : Heap} {locs : List Loc} {ls : Array Slot} (hH : HW g ed C Z H) (hS : va_S (gP g) s.heap H locs) (hl : lv_has ls 5 []) : W p l e ({ frames := 3, cells := 0, slots := 0, locals := 70 } : Room) s m args below meth c H locs 0 0 (MQ below (QG (some (.int r)) g C2 Z) args s 0 0 (gP g)) (F0 m 71 ls [.int t0]) := by
  unfold F_X11_word_71 at h
  cases h
  exact gret_i hC hr hlk hH hS (Nat.le_of_ble_eq_true rfl) (Nat.le_of_ble_eq_true rfl) dX11_word_71
def F_X11_word (n : Nat) (x1 : Int32) (x2 : Int32) (C : St) : Option (Int32 × St) := bd2 (F_X11_jobAt n x1 C) (fun r1 D2 => if r1 < 0 then (F_X11_word_36 n  D2) else (gd (inb r1 6) (if (D2 6 r1.toNatClampNeg 7 0) = 0 then (F_X11_word_36 n  D2) else (if (D2 6 r1.toNatClampNeg 7 0) = (3 : Int32) then (F_X11_word_36 n  D2) else (bd2 (F_X5_has n r1 x2 D2) (fun r8 D9 => if r8 = 0 then (F_X11_word_36 n  D9) else (bd2 (F_X10_holderOf n r1 (x2 / (16 : Int32)) D9) (fun r12 D13 => if r12 < 0 then (bd2 (F_X5_onDrum n r1 x2 D13) (fun r20 D21 => F_X11_word_71 n r20 D21)) else (gd (inb r12 n) (bd2 (F_X4_read n r12 x2 D13) (fun r16 D17 => F_X11_word_71 n r16 D17)))))))))))
set_option maxHeartbeats 4000000 in
set_option maxRecDepth 100000 in
theorem c_X11_word {l : Launch} {g : GP} {ed : Nat → Nat} {Z : St} {x1 : Int32} {x2 : Int32} {C : St} {r : Int32} {C2 : St} (h : F_X11_word (gn g) x1 x2 C = some (r, C2)) : Met l yX11_word (Cond.code yX11_word cX11_word 5 (some .int) :: lwG) ({ frames := 3, cells := 0, slots := 0, locals := 70 } : Room) (va_Pc [.ref (gA g 0 0), .int x1, .int x2] (PW g C Z ed)) (QG (some (.int r)) g C2 Z) 0 0 (gP g) := by
  refine Met.ofW (cc := cX11_word) (maxL := 5) (ret := (some .int)) (by decide +kernel) rfl ?_
  intro p e s m args below meth c s₁ B hml hv
  obtain ⟨ha, hC, hE, hr, hlk, hH⟩ := g_start B hv
  subst ha
  have hC : CX p s m ([.ref (gA g 0 0), .int x1, .int x2] : List Value).toArray c cX11_word RX11 g := hC
  have hS : va_S (gP g) s.heap s.heap [] := va_S.rf
  obtain ⟨ls, he, hl⟩ := g_entry m (vs := [.ref (gA g 0 0), .int x1, .int x2]) (n := 5) (List.forall_mem_cons.mpr ⟨rfl, (List.forall_mem_cons.mpr ⟨rfl, (List.forall_mem_cons.mpr ⟨rfl, (fun _ h => absurd h List.not_mem_nil)⟩)⟩)⟩) (Nat.le_of_ble_eq_true rfl)
  rw [he]
  have hl : lv_has ls 5 [(0, .ref (gA g 0 0)), (1, .int x1), (2, .int x2)] := hl
  unfold F_X11_word at h
  refine lv_aload_n hC.1 hC.2.1 dX11_word_0 rfl (lv_at hl 0 rfl) ?_
  refine gf_RX11_24 hC hH rfl dX11_word_1 ?_
  refine lv_iload_n hC.1 hC.2.1 dX11_word_4 rfl (lv_at hl 1 rfl) ?_
  obtain ⟨r1, D2, hF3, h⟩ := bd2_some h
  refine gcallS (As := [.ref (gA g 11 0), .int x1]) (rest := []) hC hE hml hH hS (c_X11_jobAt hF3) ⟨wd_618, wd_619, wd_1, wd_620⟩ hd_X11_jobAt rfl rfl ⟨Nat.le_of_ble_eq_true rfl, Nat.le_of_ble_eq_true rfl⟩ rfl hl.1 rfl (Nat.le_of_ble_eq_true rfl) dX11_word_5 ⟨Nat.le_of_ble_eq_true rfl, Nat.le_of_ble_eq_true rfl⟩ (fun ed H locs hH hS => ?_)
  refine W.eq (g2 := F0 m 8 ls [rfv (gA g) 6 r1]) rfl ?_
  refine gl_astore_n (j := 3) (lv' := [(3, rfv (gA g) 6 r1), (0, .ref (gA g 0 0)), (1, .int x1), (2, .int x2)]) hC dX11_word_8 rfl hl (by decide) rfl (fun ls hl => ?_)
  refine gl_aload_n hC dX11_word_9 rfl (lv_at hl 0 rfl) ?_
  refine gl_ifnull (tgt := 36) hC dX11_word_10 (by decide) (fun hc4 => ?_) (fun hc4 => ?_)
  · rw [if_pos hc4] at h
    exact B_X11_word_36 hC hE hml hr hlk h hH hS (lv_sub hl [] rfl)
  · rw [if_neg hc4] at h
    refine gl_aload_n hC dX11_word_13 rfl (lv_at hl 0 rfl) ?_
    obtain ⟨hg5, h⟩ := gd_some h
    refine gf_RX11_183 hC hH (inb_lt hg5) (rfv_in hg5) dX11_word_14 ?_
    refine lv_if_eq (tgt := 36) hC.1 hC.2.1 dX11_word_17 (by decide) (fun hc6 => ?_) (fun hc6 => ?_)
    · rw [if_pos hc6] at h
      exact B_X11_word_36 hC hE hml hr hlk h hH hS (lv_sub hl [] rfl)
    · rw [if_neg hc6] at h
      refine gl_aload_n hC dX11_word_20 rfl (lv_at hl 0 rfl) ?_
      refine gf_RX11_183 hC hH (inb_lt hg5) (rfv_in hg5) dX11_word_21 ?_
      refine lv_iconst (v := (3 : Int32)) hC.1 hC.2.1 dX11_word_24 (by decide) ?_
      refine lv_icmp_eq (tgt := 36) hC.1 hC.2.1 dX11_word_25 (by decide) (fun hc7 => ?_) (fun hc7 => ?_)
      · rw [if_pos hc7] at h
        exact B_X11_word_36 hC hE hml hr hlk h hH hS (lv_sub hl [] rfl)
      · rw [if_neg hc7] at h
        refine gl_aload_n hC dX11_word_28 rfl (lv_at hl 0 rfl) ?_
        refine lv_iload_n hC.1 hC.2.1 dX11_word_29 rfl (lv_at hl 3 rfl) ?_
        obtain ⟨r8, D9, hF10, h⟩ := bd2_some h
        refine gcallV (As := [.int x2]) (rest := []) (Cn := RX5) hC hE hml hH hS (c_X5_has hF10) ⟨wd_1074, wd_732, wd_733, wd_5, wd_734⟩ hd_X5_has rfl rfl ⟨Nat.le_of_ble_eq_true rfl, Nat.le_of_ble_eq_true rfl⟩ (rfv_in hg5) (hw_recv (q := 6) (i := r1.toNatClampNeg) hC hH ⟨(inb_lt hg5), fun h => absurd h (by decide)⟩ rfl rfl) rfl hl.1 rfl (Nat.le_of_ble_eq_true rfl) dX11_word_30 ⟨Nat.le_of_ble_eq_true rfl, Nat.le_of_ble_eq_true rfl⟩ (fun ed H locs hH hS => ?_)
        refine W.eq (g2 := F0 m 33 ls [.int r8]) rfl ?_
        refine lv_if_ne (tgt := 38) hC.1 hC.2.1 dX11_word_33 (by decide) (fun hc11 => ?_) (fun hc11 => ?_)
        · rw [if_neg hc11] at h
          refine lv_aload_n hC.1 hC.2.1 dX11_word_38 rfl (lv_at hl 1 rfl) ?_
          refine gf_RX11_41 hC hH rfl dX11_word_39 ?_
          refine gl_aload_n hC dX11_word_42 rfl (lv_at hl 0 rfl) ?_
          refine lv_iload_n hC.1 hC.2.1 dX11_word_43 rfl (lv_at hl 3 rfl) ?_
          refine lv_bipush (v := (16 : Int32)) hC.1 hC.2.1 dX11_word_44 (by decide) ?_
          refine lv_idiv hC.1 hC.2.1 dX11_word_46 (by decide) ?_
          obtain ⟨r12, D13, hF14, h⟩ := bd2_some h
          refine gcallV (As := [rfv (gA g) 6 r1, .int (x2 / (16 : Int32))]) (rest := []) (Cn := RX10) hC hE hml hH hS (c_X10_holderOf hF14) ⟨wd_1075, wd_1076, wd_1077, wd_8, wd_1078⟩ hd_X10_holderOf rfl rfl ⟨Nat.le_of_ble_eq_true rfl, Nat.le_of_ble_eq_true rfl⟩ rfl (hw_recv (q := 16) (i := 0) hC hH ⟨Nat.zero_lt_one, fun h => absurd h (by decide)⟩ rfl rfl) rfl hl.1 rfl (Nat.le_of_ble_eq_true rfl) dX11_word_47 ⟨Nat.le_of_ble_eq_true rfl, Nat.le_of_ble_eq_true rfl⟩ (fun ed H locs hH hS => ?_)
          refine W.eq (g2 := F0 m 50 ls [rfv (gA g) 14 r12]) rfl ?_
          refine gl_astore (lv' := [(4, rfv (gA g) 14 r12), (3, rfv (gA g) 6 r1), (0, .ref (gA g 0 0)), (1, .int x1), (2, .int x2)]) hC dX11_word_50 hl (by decide) (by simp [rfv_cat]) (fun ls hl => ?_)
          refine gl_aload hC dX11_word_52 (lv_at hl 0 rfl) ?_
          refine gl_ifnonnull (tgt := 65) hC dX11_word_54 (by decide) (fun hc15 => ?_) (fun hc15 => ?_)
          · rw [if_neg hc15] at h
            refine gl_aload hC dX11_word_65 (lv_at hl 0 rfl) ?_
            refine lv_iload_n hC.1 hC.2.1 dX11_word_67 rfl (lv_at hl 4 rfl) ?_
            obtain ⟨hg19, h⟩ := gd_some h
            obtain ⟨r16, D17, hF18, h⟩ := bd2_some h
            refine gcallV (As := [.int x2]) (rest := []) (Cn := RX4) hC hE hml hH hS (c_X4_read hF18) ⟨wd_1081, wd_805, wd_806, wd_7, wd_807⟩ hd_X4_read rfl rfl ⟨Nat.le_of_ble_eq_true rfl, Nat.le_of_ble_eq_true rfl⟩ (rfv_in hg19) (hw_recv (q := 14) (i := r12.toNatClampNeg) hC hH ⟨(inb_lt hg19), fun h => absurd h (by decide)⟩ rfl rfl) rfl hl.1 rfl (Nat.le_of_ble_eq_true rfl) dX11_word_68 ⟨Nat.le_of_ble_eq_true rfl, Nat.le_of_ble_eq_true rfl⟩ (fun ed H locs hH hS => ?_)
            refine W.eq (g2 := F0 m 71 ls [.int r16]) rfl ?_
            exact B_X11_word_71 hC hE hml hr hlk h hH hS (lv_sub hl [] rfl)
          · rw [if_pos hc15] at h
            refine gl_aload_n hC dX11_word_57 rfl (lv_at hl 1 rfl) ?_
            refine lv_iload_n hC.1 hC.2.1 dX11_word_58 rfl (lv_at hl 4 rfl) ?_
            obtain ⟨r20, D21, hF22, h⟩ := bd2_some h
            refine gcallV (As := [.int x2]) (rest := []) (Cn := RX5) hC hE hml hH hS (c_X5_onDrum hF22) ⟨wd_1080, wd_1018, wd_1019, wd_5, wd_1020⟩ hd_X5_onDrum rfl rfl ⟨Nat.le_of_ble_eq_true rfl, Nat.le_of_ble_eq_true rfl⟩ (rfv_in hg5) (hw_recv (q := 6) (i := r1.toNatClampNeg) hC hH ⟨(inb_lt hg5), fun h => absurd h (by decide)⟩ rfl rfl) rfl hl.1 rfl (Nat.le_of_ble_eq_true rfl) dX11_word_59 ⟨Nat.le_of_ble_eq_true rfl, Nat.le_of_ble_eq_true rfl⟩ (fun ed H locs hH hS => ?_)
            refine W.eq (g2 := F0 m 62 ls [.int r20]) rfl ?_
            refine lv_goto (tgt := 71) hC.1 hC.2.1 dX11_word_62 (by decide) ?_
            exact B_X11_word_71 hC hE hml hr hlk h hH hS (lv_sub hl [] rfl)
        · rw [if_pos hc11] at h
          exact B_X11_word_36 hC hE hml hr hlk h hH hS (lv_sub hl [] rfl)
def F_X11_frame (n : Nat) (x1 : Int32) (x2 : Int32) (C : St) : Option (Int32 × St) := bd2 (F_X2_tell n x1 x2 C) (fun r1 D2 => some (r1, D2))
set_option maxHeartbeats 4000000 in
set_option maxRecDepth 100000 in
theorem c_X11_frame {l : Launch} {g : GP} {ed : Nat → Nat} {Z : St} {x1 : Int32} {x2 : Int32} {C : St} {r : Int32} {C2 : St} (h : F_X11_frame (gn g) x1 x2 C = some (r, C2)) : Met l yX11_frame (Cond.code yX11_frame cX11_frame 3 (some .int) :: lwG) ({ frames := 3, cells := 0, slots := 0, locals := 64 } : Room) (va_Pc [.ref (gA g 0 0), .int x1, .int x2] (PW g C Z ed)) (QG (some (.int r)) g C2 Z) 0 0 (gP g) := by
  refine Met.ofW (cc := cX11_frame) (maxL := 3) (ret := (some .int)) (by decide +kernel) rfl ?_
  intro p e s m args below meth c s₁ B hml hv
  obtain ⟨ha, hC, hE, hr, hlk, hH⟩ := g_start B hv
  subst ha
  have hC : CX p s m ([.ref (gA g 0 0), .int x1, .int x2] : List Value).toArray c cX11_frame RX11 g := hC
  have hS : va_S (gP g) s.heap s.heap [] := va_S.rf
  obtain ⟨ls, he, hl⟩ := g_entry m (vs := [.ref (gA g 0 0), .int x1, .int x2]) (n := 3) (List.forall_mem_cons.mpr ⟨rfl, (List.forall_mem_cons.mpr ⟨rfl, (List.forall_mem_cons.mpr ⟨rfl, (fun _ h => absurd h List.not_mem_nil)⟩)⟩)⟩) (Nat.le_of_ble_eq_true rfl)
  rw [he]
  have hl : lv_has ls 3 [(0, .ref (gA g 0 0)), (1, .int x1), (2, .int x2)] := hl
  unfold F_X11_frame at h
  refine lv_aload_n hC.1 hC.2.1 dX11_frame_0 rfl (lv_at hl 0 rfl) ?_
  refine gf_RX11_32 hC hH rfl dX11_frame_1 ?_
  refine lv_iload_n hC.1 hC.2.1 dX11_frame_4 rfl (lv_at hl 1 rfl) ?_
  refine lv_iload_n hC.1 hC.2.1 dX11_frame_5 rfl (lv_at hl 2 rfl) ?_
  obtain ⟨r1, D2, hF3, h⟩ := bd2_some h
  refine gcallV (As := [.int x1, .int x2]) (rest := []) (Cn := RX2) hC hE hml hH hS (c_X2_tell hF3) ⟨wd_1086, wd_1087, wd_1088, wd_6, wd_1089⟩ hd_X2_tell rfl rfl ⟨Nat.le_of_ble_eq_true rfl, Nat.le_of_ble_eq_true rfl⟩ rfl (hw_recv (q := 12) (i := 0) hC hH ⟨Nat.zero_lt_one, fun h => absurd h (by decide)⟩ rfl rfl) rfl hl.1 rfl (Nat.le_of_ble_eq_true rfl) dX11_frame_6 ⟨Nat.le_of_ble_eq_true rfl, Nat.le_of_ble_eq_true rfl⟩ (fun ed H locs hH hS => ?_)
  refine W.eq (g2 := F0 m 9 ls [.int r1]) rfl ?_
  cases h
  exact gret_i hC hr hlk hH hS (Nat.le_of_ble_eq_true rfl) (Nat.le_of_ble_eq_true rfl) dX11_frame_9
def F_X11_about (n : Nat) (x1 : Int32) (C : St) : Option (Int32 × St) := if x1 = 0 then (some (C 1 0 3 0, C)) else (if x1 = 1 then (some (C 16 0 5 0, C)) else (if x1 = 2 then (bd2 (F_X11_asNumber n (C 23 0 8 0) C) (fun r4 D5 => some (r4, D5))) else (if x1 = 3 then (bd2 (F_X11_asNumber n (C 23 0 9 0) C) (fun r8 D9 => some (r8, D9))) else (if x1 = 4 then (bd2 (F_X0_freeOf n (0 : Int32) C) (fun r12 D13 => some (r12, D13))) else (if x1 = 5 then (bd2 (F_X0_freeOf n (1 : Int32) C) (fun r16 D17 => some (r16, D17))) else (if x1 = 6 then (bd2 (F_X0_freeOf n (2 : Int32) C) (fun r20 D21 => some (r20, D21))) else (if x1 = 7 then (some (C 26 0 6 0, C)) else (if x1 = 8 then (bd2 (F_X0_admitted n  C) (fun r25 D26 => some (r25, D26))) else (if x1 = 9 then (some (C 16 0 12 0, C)) else (if x1 = 10 then (some (C 26 0 11 0, C)) else (some ((-1 : Int32), C))))))))))))
set_option maxHeartbeats 4000000 in
set_option maxRecDepth 100000 in
theorem c_X11_about {l : Launch} {g : GP} {ed : Nat → Nat} {Z : St} {x1 : Int32} {C : St} {r : Int32} {C2 : St} (h : F_X11_about (gn g) x1 C = some (r, C2)) : Met l yX11_about (Cond.code yX11_about cX11_about 2 (some .int) :: lwG) ({ frames := 1, cells := 0, slots := 0, locals := 25 } : Room) (va_Pc [.ref (gA g 0 0), .int x1] (PW g C Z ed)) (QG (some (.int r)) g C2 Z) 0 0 (gP g) := by
  refine Met.ofW (cc := cX11_about) (maxL := 2) (ret := (some .int)) (by decide +kernel) rfl ?_
  intro p e s m args below meth c s₁ B hml hv
  obtain ⟨ha, hC, hE, hr, hlk, hH⟩ := g_start B hv
  subst ha
  have hC : CX p s m ([.ref (gA g 0 0), .int x1] : List Value).toArray c cX11_about RX11 g := hC
  have hS : va_S (gP g) s.heap s.heap [] := va_S.rf
  obtain ⟨ls, he, hl⟩ := g_entry m (vs := [.ref (gA g 0 0), .int x1]) (n := 2) (List.forall_mem_cons.mpr ⟨rfl, (List.forall_mem_cons.mpr ⟨rfl, (fun _ h => absurd h List.not_mem_nil)⟩)⟩) (Nat.le_of_ble_eq_true rfl)
  rw [he]
  have hl : lv_has ls 2 [(0, .ref (gA g 0 0)), (1, .int x1)] := hl
  unfold F_X11_about at h
  refine lv_iload_n hC.1 hC.2.1 dX11_about_0 rfl (lv_at hl 1 rfl) ?_
  by_cases hs1 : x1 = 0
  · rw [if_pos hs1] at h
    refine lv_tableIn (x := x1) (off := 59) (tgt := 60) hC.1 hC.2.1 dX11_about_1 (by rw [hs1]; decide) (by rw [hs1]; decide) (by rw [hs1]; rfl) (by decide) ?_
    refine lv_aload_n hC.1 hC.2.1 dX11_about_60 rfl (lv_at hl 0 rfl) ?_
    refine gf_RX11_18 hC hH rfl dX11_about_61 ?_
    refine gf_RX11_149 hC hH rfl dX11_about_64 ?_
    cases h
    exact gret_i hC hr hlk hH hS (Nat.le_of_ble_eq_true rfl) (Nat.le_of_ble_eq_true rfl) dX11_about_67
  · rw [if_neg hs1] at h
    by_cases hs2 : x1 = 1
    · rw [if_pos hs2] at h
      refine lv_tableIn (x := x1) (off := 67) (tgt := 68) hC.1 hC.2.1 dX11_about_1 (by rw [hs2]; decide) (by rw [hs2]; decide) (by rw [hs2]; rfl) (by decide) ?_
      refine lv_aload_n hC.1 hC.2.1 dX11_about_68 rfl (lv_at hl 0 rfl) ?_
      refine gf_RX11_41 hC hH rfl dX11_about_69 ?_
      refine gf_RX11_204 hC hH rfl dX11_about_72 ?_
      cases h
      exact gret_i hC hr hlk hH hS (Nat.le_of_ble_eq_true rfl) (Nat.le_of_ble_eq_true rfl) dX11_about_75
    · rw [if_neg hs2] at h
      by_cases hs3 : x1 = 2
      · rw [if_pos hs3] at h
        refine lv_tableIn (x := x1) (off := 75) (tgt := 76) hC.1 hC.2.1 dX11_about_1 (by rw [hs3]; decide) (by rw [hs3]; decide) (by rw [hs3]; rfl) (by decide) ?_
        refine lv_aload_n hC.1 hC.2.1 dX11_about_76 rfl (lv_at hl 0 rfl) ?_
        refine gf_RX11_59 hC hH rfl dX11_about_77 ?_
        refine gf_RX11_207 hC hH rfl dX11_about_80 ?_
        obtain ⟨r4, D5, hF6, h⟩ := bd2_some h
        refine gcallS (As := [.int (C 23 0 8 0)]) (rest := []) hC hE hml hH hS (c_X11_asNumber hF6) ⟨wd_1099, wd_1060, wd_1, wd_1061⟩ hd_X11_asNumber rfl rfl ⟨Nat.le_of_ble_eq_true rfl, Nat.le_of_ble_eq_true rfl⟩ rfl hl.1 rfl (Nat.le_of_ble_eq_true rfl) dX11_about_83 ⟨Nat.le_of_ble_eq_true rfl, Nat.le_of_ble_eq_true rfl⟩ (fun ed H locs hH hS => ?_)
        refine W.eq (g2 := F0 m 86 ls [.int r4]) rfl ?_
        cases h
        exact gret_i hC hr hlk hH hS (Nat.le_of_ble_eq_true rfl) (Nat.le_of_ble_eq_true rfl) dX11_about_86
      · rw [if_neg hs3] at h
        by_cases hs7 : x1 = 3
        · rw [if_pos hs7] at h
          refine lv_tableIn (x := x1) (off := 86) (tgt := 87) hC.1 hC.2.1 dX11_about_1 (by rw [hs7]; decide) (by rw [hs7]; decide) (by rw [hs7]; rfl) (by decide) ?_
          refine lv_aload_n hC.1 hC.2.1 dX11_about_87 rfl (lv_at hl 0 rfl) ?_
          refine gf_RX11_59 hC hH rfl dX11_about_88 ?_
          refine gf_RX11_215 hC hH rfl dX11_about_91 ?_
          obtain ⟨r8, D9, hF10, h⟩ := bd2_some h
          refine gcallS (As := [.int (C 23 0 9 0)]) (rest := []) hC hE hml hH hS (c_X11_asNumber hF10) ⟨wd_1099, wd_1060, wd_1, wd_1061⟩ hd_X11_asNumber rfl rfl ⟨Nat.le_of_ble_eq_true rfl, Nat.le_of_ble_eq_true rfl⟩ rfl hl.1 rfl (Nat.le_of_ble_eq_true rfl) dX11_about_94 ⟨Nat.le_of_ble_eq_true rfl, Nat.le_of_ble_eq_true rfl⟩ (fun ed H locs hH hS => ?_)
          refine W.eq (g2 := F0 m 97 ls [.int r8]) rfl ?_
          cases h
          exact gret_i hC hr hlk hH hS (Nat.le_of_ble_eq_true rfl) (Nat.le_of_ble_eq_true rfl) dX11_about_97
        · rw [if_neg hs7] at h
          by_cases hs11 : x1 = 4
          · rw [if_pos hs11] at h
            refine lv_tableIn (x := x1) (off := 97) (tgt := 98) hC.1 hC.2.1 dX11_about_1 (by rw [hs11]; decide) (by rw [hs11]; decide) (by rw [hs11]; rfl) (by decide) ?_
            refine lv_aload_n hC.1 hC.2.1 dX11_about_98 rfl (lv_at hl 0 rfl) ?_
            refine gf_RX11_50 hC hH rfl dX11_about_99 ?_
            refine lv_iconst (v := (0 : Int32)) hC.1 hC.2.1 dX11_about_102 (by decide) ?_
            obtain ⟨r12, D13, hF14, h⟩ := bd2_some h
            refine gcallV (As := [.int (0 : Int32)]) (rest := []) (Cn := RX0) hC hE hml hH hS (c_X0_freeOf hF14) ⟨wd_1100, wd_688, wd_689, wd_13, wd_690⟩ hd_X0_freeOf rfl rfl ⟨Nat.le_of_ble_eq_true rfl, Nat.le_of_ble_eq_true rfl⟩ rfl (hw_recv (q := 19) (i := 0) hC hH ⟨Nat.zero_lt_one, fun h => absurd h (by decide)⟩ rfl rfl) rfl hl.1 rfl (Nat.le_of_ble_eq_true rfl) dX11_about_103 ⟨Nat.le_of_ble_eq_true rfl, Nat.le_of_ble_eq_true rfl⟩ (fun ed H locs hH hS => ?_)
            refine W.eq (g2 := F0 m 106 ls [.int r12]) rfl ?_
            cases h
            exact gret_i hC hr hlk hH hS (Nat.le_of_ble_eq_true rfl) (Nat.le_of_ble_eq_true rfl) dX11_about_106
          · rw [if_neg hs11] at h
            by_cases hs15 : x1 = 5
            · rw [if_pos hs15] at h
              refine lv_tableIn (x := x1) (off := 106) (tgt := 107) hC.1 hC.2.1 dX11_about_1 (by rw [hs15]; decide) (by rw [hs15]; decide) (by rw [hs15]; rfl) (by decide) ?_
              refine lv_aload_n hC.1 hC.2.1 dX11_about_107 rfl (lv_at hl 0 rfl) ?_
              refine gf_RX11_50 hC hH rfl dX11_about_108 ?_
              refine lv_iconst (v := (1 : Int32)) hC.1 hC.2.1 dX11_about_111 (by decide) ?_
              obtain ⟨r16, D17, hF18, h⟩ := bd2_some h
              refine gcallV (As := [.int (1 : Int32)]) (rest := []) (Cn := RX0) hC hE hml hH hS (c_X0_freeOf hF18) ⟨wd_1100, wd_688, wd_689, wd_13, wd_690⟩ hd_X0_freeOf rfl rfl ⟨Nat.le_of_ble_eq_true rfl, Nat.le_of_ble_eq_true rfl⟩ rfl (hw_recv (q := 19) (i := 0) hC hH ⟨Nat.zero_lt_one, fun h => absurd h (by decide)⟩ rfl rfl) rfl hl.1 rfl (Nat.le_of_ble_eq_true rfl) dX11_about_112 ⟨Nat.le_of_ble_eq_true rfl, Nat.le_of_ble_eq_true rfl⟩ (fun ed H locs hH hS => ?_)
              refine W.eq (g2 := F0 m 115 ls [.int r16]) rfl ?_
              cases h
              exact gret_i hC hr hlk hH hS (Nat.le_of_ble_eq_true rfl) (Nat.le_of_ble_eq_true rfl) dX11_about_115
            · rw [if_neg hs15] at h
              by_cases hs19 : x1 = 6
              · rw [if_pos hs19] at h
                refine lv_tableIn (x := x1) (off := 115) (tgt := 116) hC.1 hC.2.1 dX11_about_1 (by rw [hs19]; decide) (by rw [hs19]; decide) (by rw [hs19]; rfl) (by decide) ?_
                refine lv_aload_n hC.1 hC.2.1 dX11_about_116 rfl (lv_at hl 0 rfl) ?_
                refine gf_RX11_50 hC hH rfl dX11_about_117 ?_
                refine lv_iconst (v := (2 : Int32)) hC.1 hC.2.1 dX11_about_120 (by decide) ?_
                obtain ⟨r20, D21, hF22, h⟩ := bd2_some h
                refine gcallV (As := [.int (2 : Int32)]) (rest := []) (Cn := RX0) hC hE hml hH hS (c_X0_freeOf hF22) ⟨wd_1100, wd_688, wd_689, wd_13, wd_690⟩ hd_X0_freeOf rfl rfl ⟨Nat.le_of_ble_eq_true rfl, Nat.le_of_ble_eq_true rfl⟩ rfl (hw_recv (q := 19) (i := 0) hC hH ⟨Nat.zero_lt_one, fun h => absurd h (by decide)⟩ rfl rfl) rfl hl.1 rfl (Nat.le_of_ble_eq_true rfl) dX11_about_121 ⟨Nat.le_of_ble_eq_true rfl, Nat.le_of_ble_eq_true rfl⟩ (fun ed H locs hH hS => ?_)
                refine W.eq (g2 := F0 m 124 ls [.int r20]) rfl ?_
                cases h
                exact gret_i hC hr hlk hH hS (Nat.le_of_ble_eq_true rfl) (Nat.le_of_ble_eq_true rfl) dX11_about_124
              · rw [if_neg hs19] at h
                by_cases hs23 : x1 = 7
                · rw [if_pos hs23] at h
                  refine lv_tableIn (x := x1) (off := 124) (tgt := 125) hC.1 hC.2.1 dX11_about_1 (by rw [hs23]; decide) (by rw [hs23]; decide) (by rw [hs23]; rfl) (by decide) ?_
                  refine lv_aload_n hC.1 hC.2.1 dX11_about_125 rfl (lv_at hl 0 rfl) ?_
                  refine gf_RX11_68 hC hH rfl dX11_about_126 ?_
                  refine gf_RX11_221 hC hH rfl dX11_about_129 ?_
                  cases h
                  exact gret_i hC hr hlk hH hS (Nat.le_of_ble_eq_true rfl) (Nat.le_of_ble_eq_true rfl) dX11_about_132
                · rw [if_neg hs23] at h
                  by_cases hs24 : x1 = 8
                  · rw [if_pos hs24] at h
                    refine lv_tableIn (x := x1) (off := 132) (tgt := 133) hC.1 hC.2.1 dX11_about_1 (by rw [hs24]; decide) (by rw [hs24]; decide) (by rw [hs24]; rfl) (by decide) ?_
                    refine lv_aload_n hC.1 hC.2.1 dX11_about_133 rfl (lv_at hl 0 rfl) ?_
                    refine gf_RX11_50 hC hH rfl dX11_about_134 ?_
                    obtain ⟨r25, D26, hF27, h⟩ := bd2_some h
                    refine gcallV (As := []) (rest := []) (Cn := RX0) hC hE hml hH hS (c_X0_admitted hF27) ⟨wd_1101, wd_966, wd_967, wd_13, wd_968⟩ hd_X0_admitted rfl rfl ⟨Nat.le_of_ble_eq_true rfl, Nat.le_of_ble_eq_true rfl⟩ rfl (hw_recv (q := 19) (i := 0) hC hH ⟨Nat.zero_lt_one, fun h => absurd h (by decide)⟩ rfl rfl) rfl hl.1 rfl (Nat.le_of_ble_eq_true rfl) dX11_about_137 ⟨Nat.le_of_ble_eq_true rfl, Nat.le_of_ble_eq_true rfl⟩ (fun ed H locs hH hS => ?_)
                    refine W.eq (g2 := F0 m 140 ls [.int r25]) rfl ?_
                    cases h
                    exact gret_i hC hr hlk hH hS (Nat.le_of_ble_eq_true rfl) (Nat.le_of_ble_eq_true rfl) dX11_about_140
                  · rw [if_neg hs24] at h
                    by_cases hs28 : x1 = 9
                    · rw [if_pos hs28] at h
                      refine lv_tableIn (x := x1) (off := 140) (tgt := 141) hC.1 hC.2.1 dX11_about_1 (by rw [hs28]; decide) (by rw [hs28]; decide) (by rw [hs28]; rfl) (by decide) ?_
                      refine lv_aload_n hC.1 hC.2.1 dX11_about_141 rfl (lv_at hl 0 rfl) ?_
                      refine gf_RX11_41 hC hH rfl dX11_about_142 ?_
                      refine gf_RX11_227 hC hH rfl dX11_about_145 ?_
                      cases h
                      exact gret_i hC hr hlk hH hS (Nat.le_of_ble_eq_true rfl) (Nat.le_of_ble_eq_true rfl) dX11_about_148
                    · rw [if_neg hs28] at h
                      by_cases hs29 : x1 = 10
                      · rw [if_pos hs29] at h
                        refine lv_tableIn (x := x1) (off := 148) (tgt := 149) hC.1 hC.2.1 dX11_about_1 (by rw [hs29]; decide) (by rw [hs29]; decide) (by rw [hs29]; rfl) (by decide) ?_
                        refine lv_aload_n hC.1 hC.2.1 dX11_about_149 rfl (lv_at hl 0 rfl) ?_
                        refine gf_RX11_68 hC hH rfl dX11_about_150 ?_
                        refine gf_RX11_230 hC hH rfl dX11_about_153 ?_
                        cases h
                        exact gret_i hC hr hlk hH hS (Nat.le_of_ble_eq_true rfl) (Nat.le_of_ble_eq_true rfl) dX11_about_156
                      · rw [if_neg hs29] at h
                        have q0 := lv_neT (a := 0) hs1 (by decide)
                        have q1 := lv_neT (a := 1) hs2 (by decide)
                        have q2 := lv_neT (a := 2) hs3 (by decide)
                        have q3 := lv_neT (a := 3) hs7 (by decide)
                        have q4 := lv_neT (a := 4) hs11 (by decide)
                        have q5 := lv_neT (a := 5) hs15 (by decide)
                        have q6 := lv_neT (a := 6) hs19 (by decide)
                        have q7 := lv_neT (a := 7) hs23 (by decide)
                        have q8 := lv_neT (a := 8) hs24 (by decide)
                        have q9 := lv_neT (a := 9) hs28 (by decide)
                        have q10 := lv_neT (a := 10) hs29 (by decide)
                        refine lv_tableOut (x := x1) (tgt := 157) hC.1 hC.2.1 dX11_about_1 (by omega) (by decide) ?_
                        refine lv_iconst (v := (-1 : Int32)) hC.1 hC.2.1 dX11_about_157 (by decide) ?_
                        cases h
                        exact gret_i hC hr hlk hH hS (Nat.le_of_ble_eq_true rfl) (Nat.le_of_ble_eq_true rfl) dX11_about_158
def F_X11_octet (n : Nat) (x1 : Int32) (C : St) : Option (Int32 × St) := bd2 (F_X1_byteSaid n x1 C) (fun r1 D2 => some (r1, D2))
set_option maxHeartbeats 4000000 in
set_option maxRecDepth 100000 in
theorem c_X11_octet {l : Launch} {g : GP} {ed : Nat → Nat} {Z : St} {x1 : Int32} {C : St} {r : Int32} {C2 : St} (h : F_X11_octet (gn g) x1 C = some (r, C2)) : Met l yX11_octet (Cond.code yX11_octet cX11_octet 2 (some .int) :: lwG) ({ frames := 1, cells := 0, slots := 0, locals := 21 } : Room) (va_Pc [.ref (gA g 0 0), .int x1] (PW g C Z ed)) (QG (some (.int r)) g C2 Z) 0 0 (gP g) := by
  refine Met.ofW (cc := cX11_octet) (maxL := 2) (ret := (some .int)) (by decide +kernel) rfl ?_
  intro p e s m args below meth c s₁ B hml hv
  obtain ⟨ha, hC, hE, hr, hlk, hH⟩ := g_start B hv
  subst ha
  have hC : CX p s m ([.ref (gA g 0 0), .int x1] : List Value).toArray c cX11_octet RX11 g := hC
  have hS : va_S (gP g) s.heap s.heap [] := va_S.rf
  obtain ⟨ls, he, hl⟩ := g_entry m (vs := [.ref (gA g 0 0), .int x1]) (n := 2) (List.forall_mem_cons.mpr ⟨rfl, (List.forall_mem_cons.mpr ⟨rfl, (fun _ h => absurd h List.not_mem_nil)⟩)⟩) (Nat.le_of_ble_eq_true rfl)
  rw [he]
  have hl : lv_has ls 2 [(0, .ref (gA g 0 0)), (1, .int x1)] := hl
  unfold F_X11_octet at h
  refine lv_aload_n hC.1 hC.2.1 dX11_octet_0 rfl (lv_at hl 0 rfl) ?_
  refine gf_RX11_68 hC hH rfl dX11_octet_1 ?_
  refine lv_iload_n hC.1 hC.2.1 dX11_octet_4 rfl (lv_at hl 1 rfl) ?_
  obtain ⟨r1, D2, hF3, h⟩ := bd2_some h
  refine gcallV (As := [.int x1]) (rest := []) (Cn := RX1) hC hE hml hH hS (c_X1_byteSaid hF3) ⟨wd_1106, wd_1107, wd_1108, wd_15, wd_1109⟩ hd_X1_byteSaid rfl rfl ⟨Nat.le_of_ble_eq_true rfl, Nat.le_of_ble_eq_true rfl⟩ rfl (hw_recv (q := 26) (i := 0) hC hH ⟨Nat.zero_lt_one, fun h => absurd h (by decide)⟩ rfl rfl) rfl hl.1 rfl (Nat.le_of_ble_eq_true rfl) dX11_octet_5 ⟨Nat.le_of_ble_eq_true rfl, Nat.le_of_ble_eq_true rfl⟩ (fun ed H locs hH hS => ?_)
  refine W.eq (g2 := F0 m 8 ls [.int r1]) rfl ?_
  cases h
  exact gret_i hC hr hlk hH hS (Nat.le_of_ble_eq_true rfl) (Nat.le_of_ble_eq_true rfl) dX11_octet_8
def F_X11_systemStep_72 (n : Nat)   (C : St) : Option (Int32 × St) := some (0, C)
set_option maxHeartbeats 4000000 in
set_option maxRecDepth 100000 in
theorem B_X11_systemStep_72 {p : Program} {l : Launch} {e : Env} {s : State} {m : MethodId} {args : Array Value} {below : List Frame} {meth : Method} {c : Code} {g : GP} {Z : St} (hC : CX p s m args c cX11_systemStep RX11 g) (hE : EZ g s s.heap) (hml : c.maxLocals = 2) (hr : meth.sig.returnType = none) (hlk : meth.locks = false) {r : Int32} {C2 : St}  {C : St} (h : F_X11_systemStep_72 (gn g)   C = some (r, C2)) {ed : Nat → Nat} {H : Heap} {locs : List Loc} {ls : Array Slot} (hH : HW g ed C Z H) (hS : va_S (gP g) s.heap H locs) (hl : lv_has ls 2 []) : W p l e ({ frames := 7, cells := 0, slots := 0, locals := 192 } : Room) s m args below meth c H locs 0 0 (MQ below (QG none g C2 Z) args s 0 0 (gP g)) (F0 m 72 ls []) := by
  unfold F_X11_systemStep_72 at h
  cases h
  exact gret_v hC hr hlk hH hS (Nat.le_of_ble_eq_true rfl) (Nat.le_of_ble_eq_true rfl) dX11_systemStep_72
def F_X11_systemStep (n : Nat) (x1 : Int32) (C : St) : Option (Int32 × St) := if x1 = 6 then (bd2 (F_X10_step n  C) (fun r2 D3 => F_X11_systemStep_72 n  D3)) else (if x1 = 7 then (bd2 (F_X3_readingStep n  C) (fun r6 D7 => F_X11_systemStep_72 n  D7)) else (if x1 = 8 then (bd2 (F_X3_printingStep n  C) (fun r10 D11 => F_X11_systemStep_72 n  D11)) else (if x1 = 9 then (bd2 (F_X1_step n  C) (fun r14 D15 => F_X11_systemStep_72 n  D15)) else (F_X11_systemStep_72 n  C))))
set_option maxHeartbeats 4000000 in
set_option maxRecDepth 100000 in
theorem c_X11_systemStep {l : Launch} {g : GP} {ed : Nat → Nat} {Z : St} {x1 : Int32} {C : St} {r : Int32} {C2 : St} (h : F_X11_systemStep (gn g) x1 C = some (r, C2)) : Met l yX11_systemStep (Cond.code yX11_systemStep cX11_systemStep 2 none :: lwG) ({ frames := 7, cells := 0, slots := 0, locals := 192 } : Room) (va_Pc [.ref (gA g 0 0), .int x1] (PW g C Z ed)) (QG none g C2 Z) 0 0 (gP g) := by
  refine Met.ofW (cc := cX11_systemStep) (maxL := 2) (ret := none) (by decide +kernel) rfl ?_
  intro p e s m args below meth c s₁ B hml hv
  obtain ⟨ha, hC, hE, hr, hlk, hH⟩ := g_start B hv
  subst ha
  have hC : CX p s m ([.ref (gA g 0 0), .int x1] : List Value).toArray c cX11_systemStep RX11 g := hC
  have hS : va_S (gP g) s.heap s.heap [] := va_S.rf
  obtain ⟨ls, he, hl⟩ := g_entry m (vs := [.ref (gA g 0 0), .int x1]) (n := 2) (List.forall_mem_cons.mpr ⟨rfl, (List.forall_mem_cons.mpr ⟨rfl, (fun _ h => absurd h List.not_mem_nil)⟩)⟩) (Nat.le_of_ble_eq_true rfl)
  rw [he]
  have hl : lv_has ls 2 [(0, .ref (gA g 0 0)), (1, .int x1)] := hl
  unfold F_X11_systemStep at h
  refine lv_iload_n hC.1 hC.2.1 dX11_systemStep_0 rfl (lv_at hl 1 rfl) ?_
  by_cases hs1 : x1 = 6
  · rw [if_pos hs1] at h
    refine lv_tableIn (x := x1) (off := 31) (tgt := 32) hC.1 hC.2.1 dX11_systemStep_1 (by rw [hs1]; decide) (by rw [hs1]; decide) (by rw [hs1]; rfl) (by decide) ?_
    refine lv_aload_n hC.1 hC.2.1 dX11_systemStep_32 rfl (lv_at hl 0 rfl) ?_
    refine gf_RX11_41 hC hH rfl dX11_systemStep_33 ?_
    obtain ⟨r2, D3, hF4, h⟩ := bd2_some h
    refine gcallV (As := []) (rest := []) (Cn := RX10) hC hE hml hH hS (c_X10_step hF4) ⟨wd_874, wd_875, wd_876, wd_8, wd_877⟩ hd_X10_step rfl rfl ⟨Nat.le_of_ble_eq_true rfl, Nat.le_of_ble_eq_true rfl⟩ rfl (hw_recv (q := 16) (i := 0) hC hH ⟨Nat.zero_lt_one, fun h => absurd h (by decide)⟩ rfl rfl) rfl hl.1 rfl (Nat.le_of_ble_eq_true rfl) dX11_systemStep_36 ⟨Nat.le_of_ble_eq_true rfl, Nat.le_of_ble_eq_true rfl⟩ (fun ed H locs hH hS => ?_)
    refine W.eq (g2 := F0 m 39 ls []) rfl ?_
    refine lv_goto (tgt := 72) hC.1 hC.2.1 dX11_systemStep_39 (by decide) ?_
    exact B_X11_systemStep_72 hC hE hml hr hlk h hH hS (lv_sub hl [] rfl)
  · rw [if_neg hs1] at h
    by_cases hs5 : x1 = 7
    · rw [if_pos hs5] at h
      refine lv_tableIn (x := x1) (off := 41) (tgt := 42) hC.1 hC.2.1 dX11_systemStep_1 (by rw [hs5]; decide) (by rw [hs5]; decide) (by rw [hs5]; rfl) (by decide) ?_
      refine lv_aload_n hC.1 hC.2.1 dX11_systemStep_42 rfl (lv_at hl 0 rfl) ?_
      refine gf_RX11_59 hC hH rfl dX11_systemStep_43 ?_
      obtain ⟨r6, D7, hF8, h⟩ := bd2_some h
      refine gcallV (As := []) (rest := []) (Cn := RX3) hC hE hml hH hS (c_X3_readingStep hF8) ⟨wd_910, wd_911, wd_912, wd_14, wd_913⟩ hd_X3_readingStep rfl rfl ⟨Nat.le_of_ble_eq_true rfl, Nat.le_of_ble_eq_true rfl⟩ rfl (hw_recv (q := 23) (i := 0) hC hH ⟨Nat.zero_lt_one, fun h => absurd h (by decide)⟩ rfl rfl) rfl hl.1 rfl (Nat.le_of_ble_eq_true rfl) dX11_systemStep_46 ⟨Nat.le_of_ble_eq_true rfl, Nat.le_of_ble_eq_true rfl⟩ (fun ed H locs hH hS => ?_)
      refine W.eq (g2 := F0 m 49 ls []) rfl ?_
      refine lv_goto (tgt := 72) hC.1 hC.2.1 dX11_systemStep_49 (by decide) ?_
      exact B_X11_systemStep_72 hC hE hml hr hlk h hH hS (lv_sub hl [] rfl)
    · rw [if_neg hs5] at h
      by_cases hs9 : x1 = 8
      · rw [if_pos hs9] at h
        refine lv_tableIn (x := x1) (off := 51) (tgt := 52) hC.1 hC.2.1 dX11_systemStep_1 (by rw [hs9]; decide) (by rw [hs9]; decide) (by rw [hs9]; rfl) (by decide) ?_
        refine lv_aload_n hC.1 hC.2.1 dX11_systemStep_52 rfl (lv_at hl 0 rfl) ?_
        refine gf_RX11_59 hC hH rfl dX11_systemStep_53 ?_
        obtain ⟨r10, D11, hF12, h⟩ := bd2_some h
        refine gcallV (As := []) (rest := []) (Cn := RX3) hC hE hml hH hS (c_X3_printingStep hF12) ⟨wd_922, wd_923, wd_924, wd_14, wd_925⟩ hd_X3_printingStep rfl rfl ⟨Nat.le_of_ble_eq_true rfl, Nat.le_of_ble_eq_true rfl⟩ rfl (hw_recv (q := 23) (i := 0) hC hH ⟨Nat.zero_lt_one, fun h => absurd h (by decide)⟩ rfl rfl) rfl hl.1 rfl (Nat.le_of_ble_eq_true rfl) dX11_systemStep_56 ⟨Nat.le_of_ble_eq_true rfl, Nat.le_of_ble_eq_true rfl⟩ (fun ed H locs hH hS => ?_)
        refine W.eq (g2 := F0 m 59 ls []) rfl ?_
        refine lv_goto (tgt := 72) hC.1 hC.2.1 dX11_systemStep_59 (by decide) ?_
        exact B_X11_systemStep_72 hC hE hml hr hlk h hH hS (lv_sub hl [] rfl)
      · rw [if_neg hs9] at h
        by_cases hs13 : x1 = 9
        · rw [if_pos hs13] at h
          refine lv_tableIn (x := x1) (off := 61) (tgt := 62) hC.1 hC.2.1 dX11_systemStep_1 (by rw [hs13]; decide) (by rw [hs13]; decide) (by rw [hs13]; rfl) (by decide) ?_
          refine lv_aload_n hC.1 hC.2.1 dX11_systemStep_62 rfl (lv_at hl 0 rfl) ?_
          refine gf_RX11_68 hC hH rfl dX11_systemStep_63 ?_
          obtain ⟨r14, D15, hF16, h⟩ := bd2_some h
          refine gcallV (As := []) (rest := []) (Cn := RX1) hC hE hml hH hS (c_X1_step hF16) ⟨wd_944, wd_945, wd_946, wd_15, wd_947⟩ hd_X1_step rfl rfl ⟨Nat.le_of_ble_eq_true rfl, Nat.le_of_ble_eq_true rfl⟩ rfl (hw_recv (q := 26) (i := 0) hC hH ⟨Nat.zero_lt_one, fun h => absurd h (by decide)⟩ rfl rfl) rfl hl.1 rfl (Nat.le_of_ble_eq_true rfl) dX11_systemStep_66 ⟨Nat.le_of_ble_eq_true rfl, Nat.le_of_ble_eq_true rfl⟩ (fun ed H locs hH hS => ?_)
          refine W.eq (g2 := F0 m 69 ls []) rfl ?_
          refine lv_goto (tgt := 72) hC.1 hC.2.1 dX11_systemStep_69 (by decide) ?_
          exact B_X11_systemStep_72 hC hE hml hr hlk h hH hS (lv_sub hl [] rfl)
        · rw [if_neg hs13] at h
          have q6 := lv_neT (a := 6) hs1 (by decide)
          have q7 := lv_neT (a := 7) hs5 (by decide)
          have q8 := lv_neT (a := 8) hs9 (by decide)
          have q9 := lv_neT (a := 9) hs13 (by decide)
          refine lv_tableOut (x := x1) (tgt := 72) hC.1 hC.2.1 dX11_systemStep_1 (by omega) (by decide) ?_
          exact B_X11_systemStep_72 hC hE hml hr hlk h hH hS (lv_sub hl [] rfl)
