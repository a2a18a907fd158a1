def F_X11_jobAt_17 (n : Nat)  (t0 : Int32) (C : St) : Option (Int32 × St) := some (t0, C)
set_option maxHeartbeats 4000000 in
set_option maxRecDepth 100000 in
theorem B_X11_jobAt_17 {p : Program} {l : Launch} {e : Env} {s : State} {m : MethodId} {args : Array Value} {below : List Frame} {meth : Method} {c : Code} {g : GP} {Z : St} (hC : CX p s m args c cX11_jobAt RX11 g) (hE : EZ g s s.heap) (hml : c.maxLocals = 2) (hr : meth.sig.returnType = (some (.object "DrumLayers$Job"))) (hlk : meth.locks = false) {r : Int32} {C2 : St} {t0 : Int32} {C : St} (h : F_X11_jobAt_17 (gn g)  t0 C = some (r, C2)) {ed : Nat → Nat} {H : Heap} {locs : List Loc} {ls : Array Slot} (hH : HW g ed C Z H) (hS : va_S (gP g) s.heap H locs) (hl : lv_has ls 2 []) : W p l e ({ frames := 0, cells := 0, slots := 0, locals := 0 } : Room) s m args below meth c H locs 0 0 (MQ below (QG (some (rfv (gA g) 6 r)) g C2 Z) args s 0 0 (gP g)) (F0 m 17 ls [rfv (gA g) 6 t0]) := by
  unfold F_X11_jobAt_17 at h
  cases h
  exact gret_a hC hr hlk hH hS (Nat.le_of_ble_eq_true rfl) (Nat.le_of_ble_eq_true rfl) dX11_jobAt_17
def F_X11_jobAt_16 (n : Nat)   (C : St) : Option (Int32 × St) := F_X11_jobAt_17 n (-1) C
set_option maxHeartbeats 4000000 in
set_option maxRecDepth 100000 in
theorem B_X11_jobAt_16 {p : Program} {l : Launch} {e : Env} {s : State} {m : MethodId} {args : Array Value} {below : List Frame} {meth : Method} {c : Code} {g : GP} {Z : St} (hC : CX p s m args c cX11_jobAt RX11 g) (hE : EZ g s s.heap) (hml : c.maxLocals = 2) (hr : meth.sig.returnType = (some (.object "DrumLayers$Job"))) (hlk : meth.locks = false) {r : Int32} {C2 : St}  {C : St} (h : F_X11_jobAt_16 (gn g)   C = some (r, C2)) {ed : Nat → Nat} {H : Heap} {locs : List Loc} {ls : Array Slot} (hH : HW g ed C Z H) (hS : va_S (gP g) s.heap H locs) (hl : lv_has ls 2 []) : W p l e ({ frames := 0, cells := 0, slots := 0, locals := 0 } : Room) s m args below meth c H locs 0 0 (MQ below (QG (some (rfv (gA g) 6 r)) g C2 Z) args s 0 0 (gP g)) (F0 m 16 ls []) := by
  unfold F_X11_jobAt_16 at h
  refine lv_null hC.1 hC.2.1 dX11_jobAt_16 ?_
  refine W.eq (g2 := F0 m 17 ls [rfv (gA g) 6 (-1)]) (by simp only [rfv_m1]) ?_
  exact B_X11_jobAt_17 hC hE hml hr hlk h hH hS (lv_sub hl [] rfl)
def F_X11_jobAt (n : Nat) (x1 : Int32) (C : St) : Option (Int32 × St) := if x1 < 0 then (F_X11_jobAt_16 n  C) else (if (6 : Int32) ≤ x1 then (F_X11_jobAt_16 n  C) else (gd (inb x1 6) (F_X11_jobAt_17 n x1 C)))
set_option maxHeartbeats 4000000 in
set_option maxRecDepth 100000 in
theorem c_X11_jobAt {l : Launch} {g : GP} {ed : Nat → Nat} {Z : St} {x1 : Int32} {C : St} {r : Int32} {C2 : St} (h : F_X11_jobAt (gn g) x1 C = some (r, C2)) : Met l yX11_jobAt (Cond.code yX11_jobAt cX11_jobAt 2 (some (.object "DrumLayers$Job")) :: lwG) ({ frames := 0, cells := 0, slots := 0, locals := 0 } : Room) (va_Pc [.ref (gA g 11 0), .int x1] (PW g C Z ed)) (QG (some (rfv (gA g) 6 r)) g C2 Z) 0 0 (gP g) := by
  refine Met.ofW (cc := cX11_jobAt) (maxL := 2) (ret := (some (.object "DrumLayers$Job"))) (by decide +kernel) rfl ?_
  intro p e s m args below meth c s₁ B hml hv
  obtain ⟨ha, hC, hE, hr, hlk, hH⟩ := g_start B hv
  subst ha
  have hC : CX p s m ([.ref (gA g 11 0), .int x1] : List Value).toArray c cX11_jobAt RX11 g := hC
  have hS : va_S (gP g) s.heap s.heap [] := va_S.rf
  obtain ⟨ls, he, hl⟩ := g_entry m (vs := [.ref (gA g 11 0), .int x1]) (n := 2) (List.forall_mem_cons.mpr ⟨rfl, (List.forall_mem_cons.mpr ⟨rfl, (fun _ h => absurd h List.not_mem_nil)⟩)⟩) (Nat.le_of_ble_eq_true rfl)
  rw [he]
  have hl : lv_has ls 2 [(0, .ref (gA g 11 0)), (1, .int x1)] := hl
  unfold F_X11_jobAt at h
  refine lv_iload_n hC.1 hC.2.1 dX11_jobAt_0 rfl (lv_at hl 1 rfl) ?_
  refine lv_if_lt (tgt := 16) hC.1 hC.2.1 dX11_jobAt_1 (by decide) (fun hc1 => ?_) (fun hc1 => ?_)
  · rw [if_pos hc1] at h
    exact B_X11_jobAt_16 hC hE hml hr hlk h hH hS (lv_sub hl [] rfl)
  · rw [if_neg hc1] at h
    refine lv_iload_n hC.1 hC.2.1 dX11_jobAt_4 rfl (lv_at hl 1 rfl) ?_
    refine lv_aload_n hC.1 hC.2.1 dX11_jobAt_5 rfl (lv_at hl 0 rfl) ?_
    refine ln_11 hC hH rfl dX11_jobAt_6 ?_
    refine lv_icmp_ge (tgt := 16) hC.1 hC.2.1 dX11_jobAt_7 (by decide) (fun hc2 => ?_) (fun hc2 => ?_)
    · rw [if_pos hc2] at h
      exact B_X11_jobAt_16 hC hE hml hr hlk h hH hS (lv_sub hl [] rfl)
    · rw [if_neg hc2] at h
      refine lv_aload_n hC.1 hC.2.1 dX11_jobAt_10 rfl (lv_at hl 0 rfl) ?_
      refine lv_iload_n hC.1 hC.2.1 dX11_jobAt_11 rfl (lv_at hl 1 rfl) ?_
      obtain ⟨hg3, h⟩ := gd_some h
      refine aa_11 hC hH hg3 rfl dX11_jobAt_12 ?_
      refine lv_goto (tgt := 17) hC.1 hC.2.1 dX11_jobAt_13 (by decide) ?_
      exact B_X11_jobAt_17 hC hE hml hr hlk h hH hS (lv_sub hl [] rfl)
def F_X11_asNumber_9 (n : Nat)  (t0 : Int32) (C : St) : Option (Int32 × St) := some (t0, C)
set_option maxHeartbeats 4000000 in
set_option maxRecDepth 100000 in
theorem B_X11_asNumber_9 {p : Program} {l : Launch} {e : Env} {s : State} {m : MethodId} {args : Array Value} {below : List Frame} {meth : Method} {c : Code} {g : GP} {Z : St} (hC : CX p s m args c cX11_asNumber RX11 g) (hE : EZ g s s.heap) (hml : c.maxLocals = 1) (hr : meth.sig.returnType = (some .int)) (hlk : meth.locks = false) {r : Int32} {C2 : St} {t0 : Int32} {C : St} (h : F_X11_asNumber_9 (gn g)  t0 C = some (r, C2)) {ed : Nat → Nat} {H : Heap} {locs : List Loc} {ls : Array Slot} (hH : HW g ed C Z H) (hS : va_S (gP g) s.heap H locs) (hl : lv_has ls 1 []) : W p l e ({ frames := 0, cells := 0, slots := 0, locals := 0 } : Room) s m args below meth c H locs 0 0 (MQ below (QG (some (.int r)) g C2 Z) args s 0 0 (gP g)) (F0 m 9 ls [.int t0]) := by
  unfold F_X11_asNumber_9 at h
  cases h
  exact gret_i hC hr hlk hH hS (Nat.le_of_ble_eq_true rfl) (Nat.le_of_ble_eq_true rfl) dX11_asNumber_9
def F_X11_asNumber (n : Nat) (x0 : Int32) (C : St) : Option (Int32 × St) := if x0 = 0 then (F_X11_asNumber_9 n (0 : Int32) C) else (F_X11_asNumber_9 n (1 : Int32) C)
set_option maxHeartbeats 4000000 in
set_option maxRecDepth 100000 in
theorem c_X11_asNumber {l : Launch} {g : GP} {ed : Nat → Nat} {Z : St} {x0 : Int32} {C : St} {r : Int32} {C2 : St} (h : F_X11_asNumber (gn g) x0 C = some (r, C2)) : Met l yX11_asNumber (Cond.code yX11_asNumber cX11_asNumber 1 (some .int) :: lwG) ({ frames := 0, cells := 0, slots := 0, locals := 0 } : Room) (va_Pc [.int x0] (PW g C Z ed)) (QG (some (.int r)) g C2 Z) 0 0 (gP g) := by
  refine Met.ofW (cc := cX11_asNumber) (maxL := 1) (ret := (some .int)) (by decide +kernel) rfl ?_
  intro p e s m args below meth c s₁ B hml hv
  obtain ⟨ha, hC, hE, hr, hlk, hH⟩ := g_start B hv
  subst ha
  have hC : CX p s m ([.int x0] : List Value).toArray c cX11_asNumber RX11 g := hC
  have hS : va_S (gP g) s.heap s.heap [] := va_S.rf
  obtain ⟨ls, he, hl⟩ := g_entry m (vs := [.int x0]) (n := 1) (List.forall_mem_cons.mpr ⟨rfl, (fun _ h => absurd h List.not_mem_nil)⟩) (Nat.le_of_ble_eq_true rfl)
  rw [he]
  have hl : lv_has ls 1 [(0, .int x0)] := hl
  unfold F_X11_asNumber at h
  refine lv_iload_n hC.1 hC.2.1 dX11_asNumber_0 rfl (lv_at hl 0 rfl) ?_
  refine lv_if_eq (tgt := 8) hC.1 hC.2.1 dX11_asNumber_1 (by decide) (fun hc1 => ?_) (fun hc1 => ?_)
  · rw [if_pos hc1] at h
    refine lv_iconst (v := (0 : Int32)) hC.1 hC.2.1 dX11_asNumber_8 (by decide) ?_
    exact B_X11_asNumber_9 hC hE hml hr hlk h hH hS (lv_sub hl [] rfl)
  · rw [if_neg hc1] at h
    refine lv_iconst (v := (1 : Int32)) hC.1 hC.2.1 dX11_asNumber_4 (by decide) ?_
    refine lv_goto (tgt := 9) hC.1 hC.2.1 dX11_asNumber_5 (by decide) ?_
    exact B_X11_asNumber_9 hC hE hml hr hlk h hH hS (lv_sub hl [] rfl)
def F_X11_within (n : Nat) (x0 : Int32) (x1 : Int32) (x2 : Int32) (C : St) : Option (Int32 × St) := bd2 (F_J9_min_7cf53 x2 x0 C) (fun r1 D2 => bd2 (F_J9_max_7cf53 x1 r1 D2) (fun r4 D5 => some (r4, D5)))
set_option maxHeartbeats 4000000 in
set_option maxRecDepth 100000 in
theorem c_X11_within {l : Launch} {g : GP} {ed : Nat → Nat} {Z : St} {x0 : Int32} {x1 : Int32} {x2 : Int32} {C : St} {r : Int32} {C2 : St} (h : F_X11_within (gn g) x0 x1 x2 C = some (r, C2)) : Met l yX11_within (Cond.code yX11_within cX11_within 3 (some .int) :: lwG) ({ frames := 1, cells := 0, slots := 0, locals := 21 } : Room) (va_Pc [.int x0, .int x1, .int x2] (PW g C Z ed)) (QG (some (.int r)) g C2 Z) 0 0 (gP g) := by
  refine Met.ofW (cc := cX11_within) (maxL := 3) (ret := (some .int)) (by decide +kernel) rfl ?_
  intro p e s m args below meth c s₁ B hml hv
  obtain ⟨ha, hC, hE, hr, hlk, hH⟩ := g_start B hv
  subst ha
  have hC : CX p s m ([.int x0, .int x1, .int x2] : List Value).toArray c cX11_within RX11 g := hC
  have hS : va_S (gP g) s.heap s.heap [] := va_S.rf
  obtain ⟨ls, he, hl⟩ := g_entry m (vs := [.int x0, .int x1, .int x2]) (n := 3) (List.forall_mem_cons.mpr ⟨rfl, (List.forall_mem_cons.mpr ⟨rfl, (List.forall_mem_cons.mpr ⟨rfl, (fun _ h => absurd h List.not_mem_nil)⟩)⟩)⟩) (Nat.le_of_ble_eq_true rfl)
  rw [he]
  have hl : lv_has ls 3 [(0, .int x0), (1, .int x1), (2, .int x2)] := hl
  unfold F_X11_within at h
  refine lv_iload_n hC.1 hC.2.1 dX11_within_0 rfl (lv_at hl 1 rfl) ?_
  refine lv_iload_n hC.1 hC.2.1 dX11_within_1 rfl (lv_at hl 2 rfl) ?_
  refine lv_iload_n hC.1 hC.2.1 dX11_within_2 rfl (lv_at hl 0 rfl) ?_
  obtain ⟨r1, D2, hF3, h⟩ := bd2_some h
  refine gcallS (As := [.int x2, .int x0]) (rest := [.int x1]) hC hE hml hH hS (c_J9_min_7cf53 hF3) ⟨wd_36, wd_37, wd_3, wd_38⟩ hd_J9_min_7cf53 rfl rfl ⟨Nat.le_of_ble_eq_true rfl, Nat.le_of_ble_eq_true rfl⟩ rfl hl.1 rfl (Nat.le_of_ble_eq_true rfl) dX11_within_3 ⟨Nat.le_of_ble_eq_true rfl, Nat.le_of_ble_eq_true rfl⟩ (fun ed H locs hH hS => ?_)
  refine W.eq (g2 := F0 m 6 ls [.int r1, .int x1]) rfl ?_
  obtain ⟨r4, D5, hF6, h⟩ := bd2_some h
  refine gcallS (As := [.int x1, .int r1]) (rest := []) hC hE hml hH hS (c_J9_max_7cf53 hF6) ⟨wd_39, wd_40, wd_3, wd_41⟩ hd_J9_max_7cf53 rfl rfl ⟨Nat.le_of_ble_eq_true rfl, Nat.le_of_ble_eq_true rfl⟩ rfl hl.1 rfl (Nat.le_of_ble_eq_true rfl) dX11_within_6 ⟨Nat.le_of_ble_eq_true rfl, Nat.le_of_ble_eq_true rfl⟩ (fun ed H locs hH hS => ?_)
  refine W.eq (g2 := F0 m 9 ls [.int r4]) rfl ?_
  cases h
  exact gret_i hC hr hlk hH hS (Nat.le_of_ble_eq_true rfl) (Nat.le_of_ble_eq_true rfl) dX11_within_9
