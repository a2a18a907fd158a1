def F_X9_v_36 (n : Nat) (i : Nat)   (C : St) : Option (Int32 × St) := some (0, C)
set_option maxHeartbeats 4000000 in
set_option maxRecDepth 100000 in
theorem B_X9_v_36 {p : Program} {l : Launch} {e : Env} {s : State} {m : MethodId} {args : Array Value} {below : List Frame} {meth : Method} {c : Code} {g : GP} {Z : St} {i : Nat} (hi : i < 7) (hC : CX p s m args c cX9_v RX9 g) (hE : EZ g s s.heap) (hml : c.maxLocals = 1) (hr : meth.sig.returnType = none) (hlk : meth.locks = false) {r : Int32} {C2 : St}  {C : St} (h : F_X9_v_36 (gn g) i   C = some (r, C2)) {ed : Nat → Nat} {H : Heap} {locs : List Loc} {ls : Array Slot} (hH : HW g ed C Z H) (hS : va_S (gP g) s.heap H locs) (hl : lv_has ls 1 []) : W p l e ({ frames := 2, cells := 0, slots := 0, locals := 43 } : Room) s m args below meth c H locs 0 0 (MQ below (QG none g C2 Z) args s 0 0 (gP g)) (F0 m 36 ls []) := by
  unfold F_X9_v_36 at h
  cases h
  exact gret_v hC hr hlk hH hS (Nat.le_of_ble_eq_true rfl) (Nat.le_of_ble_eq_true rfl) dX9_v_36
def F_X9_v (n : Nat) (i : Nat)  (C : St) : Option (Int32 × St) := if (C 5 i 3 0) = 0 then (st (up C 5 i 4 0 ((C 5 i 4 0) + (1 : Int32))) (fun D2 => F_X9_v_36 n i  D2)) else (st (up C 5 i 3 0 (0 : Int32)) (fun D4 => bd2 (F_X7_wake n (D4 5 i 1 0) D4) (fun r6 D7 => F_X9_v_36 n i  D7)))
set_option maxHeartbeats 4000000 in
set_option maxRecDepth 100000 in
theorem c_X9_v {l : Launch} {g : GP} {ed : Nat → Nat} {Z : St} {i : Nat} (hi : i < 7)  {C : St} {r : Int32} {C2 : St} (h : F_X9_v (gn g) i  C = some (r, C2)) : Met l yX9_v (Cond.code yX9_v cX9_v 1 none :: lwG) ({ frames := 2, cells := 0, slots := 0, locals := 43 } : Room) (va_Pc [.ref (gA g 5 i)] (PW g C Z ed)) (QG none g C2 Z) 0 0 (gP g) := by
  refine Met.ofW (cc := cX9_v) (maxL := 1) (ret := none) (by decide +kernel) rfl ?_
  intro p e s m args below meth c s₁ B hml hv
  obtain ⟨ha, hC, hE, hr, hlk, hH⟩ := g_start B hv
  subst ha
  have hC : CX p s m ([.ref (gA g 5 i)] : List Value).toArray c cX9_v RX9 g := hC
  have hS : va_S (gP g) s.heap s.heap [] := va_S.rf
  obtain ⟨ls, he, hl⟩ := g_entry m (vs := [.ref (gA g 5 i)]) (n := 1) (List.forall_mem_cons.mpr ⟨rfl, (fun _ h => absurd h List.not_mem_nil)⟩) (Nat.le_of_ble_eq_true rfl)
  rw [he]
  have hl : lv_has ls 1 [(0, .ref (gA g 5 i))] := hl
  unfold F_X9_v at h
  refine lv_aload_n hC.1 hC.2.1 dX9_v_0 rfl (lv_at hl 0 rfl) ?_
  refine gf_RX9_20 hC hH hi rfl dX9_v_1 ?_
  refine lv_if_eq (tgt := 26) hC.1 hC.2.1 dX9_v_4 (by decide) (fun hc1 => ?_) (fun hc1 => ?_)
  · rw [if_pos hc1] at h
    refine lv_aload_n hC.1 hC.2.1 dX9_v_26 rfl (lv_at hl 0 rfl) ?_
    refine lv_dup hC.1 hC.2.1 dX9_v_27 rfl ?_
    refine gf_RX9_30 hC hH hi rfl dX9_v_28 ?_
    refine lv_iconst (v := (1 : Int32)) hC.1 hC.2.1 dX9_v_31 (by decide) ?_
    refine lv_iadd hC.1 hC.2.1 dX9_v_32 ?_
    obtain ⟨D2, e3, h⟩ := st_some h
    refine pf_RX9_30 hC hH hS hi  rfl dX9_v_33 (fun H locs hH hS => ?_)
    rw [← e3] at hH
    exact B_X9_v_36 hi hC hE hml hr hlk h hH hS (lv_sub hl [] rfl)
  · rw [if_neg hc1] at h
    refine lv_aload_n hC.1 hC.2.1 dX9_v_7 rfl (lv_at hl 0 rfl) ?_
    refine lv_iconst (v := (0 : Int32)) hC.1 hC.2.1 dX9_v_8 (by decide) ?_
    obtain ⟨D4, e5, h⟩ := st_some h
    refine pf_RX9_20 hC hH hS hi (by decide) rfl dX9_v_9 (fun H locs hH hS => ?_)
    rw [← e5] at hH
    refine lv_aload_n hC.1 hC.2.1 dX9_v_12 rfl (lv_at hl 0 rfl) ?_
    refine gf_RX9_7 hC hH hi rfl dX9_v_13 ?_
    refine lv_aload_n hC.1 hC.2.1 dX9_v_16 rfl (lv_at hl 0 rfl) ?_
    refine gf_RX9_13 hC hH hi rfl dX9_v_17 ?_
    obtain ⟨r6, D7, hF8, h⟩ := bd2_some h
    refine gcallV (As := [.int (D4 5 i 1 0)]) (rest := []) (Cn := RX7) hC hE hml hH hS (c_X7_wake hF8) ⟨wd_803, wd_723, wd_724, wd_2, wd_725⟩ hd_X7_wake rfl rfl ⟨Nat.le_of_ble_eq_true rfl, Nat.le_of_ble_eq_true rfl⟩ rfl (hw_recv (q := 1) (i := 0) hC hH ⟨Nat.zero_lt_one, fun h => absurd h (by decide)⟩ rfl rfl) rfl hl.1 rfl (Nat.le_of_ble_eq_true rfl) dX9_v_20 ⟨Nat.le_of_ble_eq_true rfl, Nat.le_of_ble_eq_true rfl⟩ (fun ed H locs hH hS => ?_)
    refine W.eq (g2 := F0 m 23 ls []) rfl ?_
    refine lv_goto (tgt := 36) hC.1 hC.2.1 dX9_v_23 (by decide) ?_
    exact B_X9_v_36 hi hC hE hml hr hlk h hH hS (lv_sub hl [] rfl)
def F_X9_p_40 (n : Nat) (i : Nat)   (C : St) : Option (Int32 × St) := some (0, C)
set_option maxHeartbeats 4000000 in
set_option maxRecDepth 100000 in
theorem B_X9_p_40 {p : Program} {l : Launch} {e : Env} {s : State} {m : MethodId} {args : Array Value} {below : List Frame} {meth : Method} {c : Code} {g : GP} {Z : St} {i : Nat} (hi : i < 7) (hC : CX p s m args c cX9_p RX9 g) (hE : EZ g s s.heap) (hml : c.maxLocals = 1) (hr : meth.sig.returnType = none) (hlk : meth.locks = false) {r : Int32} {C2 : St}  {C : St} (h : F_X9_p_40 (gn g) i   C = some (r, C2)) {ed : Nat → Nat} {H : Heap} {locs : List Loc} {ls : Array Slot} (hH : HW g ed C Z H) (hS : va_S (gP g) s.heap H locs) (hl : lv_has ls 1 []) : W p l e ({ frames := 3, cells := 0, slots := 0, locals := 65 } : Room) s m args below meth c H locs 0 0 (MQ below (QG none g C2 Z) args s 0 0 (gP g)) (F0 m 40 ls []) := by
  unfold F_X9_p_40 at h
  cases h
  exact gret_v hC hr hlk hH hS (Nat.le_of_ble_eq_true rfl) (Nat.le_of_ble_eq_true rfl) dX9_p_40
def F_X9_p (n : Nat) (i : Nat)  (C : St) : Option (Int32 × St) := if (C 5 i 4 0) ≤ 0 then (st (up C 5 i 3 0 (1 : Int32)) (fun D2 => bd2 (F_X7_suspend n (D2 5 i 1 0) (D2 5 i 2 0) D2) (fun r4 D5 => F_X9_p_40 n i  D5))) else (st (up C 5 i 4 0 ((C 5 i 4 0) - (1 : Int32))) (fun D7 => F_X9_p_40 n i  D7))
set_option maxHeartbeats 4000000 in
set_option maxRecDepth 100000 in
theorem c_X9_p {l : Launch} {g : GP} {ed : Nat → Nat} {Z : St} {i : Nat} (hi : i < 7)  {C : St} {r : Int32} {C2 : St} (h : F_X9_p (gn g) i  C = some (r, C2)) : Met l yX9_p (Cond.code yX9_p cX9_p 1 none :: lwG) ({ frames := 3, cells := 0, slots := 0, locals := 65 } : Room) (va_Pc [.ref (gA g 5 i)] (PW g C Z ed)) (QG none g C2 Z) 0 0 (gP g) := by
  refine Met.ofW (cc := cX9_p) (maxL := 1) (ret := none) (by decide +kernel) rfl ?_
  intro p e s m args below meth c s₁ B hml hv
  obtain ⟨ha, hC, hE, hr, hlk, hH⟩ := g_start B hv
  subst ha
  have hC : CX p s m ([.ref (gA g 5 i)] : List Value).toArray c cX9_p RX9 g := hC
  have hS : va_S (gP g) s.heap s.heap [] := va_S.rf
  obtain ⟨ls, he, hl⟩ := g_entry m (vs := [.ref (gA g 5 i)]) (n := 1) (List.forall_mem_cons.mpr ⟨rfl, (fun _ h => absurd h List.not_mem_nil)⟩) (Nat.le_of_ble_eq_true rfl)
  rw [he]
  have hl : lv_has ls 1 [(0, .ref (gA g 5 i))] := hl
  unfold F_X9_p at h
  refine lv_aload_n hC.1 hC.2.1 dX9_p_0 rfl (lv_at hl 0 rfl) ?_
  refine gf_RX9_30 hC hH hi rfl dX9_p_1 ?_
  refine lv_if_le (tgt := 20) hC.1 hC.2.1 dX9_p_4 (by decide) (fun hc1 => ?_) (fun hc1 => ?_)
  · rw [if_pos hc1] at h
    refine lv_aload_n hC.1 hC.2.1 dX9_p_20 rfl (lv_at hl 0 rfl) ?_
    refine lv_iconst (v := (1 : Int32)) hC.1 hC.2.1 dX9_p_21 (by decide) ?_
    obtain ⟨D2, e3, h⟩ := st_some h
    refine pf_RX9_20 hC hH hS hi (by decide) rfl dX9_p_22 (fun H locs hH hS => ?_)
    rw [← e3] at hH
    refine lv_aload_n hC.1 hC.2.1 dX9_p_25 rfl (lv_at hl 0 rfl) ?_
    refine gf_RX9_7 hC hH hi rfl dX9_p_26 ?_
    refine lv_aload_n hC.1 hC.2.1 dX9_p_29 rfl (lv_at hl 0 rfl) ?_
    refine gf_RX9_13 hC hH hi rfl dX9_p_30 ?_
    refine lv_aload_n hC.1 hC.2.1 dX9_p_33 rfl (lv_at hl 0 rfl) ?_
    refine gf_RX9_17 hC hH hi rfl dX9_p_34 ?_
    obtain ⟨r4, D5, hF6, h⟩ := bd2_some h
    refine gcallV (As := [.int (D2 5 i 1 0), .int (D2 5 i 2 0)]) (rest := []) (Cn := RX7) hC hE hml hH hS (c_X7_suspend hF6) ⟨wd_302, wd_303, wd_304, wd_2, wd_305⟩ hd_X7_suspend rfl rfl ⟨Nat.le_of_ble_eq_true rfl, Nat.le_of_ble_eq_true rfl⟩ rfl (hw_recv (q := 1) (i := 0) hC hH ⟨Nat.zero_lt_one, fun h => absurd h (by decide)⟩ rfl rfl) rfl hl.1 rfl (Nat.le_of_ble_eq_true rfl) dX9_p_37 ⟨Nat.le_of_ble_eq_true rfl, Nat.le_of_ble_eq_true rfl⟩ (fun ed H locs hH hS => ?_)
    refine W.eq (g2 := F0 m 40 ls []) rfl ?_
    exact B_X9_p_40 hi hC hE hml hr hlk h hH hS (lv_sub hl [] rfl)
  · rw [if_neg hc1] at h
    refine lv_aload_n hC.1 hC.2.1 dX9_p_7 rfl (lv_at hl 0 rfl) ?_
    refine lv_dup hC.1 hC.2.1 dX9_p_8 rfl ?_
    refine gf_RX9_30 hC hH hi rfl dX9_p_9 ?_
    refine lv_iconst (v := (1 : Int32)) hC.1 hC.2.1 dX9_p_12 (by decide) ?_
    refine lv_isub hC.1 hC.2.1 dX9_p_13 ?_
    obtain ⟨D7, e8, h⟩ := st_some h
    refine pf_RX9_30 hC hH hS hi  rfl dX9_p_14 (fun H locs hH hS => ?_)
    rw [← e8] at hH
    refine lv_goto (tgt := 40) hC.1 hC.2.1 dX9_p_17 (by decide) ?_
    exact B_X9_p_40 hi hC hE hml hr hlk h hH hS (lv_sub hl [] rfl)
