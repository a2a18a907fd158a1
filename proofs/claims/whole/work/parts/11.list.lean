def F_Jx4a65c_size_8abf5 (i : Nat)  (C : St) : Option (Int32 × St) := some (C 17 i 2 0, C)
set_option maxHeartbeats 4000000 in
set_option maxRecDepth 100000 in
theorem c_Jx4a65c_size_8abf5 {l : Launch} {g : GP} {ed : Nat → Nat} {Z : St} {i : Nat} (hi : i < 3)  {C : St} {r : Int32} {C2 : St} (h : F_Jx4a65c_size_8abf5 i  C = some (r, C2)) : Met l yJx4a65c_size_8abf5 (Cond.code yJx4a65c_size_8abf5 cJx4a65c_size_8abf5 1 (some .int) :: lwG) ({ frames := 0, cells := 0, slots := 0, locals := 0 } : Room) (va_Pc [.ref (gA g 17 i)] (PW g C Z ed)) (QG (some (.int r)) g C2 Z) 0 0 (gP g) := by
  refine Met.ofW (cc := cJx4a65c_size_8abf5) (maxL := 1) (ret := (some .int)) (by decide +kernel) rfl ?_
  intro p e s m args below meth c s₁ B hml hv
  obtain ⟨ha, hC, hE, hr, hlk, hH⟩ := g_start B hv
  subst ha
  have hC : CX p s m ([.ref (gA g 17 i)] : List Value).toArray c cJx4a65c_size_8abf5 RJx4a65c g := hC
  have hS : va_S (gP g) s.heap s.heap [] := va_S.rf
  obtain ⟨ls, he, hl⟩ := g_entry m (vs := [.ref (gA g 17 i)]) (n := 1) (List.forall_mem_cons.mpr ⟨rfl, (fun _ h => absurd h List.not_mem_nil)⟩) (Nat.le_of_ble_eq_true rfl)
  rw [he]
  have hl : lv_has ls 1 [(0, .ref (gA g 17 i))] := hl
  unfold F_Jx4a65c_size_8abf5 at h
  refine lv_aload_n hC.1 hC.2.1 dJx4a65c_size_8abf5_0 rfl (lv_at hl 0 rfl) ?_
  refine gf_RJx4a65c_48 hC hH hi rfl dJx4a65c_size_8abf5_1 ?_
  cases h
  exact gret_i hC hr hlk hH hS (Nat.le_of_ble_eq_true rfl) (Nat.le_of_ble_eq_true rfl) dJx4a65c_size_8abf5_4
def F_J3_checkIndex_8e157_9  (x0 : Int32) (x1 : Int32) (C : St) : Option (Int32 × St) := none
set_option maxHeartbeats 4000000 in
set_option maxRecDepth 100000 in
theorem B_J3_checkIndex_8e157_9 {p : Program} {l : Launch} {e : Env} {s : State} {m : MethodId} {args : Array Value} {below : List Frame} {meth : Method} {c : Code} {g : GP} {Z : St} (hC : CX p s m args c cJ3_checkIndex_8e157 RJ3 g) (hE : EZ g s s.heap) (hml : c.maxLocals = 3) (hr : meth.sig.returnType = (some .int)) (hlk : meth.locks = false) {r : Int32} {C2 : St} {x0 : Int32} {x1 : Int32} {C : St} (h : F_J3_checkIndex_8e157_9  x0 x1 C = some (r, C2)) {ed : Nat → Nat} {H : Heap} {locs : List Loc} {ls : Array Slot} (hH : HW g ed C Z H) (hS : va_S (gP g) s.heap H locs) (hl : lv_has ls 3 [(0, .int x0), (1, .int x1), (2, .null)]) : W p l e ({ frames := 0, cells := 0, slots := 0, locals := 0 } : Room) s m args below meth c H locs 0 0 (MQ below (QG (some (.int r)) g C2 Z) args s 0 0 (gP g)) (F0 m 9 ls []) := by
  unfold F_J3_checkIndex_8e157_9 at h
  refine lv_aload_nN hC.1 hC.2.1 dJ3_checkIndex_8e157_9 rfl (lv_at hl 2 rfl) ?_
  refine lv_iload_n hC.1 hC.2.1 dJ3_checkIndex_8e157_10 rfl (lv_at hl 0 rfl) ?_
  refine lv_iload_n hC.1 hC.2.1 dJ3_checkIndex_8e157_11 rfl (lv_at hl 1 rfl) ?_
  cases h
def F_J3_checkIndex_8e157 (x0 : Int32) (x1 : Int32) (C : St) : Option (Int32 × St) := if x0 < 0 then (F_J3_checkIndex_8e157_9 x0 x1 C) else (if x0 < x1 then (some (x0, C)) else (F_J3_checkIndex_8e157_9 x0 x1 C))
set_option maxHeartbeats 4000000 in
set_option maxRecDepth 100000 in
theorem c_J3_checkIndex_8e157 {l : Launch} {g : GP} {ed : Nat → Nat} {Z : St} {x0 : Int32} {x1 : Int32} {C : St} {r : Int32} {C2 : St} (h : F_J3_checkIndex_8e157 x0 x1 C = some (r, C2)) : Met l yJ3_checkIndex_8e157 (Cond.code yJ3_checkIndex_8e157 cJ3_checkIndex_8e157 3 (some .int) :: lwG) ({ frames := 0, cells := 0, slots := 0, locals := 0 } : Room) (va_Pc [.int x0, .int x1, .null] (PW g C Z ed)) (QG (some (.int r)) g C2 Z) 0 0 (gP g) := by
  refine Met.ofW (cc := cJ3_checkIndex_8e157) (maxL := 3) (ret := (some .int)) (by decide +kernel) rfl ?_
  intro p e s m args below meth c s₁ B hml hv
  obtain ⟨ha, hC, hE, hr, hlk, hH⟩ := g_start B hv
  subst ha
  have hC : CX p s m ([.int x0, .int x1, .null] : List Value).toArray c cJ3_checkIndex_8e157 RJ3 g := hC
  have hS : va_S (gP g) s.heap s.heap [] := va_S.rf
  obtain ⟨ls, he, hl⟩ := g_entry m (vs := [.int x0, .int x1, .null]) (n := 3) (List.forall_mem_cons.mpr ⟨rfl, (List.forall_mem_cons.mpr ⟨rfl, (List.forall_mem_cons.mpr ⟨rfl, (fun _ h => absurd h List.not_mem_nil)⟩)⟩)⟩) (Nat.le_of_ble_eq_true rfl)
  rw [he]
  have hl : lv_has ls 3 [(0, .int x0), (1, .int x1), (2, .null)] := hl
  unfold F_J3_checkIndex_8e157 at h
  refine lv_iload_n hC.1 hC.2.1 dJ3_checkIndex_8e157_0 rfl (lv_at hl 0 rfl) ?_
  refine lv_if_lt (tgt := 9) hC.1 hC.2.1 dJ3_checkIndex_8e157_1 (by decide) (fun hc1 => ?_) (fun hc1 => ?_)
  · rw [if_pos hc1] at h
    exact B_J3_checkIndex_8e157_9 hC hE hml hr hlk h hH hS (lv_sub hl [0, 1, 2] (by first | rfl | (simp only [rfv_m1]; rfl)))
  · rw [if_neg hc1] at h
    refine lv_iload_n hC.1 hC.2.1 dJ3_checkIndex_8e157_4 rfl (lv_at hl 0 rfl) ?_
    refine lv_iload_n hC.1 hC.2.1 dJ3_checkIndex_8e157_5 rfl (lv_at hl 1 rfl) ?_
    refine lv_icmp_lt (tgt := 16) hC.1 hC.2.1 dJ3_checkIndex_8e157_6 (by decide) (fun hc2 => ?_) (fun hc2 => ?_)
    · rw [if_pos hc2] at h
      refine lv_iload_n hC.1 hC.2.1 dJ3_checkIndex_8e157_16 rfl (lv_at hl 0 rfl) ?_
      cases h
      exact gret_i hC hr hlk hH hS (Nat.le_of_ble_eq_true rfl) (Nat.le_of_ble_eq_true rfl) dJ3_checkIndex_8e157_17
    · rw [if_neg hc2] at h
      exact B_J3_checkIndex_8e157_9 hC hE hml hr hlk h hH hS (lv_sub hl [0, 1, 2] (by first | rfl | (simp only [rfv_m1]; rfl)))
def F_J15_checkIndex_7cf53 (x0 : Int32) (x1 : Int32) (C : St) : Option (Int32 × St) := bd2 (F_J3_checkIndex_8e157 x0 x1 C) (fun r1 D2 => some (r1, D2))
set_option maxHeartbeats 4000000 in
set_option maxRecDepth 100000 in
theorem c_J15_checkIndex_7cf53 {l : Launch} {g : GP} {ed : Nat → Nat} {Z : St} {x0 : Int32} {x1 : Int32} {C : St} {r : Int32} {C2 : St} (h : F_J15_checkIndex_7cf53 x0 x1 C = some (r, C2)) : Met l yJ15_checkIndex_7cf53 (Cond.code yJ15_checkIndex_7cf53 cJ15_checkIndex_7cf53 2 (some .int) :: lwG) ({ frames := 1, cells := 0, slots := 0, locals := 22 } : Room) (va_Pc [.int x0, .int x1] (PW g C Z ed)) (QG (some (.int r)) g C2 Z) 0 0 (gP g) := by
  refine Met.ofW (cc := cJ15_checkIndex_7cf53) (maxL := 2) (ret := (some .int)) (by decide +kernel) rfl ?_
  intro p e s m args below meth c s₁ B hml hv
  obtain ⟨ha, hC, hE, hr, hlk, hH⟩ := g_start B hv
  subst ha
  have hC : CX p s m ([.int x0, .int x1] : List Value).toArray c cJ15_checkIndex_7cf53 RJ15 g := hC
  have hS : va_S (gP g) s.heap s.heap [] := va_S.rf
  obtain ⟨ls, he, hl⟩ := g_entry m (vs := [.int x0, .int x1]) (n := 2) (List.forall_mem_cons.mpr ⟨rfl, (List.forall_mem_cons.mpr ⟨rfl, (fun _ h => absurd h List.not_mem_nil)⟩)⟩) (Nat.le_of_ble_eq_true rfl)
  rw [he]
  have hl : lv_has ls 2 [(0, .int x0), (1, .int x1)] := hl
  unfold F_J15_checkIndex_7cf53 at h
  refine lv_iload_n hC.1 hC.2.1 dJ15_checkIndex_7cf53_0 rfl (lv_at hl 0 rfl) ?_
  refine lv_iload_n hC.1 hC.2.1 dJ15_checkIndex_7cf53_1 rfl (lv_at hl 1 rfl) ?_
  refine lv_null hC.1 hC.2.1 dJ15_checkIndex_7cf53_2 ?_
  obtain ⟨r1, D2, hF3, h⟩ := bd2_some h
  refine gcallS (As := [.int x0, .int x1, .null]) (rest := []) hC hE hml hH hS (c_J3_checkIndex_8e157 hF3) ⟨wd_675, wd_676, wd_19, wd_677⟩ hd_J3_checkIndex_8e157 rfl rfl ⟨Nat.le_of_ble_eq_true rfl, Nat.le_of_ble_eq_true rfl⟩ rfl hl.1 (by first | rfl | (simp only [rfv_m1]; rfl)) (Nat.le_of_ble_eq_true rfl) dJ15_checkIndex_7cf53_3 ⟨Nat.le_of_ble_eq_true rfl, Nat.le_of_ble_eq_true rfl⟩ (fun ed H locs hH hS => ?_)
  refine W.eq (g2 := F0 m 6 ls [.int r1]) rfl ?_
  cases h
  exact gret_i hC hr hlk hH hS (Nat.le_of_ble_eq_true rfl) (Nat.le_of_ble_eq_true rfl) dJ15_checkIndex_7cf53_6
def F_Jx4a65c_elementData_915e3 (i : Nat) (x1 : Int32) (C : St) : Option (Int32 × St) := gd (decide (¬ C 17 i 3 0 = 0)) (gd (inb x1 10) (some (C 18 i 0 x1.toNatClampNeg, C)))
set_option maxHeartbeats 4000000 in
set_option maxRecDepth 100000 in
theorem c_Jx4a65c_elementData_915e3 {l : Launch} {g : GP} {ed : Nat → Nat} {Z : St} {i : Nat} (hi : i < 3) {x1 : Int32} {C : St} {r : Int32} {C2 : St} (h : F_Jx4a65c_elementData_915e3 i x1 C = some (r, C2)) : Met l yJx4a65c_elementData_915e3 (Cond.code yJx4a65c_elementData_915e3 cJx4a65c_elementData_915e3 2 (some (.object "java/lang/Object")) :: lwG) ({ frames := 0, cells := 0, slots := 0, locals := 0 } : Room) (va_Pc [.ref (gA g 17 i), .int x1] (PW g C Z ed)) (QG (some (rfv (gA g) 6 r)) g C2 Z) 0 0 (gP g) := by
  refine Met.ofW (cc := cJx4a65c_elementData_915e3) (maxL := 2) (ret := (some (.object "java/lang/Object"))) (by decide +kernel) rfl ?_
  intro p e s m args below meth c s₁ B hml hv
  obtain ⟨ha, hC, hE, hr, hlk, hH⟩ := g_start B hv
  subst ha
  have hC : CX p s m ([.ref (gA g 17 i), .int x1] : List Value).toArray c cJx4a65c_elementData_915e3 RJx4a65c g := hC
  have hS : va_S (gP g) s.heap s.heap [] := va_S.rf
  obtain ⟨ls, he, hl⟩ := g_entry m (vs := [.ref (gA g 17 i), .int x1]) (n := 2) (List.forall_mem_cons.mpr ⟨rfl, (List.forall_mem_cons.mpr ⟨rfl, (fun _ h => absurd h List.not_mem_nil)⟩)⟩) (Nat.le_of_ble_eq_true rfl)
  rw [he]
  have hl : lv_has ls 2 [(0, .ref (gA g 17 i)), (1, .int x1)] := hl
  unfold F_Jx4a65c_elementData_915e3 at h
  refine lv_aload_n hC.1 hC.2.1 dJx4a65c_elementData_915e3_0 rfl (lv_at hl 0 rfl) ?_
  obtain ⟨hg1, h⟩ := gd_some h
  refine el_get hC hH hi (of_decide_eq_true hg1) wd_264 rfl dJx4a65c_elementData_915e3_1 ?_
  refine lv_iload_n hC.1 hC.2.1 dJx4a65c_elementData_915e3_4 rfl (lv_at hl 1 rfl) ?_
  obtain ⟨hg2, h⟩ := gd_some h
  refine el_ald hC hH hi (of_decide_eq_true hg1) hg2 dJx4a65c_elementData_915e3_5 ?_
  cases h
  exact gret_a hC hr hlk hH hS (Nat.le_of_ble_eq_true rfl) (Nat.le_of_ble_eq_true rfl) dJx4a65c_elementData_915e3_6
def F_Jx4a65c_get_915e3 (i : Nat) (x1 : Int32) (C : St) : Option (Int32 × St) := bd2 (F_J15_checkIndex_7cf53 x1 (C 17 i 2 0) C) (fun r1 D2 => bd2 (F_Jx4a65c_elementData_915e3 i x1 D2) (fun r4 D5 => some (r4, D5)))
set_option maxHeartbeats 4000000 in
set_option maxRecDepth 100000 in
theorem c_Jx4a65c_get_915e3 {l : Launch} {g : GP} {ed : Nat → Nat} {Z : St} {i : Nat} (hi : i < 3) {x1 : Int32} {C : St} {r : Int32} {C2 : St} (h : F_Jx4a65c_get_915e3 i x1 C = some (r, C2)) : Met l yJx4a65c_get_915e3 (Cond.code yJx4a65c_get_915e3 cJx4a65c_get_915e3 2 (some (.object "java/lang/Object")) :: lwG) ({ frames := 2, cells := 0, slots := 0, locals := 43 } : Room) (va_Pc [.ref (gA g 17 i), .int x1] (PW g C Z ed)) (QG (some (rfv (gA g) 6 r)) g C2 Z) 0 0 (gP g) := by
  refine Met.ofW (cc := cJx4a65c_get_915e3) (maxL := 2) (ret := (some (.object "java/lang/Object"))) (by decide +kernel) rfl ?_
  intro p e s m args below meth c s₁ B hml hv
  obtain ⟨ha, hC, hE, hr, hlk, hH⟩ := g_start B hv
  subst ha
  have hC : CX p s m ([.ref (gA g 17 i), .int x1] : List Value).toArray c cJx4a65c_get_915e3 RJx4a65c g := hC
  have hS : va_S (gP g) s.heap s.heap [] := va_S.rf
  obtain ⟨ls, he, hl⟩ := g_entry m (vs := [.ref (gA g 17 i), .int x1]) (n := 2) (List.forall_mem_cons.mpr ⟨rfl, (List.forall_mem_cons.mpr ⟨rfl, (fun _ h => absurd h List.not_mem_nil)⟩)⟩) (Nat.le_of_ble_eq_true rfl)
  rw [he]
  have hl : lv_has ls 2 [(0, .ref (gA g 17 i)), (1, .int x1)] := hl
  unfold F_Jx4a65c_get_915e3 at h
  refine lv_iload_n hC.1 hC.2.1 dJx4a65c_get_915e3_0 rfl (lv_at hl 1 rfl) ?_
  refine lv_aload_n hC.1 hC.2.1 dJx4a65c_get_915e3_1 rfl (lv_at hl 0 rfl) ?_
  refine gf_RJx4a65c_48 hC hH hi rfl dJx4a65c_get_915e3_2 ?_
  obtain ⟨r1, D2, hF3, h⟩ := bd2_some h
  refine gcallS (As := [.int x1, .int (C 17 i 2 0)]) (rest := []) hC hE hml hH hS (c_J15_checkIndex_7cf53 hF3) ⟨wd_672, wd_673, wd_18, wd_674⟩ hd_J15_checkIndex_7cf53 rfl rfl ⟨Nat.le_of_ble_eq_true rfl, Nat.le_of_ble_eq_true rfl⟩ rfl hl.1 rfl (Nat.le_of_ble_eq_true rfl) dJx4a65c_get_915e3_5 ⟨Nat.le_of_ble_eq_true rfl, Nat.le_of_ble_eq_true rfl⟩ (fun ed H locs hH hS => ?_)
  refine W.eq (g2 := F0 m 8 ls [.int r1]) rfl ?_
  refine lv_pop hC.1 hC.2.1 dJx4a65c_get_915e3_8 rfl ?_
  refine lv_aload_n hC.1 hC.2.1 dJx4a65c_get_915e3_9 rfl (lv_at hl 0 rfl) ?_
  refine lv_iload_n hC.1 hC.2.1 dJx4a65c_get_915e3_10 rfl (lv_at hl 1 rfl) ?_
  obtain ⟨r4, D5, hF6, h⟩ := bd2_some h
  refine gcallV (As := [.int x1]) (rest := []) (Cn := RJx4a65c) hC hE hml hH hS (c_Jx4a65c_elementData_915e3 hi hF6) ⟨wd_678, wd_679, wd_680, wd_11, wd_681⟩ hd_Jx4a65c_elementData_915e3 rfl rfl ⟨Nat.le_of_ble_eq_true rfl, Nat.le_of_ble_eq_true rfl⟩ rfl (hw_recv (q := 17) (i := i) hC hH ⟨hi, fun h => absurd h (by decide)⟩ rfl rfl) rfl hl.1 rfl (Nat.le_of_ble_eq_true rfl) dJx4a65c_get_915e3_11 ⟨Nat.le_of_ble_eq_true rfl, Nat.le_of_ble_eq_true rfl⟩ (fun ed H locs hH hS => ?_)
  refine W.eq (g2 := F0 m 14 ls [rfv (gA g) 6 r4]) rfl ?_
  cases h
  exact gret_a hC hr hlk hH hS (Nat.le_of_ble_eq_true rfl) (Nat.le_of_ble_eq_true rfl) dJx4a65c_get_915e3_14
def F_Jx4a65c_fastRemove_b59b0_34 (i : Nat)  (x3 : Int32) (C : St) : Option (Int32 × St) := st (up C 17 i 2 0 x3) (fun D1 => gd (decide (¬ D1 17 i 3 0 = 0)) (gd (inb x3 10) (st (up D1 18 i 0 x3.toNatClampNeg (-1)) (fun D5 => some (0, D5)))))
set_option maxHeartbeats 4000000 in
set_option maxRecDepth 100000 in
theorem B_Jx4a65c_fastRemove_b59b0_34 {p : Program} {l : Launch} {e : Env} {s : State} {m : MethodId} {args : Array Value} {below : List Frame} {meth : Method} {c : Code} {g : GP} {Z : St} {i : Nat} (hi : i < 3) (hC : CX p s m args c cJx4a65c_fastRemove_b59b0 RJx4a65c g) (hE : EZ g s s.heap) (hml : c.maxLocals = 4) (hr : meth.sig.returnType = none) (hlk : meth.locks = false) {r : Int32} {C2 : St} {x3 : Int32} {C : St} (h : F_Jx4a65c_fastRemove_b59b0_34 i  x3 C = some (r, C2)) {ed : Nat → Nat} {H : Heap} {locs : List Loc} {ls : Array Slot} (hH : HW g ed C Z H) (hS : va_S (gP g) s.heap H locs) (hl : lv_has ls 4 [(0, .ref (gA g 17 i)), (1, .ref (ed i)), (3, .int x3)]) : W p l e ({ frames := 1, cells := 0, slots := 0, locals := 60 } : Room) s m args below meth c H locs 0 0 (MQ below (QG none g C2 Z) args s 0 0 (gP g)) (F0 m 34 ls []) := by
  unfold F_Jx4a65c_fastRemove_b59b0_34 at h
  refine lv_aload_n hC.1 hC.2.1 dJx4a65c_fastRemove_b59b0_34 rfl (lv_at hl 1 rfl) ?_
  refine lv_aload_n hC.1 hC.2.1 dJx4a65c_fastRemove_b59b0_35 rfl (lv_at hl 0 rfl) ?_
  refine lv_iload_n hC.1 hC.2.1 dJx4a65c_fastRemove_b59b0_36 rfl (lv_at hl 2 rfl) ?_
  refine lv_dup_x1 hC.1 hC.2.1 dJx4a65c_fastRemove_b59b0_37 rfl rfl ?_
  obtain ⟨D1, e2, h⟩ := st_some h
  refine pf_RJx4a65c_48 hC hH hS hi  rfl dJx4a65c_fastRemove_b59b0_38 (fun H locs hH hS => ?_)
  rw [← e2] at hH
  refine lv_null hC.1 hC.2.1 dJx4a65c_fastRemove_b59b0_41 ?_
  obtain ⟨hg3, h⟩ := gd_some h
  obtain ⟨hg4, h⟩ := gd_some h
  obtain ⟨D5, e6, h⟩ := st_some h
  refine el_astN hC hH hS hi (of_decide_eq_true hg3) hg4 dJx4a65c_fastRemove_b59b0_42 (fun H locs hH hS => ?_)
  rw [← e6] at hH
  cases h
  exact gret_v hC hr hlk hH hS (Nat.le_of_ble_eq_true rfl) (Nat.le_of_ble_eq_true rfl) dJx4a65c_fastRemove_b59b0_43
def F_Jx4a65c_fastRemove_b59b0 (i : Nat) (x2 : Int32) (C : St) : Option (Int32 × St) := st (up C 17 i 0 0 ((C 17 i 0 0) + (1 : Int32))) (fun D1 => if ((D1 17 i 2 0) - (1 : Int32)) ≤ x2 then (F_Jx4a65c_fastRemove_b59b0_34 i ((D1 17 i 2 0) - (1 : Int32)) D1) else (gd (decide (¬ D1 17 i 3 0 = 0)) (gd (okAll D1 i && (!(decide (x2 + (1 : Int32) < 0)) && (!(decide (x2 < 0)) && (!(decide (((D1 17 i 2 0) - (1 : Int32)) - x2 < 0)) && (decide ((x2 + (1 : Int32)).toNatClampNeg + (((D1 17 i 2 0) - (1 : Int32)) - x2).toNatClampNeg ≤ 10) && decide (x2.toNatClampNeg + (((D1 17 i 2 0) - (1 : Int32)) - x2).toNatClampNeg ≤ 10)))))) (st (setA D1 18 i (va_cpy (D1 18 i 0) (D1 18 i 0) (x2 + (1 : Int32)).toNatClampNeg x2.toNatClampNeg (((D1 17 i 2 0) - (1 : Int32)) - x2).toNatClampNeg)) (fun D4 => F_Jx4a65c_fastRemove_b59b0_34 i ((D1 17 i 2 0) - (1 : Int32)) D4)))))
set_option maxHeartbeats 4000000 in
set_option maxRecDepth 100000 in
theorem c_Jx4a65c_fastRemove_b59b0 {l : Launch} {g : GP} {ed : Nat → Nat} {Z : St} {i : Nat} (hi : i < 3) {x2 : Int32} {C : St} {r : Int32} {C2 : St} (h : F_Jx4a65c_fastRemove_b59b0 i x2 C = some (r, C2)) : Met l yJx4a65c_fastRemove_b59b0 (Cond.code yJx4a65c_fastRemove_b59b0 cJx4a65c_fastRemove_b59b0 4 none :: lwG) ({ frames := 1, cells := 0, slots := 0, locals := 60 } : Room) (va_Pc [.ref (gA g 17 i), .ref (ed i), .int x2] (PW g C Z ed)) (QG none g C2 Z) 0 0 (gP g) := by
  refine Met.ofW (cc := cJx4a65c_fastRemove_b59b0) (maxL := 4) (ret := none) (by decide +kernel) rfl ?_
  intro p e s m args below meth c s₁ B hml hv
  obtain ⟨ha, hC, hE, hr, hlk, hH⟩ := g_start B hv
  subst ha
  have hC : CX p s m ([.ref (gA g 17 i), .ref (ed i), .int x2] : List Value).toArray c cJx4a65c_fastRemove_b59b0 RJx4a65c g := hC
  have hS : va_S (gP g) s.heap s.heap [] := va_S.rf
  obtain ⟨ls, he, hl⟩ := g_entry m (vs := [.ref (gA g 17 i), .ref (ed i), .int x2]) (n := 4) (List.forall_mem_cons.mpr ⟨rfl, (List.forall_mem_cons.mpr ⟨rfl, (List.forall_mem_cons.mpr ⟨rfl, (fun _ h => absurd h List.not_mem_nil)⟩)⟩)⟩) (Nat.le_of_ble_eq_true rfl)
  rw [he]
  have hl : lv_has ls 4 [(0, .ref (gA g 17 i)), (1, .ref (ed i)), (2, .int x2)] := hl
  unfold F_Jx4a65c_fastRemove_b59b0 at h
  refine lv_aload_n hC.1 hC.2.1 dJx4a65c_fastRemove_b59b0_0 rfl (lv_at hl 0 rfl) ?_
  refine lv_dup hC.1 hC.2.1 dJx4a65c_fastRemove_b59b0_1 rfl ?_
  refine gf_RJx4a65c_63 hC hH hi rfl dJx4a65c_fastRemove_b59b0_2 ?_
  refine lv_iconst (v := (1 : Int32)) hC.1 hC.2.1 dJx4a65c_fastRemove_b59b0_5 (by decide) ?_
  refine lv_iadd hC.1 hC.2.1 dJx4a65c_fastRemove_b59b0_6 ?_
  obtain ⟨D1, e2, h⟩ := st_some h
  refine pf_RJx4a65c_63 hC hH hS hi  rfl dJx4a65c_fastRemove_b59b0_7 (fun H locs hH hS => ?_)
  rw [← e2] at hH
  refine lv_aload_n hC.1 hC.2.1 dJx4a65c_fastRemove_b59b0_10 rfl (lv_at hl 0 rfl) ?_
  refine gf_RJx4a65c_48 hC hH hi rfl dJx4a65c_fastRemove_b59b0_11 ?_
  refine lv_iconst (v := (1 : Int32)) hC.1 hC.2.1 dJx4a65c_fastRemove_b59b0_14 (by decide) ?_
  refine lv_isub hC.1 hC.2.1 dJx4a65c_fastRemove_b59b0_15 ?_
  refine lv_dup hC.1 hC.2.1 dJx4a65c_fastRemove_b59b0_16 rfl ?_
  refine lv_istore_n (i := 3) (lv' := [(3, .int ((D1 17 i 2 0) - (1 : Int32))), (0, .ref (gA g 17 i)), (1, .ref (ed i)), (2, .int x2)]) hC.1 hC.2.1 dJx4a65c_fastRemove_b59b0_17 rfl hl (by decide) rfl (fun ls hl => ?_)
  refine lv_iload_n hC.1 hC.2.1 dJx4a65c_fastRemove_b59b0_18 rfl (lv_at hl 3 rfl) ?_
  refine lv_icmp_le (tgt := 34) hC.1 hC.2.1 dJx4a65c_fastRemove_b59b0_19 (by decide) (fun hc3 => ?_) (fun hc3 => ?_)
  · rw [if_pos hc3] at h
    exact B_Jx4a65c_fastRemove_b59b0_34 hi hC hE hml hr hlk h hH hS (lv_sub hl [1, 2, 0] rfl)
  · rw [if_neg hc3] at h
    refine lv_aload_n hC.1 hC.2.1 dJx4a65c_fastRemove_b59b0_22 rfl (lv_at hl 2 rfl) ?_
    refine lv_iload_n hC.1 hC.2.1 dJx4a65c_fastRemove_b59b0_23 rfl (lv_at hl 3 rfl) ?_
    refine lv_iconst (v := (1 : Int32)) hC.1 hC.2.1 dJx4a65c_fastRemove_b59b0_24 (by decide) ?_
    refine lv_iadd hC.1 hC.2.1 dJx4a65c_fastRemove_b59b0_25 ?_
    refine lv_aload_n hC.1 hC.2.1 dJx4a65c_fastRemove_b59b0_26 rfl (lv_at hl 2 rfl) ?_
    refine lv_iload_n hC.1 hC.2.1 dJx4a65c_fastRemove_b59b0_27 rfl (lv_at hl 3 rfl) ?_
    refine lv_iload_n hC.1 hC.2.1 dJx4a65c_fastRemove_b59b0_28 rfl (lv_at hl 0 rfl) ?_
    refine lv_iload_n hC.1 hC.2.1 dJx4a65c_fastRemove_b59b0_29 rfl (lv_at hl 3 rfl) ?_
    refine lv_isub hC.1 hC.2.1 dJx4a65c_fastRemove_b59b0_30 ?_
    obtain ⟨hg6, h⟩ := gd_some h
    obtain ⟨hg7, h⟩ := gd_some h
    obtain ⟨D4, e5, h⟩ := st_some h
    refine el_copy hC (by rw [hml]; exact hl.1.symm) ⟨wd_715, wd_717, wd_716, wd_20⟩ hH hS hi (of_decide_eq_true hg6) (cp_1 hg7) (cp_2 hg7) (cp_3 hg7) (cp_4 hg7) (cp_5 hg7) (cp_6 hg7) (Nat.le_of_ble_eq_true rfl) (by decide +kernel) dJx4a65c_fastRemove_b59b0_31 (fun H locs hH hS => ?_)
    rw [← e5] at hH
    exact B_Jx4a65c_fastRemove_b59b0_34 hi hC hE hml hr hlk h hH hS (lv_sub hl [1, 2, 0] rfl)
def F_Jx4a65c_remove_915e3 (i : Nat) (x1 : Int32) (C : St) : Option (Int32 × St) := bd2 (F_J15_checkIndex_7cf53 x1 (C 17 i 2 0) C) (fun r1 D2 => gd (decide (¬ D2 17 i 3 0 = 0)) (gd (inb x1 10) (bd2 (F_Jx4a65c_fastRemove_b59b0 i x1 D2) (fun r6 D7 => some (D2 18 i 0 x1.toNatClampNeg, D7)))))
set_option maxHeartbeats 4000000 in
set_option maxRecDepth 100000 in
theorem c_Jx4a65c_remove_915e3 {l : Launch} {g : GP} {ed : Nat → Nat} {Z : St} {i : Nat} (hi : i < 3) {x1 : Int32} {C : St} {r : Int32} {C2 : St} (h : F_Jx4a65c_remove_915e3 i x1 C = some (r, C2)) : Met l yJx4a65c_remove_915e3 (Cond.code yJx4a65c_remove_915e3 cJx4a65c_remove_915e3 4 (some (.object "java/lang/Object")) :: lwG) ({ frames := 2, cells := 0, slots := 0, locals := 83 } : Room) (va_Pc [.ref (gA g 17 i), .int x1] (PW g C Z ed)) (QG (some (rfv (gA g) 6 r)) g C2 Z) 0 0 (gP g) := by
  refine Met.ofW (cc := cJx4a65c_remove_915e3) (maxL := 4) (ret := (some (.object "java/lang/Object"))) (by decide +kernel) rfl ?_
  intro p e s m args below meth c s₁ B hml hv
  obtain ⟨ha, hC, hE, hr, hlk, hH⟩ := g_start B hv
  subst ha
  have hC : CX p s m ([.ref (gA g 17 i), .int x1] : List Value).toArray c cJx4a65c_remove_915e3 RJx4a65c g := hC
  have hS : va_S (gP g) s.heap s.heap [] := va_S.rf
  obtain ⟨ls, he, hl⟩ := g_entry m (vs := [.ref (gA g 17 i), .int x1]) (n := 4) (List.forall_mem_cons.mpr ⟨rfl, (List.forall_mem_cons.mpr ⟨rfl, (fun _ h => absurd h List.not_mem_nil)⟩)⟩) (Nat.le_of_ble_eq_true rfl)
  rw [he]
  have hl : lv_has ls 4 [(0, .ref (gA g 17 i)), (1, .int x1)] := hl
  unfold F_Jx4a65c_remove_915e3 at h
  refine lv_iload_n hC.1 hC.2.1 dJx4a65c_remove_915e3_0 rfl (lv_at hl 1 rfl) ?_
  refine lv_aload_n hC.1 hC.2.1 dJx4a65c_remove_915e3_1 rfl (lv_at hl 0 rfl) ?_
  refine gf_RJx4a65c_48 hC hH hi rfl dJx4a65c_remove_915e3_2 ?_
  obtain ⟨r1, D2, hF3, h⟩ := bd2_some h
  refine gcallS (As := [.int x1, .int (C 17 i 2 0)]) (rest := []) hC hE hml hH hS (c_J15_checkIndex_7cf53 hF3) ⟨wd_672, wd_673, wd_18, wd_674⟩ hd_J15_checkIndex_7cf53 rfl rfl ⟨Nat.le_of_ble_eq_true rfl, Nat.le_of_ble_eq_true rfl⟩ rfl hl.1 rfl (Nat.le_of_ble_eq_true rfl) dJx4a65c_remove_915e3_5 ⟨Nat.le_of_ble_eq_true rfl, Nat.le_of_ble_eq_true rfl⟩ (fun ed H locs hH hS => ?_)
  refine W.eq (g2 := F0 m 8 ls [.int r1]) rfl ?_
  refine lv_pop hC.1 hC.2.1 dJx4a65c_remove_915e3_8 rfl ?_
  refine lv_aload_n hC.1 hC.2.1 dJx4a65c_remove_915e3_9 rfl (lv_at hl 0 rfl) ?_
  obtain ⟨hg4, h⟩ := gd_some h
  refine el_get hC hH hi (of_decide_eq_true hg4) wd_264 rfl dJx4a65c_remove_915e3_10 ?_
  refine lv_astore_n (i := 2) (lv' := [(2, .ref (ed i)), (0, .ref (gA g 17 i)), (1, .int x1)]) hC.1 hC.2.1 dJx4a65c_remove_915e3_13 rfl hl (by decide) rfl (fun ls hl => ?_)
  refine lv_aload_n hC.1 hC.2.1 dJx4a65c_remove_915e3_14 rfl (lv_at hl 0 rfl) ?_
  refine lv_iload_n hC.1 hC.2.1 dJx4a65c_remove_915e3_15 rfl (lv_at hl 2 rfl) ?_
  obtain ⟨hg5, h⟩ := gd_some h
  refine el_ald hC hH hi (of_decide_eq_true hg4) hg5 dJx4a65c_remove_915e3_16 ?_
  refine gl_astore_n (j := 3) (lv' := [(3, rfv (gA g) 6 (D2 18 i 0 x1.toNatClampNeg)), (2, .ref (ed i)), (0, .ref (gA g 17 i)), (1, .int x1)]) hC dJx4a65c_remove_915e3_17 rfl hl (by decide) rfl (fun ls hl => ?_)
  refine lv_aload_n hC.1 hC.2.1 dJx4a65c_remove_915e3_18 rfl (lv_at hl 2 rfl) ?_
  refine lv_aload_n hC.1 hC.2.1 dJx4a65c_remove_915e3_19 rfl (lv_at hl 1 rfl) ?_
  refine lv_iload_n hC.1 hC.2.1 dJx4a65c_remove_915e3_20 rfl (lv_at hl 3 rfl) ?_
  obtain ⟨r6, D7, hF8, h⟩ := bd2_some h
  refine gcallV (As := [.ref (ed i), .int x1]) (rest := []) (Cn := RJx4a65c) hC hE hml hH hS (c_Jx4a65c_fastRemove_b59b0 hi hF8) ⟨wd_711, wd_713, wp_9, wd_11, wd_714⟩ hd_Jx4a65c_fastRemove_b59b0 rfl rfl ⟨Nat.le_of_ble_eq_true rfl, Nat.le_of_ble_eq_true rfl⟩ rfl (hw_recv (q := 17) (i := i) hC hH ⟨hi, fun h => absurd h (by decide)⟩ rfl rfl) rfl hl.1 rfl (Nat.le_of_ble_eq_true rfl) dJx4a65c_remove_915e3_21 ⟨Nat.le_of_ble_eq_true rfl, Nat.le_of_ble_eq_true rfl⟩ (fun ed H locs hH hS => ?_)
  refine W.eq (g2 := F0 m 24 ls []) rfl ?_
  refine gl_aload_n hC dJx4a65c_remove_915e3_24 rfl (lv_at hl 0 rfl) ?_
  cases h
  exact gret_a hC hr hlk hH hS (Nat.le_of_ble_eq_true rfl) (Nat.le_of_ble_eq_true rfl) dJx4a65c_remove_915e3_25
def F_Jx4a65c_isEmpty_aae02_12 (i : Nat)  (t0 : Int32) (C : St) : Option (Int32 × St) := gd (isb t0) (some (t0, C))
set_option maxHeartbeats 4000000 in
set_option maxRecDepth 100000 in
theorem B_Jx4a65c_isEmpty_aae02_12 {p : Program} {l : Launch} {e : Env} {s : State} {m : MethodId} {args : Array Value} {below : List Frame} {meth : Method} {c : Code} {g : GP} {Z : St} {i : Nat} (hi : i < 3) (hC : CX p s m args c cJx4a65c_isEmpty_aae02 RJx4a65c g) (hE : EZ g s s.heap) (hml : c.maxLocals = 1) (hr : meth.sig.returnType = (some .boolean)) (hlk : meth.locks = false) {r : Int32} {C2 : St} {t0 : Int32} {C : St} (h : F_Jx4a65c_isEmpty_aae02_12 i  t0 C = some (r, C2)) {ed : Nat → Nat} {H : Heap} {locs : List Loc} {ls : Array Slot} (hH : HW g ed C Z H) (hS : va_S (gP g) s.heap H locs) (hl : lv_has ls 1 []) : W p l e ({ frames := 0, cells := 0, slots := 0, locals := 0 } : Room) s m args below meth c H locs 0 0 (MQ below (QG (some (.int r)) g C2 Z) args s 0 0 (gP g)) (F0 m 12 ls [.int t0]) := by
  unfold F_Jx4a65c_isEmpty_aae02_12 at h
  obtain ⟨hg1, h⟩ := gd_some h
  cases h
  exact gret_z hC hr hlk hg1 hH hS (Nat.le_of_ble_eq_true rfl) (Nat.le_of_ble_eq_true rfl) dJx4a65c_isEmpty_aae02_12
def F_Jx4a65c_isEmpty_aae02 (i : Nat)  (C : St) : Option (Int32 × St) := if (C 17 i 2 0) = 0 then (F_Jx4a65c_isEmpty_aae02_12 i (1 : Int32) C) else (F_Jx4a65c_isEmpty_aae02_12 i (0 : Int32) C)
set_option maxHeartbeats 4000000 in
set_option maxRecDepth 100000 in
theorem c_Jx4a65c_isEmpty_aae02 {l : Launch} {g : GP} {ed : Nat → Nat} {Z : St} {i : Nat} (hi : i < 3)  {C : St} {r : Int32} {C2 : St} (h : F_Jx4a65c_isEmpty_aae02 i  C = some (r, C2)) : Met l yJx4a65c_isEmpty_aae02 (Cond.code yJx4a65c_isEmpty_aae02 cJx4a65c_isEmpty_aae02 1 (some .boolean) :: lwG) ({ frames := 0, cells := 0, slots := 0, locals := 0 } : Room) (va_Pc [.ref (gA g 17 i)] (PW g C Z ed)) (QG (some (.int r)) g C2 Z) 0 0 (gP g) := by
  refine Met.ofW (cc := cJx4a65c_isEmpty_aae02) (maxL := 1) (ret := (some .boolean)) (by decide +kernel) rfl ?_
  intro p e s m args below meth c s₁ B hml hv
  obtain ⟨ha, hC, hE, hr, hlk, hH⟩ := g_start B hv
  subst ha
  have hC : CX p s m ([.ref (gA g 17 i)] : List Value).toArray c cJx4a65c_isEmpty_aae02 RJx4a65c g := hC
  have hS : va_S (gP g) s.heap s.heap [] := va_S.rf
  obtain ⟨ls, he, hl⟩ := g_entry m (vs := [.ref (gA g 17 i)]) (n := 1) (List.forall_mem_cons.mpr ⟨rfl, (fun _ h => absurd h List.not_mem_nil)⟩) (Nat.le_of_ble_eq_true rfl)
  rw [he]
  have hl : lv_has ls 1 [(0, .ref (gA g 17 i))] := hl
  unfold F_Jx4a65c_isEmpty_aae02 at h
  refine lv_aload_n hC.1 hC.2.1 dJx4a65c_isEmpty_aae02_0 rfl (lv_at hl 0 rfl) ?_
  refine gf_RJx4a65c_48 hC hH hi rfl dJx4a65c_isEmpty_aae02_1 ?_
  refine lv_if_ne (tgt := 11) hC.1 hC.2.1 dJx4a65c_isEmpty_aae02_4 (by decide) (fun hc1 => ?_) (fun hc1 => ?_)
  · rw [if_neg hc1] at h
    refine lv_iconst (v := (0 : Int32)) hC.1 hC.2.1 dJx4a65c_isEmpty_aae02_11 (by decide) ?_
    exact B_Jx4a65c_isEmpty_aae02_12 hi hC hE hml hr hlk h hH hS (lv_sub hl [] rfl)
  · rw [if_pos hc1] at h
    refine lv_iconst (v := (1 : Int32)) hC.1 hC.2.1 dJx4a65c_isEmpty_aae02_7 (by decide) ?_
    refine lv_goto (tgt := 12) hC.1 hC.2.1 dJx4a65c_isEmpty_aae02_8 (by decide) ?_
    exact B_Jx4a65c_isEmpty_aae02_12 hi hC hE hml hr hlk h hH hS (lv_sub hl [] rfl)
