def F_Jx4a65c_size_8abf5 (i : Nat)  (C : St) : Option (Int32 × St) := some (C 17 i 2 0, C)
set_option maxHeartbeats 4000000 in
set_option maxRecDepth 100000 in
theorem c_Jx4a65c_size_8abf5 {l : Launch} {g : GP} {ed : Nat → Nat} {Z : St} {i : Nat} (hi : i < 3)  {C : St} {r : Int32} {C2 : St} (h : F_Jx4a65c_size_8abf5 i  C = some (r, C2)) : Met l yJx4a65c_size_8abf5 (Cond.code yJx4a65c_size_8abf5 cJx4a65c_size_8abf5 1 (some .int) :: lwG) ({ frames := 0, cells := 0, slots := 0, locals := 0 } : Room) (va_Pc [.ref (gA g 17 i)] (PW g C Z ed)) (QG (some (.int r)) g C2 Z) 0 0 (gP g) := by
  refine Met.ofW (cc := cJx4a65c_size_8abf5) (maxL := 1) (ret := (some .int)) (by decide +kernel) rfl ?_
  intro p e s m args below meth c s₁ B hml hv
  obtain ⟨ha, hC, hE, hr, hlk, hH⟩ := g_start B hv
  subst ha
  have hC : CX p s m ([.ref (gA g 17 i)] : List Value).toArray c cJx4a65c_size_8abf5 RJx4a65c g := hC
  have hS : va_S (gP g) s.heap s.heap [] := va_S.rf
  obtain ⟨ls, he, hl⟩ := g_entry m (vs := [.ref (gA g 17 i)]) (n := 1) (List.forall_mem_cons.mpr ⟨rfl, (fun _ h => absurd h List.not_mem_nil)⟩) (Nat.le_of_ble_eq_true rfl)
  rw [he]
  have hl : lv_has ls 1 [(0, .ref (gA g 17 i))] := hl
  unfold F_Jx4a65c_size_8abf5 at h
  refine lv_aload_n hC.1 hC.2.1 dJx4a65c_size_8abf5_0 rfl (lv_at hl 0 rfl) ?_
  refine gf_RJx4a65c_48 hC hH hi rfl dJx4a65c_size_8abf5_1 ?_
  cases h
  exact gret_i hC hr hlk hH hS (Nat.le_of_ble_eq_true rfl) (Nat.le_of_ble_eq_true rfl) dJx4a65c_size_8abf5_4
def F_Jx4a65c_isEmpty_aae02_12 (i : Nat)  (t0 : Int32) (C : St) : Option (Int32 × St) := gd (isb t0) (some (t0, C))
set_option maxHeartbeats 4000000 in
set_option maxRecDepth 100000 in
theorem B_Jx4a65c_isEmpty_aae02_12 {p : Program} {l : Launch} {e : Env} {s : State} {m : MethodId} {args : Array Value} {below : List Frame} {meth : Method} {c : Code} {g : GP} {Z : St} {i : Nat} (hi : i < 3) (hC : CX p s m args c cJx4a65c_isEmpty_aae02 RJx4a65c g) (hE : EZ g s s.heap) (hml : c.maxLocals = 1) (hr : meth.sig.returnType = (some .boolean)) (hlk : meth.locks = false) {r : Int32} {C2 : St} {t0 : Int32} {C : St} (h : F_Jx4a65c_isEmpty_aae02_12 i  t0 C = some (r, C2)) {ed : Nat → Nat} {H : Heap} {locs : List Loc} {ls : Array Slot} (hH : HW g ed C Z H) (hS : va_S (gP g) s.heap H locs) (hl : lv_has ls 1 []) : W p l e ({ frames := 0, cells := 0, slots := 0, locals := 0 } : Room) s m args below meth c H locs 0 0 (MQ below (QG (some (.int r)) g C2 Z) args s 0 0 (gP g)) (F0 m 12 ls [.int t0]) := by
  unfold F_Jx4a65c_isEmpty_aae02_12 at h
  obtain ⟨hg1, h⟩ := gd_some h
  cases h
  exact gret_z hC hr hlk hg1 hH hS (Nat.le_of_ble_eq_true rfl) (Nat.le_of_ble_eq_true rfl) dJx4a65c_isEmpty_aae02_12
def F_Jx4a65c_isEmpty_aae02 (i : Nat)  (C : St) : Option (Int32 × St) := if (C 17 i 2 0) = 0 then (F_Jx4a65c_isEmpty_aae02_12 i (1 : Int32) C) else (F_Jx4a65c_isEmpty_aae02_12 i (0 : Int32) C)
set_option maxHeartbeats 4000000 in
set_option maxRecDepth 100000 in
theorem c_Jx4a65c_isEmpty_aae02 {l : Launch} {g : GP} {ed : Nat → Nat} {Z : St} {i : Nat} (hi : i < 3)  {C : St} {r : Int32} {C2 : St} (h : F_Jx4a65c_isEmpty_aae02 i  C = some (r, C2)) : Met l yJx4a65c_isEmpty_aae02 (Cond.code yJx4a65c_isEmpty_aae02 cJx4a65c_isEmpty_aae02 1 (some .boolean) :: lwG) ({ frames := 0, cells := 0, slots := 0, locals := 0 } : Room) (va_Pc [.ref (gA g 17 i)] (PW g C Z ed)) (QG (some (.int r)) g C2 Z) 0 0 (gP g) := by
  refine Met.ofW (cc := cJx4a65c_isEmpty_aae02) (maxL := 1) (ret := (some .boolean)) (by decide +kernel) rfl ?_
  intro p e s m args below meth c s₁ B hml hv
  obtain ⟨ha, hC, hE, hr, hlk, hH⟩ := g_start B hv
  subst ha
  have hC : CX p s m ([.ref (gA g 17 i)] : List Value).toArray c cJx4a65c_isEmpty_aae02 RJx4a65c g := hC
  have hS : va_S (gP g) s.heap s.heap [] := va_S.rf
  obtain ⟨ls, he, hl⟩ := g_entry m (vs := [.ref (gA g 17 i)]) (n := 1) (List.forall_mem_cons.mpr ⟨rfl, (fun _ h => absurd h List.not_mem_nil)⟩) (Nat.le_of_ble_eq_true rfl)
  rw [he]
  have hl : lv_has ls 1 [(0, .ref (gA g 17 i))] := hl
  unfold F_Jx4a65c_isEmpty_aae02 at h
  refine lv_aload_n hC.1 hC.2.1 dJx4a65c_isEmpty_aae02_0 rfl (lv_at hl 0 rfl) ?_
  refine gf_RJx4a65c_48 hC hH hi rfl dJx4a65c_isEmpty_aae02_1 ?_
  refine lv_if_ne (tgt := 11) hC.1 hC.2.1 dJx4a65c_isEmpty_aae02_4 (by decide) (fun hc1 => ?_) (fun hc1 => ?_)
  · rw [if_neg hc1] at h
    refine lv_iconst (v := (0 : Int32)) hC.1 hC.2.1 dJx4a65c_isEmpty_aae02_11 (by decide) ?_
    exact B_Jx4a65c_isEmpty_aae02_12 hi hC hE hml hr hlk h hH hS (lv_sub hl [] rfl)
  · rw [if_pos hc1] at h
    refine lv_iconst (v := (1 : Int32)) hC.1 hC.2.1 dJx4a65c_isEmpty_aae02_7 (by decide) ?_
    refine lv_goto (tgt := 12) hC.1 hC.2.1 dJx4a65c_isEmpty_aae02_8 (by decide) ?_
    exact B_Jx4a65c_isEmpty_aae02_12 hi hC hE hml hr hlk h hH hS (lv_sub hl [] rfl)
