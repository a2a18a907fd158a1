theorem wd_539 : Cond.fieldLink RX11 77 "DrumLayers" "machine" "LDrumLayers$Machine;" ∈ lwG := lwG_of (List.mem_of_getElem? (i := 609) (by decide +kernel)) (by decide +kernel)
theorem wd_613 : Cond.methodLink RX11 132 yX7_begin ∈ lwG := lwG_of (List.mem_of_getElem? (i := 683) (by decide +kernel)) (by decide +kernel)
theorem wd_614 : Cond.instanceMethod yX7_begin ∈ lwG := lwG_of (List.mem_of_getElem? (i := 684) (by decide +kernel)) (by decide +kernel)
theorem wd_615 : Cond.selects RX7 yX7_begin yX7_begin ∈ lwG := lwG_of (List.mem_of_getElem? (i := 685) (by decide +kernel)) (by decide +kernel)
theorem wd_616 : Cond.code yX7_begin cX7_begin 1 (some .int) ∈ lwG := lwG_of (List.mem_of_getElem? (i := 686) (by decide +kernel)) (by decide +kernel)
theorem wd_621 : Cond.methodLink RX11 139 yX6_step ∈ lwG := lwG_of (List.mem_of_getElem? (i := 691) (by decide +kernel)) (by decide +kernel)
theorem wd_622 : Cond.instanceMethod yX6_step ∈ lwG := lwG_of (List.mem_of_getElem? (i := 692) (by decide +kernel)) (by decide +kernel)
theorem wd_623 : Cond.selects RX6 yX6_step yX6_step ∈ lwG := lwG_of (List.mem_of_getElem? (i := 693) (by decide +kernel)) (by decide +kernel)
theorem wd_624 : Cond.code yX6_step cX6_step 2 none ∈ lwG := lwG_of (List.mem_of_getElem? (i := 694) (by decide +kernel)) (by decide +kernel)
theorem wd_870 : Cond.methodLink RX11 143 yX11_systemStep ∈ lwG := lwG_of (List.mem_of_getElem? (i := 940) (by decide +kernel)) (by decide +kernel)
theorem wd_872 : Cond.instanceMethod yX11_systemStep ∈ lwG := lwG_of (List.mem_of_getElem? (i := 942) (by decide +kernel)) (by decide +kernel)
theorem wd_873 : Cond.code yX11_systemStep cX11_systemStep 2 none ∈ lwG := lwG_of (List.mem_of_getElem? (i := 943) (by decide +kernel)) (by decide +kernel)
theorem wd_988 : Cond.methodLink RX11 146 yX7_end ∈ lwG := lwG_of (List.mem_of_getElem? (i := 1058) (by decide +kernel)) (by decide +kernel)
theorem wd_989 : Cond.instanceMethod yX7_end ∈ lwG := lwG_of (List.mem_of_getElem? (i := 1059) (by decide +kernel)) (by decide +kernel)
theorem wd_990 : Cond.selects RX7 yX7_end yX7_end ∈ lwG := lwG_of (List.mem_of_getElem? (i := 1060) (by decide +kernel)) (by decide +kernel)
theorem wd_991 : Cond.code yX7_end cX7_end 2 none ∈ lwG := lwG_of (List.mem_of_getElem? (i := 1061) (by decide +kernel)) (by decide +kernel)
theorem wp_17 : Cond.selects RX11 yX11_systemStep yX11_systemStep ∈ lwG := lwG_of (List.mem_of_getElem? (i := 17) (by decide +kernel)) (by decide +kernel)
theorem hd_X11_systemStep : yX11_systemStep.cls ≠ "java/lang/invoke/MethodHandle" ∧ yX11_systemStep.cls ≠ "java/lang/invoke/VarHandle" ∧ (parseMethodDescriptor yX11_systemStep.desc).map (fun d => d.parameters.length) = some 1 := by decide +kernel
theorem hd_X6_step : yX6_step.cls ≠ "java/lang/invoke/MethodHandle" ∧ yX6_step.cls ≠ "java/lang/invoke/VarHandle" ∧ (parseMethodDescriptor yX6_step.desc).map (fun d => d.parameters.length) = some 1 := by decide +kernel
theorem hd_X7_begin : yX7_begin.cls ≠ "java/lang/invoke/MethodHandle" ∧ yX7_begin.cls ≠ "java/lang/invoke/VarHandle" ∧ (parseMethodDescriptor yX7_begin.desc).map (fun d => d.parameters.length) = some 0 := by decide +kernel
theorem hd_X7_end : yX7_end.cls ≠ "java/lang/invoke/MethodHandle" ∧ yX7_end.cls ≠ "java/lang/invoke/VarHandle" ∧ (parseMethodDescriptor yX7_end.desc).map (fun d => d.parameters.length) = some 1 := by decide +kernel
theorem gf_RX11_77 {p : Program} {l : Launch} {e : Env} {R0 : Room} {s : State} {m : MethodId} {args : Array Value} {below : List Frame} {meth : Method} {c : Code} {H : Heap} {locs : List Loc} {cells slots : Nat} {Q : State → Prop} {cc : ByteArray} {pc : Nat} {ls : Array Slot} {rest : List Value} {g : GP} {ed : Nat → Nat} {C R : St} {v0 : Value} (hC : CX p s m args c cc RX11 g) (hH : HW g ed C R H) (hv0 : v0 = .ref (gA g 0 0)) (hdg : decode cc pc = .ok (.getfield 77, 3)) (kk : W p l e R0 s m args below meth c H locs cells slots Q (F0 m (pc + 3) ls (.ref (gA g 32 0) :: rest))) : W p l e R0 s m args below meth c H locs cells slots Q (F0 m (pc) ls (v0 :: rest)) :=
  hw_get (q := 0) (i := 0) (Cn := RX11) (T := TX11) (N := 10) hC hH uw_X11 ⟨Nat.zero_lt_one, fun h => absurd h (by decide)⟩ (im_0 _ _ _ _) rfl 7 (by decide) wd_539 rfl rfl hv0 hdg kk
def F_X11_tick_11 (n : Nat)   (C : St) : Option (Int32 × St) := some ((-1 : Int32), C)
set_option maxHeartbeats 4000000 in
set_option maxRecDepth 100000 in
theorem B_X11_tick_11 {p : Program} {l : Launch} {e : Env} {s : State} {m : MethodId} {args : Array Value} {below : List Frame} {meth : Method} {c : Code} {g : GP} {Z : St} (hC : CX p s m args c cX11_tick RX11 g) (hE : EZ g s s.heap) (hml : c.maxLocals = 5) (hr : meth.sig.returnType = (some .int)) (hlk : meth.locks = false) {r : Int32} {C2 : St}  {C : St} (h : F_X11_tick_11 (gn g)   C = some (r, C2)) {ed : Nat → Nat} {H : Heap} {locs : List Loc} {ls : Array Slot} (hH : HW g ed C Z H) (hS : va_S (gP g) s.heap H locs) (hl : lv_has ls 5 []) : W p l e ({ frames := 9, cells := 1000, slots := 10000, locals := 213 } : Room) s m args below meth c H locs 0 0 (MQ below (QG (some (.int r)) g C2 Z) args s 1000 10000 (gP g)) (F0 m 11 ls []) := by
  unfold F_X11_tick_11 at h
  refine lv_iconst (v := (-1 : Int32)) hC.1 hC.2.1 dX11_tick_11 (by decide) ?_
  cases h
  exact gret_i hC hr hlk hH hS (Nat.le_of_ble_eq_true rfl) (Nat.le_of_ble_eq_true rfl) dX11_tick_12
def F_X11_tick_60 (n : Nat) (k15 : Int32 → Int32 → St → Option (Int32 × St)) (x1 : Int32) (x2 : Int32) (x3 : Int32) (C : St) : Option (Int32 × St) := bd2 (F_X7_end n x3 C) (fun r1 D2 => k15 x1 (x2 + 1) D2)
set_option maxHeartbeats 4000000 in
set_option maxRecDepth 100000 in
theorem B_X11_tick_60 {p : Program} {l : Launch} {e : Env} {s : State} {m : MethodId} {args : Array Value} {below : List Frame} {meth : Method} {c : Code} {g : GP} {Z : St} (hC : CX p s m args c cX11_tick RX11 g) (hE : EZ g s s.heap) (hml : c.maxLocals = 5) (hr : meth.sig.returnType = (some .int)) (hlk : meth.locks = false) {r : Int32} {C2 : St} {ce sl : Nat} (hce : ce ≤ 1000) (hsl : sl ≤ 10000) {k15 : Int32 → Int32 → St → Option (Int32 × St)} (hk15 : ∀ (x1 : Int32) (x2 : Int32) (C : St), k15 x1 x2 C = some (r, C2) → ∀ (ed : Nat → Nat) (H : Heap) (locs : List Loc) (ls : Array Slot), HW g ed C Z H → va_S (gP g) s.heap H locs → lv_has ls 5 [(0, .ref (gA g 0 0)), (1, .int x1), (2, .int x2)] → W p l e ({ frames := 9, cells := 1000, slots := 10000, locals := 213 } : Room) s m args below meth c H locs ce sl (MQ below (QG (some (.int r)) g C2 Z) args s 1000 10000 (gP g)) (F0 m 15 ls [])) {x1 : Int32} {x2 : Int32} {x3 : Int32} {C : St} (h : F_X11_tick_60 (gn g) k15 x1 x2 x3 C = some (r, C2)) {ed : Nat → Nat} {H : Heap} {locs : List Loc} {ls : Array Slot} (hH : HW g ed C Z H) (hS : va_S (gP g) s.heap H locs) (hl : lv_has ls 5 [(0, .ref (gA g 0 0)), (1, .int x1), (2, .int x2), (3, .int x3)]) : W p l e ({ frames := 9, cells := 1000, slots := 10000, locals := 213 } : Room) s m args below meth c H locs ce sl (MQ below (QG (some (.int r)) g C2 Z) args s 1000 10000 (gP g)) (F0 m 60 ls []) := by
  unfold F_X11_tick_60 at h
  refine lv_aload_n hC.1 hC.2.1 dX11_tick_60 rfl (lv_at hl 0 rfl) ?_
  refine gf_RX11_18 hC hH rfl dX11_tick_61 ?_
  refine lv_iload_n hC.1 hC.2.1 dX11_tick_64 rfl (lv_at hl 3 rfl) ?_
  obtain ⟨r1, D2, hF3, h⟩ := bd2_some h
  refine gcallV (As := [.int x3]) (rest := []) (Cn := RX7) hC hE hml hH hS (c_X7_end hF3) ⟨wd_988, wd_989, wd_990, wd_2, wd_991⟩ hd_X7_end rfl rfl ⟨Nat.le_of_ble_eq_true rfl, Nat.le_of_ble_eq_true rfl⟩ rfl (hw_recv (q := 1) (i := 0) hC hH ⟨Nat.zero_lt_one, fun h => absurd h (by decide)⟩ rfl rfl) rfl hl.1 rfl (Nat.le_of_ble_eq_true rfl) dX11_tick_65 ⟨hce, hsl⟩ (fun ed H locs hH hS => ?_)
  refine W.eq (g2 := F0 m 68 ls []) rfl ?_
  refine lv_iinc (v := x2 + 1) (lv' := [(2, .int (x2 + 1)), (0, .ref (gA g 0 0)), (1, .int x1), (3, .int x3)]) hC.1 hC.2.1 dX11_tick_68 hl (k := 2) rfl rfl (by decide) rfl (fun ls hl => ?_)
  refine lv_goto (tgt := 15) hC.1 hC.2.1 dX11_tick_71 (by decide) ?_
  exact hk15 _ _ _ h _ _ _ _ hH hS (lv_sub hl [1, 2, 0] rfl)
def F_X11_tick_15 (n : Nat)  : Nat → Int32 → Int32 → St → Option (Int32 × St)
  | 0, _, _, _ => none
  | fu + 1, x1, x2, C => if x1 ≤ x2 then (some (C 1 0 3 0, C)) else (bd2 (F_X7_begin n  C) (fun r2 D3 => bd2 (F_X11_jobAt n r2 D3) (fun r5 D6 => if r5 < 0 then (bd2 (F_X11_systemStep n r2 D6) (fun r9 D10 => F_X11_tick_60 n (F_X11_tick_15 n fu) x1 x2 r2 D10)) else (bd2 (F_X6_step n r5 D6) (fun r12 D13 => F_X11_tick_60 n (F_X11_tick_15 n fu) x1 x2 r2 D13)))))
set_option maxHeartbeats 4000000 in
set_option maxRecDepth 100000 in
theorem B_X11_tick_15 {p : Program} {l : Launch} {e : Env} {s : State} {m : MethodId} {args : Array Value} {below : List Frame} {meth : Method} {c : Code} {g : GP} {Z : St} (hC : CX p s m args c cX11_tick RX11 g) (hE : EZ g s s.heap) (hml : c.maxLocals = 5) (hr : meth.sig.returnType = (some .int)) (hlk : meth.locks = false) {r : Int32} {C2 : St} : ∀ (fu : Nat) (x1 : Int32) (x2 : Int32) (C : St), F_X11_tick_15 (gn g)  fu x1 x2 C = some (r, C2) → ∀ (ce sl : Nat), ce + fu ≤ 1000 → sl + 10 * fu ≤ 10000 → ∀ (ed : Nat → Nat) (H : Heap) (locs : List Loc) (ls : Array Slot), HW g ed C Z H → va_S (gP g) s.heap H locs → lv_has ls 5 [(0, .ref (gA g 0 0)), (1, .int x1), (2, .int x2)] → W p l e ({ frames := 9, cells := 1000, slots := 10000, locals := 213 } : Room) s m args below meth c H locs ce sl (MQ below (QG (some (.int r)) g C2 Z) args s 1000 10000 (gP g)) (F0 m 15 ls []) := by
  intro fu
  induction fu with
  | zero =>
    intro x1 x2 C h
    cases h
  | succ fu ih =>
    intro x1 x2 C h ce sl hce hsl ed H locs ls hH hS hl
    rw [F_X11_tick_15] at h
    refine lv_iload_n hC.1 hC.2.1 dX11_tick_15 rfl (lv_at hl 2 rfl) ?_
    refine lv_iload_n hC.1 hC.2.1 dX11_tick_16 rfl (lv_at hl 1 rfl) ?_
    refine lv_icmp_ge (tgt := 74) hC.1 hC.2.1 dX11_tick_17 (by decide) (fun hc1 => ?_) (fun hc1 => ?_)
    · rw [if_pos hc1] at h
      refine lv_aload_n hC.1 hC.2.1 dX11_tick_74 rfl (lv_at hl 0 rfl) ?_
      refine gf_RX11_18 hC hH rfl dX11_tick_75 ?_
      refine gf_RX11_149 hC hH rfl dX11_tick_78 ?_
      cases h
      exact gret_i hC hr hlk hH hS (by omega) (by omega) dX11_tick_81
    · rw [if_neg hc1] at h
      refine lv_aload_n hC.1 hC.2.1 dX11_tick_20 rfl (lv_at hl 0 rfl) ?_
      refine gf_RX11_18 hC hH rfl dX11_tick_21 ?_
      obtain ⟨r2, D3, hF4, h⟩ := bd2_some h
      refine gcallV (As := []) (rest := []) (Cn := RX7) hC hE hml hH hS (c_X7_begin hF4) ⟨wd_613, wd_614, wd_615, wd_2, wd_616⟩ hd_X7_begin rfl rfl ⟨Nat.le_of_ble_eq_true rfl, Nat.le_of_ble_eq_true rfl⟩ rfl (hw_recv (q := 1) (i := 0) hC hH ⟨Nat.zero_lt_one, fun h => absurd h (by decide)⟩ rfl rfl) rfl hl.1 rfl (Nat.le_of_ble_eq_true rfl) dX11_tick_24 ⟨show ce + 0 ≤ 1000 by omega, show sl + 0 ≤ 10000 by omega⟩ (fun ed H locs hH hS => ?_)
      refine W.widen (k := ce) (n := sl) (Nat.le_refl _) (Nat.le_refl _) ?_
      refine W.eq (g2 := F0 m 27 ls [.int r2]) rfl ?_
      refine lv_istore_n (i := 3) (lv' := [(3, .int r2), (0, .ref (gA g 0 0)), (1, .int x1), (2, .int x2)]) hC.1 hC.2.1 dX11_tick_27 rfl hl (by decide) rfl (fun ls hl => ?_)
      refine lv_aload_n hC.1 hC.2.1 dX11_tick_28 rfl (lv_at hl 1 rfl) ?_
      refine gf_RX11_24 hC hH rfl dX11_tick_29 ?_
      refine lv_iload_n hC.1 hC.2.1 dX11_tick_32 rfl (lv_at hl 0 rfl) ?_
      obtain ⟨r5, D6, hF7, h⟩ := bd2_some h
      refine gcallS (As := [.ref (gA g 11 0), .int r2]) (rest := []) hC hE hml hH hS (c_X11_jobAt hF7) ⟨wd_618, wd_619, wd_1, wd_620⟩ hd_X11_jobAt rfl rfl ⟨Nat.le_of_ble_eq_true rfl, Nat.le_of_ble_eq_true rfl⟩ rfl hl.1 rfl (Nat.le_of_ble_eq_true rfl) dX11_tick_33 ⟨show ce + 0 ≤ 1000 by omega, show sl + 0 ≤ 10000 by omega⟩ (fun ed H locs hH hS => ?_)
      refine W.widen (k := ce) (n := sl) (Nat.le_refl _) (Nat.le_refl _) ?_
      refine W.eq (g2 := F0 m 36 ls [rfv (gA g) 6 r5]) rfl ?_
      refine gl_astore (lv' := [(4, rfv (gA g) 6 r5), (3, .int r2), (0, .ref (gA g 0 0)), (1, .int x1), (2, .int x2)]) hC dX11_tick_36 hl (by decide) rfl (fun ls hl => ?_)
      refine gl_aload hC dX11_tick_38 (lv_at hl 0 rfl) ?_
      refine gl_ifnull (tgt := 55) hC dX11_tick_40 (by decide) (fun hc8 => ?_) (fun hc8 => ?_)
      · rw [if_pos hc8] at h
        refine lv_aload_n hC.1 hC.2.1 dX11_tick_55 rfl (lv_at hl 2 rfl) ?_
        refine lv_iload_n hC.1 hC.2.1 dX11_tick_56 rfl (lv_at hl 1 rfl) ?_
        obtain ⟨r9, D10, hF11, h⟩ := bd2_some h
        refine gcallV (As := [.int r2]) (rest := []) (Cn := RX11) hC hE hml hH hS (c_X11_systemStep hF11) ⟨wd_870, wd_872, wp_17, wd_1, wd_873⟩ hd_X11_systemStep rfl rfl ⟨Nat.le_of_ble_eq_true rfl, Nat.le_of_ble_eq_true rfl⟩ rfl (hw_recv (q := 0) (i := 0) hC hH ⟨Nat.zero_lt_one, fun h => absurd h (by decide)⟩ rfl rfl) rfl hl.1 rfl (Nat.le_of_ble_eq_true rfl) dX11_tick_57 ⟨show ce + 0 ≤ 1000 by omega, show sl + 0 ≤ 10000 by omega⟩ (fun ed H locs hH hS => ?_)
        refine W.widen (k := ce) (n := sl) (Nat.le_refl _) (Nat.le_refl _) ?_
        refine W.eq (g2 := F0 m 60 ls []) rfl ?_
        exact B_X11_tick_60 hC hE hml hr hlk (ce := ce) (sl := sl) (by omega) (by omega) (fun a b D q => ih a b D q ce sl (by omega) (by omega)) h hH hS (lv_sub hl [2, 3, 4, 1] rfl)
      · rw [if_neg hc8] at h
        refine lv_aload_n hC.1 hC.2.1 dX11_tick_43 rfl (lv_at hl 2 rfl) ?_
        refine gf_RX11_77 hC hH rfl dX11_tick_44 ?_
        refine gl_aload hC dX11_tick_47 (lv_at hl 0 rfl) ?_
        obtain ⟨r12, D13, hF14, h⟩ := bd2_some h
        refine gcallV (As := [rfv (gA g) 6 r5]) (rest := []) (Cn := RX6) hC hE hml hH hS (c_X6_step hF14) ⟨wd_621, wd_622, wd_623, wd_16, wd_624⟩ hd_X6_step rfl rfl ⟨Nat.le_of_ble_eq_true rfl, Nat.le_of_ble_eq_true rfl⟩ rfl (hw_recv (q := 32) (i := 0) hC hH ⟨Nat.zero_lt_one, fun h => absurd h (by decide)⟩ rfl rfl) rfl hl.1 rfl (Nat.le_of_ble_eq_true rfl) dX11_tick_49 ⟨show ce + 1 ≤ 1000 by omega, show sl + 10 ≤ 10000 by omega⟩ (fun ed H locs hH hS => ?_)
        refine W.widen (k := ce + 1) (n := sl + 10) (Nat.le_refl _) (Nat.le_refl _) ?_
        refine W.eq (g2 := F0 m 52 ls []) rfl ?_
        refine lv_goto (tgt := 60) hC.1 hC.2.1 dX11_tick_52 (by decide) ?_
        exact B_X11_tick_60 hC hE hml hr hlk (ce := ce + 1) (sl := sl + 10) (by omega) (by omega) (fun a b D q => ih a b D q (ce + 1) (sl + 10) (by omega) (by omega)) h hH hS (lv_sub hl [2, 3, 4, 1] rfl)
def F_X11_tick (n : Nat) (x1 : Int32) (C : St) : Option (Int32 × St) := if x1 < 0 then (F_X11_tick_11 n  C) else (if x1 ≤ (200 : Int32) then (F_X11_tick_15 n 1000 x1 (0 : Int32) C) else (F_X11_tick_11 n  C))
set_option maxHeartbeats 4000000 in
set_option maxRecDepth 100000 in
theorem c_X11_tick {l : Launch} {g : GP} {ed : Nat → Nat} {Z : St} {x1 : Int32} {C : St} {r : Int32} {C2 : St} (h : F_X11_tick (gn g) x1 C = some (r, C2)) : Met l yX11_tick (Cond.code yX11_tick cX11_tick 5 (some .int) :: lwG) ({ frames := 9, cells := 1000, slots := 10000, locals := 213 } : Room) (va_Pc [.ref (gA g 0 0), .int x1] (PW g C Z ed)) (QG (some (.int r)) g C2 Z) 1000 10000 (gP g) := by
  refine Met.ofW (cc := cX11_tick) (maxL := 5) (ret := (some .int)) (by decide +kernel) rfl ?_
  intro p e s m args below meth c s₁ B hml hv
  obtain ⟨ha, hC, hE, hr, hlk, hH⟩ := g_start B hv
  subst ha
  have hC : CX p s m ([.ref (gA g 0 0), .int x1] : List Value).toArray c cX11_tick RX11 g := hC
  have hS : va_S (gP g) s.heap s.heap [] := va_S.rf
  obtain ⟨ls, he, hl⟩ := g_entry m (vs := [.ref (gA g 0 0), .int x1]) (n := 5) (List.forall_mem_cons.mpr ⟨rfl, (List.forall_mem_cons.mpr ⟨rfl, (fun _ h => absurd h List.not_mem_nil)⟩)⟩) (Nat.le_of_ble_eq_true rfl)
  rw [he]
  have hl : lv_has ls 5 [(0, .ref (gA g 0 0)), (1, .int x1)] := hl
  unfold F_X11_tick at h
  refine lv_iload_n hC.1 hC.2.1 dX11_tick_0 rfl (lv_at hl 1 rfl) ?_
  refine lv_if_lt (tgt := 11) hC.1 hC.2.1 dX11_tick_1 (by decide) (fun hc1 => ?_) (fun hc1 => ?_)
  · rw [if_pos hc1] at h
    exact B_X11_tick_11 hC hE hml hr hlk h hH hS (lv_sub hl [] rfl)
  · rw [if_neg hc1] at h
    refine lv_iload_n hC.1 hC.2.1 dX11_tick_4 rfl (lv_at hl 1 rfl) ?_
    refine lv_sipush (v := (200 : Int32)) hC.1 hC.2.1 dX11_tick_5 (by decide) ?_
    refine lv_icmp_le (tgt := 13) hC.1 hC.2.1 dX11_tick_8 (by decide) (fun hc2 => ?_) (fun hc2 => ?_)
    · rw [if_pos hc2] at h
      refine lv_iconst (v := (0 : Int32)) hC.1 hC.2.1 dX11_tick_13 (by decide) ?_
      refine lv_istore_n (i := 2) (lv' := [(2, .int (0 : Int32)), (0, .ref (gA g 0 0)), (1, .int x1)]) hC.1 hC.2.1 dX11_tick_14 rfl hl (by decide) rfl (fun ls hl => ?_)
      exact B_X11_tick_15 hC hE hml hr hlk 1000 _ _ _ h 0 0 (by decide) (by decide) _ _ _ _ hH hS (lv_sub hl [1, 2, 0] rfl)
    · rw [if_neg hc2] at h
      exact B_X11_tick_11 hC hE hml hr hlk h hH hS (lv_sub hl [] rfl)
