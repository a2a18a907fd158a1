theorem wd_197 : Cond.methodLink RX2 3 Lib.objectInit ∈ lwG := lwG_of (List.mem_of_getElem? (i := 267) (by decide +kernel)) (by decide +kernel)
theorem wd_199 : Cond.classLink RX2 15 RX4 ∈ lwG := lwG_of (List.mem_of_getElem? (i := 269) (by decide +kernel)) (by decide +kernel)
theorem wd_201 : Cond.instantiable RX4 7 ∈ lwG := lwG_of (List.mem_of_getElem? (i := 271) (by decide +kernel)) (by decide +kernel)
theorem wd_202 : Cond.methodLinkNest RX2 23 yX4_init "DrumLayers" ∈ lwN := lwN_of (List.mem_of_getElem? (i := 272) (by decide +kernel)) (by decide +kernel)
theorem wd_203 : Cond.instanceMethod yX4_init ∈ lwG := lwG_of (List.mem_of_getElem? (i := 273) (by decide +kernel)) (by decide +kernel)
theorem wd_204 : Cond.code yX4_init cX4_init 1 none ∈ lwG := lwG_of (List.mem_of_getElem? (i := 274) (by decide +kernel)) (by decide +kernel)
theorem wm_198 : Cond.methodLink RX2 9 Lib.Math.max.name ∈ lwG := lwG_of (List.mem_of_getElem? (i := 268) (by decide +kernel)) (by decide +kernel)
theorem hd_X4_init : yX4_init.cls ≠ "java/lang/invoke/MethodHandle" ∧ yX4_init.cls ≠ "java/lang/invoke/VarHandle" ∧ (parseMethodDescriptor yX4_init.desc).map (fun d => d.parameters.length) = some 0 := by decide +kernel
/-! THE FRAMES OF CORE -/
def fcell (w : Nat) : va_E := .inr (5, [.ref w, .null, .int 0, .int 0, .int 0, .int 0, .int 0])
def tailF (g : GP) (fa wa : Nat → Nat) (k : Nat) : va_W := (List.range k).flatMap fun f => [(fa f, fcell (wa f)), (wa f, .inl (gc g 0, 16, .inl (fun _ => 0)))]
theorem tailF_succ (g : GP) (fa wa : Nat → Nat) (k q r : Nat) : tailF g (va_up fa k q) (va_up wa k r) (k + 1) = tailF g fa wa k ++ [(q, fcell r), (r, .inl (gc g 0, 16, .inl (fun _ => 0)))] := by
  unfold tailF
  rw [List.range_succ, List.flatMap_append]
  congr 1
  · rw [List.flatMap_def, List.flatMap_def]
    congr 1
    apply List.map_congr_left
    intro f hf
    have h : ¬ f = k := Nat.ne_of_lt (List.mem_range.mp hf)
    simp [va_up, h]
  · simp [va_up]
theorem w_aoF : Cond.arrayOver (.object "DrumLayers$Frame") ∈ lwN := lwN_of (List.mem_of_getElem? (i := 270) (by decide +kernel)) (by decide +kernel)
def frs (fa : Nat → Nat) (k : Nat) : Nat → Option Nat := fun j => if j < k then some (fa j) else none
theorem frs_up (fa : Nat → Nat) (k q : Nat) : va_up (frs fa k) k (some q) = frs (va_up fa k q) (k + 1) := by
  funext j
  unfold va_up frs
  by_cases h : j = k
  · subst h; simp
  · by_cases h2 : j < k
    · have h3 : j < k + 1 := by omega
      simp [h, h2, h3]
    · have h3 : ¬ j < k + 1 := by omega
      simp [h, h2, h3]
theorem df_X4 : ∀ j, j < 7 → defaultValue (tyX4 j) = vp_V [.null, .null, .int 0, .int 0, .int 0, .int 0, .int 0] j := by decide +kernel
section COR
variable {p : Program} {l : Launch} {e : Env} {s : State} {m : MethodId} {args : Array Value} {below : List Frame} {meth : Method} {c : Code} {g : GP} {A : Nat → Prop} {h0 q N sz : Nat} {W0 : va_W}
set_option maxHeartbeats 4000000 in
set_option maxRecDepth 100000 in
theorem core_loop (hN : N ≤ 100) (hC : CX p s m args c cX2_init RX2 g) (hE : EZ g s s.heap) (hml : c.maxLocals = 3) (hr : meth.sig.returnType = none) (hlk : meth.locks = false) (hA : ∀ q, s.heap.size ≤ q → A q) (hAg : ∀ q, A q → gP g q) (hAd : A = va_A W0 sz) :
    ∀ (r k : Nat), k + r = N → ∀ (fa wa : Nat → Nat) (H : Heap) (locs : List Loc) (ls : Array Slot), va_P (gD g) vwCl ([(h0, .inr (3, [.ref q])), (q, .inl (gc g 4, N, .inr (.inr (.inr (.inr (frs fa k))))))] ++ tailF g fa wa k) H → va_D A ([(h0, .inr (3, [.ref q])), (q, .inl (gc g 4, N, .inr (.inr (.inr (.inr (frs fa k))))))] ++ tailF g fa wa k) → va_S A s.heap H locs → lv_has ls 3 [(0, .ref h0), (2, .int (nI k))] →
      W p l e ({ frames := 2, cells := 1 + 2 * N, slots := N + 23 * N, locals := 32 } : Room) s m args below meth c H locs (1 + 2 * k) (N + 23 * k) (MQ below (QL none (fun W1 => ∃ (q : Nat) (fa wa : Nat → Nat), W1 = [(h0, .inr (3, [.ref q])), (q, .inl (gc g 4, N, .inr (.inr (.inr (.inr (frs fa N))))))] ++ tailF g fa wa N) g W0 sz) args s (1 + 2 * N) (N + 23 * N) (va_A W0 sz)) (F0 m 18 ls []) := by
  intro r
  induction r with
  | zero =>
    intro k hk fa wa H locs ls hP hD hS hl
    have hkN : k = N := by omega
    subst hkN
    refine lv_iload_n hC.1 hC.2.1 dX2_init_18 rfl (lv_at hl 1 rfl) ?_
    refine lv_aload_n hC.1 hC.2.1 dX2_init_19 rfl (lv_at hl 0 rfl) ?_
    refine va_get (D := gD g) (ci := 3) (v := .ref q) (C := RX2) (T := TX2) (N := 1) hC.1 hC.2.1 hC.2.2.2.1 uw_X2 hC.2.2.1 hC.2.2.2.2.1 hP 0 rfl rfl 0 (by decide) (hC.2.2.2.1 _ wd_239) (fun _ h9 => h9) rfl dX2_init_20 ?_
    refine va_alen hC.1 hC.2.1 hC.2.2.2.2.1 hP 1 4 rfl rfl (v := nI k) rfl dX2_init_23 ?_
    refine lv_icmp_ge (tgt := 46) hC.1 hC.2.1 dX2_init_24 (by decide) (fun _ => ?_) (fun hc => absurd (Int32.le_refl _) hc)
    subst hAd
    exact lret_v hC hr hlk hP hD hS ⟨q, fa, wa, rfl⟩ (Nat.le_refl _) (Nat.le_refl _) dX2_init_46
  | succ r ih =>
    intro k hk fa wa H locs ls hP hD hS hl
    refine lv_iload_n hC.1 hC.2.1 dX2_init_18 rfl (lv_at hl 1 rfl) ?_
    refine lv_aload_n hC.1 hC.2.1 dX2_init_19 rfl (lv_at hl 0 rfl) ?_
    refine va_get (D := gD g) (ci := 3) (v := .ref q) (C := RX2) (T := TX2) (N := 1) hC.1 hC.2.1 hC.2.2.2.1 uw_X2 hC.2.2.1 hC.2.2.2.2.1 hP 0 rfl rfl 0 (by decide) (hC.2.2.2.1 _ wd_239) (fun _ h9 => h9) rfl dX2_init_20 ?_
    refine va_alen hC.1 hC.2.1 hC.2.2.2.2.1 hP 1 4 rfl rfl (v := nI N) rfl dX2_init_23 ?_
    refine lv_icmp_ge (tgt := 46) hC.1 hC.2.1 dX2_init_24 (by decide) (fun hc => absurd hc (nI_ge (by omega) (by omega))) (fun _ => ?_)
    refine lv_aload_n hC.1 hC.2.1 dX2_init_27 rfl (lv_at hl 0 rfl) ?_
    refine va_get (D := gD g) (ci := 3) (v := .ref q) (C := RX2) (T := TX2) (N := 1) hC.1 hC.2.1 hC.2.2.2.1 uw_X2 hC.2.2.1 hC.2.2.2.2.1 hP 0 rfl rfl 0 (by decide) (hC.2.2.2.1 _ wd_239) (fun _ h9 => h9) rfl dX2_init_28 ?_
    refine lv_iload_n hC.1 hC.2.1 dX2_init_31 rfl (lv_at hl 1 rfl) ?_
    refine va_new (ci := 5) (fs := [.null, .null, .int 0, .int 0, .int 0, .int 0, .int 0]) (C := RX4) (T := TX4) (N := 7) hC.1 hC.2.1 hC.2.2.2.1 uw_X4 tyX4 tyX4_ok hC.2.2.1 (hC.2.2.2.1 _ wd_199) (hC.2.2.2.1 _ wd_201) (hC.2.2.2.1 _ wd_7) hC.2.2.2.2.1 hP hD hS hA rfl df_X4 (by show 1 + 2 * k + 1 ≤ 1 + 2 * N; omega) (by show N + 23 * k + 7 ≤ N + 23 * N; omega) dX2_init_32 (fun q1 H hP hD hS => ?_)
    have hP := va_P.swap hP
    have hD := va_D.swap hD
    refine lv_dup hC.1 hC.2.1 dX2_init_35 rfl ?_
    refine tcallIN (As := []) (rest := [.ref q1, .int (nI k), .ref q]) (wr := [(h0, .inr (3, [.ref q])), (q, .inl (gc g 4, N, .inr (.inr (.inr (.inr (frs fa k))))))]) hC hE hml hP hD hS hA hAg (l_X4_init q1 _) ⟨wd_202, wd_203, wd_7, wd_204⟩ rfl hd_X4_init rfl rfl ⟨Nat.le_of_ble_eq_true rfl, Nat.le_of_ble_eq_true rfl⟩ rfl hl.1 rfl (Nat.le_of_ble_eq_true rfl) dX2_init_36 ⟨by show 1 + 2 * k + 1 + 1 ≤ 1 + 2 * N; omega, by show N + 23 * k + 7 + 16 ≤ N + 23 * N; omega⟩ [2] [0, 1] rfl rfl (by decide) (by decide) (by decide) (fun W1 H locs hB hP hD hS => ?_)
    obtain ⟨r1, rfl⟩ := hB
    refine W.widen (k := 1 + 2 * (k + 1)) (n := N + 23 * (k + 1)) (by omega) (by omega) ?_
    refine va_astq (D := gD g) (cl := vwCl) hC.1 hC.2.1 hC.2.2.2.2.1 hP hD hS 1 4 2 5 rfl rfl rfl rfl (vp_in_nI (by omega) (by omega)) dX2_init_39 (fun H locs hP hD hS => ?_)
    rw [nI_clamp (by omega : k < 2 ^ 31), frs_up] at hP hD
    have hP : va_P (gD g) vwCl (([(h0, .inr (3, [.ref q])), (q, .inl (gc g 4, N, .inr (.inr (.inr (.inr (frs (va_up fa k q1) (k + 1)))))))] ++ [(q1, fcell r1), (r1, .inl (gc g 0, 16, .inl (fun _ => 0)))]) ++ tailF g fa wa k) H := hP
    have hD : va_D A (([(h0, .inr (3, [.ref q])), (q, .inl (gc g 4, N, .inr (.inr (.inr (.inr (frs (va_up fa k q1) (k + 1)))))))] ++ [(q1, fcell r1), (r1, .inl (gc g 0, 16, .inl (fun _ => 0)))]) ++ tailF g fa wa k) := hD
    have hP := va_P.swap hP
    have hD := va_D.swap hD
    rw [List.append_assoc, ← tailF_succ] at hP hD
    refine lv_iinc (v := nI (k + 1)) (lv' := [(2, .int (nI (k + 1))), (0, .ref h0)]) hC.1 hC.2.1 dX2_init_40 hl (k := 1) rfl (nI_1 k) (by decide) rfl (fun ls hl => ?_)
    refine lv_goto (tgt := 18) hC.1 hC.2.1 dX2_init_43 (by decide) ?_
    exact ih (k + 1) (by omega) _ _ _ _ _ hP hD hS (lv_sub hl [1, 0] rfl)
end COR
set_option maxHeartbeats 4000000 in
set_option maxRecDepth 100000 in
theorem l_X2_init {l : Launch} {g : GP} (h0 : Nat) (N : Nat) (sz : Nat) (hN : N ≤ 100) : Met l yX2_init (Cond.code yX2_init cX2_init 3 none :: lwG) ({ frames := 2, cells := 1 + 2 * N, slots := N + 23 * N, locals := 32 } : Room) (va_Pc [.ref h0, .int (nI N)] (PL g [(h0, .inr (3, [.null]))] sz)) (QL none (fun W1 => ∃ (q : Nat) (fa wa : Nat → Nat), W1 = [(h0, .inr (3, [.ref q])), (q, .inl (gc g 4, N, .inr (.inr (.inr (.inr (frs fa N))))))] ++ tailF g fa wa N) g [(h0, .inr (3, [.null]))] sz) (1 + 2 * N) (N + 23 * N) (va_A [(h0, .inr (3, [.null]))] sz) := by
  refine Met.ofW (cc := cX2_init) (maxL := 3) (ret := none) (by decide +kernel) rfl ?_
  intro p e s m args below meth c s₁ Bd hml hv
  obtain ⟨ha, hsz, hC, hE, hr, hlk, hP, hD0, hnm⟩ := l_start Bd hv
  subst ha
  subst hsz
  have hC : CX p s m ([.ref h0, .int (nI N)] : List Value).toArray c cX2_init RX2 g := hC
  obtain ⟨A, hAd⟩ : ∃ A, A = va_A [(h0, .inr (3, [.null]))] s.heap.size := ⟨_, rfl⟩
  have hAg : ∀ q, A q → gP g q := by rw [hAd]; exact A_gP hD0 hC.2.2.2.2.2.1
  have hA : ∀ q, s.heap.size ≤ q → A q := by rw [hAd]; exact fun q h => Or.inr h
  have hD : va_D A [(h0, .inr (3, [.null]))] := by rw [hAd]; exact hD0.self (sz := s.heap.size)
  have hS : va_S A s.heap s.heap [] := va_S.rf
  obtain ⟨ls, he, hl⟩ := g_entry m (vs := [.ref h0, .int (nI N)]) (n := 3) (List.forall_mem_cons.mpr ⟨rfl, (List.forall_mem_cons.mpr ⟨rfl, (fun _ h => absurd h List.not_mem_nil)⟩)⟩) (Nat.le_of_ble_eq_true rfl)
  rw [he]
  have hl : lv_has ls 3 [(0, .ref h0), (1, .int (nI N))] := hl
  refine lv_aload_n hC.1 hC.2.1 dX2_init_0 rfl (lv_at hl 0 rfl) ?_
  refine W.objInit hC.1 hC.2.1 hC.2.2.1 (hC.2.2.2.1 _ wd_197) (hC.2.2.2.1 _ wd_29) (hC.2.2.2.1 _ wd_30) rfl (by rw [hml]; exact hl.1) rfl dX2_init_1 (Nat.le_of_ble_eq_true rfl) (Nat.le_of_ble_eq_true rfl) ?_
  refine W.eq (g2 := F0 m 4 ls []) rfl ?_
  refine lv_aload_n hC.1 hC.2.1 dX2_init_4 rfl (lv_at hl 0 rfl) ?_
  refine lv_iload_n hC.1 hC.2.1 dX2_init_5 rfl (lv_at hl 1 rfl) ?_
  refine lv_iconst (v := (0 : Int32)) hC.1 hC.2.1 dX2_init_6 (by decide) ?_
  refine va_mmax hC.1 hC.2.1 (by rw [hml]; exact hl.1.symm) hC.2.2.1 (hC.2.2.2.1 _ wm_198) (hC.2.2.2.1 _ wm_40) (hC.2.2.2.1 _ wd_3) (hC.2.2.2.1 _ wm_41) (Nat.le_of_ble_eq_true rfl) (Nat.le_of_ble_eq_true rfl) (Nat.zero_le _) (Nat.zero_le _) dX2_init_7 ?_
  have hmx : (if nI N < 0 then (0 : Int32) else nI N) = nI N := if_neg (nI_pos (by omega))
  rw [hmx]
  refine va_newq (C := "DrumLayers$Frame") (N' := N) hC.1 hC.2.1 hC.2.2.1 (hC.2.2.2.1 _ wd_199) (hC.2.2.2.2.2.2 _ w_aoF) hC.2.2.2.2.1 hP hD hS hA (nI_pos (by omega)) (nI_clamp (by omega)) (by omega) (by show 0 + 1 ≤ 1 + 2 * N; omega) (by show 0 + N ≤ N + 23 * N; omega) dX2_init_10 (fun q cA H hK1 hP hD hS => ?_)
  have hcA : cA = gc g 4 := by
    have h1 := (hK1.2 7 (cA, .object "DrumLayers$Frame") rfl).2
    have h2 := (hC.2.2.2.2.1.2 4 (gc g 4, .object "DrumLayers$Frame") rfl).2
    obtain ⟨_, _, _, _, _, h1⟩ := h1
    obtain ⟨_, _, _, _, _, h2⟩ := h2
    exact Option.some.inj (h1.symm.trans h2)
  subst hcA
  have hP : va_P (gD g) vwCl [(h0, .inr (3, [.null])), (q, .inl (gc g 4, N, .inr (.inr (.inr (.inr (fun _ => none))))))] H := hP
  have hD : va_D A [(h0, .inr (3, [.null])), (q, .inl (gc g 4, N, .inr (.inr (.inr (.inr (fun _ => none))))))] := hD
  refine va_putF (D := gD g) (ci := 3) (v := .ref q) (ty := .array (.object "DrumLayers$Frame")) (C := RX2) (T := TX2) (N := 1) hC.1 hC.2.1 hC.2.2.2.1 uw_X2 tyX2 tyX2_ok nmX2 hC.2.2.1 hC.2.2.2.2.1 hP hD hS 0 rfl rfl 0 (by decide) (hC.2.2.2.1 _ wd_239) (fun _ h9 => h9) rfl (hnm.trans rfl) rfl (by decide +kernel) rfl rfl (Nat.le_of_ble_eq_true rfl) dX2_init_13 (fun H locs hP hD hS => ?_)
  have hf0 : (fun _ => none : Nat → Option Nat) = frs (fun _ => 0) 0 := by
    funext j
    unfold frs
    rw [if_neg (by omega)]
  rw [hf0] at hP hD
  have hP : va_P (gD g) vwCl ([(h0, .inr (3, [.ref q])), (q, .inl (gc g 4, N, .inr (.inr (.inr (.inr (frs (fun _ => 0) 0))))))] ++ tailF g (fun _ => 0) (fun _ => 0) 0) H := hP
  have hD : va_D A ([(h0, .inr (3, [.ref q])), (q, .inl (gc g 4, N, .inr (.inr (.inr (.inr (frs (fun _ => 0) 0))))))] ++ tailF g (fun _ => 0) (fun _ => 0) 0) := hD
  refine lv_iconst (v := (0 : Int32)) hC.1 hC.2.1 dX2_init_16 (by decide) ?_
  refine lv_istore_n (i := 2) (lv' := [(2, .int (nI 0)), (0, .ref h0), (1, .int (nI N))]) hC.1 hC.2.1 dX2_init_17 rfl hl (by decide) rfl (fun ls hl => ?_)
  refine W.widen (k := 1 + 2 * 0) (n := N + 23 * 0) (by omega) (by omega) ?_
  exact core_loop hN hC hE hml hr hlk hA hAg hAd N 0 (by omega) _ _ _ _ _ hP hD hS (lv_sub hl [1, 0] rfl)
