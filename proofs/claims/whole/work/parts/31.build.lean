/-! CONSTRUCTORS: worlds as plain lists of cells -/
def PL (g : GP) (W0 : va_W) (sz : Nat) (U : State) : Prop := U.heap.size = sz ∧ va_P (gD g) vwCl W0 U.heap ∧ va_D (gP g) W0 ∧ KK g U ∧ (∀ q, sz ≤ q → gP g q) ∧ EZ g U U.heap ∧ KN U
def QL (vo : Option Value) (B : va_W → Prop) (g : GP) (W0 : va_W) (sz : Nat) : Array Value → State → Outcome → State → Prop := fun _ st oc t => (oc = .returned vo ∧ ∃ W1, B W1 ∧ va_P (gD g) vwCl W1 t.heap ∧ va_D (va_A W0 sz) W1) ∧ va_F (va_A W0 sz) st t
theorem PL_blind {g : GP} {W0 : va_W} {sz : Nat} {av : List Value} : FrameBlind (va_Pc av (PL g W0 sz)) := fun _ U _ _ h => ⟨h.1, h.2.1, h.2.2.1, h.2.2.2.1, va_K.moved (u := U) (Vm.Alike.refl U.vm) h.2.2.2.2.1, h.2.2.2.2.2.1, h.2.2.2.2.2.2.1.moved (u := U) (Vm.Alike.refl U.vm), KN.same (s := U) rfl h.2.2.2.2.2.2.2⟩
theorem va_S.mono {A B : Nat → Prop} {H0 H : Heap} {locs : List Loc} (h : va_S A H0 H locs) (hAB : ∀ q, A q → B q) : va_S B H0 H locs := ⟨h.1, fun q h1 h2 => h.2.1 q h1 (fun z => h2 (hAB q z)), fun x hx => hAB _ (h.2.2 x hx)⟩
theorem A_gP {g : GP} {W0 : va_W} {sz : Nat} (hD : va_D (gP g) W0) (hq : ∀ q, sz ≤ q → gP g q) : ∀ q, va_A W0 sz q → gP g q := by
  intro q h
  rcases h with ⟨k, e, h⟩ | h
  · exact hD.2 k (q, e) h
  · exact hq q h
section BLD
variable {p : Program} {l : Launch} {e : Env} {R0 : Room} {s : State} {m : MethodId} {args : Array Value} {below : List Frame} {meth : Method} {c : Code} {H : Heap} {locs : List Loc} {cells slots : Nat} {Q : State → Prop}
variable {cc : ByteArray} {pc : Nat} {ls : Array Slot} {rest : List Value} {g : GP} {own : String} {ws : va_W} {A : Nat → Prop}
/-- new arrays of numbers, at their known classes -/
theorem nw_i (hC : CX p s m args c cc own g) (hP : va_P (gD g) vwCl ws H) (hD : va_D A ws) (hS : va_S A s.heap H locs) (hA : ∀ q, s.heap.size ≤ q → A q) (hw : Cond.arrayClass .int ∈ lwG) {n : Int32} {N : Nat} (hn : ¬ n < 0) (hN : n.toNatClampNeg = N) (hby : N * 4 ≤ 536870912) (hcells : cells + 1 ≤ R0.cells) (hslots : slots + N ≤ R0.slots) (hdg : decode cc pc = .ok (.newarray .int, 2))
    (kk : ∀ (q : Nat) (H1 : Heap), va_P (gD g) vwCl (ws ++ [(q, .inl (gc g 0, N, .inl (fun _ => 0)))]) H1 → va_D A (ws ++ [(q, .inl (gc g 0, N, .inl (fun _ => 0)))]) → va_S A s.heap H1 locs → W p l e R0 s m args below meth c H1 locs (cells + 1) (slots + N) Q (F0 m (pc + 2) ls (.ref q :: rest))) : W p l e R0 s m args below meth c H locs cells slots Q (F0 m pc ls (.int n :: rest)) := by
  refine va_newa (atype := .int) (ty := .int) (a0 := (N, .inl (fun _ => 0))) hC.1 hC.2.1 (hC.2.2.2.1 _ hw) rfl hC.2.2.2.2.1 hP hD hS hA (fun _ => rfl) hn hN hby hcells hslots hdg (fun q cA H1 hK1 hP1 hD1 hS1 => ?_)
  have hcA : cA = gc g 0 := by
    have h1 : s.vm.findClass _ = some cA := (hK1.2 7 (cA, .int) rfl).2
    have h2 : s.vm.findClass _ = some (gc g 0) := (hC.2.2.2.2.1.2 0 (gc g 0, .int) rfl).2
    exact Option.some.inj (h1.symm.trans h2)
  subst hcA
  exact kk q H1 hP1 hD1 hS1
theorem nw_b (hC : CX p s m args c cc own g) (hP : va_P (gD g) vwCl ws H) (hD : va_D A ws) (hS : va_S A s.heap H locs) (hA : ∀ q, s.heap.size ≤ q → A q) (hw : Cond.arrayClass .byte ∈ lwG) {n : Int32} {N : Nat} (hn : ¬ n < 0) (hN : n.toNatClampNeg = N) (hby : N * 1 ≤ 536870912) (hcells : cells + 1 ≤ R0.cells) (hslots : slots + N ≤ R0.slots) (hdg : decode cc pc = .ok (.newarray .byte, 2))
    (kk : ∀ (q : Nat) (H1 : Heap), va_P (gD g) vwCl (ws ++ [(q, .inl (gc g 1, N, .inl (fun _ => 0)))]) H1 → va_D A (ws ++ [(q, .inl (gc g 1, N, .inl (fun _ => 0)))]) → va_S A s.heap H1 locs → W p l e R0 s m args below meth c H1 locs (cells + 1) (slots + N) Q (F0 m (pc + 2) ls (.ref q :: rest))) : W p l e R0 s m args below meth c H locs cells slots Q (F0 m pc ls (.int n :: rest)) := by
  refine va_newa (atype := .byte) (ty := .byte) (a0 := (N, .inl (fun _ => 0))) hC.1 hC.2.1 (hC.2.2.2.1 _ hw) rfl hC.2.2.2.2.1 hP hD hS hA (fun _ => rfl) hn hN hby hcells hslots hdg (fun q cA H1 hK1 hP1 hD1 hS1 => ?_)
  have hcA : cA = gc g 1 := by
    have h1 : s.vm.findClass _ = some cA := (hK1.2 7 (cA, .byte) rfl).2
    have h2 : s.vm.findClass _ = some (gc g 1) := (hC.2.2.2.2.1.2 1 (gc g 1, .byte) rfl).2
    exact Option.some.inj (h1.symm.trans h2)
  subst hcA
  exact kk q H1 hP1 hD1 hS1
theorem nw_z (hC : CX p s m args c cc own g) (hP : va_P (gD g) vwCl ws H) (hD : va_D A ws) (hS : va_S A s.heap H locs) (hA : ∀ q, s.heap.size ≤ q → A q) (hw : Cond.arrayClass .boolean ∈ lwG) {n : Int32} {N : Nat} (hn : ¬ n < 0) (hN : n.toNatClampNeg = N) (hby : N * 1 ≤ 536870912) (hcells : cells + 1 ≤ R0.cells) (hslots : slots + N ≤ R0.slots) (hdg : decode cc pc = .ok (.newarray .boolean, 2))
    (kk : ∀ (q : Nat) (H1 : Heap), va_P (gD g) vwCl (ws ++ [(q, .inl (gc g 2, N, .inl (fun _ => 0)))]) H1 → va_D A (ws ++ [(q, .inl (gc g 2, N, .inl (fun _ => 0)))]) → va_S A s.heap H1 locs → W p l e R0 s m args below meth c H1 locs (cells + 1) (slots + N) Q (F0 m (pc + 2) ls (.ref q :: rest))) : W p l e R0 s m args below meth c H locs cells slots Q (F0 m pc ls (.int n :: rest)) := by
  refine va_newa (atype := .boolean) (ty := .boolean) (a0 := (N, .inl (fun _ => 0))) hC.1 hC.2.1 (hC.2.2.2.1 _ hw) rfl hC.2.2.2.2.1 hP hD hS hA (fun _ => rfl) hn hN hby hcells hslots hdg (fun q cA H1 hK1 hP1 hD1 hS1 => ?_)
  have hcA : cA = gc g 2 := by
    have h1 : s.vm.findClass _ = some cA := (hK1.2 7 (cA, .boolean) rfl).2
    have h2 : s.vm.findClass _ = some (gc g 2) := (hC.2.2.2.2.1.2 2 (gc g 2, .boolean) rfl).2
    exact Option.some.inj (h1.symm.trans h2)
  subst hcA
  exact kk q H1 hP1 hD1 hS1
variable {y : MethodName} {bytes : ByteArray} {maxL nL mc ms n index : Nat} {ret : Option FieldType} {rm : Room} {Cn : String} {b : Nat} {As st : List Value} {vo : Option Value} {B : va_W → Prop} {wc wr : va_W}
theorem l_pre (hC : CX p s m args c cc own g) (hE : EZ g s s.heap) (hP : va_P (gD g) vwCl wc H) (hD : va_D (gP g) wc) (hS : va_S (gP g) s.heap H locs) {av : List Value} (U : State) (hU : U.heap = H) (hW : s.WarmedH U.vm) : va_Pc av (PL g wc H.size) av.toArray U :=
  ⟨rfl, by rw [hU], by rw [hU]; exact hP, hD, va_K.moved hW.alike hC.2.2.2.2.1, fun q h => hC.2.2.2.2.2.1 q (Nat.le_trans hS.1 h), by rw [hU]; exact (hE.kept hS).moved hW.alike, hC.2.2.2.2.2.2.warm hW⟩
/-- behind a call over a part of the list -/
theorem l_after (hr : va_Run p l e R0 s m args below meth c H locs cells slots mc ms (F0 m pc ls st) rest (QL vo B g wc H.size As.toArray) (va_A wc H.size)) (hP : va_P (gD g) vwCl ws H) (hD : va_D A ws) (hS : va_S A s.heap H locs) (hA : ∀ q, s.heap.size ≤ q → A q) (isC isR : List Nat) (hCp : isC.map (fun i => ws[i]?) = wc.map some) (hRp : isR.map (fun i => ws[i]?) = wr.map some) (hn : va_nd isR = true) (hdis : ∀ i ∈ isR, i ∉ isC)
    (kk : ∀ (W1 : va_W) (H1 : Heap) (locs1 : List Loc), B W1 → va_P (gD g) vwCl (wr ++ W1) H1 → va_D A (wr ++ W1) → va_S A s.heap H1 locs1 → W p l e R0 s m args below meth c H1 locs1 (cells + mc) (slots + ms) Q (F0 m (pc + 3) ls (vo.toList ++ rest))) : W p l e R0 s m args below meth c H locs cells slots Q (F0 m pc ls st) := by
  have hF : ∀ q, va_A wc H.size q → A q := by
    intro q h
    rcases h with ⟨k, e2, h⟩ | h
    · have h1 : (isC.map (fun i => ws[i]?))[k]? = some (some (q, e2)) := by rw [hCp, List.getElem?_map, h]; rfl
      rw [List.getElem?_map] at h1
      cases hi : isC[k]? with
      | none => rw [hi] at h1; cases h1
      | some i => rw [hi] at h1; exact hD.2 i _ (Option.some.inj h1)
    · exact hA q (Nat.le_trans hS.1 h)
  intro T hT X
  obtain ⟨v, st₀, t, T', L, h0, X', hL, e1, e2, ⟨⟨hv, W1, hB, hP1, hD1⟩, hz, hk⟩, stp⟩ := hr T hT X
  cases hv
  rw [h0] at hz hk
  obtain ⟨hPj, hDj⟩ := va_join (wr := wr) (w1 := W1) hP hD isC isR hCp hRp hn hdis hk hF hP1 hD1
  obtain ⟨t2, a1, b1⟩ := kk W1 T'.heap (locs ++ L) hB (by rw [e1]; exact hPj) hDj
    ⟨Nat.le_trans hS.1 (by rw [e1]; exact hz), fun q h1 h2 => by rw [e1, hk q (Nat.lt_of_lt_of_le h1 hS.1) (fun z => h2 (hF q z))]; exact hS.2.1 q h1 h2, fun q hq => by
      rcases List.mem_append.mp hq with h | h
      · exact hS.2.2 q h
      · exact hF _ (hL q h)⟩ T' rfl X'
  exact ⟨t2, stp t2 a1, b1⟩
theorem va_D.mono {A B : Nat → Prop} {ws : va_W} (h : va_D A ws) (hAB : ∀ q, A q → B q) : va_D B ws := ⟨h.1, fun k q hk => hAB _ (h.2 k q hk)⟩
theorem l_cut (hP : va_P (gD g) vwCl ws H) (hD : va_D A ws) (isC : List Nat) (hCp : isC.map (fun i => ws[i]?) = wc.map some) (hnd : va_nd isC = true) : va_P (gD g) vwCl wc H ∧ va_D A wc := by
  refine ⟨?_, hD.sub isC hnd hCp⟩
  intro k x hx
  have h1 : (isC.map (fun i => ws[i]?))[k]? = some (some x) := by rw [hCp, List.getElem?_map, hx]; rfl
  rw [List.getElem?_map] at h1
  cases hi : isC[k]? with
  | none => rw [hi] at h1; cases h1
  | some i => rw [hi] at h1; exact hP i _ (Option.some.inj h1)
theorem lcallI (hC : CX p s m args c cc own g) (hE : EZ g s s.heap) (hml : c.maxLocals = nL) (hP : va_P (gD g) vwCl ws H) (hD : va_D A ws) (hS : va_S A s.heap H locs) (hA : ∀ q, s.heap.size ≤ q → A q) (hAg : ∀ q, A q → gP g q)
    (hM : Met l y (Cond.code y bytes maxL none :: lwG) rm (va_Pc (.ref b :: As) (PL g wc H.size)) (QL none B g wc H.size) mc ms (va_A wc H.size)) (hw : Cond.methodLink own index y ∈ lwG ∧ Cond.instanceMethod y ∈ lwG ∧ Cond.initialized y.cls ∈ lwG ∧ Cond.code y bytes maxL none ∈ lwG) (hin : y.name = "<init>")
    (hd : y.cls ≠ "java/lang/invoke/MethodHandle" ∧ y.cls ≠ "java/lang/invoke/VarHandle" ∧ (parseMethodDescriptor y.desc).map (fun d => d.parameters.length) = some n) (hrc : rm.cells = mc) (hrs : rm.slots = ms) (hR : rm.frames + 1 ≤ R0.frames ∧ 8 + (maxL + 11) + rm.locals ≤ R0.locals)
    (hn : As.length = n) (hsize : ls.size = nL) (hst : st = As.reverse ++ .ref b :: rest) (hW : (rest.map fun v => v.category).sum ≤ 8) (hdg : decode cc pc = .ok (.invokespecial index, 3)) (hf : cells + mc ≤ R0.cells ∧ slots + ms ≤ R0.slots) (isC isR : List Nat) (hCp : isC.map (fun i => ws[i]?) = wc.map some) (hRp : isR.map (fun i => ws[i]?) = wr.map some) (hnc : va_nd isC = true) (hnr : va_nd isR = true) (hdis : ∀ i ∈ isR, i ∉ isC)
    (kk : ∀ (W1 : va_W) (H1 : Heap) (locs1 : List Loc), B W1 → va_P (gD g) vwCl (wr ++ W1) H1 → va_D A (wr ++ W1) → va_S A s.heap H1 locs1 → W p l e R0 s m args below meth c H1 locs1 (cells + mc) (slots + ms) Q (F0 m (pc + 3) ls rest)) : W p l e R0 s m args below meth c H locs cells slots Q (F0 m pc ls st) := by
  have hC0 := hC
  obtain ⟨hx, hb, hown, hts, hK, hA2⟩ := hC
  obtain ⟨hPc, hDc⟩ := l_cut hP hD isC hCp hnc
  refine l_after (As := .ref b :: As) (vo := none) (va_runI (Ts := lwG) (own := own) (rest := rest) ⟨hx, hb, hml, hown, hts⟩ hM ⟨callB_of n hts (g_ws hw.2.2.2) rfl hrc hrs (hts _ hw.2.2.1) (hts _ hw.1) hd hR, hin, hts _ hw.2.1⟩ ⟨PL_blind, fun U hU hW => l_pre hC0 hE hPc (hDc.mono hAg) (hS.mono hAg) U hU hW⟩ rfl hn hsize hst (lv_room hW) hdg hf) hP hD hS hA isC isR hCp hRp hnr hdis kk
theorem lcallV (hC : CX p s m args c cc own g) (hE : EZ g s s.heap) (hml : c.maxLocals = nL) (hP : va_P (gD g) vwCl ws H) (hD : va_D A ws) (hS : va_S A s.heap H locs) (hA : ∀ q, s.heap.size ≤ q → A q) (hAg : ∀ q, A q → gP g q)
    (hM : Met l y (Cond.code y bytes maxL ret :: lwG) rm (va_Pc (.ref b :: As) (PL g wc H.size)) (QL vo B g wc H.size) mc ms (va_A wc H.size)) (hw : Cond.methodLink own index y ∈ lwG ∧ Cond.instanceMethod y ∈ lwG ∧ Cond.selects Cn y y ∈ lwG ∧ Cond.initialized y.cls ∈ lwG ∧ Cond.code y bytes maxL ret ∈ lwG)
    (hd : y.cls ≠ "java/lang/invoke/MethodHandle" ∧ y.cls ≠ "java/lang/invoke/VarHandle" ∧ (parseMethodDescriptor y.desc).map (fun d => d.parameters.length) = some n) (hrc : rm.cells = mc) (hrs : rm.slots = ms) (hR : rm.frames + 1 ≤ R0.frames ∧ 8 + (maxL + 11) + rm.locals ≤ R0.locals) (hrecv : ∃ cell : Cell, H[b]? = some cell ∧ cell.vm.isStatics = false ∧ s.vm.findClass Cn = some cell.cls)
    (hn : As.length = n) (hsize : ls.size = nL) (hst : st = As.reverse ++ .ref b :: rest) (hW : (rest.map fun v => v.category).sum ≤ 8) (hdg : decode cc pc = .ok (.invokevirtual index, 3)) (hf : cells + mc ≤ R0.cells ∧ slots + ms ≤ R0.slots) (isC isR : List Nat) (hCp : isC.map (fun i => ws[i]?) = wc.map some) (hRp : isR.map (fun i => ws[i]?) = wr.map some) (hnc : va_nd isC = true) (hnr : va_nd isR = true) (hdis : ∀ i ∈ isR, i ∉ isC)
    (kk : ∀ (W1 : va_W) (H1 : Heap) (locs1 : List Loc), B W1 → va_P (gD g) vwCl (wr ++ W1) H1 → va_D A (wr ++ W1) → va_S A s.heap H1 locs1 → W p l e R0 s m args below meth c H1 locs1 (cells + mc) (slots + ms) Q (F0 m (pc + 3) ls (vo.toList ++ rest))) : W p l e R0 s m args below meth c H locs cells slots Q (F0 m pc ls st) := by
  have hC0 := hC
  obtain ⟨hx, hb, hown, hts, hK, hA2⟩ := hC
  obtain ⟨hPc, hDc⟩ := l_cut hP hD isC hCp hnc
  refine l_after (As := .ref b :: As) (vo := vo) (va_runV (Ts := lwG) (own := own) (rest := rest) ⟨hx, hb, hml, hown, hts⟩ hM ⟨callB_of n hts (g_ws hw.2.2.2.2) rfl hrc hrs (hts _ hw.2.2.2.1) (hts _ hw.1) hd hR, hts _ hw.2.1, hts _ hw.2.2.1⟩ ⟨PL_blind, hrecv, fun U hU hW => l_pre hC0 hE hPc (hDc.mono hAg) (hS.mono hAg) U hU hW⟩ rfl hn hsize hst (lv_room hW) hdg hf) hP hD hS hA isC isR hCp hRp hnr hdis kk
theorem lcallS (hC : CX p s m args c cc own g) (hE : EZ g s s.heap) (hml : c.maxLocals = nL) (hP : va_P (gD g) vwCl ws H) (hD : va_D A ws) (hS : va_S A s.heap H locs) (hA : ∀ q, s.heap.size ≤ q → A q) (hAg : ∀ q, A q → gP g q)
    (hM : Met l y (Cond.code y bytes maxL ret :: lwG) rm (va_Pc As (PL g [] H.size)) (QL vo (fun W1 => W1 = []) g [] H.size) mc ms (va_A [] H.size)) (hw : Cond.methodLink own index y ∈ lwG ∧ Cond.static y ∈ lwG ∧ Cond.initialized y.cls ∈ lwG ∧ Cond.code y bytes maxL ret ∈ lwG)
    (hd : y.cls ≠ "java/lang/invoke/MethodHandle" ∧ y.cls ≠ "java/lang/invoke/VarHandle" ∧ (parseMethodDescriptor y.desc).map (fun d => d.parameters.length) = some n) (hrc : rm.cells = mc) (hrs : rm.slots = ms) (hR : rm.frames + 1 ≤ R0.frames ∧ 8 + (maxL + 11) + rm.locals ≤ R0.locals)
    (hn : As.length = n) (hsize : ls.size = nL) (hst : st = As.reverse ++ rest) (hW : (rest.map fun v => v.category).sum ≤ 8) (hdg : decode cc pc = .ok (.invokestatic index, 3)) (hf : cells + mc ≤ R0.cells ∧ slots + ms ≤ R0.slots) (isR : List Nat) (hRp : isR.map (fun i => ws[i]?) = ws.map some) (hnr : va_nd isR = true)
    (kk : ∀ (H1 : Heap) (locs1 : List Loc), va_P (gD g) vwCl ws H1 → va_D A ws → va_S A s.heap H1 locs1 → W p l e R0 s m args below meth c H1 locs1 (cells + mc) (slots + ms) Q (F0 m (pc + 3) ls (vo.toList ++ rest))) : W p l e R0 s m args below meth c H locs cells slots Q (F0 m pc ls st) := by
  have hC0 := hC
  obtain ⟨hx, hb, hown, hts, hK, hA2⟩ := hC
  have hP0 : va_P (gD g) vwCl [] H := fun k q h => by simp at h
  have hD0 : va_D (gP g) [] := ⟨fun i j p q h => by simp at h, fun k q h => by simp at h⟩
  refine l_after (As := As) (vo := vo) (va_runS (Ts := lwG) (own := own) (rest := rest) ⟨hx, hb, hml, hown, hts⟩ hM ⟨callB_of n hts (g_ws hw.2.2.2) rfl hrc hrs (hts _ hw.2.2.1) (hts _ hw.1) hd hR, hts _ hw.2.1⟩ ⟨PL_blind, fun U hU hW => l_pre hC0 hE hP0 hD0 (hS.mono hAg) U hU hW⟩ rfl hn hsize hst (lv_room hW) hdg hf) hP hD hS hA [] isR rfl hRp hnr (fun _ _ h => by cases h) (fun W1 H1 locs1 hB hP1 hD1 hS1 => ?_)
  subst hB
  rw [List.append_nil] at hP1 hD1
  exact kk H1 locs1 hP1 hD1 hS1
theorem lret_v {W0 : va_W} {sz : Nat} (hC : CX p s m args c cc own g) (hr : meth.sig.returnType = none) (hlk : meth.locks = false) (hP : va_P (gD g) vwCl ws H) (hD : va_D (va_A W0 sz) ws) (hS : va_S (va_A W0 sz) s.heap H locs) (hB : B ws) (h1 : cells ≤ mc) (h2 : slots ≤ ms) (hdg : decode cc pc = .ok (.return_, 1)) : W p l e R0 s m args below meth c H locs cells slots (MQ below (QL none B g W0 sz) args s mc ms (va_A W0 sz)) (F0 m pc ls []) :=
  W.widen h1 h2 (W.vret hC.1 hC.2.1 hr (fun t ht _ => ⟨⟨rfl, ws, hB, by rw [ht]; exact hP, hD⟩, hS.F ht⟩) hS.2.2 hdg (hlocks := hlk))
theorem lret_i {W0 : va_W} {sz : Nat} {x : Int32} (hC : CX p s m args c cc own g) (hr : meth.sig.returnType = some .int) (hlk : meth.locks = false) (hP : va_P (gD g) vwCl ws H) (hD : va_D (va_A W0 sz) ws) (hS : va_S (va_A W0 sz) s.heap H locs) (hB : B ws) (h1 : cells ≤ mc) (h2 : slots ≤ ms) (hdg : decode cc pc = .ok (.ireturn, 1)) : W p l e R0 s m args below meth c H locs cells slots (MQ below (QL (some (.int x)) B g W0 sz) args s mc ms (va_A W0 sz)) (F0 m pc ls [.int x]) :=
  W.widen h1 h2 (W.iret hC.1 hC.2.1 hr (fun t ht _ => ⟨⟨rfl, ws, hB, by rw [ht]; exact hP, hD⟩, hS.F ht⟩) hS.2.2 hdg (hlocks := hlk))
theorem l_start {s₁ : State} {avs : List Value} {W0 : va_W} {sz : Nat} (Bd : BodyLoose p l y (headSpec (Cond.code y bytes maxL ret :: lwG) rm) bytes maxL ret e s m args below meth c s₁) (hv : va_Pc avs (PL g W0 sz) args s) : args = avs.toArray ∧ s.heap.size = sz ∧ CX p s m args c bytes y.cls g ∧ EZ g s s.heap ∧ meth.sig.returnType = ret ∧ meth.locks = false ∧ va_P (gD g) vwCl W0 s.heap ∧ va_D (gP g) W0 ∧ meth.name = y.name := by
  have hts := atoms_spec (ws := Cond.code y bytes maxL ret :: lwG) Bd.pre
  exact ⟨hv.1, hv.2.1, ⟨Bd.exec, Bd.bytes, findClass_of_methodNamed Bd.named, fun w h => hts w (List.mem_cons_of_mem _ h), hv.2.2.2.2.1, fun q h => hv.2.2.2.2.2.1 q (by rw [hv.2.1] at h; exact h), hv.2.2.2.2.2.2.2⟩, hv.2.2.2.2.2.2.1, Bd.returns, Bd.notSynchronized, hv.2.2.1, hv.2.2.2.1, (name_of_methodNamed Bd.named Bd.method).1⟩
end BLD
theorem w_aobb : Cond.arrayOver (.array .byte) ∈ lwN := lwN_of (List.mem_of_getElem? (i := 531) (by decide +kernel)) (by decide +kernel)
theorem w_acb : Cond.arrayClass .byte ∈ lwG := lwG_of (List.mem_of_getElem? (i := 574) (by decide +kernel)) (by decide +kernel)
section BLM
variable {p : Program} {l : Launch} {e : Env} {R0 : Room} {s : State} {m : MethodId} {args : Array Value} {below : List Frame} {meth : Method} {c : Code} {H : Heap} {locs : List Loc} {cells slots : Nat} {Q : State → Prop}
variable {cc : ByteArray} {pc : Nat} {ls : Array Slot} {rest : List Value} {g : GP} {own : String} {ws : va_W} {A : Nat → Prop}
/-- new byte[8][20] -/
theorem nw_bb (hC : CX p s m args c cc own g) (hP : va_P (gD g) vwCl ws H) (hD : va_D A ws) (hS : va_S A s.heap H locs) (hA : ∀ q, s.heap.size ≤ q → A q) {index : Nat} (hw : Cond.classLink own index "[[B" ∈ lwG) (hcells : cells + 9 ≤ R0.cells) (hslots : slots + 168 ≤ R0.slots) (hdg : decode cc pc = .ok (.multianewarray index 2, 4))
    (kk : ∀ (q : Nat) (r : Nat → Nat) (H1 : Heap), va_P (gD g) vwCl (ws ++ (q, .inl (gc g 6, 8, .inr (.inr (.inr (.inr (fun i => if i < 8 then some (r i) else none)))))) :: (List.range 8).map (fun i => (r i, .inl (gc g 1, 20, .inl (fun _ => 0))))) H1 → va_D A (ws ++ (q, .inl (gc g 6, 8, .inr (.inr (.inr (.inr (fun i => if i < 8 then some (r i) else none)))))) :: (List.range 8).map (fun i => (r i, .inl (gc g 1, 20, .inl (fun _ => 0))))) → va_S A s.heap H1 locs → W p l e R0 s m args below meth c H1 locs (cells + 9) (slots + 168) Q (F0 m (pc + 4) ls (.ref q :: rest))) : W p l e R0 s m args below meth c H locs cells slots Q (F0 m pc ls (.int (20 : Int32) :: .int (8 : Int32) :: rest)) := by
  have hcy : s.vm.findClass (FieldType.array .byte).toString = some (gc g 1) := (hC.2.2.2.2.1.2 1 (gc g 1, .byte) rfl).2
  have hP0 : va_P (gD g) vwCl (ws ++ va_pl [] (fun _ => .inr (0, []))) H := by
    rw [show va_pl [] (fun _ => (.inr (0, []) : va_E)) = [] from rfl, List.append_nil]; exact hP
  have hD0 : va_D A (ws ++ va_pl [] (fun _ => .inr (0, []))) := by
    rw [show va_pl [] (fun _ => (.inr (0, []) : va_E)) = [] from rfl, List.append_nil]; exact hD
  refine va_mna (ty := .byte) (cy := gc g 1) (N' := 8) (K' := 20) (z := (20, .inl (fun _ => 0))) hC.1 hC.2.1 hC.2.2.1 (hC.2.2.2.1 _ hw) (hC.2.2.2.2.2.2 _ w_aobb) (hC.2.2.2.1 _ w_acb) hcy hC.2.2.2.2.1 hP0 hD0 hS hA (by decide) (by decide) (by decide) (by decide) (by decide) (by decide) (by decide) rfl rfl hcells hslots (fun c2 => arrV_new c2 20 (.int 0)) hdg (fun q r cA H1 hinj hnot hK1 hP1 hD1 hS1 => ?_)
  have hcA : cA = gc g 6 := by
    have h1 : s.vm.findClass _ = some cA := (hK1.2 7 (cA, .array .byte) rfl).2
    have h2 : s.vm.findClass _ = some (gc g 6) := (hC.2.2.2.2.1.2 6 (gc g 6, .array .byte) rfl).2
    exact Option.some.inj (h1.symm.trans h2)
  subst hcA
  have e1 : va_pl ([] ++ (List.range 8).map r) (vr_up (fun _ => .inr (0, [])) ((List.range 8).map r) (.inl (gc g 1, (20, .inl (fun _ => 0))) : va_E)) = (List.range 8).map (fun i => (r i, (.inl (gc g 1, 20, .inl (fun _ => 0)) : va_E))) := by
    rw [List.nil_append]
    unfold va_pl
    rw [List.map_map]
    apply List.map_congr_left
    intro i hi
    show (r i, vr_up _ _ _ (r i)) = _
    rw [vr_up_in (List.mem_map.mpr ⟨i, hi, rfl⟩)]
  rw [e1, List.append_assoc] at hP1 hD1
  exact kk q r H1 hP1 hD1 hS1
end BLM
