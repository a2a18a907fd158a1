/-! LISTS WITH A TAIL that is only carried along -/
theorem va_P.left {D : va_G} {cl : List vw_C} {a b : va_W} {H : Heap} (h : va_P D cl (a ++ b) H) : va_P D cl a H := fun k q hk => h k q (by rw [List.getElem?_append_left (List.getElem?_eq_some_iff.mp hk).1]; exact hk)
theorem va_P.right {D : va_G} {cl : List vw_C} {a b : va_W} {H : Heap} (h : va_P D cl (a ++ b) H) : va_P D cl b H := fun k q hk => h (a.length + k) q (by rw [List.getElem?_append_right (Nat.le_add_right _ _), Nat.add_sub_cancel_left]; exact hk)
theorem va_D.left {A : Nat → Prop} {a b : va_W} (h : va_D A (a ++ b)) : va_D A a := ⟨fun i j p q hi hj e => h.1 i j p q (by rw [List.getElem?_append_left (List.getElem?_eq_some_iff.mp hi).1]; exact hi) (by rw [List.getElem?_append_left (List.getElem?_eq_some_iff.mp hj).1]; exact hj) e, fun k q hk => h.2 k q (by rw [List.getElem?_append_left (List.getElem?_eq_some_iff.mp hk).1]; exact hk)⟩
theorem va_D.right {A : Nat → Prop} {a b : va_W} (h : va_D A (a ++ b)) : va_D A b := by
  have e : ∀ (k : Nat) (q : Nat × va_E), b[k]? = some q → (a ++ b)[a.length + k]? = some q := fun k q hk => by rw [List.getElem?_append_right (Nat.le_add_right _ _), Nat.add_sub_cancel_left]; exact hk
  refine ⟨fun i j p q hi hj h2 => ?_, fun k q hk => h.2 _ q (e k q hk)⟩
  have := h.1 _ _ p q (e i p hi) (e j q hj) h2
  omega
theorem va_D.sides {A : Nat → Prop} {a b : va_W} (h : va_D A (a ++ b)) {i j : Nat} {p q : Nat × va_E} (hi : a[i]? = some p) (hj : b[j]? = some q) : p.1 ≠ q.1 := by
  intro e
  have hl := (List.getElem?_eq_some_iff.mp hi).1
  have h1 : (a ++ b)[i]? = some p := by rw [List.getElem?_append_left hl]; exact hi
  have h2 : (a ++ b)[a.length + j]? = some q := by rw [List.getElem?_append_right (Nat.le_add_right _ _), Nat.add_sub_cancel_left]; exact hj
  have := h.1 _ _ p q h1 h2 e
  omega
section TLR
variable {p : Program} {l : Launch} {e : Env} {R0 : Room} {s : State} {m : MethodId} {args : Array Value} {below : List Frame} {meth : Method} {c : Code} {H : Heap} {locs : List Loc} {cells slots : Nat} {Q : State → Prop}
variable {cc : ByteArray} {pc : Nat} {ls : Array Slot} {rest : List Value} {g : GP} {own : String} {ws T : va_W} {A : Nat → Prop}
variable {y : MethodName} {bytes : ByteArray} {maxL nL mc ms n index : Nat} {ret : Option FieldType} {rm : Room} {Cn : String} {b : Nat} {As st : List Value} {vo : Option Value} {B : va_W → Prop} {wc wr : va_W}
theorem t_after (hr : va_Run p l e R0 s m args below meth c H locs cells slots mc ms (F0 m pc ls st) rest (QL vo B g wc H.size As.toArray) (va_A wc H.size)) (hP : va_P (gD g) vwCl (ws ++ T) H) (hD : va_D A (ws ++ T)) (hS : va_S A s.heap H locs) (hA : ∀ q, s.heap.size ≤ q → A q) (isC isR : List Nat) (hCp : isC.map (fun i => ws[i]?) = wc.map some) (hRp : isR.map (fun i => ws[i]?) = wr.map some) (hn : va_nd isR = true) (hdis : ∀ i ∈ isR, i ∉ isC)
    (kk : ∀ (W1 : va_W) (H1 : Heap) (locs1 : List Loc), B W1 → va_P (gD g) vwCl ((wr ++ W1) ++ T) H1 → va_D A ((wr ++ W1) ++ T) → va_S A s.heap H1 locs1 → W p l e R0 s m args below meth c H1 locs1 (cells + mc) (slots + ms) Q (F0 m (pc + 3) ls (vo.toList ++ rest))) : W p l e R0 s m args below meth c H locs cells slots Q (F0 m pc ls st) := by
  have at' : ∀ {is : List Nat} {w : va_W}, is.map (fun i => ws[i]?) = w.map some → ∀ (k : Nat) (q : Nat × va_E), w[k]? = some q → ∃ i : Nat, ws[i]? = some q := by
    intro is w hs k q hq
    have h1 : (is.map (fun i => ws[i]?))[k]? = some (some q) := by rw [hs, List.getElem?_map, hq]; rfl
    rw [List.getElem?_map] at h1
    cases hi : is[k]? with
    | none => rw [hi] at h1; cases h1
    | some i => rw [hi] at h1; exact ⟨i, Option.some.inj h1⟩
  have hF : ∀ q, va_A wc H.size q → A q := by
    intro q h
    rcases h with ⟨k, e2, h⟩ | h
    · obtain ⟨i, hi⟩ := at' hCp k (q, e2) h
      exact hD.left.2 i _ hi
    · exact hA q (Nat.le_trans hS.1 h)
  have hout : ∀ (k : Nat) (q : Nat × va_E), T[k]? = some q → q.1 < H.size ∧ ¬ va_A wc H.size q.1 := by
    intro k q hq
    have hl := (hP.right k q hq).lt
    refine ⟨hl, fun h => ?_⟩
    rcases h with ⟨k2, e2, h⟩ | h
    · obtain ⟨i, hi⟩ := at' hCp k2 (q.1, e2) h
      exact hD.sides hi hq rfl
    · omega
  intro T0 hT X
  obtain ⟨v, st₀, t, T', L, h0, X', hL, e1, e2, ⟨⟨hv, W1, hB, hP1, hD1⟩, hz, hk⟩, stp⟩ := hr T0 hT X
  cases hv
  rw [h0] at hz hk
  obtain ⟨hPj, hDj⟩ := va_join (wr := wr) (w1 := W1) hP.left hD.left isC isR hCp hRp hn hdis hk hF hP1 hD1
  have hPT : va_P (gD g) vwCl T t.heap := fun k q hq => (hP.right k q hq).kept (hk q.1 (hout k q hq).1 (hout k q hq).2)
  have hDT : va_D A ((wr ++ W1) ++ T) := by
    refine va_D.app hDj hD.right (fun i j x z hx hz2 => ?_)
    by_cases hi : i < wr.length
    · rw [List.getElem?_append_left hi] at hx
      obtain ⟨i2, hi2⟩ := at' hRp i x hx
      exact hD.sides hi2 hz2
    · rw [List.getElem?_append_right (by omega)] at hx
      intro e3
      exact (hout j z hz2).2 (by rw [← e3]; exact hD1.2 _ x hx)
  obtain ⟨t2, a1, b1⟩ := kk W1 T'.heap (locs ++ L) hB (by rw [e1]; exact hPj.app hPT) hDT
    ⟨Nat.le_trans hS.1 (by rw [e1]; exact hz), fun q h1 h2 => by rw [e1, hk q (Nat.lt_of_lt_of_le h1 hS.1) (fun z => h2 (hF q z))]; exact hS.2.1 q h1 h2, fun q hq => by
      rcases List.mem_append.mp hq with h | h
      · exact hS.2.2 q h
      · exact hF _ (hL q h)⟩ T' rfl X'
  exact ⟨t2, stp t2 a1, b1⟩
theorem tcallI (hC : CX p s m args c cc own g) (hE : EZ g s s.heap) (hml : c.maxLocals = nL) (hP : va_P (gD g) vwCl (ws ++ T) H) (hD : va_D A (ws ++ T)) (hS : va_S A s.heap H locs) (hA : ∀ q, s.heap.size ≤ q → A q) (hAg : ∀ q, A q → gP g q)
    (hM : Met l y (Cond.code y bytes maxL none :: lwG) rm (va_Pc (.ref b :: As) (PL g wc H.size)) (QL none B g wc H.size) mc ms (va_A wc H.size)) (hw : Cond.methodLink own index y ∈ lwG ∧ Cond.instanceMethod y ∈ lwG ∧ Cond.initialized y.cls ∈ lwG ∧ Cond.code y bytes maxL none ∈ lwG) (hin : y.name = "<init>")
    (hd : y.cls ≠ "java/lang/invoke/MethodHandle" ∧ y.cls ≠ "java/lang/invoke/VarHandle" ∧ (parseMethodDescriptor y.desc).map (fun d => d.parameters.length) = some n) (hrc : rm.cells = mc) (hrs : rm.slots = ms) (hR : rm.frames + 1 ≤ R0.frames ∧ 8 + (maxL + 11) + rm.locals ≤ R0.locals)
    (hn : As.length = n) (hsize : ls.size = nL) (hst : st = As.reverse ++ .ref b :: rest) (hW : (rest.map fun v => v.category).sum ≤ 8) (hdg : decode cc pc = .ok (.invokespecial index, 3)) (hf : cells + mc ≤ R0.cells ∧ slots + ms ≤ R0.slots) (isC isR : List Nat) (hCp : isC.map (fun i => ws[i]?) = wc.map some) (hRp : isR.map (fun i => ws[i]?) = wr.map some) (hnc : va_nd isC = true) (hnr : va_nd isR = true) (hdis : ∀ i ∈ isR, i ∉ isC)
    (kk : ∀ (W1 : va_W) (H1 : Heap) (locs1 : List Loc), B W1 → va_P (gD g) vwCl ((wr ++ W1) ++ T) H1 → va_D A ((wr ++ W1) ++ T) → va_S A s.heap H1 locs1 → W p l e R0 s m args below meth c H1 locs1 (cells + mc) (slots + ms) Q (F0 m (pc + 3) ls rest)) : W p l e R0 s m args below meth c H locs cells slots Q (F0 m pc ls st) := by
  have hC0 := hC
  obtain ⟨hx, hb, hown, hts, hK, hA2⟩ := hC
  obtain ⟨hPc, hDc⟩ := l_cut hP.left hD.left isC hCp hnc
  refine t_after (As := .ref b :: As) (vo := none) (va_runI (Ts := lwG) (own := own) (rest := rest) ⟨hx, hb, hml, hown, hts⟩ hM ⟨callB_of n hts (g_ws hw.2.2.2) rfl hrc hrs (hts _ hw.2.2.1) (hts _ hw.1) hd hR, hin, hts _ hw.2.1⟩ ⟨PL_blind, fun U hU hW => l_pre hC0 hE hPc (hDc.mono hAg) (hS.mono hAg) U hU hW⟩ rfl hn hsize hst (lv_room hW) hdg hf) hP hD hS hA isC isR hCp hRp hnr hdis kk
theorem tcallIN (hC : CX p s m args c cc own g) (hE : EZ g s s.heap) (hml : c.maxLocals = nL) (hP : va_P (gD g) vwCl (ws ++ T) H) (hD : va_D A (ws ++ T)) (hS : va_S A s.heap H locs) (hA : ∀ q, s.heap.size ≤ q → A q) (hAg : ∀ q, A q → gP g q) {host : String}
    (hM : Met l y (Cond.code y bytes maxL none :: lwG) rm (va_Pc (.ref b :: As) (PL g wc H.size)) (QL none B g wc H.size) mc ms (va_A wc H.size)) (hw : Cond.methodLinkNest own index y host ∈ lwN ∧ Cond.instanceMethod y ∈ lwG ∧ Cond.initialized y.cls ∈ lwG ∧ Cond.code y bytes maxL none ∈ lwG) (hin : y.name = "<init>")
    (hd : y.cls ≠ "java/lang/invoke/MethodHandle" ∧ y.cls ≠ "java/lang/invoke/VarHandle" ∧ (parseMethodDescriptor y.desc).map (fun d => d.parameters.length) = some n) (hrc : rm.cells = mc) (hrs : rm.slots = ms) (hR : rm.frames + 1 ≤ R0.frames ∧ 8 + (maxL + 11) + rm.locals ≤ R0.locals)
    (hn : As.length = n) (hsize : ls.size = nL) (hst : st = As.reverse ++ .ref b :: rest) (hW : (rest.map fun v => v.category).sum ≤ 8) (hdg : decode cc pc = .ok (.invokespecial index, 3)) (hf : cells + mc ≤ R0.cells ∧ slots + ms ≤ R0.slots) (isC isR : List Nat) (hCp : isC.map (fun i => ws[i]?) = wc.map some) (hRp : isR.map (fun i => ws[i]?) = wr.map some) (hnc : va_nd isC = true) (hnr : va_nd isR = true) (hdis : ∀ i ∈ isR, i ∉ isC)
    (kk : ∀ (W1 : va_W) (H1 : Heap) (locs1 : List Loc), B W1 → va_P (gD g) vwCl ((wr ++ W1) ++ T) H1 → va_D A ((wr ++ W1) ++ T) → va_S A s.heap H1 locs1 → W p l e R0 s m args below meth c H1 locs1 (cells + mc) (slots + ms) Q (F0 m (pc + 3) ls rest)) : W p l e R0 s m args below meth c H locs cells slots Q (F0 m pc ls st) := by
  have hC0 := hC
  obtain ⟨hx, hb, hown, hts, hK, hA2⟩ := hC
  obtain ⟨hPc, hDc⟩ := l_cut hP.left hD.left isC hCp hnc
  refine t_after (As := .ref b :: As) (vo := none) (va_runIN (Ts := lwG) (own := own) (rest := rest) ⟨hx, hb, hml, hown, hts⟩ hM ⟨va_cnB n hts (g_ws hw.2.2.2) rfl hrc hrs (hC0.2.2.2.2.2.2 _ hw.1) (hts _ hw.2.2.1) hd hR, hin, hts _ hw.2.1⟩ ⟨PL_blind, fun U hU hW => l_pre hC0 hE hPc (hDc.mono hAg) (hS.mono hAg) U hU hW⟩ rfl hn hsize hst (lv_room hW) hdg hf) hP hD hS hA isC isR hCp hRp hnr hdis kk
theorem tcallS (hC : CX p s m args c cc own g) (hE : EZ g s s.heap) (hml : c.maxLocals = nL) (hP : va_P (gD g) vwCl (ws ++ T) H) (hD : va_D A (ws ++ T)) (hS : va_S A s.heap H locs) (hA : ∀ q, s.heap.size ≤ q → A q) (hAg : ∀ q, A q → gP g q)
    (hM : Met l y (Cond.code y bytes maxL ret :: lwG) rm (va_Pc As (PL g [] H.size)) (QL vo (fun W1 => W1 = []) g [] H.size) mc ms (va_A [] H.size)) (hw : Cond.methodLink own index y ∈ lwG ∧ Cond.static y ∈ lwG ∧ Cond.initialized y.cls ∈ lwG ∧ Cond.code y bytes maxL ret ∈ lwG)
    (hd : y.cls ≠ "java/lang/invoke/MethodHandle" ∧ y.cls ≠ "java/lang/invoke/VarHandle" ∧ (parseMethodDescriptor y.desc).map (fun d => d.parameters.length) = some n) (hrc : rm.cells = mc) (hrs : rm.slots = ms) (hR : rm.frames + 1 ≤ R0.frames ∧ 8 + (maxL + 11) + rm.locals ≤ R0.locals)
    (hn : As.length = n) (hsize : ls.size = nL) (hst : st = As.reverse ++ rest) (hW : (rest.map fun v => v.category).sum ≤ 8) (hdg : decode cc pc = .ok (.invokestatic index, 3)) (hf : cells + mc ≤ R0.cells ∧ slots + ms ≤ R0.slots) (isR : List Nat) (hRp : isR.map (fun i => ws[i]?) = ws.map some) (hnr : va_nd isR = true)
    (kk : ∀ (H1 : Heap) (locs1 : List Loc), va_P (gD g) vwCl (ws ++ T) H1 → va_D A (ws ++ T) → va_S A s.heap H1 locs1 → W p l e R0 s m args below meth c H1 locs1 (cells + mc) (slots + ms) Q (F0 m (pc + 3) ls (vo.toList ++ rest))) : W p l e R0 s m args below meth c H locs cells slots Q (F0 m pc ls st) := by
  have hC0 := hC
  obtain ⟨hx, hb, hown, hts, hK, hA2⟩ := hC
  have hP0 : va_P (gD g) vwCl [] H := fun k q h => by simp at h
  have hD0 : va_D (gP g) [] := ⟨fun i j p q h => by simp at h, fun k q h => by simp at h⟩
  refine t_after (As := As) (vo := vo) (va_runS (Ts := lwG) (own := own) (rest := rest) ⟨hx, hb, hml, hown, hts⟩ hM ⟨callB_of n hts (g_ws hw.2.2.2) rfl hrc hrs (hts _ hw.2.2.1) (hts _ hw.1) hd hR, hts _ hw.2.1⟩ ⟨PL_blind, fun U hU hW => l_pre hC0 hE hP0 hD0 (hS.mono hAg) U hU hW⟩ rfl hn hsize hst (lv_room hW) hdg hf) hP hD hS hA [] isR rfl hRp hnr (fun _ _ h => by cases h) (fun W1 H1 locs1 hB hP1 hD1 hS1 => ?_)
  subst hB
  rw [List.append_nil] at hP1 hD1
  exact kk H1 locs1 hP1 hD1 hS1
/-- the explicit part in another order, some of it into the tail -/
theorem t_perm {ws2 : va_W} (hP : va_P (gD g) vwCl (ws ++ T) H) (hD : va_D A (ws ++ T)) (is : List Nat) (hp : is.map (fun i => ws[i]?) = ws2.map some) (hnd : va_nd is = true) : va_P (gD g) vwCl (ws2 ++ T) H ∧ va_D A (ws2 ++ T) := by
  obtain ⟨h1, h2⟩ := l_cut hP.left hD.left is hp hnd
  refine ⟨h1.app hP.right, va_D.app h2 hD.right (fun i j x z hx hz => ?_)⟩
  have h3 : (is.map (fun i => ws[i]?))[i]? = some (some x) := by rw [hp, List.getElem?_map, hx]; rfl
  rw [List.getElem?_map] at h3
  cases hi : is[i]? with
  | none => rw [hi] at h3; cases h3
  | some i2 => rw [hi] at h3; exact hD.sides (Option.some.inj h3) hz
end TLR
