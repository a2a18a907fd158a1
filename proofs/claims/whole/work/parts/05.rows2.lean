/-! ARRAYS, REFERENCES, CALLS AND RETURNS OVER THE WORLD -/
/-- the shared empty array of the lists -/
def EZ (g : GP) (U : State) (H : Heap) : Prop := va_Z "java/util/ArrayList" "DEFAULTCAPACITY_EMPTY_ELEMENTDATA" "[Ljava/lang/Object;" (.ref (ge g)) (gP g) U H ∧ va_T (.object "java/lang/Object") (ge g) 0 (fun _ => .null) (gP g) U H
theorem EZ.moved {g : GP} {u U : State} {H : Heap} (hvm : u.vm.Alike U.vm) (h : EZ g u H) : EZ g U H := ⟨h.1.moved hvm, h.2.moved hvm⟩
theorem EZ.kept {g : GP} {U : State} {H H1 : Heap} {locs : List Loc} (h : EZ g U H) (hS : va_S (gP g) H H1 locs) : EZ g U H1 := ⟨h.1.kept hS.2.1, h.2.kept hS.2.1⟩
def PW (g : GP) (C R : St) (ed : Nat → Nat) (U : State) : Prop := HW g ed C R U.heap ∧ KK g U ∧ (∀ q, U.heap.size ≤ q → gP g q) ∧ EZ g U U.heap ∧ KN U
def QG (vo : Option Value) (g : GP) (C R : St) : Array Value → State → Outcome → State → Prop := fun _ st oc t => (oc = .returned vo ∧ ∃ ed, HW g ed C R t.heap) ∧ va_F (gP g) st t
theorem PW_blind {g : GP} {C R : St} {ed : Nat → Nat} {av : List Value} : FrameBlind (va_Pc av (PW g C R ed)) := fun _ U _ _ h => ⟨h.1, h.2.1, va_K.moved (u := U) (Vm.Alike.refl U.vm) h.2.2.1, h.2.2.2.1, h.2.2.2.2.1.moved (u := U) (Vm.Alike.refl U.vm), KN.same (s := U) rfl h.2.2.2.2.2⟩
section HWA
variable {p : Program} {l : Launch} {e : Env} {R0 : Room} {s : State} {m : MethodId} {args : Array Value} {below : List Frame} {meth : Method} {c : Code} {H : Heap} {locs : List Loc} {cells slots : Nat} {Q : State → Prop}
variable {cc : ByteArray} {pc : Nat} {ls : Array Slot} {rest : List Value} {g : GP} {ed : Nat → Nat} {C R : St} {own : String} {v0 : Value} {q i : Nat}
theorem hw_one (hH : HW g ed C R H) (hd : dm g C q i) {en : va_E} (him : imgF g ed q i (sel C R q q i) = en) : va_P (gD g) vwCl [(adr g ed q i, en)] H := by
  intro k2 q2 h
  cases k2 with
  | zero => cases h; rw [← him]; exact hH.at hd
  | succ n => cases h
theorem hw_iald (hC : CX p s m args c cc own g) (hH : HW g ed C R H) (hd : dm g C q i) {cA : ClassId} {n : Nat} {f : Nat → Int32} (him : imgF g ed q i (sel C R q q i) = .inl (cA, n, .inl f)) (ht : (tyL g)[0]? = some (cA, .int)) {x : Int32} (hin : inb x n = true) (hv0 : v0 = .ref (adr g ed q i)) (hdg : decode cc pc = .ok (.iaload, 1))
    (kk : W p l e R0 s m args below meth c H locs cells slots Q (F0 m (pc + 1) ls (.int (f x.toNatClampNeg) :: rest))) : W p l e R0 s m args below meth c H locs cells slots Q (F0 m pc ls (.int x :: v0 :: rest)) := by
  subst hv0
  exact va_iald hC.1 hC.2.1 hC.2.2.2.2.1 (hw_one hH hd him) 0 0 rfl ht (inb_in hin) hdg kk
theorem hw_bald (hC : CX p s m args c cc own g) (hH : HW g ed C R H) (hd : dm g C q i) {cA : ClassId} {n : Nat} {f : Nat → Int32} (him : imgF g ed q i (sel C R q q i) = .inl (cA, n, .inl f)) (ht : (tyL g)[1]? = some (cA, .byte)) {x : Int32} (hin : inb x n = true) (hv0 : v0 = .ref (adr g ed q i)) (hdg : decode cc pc = .ok (.baload, 1))
    (kk : W p l e R0 s m args below meth c H locs cells slots Q (F0 m (pc + 1) ls (.int (f x.toNatClampNeg) :: rest))) : W p l e R0 s m args below meth c H locs cells slots Q (F0 m pc ls (.int x :: v0 :: rest)) := by
  subst hv0
  exact va_bald hC.1 hC.2.1 hC.2.2.2.2.1 (hw_one hH hd him) 0 1 rfl ht (inb_in hin) hdg kk
theorem hw_zald (hC : CX p s m args c cc own g) (hH : HW g ed C R H) (hd : dm g C q i) {cA : ClassId} {n : Nat} {f : Nat → Int32} (him : imgF g ed q i (sel C R q q i) = .inl (cA, n, .inl f)) (ht : (tyL g)[2]? = some (cA, .boolean)) {x : Int32} (hin : inb x n = true) (hv0 : v0 = .ref (adr g ed q i)) (hdg : decode cc pc = .ok (.baload, 1))
    (kk : W p l e R0 s m args below meth c H locs cells slots Q (F0 m (pc + 1) ls (.int (f x.toNatClampNeg) :: rest))) : W p l e R0 s m args below meth c H locs cells slots Q (F0 m pc ls (.int x :: v0 :: rest)) := by
  subst hv0
  exact va_zald hC.1 hC.2.1 hC.2.2.2.2.1 (hw_one hH hd him) 0 2 rfl ht (inb_in hin) hdg kk
theorem hw_alen (hC : CX p s m args c cc own g) (hH : HW g ed C R H) (hd : dm g C q i) {cA : ClassId} {a : vp_A} (him : imgF g ed q i (sel C R q q i) = .inl (cA, a)) (t0 : Nat) {ty : FieldType} (ht : (tyL g)[t0]? = some (cA, ty)) (hv0 : v0 = .ref (adr g ed q i)) (hdg : decode cc pc = .ok (.arraylength, 1))
    (kk : W p l e R0 s m args below meth c H locs cells slots Q (F0 m (pc + 1) ls (.int (nI a.1) :: rest))) : W p l e R0 s m args below meth c H locs cells slots Q (F0 m pc ls (v0 :: rest)) := by
  subst hv0
  exact va_alen hC.1 hC.2.1 hC.2.2.2.2.1 (hw_one hH hd him) 0 t0 rfl ht rfl hdg kk
/-- an element of an array of the system's own objects -/
theorem hw_aald (hC : CX p s m args c cc own g) (hH : HW g ed C R H) (hd : dm g C q i) {cA : ClassId} {n q2 : Nat} (him : imgF g ed q i (sel C R q q i) = .inl (cA, n, .inr (.inr (.inr (.inr (fun j => some (gA g q2 j))))))) (t0 : Nat) {ty : FieldType} (ht : (tyL g)[t0]? = some (cA, ty)) (hty : ty.isReference = true) {x : Int32} (hin : inb x n = true) (hv0 : v0 = .ref (adr g ed q i)) (hdg : decode cc pc = .ok (.aaload, 1))
    (kk : W p l e R0 s m args below meth c H locs cells slots Q (F0 m (pc + 1) ls (rfv (gA g) q2 x :: rest))) : W p l e R0 s m args below meth c H locs cells slots Q (F0 m pc ls (.int x :: v0 :: rest)) := by
  subst hv0
  rw [rfv_in hin] at kk
  have hlt : x.toNatClampNeg < n := inb_lt hin
  have hP := hw_one hH hd him
  exact W.aald (v := .ref (gA g q2 x.toNatClampNeg)) (ty := ty) hC.1 hC.2.1 (hP 0 _ rfl) ((hC.2.2.2.2.1.2 t0 _ ht).1 n (fun j => va_rf (some (gA g q2 j)))) hty (fun q => by cases q) (by show ¬ (x < 0 ∨ (arrV _ _ _).slots.size ≤ _); rw [arrV_size]; exact inb_in hin) (by show (arrV _ _ _).slots[_]? = _; rw [arrV_read _ _ hlt]; rfl) rfl rfl hdg kk
/-- writes to arrays of numbers: the cell behind them -/
theorem hw_iast0 (hC : CX p s m args c cc own g) (hS : va_S (gP g) s.heap H locs) {a : Nat} {cA : ClassId} {n : Nat} {f : Nat → Int32} (h0 : va_at (gD g) vwCl (a, .inl (cA, n, .inl f)) H) (hPa : gP g a) (ht : (tyL g)[0]? = some (cA, .int)) {x y : Int32} (hin : inb x n = true) (hv0 : v0 = .ref a) (hdg : decode cc pc = .ok (.iastore, 1))
    (kk : ∀ (H1 : Heap) (locs1 : List Loc), va_at (gD g) vwCl (a, .inl (cA, n, .inl (upd f x.toNatClampNeg y))) H1 → (∀ b : Nat, b ≠ a → H1[b]? = H[b]?) → va_S (gP g) s.heap H1 locs1 → W p l e R0 s m args below meth c H1 locs1 cells slots Q (F0 m (pc + 1) ls rest)) : W p l e R0 s m args below meth c H locs cells slots Q (F0 m pc ls (.int y :: .int x :: v0 :: rest)) := by
  subst hv0
  refine W.iast hC.1 hC.2.1 h0 ((hC.2.2.2.2.1.2 0 _ ht).1 n (fun j => .int (f j))) (fun q => by cases q) (by show ¬ (x < 0 ∨ (arrV _ _ _).slots.size ≤ _); rw [arrV_size]; exact inb_in hin) rfl rfl hdg fun H1 e z oq => ?_
  refine kk H1 _ ?_ oq (hS.put z oq hPa)
  show H1[a]? = some (vp_cell _ _)
  rw [e, vp_cell_i, vp_cell_i, arrV_store]
  congr 2
  funext q
  by_cases hq : q = x.toNatClampNeg
  · subst hq
    simp [updV, upd]
  · simp [updV, upd, hq]
theorem hw_bast0 (hC : CX p s m args c cc own g) (hS : va_S (gP g) s.heap H locs) {a : Nat} {cA : ClassId} {n : Nat} {f : Nat → Int32} (h0 : va_at (gD g) vwCl (a, .inl (cA, n, .inl f)) H) (hPa : gP g a) (ht : (tyL g)[1]? = some (cA, .byte)) {x y : Int32} (hin : inb x n = true) (hv0 : v0 = .ref a) (hdg : decode cc pc = .ok (.bastore, 1))
    (kk : ∀ (H1 : Heap) (locs1 : List Loc), va_at (gD g) vwCl (a, .inl (cA, n, .inl (upd f x.toNatClampNeg y.toInt8.toInt32))) H1 → (∀ b : Nat, b ≠ a → H1[b]? = H[b]?) → va_S (gP g) s.heap H1 locs1 → W p l e R0 s m args below meth c H1 locs1 cells slots Q (F0 m (pc + 1) ls rest)) : W p l e R0 s m args below meth c H locs cells slots Q (F0 m pc ls (.int y :: .int x :: v0 :: rest)) := by
  subst hv0
  refine W.bast hC.1 hC.2.1 h0 ((hC.2.2.2.2.1.2 1 _ ht).1 n (fun j => .int (f j))) (fun q => by cases q) (by show ¬ (x < 0 ∨ (arrV _ _ _).slots.size ≤ _); rw [arrV_size]; exact inb_in hin) rfl rfl hdg fun H1 e z oq => ?_
  refine kk H1 _ ?_ oq (hS.put z oq hPa)
  show H1[a]? = some (vp_cell _ _)
  rw [e, vp_cell_i, vp_cell_i, arrV_store]
  congr 2
  funext q
  by_cases hq : q = x.toNatClampNeg
  · subst hq
    rw [← vp_nar_byte]
    simp [updV, upd, vp_nar]
    try rfl
  · simp [updV, upd, hq]
theorem hw_zast0 (hC : CX p s m args c cc own g) (hS : va_S (gP g) s.heap H locs) {a : Nat} {cA : ClassId} {n : Nat} {f : Nat → Int32} (h0 : va_at (gD g) vwCl (a, .inl (cA, n, .inl f)) H) (hPa : gP g a) (ht : (tyL g)[2]? = some (cA, .boolean)) {x y : Int32} (hin : inb x n = true) (hy : isb y = true) (hv0 : v0 = .ref a) (hdg : decode cc pc = .ok (.bastore, 1))
    (kk : ∀ (H1 : Heap) (locs1 : List Loc), va_at (gD g) vwCl (a, .inl (cA, n, .inl (upd f x.toNatClampNeg y))) H1 → (∀ b : Nat, b ≠ a → H1[b]? = H[b]?) → va_S (gP g) s.heap H1 locs1 → W p l e R0 s m args below meth c H1 locs1 cells slots Q (F0 m (pc + 1) ls rest)) : W p l e R0 s m args below meth c H locs cells slots Q (F0 m pc ls (.int y :: .int x :: v0 :: rest)) := by
  subst hv0
  have hy2 : vp_nar .boolean y = y := by rcases isb_or hy with rfl | rfl <;> decide +kernel
  refine W.zast hC.1 hC.2.1 h0 ((hC.2.2.2.2.1.2 2 _ ht).1 n (fun j => .int (f j))) (fun q => by cases q) (by show ¬ (x < 0 ∨ (arrV _ _ _).slots.size ≤ _); rw [arrV_size]; exact inb_in hin) rfl rfl hdg fun H1 e z oq => ?_
  refine kk H1 _ ?_ oq (hS.put z oq hPa)
  show H1[a]? = some (vp_cell _ _)
  rw [e, vp_cell_i, vp_cell_i, arrV_store]
  congr 2
  funext q
  by_cases hq : q = x.toNatClampNeg
  · subst hq
    conv => rhs; rw [← hy2]
    simp [updV, upd, vp_nar]
    try rfl
  · simp [updV, upd, hq]
/-- references that may be null: loads, stores, tests -/
theorem gl_aload_n (hC : CX p s m args c cc own g) {ad : Nat → Nat → Nat} {x : Int32} {k : Fin 4} {j : Nat} (hdg : decode cc pc = .ok (.aload_n k, 1)) (hj : (k : Nat) = j) (hl : ls[j]? = some (.val (rfv ad q x)))
    (kk : W p l e R0 s m args below meth c H locs cells slots Q (F0 m (pc + 1) ls (rfv ad q x :: rest))) : W p l e R0 s m args below meth c H locs cells slots Q (F0 m pc ls rest) := by
  by_cases h : x < 0
  · rw [rfv_neg h] at hl kk
    exact lv_aload_nN hC.1 hC.2.1 hdg hj hl kk
  · rw [rfv_nn h] at hl kk
    exact lv_aload_n hC.1 hC.2.1 hdg hj hl kk
theorem gl_aload (hC : CX p s m args c cc own g) {ad : Nat → Nat → Nat} {x : Int32} {j : Nat} (hdg : decode cc pc = .ok (.aload j, 2)) (hl : ls[j]? = some (.val (rfv ad q x)))
    (kk : W p l e R0 s m args below meth c H locs cells slots Q (F0 m (pc + 2) ls (rfv ad q x :: rest))) : W p l e R0 s m args below meth c H locs cells slots Q (F0 m pc ls rest) := by
  by_cases h : x < 0
  · rw [rfv_neg h] at hl kk
    exact lv_aloadN hC.1 hC.2.1 hdg hl kk
  · rw [rfv_nn h] at hl kk
    exact lv_aload hC.1 hC.2.1 hdg hl kk
theorem gl_astore_n (hC : CX p s m args c cc own g) {ad : Nat → Nat → Nat} {x : Int32} {k : Fin 4} {j nL : Nat} {lv lv' : List (Nat × Value)} (hdg : decode cc pc = .ok (.astore_n k, 1)) (hj : (k : Nat) = j) (h : lv_has ls nL lv) (hn : j < nL) (hl : (j, rfv ad q x) :: lv.filter (fun z => !(z.1 == j) && !(z.1 + 1 == j && z.2.category == 2)) = lv')
    (kk : ∀ ls : Array Slot, lv_has ls nL lv' → W p l e R0 s m args below meth c H locs cells slots Q (F0 m (pc + 1) ls rest)) : W p l e R0 s m args below meth c H locs cells slots Q (F0 m pc ls (rfv ad q x :: rest)) := by
  by_cases hx : x < 0
  · rw [rfv_neg hx] at hl ⊢
    exact lv_astore_nN hC.1 hC.2.1 hdg hj h hn hl kk
  · rw [rfv_nn hx] at hl ⊢
    exact lv_astore_n hC.1 hC.2.1 hdg hj h hn hl kk
theorem gl_astore (hC : CX p s m args c cc own g) {ad : Nat → Nat → Nat} {x : Int32} {j nL : Nat} {lv lv' : List (Nat × Value)} (hdg : decode cc pc = .ok (.astore j, 2)) (h : lv_has ls nL lv) (hn : j < nL) (hl : (j, rfv ad q x) :: lv.filter (fun z => !(z.1 == j) && !(z.1 + 1 == j && z.2.category == 2)) = lv')
    (kk : ∀ ls : Array Slot, lv_has ls nL lv' → W p l e R0 s m args below meth c H locs cells slots Q (F0 m (pc + 2) ls rest)) : W p l e R0 s m args below meth c H locs cells slots Q (F0 m pc ls (rfv ad q x :: rest)) := by
  by_cases hx : x < 0
  · rw [rfv_neg hx] at hl ⊢
    exact lv_astoreN hC.1 hC.2.1 hdg h hn hl kk
  · rw [rfv_nn hx] at hl ⊢
    exact lv_astore hC.1 hC.2.1 hdg h hn hl kk
theorem gl_ifnull (hC : CX p s m args c cc own g) {ad : Nat → Nat → Nat} {x : Int32} {off : Int} {tgt : Nat} (hdg : decode cc pc = .ok (.ifnull off, 3)) (ht : (pc : Int) + off = (tgt : Int)) (kt : x < 0 → W p l e R0 s m args below meth c H locs cells slots Q (F0 m tgt ls rest)) (kf : ¬ x < 0 → W p l e R0 s m args below meth c H locs cells slots Q (F0 m (pc + 3) ls rest)) : W p l e R0 s m args below meth c H locs cells slots Q (F0 m pc ls (rfv ad q x :: rest)) := by
  by_cases h : x < 0
  · rw [rfv_neg h]
    exact lv_ifnullN hC.1 hC.2.1 hdg ht (kt h)
  · rw [rfv_nn h]
    exact lv_ifnull hC.1 hC.2.1 hdg (kf h)
theorem gl_ifnonnull (hC : CX p s m args c cc own g) {ad : Nat → Nat → Nat} {x : Int32} {off : Int} {tgt : Nat} (hdg : decode cc pc = .ok (.ifnonnull off, 3)) (ht : (pc : Int) + off = (tgt : Int)) (kt : ¬ x < 0 → W p l e R0 s m args below meth c H locs cells slots Q (F0 m tgt ls rest)) (kf : x < 0 → W p l e R0 s m args below meth c H locs cells slots Q (F0 m (pc + 3) ls rest)) : W p l e R0 s m args below meth c H locs cells slots Q (F0 m pc ls (rfv ad q x :: rest)) := by
  by_cases h : x < 0
  · rw [rfv_neg h]
    exact lv_ifnonnullN hC.1 hC.2.1 hdg (kf h)
  · rw [rfv_nn h]
    exact lv_ifnonnull hC.1 hC.2.1 hdg ht (kt h)
def rfo (ad : Nat → Nat → Nat) (q : Nat) (x : Int32) : Option Nat := if x < 0 then none else some (ad q x.toNatClampNeg)
theorem rfv_o {ad : Nat → Nat → Nat} {q : Nat} {x : Int32} : rfv ad q x = va_rf (rfo ad q x) := by
  unfold rfv rfo
  split <;> rfl
theorem clamp_inj {x y : Int32} (hx : ¬ x < 0) (hy : ¬ y < 0) (h : x.toNatClampNeg = y.toNatClampNeg) : x = y := by
  obtain ⟨a, ha, rfl⟩ := nI_of hx
  obtain ⟨b, hb, rfl⟩ := nI_of hy
  rw [nI_clamp ha, nI_clamp hb] at h
  rw [h]
theorem okr_or {x : Int32} {n : Nat} (h : okr x n = true) : x = -1 ∨ inb x n = true := by
  unfold okr at h
  simpa using h
theorem rfo_eq {x y : Int32} {n : Nat} (hH : HW g ed C R H) (hq : q ≠ 18) (hn : n = cnt g q) (hx : okr x n = true) (hy : okr y n = true) : rfo (gA g) q x = rfo (gA g) q y ↔ x = y := by
  constructor
  · intro h
    subst hn
    rcases okr_or hx with rfl | hx <;> rcases okr_or hy with rfl | hy
    · rfl
    · rw [rfo, rfo, if_pos (by decide), if_neg (inb_n hy)] at h; cases h
    · rw [rfo, rfo, if_neg (inb_n hx), if_pos (by decide)] at h; cases h
    · rw [rfo, rfo, if_neg (inb_n hx), if_neg (inb_n hy)] at h
      have h1 : adr g ed q x.toNatClampNeg = adr g ed q y.toNatClampNeg := by
        unfold adr
        rw [if_neg hq, if_neg hq]
        exact Option.some.inj h
      exact clamp_inj (inb_n hx) (inb_n hy) (hH.2.1 _ _ _ _ ⟨inb_lt hx, fun e => absurd e hq⟩ ⟨inb_lt hy, fun e => absurd e hq⟩ h1).2
  · rintro rfl; rfl
theorem gl_acmp_eq (hC : CX p s m args c cc own g) (hH : HW g ed C R H) {x y : Int32} {n : Nat} (hq : q ≠ 18) (hn : n = cnt g q) (hx : okr x n = true) (hy : okr y n = true) {off : Int} {tgt : Nat} (hdg : decode cc pc = .ok (.if_acmp .eq off, 3)) (ht : (pc : Int) + off = (tgt : Int)) (kt : x = y → W p l e R0 s m args below meth c H locs cells slots Q (F0 m tgt ls rest)) (kf : ¬ x = y → W p l e R0 s m args below meth c H locs cells slots Q (F0 m (pc + 3) ls rest)) : W p l e R0 s m args below meth c H locs cells slots Q (F0 m pc ls (rfv (gA g) q y :: rfv (gA g) q x :: rest)) := by
  rw [rfv_o, rfv_o]
  exact lv_acmp_eq hC.1 hC.2.1 hdg ht (fun h => kt ((rfo_eq hH hq hn hx hy).mp h)) (fun h => kf fun e => h ((rfo_eq hH hq hn hx hy).mpr e))
theorem gl_acmp_ne (hC : CX p s m args c cc own g) (hH : HW g ed C R H) {x y : Int32} {n : Nat} (hq : q ≠ 18) (hn : n = cnt g q) (hx : okr x n = true) (hy : okr y n = true) {off : Int} {tgt : Nat} (hdg : decode cc pc = .ok (.if_acmp .ne off, 3)) (ht : (pc : Int) + off = (tgt : Int)) (kt : ¬ x = y → W p l e R0 s m args below meth c H locs cells slots Q (F0 m tgt ls rest)) (kf : x = y → W p l e R0 s m args below meth c H locs cells slots Q (F0 m (pc + 3) ls rest)) : W p l e R0 s m args below meth c H locs cells slots Q (F0 m pc ls (rfv (gA g) q y :: rfv (gA g) q x :: rest)) := by
  rw [rfv_o, rfv_o]
  exact lv_acmp_ne hC.1 hC.2.1 hdg ht (fun h => kt fun e => h ((rfo_eq hH hq hn hx hy).mpr e)) (fun h => kf ((rfo_eq hH hq hn hx hy).mp h))
/-- a receiver's class -/
theorem hw_recv (hC : CX p s m args c cc own g) (hH : HW g ed C R H) (hd : dm g C q i) {ci : Nat} {fs : List Value} (him : imgF g ed q i (sel C R q q i) = .inr (ci, fs)) {r : vw_C} (hc : vwCl[ci]? = some r) : ∃ cell : Cell, H[adr g ed q i]? = some cell ∧ cell.vm.isStatics = false ∧ s.vm.findClass r.1 = some cell.cls :=
  va_recv hC.2.2.2.2.1 (hw_one hH hd him) hc (q0 := 0) rfl
variable {y : MethodName} {bytes : ByteArray} {maxL nL mc ms n index : Nat} {ret : Option FieldType} {rm : Room} {Cn : String} {b : Nat} {As st : List Value} {vo : Option Value} {C2 R2 : St}
theorem g_ws (hcode : Cond.code y bytes maxL ret ∈ lwG) : GoodIn lwG (Cond.code y bytes maxL ret :: lwG) := lwG_In (fun _ h => h) (fun w h => by
  rcases List.mem_cons.mp h with rfl | h
  · exact hcode
  · exact h)
theorem g_after (hr : va_Run p l e R0 s m args below meth c H locs cells slots mc ms (F0 m pc ls st) rest (QG vo g C2 R2 (As.toArray)) (gP g)) (hS : va_S (gP g) s.heap H locs)
    (kk : ∀ (ed2 : Nat → Nat) (H1 : Heap) (locs1 : List Loc), HW g ed2 C2 R2 H1 → va_S (gP g) s.heap H1 locs1 → W p l e R0 s m args below meth c H1 locs1 (cells + mc) (slots + ms) Q (F0 m (pc + 3) ls (vo.toList ++ rest))) : W p l e R0 s m args below meth c H locs cells slots Q (F0 m pc ls st) := by
  intro T hT X
  obtain ⟨v, st₀, t, T', L, h0, X', hL, e1, e2, ⟨⟨hv, ed2, hw⟩, hz, hk⟩, stp⟩ := hr T hT X
  cases hv
  rw [h0] at hz hk
  obtain ⟨t2, a1, b1⟩ := kk ed2 T'.heap (locs ++ L) (by rw [e1]; exact hw)
    ⟨Nat.le_trans hS.1 (by rw [e1]; exact hz), fun q h1 h2 => by rw [e1, hk q (Nat.lt_of_lt_of_le h1 hS.1) h2]; exact hS.2.1 q h1 h2, fun q hq => by
      rcases List.mem_append.mp hq with h | h
      · exact hS.2.2 q h
      · exact hL q h⟩ T' rfl X'
  exact ⟨t2, stp t2 a1, b1⟩
theorem g_pre (hC : CX p s m args c cc own g) (hE : EZ g s s.heap) (hH : HW g ed C R H) (hS : va_S (gP g) s.heap H locs) {av : List Value} (U : State) (hU : U.heap = H) (hW : s.WarmedH U.vm) : va_Pc av (PW g C R ed) av.toArray U :=
  ⟨rfl, by rw [hU]; exact hH, va_K.moved hW.alike hC.2.2.2.2.1, fun q h => hC.2.2.2.2.2.1 q (Nat.le_trans hS.1 (by rw [hU] at h; exact h)), by rw [hU]; exact (hE.kept hS).moved hW.alike, hC.2.2.2.2.2.2.warm hW⟩
/-- an instance method of the system's own -/
theorem gcallV (hC : CX p s m args c cc own g) (hE : EZ g s s.heap) (hml : c.maxLocals = nL) (hH : HW g ed C R H) (hS : va_S (gP g) s.heap H locs)
    (hM : Met l y (Cond.code y bytes maxL ret :: lwG) rm (va_Pc (v0 :: As) (PW g C R ed)) (QG vo g C2 R2) mc ms (gP g)) (hw : Cond.methodLink own index y ∈ lwG ∧ Cond.instanceMethod y ∈ lwG ∧ Cond.selects Cn y y ∈ lwG ∧ Cond.initialized y.cls ∈ lwG ∧ Cond.code y bytes maxL ret ∈ lwG)
    (hd : y.cls ≠ "java/lang/invoke/MethodHandle" ∧ y.cls ≠ "java/lang/invoke/VarHandle" ∧ (parseMethodDescriptor y.desc).map (fun d => d.parameters.length) = some n) (hrc : rm.cells = mc) (hrs : rm.slots = ms) (hR : rm.frames + 1 ≤ R0.frames ∧ 8 + (maxL + 11) + rm.locals ≤ R0.locals)
    (hv0 : v0 = .ref b) (hrecv : ∃ cell : Cell, H[b]? = some cell ∧ cell.vm.isStatics = false ∧ s.vm.findClass Cn = some cell.cls) (hn : As.length = n) (hsize : ls.size = nL) (hst : st = As.reverse ++ v0 :: rest) (hW : (rest.map fun v => v.category).sum ≤ 8) (hdg : decode cc pc = .ok (.invokevirtual index, 3)) (hf : cells + mc ≤ R0.cells ∧ slots + ms ≤ R0.slots)
    (kk : ∀ (ed2 : Nat → Nat) (H1 : Heap) (locs1 : List Loc), HW g ed2 C2 R2 H1 → va_S (gP g) s.heap H1 locs1 → W p l e R0 s m args below meth c H1 locs1 (cells + mc) (slots + ms) Q (F0 m (pc + 3) ls (vo.toList ++ rest))) : W p l e R0 s m args below meth c H locs cells slots Q (F0 m pc ls st) := by
  have hC0 := hC
  obtain ⟨hx, hb, hown, hts, hK, hA⟩ := hC
  subst hv0
  refine g_after (As := .ref b :: As) (va_runV (Ts := lwG) (own := own) (rest := rest) ⟨hx, hb, hml, hown, hts⟩ hM ⟨callB_of n hts (g_ws hw.2.2.2.2) rfl hrc hrs (hts _ hw.2.2.2.1) (hts _ hw.1) hd hR, hts _ hw.2.1, hts _ hw.2.2.1⟩ ⟨PW_blind, hrecv, fun U hU hW => g_pre hC0 hE hH hS U hU hW⟩ rfl hn hsize hst (lv_room hW) hdg hf) hS kk
/-- the same across the nest -/
theorem gcallVN (hC : CX p s m args c cc own g) (hE : EZ g s s.heap) (hml : c.maxLocals = nL) (hH : HW g ed C R H) (hS : va_S (gP g) s.heap H locs) {host : String}
    (hM : Met l y (Cond.code y bytes maxL ret :: lwG) rm (va_Pc (v0 :: As) (PW g C R ed)) (QG vo g C2 R2) mc ms (gP g)) (hw : Cond.methodLinkNest own index y host ∈ lwN ∧ Cond.instanceMethod y ∈ lwG ∧ Cond.selects Cn y y ∈ lwG ∧ Cond.initialized y.cls ∈ lwG ∧ Cond.code y bytes maxL ret ∈ lwG)
    (hd : y.cls ≠ "java/lang/invoke/MethodHandle" ∧ y.cls ≠ "java/lang/invoke/VarHandle" ∧ (parseMethodDescriptor y.desc).map (fun d => d.parameters.length) = some n) (hrc : rm.cells = mc) (hrs : rm.slots = ms) (hR : rm.frames + 1 ≤ R0.frames ∧ 8 + (maxL + 11) + rm.locals ≤ R0.locals)
    (hv0 : v0 = .ref b) (hrecv : ∃ cell : Cell, H[b]? = some cell ∧ cell.vm.isStatics = false ∧ s.vm.findClass Cn = some cell.cls) (hn : As.length = n) (hsize : ls.size = nL) (hst : st = As.reverse ++ v0 :: rest) (hW : (rest.map fun v => v.category).sum ≤ 8) (hdg : decode cc pc = .ok (.invokevirtual index, 3)) (hf : cells + mc ≤ R0.cells ∧ slots + ms ≤ R0.slots)
    (kk : ∀ (ed2 : Nat → Nat) (H1 : Heap) (locs1 : List Loc), HW g ed2 C2 R2 H1 → va_S (gP g) s.heap H1 locs1 → W p l e R0 s m args below meth c H1 locs1 (cells + mc) (slots + ms) Q (F0 m (pc + 3) ls (vo.toList ++ rest))) : W p l e R0 s m args below meth c H locs cells slots Q (F0 m pc ls st) := by
  have hC0 := hC
  obtain ⟨hx, hb, hown, hts, hK, hA⟩ := hC
  subst hv0
  refine g_after (As := .ref b :: As) (va_runVN (Ts := lwG) (own := own) (rest := rest) ⟨hx, hb, hml, hown, hts⟩ hM ⟨va_cnB n hts (g_ws hw.2.2.2.2) rfl hrc hrs (hC0.2.2.2.2.2.2 _ hw.1) (hts _ hw.2.2.2.1) hd hR, hts _ hw.2.1, hts _ hw.2.2.1⟩ ⟨PW_blind, hrecv, fun U hU hW => g_pre hC0 hE hH hS U hU hW⟩ rfl hn hsize hst (lv_room hW) hdg hf) hS kk
theorem gcallS (hC : CX p s m args c cc own g) (hE : EZ g s s.heap) (hml : c.maxLocals = nL) (hH : HW g ed C R H) (hS : va_S (gP g) s.heap H locs)
    (hM : Met l y (Cond.code y bytes maxL ret :: lwG) rm (va_Pc As (PW g C R ed)) (QG vo g C2 R2) mc ms (gP g)) (hw : Cond.methodLink own index y ∈ lwG ∧ Cond.static y ∈ lwG ∧ Cond.initialized y.cls ∈ lwG ∧ Cond.code y bytes maxL ret ∈ lwG)
    (hd : y.cls ≠ "java/lang/invoke/MethodHandle" ∧ y.cls ≠ "java/lang/invoke/VarHandle" ∧ (parseMethodDescriptor y.desc).map (fun d => d.parameters.length) = some n) (hrc : rm.cells = mc) (hrs : rm.slots = ms) (hR : rm.frames + 1 ≤ R0.frames ∧ 8 + (maxL + 11) + rm.locals ≤ R0.locals)
    (hn : As.length = n) (hsize : ls.size = nL) (hst : st = As.reverse ++ rest) (hW : (rest.map fun v => v.category).sum ≤ 8) (hdg : decode cc pc = .ok (.invokestatic index, 3)) (hf : cells + mc ≤ R0.cells ∧ slots + ms ≤ R0.slots)
    (kk : ∀ (ed2 : Nat → Nat) (H1 : Heap) (locs1 : List Loc), HW g ed2 C2 R2 H1 → va_S (gP g) s.heap H1 locs1 → W p l e R0 s m args below meth c H1 locs1 (cells + mc) (slots + ms) Q (F0 m (pc + 3) ls (vo.toList ++ rest))) : W p l e R0 s m args below meth c H locs cells slots Q (F0 m pc ls st) := by
  have hC0 := hC
  obtain ⟨hx, hb, hown, hts, hK, hA⟩ := hC
  refine g_after (As := As) (va_runS (Ts := lwG) (own := own) (rest := rest) ⟨hx, hb, hml, hown, hts⟩ hM ⟨callB_of n hts (g_ws hw.2.2.2) rfl hrc hrs (hts _ hw.2.2.1) (hts _ hw.1) hd hR, hts _ hw.2.1⟩ ⟨PW_blind, fun U hU hW => g_pre hC0 hE hH hS U hU hW⟩ rfl hn hsize hst (lv_room hW) hdg hf) hS kk
theorem gcallSN (hC : CX p s m args c cc own g) (hE : EZ g s s.heap) (hml : c.maxLocals = nL) (hH : HW g ed C R H) (hS : va_S (gP g) s.heap H locs) {host : String}
    (hM : Met l y (Cond.code y bytes maxL ret :: lwG) rm (va_Pc As (PW g C R ed)) (QG vo g C2 R2) mc ms (gP g)) (hw : Cond.methodLinkNest own index y host ∈ lwN ∧ Cond.static y ∈ lwG ∧ Cond.initialized y.cls ∈ lwG ∧ Cond.code y bytes maxL ret ∈ lwG)
    (hd : y.cls ≠ "java/lang/invoke/MethodHandle" ∧ y.cls ≠ "java/lang/invoke/VarHandle" ∧ (parseMethodDescriptor y.desc).map (fun d => d.parameters.length) = some n) (hrc : rm.cells = mc) (hrs : rm.slots = ms) (hR : rm.frames + 1 ≤ R0.frames ∧ 8 + (maxL + 11) + rm.locals ≤ R0.locals)
    (hn : As.length = n) (hsize : ls.size = nL) (hst : st = As.reverse ++ rest) (hW : (rest.map fun v => v.category).sum ≤ 8) (hdg : decode cc pc = .ok (.invokestatic index, 3)) (hf : cells + mc ≤ R0.cells ∧ slots + ms ≤ R0.slots)
    (kk : ∀ (ed2 : Nat → Nat) (H1 : Heap) (locs1 : List Loc), HW g ed2 C2 R2 H1 → va_S (gP g) s.heap H1 locs1 → W p l e R0 s m args below meth c H1 locs1 (cells + mc) (slots + ms) Q (F0 m (pc + 3) ls (vo.toList ++ rest))) : W p l e R0 s m args below meth c H locs cells slots Q (F0 m pc ls st) := by
  have hC0 := hC
  obtain ⟨hx, hb, hown, hts, hK, hA⟩ := hC
  refine g_after (As := As) (va_runSN (Ts := lwG) (own := own) (rest := rest) ⟨hx, hb, hml, hown, hts⟩ hM ⟨va_cnB n hts (g_ws hw.2.2.2) rfl hrc hrs (hC0.2.2.2.2.2.2 _ hw.1) (hts _ hw.2.2.1) hd hR, hts _ hw.2.1, trivial⟩ ⟨PW_blind, fun U hU hW => g_pre hC0 hE hH hS U hU hW⟩ rfl hn hsize hst (lv_room hW) hdg hf) hS kk
/-- the ends -/
theorem gret_v (hC : CX p s m args c cc own g) (hr : meth.sig.returnType = none) (hlk : meth.locks = false) (hH : HW g ed C R H) (hS : va_S (gP g) s.heap H locs) (h1 : cells ≤ mc) (h2 : slots ≤ ms) (hdg : decode cc pc = .ok (.return_, 1)) : W p l e R0 s m args below meth c H locs cells slots (MQ below (QG none g C R) args s mc ms (gP g)) (F0 m pc ls []) :=
  W.widen h1 h2 (W.vret hC.1 hC.2.1 hr (fun t ht _ => ⟨⟨rfl, ed, by rw [ht]; exact hH⟩, hS.F ht⟩) hS.2.2 hdg (hlocks := hlk))
theorem gret_i {x : Int32} (hC : CX p s m args c cc own g) (hr : meth.sig.returnType = some .int) (hlk : meth.locks = false) (hH : HW g ed C R H) (hS : va_S (gP g) s.heap H locs) (h1 : cells ≤ mc) (h2 : slots ≤ ms) (hdg : decode cc pc = .ok (.ireturn, 1)) : W p l e R0 s m args below meth c H locs cells slots (MQ below (QG (some (.int x)) g C R) args s mc ms (gP g)) (F0 m pc ls [.int x]) :=
  W.widen h1 h2 (W.iret hC.1 hC.2.1 hr (fun t ht _ => ⟨⟨rfl, ed, by rw [ht]; exact hH⟩, hS.F ht⟩) hS.2.2 hdg (hlocks := hlk))
theorem gret_z {x : Int32} (hC : CX p s m args c cc own g) (hr : meth.sig.returnType = some .boolean) (hlk : meth.locks = false) (hx : isb x = true) (hH : HW g ed C R H) (hS : va_S (gP g) s.heap H locs) (h1 : cells ≤ mc) (h2 : slots ≤ ms) (hdg : decode cc pc = .ok (.ireturn, 1)) : W p l e R0 s m args below meth c H locs cells slots (MQ below (QG (some (.int x)) g C R) args s mc ms (gP g)) (F0 m pc ls [.int x]) :=
  W.widen h1 h2 (W.zret hC.1 hC.2.1 hr (isb_nar hx) (fun t ht _ => ⟨⟨rfl, ed, by rw [ht]; exact hH⟩, hS.F ht⟩) hS.2.2 hdg (hlocks := hlk))
theorem gret_a {x : Int32} {q2 : Nat} {rt : String} (hC : CX p s m args c cc own g) (hr : meth.sig.returnType = some (.object rt)) (hlk : meth.locks = false) (hH : HW g ed C R H) (hS : va_S (gP g) s.heap H locs) (h1 : cells ≤ mc) (h2 : slots ≤ ms) (hdg : decode cc pc = .ok (.areturn, 1)) : W p l e R0 s m args below meth c H locs cells slots (MQ below (QG (some (rfv (gA g) q2 x)) g C R) args s mc ms (gP g)) (F0 m pc ls [rfv (gA g) q2 x]) :=
  W.widen h1 h2 (W.aret hC.1 hC.2.1 hr (Or.inl ⟨_, rfl⟩) (by unfold rfv; split <;> first | exact Or.inl rfl | exact Or.inr ⟨_, rfl⟩) (fun t ht _ => ⟨⟨rfl, ed, by rw [ht]; exact hH⟩, hS.F ht⟩) hS.2.2 hdg (hlocks := hlk))
/-- a method's start: what its walk begins with -/
theorem g_start {s₁ : State} {avs : List Value} (B : BodyLoose p l y (headSpec (Cond.code y bytes maxL ret :: lwG) rm) bytes maxL ret e s m args below meth c s₁) (hv : va_Pc avs (PW g C R ed) args s) : args = avs.toArray ∧ CX p s m args c bytes y.cls g ∧ EZ g s s.heap ∧ meth.sig.returnType = ret ∧ meth.locks = false ∧ HW g ed C R s.heap := by
  have hts := atoms_spec (ws := Cond.code y bytes maxL ret :: lwG) B.pre
  exact ⟨hv.1, ⟨B.exec, B.bytes, findClass_of_methodNamed B.named, fun w h => hts w (List.mem_cons_of_mem _ h), hv.2.2.1, hv.2.2.2.1, hv.2.2.2.2.2⟩, hv.2.2.2.2.1, B.returns, B.notSynchronized, hv.2.1⟩
end HWA
/-! names for states and values inside the functions -/
def st {α : Type} (C : St) (k : St → Option α) : Option α := k C
theorem st_some {α : Type} {C : St} {k : St → Option α} {y : α} (h : st C k = some y) : ∃ C1, C1 = C ∧ k C1 = some y := ⟨C, rfl, h⟩
def bd2 {α : Type} (o : Option (Int32 × St)) (k : Int32 → St → Option α) : Option α := o.bind fun q => k q.1 q.2
theorem bd2_some {α : Type} {o : Option (Int32 × St)} {k : Int32 → St → Option α} {y : α} (h : bd2 o k = some y) : ∃ r C1, o = some (r, C1) ∧ k r C1 = some y := by
  obtain ⟨q, h1, h2⟩ := bd_some h
  exact ⟨q.1, q.2, h1, h2⟩
theorem nar_obj (n : String) (v : Value) : narrow (.object n) v = v := by cases v <;> rfl
theorem fit_rfv {ad : Nat → Nat → Nat} {q : Nat} {x : Int32} (n : String) : fits (.object n) (rfv ad q x) = true := by
  unfold rfv; split <;> rfl
theorem toInt_ne {x k : Int32} (h : ¬ x = k) : ¬ x.toInt = k.toInt := fun e => h (Int32.toInt_inj.mp e)
section GLC
variable {p : Program} {l : Launch} {e : Env} {R0 : Room} {s : State} {m : MethodId} {args : Array Value} {below : List Frame} {meth : Method} {c : Code} {H : Heap} {locs : List Loc} {cells slots : Nat} {Q : State → Prop}
variable {cc : ByteArray} {pc : Nat} {ls : Array Slot} {rest : List Value} {g : GP} {ed : Nat → Nat} {C R : St} {own : String} {v0 : Value} {q i : Nat}
/-- a value that a list gave is a job, or null -/
theorem gl_castJ (hC : CX p s m args c cc own g) (hH : HW g ed C R H) {x : Int32} (hx : okr x 6 = true) {index : Nat} (hlink : Cond.classLink own index "DrumLayers$Job" ∈ lwG) (hdg : decode cc pc = .ok (.checkcast index, 3))
    (kk : W p l e R0 s m args below meth c H locs cells slots Q (F0 m (pc + 3) ls (rfv (gA g) 6 x :: rest))) : W p l e R0 s m args below meth c H locs cells slots Q (F0 m pc ls (rfv (gA g) 6 x :: rest)) := by
  rcases okr_or hx with rfl | hx
  · rw [rfv_m1] at kk ⊢
    exact lv_castN hC.1 hC.2.1 hdg kk
  · rw [rfv_in hx] at kk ⊢
    exact va_castS hC.1 hC.2.1 hC.2.2.1 (hC.2.2.2.1 _ hlink) ((hC.2.2.2.2.1.1 6 _ rfl).2) (hw_recv (q := 6) (i := x.toNatClampNeg) hC hH ⟨inb_lt hx, fun h => absurd h (by decide)⟩ rfl rfl) hdg kk
end GLC
theorem g_args {vs : List Value} (hc : ∀ v ∈ vs, v.category = 1) : ∀ k, lv_args k vs = (vs.zipIdx k).map (fun q => (q.2, q.1)) := by
  induction vs with
  | nil => intro k; rfl
  | cons v t ih =>
    intro k
    have h1 : ¬ v.category = 2 := by rw [hc v List.mem_cons_self]; decide
    rw [lv_args, if_neg h1, ih (fun w h => hc w (List.mem_cons_of_mem _ h))]
    rfl
theorem g_sl {vs : List Value} (hc : ∀ v ∈ vs, v.category = 1) : lg_sl vs = vs.map .val := by
  induction vs with
  | nil => rfl
  | cons v t ih =>
    have h1 : ¬ v.category = 2 := by rw [hc v List.mem_cons_self]; decide
    have h2 := ih (fun w h => hc w (List.mem_cons_of_mem _ h))
    unfold lg_sl at h2 ⊢
    rw [List.flatMap_cons, if_neg h1, h2]
    rfl
theorem g_entry (m : MethodId) {vs : List Value} {n : Nat} (hc : ∀ v ∈ vs, v.category = 1) (hn : vs.length ≤ n) : ∃ ls, entryFrame m vs.toArray n = F0 m 0 ls [] ∧ lv_has ls n (vs.zipIdx.map (fun q => (q.2, q.1))) := by
  refine ⟨_, lg_entry_eq m vs n, ?_⟩
  have h := lv_entry vs (n := n) (by rw [g_sl hc, List.length_map]; exact hn)
  rw [g_args hc] at h
  exact h
theorem okr_in {x : Int32} {n : Nat} (h : inb x n = true) : okr x n = true := by
  unfold okr
  rw [h, Bool.or_true]
theorem lt8 {x : Int32} (h : inb x 6 = true) : x.toNatClampNeg + 2 < 8 := by
  have := inb_lt h
  omega
/-- a contract out of a walk, also in a class some of whose other methods the machine has entries for -/
theorem g_ofW {l : Launch} {y : MethodName} {ws ws' : List Cond} {rm : Room} {Pc : Array Value → State → Prop} {Qc : Array Value → State → Outcome → State → Prop} {mc ms : Nat} {free : Addr → Prop} {cc : ByteArray} {maxL : Nat} {ret : Option FieldType}
    (hy : plainFor y = true) (hw : ws = Cond.code y cc maxL ret :: ws')
    (body : ∀ p e s m args below meth c s₁, BodyLoose p l y (headSpec ws rm) cc maxL ret e s m args below meth c s₁ → c.maxLocals = maxL → Pc args s →
      W p l e (headSpec ws rm).room s m args below meth c s.heap [] 0 0 (MQ below Qc args s mc ms free) (entryFrame m args maxL)) : Met l y ws rm Pc Qc mc ms free := by
  refine MetFree.of_bodySF (code := cc) (maxLocals := maxL) (ret := ret) hy ?_ ?_
  · intro args s m h hn
    obtain ⟨meth, c, h1, h2, h3, h4, h5, h6, -, -⟩ := Cond.code_spec hn (atoms_spec (ws := ws) h _ (by rw [hw]; exact List.mem_cons_self))
    exact ⟨meth, c, h1, h2, h3, h4, h5, h6⟩
  · intro p e s m args below meth c s₁ B hml hP _
    have hh0 : s₁.heap = s.heap := by rw [B.state]; rfl
    obtain ⟨t, a1, o, b1, b2, b3⟩ := body p e s m args below meth c s₁ B hml hP s₁ hh0 (Stand.of_body B)
    exact ⟨t, o, a1, b1, b2, ⟨b3.1, b3.2⟩⟩
