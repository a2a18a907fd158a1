/-! ROWS OVER THE WORLD -/
def lwG : List Cond := lw_tbl.filter goodWord
theorem lwG_of {w : Cond} (h1 : w ∈ lw_tbl) (h2 : goodWord w = true) : w ∈ lwG := List.mem_filter.mpr ⟨h1, h2⟩
theorem lwG_good {w : Cond} (h : w ∈ lwG) : goodWord w = true := (List.mem_filter.mp h).2
theorem lwG_In {big ws : List Cond} (hb : ∀ w ∈ lwG, w ∈ big) (h : ∀ w ∈ ws, w ∈ lwG) : GoodIn big ws := fun w hw => ⟨hb w (h w hw), good_of_word (lwG_good (h w hw))⟩
/-- words that a call's own road carries, not its tables: links across the nest, casts -/
def nestW : Cond → Bool
  | .fieldLinkNest _ _ _ _ _ _ => true
  | .methodLinkNest _ _ _ _ => true
  | .castable _ _ => true
  | .arrayOver _ => true
  | _ => false
def lwN : List Cond := lw_tbl.filter nestW
theorem lwN_of {w : Cond} (h1 : w ∈ lw_tbl) (h2 : nestW w = true) : w ∈ lwN := List.mem_filter.mpr ⟨h1, h2⟩
theorem ao_vm (ty : FieldType) (s U : State) : (Cond.arrayOver ty).before #[] U = (Cond.arrayOver ty).before #[] (s.setVm U.vm) := rfl
def KN (U : State) : Prop := ∀ w ∈ lwN, va_Nw w U
theorem KN.warm {s U : State} (hW : s.WarmedH U.vm) (h : KN s) : KN U := by
  intro w hw
  have h1 := h w hw
  have h2 := (List.mem_filter.mp hw).2
  cases w <;> first | (cases h2; done) | exact va_Nw.warmF hW h1 | exact va_Nw.warmM hW h1 | exact va_Nw.warmC hW h1 | exact (ao_vm _ s U).trans ((Cond.arrayOver_setVmC hW.alike _).trans h1)
theorem KN.same {s U : State} (hv : s.vm = U.vm) (h : KN s) : KN U := by
  intro w hw
  have h1 := h w hw
  have h2 := (List.mem_filter.mp hw).2
  cases w <;> first | (cases h2; done) | exact va_Nw.same rfl hv h1 | exact (ao_vm _ s U).trans (by rw [← hv, State.setVm_self]; exact h1)
theorem inb_in {x : Int32} {n : Nat} (h : inb x n = true) : vp_in x n := by
  unfold inb at h
  simp only [Bool.and_eq_true, Bool.not_eq_true', decide_eq_false_iff_not, decide_eq_true_eq] at h
  exact fun q => q.elim h.1 (fun q => absurd h.2 (Nat.not_lt.mpr q))
theorem inb_n {x : Int32} {n : Nat} (h : inb x n = true) : ¬ x < 0 := by
  unfold inb at h
  simp only [Bool.and_eq_true, Bool.not_eq_true', decide_eq_false_iff_not, decide_eq_true_eq] at h
  exact h.1
theorem inb_lt {x : Int32} {n : Nat} (h : inb x n = true) : x.toNatClampNeg < n := by
  unfold inb at h
  simp only [Bool.and_eq_true, Bool.not_eq_true', decide_eq_false_iff_not, decide_eq_true_eq] at h
  exact h.2
theorem rfv_in {ad : Nat → Nat → Nat} {q : Nat} {x : Int32} {n : Nat} (h : inb x n = true) : rfv ad q x = .ref (ad q x.toNatClampNeg) := if_neg (inb_n h)
theorem rfv_nn {ad : Nat → Nat → Nat} {q : Nat} {x : Int32} (h : ¬ x < 0) : rfv ad q x = .ref (ad q x.toNatClampNeg) := if_neg h
theorem rfv_neg {ad : Nat → Nat → Nat} {q : Nat} {x : Int32} (h : x < 0) : rfv ad q x = .null := if_pos h
theorem rfv_m1 {ad : Nat → Nat → Nat} {q : Nat} : rfv ad q (-1) = .null := if_pos (by decide)
theorem rfv_cat {ad : Nat → Nat → Nat} {q : Nat} {x : Int32} : (rfv ad q x).category = 1 := by
  unfold rfv; split <;> rfl
/-- guards: a value comes only where the guard holds -/
def gd {α : Type} (b : Bool) (k : Option α) : Option α := if b = true then k else none
theorem gd_some {α : Type} {b : Bool} {k : Option α} {y : α} (h : gd b k = some y) : b = true ∧ k = some y := by
  unfold gd at h
  split at h
  · exact ⟨by assumption, h⟩
  · cases h
theorem bd_some {α β : Type} {o : Option α} {f : α → Option β} {y : β} (h : o.bind f = some y) : ∃ a, o = some a ∧ f a = some y := by
  cases o with
  | none => cases h
  | some a => exact ⟨a, rfl, h⟩
def isb (v : Int32) : Bool := decide (v = 0) || decide (v = 1)
theorem isb_or {v : Int32} (h : isb v = true) : v = 0 ∨ v = 1 := by
  unfold isb at h
  simpa using h
theorem isb_nar {v : Int32} (h : isb v = true) : narrow .boolean (.int v) = .int v := by
  rcases isb_or h with rfl | rfl <;> decide +kernel
theorem isb_fit {v : Int32} (h : isb v = true) : fits .boolean (.int v) = true := by
  rcases isb_or h with rfl | rfl <;> decide +kernel
/-- a reference to one of n, or null -/
def okr (x : Int32) (n : Nat) : Bool := decide (x = -1) || inb x n
theorem up2_s (o : Nat → Nat → Int32) (k j : Nat) (v : Int32) : up2 o k j v k j = v := by simp [up2]
theorem up_s (C : St) (q i k j : Nat) (v : Int32) : up C q i k j v q i = up2 (C q i) k j v := if_pos ⟨rfl, rfl⟩
theorem up_ne (C : St) {q i a b : Nat} (k j : Nat) (v : Int32) (h : ¬ (a = q ∧ b = i)) : up C q i k j v a b = C a b := if_neg h
theorem up2_arr (o : Nat → Nat → Int32) (j : Nat) (v : Int32) : up2 o 0 j v 0 = upd (o 0) j v := by
  funext b
  simp [up2, upd]
theorem dm_up {g : GP} {C : St} {q i k j : Nat} {v : Int32} (h : ¬ (q = 17 ∧ k = 3)) (a b : Nat) : dm g (up C q i k j v) a b ↔ dm g C a b := by
  have e : up C q i k j v 17 b 3 0 = C 17 b 3 0 := by
    by_cases hc : 17 = q ∧ b = i
    · obtain ⟨rfl, rfl⟩ := hc
      rw [up_s]
      have h3 : ¬ 3 = k := fun e => h ⟨rfl, e.symm⟩
      simp [up2, h3]
    · rw [up_ne _ _ _ _ hc]
  unfold dm
  rw [e]
theorem HW.at {g : GP} {ed : Nat → Nat} {C R : St} {H : Heap} (h : HW g ed C R H) {q i : Nat} (hd : dm g C q i) : va_at (gD g) vwCl (adr g ed q i, imgF g ed q i (sel C R q q i)) H := h.1 q i hd
/-- a write into one cell of the class's side -/
theorem HW.putC {g : GP} {ed : Nat → Nat} {C R : St} {H H1 : Heap} {q i k j : Nat} {v : Int32} (hH : HW g ed C R H) (hq : q < 50) (h17 : ¬ (q = 17 ∧ k = 3)) (hd : dm g C q i)
    (hat : va_at (gD g) vwCl (adr g ed q i, imgF g ed q i (up2 (C q i) k j v)) H1) (oq : ∀ a : Nat, a ≠ adr g ed q i → H1[a]? = H[a]?) : HW g ed (up C q i k j v) R H1 := by
  obtain ⟨h1, h2, h3⟩ := hH
  refine ⟨fun a b hab => ?_, fun a b a2 b2 x y => h2 a b a2 b2 ((dm_up h17 a b).mp x) ((dm_up h17 a2 b2).mp y), fun a b x => h3 a b ((dm_up h17 a b).mp x)⟩
  have hab' := (dm_up h17 a b).mp hab
  by_cases hc : a = q ∧ b = i
  · obtain ⟨rfl, rfl⟩ := hc
    have e : sel (up C a b k j v) R a a b = up2 (C a b) k j v := by unfold sel; rw [if_pos hq, up_s]
    rw [e]
    exact hat
  · have e : sel (up C q i k j v) R a a b = sel C R a a b := by
      unfold sel
      split
      · exact up_ne _ _ _ _ hc
      · rfl
    rw [e]
    refine (h1 a b hab').kept (oq _ fun e => hc ?_)
    exact h2 a b q i hab' hd e
/-- and of the reference's -/
theorem HW.putR {g : GP} {ed : Nat → Nat} {C R : St} {H H1 : Heap} {q i k j : Nat} {v : Int32} (hH : HW g ed C R H) (hq : ¬ q < 50) (hd : dm g C q i)
    (hat : va_at (gD g) vwCl (adr g ed q i, imgF g ed q i (up2 (R q i) k j v)) H1) (oq : ∀ a : Nat, a ≠ adr g ed q i → H1[a]? = H[a]?) : HW g ed C (up R q i k j v) H1 := by
  obtain ⟨h1, h2, h3⟩ := hH
  refine ⟨fun a b hab => ?_, h2, h3⟩
  by_cases hc : a = q ∧ b = i
  · obtain ⟨rfl, rfl⟩ := hc
    have e : sel C (up R a b k j v) a a b = up2 (R a b) k j v := by unfold sel; rw [if_neg hq, up_s]
    rw [e]
    exact hat
  · have e : sel C (up R q i k j v) a a b = sel C R a a b := by
      unfold sel
      split
      · rfl
      · exact up_ne _ _ _ _ hc
    rw [e]
    exact (h1 a b hab).kept (oq _ fun e => hc (h2 a b q i hab hd e))
/-- what stays through a method's walk -/
def CX (p : Program) (s : State) (m : MethodId) (args : Array Value) (c : Code) (cc : ByteArray) (own : String) (g : GP) : Prop := p.tables.exec = Jvm.exec ∧ c.code = cc ∧ s.vm.findClass own = some m.cls ∧ (∀ w ∈ lwG, w.before args s = true) ∧ KK g s ∧ (∀ q, s.heap.size ≤ q → gP g q) ∧ KN s
section HWR
variable {p : Program} {l : Launch} {e : Env} {R0 : Room} {s : State} {m : MethodId} {args : Array Value} {below : List Frame} {meth : Method} {c : Code} {H : Heap} {locs : List Loc} {cells slots : Nat} {Q : State → Prop}
variable {cc : ByteArray} {pc : Nat} {ls : Array Slot} {rest : List Value} {g : GP} {ed : Nat → Nat} {C R : St} {own : String} {v0 : Value} {q i : Nat}
theorem hw_get (hC : CX p s m args c cc own g) (hH : HW g ed C R H) {ref Cn : String} {T : u_T} {N ci index : Nat} (hin : ∀ w ∈ u_ws Cn T N, w ∈ lwG) (hd : dm g C q i) {fs : List Value} (him : imgF g ed q i (sel C R q q i) = .inr (ci, fs)) (hc : vwCl[ci]? = some (Cn, T, N)) (k : Nat) (hk : k < N) (hlink : Cond.fieldLink own index ref (T k).2.1 (T k).2.2.1 ∈ lwG) (href : ref = (T k).1) {v : Value} (hv : fs[k]? = some v) (hv0 : v0 = .ref (adr g ed q i)) (hdg : decode cc pc = .ok (.getfield index, 3))
    (kk : W p l e R0 s m args below meth c H locs cells slots Q (F0 m (pc + 3) ls (v :: rest))) : W p l e R0 s m args below meth c H locs cells slots Q (F0 m pc ls (v0 :: rest)) := by
  obtain ⟨hx, hb, hown, hts, hK, -⟩ := hC
  subst hv0
  have h1 := hH.at hd
  rw [him] at h1
  exact va_get (ws := [(adr g ed q i, .inr (ci, fs))]) hx hb hts hin hown hK (fun k2 q2 h => by cases k2 with | zero => cases h; exact h1 | succ n => cases h) 0 rfl hc k hk (hts _ hlink) (fun x h => by rw [href]; exact h) hv hdg kk
theorem hw_getS (hC : CX p s m args c cc own g) (hH : HW g ed C R H) {ref Cn : String} {T : u_T} {N ci index : Nat} (hin : ∀ w ∈ u_ws Cn T N, w ∈ lwG) (hd : dm g C q i) {fs : List Value} (him : imgF g ed q i (sel C R q q i) = .inr (ci, fs)) (hc : vwCl[ci]? = some (Cn, T, N)) (k : Nat) (hk : k < N) (hlink : Cond.fieldLink own index ref (T k).2.1 (T k).2.2.1 ∈ lwG) (hsame : Cond.sameField ref (T k).1 (T k).2.1 (T k).2.2.1 ∈ lwG) {v : Value} (hv : fs[k]? = some v) (hv0 : v0 = .ref (adr g ed q i)) (hdg : decode cc pc = .ok (.getfield index, 3))
    (kk : W p l e R0 s m args below meth c H locs cells slots Q (F0 m (pc + 3) ls (v :: rest))) : W p l e R0 s m args below meth c H locs cells slots Q (F0 m pc ls (v0 :: rest)) := by
  obtain ⟨hx, hb, hown, hts, hK, -⟩ := hC
  subst hv0
  have h1 := hH.at hd
  rw [him] at h1
  exact va_get (ws := [(adr g ed q i, .inr (ci, fs))]) hx hb hts hin hown hK (fun k2 q2 h => by cases k2 with | zero => cases h; exact h1 | succ n => cases h) 0 rfl hc k hk (hts _ hlink) (u_same (hts _ hsame)) hv hdg kk
theorem hw_getN (hC : CX p s m args c cc own g) (hH : HW g ed C R H) {ref Cn host : String} {T : u_T} {N ci index : Nat} (hin : ∀ w ∈ u_ws Cn T N, w ∈ lwG) (hd : dm g C q i) {fs : List Value} (him : imgF g ed q i (sel C R q q i) = .inr (ci, fs)) (hc : vwCl[ci]? = some (Cn, T, N)) (k : Nat) (hk : k < N) (hlink : Cond.fieldLinkNest own index ref (T k).2.1 (T k).2.2.1 host ∈ lwN) (href : ref = (T k).1) {v : Value} (hv : fs[k]? = some v) (hv0 : v0 = .ref (adr g ed q i)) (hdg : decode cc pc = .ok (.getfield index, 3))
    (kk : W p l e R0 s m args below meth c H locs cells slots Q (F0 m (pc + 3) ls (v :: rest))) : W p l e R0 s m args below meth c H locs cells slots Q (F0 m pc ls (v0 :: rest)) := by
  obtain ⟨hx, hb, hown, hts, hK, -, hN⟩ := hC
  subst hv0
  have h1 := hH.at hd
  rw [him] at h1
  exact va_getN (ws := [(adr g ed q i, .inr (ci, fs))]) hx hb hts hin hown hK (fun k2 q2 h => by cases k2 with | zero => cases h; exact h1 | succ n => cases h) 0 rfl hc k hk (va_Nw.use rfl (hN _ hlink)) (fun x h => by rw [href]; exact h) hv hdg kk
/-- a write to a field: the heap behind it -/
theorem hw_put0 (hC : CX p s m args c cc own g) (hS0 : va_S (gP g) s.heap H locs) {ref Cn : String} {T : u_T} {N ci index : Nat} (hin : ∀ w ∈ u_ws Cn T N, w ∈ lwG) (ty0 : Nat → FieldType) (hty : ∀ k, k < N → parseFieldDescriptor (T k).2.2.1 = some (ty0 k)) (hnm : ∀ a, a < N → ∀ b, b < N → a ≠ b → (T a).2.1 ≠ (T b).2.1) {a : Nat} {fs : List Value} (h0 : va_at (gD g) vwCl (a, .inr (ci, fs)) H) (hPa : gP g a) (hc : vwCl[ci]? = some (Cn, T, N)) (k : Nat) (hk : k < N) (hlink : Cond.fieldLink own index ref (T k).2.1 (T k).2.2.1 ∈ lwG) (hsame : ref = (T k).1 ∨ Cond.sameField ref (T k).1 (T k).2.1 (T k).2.2.1 ∈ lwG) (hfin : (T k).2.2.2 = false) {ty : FieldType} {v : Value} (hd : parseFieldDescriptor (T k).2.2.1 = some ty) (hn : narrow ty v = v) (hfit : fits ty v = true) (hl : k < fs.length) (hv0 : v0 = .ref a) (hdg : decode cc pc = .ok (.putfield index, 3))
    (kk : ∀ (H1 : Heap) (locs1 : List Loc), va_at (gD g) vwCl (a, .inr (ci, fs.set k v)) H1 → (∀ b : Nat, b ≠ a → H1[b]? = H[b]?) → va_S (gP g) s.heap H1 locs1 → W p l e R0 s m args below meth c H1 locs1 cells slots Q (F0 m (pc + 3) ls rest)) : W p l e R0 s m args below meth c H locs cells slots Q (F0 m pc ls (v :: v0 :: rest)) := by
  obtain ⟨hx, hb, hown, hts, hK, -⟩ := hC
  subst hv0
  have hap := va_apart (own := own) hts hin ty0 hty hnm hK hc
  obtain ⟨r, h1, cell, q1, q2, q3, q4⟩ := h0
  have hr : r = (Cn, T, N) := Option.some.inj (h1.symm.trans hc)
  subst hr
  obtain ⟨hS, hfc, kC, hkC, hkind⟩ := hK.1 ci _ hc
  obtain ⟨cf, kf, fi, f, hi, hsl⟩ := hS k hk
  have hlay := hts _ (hin _ (u_in_lay hk))
  unfold u_lay at hlay
  rw [if_neg (by rw [hfin]; decide)] at hlay
  have hst := (u_facts hfc hkC (u_lays hts hin hk) hi).1
  have h6 := u_store hfc hkC hkind hlay hi hd hn hfit
  have hsm : s.fieldFound? ref (T k).2.1 (T k).2.2.1 = some (cf, kf, fi, f) := by
    rcases hsame with h | h
    · rw [h]; exact hi
    · exact u_same (hts _ h) _ hi
  refine W.putK hx hb (f := f) ⟨hown, hts _ hlink, ⟨_, _, _, hsm⟩, hst⟩ (by rw [q2]; exact h6) q1 q3 (by rw [hsl]; exact k2_hasslot (q4 k hk)) rfl rfl hdg fun H' e1 e2 e3 => ?_
  rw [hsl] at e1 ⊢
  exact kk H' _ ⟨_, hc, t_OB.to (V := updV (vp_V fs) k v) ⟨_, e1, q2, q3, t_set q4 hap hk v⟩ (fun j _ => vp_updV_set hl v j)⟩ e3 (hS0.put e2 e3 hPa)
theorem hw_putN0 (hC : CX p s m args c cc own g) (hS0 : va_S (gP g) s.heap H locs) {ref Cn host : String} {T : u_T} {N ci index : Nat} (hin : ∀ w ∈ u_ws Cn T N, w ∈ lwG) (ty0 : Nat → FieldType) (hty : ∀ k, k < N → parseFieldDescriptor (T k).2.2.1 = some (ty0 k)) (hnm : ∀ a, a < N → ∀ b, b < N → a ≠ b → (T a).2.1 ≠ (T b).2.1) {a : Nat} {fs : List Value} (h0 : va_at (gD g) vwCl (a, .inr (ci, fs)) H) (hPa : gP g a) (hc : vwCl[ci]? = some (Cn, T, N)) (k : Nat) (hk : k < N) (hlink : Cond.fieldLinkNest own index ref (T k).2.1 (T k).2.2.1 host ∈ lwN) (hsame : ref = (T k).1) (hfin : (T k).2.2.2 = false) {ty : FieldType} {v : Value} (hd : parseFieldDescriptor (T k).2.2.1 = some ty) (hn : narrow ty v = v) (hfit : fits ty v = true) (hl : k < fs.length) (hv0 : v0 = .ref a) (hdg : decode cc pc = .ok (.putfield index, 3))
    (kk : ∀ (H1 : Heap) (locs1 : List Loc), va_at (gD g) vwCl (a, .inr (ci, fs.set k v)) H1 → (∀ b : Nat, b ≠ a → H1[b]? = H[b]?) → va_S (gP g) s.heap H1 locs1 → W p l e R0 s m args below meth c H1 locs1 cells slots Q (F0 m (pc + 3) ls rest)) : W p l e R0 s m args below meth c H locs cells slots Q (F0 m pc ls (v :: v0 :: rest)) := by
  obtain ⟨hx, hb, hown, hts, hK, -, hN⟩ := hC
  subst hv0
  have hap := va_apart (own := own) hts hin ty0 hty hnm hK hc
  obtain ⟨r, h1, cell, q1, q2, q3, q4⟩ := h0
  have hr : r = (Cn, T, N) := Option.some.inj (h1.symm.trans hc)
  subst hr
  obtain ⟨hS, hfc, kC, hkC, hkind⟩ := hK.1 ci _ hc
  obtain ⟨cf, kf, fi, f, hi, hsl⟩ := hS k hk
  have hlay := hts _ (hin _ (u_in_lay hk))
  unfold u_lay at hlay
  rw [if_neg (by rw [hfin]; decide)] at hlay
  have hst := (u_facts hfc hkC (u_lays hts hin hk) hi).1
  have h6 := u_store hfc hkC hkind hlay hi hd hn hfit
  refine va_WputK hx hb (f := f) hown (va_Nw.use rfl (hN _ hlink)) (by rw [hsame]; exact hi) hst (by rw [q2]; exact h6) q1 q3 (by rw [hsl]; exact k2_hasslot (q4 k hk)) rfl rfl hdg fun H' e1 e2 e3 => ?_
  rw [hsl] at e1 ⊢
  exact kk H' _ ⟨_, hc, t_OB.to (V := updV (vp_V fs) k v) ⟨_, e1, q2, q3, t_set q4 hap hk v⟩ (fun j _ => vp_updV_set hl v j)⟩ e3 (hS0.put e2 e3 hPa)
end HWR
