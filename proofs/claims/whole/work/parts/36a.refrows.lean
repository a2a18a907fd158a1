def mfs (f : Nat → Value) : List Value := (List.range 71).map f
theorem mfs_at (f : Nat → Value) {k : Nat} (hk : k < 71) : (mfs f)[k]? = some (f k) := by
  unfold mfs
  rw [List.getElem?_map, List.getElem?_range hk]
  rfl
theorem mfs_set (f : Nat → Value) {k : Nat} (hk : k < 71) (v : Value) : (mfs f).set k v = mfs (va_up f k v) := by
  apply List.ext_getElem?
  intro j
  rw [List.getElem?_set]
  have hl : (mfs f).length = 71 := by unfold mfs; rw [List.length_map, List.length_range]
  by_cases hj : k = j
  · subst hj
    rw [if_pos rfl, if_pos (by rw [hl]; exact hk), mfs_at _ hk]
    simp [va_up]
  · rw [if_neg hj]
    by_cases h2 : j < 71
    · rw [mfs_at _ h2, mfs_at _ h2]
      simp [va_up, Ne.symm hj]
    · have e1 : (mfs f)[j]? = none := List.getElem?_eq_none (by rw [hl]; omega)
      have e2 : (mfs (va_up f k v))[j]? = none := List.getElem?_eq_none (by unfold mfs; rw [List.length_map, List.length_range]; omega)
      rw [e1, e2]
section MRW
variable {p : Program} {l : Launch} {e : Env} {R0 : Room} {s : State} {m : MethodId} {args : Array Value} {below : List Frame} {meth : Method} {c : Code} {H : Heap} {locs : List Loc} {cells slots : Nat} {Q : State → Prop}
variable {cc : ByteArray} {pc : Nat} {ls : Array Slot} {rest : List Value} {g : GP} {wsr : va_W} {A : Nat → Prop} {h0 : Nat} {f : Nat → Value}
theorem mp_get (hC : CX p s m args c cc RX12 g) (hP : va_P (gD g) vwCl ((h0, .inr (13, mfs f)) :: wsr) H) (k : Nat) (hk : k < 71) {index : Nat} (hlink : Cond.fieldLink RX12 index (TX12 k).1 (TX12 k).2.1 (TX12 k).2.2.1 ∈ lwG) {v : Value} (hv : f k = v) (hdg : decode cc pc = .ok (.getfield index, 3))
    (kk : W p l e R0 s m args below meth c H locs cells slots Q (F0 m (pc + 3) ls (v :: rest))) : W p l e R0 s m args below meth c H locs cells slots Q (F0 m pc ls (.ref h0 :: rest)) :=
  va_get (D := gD g) (ci := 13) (C := RX12) (T := TX12) (N := 71) hC.1 hC.2.1 hC.2.2.2.1 uw_X12 hC.2.2.1 hC.2.2.2.2.1 hP 0 rfl rfl k hk (hC.2.2.2.1 _ hlink) (fun _ h9 => h9) (by rw [mfs_at f hk, hv]) hdg kk
theorem mp_put (hC : CX p s m args c cc RX12 g) (hnm : meth.name = "<init>") (hP : va_P (gD g) vwCl ((h0, .inr (13, mfs f)) :: wsr) H) (hD : va_D A ((h0, .inr (13, mfs f)) :: wsr)) (hS : va_S A s.heap H locs) (k : Nat) (hk : k < 71) {index : Nat} (hlink : Cond.fieldLink RX12 index (TX12 k).1 (TX12 k).2.1 (TX12 k).2.2.1 ∈ lwG) (hfin : (TX12 k).2.2.2 = true) (hdecl : (TX12 k).1 = RX12) {ty : FieldType} (hty : parseFieldDescriptor (TX12 k).2.2.1 = some ty) {v : Value} (hn : narrow ty v = v) (hf : fits ty v = true) (hdg : decode cc pc = .ok (.putfield index, 3))
    (kk : ∀ (H1 : Heap) (locs1 : List Loc), va_P (gD g) vwCl ((h0, .inr (13, mfs (va_up f k v))) :: wsr) H1 → va_D A ((h0, .inr (13, mfs (va_up f k v))) :: wsr) → va_S A s.heap H1 locs1 → W p l e R0 s m args below meth c H1 locs1 cells slots Q (F0 m (pc + 3) ls rest)) : W p l e R0 s m args below meth c H locs cells slots Q (F0 m pc ls (v :: .ref h0 :: rest)) := by
  refine va_putF (D := gD g) (ci := 13) (C := RX12) (T := TX12) (N := 71) hC.1 hC.2.1 hC.2.2.2.1 uw_X12 tyX12 tyX12_ok nmX12 hC.2.2.1 hC.2.2.2.2.1 hP hD hS 0 rfl rfl k hk (hC.2.2.2.1 _ hlink) (fun _ h9 => h9) hfin hnm hdecl hty hn hf (by unfold mfs; rw [List.length_map, List.length_range]; exact hk) hdg (fun H1 locs1 hP1 hD1 hS1 => ?_)
  rw [mfs_set f hk] at hP1 hD1
  exact kk H1 locs1 hP1 hD1 hS1
end MRW
