/-! ROWS FOR THE LISTS' OWN ARRAYS -/
def setO (C : St) (q i : Nat) (o : Nat → Nat → Int32) : St := fun a b => if a = q ∧ b = i then o else C a b
def setA (C : St) (q i : Nat) (f : Nat → Int32) : St := setO C q i (fun k j => if k = 0 then f j else C q i k j)
theorem setO_s (C : St) (q i : Nat) (o : Nat → Nat → Int32) : setO C q i o q i = o := if_pos ⟨rfl, rfl⟩
theorem setO_ne (C : St) {q i a b : Nat} (o : Nat → Nat → Int32) (h : ¬ (a = q ∧ b = i)) : setO C q i o a b = C a b := if_neg h
theorem w_same : Cond.sameField "java/util/ArrayList" "java/util/AbstractList" "modCount" "I" ∈ lwG := lwG_of (List.mem_of_getElem? (i := 338) (by decide +kernel)) (by decide +kernel)
theorem w_castJ : Cond.castable "DrumLayers$Job" "java/lang/Object" ∈ lwN := lwN_of (by decide +kernel) (by decide +kernel)
def idl (g : GP) (C : St) : List (Nat × Nat) := ((List.range 200).flatMap fun q => (List.range (cnt g q)).map fun i => (q, i)).filter fun q => decide (q.1 = 18 → C 17 q.2 3 0 ≠ 0)
theorem cnt_big (g : GP) {q : Nat} (h : 200 ≤ q) : cnt g q = 0 := by
  unfold cnt
  split <;> first | omega | rfl
theorem idl_mem {g : GP} {C : St} {q : Nat × Nat} : q ∈ idl g C ↔ dm g C q.1 q.2 := by
  unfold idl dm
  rw [List.mem_filter, List.mem_flatMap, decide_eq_true_eq]
  constructor
  · rintro ⟨⟨a, ha, h⟩, h2⟩
    obtain ⟨b, hb, rfl⟩ := List.mem_map.mp h
    exact ⟨List.mem_range.mp hb, h2⟩
  · rintro ⟨h1, h2⟩
    refine ⟨⟨q.1, List.mem_range.mpr ?_, List.mem_map.mpr ⟨q.2, List.mem_range.mpr h1, rfl⟩⟩, h2⟩
    rcases Nat.lt_or_ge q.1 200 with h | h
    · exact h
    · rw [cnt_big g h] at h1; omega
theorem idl_nodup (g : GP) (C : St) : (idl g C).Nodup := by
  unfold idl
  refine List.Pairwise.filter _ ?_
  rw [List.pairwise_flatMap]
  refine ⟨fun a _ => ?_, ?_⟩
  · rw [List.pairwise_map]
    refine List.Pairwise.imp ?_ List.nodup_range
    intro x y h e
    exact h (Prod.mk.inj e).2
  · refine List.Pairwise.imp ?_ List.nodup_range
    intro x y h p hp r hr e
    obtain ⟨_, _, rfl⟩ := List.mem_map.mp hp
    obtain ⟨_, _, rfl⟩ := List.mem_map.mp hr
    exact h (Prod.mk.inj e).1
def wsl (g : GP) (ed : Nat → Nat) (C R : St) : va_W := (idl g C).map fun q => (adr g ed q.1 q.2, imgF g ed q.1 q.2 (sel C R q.1 q.1 q.2))
theorem wsl_P {g : GP} {ed : Nat → Nat} {C R : St} {H : Heap} (hH : HW g ed C R H) : va_P (gD g) vwCl (wsl g ed C R) H := by
  intro k x hx
  obtain ⟨q, hq, rfl⟩ := List.mem_map.mp (List.mem_of_getElem? hx)
  exact hH.at (idl_mem.mp hq)
theorem wsl_D {g : GP} {ed : Nat → Nat} {C R : St} {H : Heap} (hH : HW g ed C R H) : va_D (gP g) (wsl g ed C R) := by
  refine ⟨fun a b x y hx hy e => ?_, fun k x hx => ?_⟩
  · unfold wsl at hx hy
    rw [List.getElem?_map] at hx hy
    cases h1 : (idl g C)[a]? with
    | none => rw [h1] at hx; cases hx
    | some q1 =>
      cases h2 : (idl g C)[b]? with
      | none => rw [h2] at hy; cases hy
      | some q2 =>
        rw [h1] at hx; rw [h2] at hy
        cases hx; cases hy
        have h3 := hH.2.1 _ _ _ _ (idl_mem.mp (List.mem_of_getElem? h1)) (idl_mem.mp (List.mem_of_getElem? h2)) e
        have h4 : q1 = q2 := Prod.ext h3.1 h3.2
        subst h4
        have ha : a < (idl g C).length := (List.getElem?_eq_some_iff.mp h1).1
        exact (List.getElem?_inj ha (idl_nodup g C)).mp (h1.trans h2.symm)
  · obtain ⟨q, hq, rfl⟩ := List.mem_map.mp (List.mem_of_getElem? hx)
    exact hH.2.2 _ _ (idl_mem.mp hq)
theorem wsl_at {g : GP} {ed : Nat → Nat} {C R : St} {q i : Nat} (hd : dm g C q i) : ∃ k : Nat, (wsl g ed C R)[k]? = some (adr g ed q i, imgF g ed q i (sel C R q q i)) := by
  obtain ⟨k, hk⟩ := List.getElem?_of_mem (idl_mem.mpr (show dm g C (q, i).1 (q, i).2 from hd))
  exact ⟨k, by unfold wsl; rw [List.getElem?_map, hk]; rfl⟩
/-- a cell of the class's side was replaced, all else is as it was -/
theorem HW.repl {g : GP} {ed : Nat → Nat} {C R : St} {H1 : Heap} {q i : Nat} {o : Nat → Nat → Int32} (h2 : ∀ q i q2 i2, dm g C q i → dm g C q2 i2 → adr g ed q i = adr g ed q2 i2 → q = q2 ∧ i = i2) (h3 : ∀ q i, dm g C q i → gP g (adr g ed q i)) (hq : q < 50) (h17 : q ≠ 17) (hat : va_at (gD g) vwCl (adr g ed q i, imgF g ed q i o) H1)
    (ho : ∀ a b, dm g C a b → ¬ (a = q ∧ b = i) → va_at (gD g) vwCl (adr g ed a b, imgF g ed a b (sel C R a a b)) H1) : HW g ed (setO C q i o) R H1 := by
  have hdm : ∀ a b, dm g (setO C q i o) a b ↔ dm g C a b := fun a b => by
    unfold dm
    rw [setO_ne C o (a := 17) (b := b) (fun h => h17 h.1.symm)]
  refine ⟨fun a b hab => ?_, fun a b a2 b2 x y => h2 a b a2 b2 ((hdm a b).mp x) ((hdm a2 b2).mp y), fun a b x => h3 a b ((hdm a b).mp x)⟩
  have hab := (hdm a b).mp hab
  by_cases hc : a = q ∧ b = i
  · obtain ⟨rfl, rfl⟩ := hc
    have e : sel (setO C a b o) R a a b = o := by unfold sel; rw [if_pos hq, setO_s]
    rw [e]
    exact hat
  · have e : sel (setO C q i o) R a a b = sel C R a a b := by
      unfold sel
      split
      · exact setO_ne _ _ hc
      · rfl
    rw [e]
    exact ho a b hab hc
theorem dm18 {g : GP} {C : St} {i : Nat} (hi : i < 3) (hc : ¬ C 17 i 3 0 = 0) : dm g C 18 i := ⟨hi, fun _ => hc⟩
section LSTR
variable {p : Program} {l : Launch} {e : Env} {R0 : Room} {s : State} {m : MethodId} {args : Array Value} {below : List Frame} {meth : Method} {c : Code} {H : Heap} {locs : List Loc} {cells slots : Nat} {Q : State → Prop}
variable {cc : ByteArray} {pc : Nat} {ls : Array Slot} {rest : List Value} {g : GP} {ed : Nat → Nat} {C R : St} {own : String} {v0 : Value} {q i : Nat}
theorem el_get (hC : CX p s m args c cc RJx4a65c g) (hH : HW g ed C R H) (hi : i < 3) (hcap : ¬ C 17 i 3 0 = 0) (hlink : Cond.fieldLink RJx4a65c 9 "java/util/ArrayList" "elementData" "[Ljava/lang/Object;" ∈ lwG) (hv0 : v0 = .ref (gA g 17 i)) (hdg : decode cc pc = .ok (.getfield 9, 3)) (kk : W p l e R0 s m args below meth c H locs cells slots Q (F0 m (pc + 3) ls (.ref (ed i) :: rest))) : W p l e R0 s m args below meth c H locs cells slots Q (F0 m pc ls (v0 :: rest)) := by
  refine hw_get (q := 17) (i := i) (Cn := RJx4a65c) (T := TJx4a65c) (N := 3) hC hH uw_Jx4a65c ⟨hi, fun h => absurd h (by decide)⟩ (im_17 _ _ _ _) rfl 1 (by decide) hlink rfl rfl hv0 hdg ?_
  have e1 : sel C R 17 17 i 3 0 = C 17 i 3 0 := rfl
  rw [e1, if_neg hcap]
  exact kk
theorem rfe {x : Int32} : (if x < 0 then none else some (gA g 6 x.toNatClampNeg)) = rfo (gA g) 6 x := rfl
theorem el_ald (hC : CX p s m args c cc own g) (hH : HW g ed C R H) (hi : i < 3) (hcap : ¬ C 17 i 3 0 = 0) {x : Int32} (hin : inb x 10 = true) (hdg : decode cc pc = .ok (.aaload, 1)) (kk : W p l e R0 s m args below meth c H locs cells slots Q (F0 m (pc + 1) ls (rfv (gA g) 6 (C 18 i 0 x.toNatClampNeg) :: rest))) : W p l e R0 s m args below meth c H locs cells slots Q (F0 m pc ls (.int x :: .ref (ed i) :: rest)) := by
  rw [rfv_o] at kk
  exact va_aldq hC.1 hC.2.1 hC.2.2.2.2.1 (hw_one (q := 18) (i := i) hH (dm18 hi hcap) (im_18 _ _ _ _)) 0 5 rfl rfl (inb_in hin) hdg kk
theorem el_len (hC : CX p s m args c cc own g) (hH : HW g ed C R H) (hi : i < 3) (hcap : ¬ C 17 i 3 0 = 0) (hdg : decode cc pc = .ok (.arraylength, 1)) (kk : W p l e R0 s m args below meth c H locs cells slots Q (F0 m (pc + 1) ls (.int (10 : Int32) :: rest))) : W p l e R0 s m args below meth c H locs cells slots Q (F0 m pc ls (.ref (ed i) :: rest)) :=
  hw_alen (q := 18) (i := i) hC hH (dm18 hi hcap) (im_18 _ _ _ _) 5 rfl rfl hdg kk
/-- the array behind a write -/
theorem el_after {H1 : Heap} {k : Nat} {f : Nat → Option Nat} {h : Nat → Int32} (hH : HW g ed C R H) (hi : i < 3) (hcap : ¬ C 17 i 3 0 = 0) (hk : (wsl g ed C R)[k]? = some (adr g ed 18 i, imgF g ed 18 i (sel C R 18 18 i))) (hP : va_P (gD g) vwCl ((wsl g ed C R).set k (ed i, .inl (gc g 5, 10, .inr (.inr (.inr (.inr f)))))) H1) (hf : f = fun j => rfo (gA g) 6 (h j)) : HW g ed (setA C 18 i h) R H1 := by
  refine HW.repl hH.2.1 hH.2.2 (by decide) (by decide) ?_ (fun a b hd hne => ?_)
  · have hl : k < (wsl g ed C R).length := (List.getElem?_eq_some_iff.mp hk).1
    have h1 := hP k _ (by rw [List.getElem?_set, if_pos rfl, if_pos hl])
    rw [hf] at h1
    exact h1
  · obtain ⟨k2, hk2⟩ := wsl_at (g := g) (ed := ed) (C := C) (R := R) hd
    have hkk : ¬ k = k2 := fun e => by
      subst e
      have e1 := congrArg Prod.fst (Option.some.inj (hk.symm.trans hk2))
      have e2 := hH.2.1 _ _ _ _ (dm18 hi hcap) hd e1
      exact hne ⟨e2.1.symm, e2.2.symm⟩
    exact hP k2 _ (by rw [List.getElem?_set, if_neg hkk]; exact hk2)
theorem up_setA (C : St) (q i j : Nat) (v : Int32) : setA C q i (upd (C q i 0) j v) = up C q i 0 j v := by
  funext a b
  unfold setA setO up
  split
  · funext k j2
    by_cases hk : k = 0
    · subst hk
      simp [up2, upd]
    · simp [up2, hk]
  · rfl
theorem el_ast (hC : CX p s m args c cc own g) (hH : HW g ed C R H) (hS : va_S (gP g) s.heap H locs) (hi : i < 3) (hcap : ¬ C 17 i 3 0 = 0) {x y : Int32} (hin : inb x 10 = true) (hy : inb y 6 = true) (hdg : decode cc pc = .ok (.aastore, 1))
    (kk : ∀ (H1 : Heap) (locs1 : List Loc), HW g ed (up C 18 i 0 x.toNatClampNeg y) R H1 → va_S (gP g) s.heap H1 locs1 → W p l e R0 s m args below meth c H1 locs1 cells slots Q (F0 m (pc + 1) ls rest)) : W p l e R0 s m args below meth c H locs cells slots Q (F0 m pc ls (rfv (gA g) 6 y :: .int x :: .ref (ed i) :: rest)) := by
  obtain ⟨k, hk⟩ := wsl_at (g := g) (ed := ed) (C := C) (R := R) (dm18 (g := g) hi hcap)
  obtain ⟨k2, hk2⟩ := wsl_at (g := g) (ed := ed) (C := C) (R := R) (q := 6) (i := y.toNatClampNeg) ⟨inb_lt hy, fun h => absurd h (by decide)⟩
  rw [rfv_in hy]
  refine va_astqO (E := "java/lang/Object") hC.1 hC.2.1 hC.2.2.2.2.1 (wsl_P hH) (wsl_D hH) hS k 5 k2 6 hk rfl (hC.2.2.2.2.2.2 _ w_castJ) hk2 rfl (inb_in hin) hdg (fun H1 locs1 hP _ hS1 => kk H1 locs1 ?_ hS1)
  rw [← up_setA]
  refine el_after hH hi hcap hk hP ?_
  funext j
  by_cases hj : j = x.toNatClampNeg
  · subst hj
    simp [va_up, upd, rfo, inb_n hy]
    rfl
  · simp only [va_up, upd, if_neg hj]
    rfl
theorem el_astN (hC : CX p s m args c cc own g) (hH : HW g ed C R H) (hS : va_S (gP g) s.heap H locs) (hi : i < 3) (hcap : ¬ C 17 i 3 0 = 0) {x : Int32} (hin : inb x 10 = true) (hdg : decode cc pc = .ok (.aastore, 1))
    (kk : ∀ (H1 : Heap) (locs1 : List Loc), HW g ed (up C 18 i 0 x.toNatClampNeg (-1)) R H1 → va_S (gP g) s.heap H1 locs1 → W p l e R0 s m args below meth c H1 locs1 cells slots Q (F0 m (pc + 1) ls rest)) : W p l e R0 s m args below meth c H locs cells slots Q (F0 m pc ls (.null :: .int x :: .ref (ed i) :: rest)) := by
  obtain ⟨k, hk⟩ := wsl_at (g := g) (ed := ed) (C := C) (R := R) (dm18 (g := g) hi hcap)
  refine va_astqN (C := "java/lang/Object") hC.1 hC.2.1 hC.2.2.2.2.1 (wsl_P hH) (wsl_D hH) hS k 5 hk rfl (inb_in hin) hdg (fun H1 locs1 hP _ hS1 => kk H1 locs1 ?_ hS1)
  rw [← up_setA]
  refine el_after hH hi hcap hk hP ?_
  funext j
  by_cases hj : j = x.toNatClampNeg
  · subst hj
    simp [va_up, upd, rfo]
  · simp only [va_up, upd, if_neg hj]
    rfl
def okAll (C : St) (i : Nat) : Bool := (List.range 10).all fun j => okr (C 18 i 0 j) 6
theorem el_copy (hC : CX p s m args c cc RJx4a65c g) (hml : c.maxLocals = ls.size) (hw : Cond.methodLink RJx4a65c 112 arraycopyName ∈ lwG ∧ Cond.native arraycopyName ∈ lwG ∧ Cond.static arraycopyName ∈ lwG ∧ Cond.initialized "java/lang/System" ∈ lwG) (hH : HW g ed C R H) (hS : va_S (gP g) s.heap H locs) (hi : i < 3) (hcap : ¬ C 17 i 3 0 = 0) (hok : okAll C i = true) {sp dp n : Int32} (h1 : ¬ sp < 0) (h2 : ¬ dp < 0) (h3 : ¬ n < 0) (h4 : sp.toNatClampNeg + n.toNatClampNeg ≤ 10) (h5 : dp.toNatClampNeg + n.toNatClampNeg ≤ 10)
    (hframes : 1 ≤ R0.frames) (hlocals : (rest.map fun v => v.category).sum + (nativeFrameWords "java/lang/System" "arraycopy" 5 + 11) ≤ R0.locals) (hdg : decode cc pc = .ok (.invokestatic 112, 3))
    (kk : ∀ (H1 : Heap) (locs1 : List Loc), HW g ed (setA C 18 i (va_cpy (C 18 i 0) (C 18 i 0) sp.toNatClampNeg dp.toNatClampNeg n.toNatClampNeg)) R H1 → va_S (gP g) s.heap H1 locs1 → W p l e R0 s m args below meth c H1 locs1 cells slots Q (F0 m (pc + 3) ls rest)) : W p l e R0 s m args below meth c H locs cells slots Q (F0 m pc ls (.int n :: .int dp :: .ref (ed i) :: .int sp :: .ref (ed i) :: rest)) := by
  obtain ⟨k, hk⟩ := wsl_at (g := g) (ed := ed) (C := C) (R := R) (dm18 (g := g) hi hcap)
  refine va_copyq (C := "DrumLayers$Job") (E0 := "java/lang/Object") (E1 := "java/lang/Object") hC.1 hC.2.1 hml hC.2.2.1 (hC.2.2.2.1 _ hw.1) (hC.2.2.2.1 _ hw.2.1) (hC.2.2.2.1 _ hw.2.2.1) (hC.2.2.2.1 _ hw.2.2.2) hC.2.2.2.2.1 (wsl_P hH) (wsl_D hH) hS k k 5 5 hk hk rfl rfl h1 h2 h3 h4 h5 (fun j hj y hy => ?_) (fun comp c0 f1 f2 => ?_) hframes hlocals hdg (fun H1 locs1 hP _ hS1 => kk H1 locs1 (el_after hH hi hcap hk hP ?_) hS1)
  · have hy : rfo (gA g) 6 (C 18 i 0 (sp.toNatClampNeg + j)) = some y := hy
    have h6 := List.all_eq_true.mp hok (sp.toNatClampNeg + j) (List.mem_range.mpr (by omega))
    rcases okr_or h6 with h7 | h7
    · rw [h7] at hy
      unfold rfo at hy
      rw [if_pos (by decide)] at hy
      cases hy
    · unfold rfo at hy
      rw [if_neg (inb_n h7)] at hy
      cases hy
      exact hw_recv (q := 6) hC hH ⟨inb_lt h7, fun h => absurd h (by decide)⟩ rfl rfl
  · obtain ⟨c1, t1, g1, g2, g3⟩ := Cond.castable_spec (va_Nw.use (A := args) rfl (hC.2.2.2.2.2.2 _ w_castJ))
    cases f1.symm.trans g2
    cases f2.symm.trans g1
    exact g3
  · funext j
    unfold va_cpy
    split <;> rfl
end LSTR
theorem cp_1 {a r : Bool} (h : (a && r) = true) : a = true := ((Bool.and_eq_true _ _).mp h).1
theorem cp_r {a r : Bool} (h : (a && r) = true) : r = true := ((Bool.and_eq_true _ _).mp h).2
theorem cp_n {P : Prop} [Decidable P] (h : (!(decide P)) = true) : ¬ P := by simpa using h
theorem cp_2 {a r : Bool} {P : Prop} [Decidable P] (h : (a && (!(decide P) && r)) = true) : ¬ P := cp_n (cp_1 (cp_r h))
theorem cp_3 {a b r : Bool} {P : Prop} [Decidable P] (h : (a && (b && (!(decide P) && r))) = true) : ¬ P := cp_n (cp_1 (cp_r (cp_r h)))
theorem cp_4 {a b c r : Bool} {P : Prop} [Decidable P] (h : (a && (b && (c && (!(decide P) && r)))) = true) : ¬ P := cp_n (cp_1 (cp_r (cp_r (cp_r h))))
theorem cp_5 {a b c d r : Bool} {P : Prop} [Decidable P] (h : (a && (b && (c && (d && (decide P && r))))) = true) : P := of_decide_eq_true (cp_1 (cp_r (cp_r (cp_r (cp_r h)))))
theorem cp_6 {a b c d r : Bool} {P : Prop} [Decidable P] (h : (a && (b && (c && (d && (r && decide P))))) = true) : P := of_decide_eq_true (cp_r (cp_r (cp_r (cp_r (cp_r h)))))
