/-! A LIST GROWS ONCE, AND TAKES A JOB (list i: its numbers at kind 17, its elements at kind 18) -/
theorem wd_262 : Cond.fieldLink RJx4a65c 39 "java/util/ArrayList" "DEFAULTCAPACITY_EMPTY_ELEMENTDATA" "[Ljava/lang/Object;" ∈ lwG := lwG_of (List.mem_of_getElem? (i := 332) (by decide +kernel)) (by decide +kernel)
theorem wd_747 : Cond.methodLink RJx4a65c 131 yJx4a65c_add_72be8 ∈ lwG := lwG_of (List.mem_of_getElem? (i := 817) (by decide +kernel)) (by decide +kernel)
theorem wd_749 : Cond.instanceMethod yJx4a65c_add_72be8 ∈ lwG := lwG_of (List.mem_of_getElem? (i := 819) (by decide +kernel)) (by decide +kernel)
theorem wd_750 : Cond.code yJx4a65c_add_72be8 cJx4a65c_add_72be8 4 none ∈ lwG := lwG_of (List.mem_of_getElem? (i := 820) (by decide +kernel)) (by decide +kernel)
theorem wd_751 : Cond.methodLink RJx4a65c 129 yJx4a65c_grow_d5877 ∈ lwG := lwG_of (List.mem_of_getElem? (i := 821) (by decide +kernel)) (by decide +kernel)
theorem wd_753 : Cond.instanceMethod yJx4a65c_grow_d5877 ∈ lwG := lwG_of (List.mem_of_getElem? (i := 823) (by decide +kernel)) (by decide +kernel)
theorem wd_754 : Cond.code yJx4a65c_grow_d5877 cJx4a65c_grow_d5877 1 (some (.array (.object "java/lang/Object"))) ∈ lwG := lwG_of (List.mem_of_getElem? (i := 824) (by decide +kernel)) (by decide +kernel)
theorem wd_755 : Cond.methodLink RJx4a65c 69 yJx4a65c_grow_92f84 ∈ lwG := lwG_of (List.mem_of_getElem? (i := 825) (by decide +kernel)) (by decide +kernel)
theorem wd_757 : Cond.instanceMethod yJx4a65c_grow_92f84 ∈ lwG := lwG_of (List.mem_of_getElem? (i := 827) (by decide +kernel)) (by decide +kernel)
theorem wd_758 : Cond.code yJx4a65c_grow_92f84 cJx4a65c_grow_92f84 4 (some (.array (.object "java/lang/Object"))) ∈ lwG := lwG_of (List.mem_of_getElem? (i := 828) (by decide +kernel)) (by decide +kernel)
theorem wd_796 : Cond.methodLink RJx4a65c 79 yJ9_max_7cf53 ∈ lwG := lwG_of (List.mem_of_getElem? (i := 866) (by decide +kernel)) (by decide +kernel)
theorem wd_797 : Cond.classLink RJx4a65c 7 "java/lang/Object" ∈ lwG := lwG_of (List.mem_of_getElem? (i := 867) (by decide +kernel)) (by decide +kernel)
theorem wp_11 : Cond.selects RJx4a65c yJx4a65c_add_72be8 yJx4a65c_add_72be8 ∈ lwG := lwG_of (List.mem_of_getElem? (i := 11) (by decide +kernel)) (by decide +kernel)
theorem wp_12 : Cond.selects RJx4a65c yJx4a65c_grow_d5877 yJx4a65c_grow_d5877 ∈ lwG := lwG_of (List.mem_of_getElem? (i := 12) (by decide +kernel)) (by decide +kernel)
theorem wp_13 : Cond.selects RJx4a65c yJx4a65c_grow_92f84 yJx4a65c_grow_92f84 ∈ lwG := lwG_of (List.mem_of_getElem? (i := 13) (by decide +kernel)) (by decide +kernel)
theorem hd_Jx4a65c_grow_92f84 : yJx4a65c_grow_92f84.cls ≠ "java/lang/invoke/MethodHandle" ∧ yJx4a65c_grow_92f84.cls ≠ "java/lang/invoke/VarHandle" ∧ (parseMethodDescriptor yJx4a65c_grow_92f84.desc).map (fun d => d.parameters.length) = some 1 := by decide +kernel
theorem hd_Jx4a65c_grow_d5877 : yJx4a65c_grow_d5877.cls ≠ "java/lang/invoke/MethodHandle" ∧ yJx4a65c_grow_d5877.cls ≠ "java/lang/invoke/VarHandle" ∧ (parseMethodDescriptor yJx4a65c_grow_d5877.desc).map (fun d => d.parameters.length) = some 0 := by decide +kernel
theorem hd_Jx4a65c_add_72be8 : yJx4a65c_add_72be8.cls ≠ "java/lang/invoke/MethodHandle" ∧ yJx4a65c_add_72be8.cls ≠ "java/lang/invoke/VarHandle" ∧ (parseMethodDescriptor yJx4a65c_add_72be8.desc).map (fun d => d.parameters.length) = some 3 := by decide +kernel
theorem w_ao : Cond.arrayOver (.object "java/lang/Object") ∈ lwN := lwN_of (List.mem_of_getElem? (i := 862) (by decide +kernel)) (by decide +kernel)
def al_ok (i : Nat) (C : St) : Bool := decide (C 17 i 3 0 = 1) || (decide (C 17 i 3 0 = 0) && (decide (C 17 i 2 0 = 0) && (List.range 10).all (fun j => decide (C 18 i 0 j = -1))))
theorem up_id {C : St} {q i k j : Nat} {v : Int32} (h : C q i k j = v) : up C q i k j v = C := by
  funext a b
  unfold up
  split
  · next hc =>
    obtain ⟨rfl, rfl⟩ := hc
    funext k2 j2
    unfold up2
    split
    · next h1 =>
      subst h1
      split
      · next h2 => subst h2; exact h.symm
      · rfl
    · rfl
  · rfl
def F_Jx4a65c_add_9ea2d (i : Nat) (x1 : Int32) (C : St) : Option (Int32 × St) := gd (inb x1 6) (gd (al_ok i C) (gd (inb (C 17 i 2 0) 10) (some (1, up (up (up (up C 17 i 0 0 (C 17 i 0 0 + 1)) 17 i 3 0 1) 18 i 0 (C 17 i 2 0).toNatClampNeg x1) 17 i 2 0 (C 17 i 2 0 + 1)))))
def upn (ed : Nat → Nat) (i q : Nat) : Nat → Nat := fun j => if j = i then q else ed j
theorem arrV_congr {c : ClassId} {N : Nat} {f h : Nat → Value} (e : ∀ j, j < N → f j = h j) : arrV c N f = arrV c N h := by
  unfold arrV
  congr 2
  funext j
  exact e j.val j.isLt
theorem imgF_ed {g : GP} {ed ed2 : Nat → Nat} {q i : Nat} {o : Nat → Nat → Int32} (h : q = 17 → ed2 i = ed i) : imgF g ed2 q i o = imgF g ed q i o := by
  by_cases hq : q = 17
  · subst hq
    rw [im_17, im_17, h rfl]
  · unfold imgF
    split <;> first | rfl | (exact absurd rfl hq)
theorem up17 (C : St) (i b : Nat) (v : Int32) : up C 17 i 3 0 v 17 b 3 0 = if b = i then v else C 17 b 3 0 := by
  by_cases h : b = i
  · subst h
    rw [up_s, up2_s, if_pos rfl]
  · rw [up_ne _ _ _ _ (fun e => h e.2), if_neg h]
theorem HW.grow {g : GP} {ed : Nat → Nat} {C R : St} {H H1 H2 : Heap} {i q : Nat} (hi : i < 3) (hH : HW g ed C R H) (hcap : C 17 i 3 0 = 0) (hel : ∀ j, j < 10 → C 18 i 0 j = -1) (hP1 : va_P (gD g) vwCl (wsl g ed C R ++ [(q, .inl (gc g 5, 10, .inr (.inr (.inr (.inr (fun _ => none))))))]) H1) (hD1 : va_D (gP g) (wsl g ed C R ++ [(q, .inl (gc g 5, 10, .inr (.inr (.inr (.inr (fun _ => none))))))]))
    (hat : va_at (gD g) vwCl (gA g 17 i, .inr (0, [.int (C 17 i 0 0), .ref q, .int (C 17 i 2 0)])) H2) (oq : ∀ b : Nat, b ≠ gA g 17 i → H2[b]? = H1[b]?) : HW g (upn ed i q) (up C 17 i 3 0 1) R H2 := by
  have hdm : ∀ a b, dm g (up C 17 i 3 0 1) a b → ¬ (a = 18 ∧ b = i) → dm g C a b := by
    intro a b hab hne
    refine ⟨hab.1, fun e => ?_⟩
    have h1 := hab.2 e
    rw [up17, if_neg (fun e2 => hne ⟨e, e2⟩)] at h1
    exact h1
  have hadr : ∀ a b, ¬ (a = 18 ∧ b = i) → adr g (upn ed i q) a b = adr g ed a b := by
    intro a b hne
    unfold adr upn
    by_cases ha : a = 18
    · rw [if_pos ha, if_pos ha, if_neg (fun e => hne ⟨ha, e⟩)]
    · rw [if_neg ha, if_neg ha]
  have hq : adr g (upn ed i q) 18 i = q := by
    show upn ed i q i = q
    unfold upn
    rw [if_pos rfl]
  have hlast : (wsl g ed C R ++ [(q, .inl (gc g 5, 10, .inr (.inr (.inr (.inr (fun _ => none))))))])[(wsl g ed C R).length]? = some (q, (.inl (gc g 5, 10, .inr (.inr (.inr (.inr (fun _ => none))))) : va_E)) := by
    rw [List.getElem?_append_right (Nat.le_refl _), Nat.sub_self]
    rfl
  have hold : ∀ a b, dm g C a b → ∃ k, k < (wsl g ed C R).length ∧ (wsl g ed C R ++ [(q, .inl (gc g 5, 10, .inr (.inr (.inr (.inr (fun _ => none))))))])[k]? = some (adr g ed a b, imgF g ed a b (sel C R a a b)) := by
    intro a b hd
    obtain ⟨k, hk⟩ := wsl_at (g := g) (ed := ed) (C := C) (R := R) hd
    have hl := (List.getElem?_eq_some_iff.mp hk).1
    exact ⟨k, hl, by rw [List.getElem?_append_left hl]; exact hk⟩
  have hne : ∀ a b, dm g C a b → adr g ed a b ≠ q := by
    intro a b hd e
    obtain ⟨k, hl, hk⟩ := hold a b hd
    have := hD1.1 k _ _ _ hk hlast e
    omega
  have hd17 : dm g C 17 i := ⟨hi, fun h => absurd h (by decide)⟩
  refine ⟨fun a b hab => ?_, fun a b a2 b2 h1 h2 e => ?_, fun a b hab => ?_⟩
  · by_cases hc : a = 18 ∧ b = i
    · obtain ⟨rfl, rfl⟩ := hc
      rw [hq]
      have h1 : H1[q]? = some (vp_cell (gc g 5) (10, .inr (.inr (.inr (.inr (fun _ => none)))))) := hP1 _ _ hlast
      have h2 : q ≠ gA g 17 b := fun e => hne 17 b hd17 e.symm
      show H2[q]? = some (vp_cell (gc g 5) (10, .inr (.inr (.inr (.inr (fun j => if up C 17 b 3 0 1 18 b 0 j < 0 then none else some (gA g 6 (up C 17 b 3 0 1 18 b 0 j).toNatClampNeg)))))))
      rw [oq q h2, h1, vp_cell_q, vp_cell_q]
      congr 1
      refine arrV_congr fun j hj => ?_
      rw [up_ne C 3 0 1 (fun e => absurd e.1 (by decide)), hel j hj]
      rfl
    · have hd := hdm a b hab hc
      rw [hadr a b hc]
      by_cases h17 : a = 17 ∧ b = i
      · obtain ⟨rfl, rfl⟩ := h17
        have e1 : imgF g (upn ed b q) 17 b (sel (up C 17 b 3 0 1) R 17 17 b) = .inr (0, [.int (C 17 b 0 0), .ref q, .int (C 17 b 2 0)]) := by
          rw [im_17]
          show Sum.inr (0, [Value.int (up C 17 b 3 0 1 17 b 0 0), .ref (if up C 17 b 3 0 1 17 b 3 0 = 0 then ge g else upn ed b q b), .int (up C 17 b 3 0 1 17 b 2 0)]) = _
          rw [up_s]
          simp [up2, upn]
        rw [e1]
        exact hat
      · have e1 : sel (up C 17 i 3 0 1) R a a b = sel C R a a b := by
          unfold sel
          split
          · exact up_ne _ _ _ _ h17
          · rfl
        rw [e1, imgF_ed (ed := ed) (fun e => by unfold upn; rw [if_neg (fun e2 => h17 ⟨e, e2⟩)])]
        obtain ⟨k, -, hk⟩ := hold a b hd
        refine (hP1 k _ hk).kept (oq _ fun e => h17 ?_)
        exact hH.2.1 a b 17 i hd hd17 e
  · by_cases hc : a = 18 ∧ b = i <;> by_cases hc2 : a2 = 18 ∧ b2 = i
    · exact ⟨hc.1.trans hc2.1.symm, hc.2.trans hc2.2.symm⟩
    · obtain ⟨rfl, rfl⟩ := hc
      rw [hq, hadr a2 b2 hc2] at e
      exact absurd e.symm (hne a2 b2 (hdm a2 b2 h2 hc2))
    · obtain ⟨rfl, rfl⟩ := hc2
      rw [hq, hadr a b hc] at e
      exact absurd e (hne a b (hdm a b h1 hc))
    · rw [hadr a b hc, hadr a2 b2 hc2] at e
      exact hH.2.1 a b a2 b2 (hdm a b h1 hc) (hdm a2 b2 h2 hc2) e
  · by_cases hc : a = 18 ∧ b = i
    · obtain ⟨rfl, rfl⟩ := hc
      rw [hq]
      exact hD1.2 _ _ hlast
    · rw [hadr a b hc]
      exact hH.2.2 a b (hdm a b hab hc)
/-- grow(1) of a list that has only the shared empty array -/
def QE (g : GP) (i : Nat) (C R : St) : Array Value → State → Outcome → State → Prop := fun _ st oc t => (∃ ed, oc = .returned (some (.ref (ed i))) ∧ HW g ed C R t.heap) ∧ va_F (gP g) st t
section GROW
variable {p : Program} {l : Launch} {e : Env} {R0 : Room} {s : State} {m : MethodId} {args : Array Value} {below : List Frame} {meth : Method} {c : Code} {H : Heap} {locs : List Loc} {cells slots : Nat} {Q : State → Prop}
variable {cc : ByteArray} {pc : Nat} {ls : Array Slot} {rest : List Value} {g : GP} {ed : Nat → Nat} {C R : St} {own : String} {v0 : Value} {q i : Nat}
theorem el_getE (hC : CX p s m args c cc RJx4a65c g) (hH : HW g ed C R H) (hi : i < 3) (hcap : C 17 i 3 0 = 0) (hv0 : v0 = .ref (gA g 17 i)) (hdg : decode cc pc = .ok (.getfield 9, 3)) (kk : W p l e R0 s m args below meth c H locs cells slots Q (F0 m (pc + 3) ls (.ref (ge g) :: rest))) : W p l e R0 s m args below meth c H locs cells slots Q (F0 m pc ls (v0 :: rest)) := by
  refine hw_get (q := 17) (i := i) (Cn := RJx4a65c) (T := TJx4a65c) (N := 3) hC hH uw_Jx4a65c ⟨hi, fun h => absurd h (by decide)⟩ (im_17 _ _ _ _) rfl 1 (by decide) wd_264 rfl rfl hv0 hdg ?_
  have e1 : sel C R 17 17 i 3 0 = C 17 i 3 0 := rfl
  rw [e1, if_pos hcap]
  exact kk
variable {y : MethodName} {bytes : ByteArray} {maxL nL mc ms n index : Nat} {ret : Option FieldType} {rm : Room} {Cn : String} {b : Nat} {As st : List Value} {C2 R2 : St}
theorem g_afterE (hr : va_Run p l e R0 s m args below meth c H locs cells slots mc ms (F0 m pc ls st) rest (QE g i C2 R2 (As.toArray)) (gP g)) (hS : va_S (gP g) s.heap H locs)
    (kk : ∀ (ed2 : Nat → Nat) (H1 : Heap) (locs1 : List Loc), HW g ed2 C2 R2 H1 → va_S (gP g) s.heap H1 locs1 → W p l e R0 s m args below meth c H1 locs1 (cells + mc) (slots + ms) Q (F0 m (pc + 3) ls (.ref (ed2 i) :: rest))) : W p l e R0 s m args below meth c H locs cells slots Q (F0 m pc ls st) := by
  intro T hT X
  obtain ⟨v, st₀, t, T', L, h0, X', hL, e1, e2, ⟨⟨ed2, hv, hw⟩, hz, hk⟩, stp⟩ := hr T hT X
  cases hv
  rw [h0] at hz hk
  obtain ⟨t2, a1, b1⟩ := kk ed2 T'.heap (locs ++ L) (by rw [e1]; exact hw)
    ⟨Nat.le_trans hS.1 (by rw [e1]; exact hz), fun q h1 h2 => by rw [e1, hk q (Nat.lt_of_lt_of_le h1 hS.1) h2]; exact hS.2.1 q h1 h2, fun q hq => by
      rcases List.mem_append.mp hq with h | h
      · exact hS.2.2 q h
      · exact hL q h⟩ T' rfl X'
  exact ⟨t2, stp t2 a1, b1⟩
theorem gcallVE (hC : CX p s m args c cc own g) (hE : EZ g s s.heap) (hml : c.maxLocals = nL) (hH : HW g ed C R H) (hS : va_S (gP g) s.heap H locs)
    (hM : Met l y (Cond.code y bytes maxL ret :: lwG) rm (va_Pc (v0 :: As) (PW g C R ed)) (QE g i C2 R2) mc ms (gP g)) (hw : Cond.methodLink own index y ∈ lwG ∧ Cond.instanceMethod y ∈ lwG ∧ Cond.selects Cn y y ∈ lwG ∧ Cond.initialized y.cls ∈ lwG ∧ Cond.code y bytes maxL ret ∈ lwG)
    (hd : y.cls ≠ "java/lang/invoke/MethodHandle" ∧ y.cls ≠ "java/lang/invoke/VarHandle" ∧ (parseMethodDescriptor y.desc).map (fun d => d.parameters.length) = some n) (hrc : rm.cells = mc) (hrs : rm.slots = ms) (hR : rm.frames + 1 ≤ R0.frames ∧ 8 + (maxL + 11) + rm.locals ≤ R0.locals)
    (hv0 : v0 = .ref b) (hrecv : ∃ cell : Cell, H[b]? = some cell ∧ cell.vm.isStatics = false ∧ s.vm.findClass Cn = some cell.cls) (hn : As.length = n) (hsize : ls.size = nL) (hst : st = As.reverse ++ v0 :: rest) (hW : (rest.map fun v => v.category).sum ≤ 8) (hdg : decode cc pc = .ok (.invokevirtual index, 3)) (hf : cells + mc ≤ R0.cells ∧ slots + ms ≤ R0.slots)
    (kk : ∀ (ed2 : Nat → Nat) (H1 : Heap) (locs1 : List Loc), HW g ed2 C2 R2 H1 → va_S (gP g) s.heap H1 locs1 → W p l e R0 s m args below meth c H1 locs1 (cells + mc) (slots + ms) Q (F0 m (pc + 3) ls (.ref (ed2 i) :: rest))) : W p l e R0 s m args below meth c H locs cells slots Q (F0 m pc ls st) := by
  have hC0 := hC
  obtain ⟨hx, hb, hown, hts, hK, hA⟩ := hC
  subst hv0
  refine g_afterE (As := .ref b :: As) (va_runV (Ts := lwG) (own := own) (rest := rest) ⟨hx, hb, hml, hown, hts⟩ hM ⟨callB_of n hts (g_ws hw.2.2.2.2) rfl hrc hrs (hts _ hw.2.2.2.1) (hts _ hw.1) hd hR, hts _ hw.2.1, hts _ hw.2.2.1⟩ ⟨PW_blind, hrecv, fun U hU hW => g_pre hC0 hE hH hS U hU hW⟩ rfl hn hsize hst (lv_room hW) hdg hf) hS kk
end GROW
theorem mx1 {C : St} : F_J9_max_7cf53 (10 : Int32) (1 : Int32) C = some (10, C) := rfl
set_option maxHeartbeats 4000000 in
set_option maxRecDepth 100000 in
theorem c_grow1 {l : Launch} {g : GP} {ed : Nat → Nat} {Z : St} {i : Nat} (hi : i < 3) {C : St} (hcap : C 17 i 3 0 = 0) (hel : ∀ j, j < 10 → C 18 i 0 j = -1) : Met l yJx4a65c_grow_92f84 (Cond.code yJx4a65c_grow_92f84 cJx4a65c_grow_92f84 4 (some (.array (.object "java/lang/Object"))) :: lwG) ({ frames := 1, cells := 1, slots := 10, locals := 21 } : Room) (va_Pc [.ref (gA g 17 i), .int (1 : Int32)] (PW g C Z ed)) (QE g i (up C 17 i 3 0 1) Z) 1 10 (gP g) := by
  refine Met.ofW (cc := cJx4a65c_grow_92f84) (maxL := 4) (ret := some (.array (.object "java/lang/Object"))) (by decide +kernel) rfl ?_
  intro p e s m args below meth c s₁ B hml hv
  obtain ⟨ha, hC, hE, hr, hlk, hH⟩ := g_start B hv
  subst ha
  have hC : CX p s m ([.ref (gA g 17 i), .int (1 : Int32)] : List Value).toArray c cJx4a65c_grow_92f84 RJx4a65c g := hC
  have hS : va_S (gP g) s.heap s.heap [] := va_S.rf
  obtain ⟨ls, he, hl⟩ := g_entry m (vs := [.ref (gA g 17 i), .int (1 : Int32)]) (n := 4) (List.forall_mem_cons.mpr ⟨rfl, (List.forall_mem_cons.mpr ⟨rfl, (fun _ h => absurd h List.not_mem_nil)⟩)⟩) (Nat.le_of_ble_eq_true rfl)
  rw [he]
  have hl : lv_has ls 4 [(0, .ref (gA g 17 i)), (1, .int (1 : Int32))] := hl
  refine lv_aload_n hC.1 hC.2.1 dJx4a65c_grow_92f84_0 rfl (lv_at hl 0 rfl) ?_
  refine el_getE hC hH hi hcap rfl dJx4a65c_grow_92f84_1 ?_
  refine va_tlen hC.1 hC.2.1 hE.2 hS (v := 0) rfl dJx4a65c_grow_92f84_4 ?_
  refine lv_istore_n (i := 2) (lv' := [(2, .int (0 : Int32)), (0, .ref (gA g 17 i)), (1, .int (1 : Int32))]) hC.1 hC.2.1 dJx4a65c_grow_92f84_5 rfl hl (by decide) rfl (fun ls hl => ?_)
  refine lv_iload_n hC.1 hC.2.1 dJx4a65c_grow_92f84_6 rfl (lv_at hl 0 rfl) ?_
  refine lv_if_gt (tgt := 20) hC.1 hC.2.1 dJx4a65c_grow_92f84_7 (by decide) (fun hc => absurd hc (by decide)) (fun _ => ?_)
  refine lv_aload_n hC.1 hC.2.1 dJx4a65c_grow_92f84_10 rfl (lv_at hl 1 rfl) ?_
  refine el_getE hC hH hi hcap rfl dJx4a65c_grow_92f84_11 ?_
  refine va_gets (ref := "java/util/ArrayList") hC.1 hC.2.1 hE.1 hS hC.2.2.1 (hC.2.2.2.1 _ wd_262) (fun _ h => h) dJx4a65c_grow_92f84_14 ?_
  refine lv_acmp_eq (rx := some (ge g)) (ry := some (ge g)) (tgt := 45) hC.1 hC.2.1 dJx4a65c_grow_92f84_17 (by decide) (fun _ => ?_) (fun h => absurd rfl h)
  refine lv_aload_n hC.1 hC.2.1 dJx4a65c_grow_92f84_45 rfl (lv_at hl 1 rfl) ?_
  refine lv_bipush (v := (10 : Int32)) hC.1 hC.2.1 dJx4a65c_grow_92f84_46 (by decide) ?_
  refine lv_iload_n hC.1 hC.2.1 dJx4a65c_grow_92f84_48 rfl (lv_at hl 2 rfl) ?_
  refine gcallS (As := [.int (10 : Int32), .int (1 : Int32)]) (rest := [.ref (gA g 17 i)]) hC hE hml hH hS (c_J9_max_7cf53 mx1) ⟨wd_796, wd_40, wd_3, wd_41⟩ hd_J9_max_7cf53 rfl rfl ⟨Nat.le_of_ble_eq_true rfl, Nat.le_of_ble_eq_true rfl⟩ rfl hl.1 rfl (Nat.le_of_ble_eq_true rfl) dJx4a65c_grow_92f84_49 ⟨Nat.le_of_ble_eq_true rfl, Nat.le_of_ble_eq_true rfl⟩ (fun ed H locs hH hS => ?_)
  refine W.eq (g2 := F0 m 52 ls [.int (10 : Int32), .ref (gA g 17 i)]) rfl ?_
  refine va_newq (C := "java/lang/Object") (N' := 10) hC.1 hC.2.1 hC.2.2.1 (hC.2.2.2.1 _ wd_797) (hC.2.2.2.2.2.2 _ w_ao) hC.2.2.2.2.1 (wsl_P hH) (wsl_D hH) hS hC.2.2.2.2.2.1 (by decide) (by decide) (by decide) (Nat.le_of_ble_eq_true rfl) (Nat.le_of_ble_eq_true rfl) dJx4a65c_grow_92f84_52 (fun q cA H1 hK1 hP1 hD1 hS1 => ?_)
  have hcA : cA = gc g 5 := by
    have h1 := (hK1.2 7 (cA, .object "java/lang/Object") rfl).2
    have h2 := (hC.2.2.2.2.1.2 5 (gc g 5, .object "java/lang/Object") rfl).2
    obtain ⟨_, _, _, _, _, h1⟩ := h1
    obtain ⟨_, _, _, _, _, h2⟩ := h2
    exact Option.some.inj (h1.symm.trans h2)
  subst hcA
  refine lv_dup_x1 hC.1 hC.2.1 dJx4a65c_grow_92f84_55 rfl rfl ?_
  obtain ⟨k, hk⟩ := wsl_at (g := g) (ed := ed) (C := C) (R := Z) (q := 17) (i := i) ⟨hi, fun h => absurd h (by decide)⟩
  have hkl := (List.getElem?_eq_some_iff.mp hk).1
  have h17 : va_at (gD g) vwCl (gA g 17 i, .inr (0, [.int (C 17 i 0 0), .ref (if C 17 i 3 0 = 0 then ge g else ed i), .int (C 17 i 2 0)])) H1 := hP1 k _ (by rw [List.getElem?_append_left hkl]; exact hk)
  refine hw_put0 (Cn := RJx4a65c) (T := TJx4a65c) (N := 3) hC hS1 uw_Jx4a65c tyJx4a65c tyJx4a65c_ok nmJx4a65c h17 (hH.2.2 17 i ⟨hi, fun h => absurd h (by decide)⟩) rfl 1 (by decide) wd_264 (Or.inl rfl) rfl (ty := .array (.object "java/lang/Object")) (by decide +kernel) rfl rfl (Nat.le_of_ble_eq_true rfl) rfl dJx4a65c_grow_92f84_56 (fun H2 locs2 hat oq hS2 => ?_)
  have hH2 := HW.grow hi hH hcap hel hP1 hD1 hat oq
  refine W.widen (k := 1) (n := 10) (Nat.le_of_ble_eq_true rfl) (Nat.le_of_ble_eq_true rfl) ?_
  exact W.aret hC.1 hC.2.1 hr (Or.inr ⟨_, rfl⟩) (Or.inr ⟨_, rfl⟩) (fun t ht _ => ⟨⟨upn ed i q, by show _ = Outcome.returned (some (.ref (upn ed i q i))); unfold upn; rw [if_pos rfl], by rw [ht]; exact hH2⟩, hS2.F ht⟩) hS2.2.2 dJx4a65c_grow_92f84_59 (hlocks := hlk)
set_option maxHeartbeats 4000000 in
set_option maxRecDepth 100000 in
theorem c_grow0 {l : Launch} {g : GP} {ed : Nat → Nat} {Z : St} {i : Nat} (hi : i < 3) {C : St} (hcap : C 17 i 3 0 = 0) (hsz : C 17 i 2 0 = 0) (hel : ∀ j, j < 10 → C 18 i 0 j = -1) : Met l yJx4a65c_grow_d5877 (Cond.code yJx4a65c_grow_d5877 cJx4a65c_grow_d5877 1 (some (.array (.object "java/lang/Object"))) :: lwG) ({ frames := 2, cells := 1, slots := 10, locals := 44 } : Room) (va_Pc [.ref (gA g 17 i)] (PW g C Z ed)) (QE g i (up C 17 i 3 0 1) Z) 1 10 (gP g) := by
  refine Met.ofW (cc := cJx4a65c_grow_d5877) (maxL := 1) (ret := some (.array (.object "java/lang/Object"))) (by decide +kernel) rfl ?_
  intro p e s m args below meth c s₁ B hml hv
  obtain ⟨ha, hC, hE, hr, hlk, hH⟩ := g_start B hv
  subst ha
  have hC : CX p s m ([.ref (gA g 17 i)] : List Value).toArray c cJx4a65c_grow_d5877 RJx4a65c g := hC
  have hS : va_S (gP g) s.heap s.heap [] := va_S.rf
  obtain ⟨ls, he, hl⟩ := g_entry m (vs := [.ref (gA g 17 i)]) (n := 1) (List.forall_mem_cons.mpr ⟨rfl, (fun _ h => absurd h List.not_mem_nil)⟩) (Nat.le_of_ble_eq_true rfl)
  rw [he]
  have hl : lv_has ls 1 [(0, .ref (gA g 17 i))] := hl
  refine lv_aload_n hC.1 hC.2.1 dJx4a65c_grow_d5877_0 rfl (lv_at hl 0 rfl) ?_
  refine lv_aload_n hC.1 hC.2.1 dJx4a65c_grow_d5877_1 rfl (lv_at hl 0 rfl) ?_
  refine gf_RJx4a65c_48 hC hH hi rfl dJx4a65c_grow_d5877_2 ?_
  refine lv_iconst (v := (1 : Int32)) hC.1 hC.2.1 dJx4a65c_grow_d5877_5 (by decide) ?_
  refine lv_iadd hC.1 hC.2.1 dJx4a65c_grow_d5877_6 ?_
  refine W.eq (g2 := F0 m 7 ls [.int (1 : Int32), .ref (gA g 17 i)]) (by rw [hsz]; rfl) ?_
  refine gcallVE (As := [.int (1 : Int32)]) (rest := []) (Cn := RJx4a65c) hC hE hml hH hS (c_grow1 hi hcap hel) ⟨wd_755, wd_757, wp_13, wd_11, wd_758⟩ hd_Jx4a65c_grow_92f84 rfl rfl ⟨Nat.le_of_ble_eq_true rfl, Nat.le_of_ble_eq_true rfl⟩ rfl (hw_recv (q := 17) (i := i) hC hH ⟨hi, fun h => absurd h (by decide)⟩ rfl rfl) rfl hl.1 rfl (Nat.le_of_ble_eq_true rfl) dJx4a65c_grow_d5877_7 ⟨Nat.le_of_ble_eq_true rfl, Nat.le_of_ble_eq_true rfl⟩ (fun ed H locs hH hS => ?_)
  refine W.widen (k := 1) (n := 10) (Nat.le_of_ble_eq_true rfl) (Nat.le_of_ble_eq_true rfl) ?_
  exact W.aret hC.1 hC.2.1 hr (Or.inr ⟨_, rfl⟩) (Or.inr ⟨_, rfl⟩) (fun t ht _ => ⟨⟨ed, rfl, by rw [ht]; exact hH⟩, hS.F ht⟩) hS.2.2 dJx4a65c_grow_d5877_10 (hlocks := hlk)
set_option maxHeartbeats 4000000 in
set_option maxRecDepth 100000 in
theorem c_add3 {l : Launch} {g : GP} {ed : Nat → Nat} {Z : St} {i : Nat} (hi : i < 3) {x1 : Int32} {C : St} (hx1 : inb x1 6 = true) (hok : C 17 i 3 0 = 1 ∨ (C 17 i 3 0 = 0 ∧ C 17 i 2 0 = 0 ∧ ∀ j, j < 10 → C 18 i 0 j = -1)) (hsz : inb (C 17 i 2 0) 10 = true) : Met l yJx4a65c_add_72be8 (Cond.code yJx4a65c_add_72be8 cJx4a65c_add_72be8 4 none :: lwG) ({ frames := 3, cells := 1, slots := 10, locals := 64 } : Room) (va_Pc [.ref (gA g 17 i), rfv (gA g) 6 x1, .ref (if C 17 i 3 0 = 0 then ge g else ed i), .int (C 17 i 2 0)] (PW g C Z ed)) (QG none g (up (up (up C 17 i 3 0 1) 18 i 0 (C 17 i 2 0).toNatClampNeg x1) 17 i 2 0 (C 17 i 2 0 + 1)) Z) 1 10 (gP g) := by
  refine Met.ofW (cc := cJx4a65c_add_72be8) (maxL := 4) (ret := none) (by decide +kernel) rfl ?_
  intro p e s m args below meth c s₁ B hml hv
  obtain ⟨ha, hC, hE, hr, hlk, hH⟩ := g_start B hv
  subst ha
  have hC : CX p s m ([.ref (gA g 17 i), rfv (gA g) 6 x1, .ref (if C 17 i 3 0 = 0 then ge g else ed i), .int (C 17 i 2 0)] : List Value).toArray c cJx4a65c_add_72be8 RJx4a65c g := hC
  have hS : va_S (gP g) s.heap s.heap [] := va_S.rf
  obtain ⟨ls, he, hl⟩ := g_entry m (vs := [.ref (gA g 17 i), rfv (gA g) 6 x1, .ref (if C 17 i 3 0 = 0 then ge g else ed i), .int (C 17 i 2 0)]) (n := 4) (List.forall_mem_cons.mpr ⟨rfl, (List.forall_mem_cons.mpr ⟨rfv_cat, (List.forall_mem_cons.mpr ⟨rfl, (List.forall_mem_cons.mpr ⟨rfl, (fun _ h => absurd h List.not_mem_nil)⟩)⟩)⟩)⟩) (Nat.le_of_ble_eq_true rfl)
  rw [he]
  have hl : lv_has ls 4 [(0, .ref (gA g 17 i)), (1, rfv (gA g) 6 x1), (2, .ref (if C 17 i 3 0 = 0 then ge g else ed i)), (3, .int (C 17 i 2 0))] := hl
  have fin : ∀ (D : St) (ed2 : Nat → Nat) (H : Heap) (locs : List Loc) (ls : Array Slot) (k n : Nat), k ≤ 1 → n ≤ 10 → ¬ D 17 i 3 0 = 0 → HW g ed2 D Z H → va_S (gP g) s.heap H locs → lv_has ls 4 [(0, .ref (gA g 17 i)), (1, rfv (gA g) 6 x1), (2, .ref (ed2 i)), (3, .int (C 17 i 2 0))] → W p l e ({ frames := 3, cells := 1, slots := 10, locals := 64 } : Room) s m ([.ref (gA g 17 i), rfv (gA g) 6 x1, .ref (if C 17 i 3 0 = 0 then ge g else ed i), .int (C 17 i 2 0)] : List Value).toArray below meth c H locs k n (MQ below (QG none g (up (up D 18 i 0 (C 17 i 2 0).toNatClampNeg x1) 17 i 2 0 (C 17 i 2 0 + 1)) Z) ([.ref (gA g 17 i), rfv (gA g) 6 x1, .ref (if C 17 i 3 0 = 0 then ge g else ed i), .int (C 17 i 2 0)] : List Value).toArray s 1 10 (gP g)) (F0 m 11 ls []) := by
    intro D ed2 H locs ls k n hk hn hcap hH hS hl
    refine lv_aload_n hC.1 hC.2.1 dJx4a65c_add_72be8_11 rfl (lv_at hl 2 rfl) ?_
    refine lv_iload_n hC.1 hC.2.1 dJx4a65c_add_72be8_12 rfl (lv_at hl 3 rfl) ?_
    refine gl_aload_n hC dJx4a65c_add_72be8_13 rfl (lv_at hl 1 rfl) ?_
    refine el_ast hC hH hS hi hcap hsz hx1 dJx4a65c_add_72be8_14 (fun H locs hH hS => ?_)
    refine lv_aload_n hC.1 hC.2.1 dJx4a65c_add_72be8_15 rfl (lv_at hl 0 rfl) ?_
    refine lv_iload_n hC.1 hC.2.1 dJx4a65c_add_72be8_16 rfl (lv_at hl 3 rfl) ?_
    refine lv_iconst (v := (1 : Int32)) hC.1 hC.2.1 dJx4a65c_add_72be8_17 (by decide) ?_
    refine lv_iadd hC.1 hC.2.1 dJx4a65c_add_72be8_18 ?_
    refine pf_RJx4a65c_48 hC hH hS hi rfl dJx4a65c_add_72be8_19 (fun H locs hH hS => ?_)
    exact gret_v hC hr hlk hH hS hk hn dJx4a65c_add_72be8_22
  have hW0 : W p l e ({ frames := 3, cells := 1, slots := 10, locals := 64 } : Room) s m ([.ref (gA g 17 i), rfv (gA g) 6 x1, .ref (if C 17 i 3 0 = 0 then ge g else ed i), .int (C 17 i 2 0)] : List Value).toArray below meth c s.heap [] 0 0 (MQ below (QG none g (up (up (up C 17 i 3 0 1) 18 i 0 (C 17 i 2 0).toNatClampNeg x1) 17 i 2 0 (C 17 i 2 0 + 1)) Z) ([.ref (gA g 17 i), rfv (gA g) 6 x1, .ref (if C 17 i 3 0 = 0 then ge g else ed i), .int (C 17 i 2 0)] : List Value).toArray s 1 10 (gP g)) (F0 m 0 ls []) := by
    by_cases hc0 : C 17 i 3 0 = 0
    · have hok2 : C 17 i 2 0 = 0 ∧ ∀ j, j < 10 → C 18 i 0 j = -1 := by
        rcases hok with h | h
        · rw [hc0] at h; exact absurd h (by decide)
        · exact h.2
      rw [if_pos hc0] at hl
      refine lv_iload_n hC.1 hC.2.1 dJx4a65c_add_72be8_0 rfl (lv_at hl 3 rfl) ?_
      refine lv_aload_n hC.1 hC.2.1 dJx4a65c_add_72be8_1 rfl (lv_at hl 2 rfl) ?_
      refine va_tlen hC.1 hC.2.1 hE.2 hS (v := 0) rfl dJx4a65c_add_72be8_2 ?_
      refine lv_icmp_ne (tgt := 11) hC.1 hC.2.1 dJx4a65c_add_72be8_3 (by decide) (fun hc => absurd hok2.1 hc) (fun _ => ?_)
      refine lv_aload_n hC.1 hC.2.1 dJx4a65c_add_72be8_6 rfl (lv_at hl 0 rfl) ?_
      refine gcallVE (As := []) (rest := []) (Cn := RJx4a65c) hC hE hml hH hS (c_grow0 hi hc0 hok2.1 hok2.2) ⟨wd_751, wd_753, wp_12, wd_11, wd_754⟩ hd_Jx4a65c_grow_d5877 rfl rfl ⟨Nat.le_of_ble_eq_true rfl, Nat.le_of_ble_eq_true rfl⟩ rfl (hw_recv (q := 17) (i := i) hC hH ⟨hi, fun h => absurd h (by decide)⟩ rfl rfl) rfl hl.1 rfl (Nat.le_of_ble_eq_true rfl) dJx4a65c_add_72be8_7 ⟨Nat.le_of_ble_eq_true rfl, Nat.le_of_ble_eq_true rfl⟩ (fun ed2 H locs hH hS => ?_)
      refine lv_astore_n (i := 2) (lv' := [(2, .ref (ed2 i)), (0, .ref (gA g 17 i)), (1, rfv (gA g) 6 x1), (3, .int (C 17 i 2 0))]) hC.1 hC.2.1 dJx4a65c_add_72be8_10 rfl hl (by decide) (by simp [rfv_cat]) (fun ls hl => ?_)
      exact fin (up C 17 i 3 0 1) ed2 _ _ _ _ _ (Nat.le_of_ble_eq_true rfl) (Nat.le_of_ble_eq_true rfl) (by rw [up17, if_pos rfl]; decide) hH hS (lv_sub hl [1, 2, 0, 3] rfl)
    · rw [if_neg hc0] at hl
      refine lv_iload_n hC.1 hC.2.1 dJx4a65c_add_72be8_0 rfl (lv_at hl 3 rfl) ?_
      refine lv_aload_n hC.1 hC.2.1 dJx4a65c_add_72be8_1 rfl (lv_at hl 2 rfl) ?_
      refine el_len hC hH hi hc0 dJx4a65c_add_72be8_2 ?_
      refine lv_icmp_ne (tgt := 11) hC.1 hC.2.1 dJx4a65c_add_72be8_3 (by decide) (fun _ => ?_) (fun hc => ?_)
      · have hq := fin C ed _ _ _ 0 0 (by decide) (by decide) hc0 hH hS hl
        have hone : up C 17 i 3 0 1 = C := by
          rcases hok with h | h
          · exact up_id h
          · exact absurd h.1 hc0
        rw [hone]
        exact hq
      · rw [hc] at hsz
        exact absurd hsz (by decide)
  exact hW0
set_option maxHeartbeats 4000000 in
set_option maxRecDepth 100000 in
theorem c_Jx4a65c_add_9ea2d {l : Launch} {g : GP} {ed : Nat → Nat} {Z : St} {i : Nat} (hi : i < 3) {x1 : Int32} {C : St} {r : Int32} {C2 : St} (h : F_Jx4a65c_add_9ea2d i x1 C = some (r, C2)) : Met l yJx4a65c_add_9ea2d (Cond.code yJx4a65c_add_9ea2d cJx4a65c_add_9ea2d 2 (some .boolean) :: lwG) ({ frames := 4, cells := 1, slots := 10, locals := 90 } : Room) (va_Pc [.ref (gA g 17 i), rfv (gA g) 6 x1] (PW g C Z ed)) (QG (some (.int r)) g C2 Z) 1 10 (gP g) := by
  refine Met.ofW (cc := cJx4a65c_add_9ea2d) (maxL := 2) (ret := some .boolean) (by decide +kernel) rfl ?_
  intro p e s m args below meth c s₁ B hml hv
  obtain ⟨ha, hC, hE, hr, hlk, hH⟩ := g_start B hv
  subst ha
  have hC : CX p s m ([.ref (gA g 17 i), rfv (gA g) 6 x1] : List Value).toArray c cJx4a65c_add_9ea2d RJx4a65c g := hC
  have hS : va_S (gP g) s.heap s.heap [] := va_S.rf
  obtain ⟨ls, he, hl⟩ := g_entry m (vs := [.ref (gA g 17 i), rfv (gA g) 6 x1]) (n := 2) (List.forall_mem_cons.mpr ⟨rfl, (List.forall_mem_cons.mpr ⟨rfv_cat, (fun _ h => absurd h List.not_mem_nil)⟩)⟩) (Nat.le_of_ble_eq_true rfl)
  rw [he]
  have hl : lv_has ls 2 [(0, .ref (gA g 17 i)), (1, rfv (gA g) 6 x1)] := hl
  unfold F_Jx4a65c_add_9ea2d at h
  obtain ⟨hx1, h⟩ := gd_some h
  obtain ⟨hok, h⟩ := gd_some h
  obtain ⟨hsz, h⟩ := gd_some h
  refine lv_aload_n hC.1 hC.2.1 dJx4a65c_add_9ea2d_0 rfl (lv_at hl 0 rfl) ?_
  refine lv_dup hC.1 hC.2.1 dJx4a65c_add_9ea2d_1 rfl ?_
  refine gf_RJx4a65c_63 hC hH hi rfl dJx4a65c_add_9ea2d_2 ?_
  refine lv_iconst (v := (1 : Int32)) hC.1 hC.2.1 dJx4a65c_add_9ea2d_5 (by decide) ?_
  refine lv_iadd hC.1 hC.2.1 dJx4a65c_add_9ea2d_6 ?_
  refine pf_RJx4a65c_63 hC hH hS hi rfl dJx4a65c_add_9ea2d_7 (fun H locs hH hS => ?_)
  generalize hD : up C 17 i 0 0 (C 17 i 0 0 + 1) = D at hH h
  have e3 : D 17 i 3 0 = C 17 i 3 0 := by rw [← hD, up_s]; simp [up2]
  have e2 : D 17 i 2 0 = C 17 i 2 0 := by rw [← hD, up_s]; simp [up2]
  have e18 : ∀ j, D 18 i 0 j = C 18 i 0 j := fun j => by rw [← hD, up_ne C 0 0 _ (fun e => absurd e.1 (by decide))]
  have hok2 : D 17 i 3 0 = 1 ∨ (D 17 i 3 0 = 0 ∧ D 17 i 2 0 = 0 ∧ ∀ j, j < 10 → D 18 i 0 j = -1) := by
    unfold al_ok at hok
    rcases (Bool.or_eq_true _ _).mp hok with h1 | h1
    · left; rw [e3]; exact of_decide_eq_true h1
    · right
      obtain ⟨h2, h3⟩ := (Bool.and_eq_true _ _).mp h1
      obtain ⟨h3, h4⟩ := (Bool.and_eq_true _ _).mp h3
      exact ⟨by rw [e3]; exact of_decide_eq_true h2, by rw [e2]; exact of_decide_eq_true h3, fun j hj => by rw [e18]; exact of_decide_eq_true (List.all_eq_true.mp h4 j (List.mem_range.mpr hj))⟩
  rw [← e2] at hsz h
  refine lv_aload_n hC.1 hC.2.1 dJx4a65c_add_9ea2d_10 rfl (lv_at hl 0 rfl) ?_
  refine gl_aload_n hC dJx4a65c_add_9ea2d_11 rfl (lv_at hl 1 rfl) ?_
  refine lv_aload_n hC.1 hC.2.1 dJx4a65c_add_9ea2d_12 rfl (lv_at hl 0 rfl) ?_
  refine hw_get (q := 17) (i := i) (Cn := RJx4a65c) (T := TJx4a65c) (N := 3) hC hH uw_Jx4a65c ⟨hi, fun h => absurd h (by decide)⟩ (im_17 _ _ _ _) rfl 1 (by decide) wd_264 rfl (v := .ref (if D 17 i 3 0 = 0 then ge g else ed i)) rfl rfl dJx4a65c_add_9ea2d_13 ?_
  refine lv_aload_n hC.1 hC.2.1 dJx4a65c_add_9ea2d_16 rfl (lv_at hl 0 rfl) ?_
  refine gf_RJx4a65c_48 hC hH hi rfl dJx4a65c_add_9ea2d_17 ?_
  refine gcallV (As := [rfv (gA g) 6 x1, .ref (if D 17 i 3 0 = 0 then ge g else ed i), .int (D 17 i 2 0)]) (rest := []) (Cn := RJx4a65c) hC hE hml hH hS (c_add3 hi hx1 hok2 hsz) ⟨wd_747, wd_749, wp_11, wd_11, wd_750⟩ hd_Jx4a65c_add_72be8 rfl rfl ⟨Nat.le_of_ble_eq_true rfl, Nat.le_of_ble_eq_true rfl⟩ rfl (hw_recv (q := 17) (i := i) hC hH ⟨hi, fun h => absurd h (by decide)⟩ rfl rfl) rfl hl.1 rfl (Nat.le_of_ble_eq_true rfl) dJx4a65c_add_9ea2d_20 ⟨Nat.le_of_ble_eq_true rfl, Nat.le_of_ble_eq_true rfl⟩ (fun ed H locs hH hS => ?_)
  refine W.eq (g2 := F0 m 23 ls []) rfl ?_
  refine lv_iconst (v := (1 : Int32)) hC.1 hC.2.1 dJx4a65c_add_9ea2d_23 (by decide) ?_
  cases h
  exact gret_z hC hr hlk (by decide) hH hS (Nat.le_of_ble_eq_true rfl) (Nat.le_of_ble_eq_true rfl) dJx4a65c_add_9ea2d_24
