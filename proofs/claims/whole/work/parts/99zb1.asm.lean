abbrev ap (a b : va_W) : va_W := a ++ b
/-! FROM THE LISTS BEHIND THE TWO CONSTRUCTORS TO THE WORLD (by lawasm.py) -/
theorem hw_list {g : GP} {ed : Nat → Nat} {C R : St} {H : Heap} (dom : List (Nat × Nat)) (hc : ∀ q i, dm g C q i → (q, i) ∈ dom) (hP : va_P (gD g) vwCl (dom.map fun x => (adr g ed x.1 x.2, imgF g ed x.1 x.2 (sel C R x.1 x.1 x.2))) H) (hD : va_D (gP g) (dom.map fun x => (adr g ed x.1 x.2, imgF g ed x.1 x.2 (sel C R x.1 x.1 x.2)))) : HW g ed C R H := by
  have at' : ∀ q i, dm g C q i → ∃ k : Nat, dom[k]? = some (q, i) := fun q i h => List.getElem?_of_mem (hc q i h)
  have pl : ∀ (k q i : Nat), dom[k]? = some (q, i) → (dom.map fun x => (adr g ed x.1 x.2, imgF g ed x.1 x.2 (sel C R x.1 x.1 x.2)))[k]? = some (adr g ed q i, imgF g ed q i (sel C R q q i)) := fun k q i hk => by rw [List.getElem?_map, hk]; rfl
  refine ⟨fun q i h => ?_, fun q i q2 i2 h h2 e => ?_, fun q i h => ?_⟩
  · obtain ⟨k, hk⟩ := at' q i h
    exact hP k _ (pl k q i hk)
  · obtain ⟨k, hk⟩ := at' q i h
    obtain ⟨k2, hk2⟩ := at' q2 i2 h2
    have e2 := hD.1 k k2 _ _ (pl k q i hk) (pl k2 q2 i2 hk2) e
    rw [e2, hk2] at hk
    have e3 := Option.some.inj hk
    exact ⟨(Prod.mk.inj e3).1.symm, (Prod.mk.inj e3).2.symm⟩
  · obtain ⟨k, hk⟩ := at' q i h
    exact hD.2 k _ (pl k q i hk)
theorem at_q {D : va_G} {cl : List vw_C} {a n : Nat} {cA : ClassId} {f f' : Nat → Option Nat} {H : Heap} (h : va_at D cl (a, .inl (cA, n, .inr (.inr (.inr (.inr f))))) H) (e : ∀ j, j < n → f j = f' j) : va_at D cl (a, .inl (cA, n, .inr (.inr (.inr (.inr f'))))) H := by
  have e2 : vp_cell cA (n, .inr (.inr (.inr (.inr f)))) = vp_cell cA (n, .inr (.inr (.inr (.inr f')))) := by
    rw [vp_cell_q, vp_cell_q]
    unfold arrV
    have e3 : (fun j : Fin n => va_rf (f j.val)) = fun j : Fin n => va_rf (f' j.val) := funext fun j => by rw [e j.val j.isLt]
    rw [e3]
  show H[a]? = some (vp_cell cA (n, .inr (.inr (.inr (.inr f')))))
  rw [← e2]
  exact h
theorem P_mid {D : va_G} {cl : List vw_C} {a t b : va_W} {H : Heap} (h : va_P D cl (a ++ (t ++ b)) H) : va_P D cl ((a ++ b) ++ t) H := va_P.swap (by rw [List.append_assoc]; exact h)
theorem D_mid {A : Nat → Prop} {a t b : va_W} (h : va_D A (a ++ (t ++ b))) : va_D A ((a ++ b) ++ t) := va_D.swap (by rw [List.append_assoc]; exact h)
theorem fst_app {a b c d : va_W} (h : a.map Prod.fst = b.map Prod.fst) (h2 : c.map Prod.fst = d.map Prod.fst) : (ap a c).map Prod.fst = (ap b d).map Prod.fst := by
  unfold ap
  rw [List.map_append, List.map_append, h, h2]
theorem D_same {A : Nat → Prop} {a b : va_W} (h : va_D A a) (e : b.map Prod.fst = a.map Prod.fst) : va_D A b := by
  have key : ∀ (k : Nat) (q : Nat × va_E), b[k]? = some q → ∃ q2 : Nat × va_E, a[k]? = some q2 ∧ q2.1 = q.1 := by
    intro k q hk
    have h1 : (b.map Prod.fst)[k]? = some q.1 := by rw [List.getElem?_map, hk]; rfl
    rw [e, List.getElem?_map] at h1
    cases ha : a[k]? with
    | none => rw [ha] at h1; cases h1
    | some q2 => rw [ha] at h1; exact ⟨q2, rfl, Option.some.inj h1⟩
  refine ⟨fun i j p q hi hj e2 => ?_, fun k q hk => ?_⟩
  · obtain ⟨p2, hp2, ep⟩ := key i p hi
    obtain ⟨q2, hq2, eq⟩ := key j q hj
    exact h.1 i j p2 q2 hp2 hq2 (by rw [ep, eq, e2])
  · obtain ⟨q2, hq2, eq⟩ := key k q hk
    rw [← eq]
    exact h.2 k q2 hq2
def posd (q i : Nat) : Nat := match q with
  | 0 => 46
  | 1 => 47
  | 2 => (match i with | 0 => 48 | 1 => 52 | 2 => 126 | 3 => 119 | 4 => 112 | 5 => 105 | 6 => 98 | _ => 91)
  | 3 => (match i with | 0 => 49 | 1 => 53 | 2 => 127 | 3 => 120 | 4 => 113 | 5 => 106 | 6 => 99 | _ => 92)
  | 4 => 50
  | 5 => (match i with | 0 => 85 | 1 => 84 | 2 => 75 | 3 => 73 | 4 => 76 | 5 => 74 | _ => 68)
  | 6 => (match i with | 0 => 123 | 1 => 116 | 2 => 109 | 3 => 102 | 4 => 95 | _ => 88)
  | 7 => (match i with | 0 => 124 | 1 => 117 | 2 => 110 | 3 => 103 | 4 => 96 | _ => 89)
  | 8 => (match i with | 0 => 125 | 1 => 118 | 2 => 111 | 3 => 104 | 4 => 97 | _ => 90)
  | 9 => (match i with | 0 => 128 | 1 => 121 | 2 => 114 | 3 => 107 | 4 => 100 | _ => 93)
  | 10 => (match i with | 0 => 129 | 1 => 122 | 2 => 115 | 3 => 108 | 4 => 101 | _ => 94)
  | 11 => 51
  | 12 => 86
  | 13 => 87
  | 16 => 82
  | 17 => (match i with | 0 => 83 | 1 => 79 | _ => 70)
  | 19 => 77
  | 20 => 78
  | 21 => 80
  | 22 => 81
  | 23 => 69
  | 24 => 71
  | 25 => 72
  | 26 => 55
  | 27 => 56
  | 28 => 57
  | 29 => 58
  | 30 => (match i with | 0 => 59 | 1 => 60 | 2 => 61 | 3 => 62 | 4 => 63 | 5 => 64 | 6 => 65 | _ => 66)
  | 31 => 67
  | 32 => 54
  | 50 => 0
  | 103 => 45
  | 108 => 44
  | 109 => 1
  | 110 => 43
  | 111 => 2
  | 112 => 42
  | 113 => 41
  | 114 => 40
  | 115 => 39
  | 116 => 38
  | 117 => 37
  | 118 => 36
  | 119 => 35
  | 120 => 34
  | 121 => 33
  | 122 => 32
  | 123 => 31
  | 124 => 30
  | 126 => 29
  | 127 => 28
  | 128 => 3
  | 129 => 27
  | 130 => 26
  | 131 => 25
  | 132 => 24
  | 133 => 23
  | 134 => 22
  | 135 => 21
  | 136 => 20
  | 137 => 19
  | 138 => 18
  | 139 => 4
  | 140 => 17
  | 141 => 16
  | 142 => 15
  | 143 => 14
  | 156 => 13
  | 157 => 12
  | 158 => 11
  | 159 => 10
  | 163 => 9
  | 164 => 8
  | 165 => 7
  | 166 => 6
  | 170 => 5
  | _ => 0
def Aof (lad : List Nat) (fa wa : Nat → Nat) (q i : Nat) : Nat := if q = 14 then fa i else if q = 15 then wa i else lad.getD (posd q i) 0
def gz (g : GP) (lad : List Nat) (fa wa : Nat → Nat) (N : Nat) : GP := (gD g, Aof lad fa wa, gc g, N, ge g, gP g)
def domH (t : List (Nat × Nat)) : List (Nat × Nat) := ([(50, 0), (109, 0), (111, 0), (128, 0), (139, 0)] ++ ([(170, 0)] ++ ([(166, 0)] ++ ([(165, 0)] ++ ([(164, 0)] ++ ([(163, 0)] ++ ([(159, 0)] ++ ([(158, 0)] ++ ([(157, 0)] ++ ([(156, 0)] ++ ([(143, 0)] ++ ([(142, 0)] ++ ([(141, 0)] ++ ([(140, 0)] ++ ([(138, 0)] ++ ([(137, 0)] ++ ([(136, 0)] ++ ([(135, 0)] ++ ([(134, 0)] ++ ([(133, 0)] ++ ([(132, 0)] ++ ([(131, 0)] ++ ([(130, 0)] ++ ([(129, 0)] ++ ([(127, 0)] ++ ([(126, 0)] ++ ([(124, 0)] ++ ([(123, 0)] ++ ([(122, 0)] ++ ([(121, 0)] ++ ([(120, 0)] ++ ([(119, 0)] ++ ([(118, 0)] ++ ([(117, 0)] ++ ([(116, 0)] ++ ([(115, 0)] ++ ([(114, 0)] ++ ([(113, 0)] ++ ([(112, 0)] ++ ([(110, 0)] ++ ([(108, 0)] ++ ([(103, 0)] ++ (([] : List (Nat × Nat))))))))))))))))))))))))))))))))))))))))))))) ++ ([(0, 0), (1, 0), (2, 0), (3, 0), (4, 0), (11, 0)] ++ ([(2, 1), (3, 1)] ++ ([(32, 0)] ++ ([(26, 0), (27, 0), (28, 0), (29, 0), (30, 0), (30, 1), (30, 2), (30, 3), (30, 4), (30, 5), (30, 6), (30, 7), (31, 0), (5, 6)] ++ ([(23, 0), (17, 2), (24, 0), (25, 0), (5, 3), (5, 5), (5, 2), (5, 4)] ++ ([(19, 0), (20, 0), (17, 1), (21, 0), (22, 0)] ++ ([(16, 0), (17, 0), (5, 1), (5, 0)] ++ ([(12, 0), (13, 0)] ++ (t ++ ([(6, 5), (7, 5), (8, 5), (2, 7), (3, 7), (9, 5), (10, 5)] ++ ([(6, 4), (7, 4), (8, 4), (2, 6), (3, 6), (9, 4), (10, 4)] ++ ([(6, 3), (7, 3), (8, 3), (2, 5), (3, 5), (9, 3), (10, 3)] ++ ([(6, 2), (7, 2), (8, 2), (2, 4), (3, 4), (9, 2), (10, 2)] ++ ([(6, 1), (7, 1), (8, 1), (2, 3), (3, 3), (9, 1), (10, 1)] ++ ([(6, 0), (7, 0), (8, 0), (2, 2), (3, 2), (9, 0), (10, 0)] ++ (([] : List (Nat × Nat))))))))))))))))))
def domF (N : Nat) : List (Nat × Nat) := (List.range N).flatMap fun f => [(14, f), (15, f)]
theorem cnt_gz (g g2 : GP) {q : Nat} (h14 : q ≠ 14) (h15 : q ≠ 15) : cnt g q = cnt g2 q := by
  unfold cnt
  split <;> first | rfl | exact absurd rfl h14 | exact absurd rfl h15
def gNil : GP := ((fun _ => (0 : Nat), fun _ _ => 0), fun _ _ => 0, fun _ => (0 : Nat), 0, 0, fun _ => True)
theorem dom0_ck : ((List.range 200).all fun q => q == 14 || (q == 15 || (q == 18 || (List.range (cnt gNil q)).all fun i => (domH []).contains (q, i)))) = true := by decide +kernel
theorem dom0_all : ∀ q, q < 200 → q ≠ 14 → q ≠ 15 → q ≠ 18 → ∀ i, i < cnt gNil q → (q, i) ∈ domH [] := by
  intro q hq h14 h15 h18 i hi
  have h := List.all_eq_true.mp dom0_ck q (List.mem_range.mpr hq)
  simp only [Bool.or_eq_true, beq_iff_eq] at h
  rcases h with h | h | h | h
  · exact absurd h h14
  · exact absurd h h15
  · exact absurd h h18
  · have h2 := List.all_eq_true.mp h i (List.mem_range.mpr hi)
    exact List.contains_iff_mem.mp h2

theorem domH_mono (t : List (Nat × Nat)) : (domH []).Sublist (domH t) := List.Sublist.append (List.Sublist.refl _) (List.Sublist.append (List.Sublist.refl _) (List.Sublist.append (List.Sublist.refl _) (List.Sublist.append (List.Sublist.refl _) (List.Sublist.append (List.Sublist.refl _) (List.Sublist.append (List.Sublist.refl _) (List.Sublist.append (List.Sublist.refl _) (List.Sublist.append (List.Sublist.refl _) (List.Sublist.append (List.Sublist.refl _) (List.Sublist.append (List.nil_sublist _) (List.Sublist.refl _))))))))))
theorem domH_hole {t : List (Nat × Nat)} {x : Nat × Nat} (h : x ∈ t) : x ∈ domH t := List.mem_append_right _ (List.mem_append_right _ (List.mem_append_right _ (List.mem_append_right _ (List.mem_append_right _ (List.mem_append_right _ (List.mem_append_right _ (List.mem_append_right _ (List.mem_append_right _ (List.mem_append_left _ h)))))))))
theorem dom_all {g : GP} {N : Nat} (hN : gn g = N) {q i : Nat} (h : i < cnt g q) (h18 : q ≠ 18) : (q, i) ∈ domH (domF N) := by
  by_cases e14 : q = 14
  · subst e14
    refine domH_hole (List.mem_flatMap.mpr ⟨i, List.mem_range.mpr (by rw [← hN]; exact h), ?_⟩)
    exact List.mem_cons_self
  · by_cases e15 : q = 15
    · subst e15
      refine domH_hole (List.mem_flatMap.mpr ⟨i, List.mem_range.mpr (by rw [← hN]; exact h), ?_⟩)
      exact List.mem_cons_of_mem _ List.mem_cons_self
    · refine (domH_mono _).subset (dom0_all q ?_ e14 e15 h18 i (by rw [← cnt_gz g gNil e14 e15]; exact h))
      rcases Nat.lt_or_ge q 200 with h1 | h1
      · exact h1
      · rw [cnt_big g h1] at h; omega
theorem domF_map {g : GP} {N : Nat} {fa wa : Nat → Nat} {lad : List Nat} {ed : Nat → Nat} {pg qm : Int32} {R : St} : (domF N).map (fun x => (adr (gz g lad fa wa N) ed x.1 x.2, imgF (gz g lad fa wa N) ed x.1 x.2 (sel (C0 pg qm) R x.1 x.1 x.2))) = tailF g fa wa N := by
  unfold domF tailF
  rw [List.map_flatMap]
  refine congrArg (fun z => List.flatMap z (List.range N)) (funext fun f => ?_)
  show [(fa f, (.inr (5, [.ref (wa f), rfv (gA (gz g lad fa wa N)) 6 (-1), .int 0, .int 0, .int 0, .int 0, .int 0]) : va_E)), (wa f, .inl (gc g 0, 16, .inl (fun _ => 0)))] = [(fa f, fcell (wa f)), (wa f, .inl (gc g 0, 16, .inl (fun _ => 0)))]
  rw [rfv_m1]
  rfl
