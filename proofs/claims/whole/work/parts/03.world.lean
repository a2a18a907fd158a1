/-! THE STATE AND THE WORLD: what each object and array holds, by its kind and its place -/
abbrev GP : Type := va_G × (Nat → Nat → Nat) × (Nat → ClassId) × Nat × Nat × (Nat → Prop)
def gD (g : GP) : va_G := g.1
def gA (g : GP) : Nat → Nat → Nat := g.2.1
def gc (g : GP) : Nat → ClassId := g.2.2.1
def gn (g : GP) : Nat := g.2.2.2.1
def ge (g : GP) : Nat := g.2.2.2.2.1
def gP (g : GP) : Nat → Prop := g.2.2.2.2.2
abbrev St : Type := Nat → Nat → Nat → Nat → Int32
def up2 (o : Nat → Nat → Int32) (k j : Nat) (v : Int32) : Nat → Nat → Int32 := fun a b => if a = k then (if b = j then v else o a b) else o a b
def up (C : St) (q i k j : Nat) (v : Int32) : St := fun a b => if a = q ∧ b = i then up2 (C q i) k j v else C a b
def rfv (ad : Nat → Nat → Nat) (q : Nat) (x : Int32) : Value := if x < 0 then .null else .ref (ad q x.toNatClampNeg)
def inb (x : Int32) (n : Nat) : Bool := !(decide (x < 0)) && decide (x.toNatClampNeg < n)
def rowLen (i : Nat) : Nat := if i = 0 then 10 else if i = 1 then 200 else 24
def imgF (g : GP) (ed : Nat → Nat) (q i : Nat) (o : Nat → Nat → Int32) : va_E := match q with
  | 0 => .inr (12, [.ref (gA g 1 0), .ref (gA g 11 0), .ref (gA g 12 0), .ref (gA g 16 0), .ref (gA g 19 0), .ref (gA g 23 0), .ref (gA g 26 0), .ref (gA g 32 0), .ref (gA g 2 1), .int (o 9 0)])
  | 1 => .inr (8, [.ref (gA g 2 0), .ref (gA g 4 0), .int (o 2 0), .int (o 3 0), .int (o 4 0)])
  | 2 => .inr (9, [.ref (gA g 3 i), .int (o 1 0)])
  | 3 => .inl (gc g 0, (rowLen i), .inl (o 0))
  | 4 => .inl (gc g 0, 10, .inl (o 0))
  | 5 => .inr (10, [.ref (gA g 1 0), .int (o 1 0), .int (o 2 0), .int (o 3 0), .int (o 4 0)])
  | 6 => .inr (6, [.int (o 0 0), .ref (gA g 7 i), .ref (gA g 8 i), .ref (gA g 2 (i + 2)), .ref (gA g 9 i), .ref (gA g 10 i), .int (o 6 0), .int (o 7 0), .int (o 8 0), .int (o 9 0), .int (o 10 0), .int (o 11 0), .int (o 12 0), .int (o 13 0), .int (o 14 0), .int (o 15 0), .int (o 16 0), .int (o 17 0), .int (o 18 0), .int (o 19 0)])
  | 7 => .inl (gc g 0, 128, .inl (o 0))
  | 8 => .inl (gc g 0, 40, .inl (o 0))
  | 9 => .inl (gc g 0, 3, .inl (o 0))
  | 10 => .inl (gc g 0, 3, .inl (o 0))
  | 11 => .inl (gc g 3, 6, .inr (.inr (.inr (.inr (fun j => some (gA g 6 j))))))
  | 12 => .inr (3, [.ref (gA g 13 0)])
  | 13 => .inl (gc g 4, (gn g), .inr (.inr (.inr (.inr (fun j => some (gA g 14 j))))))
  | 14 => .inr (5, [.ref (gA g 15 i), rfv (gA g) 6 (o 1 0), .int (o 2 0), .int (o 3 0), .int (o 4 0), .int (o 5 0), .int (o 6 0)])
  | 15 => .inl (gc g 0, 16, .inl (o 0))
  | 16 => .inr (11, [.ref (gA g 1 0), .ref (gA g 12 0), .ref (gA g 17 0), .ref (gA g 5 0), .ref (gA g 5 1), .int (o 5 0), .int (o 6 0), rfv (gA g) 14 (o 7 0), rfv (gA g) 6 (o 8 0), rfv (gA g) 6 (o 9 0), .int (o 10 0), .int (o 11 0), .int (o 12 0)])
  | 17 => .inr (0, [.int (o 0 0), .ref (if o 3 0 = 0 then ge g else ed i), .int (o 2 0)])
  | 18 => .inl (gc g 5, 10, .inr (.inr (.inr (.inr (fun j => if o 0 j < 0 then none else some (gA g 6 (o 0 j).toNatClampNeg))))))
  | 19 => .inr (1, [.ref (gA g 1 0), .ref (gA g 12 0), .ref (gA g 11 0), .int (o 3 0), .ref (gA g 20 0), .ref (gA g 17 1), .ref (gA g 21 0), .ref (gA g 22 0)])
  | 20 => .inl (gc g 0, 3, .inl (o 0))
  | 21 => .inl (gc g 0, 3, .inl (o 0))
  | 22 => .inl (gc g 2, 6, .inl (o 0))
  | 23 => .inr (4, [.ref (gA g 1 0), .ref (gA g 12 0), .ref (gA g 19 0), .ref (gA g 17 2), .ref (gA g 5 2), .ref (gA g 5 3), .ref (gA g 5 4), .ref (gA g 5 5), .int (o 8 0), .int (o 9 0), rfv (gA g) 6 (o 10 0), rfv (gA g) 6 (o 11 0), .ref (gA g 24 0), .ref (gA g 25 0), .int (o 14 0)])
  | 24 => .inl (gc g 0, 512, .inl (o 0))
  | 25 => .inl (gc g 0, 512, .inl (o 0))
  | 26 => .inr (2, [.ref (gA g 1 0), .ref (gA g 12 0), .ref (gA g 19 0), .ref (gA g 11 0), .ref (gA g 5 6), .ref (gA g 27 0), .int (o 6 0), .ref (gA g 28 0), .int (o 8 0), .ref (gA g 29 0), .ref (gA g 31 0), .int (o 11 0)])
  | 27 => .inl (gc g 1, 600, .inl (o 0))
  | 28 => .inl (gc g 1, 20, .inl (o 0))
  | 29 => .inl (gc g 6, 8, .inr (.inr (.inr (.inr (fun j => some (gA g 30 j))))))
  | 30 => .inl (gc g 1, 20, .inl (o 0))
  | 31 => .inl (gc g 0, 8, .inl (o 0))
  | 32 => .inr (7, [.ref (gA g 1 0), .ref (gA g 12 0), .ref (gA g 16 0), .ref (gA g 19 0), .ref (gA g 23 0), .ref (gA g 26 0)])
  | 50 => .inr (13, [.int (o 0 0), .int (o 1 0), .int (o 2 0), .ref (gA g 103 0), .int (o 4 0), .int (o 5 0), .int (o 6 0), .int (o 7 0), .ref (gA g 108 0), .ref (gA g 109 0), .ref (gA g 110 0), .ref (gA g 111 0), .ref (gA g 112 0), .ref (gA g 113 0), .ref (gA g 114 0), .ref (gA g 115 0), .ref (gA g 116 0), .ref (gA g 117 0), .ref (gA g 118 0), .ref (gA g 119 0), .ref (gA g 120 0), .ref (gA g 121 0), .ref (gA g 122 0), .ref (gA g 123 0), .ref (gA g 124 0), .int (o 25 0), .ref (gA g 126 0), .ref (gA g 127 0), .ref (gA g 128 0), .ref (gA g 129 0), .ref (gA g 130 0), .ref (gA g 131 0), .ref (gA g 132 0), .ref (gA g 133 0), .ref (gA g 134 0), .ref (gA g 135 0), .ref (gA g 136 0), .ref (gA g 137 0), .ref (gA g 138 0), .ref (gA g 139 0), .ref (gA g 140 0), .ref (gA g 141 0), .ref (gA g 142 0), .ref (gA g 143 0), .int (o 44 0), .int (o 45 0), .int (o 46 0), .int (o 47 0), .int (o 48 0), .int (o 49 0), .int (o 50 0), .int (o 51 0), .int (o 52 0), .int (o 53 0), .int (o 54 0), .int (o 55 0), .ref (gA g 156 0), .ref (gA g 157 0), .ref (gA g 158 0), .ref (gA g 159 0), .int (o 60 0), .int (o 61 0), .int (o 62 0), .ref (gA g 163 0), .ref (gA g 164 0), .ref (gA g 165 0), .ref (gA g 166 0), .int (o 67 0), .int (o 68 0), .int (o 69 0), .ref (gA g 170 0)])
  | 103 => .inl (gc g 0, 200, .inl (o 0))
  | 108 => .inl (gc g 0, 10, .inl (o 0))
  | 109 => .inl (gc g 2, 10, .inl (o 0))
  | 110 => .inl (gc g 0, 10, .inl (o 0))
  | 111 => .inl (gc g 0, 10, .inl (o 0))
  | 112 => .inl (gc g 0, 10, .inl (o 0))
  | 113 => .inl (gc g 0, 7, .inl (o 0))
  | 114 => .inl (gc g 0, 6, .inl (o 0))
  | 115 => .inl (gc g 0, 6, .inl (o 0))
  | 116 => .inl (gc g 0, 6, .inl (o 0))
  | 117 => .inl (gc g 0, 6, .inl (o 0))
  | 118 => .inl (gc g 0, 6, .inl (o 0))
  | 119 => .inl (gc g 0, 6, .inl (o 0))
  | 120 => .inl (gc g 0, 6, .inl (o 0))
  | 121 => .inl (gc g 0, 6, .inl (o 0))
  | 122 => .inl (gc g 0, 6, .inl (o 0))
  | 123 => .inl (gc g 0, 6, .inl (o 0))
  | 124 => .inl (gc g 2, 6, .inl (o 0))
  | 126 => .inl (gc g 0, 18, .inl (o 0))
  | 127 => .inl (gc g 0, 18, .inl (o 0))
  | 128 => .inl (gc g 0, 3, .inl (o 0))
  | 129 => .inl (gc g 0, 6, .inl (o 0))
  | 130 => .inl (gc g 0, 240, .inl (o 0))
  | 131 => .inl (gc g 0, 6, .inl (o 0))
  | 132 => .inl (gc g 0, 6, .inl (o 0))
  | 133 => .inl (gc g 0, 144, .inl (o 0))
  | 134 => .inl (gc g 0, 6, .inl (o 0))
  | 135 => .inl (gc g 0, 30000, .inl (o 0))
  | 136 => .inl (gc g 0, 6, .inl (o 0))
  | 137 => .inl (gc g 0, 768, .inl (o 0))
  | 138 => .inl (gc g 0, 192, .inl (o 0))
  | 139 => .inl (gc g 0, 12, .inl (o 0))
  | 140 => .inl (gc g 0, 12, .inl (o 0))
  | 141 => .inl (gc g 0, 12, .inl (o 0))
  | 142 => .inl (gc g 2, 12, .inl (o 0))
  | 143 => .inl (gc g 2, 12, .inl (o 0))
  | 156 => .inl (gc g 0, 6, .inl (o 0))
  | 157 => .inl (gc g 0, 6, .inl (o 0))
  | 158 => .inl (gc g 0, 6, .inl (o 0))
  | 159 => .inl (gc g 0, 6, .inl (o 0))
  | 163 => .inl (gc g 0, 20, .inl (o 0))
  | 164 => .inl (gc g 0, 160, .inl (o 0))
  | 165 => .inl (gc g 0, 8, .inl (o 0))
  | 166 => .inl (gc g 0, 600, .inl (o 0))
  | 170 => .inl (gc g 2, 64, .inl (o 0))
  | _ => .inl (gc g 0, 0, .inl (o 0))
def cnt (g : GP) (q : Nat) : Nat := match q with
  | 0 => 1
  | 1 => 1
  | 2 => 8
  | 3 => 8
  | 4 => 1
  | 5 => 7
  | 6 => 6
  | 7 => 6
  | 8 => 6
  | 9 => 6
  | 10 => 6
  | 11 => 1
  | 12 => 1
  | 13 => 1
  | 14 => gn g
  | 15 => gn g
  | 16 => 1
  | 17 => 3
  | 18 => 3
  | 19 => 1
  | 20 => 1
  | 21 => 1
  | 22 => 1
  | 23 => 1
  | 24 => 1
  | 25 => 1
  | 26 => 1
  | 27 => 1
  | 28 => 1
  | 29 => 1
  | 30 => 8
  | 31 => 1
  | 32 => 1
  | 50 => 1
  | 103 => 1
  | 108 => 1
  | 109 => 1
  | 110 => 1
  | 111 => 1
  | 112 => 1
  | 113 => 1
  | 114 => 1
  | 115 => 1
  | 116 => 1
  | 117 => 1
  | 118 => 1
  | 119 => 1
  | 120 => 1
  | 121 => 1
  | 122 => 1
  | 123 => 1
  | 124 => 1
  | 126 => 1
  | 127 => 1
  | 128 => 1
  | 129 => 1
  | 130 => 1
  | 131 => 1
  | 132 => 1
  | 133 => 1
  | 134 => 1
  | 135 => 1
  | 136 => 1
  | 137 => 1
  | 138 => 1
  | 139 => 1
  | 140 => 1
  | 141 => 1
  | 142 => 1
  | 143 => 1
  | 156 => 1
  | 157 => 1
  | 158 => 1
  | 159 => 1
  | 163 => 1
  | 164 => 1
  | 165 => 1
  | 166 => 1
  | 170 => 1
  | _ => 0
theorem im_0 (g : GP) (ed : Nat → Nat) (i : Nat) (o : Nat → Nat → Int32) : imgF g ed 0 i o = .inr (12, [.ref (gA g 1 0), .ref (gA g 11 0), .ref (gA g 12 0), .ref (gA g 16 0), .ref (gA g 19 0), .ref (gA g 23 0), .ref (gA g 26 0), .ref (gA g 32 0), .ref (gA g 2 1), .int (o 9 0)]) := rfl
theorem im_1 (g : GP) (ed : Nat → Nat) (i : Nat) (o : Nat → Nat → Int32) : imgF g ed 1 i o = .inr (8, [.ref (gA g 2 0), .ref (gA g 4 0), .int (o 2 0), .int (o 3 0), .int (o 4 0)]) := rfl
theorem im_2 (g : GP) (ed : Nat → Nat) (i : Nat) (o : Nat → Nat → Int32) : imgF g ed 2 i o = .inr (9, [.ref (gA g 3 i), .int (o 1 0)]) := rfl
theorem im_3 (g : GP) (ed : Nat → Nat) (i : Nat) (o : Nat → Nat → Int32) : imgF g ed 3 i o = .inl (gc g 0, (rowLen i), .inl (o 0)) := rfl
theorem im_4 (g : GP) (ed : Nat → Nat) (i : Nat) (o : Nat → Nat → Int32) : imgF g ed 4 i o = .inl (gc g 0, 10, .inl (o 0)) := rfl
theorem im_5 (g : GP) (ed : Nat → Nat) (i : Nat) (o : Nat → Nat → Int32) : imgF g ed 5 i o = .inr (10, [.ref (gA g 1 0), .int (o 1 0), .int (o 2 0), .int (o 3 0), .int (o 4 0)]) := rfl
theorem im_6 (g : GP) (ed : Nat → Nat) (i : Nat) (o : Nat → Nat → Int32) : imgF g ed 6 i o = .inr (6, [.int (o 0 0), .ref (gA g 7 i), .ref (gA g 8 i), .ref (gA g 2 (i + 2)), .ref (gA g 9 i), .ref (gA g 10 i), .int (o 6 0), .int (o 7 0), .int (o 8 0), .int (o 9 0), .int (o 10 0), .int (o 11 0), .int (o 12 0), .int (o 13 0), .int (o 14 0), .int (o 15 0), .int (o 16 0), .int (o 17 0), .int (o 18 0), .int (o 19 0)]) := rfl
theorem im_7 (g : GP) (ed : Nat → Nat) (i : Nat) (o : Nat → Nat → Int32) : imgF g ed 7 i o = .inl (gc g 0, 128, .inl (o 0)) := rfl
theorem im_8 (g : GP) (ed : Nat → Nat) (i : Nat) (o : Nat → Nat → Int32) : imgF g ed 8 i o = .inl (gc g 0, 40, .inl (o 0)) := rfl
theorem im_9 (g : GP) (ed : Nat → Nat) (i : Nat) (o : Nat → Nat → Int32) : imgF g ed 9 i o = .inl (gc g 0, 3, .inl (o 0)) := rfl
theorem im_10 (g : GP) (ed : Nat → Nat) (i : Nat) (o : Nat → Nat → Int32) : imgF g ed 10 i o = .inl (gc g 0, 3, .inl (o 0)) := rfl
theorem im_11 (g : GP) (ed : Nat → Nat) (i : Nat) (o : Nat → Nat → Int32) : imgF g ed 11 i o = .inl (gc g 3, 6, .inr (.inr (.inr (.inr (fun j => some (gA g 6 j)))))) := rfl
theorem im_12 (g : GP) (ed : Nat → Nat) (i : Nat) (o : Nat → Nat → Int32) : imgF g ed 12 i o = .inr (3, [.ref (gA g 13 0)]) := rfl
theorem im_13 (g : GP) (ed : Nat → Nat) (i : Nat) (o : Nat → Nat → Int32) : imgF g ed 13 i o = .inl (gc g 4, (gn g), .inr (.inr (.inr (.inr (fun j => some (gA g 14 j)))))) := rfl
theorem im_14 (g : GP) (ed : Nat → Nat) (i : Nat) (o : Nat → Nat → Int32) : imgF g ed 14 i o = .inr (5, [.ref (gA g 15 i), rfv (gA g) 6 (o 1 0), .int (o 2 0), .int (o 3 0), .int (o 4 0), .int (o 5 0), .int (o 6 0)]) := rfl
theorem im_15 (g : GP) (ed : Nat → Nat) (i : Nat) (o : Nat → Nat → Int32) : imgF g ed 15 i o = .inl (gc g 0, 16, .inl (o 0)) := rfl
theorem im_16 (g : GP) (ed : Nat → Nat) (i : Nat) (o : Nat → Nat → Int32) : imgF g ed 16 i o = .inr (11, [.ref (gA g 1 0), .ref (gA g 12 0), .ref (gA g 17 0), .ref (gA g 5 0), .ref (gA g 5 1), .int (o 5 0), .int (o 6 0), rfv (gA g) 14 (o 7 0), rfv (gA g) 6 (o 8 0), rfv (gA g) 6 (o 9 0), .int (o 10 0), .int (o 11 0), .int (o 12 0)]) := rfl
theorem im_17 (g : GP) (ed : Nat → Nat) (i : Nat) (o : Nat → Nat → Int32) : imgF g ed 17 i o = .inr (0, [.int (o 0 0), .ref (if o 3 0 = 0 then ge g else ed i), .int (o 2 0)]) := rfl
theorem im_18 (g : GP) (ed : Nat → Nat) (i : Nat) (o : Nat → Nat → Int32) : imgF g ed 18 i o = .inl (gc g 5, 10, .inr (.inr (.inr (.inr (fun j => if o 0 j < 0 then none else some (gA g 6 (o 0 j).toNatClampNeg)))))) := rfl
theorem im_19 (g : GP) (ed : Nat → Nat) (i : Nat) (o : Nat → Nat → Int32) : imgF g ed 19 i o = .inr (1, [.ref (gA g 1 0), .ref (gA g 12 0), .ref (gA g 11 0), .int (o 3 0), .ref (gA g 20 0), .ref (gA g 17 1), .ref (gA g 21 0), .ref (gA g 22 0)]) := rfl
theorem im_20 (g : GP) (ed : Nat → Nat) (i : Nat) (o : Nat → Nat → Int32) : imgF g ed 20 i o = .inl (gc g 0, 3, .inl (o 0)) := rfl
theorem im_21 (g : GP) (ed : Nat → Nat) (i : Nat) (o : Nat → Nat → Int32) : imgF g ed 21 i o = .inl (gc g 0, 3, .inl (o 0)) := rfl
theorem im_22 (g : GP) (ed : Nat → Nat) (i : Nat) (o : Nat → Nat → Int32) : imgF g ed 22 i o = .inl (gc g 2, 6, .inl (o 0)) := rfl
theorem im_23 (g : GP) (ed : Nat → Nat) (i : Nat) (o : Nat → Nat → Int32) : imgF g ed 23 i o = .inr (4, [.ref (gA g 1 0), .ref (gA g 12 0), .ref (gA g 19 0), .ref (gA g 17 2), .ref (gA g 5 2), .ref (gA g 5 3), .ref (gA g 5 4), .ref (gA g 5 5), .int (o 8 0), .int (o 9 0), rfv (gA g) 6 (o 10 0), rfv (gA g) 6 (o 11 0), .ref (gA g 24 0), .ref (gA g 25 0), .int (o 14 0)]) := rfl
theorem im_24 (g : GP) (ed : Nat → Nat) (i : Nat) (o : Nat → Nat → Int32) : imgF g ed 24 i o = .inl (gc g 0, 512, .inl (o 0)) := rfl
theorem im_25 (g : GP) (ed : Nat → Nat) (i : Nat) (o : Nat → Nat → Int32) : imgF g ed 25 i o = .inl (gc g 0, 512, .inl (o 0)) := rfl
theorem im_26 (g : GP) (ed : Nat → Nat) (i : Nat) (o : Nat → Nat → Int32) : imgF g ed 26 i o = .inr (2, [.ref (gA g 1 0), .ref (gA g 12 0), .ref (gA g 19 0), .ref (gA g 11 0), .ref (gA g 5 6), .ref (gA g 27 0), .int (o 6 0), .ref (gA g 28 0), .int (o 8 0), .ref (gA g 29 0), .ref (gA g 31 0), .int (o 11 0)]) := rfl
theorem im_27 (g : GP) (ed : Nat → Nat) (i : Nat) (o : Nat → Nat → Int32) : imgF g ed 27 i o = .inl (gc g 1, 600, .inl (o 0)) := rfl
theorem im_28 (g : GP) (ed : Nat → Nat) (i : Nat) (o : Nat → Nat → Int32) : imgF g ed 28 i o = .inl (gc g 1, 20, .inl (o 0)) := rfl
theorem im_29 (g : GP) (ed : Nat → Nat) (i : Nat) (o : Nat → Nat → Int32) : imgF g ed 29 i o = .inl (gc g 6, 8, .inr (.inr (.inr (.inr (fun j => some (gA g 30 j)))))) := rfl
theorem im_30 (g : GP) (ed : Nat → Nat) (i : Nat) (o : Nat → Nat → Int32) : imgF g ed 30 i o = .inl (gc g 1, 20, .inl (o 0)) := rfl
theorem im_31 (g : GP) (ed : Nat → Nat) (i : Nat) (o : Nat → Nat → Int32) : imgF g ed 31 i o = .inl (gc g 0, 8, .inl (o 0)) := rfl
theorem im_32 (g : GP) (ed : Nat → Nat) (i : Nat) (o : Nat → Nat → Int32) : imgF g ed 32 i o = .inr (7, [.ref (gA g 1 0), .ref (gA g 12 0), .ref (gA g 16 0), .ref (gA g 19 0), .ref (gA g 23 0), .ref (gA g 26 0)]) := rfl
theorem im_50 (g : GP) (ed : Nat → Nat) (i : Nat) (o : Nat → Nat → Int32) : imgF g ed 50 i o = .inr (13, [.int (o 0 0), .int (o 1 0), .int (o 2 0), .ref (gA g 103 0), .int (o 4 0), .int (o 5 0), .int (o 6 0), .int (o 7 0), .ref (gA g 108 0), .ref (gA g 109 0), .ref (gA g 110 0), .ref (gA g 111 0), .ref (gA g 112 0), .ref (gA g 113 0), .ref (gA g 114 0), .ref (gA g 115 0), .ref (gA g 116 0), .ref (gA g 117 0), .ref (gA g 118 0), .ref (gA g 119 0), .ref (gA g 120 0), .ref (gA g 121 0), .ref (gA g 122 0), .ref (gA g 123 0), .ref (gA g 124 0), .int (o 25 0), .ref (gA g 126 0), .ref (gA g 127 0), .ref (gA g 128 0), .ref (gA g 129 0), .ref (gA g 130 0), .ref (gA g 131 0), .ref (gA g 132 0), .ref (gA g 133 0), .ref (gA g 134 0), .ref (gA g 135 0), .ref (gA g 136 0), .ref (gA g 137 0), .ref (gA g 138 0), .ref (gA g 139 0), .ref (gA g 140 0), .ref (gA g 141 0), .ref (gA g 142 0), .ref (gA g 143 0), .int (o 44 0), .int (o 45 0), .int (o 46 0), .int (o 47 0), .int (o 48 0), .int (o 49 0), .int (o 50 0), .int (o 51 0), .int (o 52 0), .int (o 53 0), .int (o 54 0), .int (o 55 0), .ref (gA g 156 0), .ref (gA g 157 0), .ref (gA g 158 0), .ref (gA g 159 0), .int (o 60 0), .int (o 61 0), .int (o 62 0), .ref (gA g 163 0), .ref (gA g 164 0), .ref (gA g 165 0), .ref (gA g 166 0), .int (o 67 0), .int (o 68 0), .int (o 69 0), .ref (gA g 170 0)]) := rfl
theorem im_103 (g : GP) (ed : Nat → Nat) (i : Nat) (o : Nat → Nat → Int32) : imgF g ed 103 i o = .inl (gc g 0, 200, .inl (o 0)) := rfl
theorem im_108 (g : GP) (ed : Nat → Nat) (i : Nat) (o : Nat → Nat → Int32) : imgF g ed 108 i o = .inl (gc g 0, 10, .inl (o 0)) := rfl
theorem im_109 (g : GP) (ed : Nat → Nat) (i : Nat) (o : Nat → Nat → Int32) : imgF g ed 109 i o = .inl (gc g 2, 10, .inl (o 0)) := rfl
theorem im_110 (g : GP) (ed : Nat → Nat) (i : Nat) (o : Nat → Nat → Int32) : imgF g ed 110 i o = .inl (gc g 0, 10, .inl (o 0)) := rfl
theorem im_111 (g : GP) (ed : Nat → Nat) (i : Nat) (o : Nat → Nat → Int32) : imgF g ed 111 i o = .inl (gc g 0, 10, .inl (o 0)) := rfl
theorem im_112 (g : GP) (ed : Nat → Nat) (i : Nat) (o : Nat → Nat → Int32) : imgF g ed 112 i o = .inl (gc g 0, 10, .inl (o 0)) := rfl
theorem im_113 (g : GP) (ed : Nat → Nat) (i : Nat) (o : Nat → Nat → Int32) : imgF g ed 113 i o = .inl (gc g 0, 7, .inl (o 0)) := rfl
theorem im_114 (g : GP) (ed : Nat → Nat) (i : Nat) (o : Nat → Nat → Int32) : imgF g ed 114 i o = .inl (gc g 0, 6, .inl (o 0)) := rfl
theorem im_115 (g : GP) (ed : Nat → Nat) (i : Nat) (o : Nat → Nat → Int32) : imgF g ed 115 i o = .inl (gc g 0, 6, .inl (o 0)) := rfl
theorem im_116 (g : GP) (ed : Nat → Nat) (i : Nat) (o : Nat → Nat → Int32) : imgF g ed 116 i o = .inl (gc g 0, 6, .inl (o 0)) := rfl
theorem im_117 (g : GP) (ed : Nat → Nat) (i : Nat) (o : Nat → Nat → Int32) : imgF g ed 117 i o = .inl (gc g 0, 6, .inl (o 0)) := rfl
theorem im_118 (g : GP) (ed : Nat → Nat) (i : Nat) (o : Nat → Nat → Int32) : imgF g ed 118 i o = .inl (gc g 0, 6, .inl (o 0)) := rfl
theorem im_119 (g : GP) (ed : Nat → Nat) (i : Nat) (o : Nat → Nat → Int32) : imgF g ed 119 i o = .inl (gc g 0, 6, .inl (o 0)) := rfl
theorem im_120 (g : GP) (ed : Nat → Nat) (i : Nat) (o : Nat → Nat → Int32) : imgF g ed 120 i o = .inl (gc g 0, 6, .inl (o 0)) := rfl
theorem im_121 (g : GP) (ed : Nat → Nat) (i : Nat) (o : Nat → Nat → Int32) : imgF g ed 121 i o = .inl (gc g 0, 6, .inl (o 0)) := rfl
theorem im_122 (g : GP) (ed : Nat → Nat) (i : Nat) (o : Nat → Nat → Int32) : imgF g ed 122 i o = .inl (gc g 0, 6, .inl (o 0)) := rfl
theorem im_123 (g : GP) (ed : Nat → Nat) (i : Nat) (o : Nat → Nat → Int32) : imgF g ed 123 i o = .inl (gc g 0, 6, .inl (o 0)) := rfl
theorem im_124 (g : GP) (ed : Nat → Nat) (i : Nat) (o : Nat → Nat → Int32) : imgF g ed 124 i o = .inl (gc g 2, 6, .inl (o 0)) := rfl
theorem im_126 (g : GP) (ed : Nat → Nat) (i : Nat) (o : Nat → Nat → Int32) : imgF g ed 126 i o = .inl (gc g 0, 18, .inl (o 0)) := rfl
theorem im_127 (g : GP) (ed : Nat → Nat) (i : Nat) (o : Nat → Nat → Int32) : imgF g ed 127 i o = .inl (gc g 0, 18, .inl (o 0)) := rfl
theorem im_128 (g : GP) (ed : Nat → Nat) (i : Nat) (o : Nat → Nat → Int32) : imgF g ed 128 i o = .inl (gc g 0, 3, .inl (o 0)) := rfl
theorem im_129 (g : GP) (ed : Nat → Nat) (i : Nat) (o : Nat → Nat → Int32) : imgF g ed 129 i o = .inl (gc g 0, 6, .inl (o 0)) := rfl
theorem im_130 (g : GP) (ed : Nat → Nat) (i : Nat) (o : Nat → Nat → Int32) : imgF g ed 130 i o = .inl (gc g 0, 240, .inl (o 0)) := rfl
theorem im_131 (g : GP) (ed : Nat → Nat) (i : Nat) (o : Nat → Nat → Int32) : imgF g ed 131 i o = .inl (gc g 0, 6, .inl (o 0)) := rfl
theorem im_132 (g : GP) (ed : Nat → Nat) (i : Nat) (o : Nat → Nat → Int32) : imgF g ed 132 i o = .inl (gc g 0, 6, .inl (o 0)) := rfl
theorem im_133 (g : GP) (ed : Nat → Nat) (i : Nat) (o : Nat → Nat → Int32) : imgF g ed 133 i o = .inl (gc g 0, 144, .inl (o 0)) := rfl
theorem im_134 (g : GP) (ed : Nat → Nat) (i : Nat) (o : Nat → Nat → Int32) : imgF g ed 134 i o = .inl (gc g 0, 6, .inl (o 0)) := rfl
theorem im_135 (g : GP) (ed : Nat → Nat) (i : Nat) (o : Nat → Nat → Int32) : imgF g ed 135 i o = .inl (gc g 0, 30000, .inl (o 0)) := rfl
theorem im_136 (g : GP) (ed : Nat → Nat) (i : Nat) (o : Nat → Nat → Int32) : imgF g ed 136 i o = .inl (gc g 0, 6, .inl (o 0)) := rfl
theorem im_137 (g : GP) (ed : Nat → Nat) (i : Nat) (o : Nat → Nat → Int32) : imgF g ed 137 i o = .inl (gc g 0, 768, .inl (o 0)) := rfl
theorem im_138 (g : GP) (ed : Nat → Nat) (i : Nat) (o : Nat → Nat → Int32) : imgF g ed 138 i o = .inl (gc g 0, 192, .inl (o 0)) := rfl
theorem im_139 (g : GP) (ed : Nat → Nat) (i : Nat) (o : Nat → Nat → Int32) : imgF g ed 139 i o = .inl (gc g 0, 12, .inl (o 0)) := rfl
theorem im_140 (g : GP) (ed : Nat → Nat) (i : Nat) (o : Nat → Nat → Int32) : imgF g ed 140 i o = .inl (gc g 0, 12, .inl (o 0)) := rfl
theorem im_141 (g : GP) (ed : Nat → Nat) (i : Nat) (o : Nat → Nat → Int32) : imgF g ed 141 i o = .inl (gc g 0, 12, .inl (o 0)) := rfl
theorem im_142 (g : GP) (ed : Nat → Nat) (i : Nat) (o : Nat → Nat → Int32) : imgF g ed 142 i o = .inl (gc g 2, 12, .inl (o 0)) := rfl
theorem im_143 (g : GP) (ed : Nat → Nat) (i : Nat) (o : Nat → Nat → Int32) : imgF g ed 143 i o = .inl (gc g 2, 12, .inl (o 0)) := rfl
theorem im_156 (g : GP) (ed : Nat → Nat) (i : Nat) (o : Nat → Nat → Int32) : imgF g ed 156 i o = .inl (gc g 0, 6, .inl (o 0)) := rfl
theorem im_157 (g : GP) (ed : Nat → Nat) (i : Nat) (o : Nat → Nat → Int32) : imgF g ed 157 i o = .inl (gc g 0, 6, .inl (o 0)) := rfl
theorem im_158 (g : GP) (ed : Nat → Nat) (i : Nat) (o : Nat → Nat → Int32) : imgF g ed 158 i o = .inl (gc g 0, 6, .inl (o 0)) := rfl
theorem im_159 (g : GP) (ed : Nat → Nat) (i : Nat) (o : Nat → Nat → Int32) : imgF g ed 159 i o = .inl (gc g 0, 6, .inl (o 0)) := rfl
theorem im_163 (g : GP) (ed : Nat → Nat) (i : Nat) (o : Nat → Nat → Int32) : imgF g ed 163 i o = .inl (gc g 0, 20, .inl (o 0)) := rfl
theorem im_164 (g : GP) (ed : Nat → Nat) (i : Nat) (o : Nat → Nat → Int32) : imgF g ed 164 i o = .inl (gc g 0, 160, .inl (o 0)) := rfl
theorem im_165 (g : GP) (ed : Nat → Nat) (i : Nat) (o : Nat → Nat → Int32) : imgF g ed 165 i o = .inl (gc g 0, 8, .inl (o 0)) := rfl
theorem im_166 (g : GP) (ed : Nat → Nat) (i : Nat) (o : Nat → Nat → Int32) : imgF g ed 166 i o = .inl (gc g 0, 600, .inl (o 0)) := rfl
theorem im_170 (g : GP) (ed : Nat → Nat) (i : Nat) (o : Nat → Nat → Int32) : imgF g ed 170 i o = .inl (gc g 2, 64, .inl (o 0)) := rfl
def adr (g : GP) (ed : Nat → Nat) (q i : Nat) : Nat := if q = 18 then ed i else gA g q i
def sel (C R : St) (q : Nat) : St := if q < 50 then C else R
def dm (g : GP) (C : St) (q i : Nat) : Prop := i < cnt g q ∧ (q = 18 → C 17 i 3 0 ≠ 0)
def HW (g : GP) (ed : Nat → Nat) (C R : St) (H : Heap) : Prop := (∀ q i, dm g C q i → va_at (gD g) vwCl (adr g ed q i, imgF g ed q i (sel C R q q i)) H) ∧ (∀ q i q2 i2, dm g C q i → dm g C q2 i2 → adr g ed q i = adr g ed q2 i2 → q = q2 ∧ i = i2) ∧ ∀ q i, dm g C q i → gP g (adr g ed q i)
def tyL (g : GP) : List (ClassId × FieldType) := [(gc g 0, .int), (gc g 1, .byte), (gc g 2, .boolean), (gc g 3, .object "DrumLayers$Job"), (gc g 4, .object "DrumLayers$Frame"), (gc g 5, .object "java/lang/Object"), (gc g 6, .array .byte)]
def KK (g : GP) (U : State) : Prop := va_K (gD g) vwCl (tyL g) U
