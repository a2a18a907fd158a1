/-! ADDING TO A LIST OF JOBS (list i: its numbers at kind 17, its elements at kind 18) -/
def al_ok (i : Nat) (C : St) : Bool := decide (¬ C 17 i 3 0 = 0) || (decide (C 17 i 2 0 = 0) && (List.range 10).all (fun j => decide (C 18 i 0 j = -1)))
def F_Jx4a65c_add_9ea2d (i : Nat) (x1 : Int32) (C : St) : Option (Int32 × St) := gd (inb x1 6) (gd (al_ok i C) (gd (inb (C 17 i 2 0) 10) (some (1, up (up (up (up C 17 i 0 0 (C 17 i 0 0 + 1)) 17 i 3 0 1) 18 i 0 (C 17 i 2 0).toNatClampNeg x1) 17 i 2 0 (C 17 i 2 0 + 1)))))
theorem c_Jx4a65c_add_9ea2d {l : Launch} {g : GP} {ed : Nat → Nat} {Z : St} {i : Nat} (hi : i < 3) {x1 : Int32} {C : St} {r : Int32} {C2 : St} (h : F_Jx4a65c_add_9ea2d i x1 C = some (r, C2)) : Met l yJx4a65c_add_9ea2d (Cond.code yJx4a65c_add_9ea2d cJx4a65c_add_9ea2d 2 (some .boolean) :: lwG) ({ frames := 4, cells := 1, slots := 10, locals := 90 } : Room) (va_Pc [.ref (gA g 17 i), rfv (gA g) 6 x1] (PW g C Z ed)) (QG (some (.int r)) g C2 Z) 1 10 (gP g) := by
  sorry
