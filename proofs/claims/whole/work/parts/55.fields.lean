/-! What the small steps leave as it was -/
theorem av_o {f i j : Nat} {x : Int32} {a : AS} {g b c : Nat} (h : g ≠ f) : av (sv f i j x a) g b c = av a g b c := by
  rw [av_sv, if_neg (fun e => h e.1)]
theorem av_s {f i j : Nat} {x : Int32} {a : AS} : av (sv f i j x a) f i j = x := by
  rw [av_sv, if_pos ⟨rfl, rfl, rfl⟩]
theorem av_wake (p : Nat) (a : AS) (g b c : Nat) : av (z_wake p a) g b c = if g = 10 ∧ b = p ∧ c = 0 then 0 else av a g b c := by
  unfold z_wake
  split
  · rw [av_sv]
  · rw [av_sl, av_sv]
theorem al_wake (p : Nat) (a : AS) (q : Nat) : al (z_wake p a) q = if q = 0 then (if p ∈ al a 0 then al a 0 else al a 0 ++ [p]) else al a q := by
  unfold z_wake
  by_cases h : p ∈ al a 0
  · rw [if_pos h, if_pos h, al_sv]
    split
    · rename_i e; rw [e]
    · rfl
  · rw [if_neg h, if_neg h, al_sl, al_sv]
theorem av_leave (p : Nat) (a : AS) (g b c : Nat) : av (z_leave p a) g b c = if g = 7 ∧ b = 0 ∧ c = 0 then 0 else av a g b c := by
  unfold z_leave
  rw [av_sv, av_sl]
theorem al_leave (p : Nat) (a : AS) (q : Nat) : al (z_leave p a) q = if q = 0 then (al a 0).erase p else al a q := by
  unfold z_leave
  rw [al_sv, al_sl]
theorem av_susp (p : Nat) (x : Int32) (a : AS) (g b c : Nat) : av (z_susp p x a) g b c = if g = 7 ∧ b = 0 ∧ c = 0 then 0 else if g = 10 ∧ b = p ∧ c = 0 then x else av a g b c := by
  unfold z_susp
  rw [av_leave, av_sv]
theorem al_susp (p : Nat) (x : Int32) (a : AS) (q : Nat) : al (z_susp p x a) q = if q = 0 then (al a 0).erase p else al a q := by
  unfold z_susp
  rw [al_leave, al_sv, al_sv]
theorem av_comp (n k : Nat) (x : Int32) (a : AS) (g b c : Nat) : av (z_comp n k x a) g b c = if g = 43 ∧ c = 0 ∧ b < n ∧ av a 39 b 0 = nI k then 0 else if g = 18 ∧ b = k ∧ c = 0 then x else if g = 17 ∧ b = k ∧ c = 0 then av a 17 k 0 + 1 else av a g b c := by
  unfold z_comp
  rw [av_unpin, av_o (by decide), av_o (by decide), av_sv, av_sv]
theorem al_comp (n k : Nat) (x : Int32) (a : AS) (q : Nat) : al (z_comp n k x a) q = al a q := rfl
theorem av_v (s : Nat) (a : AS) (g b c : Nat) : av (z_v s a) g b c = if av a 71 s 0 = 0 then (if g = 13 ∧ b = s ∧ c = 0 then av a 13 s 0 + 1 else av a g b c) else if g = 10 ∧ b = pr s ∧ c = 0 then 0 else if g = 71 ∧ b = s ∧ c = 0 then 0 else av a g b c := by
  unfold z_v
  split
  · rw [av_sv]
  · rw [av_wake, av_sv]
theorem al_v (s : Nat) (a : AS) (q : Nat) : al (z_v s a) q = if av a 71 s 0 = 0 then al a q else if q = 0 then (if pr s ∈ al a 0 then al a 0 else al a 0 ++ [pr s]) else al a q := by
  unfold z_v
  split
  · rw [al_sv]
  · rw [al_wake, al_sv, al_sv]
theorem av_p (s : Nat) (a : AS) (g b c : Nat) : av (z_p s a) g b c = if av a 13 s 0 ≤ 0 then (if g = 7 ∧ b = 0 ∧ c = 0 then 0 else if g = 10 ∧ b = pr s ∧ c = 0 then cz s else if g = 71 ∧ b = s ∧ c = 0 then 1 else av a g b c) else if g = 13 ∧ b = s ∧ c = 0 then av a 13 s 0 - 1 else av a g b c := by
  unfold z_p
  split
  · rw [av_susp, av_sv]
  · rw [av_sv]
theorem al_p (s : Nat) (a : AS) (q : Nat) : al (z_p s a) q = if av a 13 s 0 ≤ 0 then (if q = 0 then (al a 0).erase (pr s) else al a q) else al a q := by
  unfold z_p
  split
  · rw [al_susp, al_sv, al_sv]
  · rw [al_sv]
theorem vo_wake {p : Nat} {a : AS} {g b c : Nat} (h : g ≠ 10) : av (z_wake p a) g b c = av a g b c := by
  rw [av_wake, if_neg (fun e => h e.1)]
theorem vo_susp {p : Nat} {x : Int32} {a : AS} {g b c : Nat} (h : g ≠ 10) (h2 : g ≠ 7) : av (z_susp p x a) g b c = av a g b c := by
  rw [av_susp, if_neg (fun e => h2 e.1), if_neg (fun e => h e.1)]
theorem vo_leave {p : Nat} {a : AS} {g b c : Nat} (h2 : g ≠ 7) : av (z_leave p a) g b c = av a g b c := by
  rw [av_leave, if_neg (fun e => h2 e.1)]
theorem vo_comp {n k : Nat} {x : Int32} {a : AS} {g b c : Nat} (h : g ≠ 43) (h2 : g ≠ 18) (h3 : g ≠ 17) : av (z_comp n k x a) g b c = av a g b c := by
  rw [av_comp, if_neg (fun e => h e.1), if_neg (fun e => h2 e.1), if_neg (fun e => h3 e.1)]
theorem vo_v {s : Nat} {a : AS} {g b c : Nat} (h : g ≠ 13) (h2 : g ≠ 10) (h3 : g ≠ 71) : av (z_v s a) g b c = av a g b c := by
  rw [av_v]
  simp [h, h2, h3]
theorem vo_p {s : Nat} {a : AS} {g b c : Nat} (h : g ≠ 13) (h2 : g ≠ 10) (h3 : g ≠ 71) (h4 : g ≠ 7) : av (z_p s a) g b c = av a g b c := by
  rw [av_p]
  simp [h, h2, h3, h4]
theorem lo_wake {p : Nat} {a : AS} {q : Nat} (h : q ≠ 0) : al (z_wake p a) q = al a q := by rw [al_wake, if_neg h]
theorem lo_susp {p : Nat} {x : Int32} {a : AS} {q : Nat} (h : q ≠ 0) : al (z_susp p x a) q = al a q := by rw [al_susp, if_neg h]
theorem lo_leave {p : Nat} {a : AS} {q : Nat} (h : q ≠ 0) : al (z_leave p a) q = al a q := by rw [al_leave, if_neg h]
theorem lo_v {s : Nat} {a : AS} {q : Nat} (h : q ≠ 0) : al (z_v s a) q = al a q := by
  rw [al_v, if_neg h]
  split <;> rfl
theorem lo_p {s : Nat} {a : AS} {q : Nat} (h : q ≠ 0) : al (z_p s a) q = al a q := by
  rw [al_p, if_neg h]
  split <;> rfl
