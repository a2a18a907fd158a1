/-! THE PURE PART. The abstract state: numbers by (field, place, place), rows of processes by their number (0 ready, 1 asking, 2 gets, 3 cards) -/
abbrev AS : Type := (Nat → Nat → Nat → Int32) × (Nat → List Nat)
def av (a : AS) (f i j : Nat) : Int32 := a.1 f i j
def al (a : AS) (q : Nat) : List Nat := a.2 q
def sv (f i j : Nat) (x : Int32) (a : AS) : AS := (fun g b c => if g = f ∧ b = i ∧ c = j then x else a.1 g b c, a.2)
def sl (q : Nat) (xs : List Nat) (a : AS) : AS := (a.1, fun p => if p = q then xs else a.2 p)
theorem av_sv (f i j : Nat) (x : Int32) (a : AS) (g b c : Nat) : av (sv f i j x a) g b c = if g = f ∧ b = i ∧ c = j then x else av a g b c := rfl
theorem av_sl (q : Nat) (xs : List Nat) (a : AS) (g b c : Nat) : av (sl q xs a) g b c = av a g b c := rfl
theorem al_sv (f i j : Nat) (x : Int32) (a : AS) (q : Nat) : al (sv f i j x a) q = al a q := rfl
theorem al_sl (q : Nat) (xs : List Nat) (a : AS) (p : Nat) : al (sl q xs a) p = if p = q then xs else al a p := rfl
theorem as_ext {a b : AS} (h : ∀ f i j, av a f i j = av b f i j) (h2 : ∀ q, al a q = al b q) : a = b := by
  obtain ⟨a1, a2⟩ := a
  obtain ⟨b1, b2⟩ := b
  have e1 : a1 = b1 := funext fun f => funext fun i => funext fun j => h f i j
  have e2 : a2 = b2 := funext fun q => h2 q
  rw [e1, e2]
theorem up_at (C : St) (q i k j : Nat) (x : Int32) (a b c d : Nat) : up C q i k j x a b c d = if a = q ∧ b = i ∧ c = k ∧ d = j then x else C a b c d := by
  unfold up up2
  by_cases h1 : a = q ∧ b = i
  · obtain ⟨rfl, rfl⟩ := h1
    simp only [and_self, if_true, true_and]
    by_cases h2 : c = k
    · by_cases h3 : d = j
      · simp [h2, h3]
      · simp [h2, h3]
    · simp [h2]
  · rw [if_neg h1, if_neg (fun h => h1 ⟨h.1, h.2.1⟩)]
/-- a run that gives a value -/
def Rn (o : Option (Int32 × St)) (Q : Int32 → St → Prop) : Prop := ∃ r C, o = some (r, C) ∧ Q r C
theorem rn_ret {r : Int32} {C : St} {Q : Int32 → St → Prop} (h : Q r C) : Rn (some (r, C)) Q := ⟨r, C, rfl, h⟩
theorem rn_gd {b : Bool} {k : Option (Int32 × St)} {Q : Int32 → St → Prop} (hb : b = true) (h : Rn k Q) : Rn (gd b k) Q := by
  unfold gd; rw [if_pos hb]; exact h
theorem rn_st {C : St} {k : St → Option (Int32 × St)} {Q : Int32 → St → Prop} (h : Rn (k C) Q) : Rn (st C k) Q := h
theorem rn_bd {o : Option (Int32 × St)} {k : Int32 → St → Option (Int32 × St)} {P Q : Int32 → St → Prop} (h : Rn o P) (hk : ∀ r C, P r C → Rn (k r C) Q) : Rn (bd2 o k) Q := by
  obtain ⟨r, C, rfl, hP⟩ := h
  exact hk r C hP
theorem rn_if {c : Prop} [Decidable c] {x y : Option (Int32 × St)} {Q : Int32 → St → Prop} (h1 : c → Rn x Q) (h2 : ¬ c → Rn y Q) : Rn (if c then x else y) Q := by
  by_cases h : c
  · rw [if_pos h]; exact h1 h
  · rw [if_neg h]; exact h2 h
theorem rn_pos {c : Prop} [Decidable c] {x y : Option (Int32 × St)} {Q : Int32 → St → Prop} (h : c) (h1 : Rn x Q) : Rn (if c then x else y) Q := by
  rw [if_pos h]; exact h1
theorem rn_neg {c : Prop} [Decidable c] {x y : Option (Int32 × St)} {Q : Int32 → St → Prop} (h : ¬ c) (h1 : Rn y Q) : Rn (if c then x else y) Q := by
  rw [if_neg h]; exact h1
theorem rn_mono {o : Option (Int32 × St)} {P Q : Int32 → St → Prop} (h : Rn o P) (hk : ∀ r C, P r C → Q r C) : Rn o Q := by
  obtain ⟨r, C, e, hP⟩ := h
  exact ⟨r, C, e, hk r C hP⟩
theorem inb_nI {k m : Nat} (h : k < m) (hm : m < 2 ^ 31) : inb (nI k) m = true := by
  have h1 : k < 2 ^ 31 := Nat.lt_trans h hm
  unfold inb
  rw [nI_clamp h1]
  simp [nI_pos h1, h]
theorem okr_nI {k m : Nat} (h : k < m) (hm : m < 2 ^ 31) : okr (nI k) m = true := okr_in (inb_nI h hm)
theorem okr_m1 (m : Nat) : okr (-1) m = true := rfl
def okC (n f i j : Nat) : Prop := match f with
  | 1 => i = 0 ∧ j = 0
  | 2 => i = 0 ∧ j = 0
  | 3 => i < 200 ∧ j = 0
  | 4 => i = 0 ∧ j = 0
  | 5 => i = 0 ∧ j = 0
  | 7 => i = 0 ∧ j = 0
  | 10 => i < 10 ∧ j = 0
  | 12 => i = 0 ∧ j = 0
  | 13 => i < 7 ∧ j = 0
  | 14 => i < 6 ∧ j = 0
  | 16 => i < 6 ∧ j = 0
  | 17 => i < 6 ∧ j = 0
  | 18 => i < 6 ∧ j = 0
  | 19 => i < 6 ∧ j = 0
  | 20 => i < 6 ∧ j = 0
  | 21 => i < 6 ∧ j = 0
  | 22 => i < 6 ∧ j = 0
  | 23 => i < 6 ∧ j = 0
  | 24 => i < 6 ∧ j = 0
  | 25 => i = 0 ∧ j = 0
  | 26 => i < 6 ∧ j < 3
  | 27 => i < 6 ∧ j < 3
  | 28 => i < 3 ∧ j = 0
  | 29 => i < 6 ∧ j = 0
  | 30 => i < 6 ∧ j < 40
  | 31 => i < 6 ∧ j = 0
  | 32 => i < 6 ∧ j = 0
  | 33 => i < 6 ∧ j < 24
  | 34 => i < 6 ∧ j = 0
  | 36 => i < 6 ∧ j = 0
  | 37 => i < 6 ∧ j < 128
  | 38 => i < n ∧ j < 16
  | 40 => i < n ∧ j = 0
  | 41 => i < n ∧ j = 0
  | 42 => i < n ∧ j = 0
  | 43 => i < n ∧ j = 0
  | 44 => i = 0 ∧ j = 0
  | 45 => i = 0 ∧ j = 0
  | 46 => i = 0 ∧ j = 0
  | 47 => i = 0 ∧ j = 0
  | 49 => i = 0 ∧ j = 0
  | 50 => i = 0 ∧ j = 0
  | 51 => i = 0 ∧ j = 0
  | 52 => i = 0 ∧ j = 0
  | 53 => i = 0 ∧ j = 0
  | 54 => i = 0 ∧ j = 0
  | 55 => i = 0 ∧ j = 0
  | 63 => i < 20 ∧ j = 0
  | 64 => i < 8 ∧ j < 20
  | 65 => i < 8 ∧ j = 0
  | 66 => i < 600 ∧ j = 0
  | 67 => i = 0 ∧ j = 0
  | 68 => i = 0 ∧ j = 0
  | 69 => i = 0 ∧ j = 0
  | 71 => i < 7 ∧ j = 0
  | 72 => i = 0 ∧ j = 0
  | 76 => i < 512 ∧ j = 0
  | 77 => i < 512 ∧ j = 0
  | _ => False
def adC (f i j : Nat) : Nat × Nat × Nat × Nat := match f with
  | 1 => (19, 0, 3, 0)
  | 2 => (1, 0, 2, 0)
  | 3 => (3, 1, 0, i)
  | 4 => (2, 1, 1, 0)
  | 5 => (1, 0, 3, 0)
  | 7 => (1, 0, 4, 0)
  | 10 => (4, 0, 0, i)
  | 12 => (16, 0, 6, 0)
  | 13 => (5, i, 4, 0)
  | 14 => (6, i, 7, 0)
  | 16 => (6, i, 8, 0)
  | 17 => (6, i, 11, 0)
  | 18 => (6, i, 12, 0)
  | 19 => (6, i, 13, 0)
  | 20 => (6, i, 14, 0)
  | 21 => (6, i, 10, 0)
  | 22 => (6, i, 9, 0)
  | 23 => (6, i, 6, 0)
  | 24 => (6, i, 18, 0)
  | 25 => (0, 0, 9, 0)
  | 26 => (9, i, 0, j)
  | 27 => (10, i, 0, j)
  | 28 => (20, 0, 0, i)
  | 29 => (6, i, 19, 0)
  | 30 => (8, i, 0, j)
  | 31 => (6, i, 15, 0)
  | 32 => (6, i, 16, 0)
  | 33 => (3, i + 2, 0, j)
  | 34 => (2, i + 2, 1, 0)
  | 36 => (6, i, 17, 0)
  | 37 => (7, i, 0, j)
  | 38 => (15, i, 0, j)
  | 40 => (14, i, 2, 0)
  | 41 => (14, i, 6, 0)
  | 42 => (14, i, 4, 0)
  | 43 => (14, i, 5, 0)
  | 44 => (16, 0, 12, 0)
  | 45 => (16, 0, 5, 0)
  | 46 => (16, 0, 7, 0)
  | 47 => (16, 0, 8, 0)
  | 49 => (16, 0, 9, 0)
  | 50 => (16, 0, 11, 0)
  | 51 => (16, 0, 10, 0)
  | 52 => (23, 0, 8, 0)
  | 53 => (23, 0, 9, 0)
  | 54 => (23, 0, 10, 0)
  | 55 => (23, 0, 11, 0)
  | 63 => (28, 0, 0, i)
  | 64 => (30, i, 0, j)
  | 65 => (31, 0, 0, i)
  | 66 => (27, 0, 0, i)
  | 67 => (26, 0, 8, 0)
  | 68 => (26, 0, 11, 0)
  | 69 => (26, 0, 6, 0)
  | 71 => (5, i, 3, 0)
  | 72 => (23, 0, 14, 0)
  | 76 => (24, 0, 0, i)
  | 77 => (25, 0, 0, i)
  | _ => (99, 0, 0, 0)
def nvC (x : Nat × Nat × Nat × Nat) : Nat × Nat × Nat :=
  if x.1 = 0 then (if x.2.2.1 = 9 then (25, 0, 0) else (80, 0, 0)) else
  if x.1 = 1 then (if x.2.2.1 = 2 then (2, 0, 0) else (if x.2.2.1 = 3 then (5, 0, 0) else (if x.2.2.1 = 4 then (7, 0, 0) else (80, 0, 0)))) else
  if x.1 = 2 then (if x.2.1 = 1 then (4, 0, 0) else (if 2 ≤ x.2.1 then (34, x.2.1 - 2, 0) else (80, 0, 0))) else
  if x.1 = 3 then (if x.2.1 = 1 then (3, x.2.2.2, 0) else (if 2 ≤ x.2.1 then (33, x.2.1 - 2, x.2.2.2) else (80, 0, 0))) else
  if x.1 = 4 then (if x.2.2.1 = 0 then (10, x.2.2.2, 0) else (80, 0, 0)) else
  if x.1 = 5 then (if x.2.2.1 = 4 then (13, x.2.1, 0) else (if x.2.2.1 = 3 then (71, x.2.1, 0) else (80, 0, 0))) else
  if x.1 = 6 then (if x.2.2.1 = 7 then (14, x.2.1, 0) else (if x.2.2.1 = 8 then (16, x.2.1, 0) else (if x.2.2.1 = 11 then (17, x.2.1, 0) else (if x.2.2.1 = 12 then (18, x.2.1, 0) else (if x.2.2.1 = 13 then (19, x.2.1, 0) else (if x.2.2.1 = 14 then (20, x.2.1, 0) else (if x.2.2.1 = 10 then (21, x.2.1, 0) else (if x.2.2.1 = 9 then (22, x.2.1, 0) else (if x.2.2.1 = 6 then (23, x.2.1, 0) else (if x.2.2.1 = 18 then (24, x.2.1, 0) else (if x.2.2.1 = 19 then (29, x.2.1, 0) else (if x.2.2.1 = 15 then (31, x.2.1, 0) else (if x.2.2.1 = 16 then (32, x.2.1, 0) else (if x.2.2.1 = 17 then (36, x.2.1, 0) else (80, 0, 0))))))))))))))) else
  if x.1 = 7 then (if x.2.2.1 = 0 then (37, x.2.1, x.2.2.2) else (80, 0, 0)) else
  if x.1 = 8 then (if x.2.2.1 = 0 then (30, x.2.1, x.2.2.2) else (80, 0, 0)) else
  if x.1 = 9 then (if x.2.2.1 = 0 then (26, x.2.1, x.2.2.2) else (80, 0, 0)) else
  if x.1 = 10 then (if x.2.2.1 = 0 then (27, x.2.1, x.2.2.2) else (80, 0, 0)) else
  if x.1 = 14 then (if x.2.2.1 = 2 then (40, x.2.1, 0) else (if x.2.2.1 = 6 then (41, x.2.1, 0) else (if x.2.2.1 = 4 then (42, x.2.1, 0) else (if x.2.2.1 = 5 then (43, x.2.1, 0) else (80, 0, 0))))) else
  if x.1 = 15 then (if x.2.2.1 = 0 then (38, x.2.1, x.2.2.2) else (80, 0, 0)) else
  if x.1 = 16 then (if x.2.2.1 = 6 then (12, 0, 0) else (if x.2.2.1 = 12 then (44, 0, 0) else (if x.2.2.1 = 5 then (45, 0, 0) else (if x.2.2.1 = 7 then (46, 0, 0) else (if x.2.2.1 = 8 then (47, 0, 0) else (if x.2.2.1 = 9 then (49, 0, 0) else (if x.2.2.1 = 11 then (50, 0, 0) else (if x.2.2.1 = 10 then (51, 0, 0) else (80, 0, 0))))))))) else
  if x.1 = 19 then (if x.2.2.1 = 3 then (1, 0, 0) else (80, 0, 0)) else
  if x.1 = 20 then (if x.2.2.1 = 0 then (28, x.2.2.2, 0) else (80, 0, 0)) else
  if x.1 = 23 then (if x.2.2.1 = 8 then (52, 0, 0) else (if x.2.2.1 = 9 then (53, 0, 0) else (if x.2.2.1 = 10 then (54, 0, 0) else (if x.2.2.1 = 11 then (55, 0, 0) else (if x.2.2.1 = 14 then (72, 0, 0) else (80, 0, 0)))))) else
  if x.1 = 24 then (if x.2.2.1 = 0 then (76, x.2.2.2, 0) else (80, 0, 0)) else
  if x.1 = 25 then (if x.2.2.1 = 0 then (77, x.2.2.2, 0) else (80, 0, 0)) else
  if x.1 = 26 then (if x.2.2.1 = 8 then (67, 0, 0) else (if x.2.2.1 = 11 then (68, 0, 0) else (if x.2.2.1 = 6 then (69, 0, 0) else (80, 0, 0)))) else
  if x.1 = 27 then (if x.2.2.1 = 0 then (66, x.2.2.2, 0) else (80, 0, 0)) else
  if x.1 = 28 then (if x.2.2.1 = 0 then (63, x.2.2.2, 0) else (80, 0, 0)) else
  if x.1 = 30 then (if x.2.2.1 = 0 then (64, x.2.1, x.2.2.2) else (80, 0, 0)) else
  if x.1 = 31 then (if x.2.2.1 = 0 then (65, x.2.2.2, 0) else (80, 0, 0)) else
  (80, 0, 0)
set_option maxHeartbeats 4000000 in
theorem nvC_ok {n f i j : Nat} (h : okC n f i j) : nvC (adC f i j) = (f, i, j) := by
  unfold okC at h
  split at h <;> first | exact h.elim | (obtain ⟨h1, h2⟩ := h; simp [adC, nvC, h1, h2])
theorem okC_lt {n f i j : Nat} (h : okC n f i j) : f < 80 := by
  unfold okC at h
  split at h <;> first | exact h.elim | decide
def atC (C : St) (x : Nat × Nat × Nat × Nat) : Int32 := C x.1 x.2.1 x.2.2.1 x.2.2.2
def upA (C : St) (x : Nat × Nat × Nat × Nat) (v : Int32) : St := up C x.1 x.2.1 x.2.2.1 x.2.2.2 v
theorem atC_upA (C : St) (x y : Nat × Nat × Nat × Nat) (v : Int32) : atC (upA C x v) y = if y = x then v else atC C y := by
  unfold atC upA
  rw [up_at]
  obtain ⟨x1, x2, x3, x4⟩ := x
  obtain ⟨y1, y2, y3, y4⟩ := y
  simp only [Prod.mk.injEq]
def RCd (n : Nat) (C : St) (a : AS) : Prop := ∀ f i j, okC n f i j → atC C (adC f i j) = av a f i j
theorem wCd {n : Nat} {C : St} {a : AS} {f i j : Nat} {x : Int32} (h : RCd n C a) (ho : okC n f i j) : RCd n (upA C (adC f i j) x) (sv f i j x a) := by
  intro g b c hg
  rw [atC_upA, av_sv]
  by_cases e : adC g b c = adC f i j
  · have e2 := congrArg nvC e
    rw [nvC_ok hg, nvC_ok ho] at e2
    simp only [Prod.mk.injEq] at e2
    rw [if_pos e, if_pos e2]
  · rw [if_neg e, if_neg (fun h2 => e (by rw [h2.1, h2.2.1, h2.2.2]))]
    exact h g b c hg
theorem wCs {n : Nat} {C : St} {f i j : Nat} {x : Int32} (ho : okC n f i j) {y : Nat × Nat × Nat × Nat} (hy : (nvC y).1 = 80) : atC (upA C (adC f i j) x) y = atC C y := by
  rw [atC_upA, if_neg]
  intro e
  rw [e, nvC_ok ho] at hy
  have := okC_lt ho
  simp only at hy
  omega
/-- a write elsewhere -/
theorem wCo {n : Nat} {C : St} {a : AS} {y : Nat × Nat × Nat × Nat} {x : Int32} (h : RCd n C a) (hy : (nvC y).1 = 80) : RCd n (upA C y x) a := by
  intro g b c hg
  rw [atC_upA, if_neg]
  · exact h g b c hg
  intro e
  rw [← e, nvC_ok hg] at hy
  have := okC_lt hg
  simp only at hy
  omega
def pr (s : Nat) : Nat := if s < 2 then 6 else if s < 4 then 7 else if s < 6 then 8 else 9
def cz (s : Nat) : Int32 := if s % 2 = 1 then 8 else 7
def owO (x : Int32) : Int32 := if x < 0 then -1 else x
def owB (x : Int32) : Int32 := if x = -2 then 1 else 0
def RCf (n : Nat) (C : St) (a : AS) : Prop := ∀ f, f < n → (C 14 f 1 0 = owO (av a 39 f 0) ∧ C 14 f 3 0 = owB (av a 39 f 0)) ∧ (av a 39 f 0 = -2 ∨ av a 39 f 0 = -1 ∨ ∃ k, k < 6 ∧ av a 39 f 0 = nI k)
def RCk (C : St) : Prop := (∀ k, k < 6 → C 6 k 0 0 = nI k) ∧ ∀ s, s < 7 → C 5 s 1 0 = nI (pr s) ∧ C 5 s 2 0 = cz s
def RCr (C : St) (l : List Nat) : Prop := C 2 0 1 0 = nI l.length ∧ l.Nodup ∧ (∀ p ∈ l, p < 10) ∧ ∀ i p, l[i]? = some p → C 3 0 0 i = nI p
def RCq (C : St) (q : Nat) (l : List Nat) : Prop := C 17 q 2 0 = nI l.length ∧ l.length ≤ 10 ∧ (∀ p ∈ l, p < 6) ∧ (∀ i p, l[i]? = some p → C 18 q 0 i = nI p) ∧ (∀ i, l.length ≤ i → i < 10 → C 18 q 0 i = -1) ∧ (C 17 q 3 0 = 1 ∨ (C 17 q 3 0 = 0 ∧ l = []))
def RC (n : Nat) (C : St) (a : AS) : Prop := RCd n C a ∧ RCf n C a ∧ RCk C ∧ RCr C (al a 0) ∧ ∀ q, q < 3 → RCq C q (al a (q + 1))
theorem wCgen {n : Nat} {C : St} {a : AS} {f i j : Nat} {x : Int32} (h : RC n C a) (ho : okC n f i j) (hf : f ≠ 39) : RC n (upA C (adC f i j) x) (sv f i j x a) := by
  obtain ⟨h1, h2, h3, h4, h5⟩ := h
  have s : ∀ q b k c, (nvC (q, b, k, c)).1 = 80 → upA C (adC f i j) x q b k c = C q b k c := fun q b k c hy => wCs ho (y := (q, b, k, c)) hy
  refine ⟨wCd h1 ho, ?_, ?_, ?_, ?_⟩
  · intro g hg
    have e : av (sv f i j x a) 39 g 0 = av a 39 g 0 := by
      rw [av_sv, if_neg (fun h => hf h.1.symm)]
    rw [e, s 14 g 1 0 rfl, s 14 g 3 0 rfl]
    exact h2 g hg
  · refine ⟨fun k hk => ?_, fun t ht => ?_⟩
    · rw [s 6 k 0 0 rfl]; exact h3.1 k hk
    · rw [s 5 t 1 0 rfl, s 5 t 2 0 rfl]; exact h3.2 t ht
  · refine ⟨?_, h4.2.1, h4.2.2.1, fun b p hb => ?_⟩
    · rw [s 2 0 1 0 rfl]; exact h4.1
    · rw [s 3 0 0 b rfl]; exact h4.2.2.2 b p hb
  · intro q hq
    obtain ⟨q1, q2, q3, q4, q5, q6⟩ := h5 q hq
    refine ⟨?_, q2, q3, fun b p hb => ?_, fun b hb hb2 => ?_, ?_⟩
    · rw [s 17 q 2 0 rfl]; exact q1
    · rw [s 18 q 0 b rfl]; exact q4 b p hb
    · rw [s 18 q 0 b rfl]; exact q5 b hb hb2
    · rw [s 17 q 3 0 rfl]; exact q6
theorem rc_1 {n : Nat} {C : St} {a : AS} (h : RC n C a) : C 19 (0) 3 0 = av a 1 0 0 := h.1 1 0 0 ⟨rfl, rfl⟩
theorem wc_1 {n : Nat} {C : St} {a : AS} {x : Int32} (h : RC n C a) : RC n (up C 19 (0) 3 0 x) (sv 1 0 0 x a) := wCgen (f := 1) (i := 0) (j := 0) h ⟨rfl, rfl⟩ (by decide)
theorem rc_2 {n : Nat} {C : St} {a : AS} (h : RC n C a) : C 1 (0) 2 0 = av a 2 0 0 := h.1 2 0 0 ⟨rfl, rfl⟩
theorem wc_2 {n : Nat} {C : St} {a : AS} {x : Int32} (h : RC n C a) : RC n (up C 1 (0) 2 0 x) (sv 2 0 0 x a) := wCgen (f := 2) (i := 0) (j := 0) h ⟨rfl, rfl⟩ (by decide)
theorem rc_3 {n : Nat} {C : St} {a : AS} (h : RC n C a) {i : Nat} (hi : i < 200) : C 3 (1) 0 i = av a 3 i 0 := h.1 3 i 0 ⟨hi, rfl⟩
theorem wc_3 {n : Nat} {C : St} {a : AS} {x : Int32} (h : RC n C a) {i : Nat} (hi : i < 200) : RC n (up C 3 (1) 0 i x) (sv 3 i 0 x a) := wCgen (f := 3) (i := i) (j := 0) h ⟨hi, rfl⟩ (by decide)
theorem rc_4 {n : Nat} {C : St} {a : AS} (h : RC n C a) : C 2 (1) 1 0 = av a 4 0 0 := h.1 4 0 0 ⟨rfl, rfl⟩
theorem wc_4 {n : Nat} {C : St} {a : AS} {x : Int32} (h : RC n C a) : RC n (up C 2 (1) 1 0 x) (sv 4 0 0 x a) := wCgen (f := 4) (i := 0) (j := 0) h ⟨rfl, rfl⟩ (by decide)
theorem rc_5 {n : Nat} {C : St} {a : AS} (h : RC n C a) : C 1 (0) 3 0 = av a 5 0 0 := h.1 5 0 0 ⟨rfl, rfl⟩
theorem wc_5 {n : Nat} {C : St} {a : AS} {x : Int32} (h : RC n C a) : RC n (up C 1 (0) 3 0 x) (sv 5 0 0 x a) := wCgen (f := 5) (i := 0) (j := 0) h ⟨rfl, rfl⟩ (by decide)
theorem rc_7 {n : Nat} {C : St} {a : AS} (h : RC n C a) : C 1 (0) 4 0 = av a 7 0 0 := h.1 7 0 0 ⟨rfl, rfl⟩
theorem wc_7 {n : Nat} {C : St} {a : AS} {x : Int32} (h : RC n C a) : RC n (up C 1 (0) 4 0 x) (sv 7 0 0 x a) := wCgen (f := 7) (i := 0) (j := 0) h ⟨rfl, rfl⟩ (by decide)
theorem rc_10 {n : Nat} {C : St} {a : AS} (h : RC n C a) {i : Nat} (hi : i < 10) : C 4 (0) 0 i = av a 10 i 0 := h.1 10 i 0 ⟨hi, rfl⟩
theorem wc_10 {n : Nat} {C : St} {a : AS} {x : Int32} (h : RC n C a) {i : Nat} (hi : i < 10) : RC n (up C 4 (0) 0 i x) (sv 10 i 0 x a) := wCgen (f := 10) (i := i) (j := 0) h ⟨hi, rfl⟩ (by decide)
theorem rc_12 {n : Nat} {C : St} {a : AS} (h : RC n C a) : C 16 (0) 6 0 = av a 12 0 0 := h.1 12 0 0 ⟨rfl, rfl⟩
theorem wc_12 {n : Nat} {C : St} {a : AS} {x : Int32} (h : RC n C a) : RC n (up C 16 (0) 6 0 x) (sv 12 0 0 x a) := wCgen (f := 12) (i := 0) (j := 0) h ⟨rfl, rfl⟩ (by decide)
theorem rc_13 {n : Nat} {C : St} {a : AS} (h : RC n C a) {i : Nat} (hi : i < 7) : C 5 (i) 4 0 = av a 13 i 0 := h.1 13 i 0 ⟨hi, rfl⟩
theorem wc_13 {n : Nat} {C : St} {a : AS} {x : Int32} (h : RC n C a) {i : Nat} (hi : i < 7) : RC n (up C 5 (i) 4 0 x) (sv 13 i 0 x a) := wCgen (f := 13) (i := i) (j := 0) h ⟨hi, rfl⟩ (by decide)
theorem rc_14 {n : Nat} {C : St} {a : AS} (h : RC n C a) {i : Nat} (hi : i < 6) : C 6 (i) 7 0 = av a 14 i 0 := h.1 14 i 0 ⟨hi, rfl⟩
theorem wc_14 {n : Nat} {C : St} {a : AS} {x : Int32} (h : RC n C a) {i : Nat} (hi : i < 6) : RC n (up C 6 (i) 7 0 x) (sv 14 i 0 x a) := wCgen (f := 14) (i := i) (j := 0) h ⟨hi, rfl⟩ (by decide)
theorem rc_16 {n : Nat} {C : St} {a : AS} (h : RC n C a) {i : Nat} (hi : i < 6) : C 6 (i) 8 0 = av a 16 i 0 := h.1 16 i 0 ⟨hi, rfl⟩
theorem wc_16 {n : Nat} {C : St} {a : AS} {x : Int32} (h : RC n C a) {i : Nat} (hi : i < 6) : RC n (up C 6 (i) 8 0 x) (sv 16 i 0 x a) := wCgen (f := 16) (i := i) (j := 0) h ⟨hi, rfl⟩ (by decide)
theorem rc_17 {n : Nat} {C : St} {a : AS} (h : RC n C a) {i : Nat} (hi : i < 6) : C 6 (i) 11 0 = av a 17 i 0 := h.1 17 i 0 ⟨hi, rfl⟩
theorem wc_17 {n : Nat} {C : St} {a : AS} {x : Int32} (h : RC n C a) {i : Nat} (hi : i < 6) : RC n (up C 6 (i) 11 0 x) (sv 17 i 0 x a) := wCgen (f := 17) (i := i) (j := 0) h ⟨hi, rfl⟩ (by decide)
theorem rc_18 {n : Nat} {C : St} {a : AS} (h : RC n C a) {i : Nat} (hi : i < 6) : C 6 (i) 12 0 = av a 18 i 0 := h.1 18 i 0 ⟨hi, rfl⟩
theorem wc_18 {n : Nat} {C : St} {a : AS} {x : Int32} (h : RC n C a) {i : Nat} (hi : i < 6) : RC n (up C 6 (i) 12 0 x) (sv 18 i 0 x a) := wCgen (f := 18) (i := i) (j := 0) h ⟨hi, rfl⟩ (by decide)
theorem rc_19 {n : Nat} {C : St} {a : AS} (h : RC n C a) {i : Nat} (hi : i < 6) : C 6 (i) 13 0 = av a 19 i 0 := h.1 19 i 0 ⟨hi, rfl⟩
theorem wc_19 {n : Nat} {C : St} {a : AS} {x : Int32} (h : RC n C a) {i : Nat} (hi : i < 6) : RC n (up C 6 (i) 13 0 x) (sv 19 i 0 x a) := wCgen (f := 19) (i := i) (j := 0) h ⟨hi, rfl⟩ (by decide)
theorem rc_20 {n : Nat} {C : St} {a : AS} (h : RC n C a) {i : Nat} (hi : i < 6) : C 6 (i) 14 0 = av a 20 i 0 := h.1 20 i 0 ⟨hi, rfl⟩
theorem wc_20 {n : Nat} {C : St} {a : AS} {x : Int32} (h : RC n C a) {i : Nat} (hi : i < 6) : RC n (up C 6 (i) 14 0 x) (sv 20 i 0 x a) := wCgen (f := 20) (i := i) (j := 0) h ⟨hi, rfl⟩ (by decide)
theorem rc_21 {n : Nat} {C : St} {a : AS} (h : RC n C a) {i : Nat} (hi : i < 6) : C 6 (i) 10 0 = av a 21 i 0 := h.1 21 i 0 ⟨hi, rfl⟩
theorem wc_21 {n : Nat} {C : St} {a : AS} {x : Int32} (h : RC n C a) {i : Nat} (hi : i < 6) : RC n (up C 6 (i) 10 0 x) (sv 21 i 0 x a) := wCgen (f := 21) (i := i) (j := 0) h ⟨hi, rfl⟩ (by decide)
theorem rc_22 {n : Nat} {C : St} {a : AS} (h : RC n C a) {i : Nat} (hi : i < 6) : C 6 (i) 9 0 = av a 22 i 0 := h.1 22 i 0 ⟨hi, rfl⟩
theorem wc_22 {n : Nat} {C : St} {a : AS} {x : Int32} (h : RC n C a) {i : Nat} (hi : i < 6) : RC n (up C 6 (i) 9 0 x) (sv 22 i 0 x a) := wCgen (f := 22) (i := i) (j := 0) h ⟨hi, rfl⟩ (by decide)
theorem rc_23 {n : Nat} {C : St} {a : AS} (h : RC n C a) {i : Nat} (hi : i < 6) : C 6 (i) 6 0 = av a 23 i 0 := h.1 23 i 0 ⟨hi, rfl⟩
theorem wc_23 {n : Nat} {C : St} {a : AS} {x : Int32} (h : RC n C a) {i : Nat} (hi : i < 6) : RC n (up C 6 (i) 6 0 x) (sv 23 i 0 x a) := wCgen (f := 23) (i := i) (j := 0) h ⟨hi, rfl⟩ (by decide)
theorem rc_24 {n : Nat} {C : St} {a : AS} (h : RC n C a) {i : Nat} (hi : i < 6) : C 6 (i) 18 0 = av a 24 i 0 := h.1 24 i 0 ⟨hi, rfl⟩
theorem wc_24 {n : Nat} {C : St} {a : AS} {x : Int32} (h : RC n C a) {i : Nat} (hi : i < 6) : RC n (up C 6 (i) 18 0 x) (sv 24 i 0 x a) := wCgen (f := 24) (i := i) (j := 0) h ⟨hi, rfl⟩ (by decide)
theorem rc_25 {n : Nat} {C : St} {a : AS} (h : RC n C a) : C 0 (0) 9 0 = av a 25 0 0 := h.1 25 0 0 ⟨rfl, rfl⟩
theorem wc_25 {n : Nat} {C : St} {a : AS} {x : Int32} (h : RC n C a) : RC n (up C 0 (0) 9 0 x) (sv 25 0 0 x a) := wCgen (f := 25) (i := 0) (j := 0) h ⟨rfl, rfl⟩ (by decide)
theorem rc_26 {n : Nat} {C : St} {a : AS} (h : RC n C a) {i : Nat} (hi : i < 6) {j : Nat} (hj : j < 3) : C 9 (i) 0 j = av a 26 i j := h.1 26 i j ⟨hi, hj⟩
theorem wc_26 {n : Nat} {C : St} {a : AS} {x : Int32} (h : RC n C a) {i : Nat} (hi : i < 6) {j : Nat} (hj : j < 3) : RC n (up C 9 (i) 0 j x) (sv 26 i j x a) := wCgen (f := 26) (i := i) (j := j) h ⟨hi, hj⟩ (by decide)
theorem rc_27 {n : Nat} {C : St} {a : AS} (h : RC n C a) {i : Nat} (hi : i < 6) {j : Nat} (hj : j < 3) : C 10 (i) 0 j = av a 27 i j := h.1 27 i j ⟨hi, hj⟩
theorem wc_27 {n : Nat} {C : St} {a : AS} {x : Int32} (h : RC n C a) {i : Nat} (hi : i < 6) {j : Nat} (hj : j < 3) : RC n (up C 10 (i) 0 j x) (sv 27 i j x a) := wCgen (f := 27) (i := i) (j := j) h ⟨hi, hj⟩ (by decide)
theorem rc_28 {n : Nat} {C : St} {a : AS} (h : RC n C a) {i : Nat} (hi : i < 3) : C 20 (0) 0 i = av a 28 i 0 := h.1 28 i 0 ⟨hi, rfl⟩
theorem wc_28 {n : Nat} {C : St} {a : AS} {x : Int32} (h : RC n C a) {i : Nat} (hi : i < 3) : RC n (up C 20 (0) 0 i x) (sv 28 i 0 x a) := wCgen (f := 28) (i := i) (j := 0) h ⟨hi, rfl⟩ (by decide)
theorem rc_29 {n : Nat} {C : St} {a : AS} (h : RC n C a) {i : Nat} (hi : i < 6) : C 6 (i) 19 0 = av a 29 i 0 := h.1 29 i 0 ⟨hi, rfl⟩
theorem wc_29 {n : Nat} {C : St} {a : AS} {x : Int32} (h : RC n C a) {i : Nat} (hi : i < 6) : RC n (up C 6 (i) 19 0 x) (sv 29 i 0 x a) := wCgen (f := 29) (i := i) (j := 0) h ⟨hi, rfl⟩ (by decide)
theorem rc_30 {n : Nat} {C : St} {a : AS} (h : RC n C a) {i : Nat} (hi : i < 6) {j : Nat} (hj : j < 40) : C 8 (i) 0 j = av a 30 i j := h.1 30 i j ⟨hi, hj⟩
theorem wc_30 {n : Nat} {C : St} {a : AS} {x : Int32} (h : RC n C a) {i : Nat} (hi : i < 6) {j : Nat} (hj : j < 40) : RC n (up C 8 (i) 0 j x) (sv 30 i j x a) := wCgen (f := 30) (i := i) (j := j) h ⟨hi, hj⟩ (by decide)
theorem rc_31 {n : Nat} {C : St} {a : AS} (h : RC n C a) {i : Nat} (hi : i < 6) : C 6 (i) 15 0 = av a 31 i 0 := h.1 31 i 0 ⟨hi, rfl⟩
theorem wc_31 {n : Nat} {C : St} {a : AS} {x : Int32} (h : RC n C a) {i : Nat} (hi : i < 6) : RC n (up C 6 (i) 15 0 x) (sv 31 i 0 x a) := wCgen (f := 31) (i := i) (j := 0) h ⟨hi, rfl⟩ (by decide)
theorem rc_32 {n : Nat} {C : St} {a : AS} (h : RC n C a) {i : Nat} (hi : i < 6) : C 6 (i) 16 0 = av a 32 i 0 := h.1 32 i 0 ⟨hi, rfl⟩
theorem wc_32 {n : Nat} {C : St} {a : AS} {x : Int32} (h : RC n C a) {i : Nat} (hi : i < 6) : RC n (up C 6 (i) 16 0 x) (sv 32 i 0 x a) := wCgen (f := 32) (i := i) (j := 0) h ⟨hi, rfl⟩ (by decide)
theorem rc_33 {n : Nat} {C : St} {a : AS} (h : RC n C a) {i : Nat} (hi : i < 6) {j : Nat} (hj : j < 24) : C 3 (i + 2) 0 j = av a 33 i j := h.1 33 i j ⟨hi, hj⟩
theorem wc_33 {n : Nat} {C : St} {a : AS} {x : Int32} (h : RC n C a) {i : Nat} (hi : i < 6) {j : Nat} (hj : j < 24) : RC n (up C 3 (i + 2) 0 j x) (sv 33 i j x a) := wCgen (f := 33) (i := i) (j := j) h ⟨hi, hj⟩ (by decide)
theorem rc_34 {n : Nat} {C : St} {a : AS} (h : RC n C a) {i : Nat} (hi : i < 6) : C 2 (i + 2) 1 0 = av a 34 i 0 := h.1 34 i 0 ⟨hi, rfl⟩
theorem wc_34 {n : Nat} {C : St} {a : AS} {x : Int32} (h : RC n C a) {i : Nat} (hi : i < 6) : RC n (up C 2 (i + 2) 1 0 x) (sv 34 i 0 x a) := wCgen (f := 34) (i := i) (j := 0) h ⟨hi, rfl⟩ (by decide)
theorem rc_36 {n : Nat} {C : St} {a : AS} (h : RC n C a) {i : Nat} (hi : i < 6) : C 6 (i) 17 0 = av a 36 i 0 := h.1 36 i 0 ⟨hi, rfl⟩
theorem wc_36 {n : Nat} {C : St} {a : AS} {x : Int32} (h : RC n C a) {i : Nat} (hi : i < 6) : RC n (up C 6 (i) 17 0 x) (sv 36 i 0 x a) := wCgen (f := 36) (i := i) (j := 0) h ⟨hi, rfl⟩ (by decide)
theorem rc_37 {n : Nat} {C : St} {a : AS} (h : RC n C a) {i : Nat} (hi : i < 6) {j : Nat} (hj : j < 128) : C 7 (i) 0 j = av a 37 i j := h.1 37 i j ⟨hi, hj⟩
theorem wc_37 {n : Nat} {C : St} {a : AS} {x : Int32} (h : RC n C a) {i : Nat} (hi : i < 6) {j : Nat} (hj : j < 128) : RC n (up C 7 (i) 0 j x) (sv 37 i j x a) := wCgen (f := 37) (i := i) (j := j) h ⟨hi, hj⟩ (by decide)
theorem rc_38 {n : Nat} {C : St} {a : AS} (h : RC n C a) {i : Nat} (hi : i < n) {j : Nat} (hj : j < 16) : C 15 (i) 0 j = av a 38 i j := h.1 38 i j ⟨hi, hj⟩
theorem wc_38 {n : Nat} {C : St} {a : AS} {x : Int32} (h : RC n C a) {i : Nat} (hi : i < n) {j : Nat} (hj : j < 16) : RC n (up C 15 (i) 0 j x) (sv 38 i j x a) := wCgen (f := 38) (i := i) (j := j) h ⟨hi, hj⟩ (by decide)
theorem rc_40 {n : Nat} {C : St} {a : AS} (h : RC n C a) {i : Nat} (hi : i < n) : C 14 (i) 2 0 = av a 40 i 0 := h.1 40 i 0 ⟨hi, rfl⟩
theorem wc_40 {n : Nat} {C : St} {a : AS} {x : Int32} (h : RC n C a) {i : Nat} (hi : i < n) : RC n (up C 14 (i) 2 0 x) (sv 40 i 0 x a) := wCgen (f := 40) (i := i) (j := 0) h ⟨hi, rfl⟩ (by decide)
theorem rc_41 {n : Nat} {C : St} {a : AS} (h : RC n C a) {i : Nat} (hi : i < n) : C 14 (i) 6 0 = av a 41 i 0 := h.1 41 i 0 ⟨hi, rfl⟩
theorem wc_41 {n : Nat} {C : St} {a : AS} {x : Int32} (h : RC n C a) {i : Nat} (hi : i < n) : RC n (up C 14 (i) 6 0 x) (sv 41 i 0 x a) := wCgen (f := 41) (i := i) (j := 0) h ⟨hi, rfl⟩ (by decide)
theorem rc_42 {n : Nat} {C : St} {a : AS} (h : RC n C a) {i : Nat} (hi : i < n) : C 14 (i) 4 0 = av a 42 i 0 := h.1 42 i 0 ⟨hi, rfl⟩
theorem wc_42 {n : Nat} {C : St} {a : AS} {x : Int32} (h : RC n C a) {i : Nat} (hi : i < n) : RC n (up C 14 (i) 4 0 x) (sv 42 i 0 x a) := wCgen (f := 42) (i := i) (j := 0) h ⟨hi, rfl⟩ (by decide)
theorem rc_43 {n : Nat} {C : St} {a : AS} (h : RC n C a) {i : Nat} (hi : i < n) : C 14 (i) 5 0 = av a 43 i 0 := h.1 43 i 0 ⟨hi, rfl⟩
theorem wc_43 {n : Nat} {C : St} {a : AS} {x : Int32} (h : RC n C a) {i : Nat} (hi : i < n) : RC n (up C 14 (i) 5 0 x) (sv 43 i 0 x a) := wCgen (f := 43) (i := i) (j := 0) h ⟨hi, rfl⟩ (by decide)
theorem rc_44 {n : Nat} {C : St} {a : AS} (h : RC n C a) : C 16 (0) 12 0 = av a 44 0 0 := h.1 44 0 0 ⟨rfl, rfl⟩
theorem wc_44 {n : Nat} {C : St} {a : AS} {x : Int32} (h : RC n C a) : RC n (up C 16 (0) 12 0 x) (sv 44 0 0 x a) := wCgen (f := 44) (i := 0) (j := 0) h ⟨rfl, rfl⟩ (by decide)
theorem rc_45 {n : Nat} {C : St} {a : AS} (h : RC n C a) : C 16 (0) 5 0 = av a 45 0 0 := h.1 45 0 0 ⟨rfl, rfl⟩
theorem wc_45 {n : Nat} {C : St} {a : AS} {x : Int32} (h : RC n C a) : RC n (up C 16 (0) 5 0 x) (sv 45 0 0 x a) := wCgen (f := 45) (i := 0) (j := 0) h ⟨rfl, rfl⟩ (by decide)
theorem rc_46 {n : Nat} {C : St} {a : AS} (h : RC n C a) : C 16 (0) 7 0 = av a 46 0 0 := h.1 46 0 0 ⟨rfl, rfl⟩
theorem wc_46 {n : Nat} {C : St} {a : AS} {x : Int32} (h : RC n C a) : RC n (up C 16 (0) 7 0 x) (sv 46 0 0 x a) := wCgen (f := 46) (i := 0) (j := 0) h ⟨rfl, rfl⟩ (by decide)
theorem rc_47 {n : Nat} {C : St} {a : AS} (h : RC n C a) : C 16 (0) 8 0 = av a 47 0 0 := h.1 47 0 0 ⟨rfl, rfl⟩
theorem wc_47 {n : Nat} {C : St} {a : AS} {x : Int32} (h : RC n C a) : RC n (up C 16 (0) 8 0 x) (sv 47 0 0 x a) := wCgen (f := 47) (i := 0) (j := 0) h ⟨rfl, rfl⟩ (by decide)
theorem rc_49 {n : Nat} {C : St} {a : AS} (h : RC n C a) : C 16 (0) 9 0 = av a 49 0 0 := h.1 49 0 0 ⟨rfl, rfl⟩
theorem wc_49 {n : Nat} {C : St} {a : AS} {x : Int32} (h : RC n C a) : RC n (up C 16 (0) 9 0 x) (sv 49 0 0 x a) := wCgen (f := 49) (i := 0) (j := 0) h ⟨rfl, rfl⟩ (by decide)
theorem rc_50 {n : Nat} {C : St} {a : AS} (h : RC n C a) : C 16 (0) 11 0 = av a 50 0 0 := h.1 50 0 0 ⟨rfl, rfl⟩
theorem wc_50 {n : Nat} {C : St} {a : AS} {x : Int32} (h : RC n C a) : RC n (up C 16 (0) 11 0 x) (sv 50 0 0 x a) := wCgen (f := 50) (i := 0) (j := 0) h ⟨rfl, rfl⟩ (by decide)
theorem rc_51 {n : Nat} {C : St} {a : AS} (h : RC n C a) : C 16 (0) 10 0 = av a 51 0 0 := h.1 51 0 0 ⟨rfl, rfl⟩
theorem wc_51 {n : Nat} {C : St} {a : AS} {x : Int32} (h : RC n C a) : RC n (up C 16 (0) 10 0 x) (sv 51 0 0 x a) := wCgen (f := 51) (i := 0) (j := 0) h ⟨rfl, rfl⟩ (by decide)
theorem rc_52 {n : Nat} {C : St} {a : AS} (h : RC n C a) : C 23 (0) 8 0 = av a 52 0 0 := h.1 52 0 0 ⟨rfl, rfl⟩
theorem wc_52 {n : Nat} {C : St} {a : AS} {x : Int32} (h : RC n C a) : RC n (up C 23 (0) 8 0 x) (sv 52 0 0 x a) := wCgen (f := 52) (i := 0) (j := 0) h ⟨rfl, rfl⟩ (by decide)
theorem rc_53 {n : Nat} {C : St} {a : AS} (h : RC n C a) : C 23 (0) 9 0 = av a 53 0 0 := h.1 53 0 0 ⟨rfl, rfl⟩
theorem wc_53 {n : Nat} {C : St} {a : AS} {x : Int32} (h : RC n C a) : RC n (up C 23 (0) 9 0 x) (sv 53 0 0 x a) := wCgen (f := 53) (i := 0) (j := 0) h ⟨rfl, rfl⟩ (by decide)
theorem rc_54 {n : Nat} {C : St} {a : AS} (h : RC n C a) : C 23 (0) 10 0 = av a 54 0 0 := h.1 54 0 0 ⟨rfl, rfl⟩
theorem wc_54 {n : Nat} {C : St} {a : AS} {x : Int32} (h : RC n C a) : RC n (up C 23 (0) 10 0 x) (sv 54 0 0 x a) := wCgen (f := 54) (i := 0) (j := 0) h ⟨rfl, rfl⟩ (by decide)
theorem rc_55 {n : Nat} {C : St} {a : AS} (h : RC n C a) : C 23 (0) 11 0 = av a 55 0 0 := h.1 55 0 0 ⟨rfl, rfl⟩
theorem wc_55 {n : Nat} {C : St} {a : AS} {x : Int32} (h : RC n C a) : RC n (up C 23 (0) 11 0 x) (sv 55 0 0 x a) := wCgen (f := 55) (i := 0) (j := 0) h ⟨rfl, rfl⟩ (by decide)
theorem rc_63 {n : Nat} {C : St} {a : AS} (h : RC n C a) {i : Nat} (hi : i < 20) : C 28 (0) 0 i = av a 63 i 0 := h.1 63 i 0 ⟨hi, rfl⟩
theorem wc_63 {n : Nat} {C : St} {a : AS} {x : Int32} (h : RC n C a) {i : Nat} (hi : i < 20) : RC n (up C 28 (0) 0 i x) (sv 63 i 0 x a) := wCgen (f := 63) (i := i) (j := 0) h ⟨hi, rfl⟩ (by decide)
theorem rc_64 {n : Nat} {C : St} {a : AS} (h : RC n C a) {i : Nat} (hi : i < 8) {j : Nat} (hj : j < 20) : C 30 (i) 0 j = av a 64 i j := h.1 64 i j ⟨hi, hj⟩
theorem wc_64 {n : Nat} {C : St} {a : AS} {x : Int32} (h : RC n C a) {i : Nat} (hi : i < 8) {j : Nat} (hj : j < 20) : RC n (up C 30 (i) 0 j x) (sv 64 i j x a) := wCgen (f := 64) (i := i) (j := j) h ⟨hi, hj⟩ (by decide)
theorem rc_65 {n : Nat} {C : St} {a : AS} (h : RC n C a) {i : Nat} (hi : i < 8) : C 31 (0) 0 i = av a 65 i 0 := h.1 65 i 0 ⟨hi, rfl⟩
theorem wc_65 {n : Nat} {C : St} {a : AS} {x : Int32} (h : RC n C a) {i : Nat} (hi : i < 8) : RC n (up C 31 (0) 0 i x) (sv 65 i 0 x a) := wCgen (f := 65) (i := i) (j := 0) h ⟨hi, rfl⟩ (by decide)
theorem rc_66 {n : Nat} {C : St} {a : AS} (h : RC n C a) {i : Nat} (hi : i < 600) : C 27 (0) 0 i = av a 66 i 0 := h.1 66 i 0 ⟨hi, rfl⟩
theorem wc_66 {n : Nat} {C : St} {a : AS} {x : Int32} (h : RC n C a) {i : Nat} (hi : i < 600) : RC n (up C 27 (0) 0 i x) (sv 66 i 0 x a) := wCgen (f := 66) (i := i) (j := 0) h ⟨hi, rfl⟩ (by decide)
theorem rc_67 {n : Nat} {C : St} {a : AS} (h : RC n C a) : C 26 (0) 8 0 = av a 67 0 0 := h.1 67 0 0 ⟨rfl, rfl⟩
theorem wc_67 {n : Nat} {C : St} {a : AS} {x : Int32} (h : RC n C a) : RC n (up C 26 (0) 8 0 x) (sv 67 0 0 x a) := wCgen (f := 67) (i := 0) (j := 0) h ⟨rfl, rfl⟩ (by decide)
theorem rc_68 {n : Nat} {C : St} {a : AS} (h : RC n C a) : C 26 (0) 11 0 = av a 68 0 0 := h.1 68 0 0 ⟨rfl, rfl⟩
theorem wc_68 {n : Nat} {C : St} {a : AS} {x : Int32} (h : RC n C a) : RC n (up C 26 (0) 11 0 x) (sv 68 0 0 x a) := wCgen (f := 68) (i := 0) (j := 0) h ⟨rfl, rfl⟩ (by decide)
theorem rc_69 {n : Nat} {C : St} {a : AS} (h : RC n C a) : C 26 (0) 6 0 = av a 69 0 0 := h.1 69 0 0 ⟨rfl, rfl⟩
theorem wc_69 {n : Nat} {C : St} {a : AS} {x : Int32} (h : RC n C a) : RC n (up C 26 (0) 6 0 x) (sv 69 0 0 x a) := wCgen (f := 69) (i := 0) (j := 0) h ⟨rfl, rfl⟩ (by decide)
theorem rc_71 {n : Nat} {C : St} {a : AS} (h : RC n C a) {i : Nat} (hi : i < 7) : C 5 (i) 3 0 = av a 71 i 0 := h.1 71 i 0 ⟨hi, rfl⟩
theorem wc_71 {n : Nat} {C : St} {a : AS} {x : Int32} (h : RC n C a) {i : Nat} (hi : i < 7) : RC n (up C 5 (i) 3 0 x) (sv 71 i 0 x a) := wCgen (f := 71) (i := i) (j := 0) h ⟨hi, rfl⟩ (by decide)
theorem rc_72 {n : Nat} {C : St} {a : AS} (h : RC n C a) : C 23 (0) 14 0 = av a 72 0 0 := h.1 72 0 0 ⟨rfl, rfl⟩
theorem wc_72 {n : Nat} {C : St} {a : AS} {x : Int32} (h : RC n C a) : RC n (up C 23 (0) 14 0 x) (sv 72 0 0 x a) := wCgen (f := 72) (i := 0) (j := 0) h ⟨rfl, rfl⟩ (by decide)
theorem rc_76 {n : Nat} {C : St} {a : AS} (h : RC n C a) {i : Nat} (hi : i < 512) : C 24 (0) 0 i = av a 76 i 0 := h.1 76 i 0 ⟨hi, rfl⟩
theorem wc_76 {n : Nat} {C : St} {a : AS} {x : Int32} (h : RC n C a) {i : Nat} (hi : i < 512) : RC n (up C 24 (0) 0 i x) (sv 76 i 0 x a) := wCgen (f := 76) (i := i) (j := 0) h ⟨hi, rfl⟩ (by decide)
theorem rc_77 {n : Nat} {C : St} {a : AS} (h : RC n C a) {i : Nat} (hi : i < 512) : C 25 (0) 0 i = av a 77 i 0 := h.1 77 i 0 ⟨hi, rfl⟩
theorem wc_77 {n : Nat} {C : St} {a : AS} {x : Int32} (h : RC n C a) {i : Nat} (hi : i < 512) : RC n (up C 25 (0) 0 i x) (sv 77 i 0 x a) := wCgen (f := 77) (i := i) (j := 0) h ⟨hi, rfl⟩ (by decide)
def okR (n f i j : Nat) : Prop := match f with
  | 1 => i = 0 ∧ j = 0
  | 2 => i = 0 ∧ j = 0
  | 3 => i < 200 ∧ j = 0
  | 4 => i = 0 ∧ j = 0
  | 5 => i = 0 ∧ j = 0
  | 10 => i < 6 ∧ j = 0
  | 13 => i < 7 ∧ j = 0
  | 14 => i < 6 ∧ j = 0
  | 17 => i < 6 ∧ j = 0
  | 18 => i < 6 ∧ j = 0
  | 19 => i < 6 ∧ j = 0
  | 20 => i < 6 ∧ j = 0
  | 21 => i < 6 ∧ j = 0
  | 22 => i < 6 ∧ j = 0
  | 23 => i < 6 ∧ j = 0
  | 24 => i < 6 ∧ j = 0
  | 25 => i = 0 ∧ j = 0
  | 26 => i < 6 ∧ j < 3
  | 27 => i < 6 ∧ j < 3
  | 28 => i < 3 ∧ j = 0
  | 30 => i < 6 ∧ j < 40
  | 31 => i < 6 ∧ j = 0
  | 32 => i < 6 ∧ j = 0
  | 33 => i < 6 ∧ j < 24
  | 34 => i < 6 ∧ j = 0
  | 35 => i < 6 ∧ j < 5000
  | 36 => i < 6 ∧ j = 0
  | 37 => i < 6 ∧ j < 128
  | 38 => i < n ∧ j < 16
  | 39 => i < n ∧ j = 0
  | 40 => i < n ∧ j = 0
  | 41 => i < n ∧ j = 0
  | 44 => i = 0 ∧ j = 0
  | 45 => i = 0 ∧ j = 0
  | 52 => i = 0 ∧ j = 0
  | 53 => i = 0 ∧ j = 0
  | 63 => i < 20 ∧ j = 0
  | 64 => i < 8 ∧ j < 20
  | 65 => i < 8 ∧ j = 0
  | 66 => i < 600 ∧ j = 0
  | 67 => i = 0 ∧ j = 0
  | 68 => i = 0 ∧ j = 0
  | 69 => i = 0 ∧ j = 0
  | _ => False
def adR (f i j : Nat) : Nat × Nat × Nat × Nat := match f with
  | 1 => (50, 0, 1, 0)
  | 2 => (50, 0, 2, 0)
  | 3 => (103, 0, 0, i)
  | 4 => (50, 0, 4, 0)
  | 5 => (50, 0, 5, 0)
  | 10 => (110, 0, 0, i)
  | 13 => (113, 0, 0, i)
  | 14 => (114, 0, 0, i)
  | 17 => (117, 0, 0, i)
  | 18 => (118, 0, 0, i)
  | 19 => (119, 0, 0, i)
  | 20 => (120, 0, 0, i)
  | 21 => (121, 0, 0, i)
  | 22 => (122, 0, 0, i)
  | 23 => (123, 0, 0, i)
  | 24 => (124, 0, 0, i)
  | 25 => (50, 0, 25, 0)
  | 26 => (126, 0, 0, 3 * i + j)
  | 27 => (127, 0, 0, 3 * i + j)
  | 28 => (128, 0, 0, i)
  | 30 => (130, 0, 0, 40 * i + j)
  | 31 => (131, 0, 0, i)
  | 32 => (132, 0, 0, i)
  | 33 => (133, 0, 0, 24 * i + j)
  | 34 => (134, 0, 0, i)
  | 35 => (135, 0, 0, 5000 * i + j)
  | 36 => (136, 0, 0, i)
  | 37 => (137, 0, 0, 128 * i + j)
  | 38 => (138, 0, 0, 16 * i + j)
  | 39 => (139, 0, 0, i)
  | 40 => (140, 0, 0, i)
  | 41 => (141, 0, 0, i)
  | 44 => (50, 0, 44, 0)
  | 45 => (50, 0, 45, 0)
  | 52 => (50, 0, 52, 0)
  | 53 => (50, 0, 53, 0)
  | 63 => (163, 0, 0, i)
  | 64 => (164, 0, 0, 20 * i + j)
  | 65 => (165, 0, 0, i)
  | 66 => (166, 0, 0, i)
  | 67 => (50, 0, 67, 0)
  | 68 => (50, 0, 68, 0)
  | 69 => (50, 0, 69, 0)
  | _ => (99, 0, 0, 0)
def nvR (x : Nat × Nat × Nat × Nat) : Nat × Nat × Nat :=
  if x.1 = 50 ∧ x.2.2.1 = 1 then (1, 0, 0) else
  if x.1 = 50 ∧ x.2.2.1 = 2 then (2, 0, 0) else
  if x.1 = 103 then (3, x.2.2.2, 0) else
  if x.1 = 50 ∧ x.2.2.1 = 4 then (4, 0, 0) else
  if x.1 = 50 ∧ x.2.2.1 = 5 then (5, 0, 0) else
  if x.1 = 110 then (10, x.2.2.2, 0) else
  if x.1 = 113 then (13, x.2.2.2, 0) else
  if x.1 = 114 then (14, x.2.2.2, 0) else
  if x.1 = 117 then (17, x.2.2.2, 0) else
  if x.1 = 118 then (18, x.2.2.2, 0) else
  if x.1 = 119 then (19, x.2.2.2, 0) else
  if x.1 = 120 then (20, x.2.2.2, 0) else
  if x.1 = 121 then (21, x.2.2.2, 0) else
  if x.1 = 122 then (22, x.2.2.2, 0) else
  if x.1 = 123 then (23, x.2.2.2, 0) else
  if x.1 = 124 then (24, x.2.2.2, 0) else
  if x.1 = 50 ∧ x.2.2.1 = 25 then (25, 0, 0) else
  if x.1 = 126 then (26, x.2.2.2 / 3, x.2.2.2 % 3) else
  if x.1 = 127 then (27, x.2.2.2 / 3, x.2.2.2 % 3) else
  if x.1 = 128 then (28, x.2.2.2, 0) else
  if x.1 = 130 then (30, x.2.2.2 / 40, x.2.2.2 % 40) else
  if x.1 = 131 then (31, x.2.2.2, 0) else
  if x.1 = 132 then (32, x.2.2.2, 0) else
  if x.1 = 133 then (33, x.2.2.2 / 24, x.2.2.2 % 24) else
  if x.1 = 134 then (34, x.2.2.2, 0) else
  if x.1 = 135 then (35, x.2.2.2 / 5000, x.2.2.2 % 5000) else
  if x.1 = 136 then (36, x.2.2.2, 0) else
  if x.1 = 137 then (37, x.2.2.2 / 128, x.2.2.2 % 128) else
  if x.1 = 138 then (38, x.2.2.2 / 16, x.2.2.2 % 16) else
  if x.1 = 139 then (39, x.2.2.2, 0) else
  if x.1 = 140 then (40, x.2.2.2, 0) else
  if x.1 = 141 then (41, x.2.2.2, 0) else
  if x.1 = 50 ∧ x.2.2.1 = 44 then (44, 0, 0) else
  if x.1 = 50 ∧ x.2.2.1 = 45 then (45, 0, 0) else
  if x.1 = 50 ∧ x.2.2.1 = 52 then (52, 0, 0) else
  if x.1 = 50 ∧ x.2.2.1 = 53 then (53, 0, 0) else
  if x.1 = 163 then (63, x.2.2.2, 0) else
  if x.1 = 164 then (64, x.2.2.2 / 20, x.2.2.2 % 20) else
  if x.1 = 165 then (65, x.2.2.2, 0) else
  if x.1 = 166 then (66, x.2.2.2, 0) else
  if x.1 = 50 ∧ x.2.2.1 = 67 then (67, 0, 0) else
  if x.1 = 50 ∧ x.2.2.1 = 68 then (68, 0, 0) else
  if x.1 = 50 ∧ x.2.2.1 = 69 then (69, 0, 0) else
  (80, 0, 0)
set_option maxHeartbeats 4000000 in
theorem nvR_ok {n f i j : Nat} (h : okR n f i j) : nvR (adR f i j) = (f, i, j) := by
  unfold okR at h
  split at h <;> first | exact h.elim | (obtain ⟨h1, h2⟩ := h; first | (subst h1; subst h2; rfl) | (subst h2; simp [adR, nvR]) | (simp [adR, nvR]; constructor <;> omega))
theorem okR_lt {n f i j : Nat} (h : okR n f i j) : f < 80 := by
  unfold okR at h
  split at h <;> first | exact h.elim | decide
def RRd (n : Nat) (R : St) (a : AS) : Prop := ∀ f i j, okR n f i j → atC R (adR f i j) = av a f i j
theorem wRd {n : Nat} {C : St} {a : AS} {f i j : Nat} {x : Int32} (h : RRd n C a) (ho : okR n f i j) : RRd n (upA C (adR f i j) x) (sv f i j x a) := by
  intro g b c hg
  rw [atC_upA, av_sv]
  by_cases e : adR g b c = adR f i j
  · have e2 := congrArg nvR e
    rw [nvR_ok hg, nvR_ok ho] at e2
    simp only [Prod.mk.injEq] at e2
    rw [if_pos e, if_pos e2]
  · rw [if_neg e, if_neg (fun h2 => e (by rw [h2.1, h2.2.1, h2.2.2]))]
    exact h g b c hg
theorem wRs {n : Nat} {C : St} {f i j : Nat} {x : Int32} (ho : okR n f i j) {y : Nat × Nat × Nat × Nat} (hy : (nvR y).1 = 80) : atC (upA C (adR f i j) x) y = atC C y := by
  rw [atC_upA, if_neg]
  intro e
  rw [e, nvR_ok ho] at hy
  have := okR_lt ho
  simp only at hy
  omega
theorem wRo {n : Nat} {C : St} {a : AS} {y : Nat × Nat × Nat × Nat} {x : Int32} (h : RRd n C a) (hy : (nvR y).1 = 80) : RRd n (upA C y x) a := by
  intro g b c hg
  rw [atC_upA, if_neg]
  · exact h g b c hg
  intro e
  rw [← e, nvR_ok hg] at hy
  have := okR_lt hg
  simp only at hy
  omega
theorem wRa {n : Nat} {C : St} {a b : AS} (h : RRd n C a) (e : ∀ f i j, okR n f i j → av b f i j = av a f i j) : RRd n C b := fun f i j ho => by
  rw [e f i j ho]; exact h f i j ho
def sg (a : AS) (p : Nat) : Int32 := if p = 6 then (if av a 71 0 0 = 1 then 0 else if av a 71 1 0 = 1 then 1 else -1) else if p = 7 then (if av a 71 2 0 = 1 then 2 else if av a 71 3 0 = 1 then 3 else -1) else if p = 8 then (if av a 71 4 0 = 1 then 4 else if av a 71 5 0 = 1 then 5 else -1) else if p = 9 then (if av a 71 6 0 = 1 then 6 else -1) else -1
def sgt (x : Int32) : Int32 := if x < 0 then 0 else 1
def RRl (R : St) (arr cnt : Nat) (l : List Nat) : Prop := R 50 0 cnt 0 = nI l.length ∧ ∀ i p, l[i]? = some p → R arr 0 0 i = nI p
def RRh (h : Option Nat) (R : St) (a : AS) : Prop := RRl R 108 6 (h.toList ++ al a 0) ∧ (∀ p ∈ al a 0, R 109 0 0 p = 0) ∧ (∀ p, h = some p → R 109 0 0 p = 1) ∧ (h = none → R 50 0 7 0 = av a 7 0 0)
def RRs (R : St) (a : AS) : Prop := ∀ p, p < 10 → R 111 0 0 p = sg a p
def RRt (R : St) (a : AS) : Prop := R 112 0 0 6 = av a 12 0 0 ∧ R 112 0 0 7 = sgt (av a 54 0 0) ∧ R 112 0 0 8 = sgt (av a 55 0 0)
def RRe (R : St) (a : AS) : Prop := ∀ k, k < 6 → R 116 0 0 k = (if av a 14 k 0 = 3 then 0 else av a 16 k 0) ∧ R 115 0 0 k = (if av a 14 k 0 = 3 then av a 16 k 0 else 0)
def RRg (R : St) (a : AS) : Prop := RRl R 159 62 (al a 2) ∧ ∀ k ∈ al a 2, R 129 0 0 k = av a 29 k 0
def RRa (R : St) (a : AS) : Prop := RRl R 156 60 (al a 1) ∧ ∀ i p, (al a 1)[i]? = some p → R 157 0 0 i = av a 29 p 0
def RRc (R : St) (a : AS) : Prop := RRl R 158 61 (al a 3)
def RRf (n : Nat) (R : St) (a : AS) : Prop := ∀ f, f < n → ¬ av a 39 f 0 < 0 → R 142 0 0 f = av a 42 f 0 ∧ R 143 0 0 f = av a 43 f 0
def RRm (R : St) (a : AS) : Prop := (av a 12 0 0 ≠ 0 → R 50 0 46 0 = av a 46 0 0 ∧ R 50 0 47 0 = av a 47 0 0 ∧ R 50 0 48 0 = av a 29 (av a 47 0 0).toNatClampNeg 0) ∧ (av a 45 0 0 = 1 → R 50 0 49 0 = av a 49 0 0 ∧ R 50 0 50 0 = av a 50 0 0 ∧ R 50 0 51 0 = av a 51 0 0)
def RRj (R : St) (a : AS) : Prop := (¬ av a 54 0 0 < 0 → R 50 0 54 0 = av a 54 0 0) ∧ (¬ av a 55 0 0 < 0 → R 50 0 55 0 = av a 55 0 0)
def RRy (n : Nat) (R : St) (a : AS) : Prop := R 50 0 0 0 = nI n ∧ RRt R a ∧ RRe R a ∧ RRg R a ∧ RRa R a ∧ RRc R a ∧ RRf n R a ∧ RRm R a ∧ RRj R a
def RR (n : Nat) (h : Option Nat) (R : St) (a : AS) : Prop := RRd n R a ∧ RRh h R a ∧ RRs R a ∧ RRy n R a
theorem wRgen {n : Nat} {hd : Option Nat} {R : St} {a : AS} {f i j : Nat} {x : Int32} (h : RR n hd R a) (ho : okR n f i j) (h1 : f ≠ 14) (h2 : f ≠ 39) (h3 : f ≠ 45) : RR n hd (upA R (adR f i j) x) (sv f i j x a) := by
  obtain ⟨g1, g2, g3, g4, g5, g6, g7, g8, g9, g10, g11, g12⟩ := h
  have s : ∀ q b k c, (nvR (q, b, k, c)).1 = 80 → upA R (adR f i j) x q b k c = R q b k c := fun q b k c hy => wRs ho (y := (q, b, k, c)) hy
  have e : ∀ g b c, g ∈ [7, 71, 12, 54, 55, 14, 16, 29, 39, 42, 43, 46, 47, 45, 49, 50, 51] → av (sv f i j x a) g b c = av a g b c := by
    intro g b c hg
    rw [av_sv, if_neg]
    rintro ⟨rfl, rfl, rfl⟩
    simp only [List.mem_cons, List.not_mem_nil, or_false] at hg
    rcases hg with rfl | rfl | rfl | rfl | rfl | rfl | rfl | rfl | rfl | rfl | rfl | rfl | rfl | rfl | rfl | rfl | rfl <;> first | exact ho.elim | contradiction
  refine ⟨wRd g1 ho, ?_, ?_, ?_, ?_, ?_, ?_, ?_, ?_, ?_, ?_, ?_⟩
  · obtain ⟨a1, a2, a3, a4⟩ := g2
    refine ⟨⟨?_, fun b p hb => ?_⟩, fun p hp => ?_, fun p hp => ?_, fun hh => ?_⟩
    · rw [s 50 0 6 0 rfl]; exact a1.1
    · rw [s 108 0 0 b rfl]; exact a1.2 b p hb
    · rw [s 109 0 0 p rfl]; exact a2 p hp
    · rw [s 109 0 0 p rfl]; exact a3 p hp
    · rw [s 50 0 7 0 rfl, e 7 _ _ (by decide)]; exact a4 hh
  · intro p hp
    rw [s 111 0 0 p rfl, g3 p hp]
    unfold sg
    simp only [e 71 _ _ (by decide)]
  · rw [s 50 0 0 0 rfl]; exact g4
  · refine ⟨?_, ?_, ?_⟩
    · rw [s 112 0 0 6 rfl, e 12 _ _ (by decide)]; exact g5.1
    · rw [s 112 0 0 7 rfl, e 54 _ _ (by decide)]; exact g5.2.1
    · rw [s 112 0 0 8 rfl, e 55 _ _ (by decide)]; exact g5.2.2
  · intro k hk
    rw [s 116 0 0 k rfl, s 115 0 0 k rfl, e 14 _ _ (by decide), e 16 _ _ (by decide)]
    exact g6 k hk
  · refine ⟨⟨?_, fun b p hb => ?_⟩, fun k hk => ?_⟩
    · rw [s 50 0 62 0 rfl]; exact g7.1.1
    · rw [s 159 0 0 b rfl]; exact g7.1.2 b p hb
    · rw [s 129 0 0 k rfl, e 29 _ _ (by decide)]; exact g7.2 k hk
  · refine ⟨⟨?_, fun b p hb => ?_⟩, fun b p hb => ?_⟩
    · rw [s 50 0 60 0 rfl]; exact g8.1.1
    · rw [s 156 0 0 b rfl]; exact g8.1.2 b p hb
    · rw [s 157 0 0 b rfl, e 29 _ _ (by decide)]; exact g8.2 b p hb
  · refine ⟨?_, fun b p hb => ?_⟩
    · rw [s 50 0 61 0 rfl]; exact g9.1
    · rw [s 158 0 0 b rfl]; exact g9.2 b p hb
  · intro b hb hn
    rw [e 39 _ _ (by decide)] at hn
    rw [s 142 0 0 b rfl, s 143 0 0 b rfl, e 42 _ _ (by decide), e 43 _ _ (by decide)]
    exact g10 b hb hn
  · refine ⟨fun hb => ?_, fun hb => ?_⟩
    · rw [e 12 _ _ (by decide)] at hb
      rw [s 50 0 46 0 rfl, s 50 0 47 0 rfl, s 50 0 48 0 rfl, e 46 _ _ (by decide), e 47 _ _ (by decide), e 29 _ _ (by decide)]
      exact g11.1 hb
    · rw [e 45 _ _ (by decide)] at hb
      rw [s 50 0 49 0 rfl, s 50 0 50 0 rfl, s 50 0 51 0 rfl, e 49 _ _ (by decide), e 50 _ _ (by decide), e 51 _ _ (by decide)]
      exact g11.2 hb
  · refine ⟨fun hb => ?_, fun hb => ?_⟩
    · rw [e 54 _ _ (by decide)] at hb ⊢
      rw [s 50 0 54 0 rfl]
      exact g12.1 hb
    · rw [e 55 _ _ (by decide)] at hb ⊢
      rw [s 50 0 55 0 rfl]
      exact g12.2 hb
theorem rr_1 {n : Nat} {hd : Option Nat} {R : St} {a : AS} (h : RR n hd R a) : R 50 0 1 0 = av a 1 0 0 := h.1 1 0 0 ⟨rfl, rfl⟩
theorem wr_1 {n : Nat} {hd : Option Nat} {R : St} {a : AS} {x : Int32} (h : RR n hd R a) : RR n hd (up R 50 0 1 0 x) (sv 1 0 0 x a) := wRgen (f := 1) (i := 0) (j := 0) h ⟨rfl, rfl⟩ (by decide) (by decide) (by decide)
theorem rr_2 {n : Nat} {hd : Option Nat} {R : St} {a : AS} (h : RR n hd R a) : R 50 0 2 0 = av a 2 0 0 := h.1 2 0 0 ⟨rfl, rfl⟩
theorem wr_2 {n : Nat} {hd : Option Nat} {R : St} {a : AS} {x : Int32} (h : RR n hd R a) : RR n hd (up R 50 0 2 0 x) (sv 2 0 0 x a) := wRgen (f := 2) (i := 0) (j := 0) h ⟨rfl, rfl⟩ (by decide) (by decide) (by decide)
theorem rr_3 {n : Nat} {hd : Option Nat} {R : St} {a : AS} (h : RR n hd R a) {i : Nat} (hi : i < 200) : R 103 0 0 (i) = av a 3 i 0 := h.1 3 i 0 ⟨hi, rfl⟩
theorem wr_3 {n : Nat} {hd : Option Nat} {R : St} {a : AS} {x : Int32} (h : RR n hd R a) {i : Nat} (hi : i < 200) : RR n hd (up R 103 0 0 (i) x) (sv 3 i 0 x a) := wRgen (f := 3) (i := i) (j := 0) h ⟨hi, rfl⟩ (by decide) (by decide) (by decide)
theorem rr_4 {n : Nat} {hd : Option Nat} {R : St} {a : AS} (h : RR n hd R a) : R 50 0 4 0 = av a 4 0 0 := h.1 4 0 0 ⟨rfl, rfl⟩
theorem wr_4 {n : Nat} {hd : Option Nat} {R : St} {a : AS} {x : Int32} (h : RR n hd R a) : RR n hd (up R 50 0 4 0 x) (sv 4 0 0 x a) := wRgen (f := 4) (i := 0) (j := 0) h ⟨rfl, rfl⟩ (by decide) (by decide) (by decide)
theorem rr_5 {n : Nat} {hd : Option Nat} {R : St} {a : AS} (h : RR n hd R a) : R 50 0 5 0 = av a 5 0 0 := h.1 5 0 0 ⟨rfl, rfl⟩
theorem wr_5 {n : Nat} {hd : Option Nat} {R : St} {a : AS} {x : Int32} (h : RR n hd R a) : RR n hd (up R 50 0 5 0 x) (sv 5 0 0 x a) := wRgen (f := 5) (i := 0) (j := 0) h ⟨rfl, rfl⟩ (by decide) (by decide) (by decide)
theorem rr_10 {n : Nat} {hd : Option Nat} {R : St} {a : AS} (h : RR n hd R a) {i : Nat} (hi : i < 6) : R 110 0 0 (i) = av a 10 i 0 := h.1 10 i 0 ⟨hi, rfl⟩
theorem wr_10 {n : Nat} {hd : Option Nat} {R : St} {a : AS} {x : Int32} (h : RR n hd R a) {i : Nat} (hi : i < 6) : RR n hd (up R 110 0 0 (i) x) (sv 10 i 0 x a) := wRgen (f := 10) (i := i) (j := 0) h ⟨hi, rfl⟩ (by decide) (by decide) (by decide)
theorem rr_13 {n : Nat} {hd : Option Nat} {R : St} {a : AS} (h : RR n hd R a) {i : Nat} (hi : i < 7) : R 113 0 0 (i) = av a 13 i 0 := h.1 13 i 0 ⟨hi, rfl⟩
theorem wr_13 {n : Nat} {hd : Option Nat} {R : St} {a : AS} {x : Int32} (h : RR n hd R a) {i : Nat} (hi : i < 7) : RR n hd (up R 113 0 0 (i) x) (sv 13 i 0 x a) := wRgen (f := 13) (i := i) (j := 0) h ⟨hi, rfl⟩ (by decide) (by decide) (by decide)
theorem rr_14 {n : Nat} {hd : Option Nat} {R : St} {a : AS} (h : RR n hd R a) {i : Nat} (hi : i < 6) : R 114 0 0 (i) = av a 14 i 0 := h.1 14 i 0 ⟨hi, rfl⟩
theorem rr_17 {n : Nat} {hd : Option Nat} {R : St} {a : AS} (h : RR n hd R a) {i : Nat} (hi : i < 6) : R 117 0 0 (i) = av a 17 i 0 := h.1 17 i 0 ⟨hi, rfl⟩
theorem wr_17 {n : Nat} {hd : Option Nat} {R : St} {a : AS} {x : Int32} (h : RR n hd R a) {i : Nat} (hi : i < 6) : RR n hd (up R 117 0 0 (i) x) (sv 17 i 0 x a) := wRgen (f := 17) (i := i) (j := 0) h ⟨hi, rfl⟩ (by decide) (by decide) (by decide)
theorem rr_18 {n : Nat} {hd : Option Nat} {R : St} {a : AS} (h : RR n hd R a) {i : Nat} (hi : i < 6) : R 118 0 0 (i) = av a 18 i 0 := h.1 18 i 0 ⟨hi, rfl⟩
theorem wr_18 {n : Nat} {hd : Option Nat} {R : St} {a : AS} {x : Int32} (h : RR n hd R a) {i : Nat} (hi : i < 6) : RR n hd (up R 118 0 0 (i) x) (sv 18 i 0 x a) := wRgen (f := 18) (i := i) (j := 0) h ⟨hi, rfl⟩ (by decide) (by decide) (by decide)
theorem rr_19 {n : Nat} {hd : Option Nat} {R : St} {a : AS} (h : RR n hd R a) {i : Nat} (hi : i < 6) : R 119 0 0 (i) = av a 19 i 0 := h.1 19 i 0 ⟨hi, rfl⟩
theorem wr_19 {n : Nat} {hd : Option Nat} {R : St} {a : AS} {x : Int32} (h : RR n hd R a) {i : Nat} (hi : i < 6) : RR n hd (up R 119 0 0 (i) x) (sv 19 i 0 x a) := wRgen (f := 19) (i := i) (j := 0) h ⟨hi, rfl⟩ (by decide) (by decide) (by decide)
theorem rr_20 {n : Nat} {hd : Option Nat} {R : St} {a : AS} (h : RR n hd R a) {i : Nat} (hi : i < 6) : R 120 0 0 (i) = av a 20 i 0 := h.1 20 i 0 ⟨hi, rfl⟩
theorem wr_20 {n : Nat} {hd : Option Nat} {R : St} {a : AS} {x : Int32} (h : RR n hd R a) {i : Nat} (hi : i < 6) : RR n hd (up R 120 0 0 (i) x) (sv 20 i 0 x a) := wRgen (f := 20) (i := i) (j := 0) h ⟨hi, rfl⟩ (by decide) (by decide) (by decide)
theorem rr_21 {n : Nat} {hd : Option Nat} {R : St} {a : AS} (h : RR n hd R a) {i : Nat} (hi : i < 6) : R 121 0 0 (i) = av a 21 i 0 := h.1 21 i 0 ⟨hi, rfl⟩
theorem wr_21 {n : Nat} {hd : Option Nat} {R : St} {a : AS} {x : Int32} (h : RR n hd R a) {i : Nat} (hi : i < 6) : RR n hd (up R 121 0 0 (i) x) (sv 21 i 0 x a) := wRgen (f := 21) (i := i) (j := 0) h ⟨hi, rfl⟩ (by decide) (by decide) (by decide)
theorem rr_22 {n : Nat} {hd : Option Nat} {R : St} {a : AS} (h : RR n hd R a) {i : Nat} (hi : i < 6) : R 122 0 0 (i) = av a 22 i 0 := h.1 22 i 0 ⟨hi, rfl⟩
theorem wr_22 {n : Nat} {hd : Option Nat} {R : St} {a : AS} {x : Int32} (h : RR n hd R a) {i : Nat} (hi : i < 6) : RR n hd (up R 122 0 0 (i) x) (sv 22 i 0 x a) := wRgen (f := 22) (i := i) (j := 0) h ⟨hi, rfl⟩ (by decide) (by decide) (by decide)
theorem rr_23 {n : Nat} {hd : Option Nat} {R : St} {a : AS} (h : RR n hd R a) {i : Nat} (hi : i < 6) : R 123 0 0 (i) = av a 23 i 0 := h.1 23 i 0 ⟨hi, rfl⟩
theorem wr_23 {n : Nat} {hd : Option Nat} {R : St} {a : AS} {x : Int32} (h : RR n hd R a) {i : Nat} (hi : i < 6) : RR n hd (up R 123 0 0 (i) x) (sv 23 i 0 x a) := wRgen (f := 23) (i := i) (j := 0) h ⟨hi, rfl⟩ (by decide) (by decide) (by decide)
theorem rr_24 {n : Nat} {hd : Option Nat} {R : St} {a : AS} (h : RR n hd R a) {i : Nat} (hi : i < 6) : R 124 0 0 (i) = av a 24 i 0 := h.1 24 i 0 ⟨hi, rfl⟩
theorem wr_24 {n : Nat} {hd : Option Nat} {R : St} {a : AS} {x : Int32} (h : RR n hd R a) {i : Nat} (hi : i < 6) : RR n hd (up R 124 0 0 (i) x) (sv 24 i 0 x a) := wRgen (f := 24) (i := i) (j := 0) h ⟨hi, rfl⟩ (by decide) (by decide) (by decide)
theorem rr_25 {n : Nat} {hd : Option Nat} {R : St} {a : AS} (h : RR n hd R a) : R 50 0 25 0 = av a 25 0 0 := h.1 25 0 0 ⟨rfl, rfl⟩
theorem wr_25 {n : Nat} {hd : Option Nat} {R : St} {a : AS} {x : Int32} (h : RR n hd R a) : RR n hd (up R 50 0 25 0 x) (sv 25 0 0 x a) := wRgen (f := 25) (i := 0) (j := 0) h ⟨rfl, rfl⟩ (by decide) (by decide) (by decide)
theorem rr_26 {n : Nat} {hd : Option Nat} {R : St} {a : AS} (h : RR n hd R a) {i : Nat} (hi : i < 6) {j : Nat} (hj : j < 3) : R 126 0 0 (3 * i + j) = av a 26 i j := h.1 26 i j ⟨hi, hj⟩
theorem wr_26 {n : Nat} {hd : Option Nat} {R : St} {a : AS} {x : Int32} (h : RR n hd R a) {i : Nat} (hi : i < 6) {j : Nat} (hj : j < 3) : RR n hd (up R 126 0 0 (3 * i + j) x) (sv 26 i j x a) := wRgen (f := 26) (i := i) (j := j) h ⟨hi, hj⟩ (by decide) (by decide) (by decide)
theorem rr_27 {n : Nat} {hd : Option Nat} {R : St} {a : AS} (h : RR n hd R a) {i : Nat} (hi : i < 6) {j : Nat} (hj : j < 3) : R 127 0 0 (3 * i + j) = av a 27 i j := h.1 27 i j ⟨hi, hj⟩
theorem wr_27 {n : Nat} {hd : Option Nat} {R : St} {a : AS} {x : Int32} (h : RR n hd R a) {i : Nat} (hi : i < 6) {j : Nat} (hj : j < 3) : RR n hd (up R 127 0 0 (3 * i + j) x) (sv 27 i j x a) := wRgen (f := 27) (i := i) (j := j) h ⟨hi, hj⟩ (by decide) (by decide) (by decide)
theorem rr_28 {n : Nat} {hd : Option Nat} {R : St} {a : AS} (h : RR n hd R a) {i : Nat} (hi : i < 3) : R 128 0 0 (i) = av a 28 i 0 := h.1 28 i 0 ⟨hi, rfl⟩
theorem wr_28 {n : Nat} {hd : Option Nat} {R : St} {a : AS} {x : Int32} (h : RR n hd R a) {i : Nat} (hi : i < 3) : RR n hd (up R 128 0 0 (i) x) (sv 28 i 0 x a) := wRgen (f := 28) (i := i) (j := 0) h ⟨hi, rfl⟩ (by decide) (by decide) (by decide)
theorem rr_30 {n : Nat} {hd : Option Nat} {R : St} {a : AS} (h : RR n hd R a) {i : Nat} (hi : i < 6) {j : Nat} (hj : j < 40) : R 130 0 0 (40 * i + j) = av a 30 i j := h.1 30 i j ⟨hi, hj⟩
theorem wr_30 {n : Nat} {hd : Option Nat} {R : St} {a : AS} {x : Int32} (h : RR n hd R a) {i : Nat} (hi : i < 6) {j : Nat} (hj : j < 40) : RR n hd (up R 130 0 0 (40 * i + j) x) (sv 30 i j x a) := wRgen (f := 30) (i := i) (j := j) h ⟨hi, hj⟩ (by decide) (by decide) (by decide)
theorem rr_31 {n : Nat} {hd : Option Nat} {R : St} {a : AS} (h : RR n hd R a) {i : Nat} (hi : i < 6) : R 131 0 0 (i) = av a 31 i 0 := h.1 31 i 0 ⟨hi, rfl⟩
theorem wr_31 {n : Nat} {hd : Option Nat} {R : St} {a : AS} {x : Int32} (h : RR n hd R a) {i : Nat} (hi : i < 6) : RR n hd (up R 131 0 0 (i) x) (sv 31 i 0 x a) := wRgen (f := 31) (i := i) (j := 0) h ⟨hi, rfl⟩ (by decide) (by decide) (by decide)
theorem rr_32 {n : Nat} {hd : Option Nat} {R : St} {a : AS} (h : RR n hd R a) {i : Nat} (hi : i < 6) : R 132 0 0 (i) = av a 32 i 0 := h.1 32 i 0 ⟨hi, rfl⟩
theorem wr_32 {n : Nat} {hd : Option Nat} {R : St} {a : AS} {x : Int32} (h : RR n hd R a) {i : Nat} (hi : i < 6) : RR n hd (up R 132 0 0 (i) x) (sv 32 i 0 x a) := wRgen (f := 32) (i := i) (j := 0) h ⟨hi, rfl⟩ (by decide) (by decide) (by decide)
theorem rr_33 {n : Nat} {hd : Option Nat} {R : St} {a : AS} (h : RR n hd R a) {i : Nat} (hi : i < 6) {j : Nat} (hj : j < 24) : R 133 0 0 (24 * i + j) = av a 33 i j := h.1 33 i j ⟨hi, hj⟩
theorem wr_33 {n : Nat} {hd : Option Nat} {R : St} {a : AS} {x : Int32} (h : RR n hd R a) {i : Nat} (hi : i < 6) {j : Nat} (hj : j < 24) : RR n hd (up R 133 0 0 (24 * i + j) x) (sv 33 i j x a) := wRgen (f := 33) (i := i) (j := j) h ⟨hi, hj⟩ (by decide) (by decide) (by decide)
theorem rr_34 {n : Nat} {hd : Option Nat} {R : St} {a : AS} (h : RR n hd R a) {i : Nat} (hi : i < 6) : R 134 0 0 (i) = av a 34 i 0 := h.1 34 i 0 ⟨hi, rfl⟩
theorem wr_34 {n : Nat} {hd : Option Nat} {R : St} {a : AS} {x : Int32} (h : RR n hd R a) {i : Nat} (hi : i < 6) : RR n hd (up R 134 0 0 (i) x) (sv 34 i 0 x a) := wRgen (f := 34) (i := i) (j := 0) h ⟨hi, rfl⟩ (by decide) (by decide) (by decide)
theorem rr_35 {n : Nat} {hd : Option Nat} {R : St} {a : AS} (h : RR n hd R a) {i : Nat} (hi : i < 6) {j : Nat} (hj : j < 5000) : R 135 0 0 (5000 * i + j) = av a 35 i j := h.1 35 i j ⟨hi, hj⟩
theorem wr_35 {n : Nat} {hd : Option Nat} {R : St} {a : AS} {x : Int32} (h : RR n hd R a) {i : Nat} (hi : i < 6) {j : Nat} (hj : j < 5000) : RR n hd (up R 135 0 0 (5000 * i + j) x) (sv 35 i j x a) := wRgen (f := 35) (i := i) (j := j) h ⟨hi, hj⟩ (by decide) (by decide) (by decide)
theorem rr_36 {n : Nat} {hd : Option Nat} {R : St} {a : AS} (h : RR n hd R a) {i : Nat} (hi : i < 6) : R 136 0 0 (i) = av a 36 i 0 := h.1 36 i 0 ⟨hi, rfl⟩
theorem wr_36 {n : Nat} {hd : Option Nat} {R : St} {a : AS} {x : Int32} (h : RR n hd R a) {i : Nat} (hi : i < 6) : RR n hd (up R 136 0 0 (i) x) (sv 36 i 0 x a) := wRgen (f := 36) (i := i) (j := 0) h ⟨hi, rfl⟩ (by decide) (by decide) (by decide)
theorem rr_37 {n : Nat} {hd : Option Nat} {R : St} {a : AS} (h : RR n hd R a) {i : Nat} (hi : i < 6) {j : Nat} (hj : j < 128) : R 137 0 0 (128 * i + j) = av a 37 i j := h.1 37 i j ⟨hi, hj⟩
theorem wr_37 {n : Nat} {hd : Option Nat} {R : St} {a : AS} {x : Int32} (h : RR n hd R a) {i : Nat} (hi : i < 6) {j : Nat} (hj : j < 128) : RR n hd (up R 137 0 0 (128 * i + j) x) (sv 37 i j x a) := wRgen (f := 37) (i := i) (j := j) h ⟨hi, hj⟩ (by decide) (by decide) (by decide)
theorem rr_38 {n : Nat} {hd : Option Nat} {R : St} {a : AS} (h : RR n hd R a) {i : Nat} (hi : i < n) {j : Nat} (hj : j < 16) : R 138 0 0 (16 * i + j) = av a 38 i j := h.1 38 i j ⟨hi, hj⟩
theorem wr_38 {n : Nat} {hd : Option Nat} {R : St} {a : AS} {x : Int32} (h : RR n hd R a) {i : Nat} (hi : i < n) {j : Nat} (hj : j < 16) : RR n hd (up R 138 0 0 (16 * i + j) x) (sv 38 i j x a) := wRgen (f := 38) (i := i) (j := j) h ⟨hi, hj⟩ (by decide) (by decide) (by decide)
theorem rr_39 {n : Nat} {hd : Option Nat} {R : St} {a : AS} (h : RR n hd R a) {i : Nat} (hi : i < n) : R 139 0 0 (i) = av a 39 i 0 := h.1 39 i 0 ⟨hi, rfl⟩
theorem rr_40 {n : Nat} {hd : Option Nat} {R : St} {a : AS} (h : RR n hd R a) {i : Nat} (hi : i < n) : R 140 0 0 (i) = av a 40 i 0 := h.1 40 i 0 ⟨hi, rfl⟩
theorem wr_40 {n : Nat} {hd : Option Nat} {R : St} {a : AS} {x : Int32} (h : RR n hd R a) {i : Nat} (hi : i < n) : RR n hd (up R 140 0 0 (i) x) (sv 40 i 0 x a) := wRgen (f := 40) (i := i) (j := 0) h ⟨hi, rfl⟩ (by decide) (by decide) (by decide)
theorem rr_41 {n : Nat} {hd : Option Nat} {R : St} {a : AS} (h : RR n hd R a) {i : Nat} (hi : i < n) : R 141 0 0 (i) = av a 41 i 0 := h.1 41 i 0 ⟨hi, rfl⟩
theorem wr_41 {n : Nat} {hd : Option Nat} {R : St} {a : AS} {x : Int32} (h : RR n hd R a) {i : Nat} (hi : i < n) : RR n hd (up R 141 0 0 (i) x) (sv 41 i 0 x a) := wRgen (f := 41) (i := i) (j := 0) h ⟨hi, rfl⟩ (by decide) (by decide) (by decide)
theorem rr_44 {n : Nat} {hd : Option Nat} {R : St} {a : AS} (h : RR n hd R a) : R 50 0 44 0 = av a 44 0 0 := h.1 44 0 0 ⟨rfl, rfl⟩
theorem wr_44 {n : Nat} {hd : Option Nat} {R : St} {a : AS} {x : Int32} (h : RR n hd R a) : RR n hd (up R 50 0 44 0 x) (sv 44 0 0 x a) := wRgen (f := 44) (i := 0) (j := 0) h ⟨rfl, rfl⟩ (by decide) (by decide) (by decide)
theorem rr_45 {n : Nat} {hd : Option Nat} {R : St} {a : AS} (h : RR n hd R a) : R 50 0 45 0 = av a 45 0 0 := h.1 45 0 0 ⟨rfl, rfl⟩
theorem rr_52 {n : Nat} {hd : Option Nat} {R : St} {a : AS} (h : RR n hd R a) : R 50 0 52 0 = av a 52 0 0 := h.1 52 0 0 ⟨rfl, rfl⟩
theorem wr_52 {n : Nat} {hd : Option Nat} {R : St} {a : AS} {x : Int32} (h : RR n hd R a) : RR n hd (up R 50 0 52 0 x) (sv 52 0 0 x a) := wRgen (f := 52) (i := 0) (j := 0) h ⟨rfl, rfl⟩ (by decide) (by decide) (by decide)
theorem rr_53 {n : Nat} {hd : Option Nat} {R : St} {a : AS} (h : RR n hd R a) : R 50 0 53 0 = av a 53 0 0 := h.1 53 0 0 ⟨rfl, rfl⟩
theorem wr_53 {n : Nat} {hd : Option Nat} {R : St} {a : AS} {x : Int32} (h : RR n hd R a) : RR n hd (up R 50 0 53 0 x) (sv 53 0 0 x a) := wRgen (f := 53) (i := 0) (j := 0) h ⟨rfl, rfl⟩ (by decide) (by decide) (by decide)
theorem rr_63 {n : Nat} {hd : Option Nat} {R : St} {a : AS} (h : RR n hd R a) {i : Nat} (hi : i < 20) : R 163 0 0 (i) = av a 63 i 0 := h.1 63 i 0 ⟨hi, rfl⟩
theorem wr_63 {n : Nat} {hd : Option Nat} {R : St} {a : AS} {x : Int32} (h : RR n hd R a) {i : Nat} (hi : i < 20) : RR n hd (up R 163 0 0 (i) x) (sv 63 i 0 x a) := wRgen (f := 63) (i := i) (j := 0) h ⟨hi, rfl⟩ (by decide) (by decide) (by decide)
theorem rr_64 {n : Nat} {hd : Option Nat} {R : St} {a : AS} (h : RR n hd R a) {i : Nat} (hi : i < 8) {j : Nat} (hj : j < 20) : R 164 0 0 (20 * i + j) = av a 64 i j := h.1 64 i j ⟨hi, hj⟩
theorem wr_64 {n : Nat} {hd : Option Nat} {R : St} {a : AS} {x : Int32} (h : RR n hd R a) {i : Nat} (hi : i < 8) {j : Nat} (hj : j < 20) : RR n hd (up R 164 0 0 (20 * i + j) x) (sv 64 i j x a) := wRgen (f := 64) (i := i) (j := j) h ⟨hi, hj⟩ (by decide) (by decide) (by decide)
theorem rr_65 {n : Nat} {hd : Option Nat} {R : St} {a : AS} (h : RR n hd R a) {i : Nat} (hi : i < 8) : R 165 0 0 (i) = av a 65 i 0 := h.1 65 i 0 ⟨hi, rfl⟩
theorem wr_65 {n : Nat} {hd : Option Nat} {R : St} {a : AS} {x : Int32} (h : RR n hd R a) {i : Nat} (hi : i < 8) : RR n hd (up R 165 0 0 (i) x) (sv 65 i 0 x a) := wRgen (f := 65) (i := i) (j := 0) h ⟨hi, rfl⟩ (by decide) (by decide) (by decide)
theorem rr_66 {n : Nat} {hd : Option Nat} {R : St} {a : AS} (h : RR n hd R a) {i : Nat} (hi : i < 600) : R 166 0 0 (i) = av a 66 i 0 := h.1 66 i 0 ⟨hi, rfl⟩
theorem wr_66 {n : Nat} {hd : Option Nat} {R : St} {a : AS} {x : Int32} (h : RR n hd R a) {i : Nat} (hi : i < 600) : RR n hd (up R 166 0 0 (i) x) (sv 66 i 0 x a) := wRgen (f := 66) (i := i) (j := 0) h ⟨hi, rfl⟩ (by decide) (by decide) (by decide)
theorem rr_67 {n : Nat} {hd : Option Nat} {R : St} {a : AS} (h : RR n hd R a) : R 50 0 67 0 = av a 67 0 0 := h.1 67 0 0 ⟨rfl, rfl⟩
theorem wr_67 {n : Nat} {hd : Option Nat} {R : St} {a : AS} {x : Int32} (h : RR n hd R a) : RR n hd (up R 50 0 67 0 x) (sv 67 0 0 x a) := wRgen (f := 67) (i := 0) (j := 0) h ⟨rfl, rfl⟩ (by decide) (by decide) (by decide)
theorem rr_68 {n : Nat} {hd : Option Nat} {R : St} {a : AS} (h : RR n hd R a) : R 50 0 68 0 = av a 68 0 0 := h.1 68 0 0 ⟨rfl, rfl⟩
theorem wr_68 {n : Nat} {hd : Option Nat} {R : St} {a : AS} {x : Int32} (h : RR n hd R a) : RR n hd (up R 50 0 68 0 x) (sv 68 0 0 x a) := wRgen (f := 68) (i := 0) (j := 0) h ⟨rfl, rfl⟩ (by decide) (by decide) (by decide)
theorem rr_69 {n : Nat} {hd : Option Nat} {R : St} {a : AS} (h : RR n hd R a) : R 50 0 69 0 = av a 69 0 0 := h.1 69 0 0 ⟨rfl, rfl⟩
theorem wr_69 {n : Nat} {hd : Option Nat} {R : St} {a : AS} {x : Int32} (h : RR n hd R a) : RR n hd (up R 50 0 69 0 x) (sv 69 0 0 x a) := wRgen (f := 69) (i := 0) (j := 0) h ⟨rfl, rfl⟩ (by decide) (by decide) (by decide)
