/-! hours, signs said, the turn: along a step -/
def PE (p M : Nat) (t : Int32) (d : Nat) (a : AS) : Prop := av a 5 0 0 = t ∧ (∃ m, av a 69 0 0 = nI m ∧ m + d ≤ M) ∧ (p ∈ al a 0 ∨ av a 7 0 0 = 0)
theorem PE_eq {p M d : Nat} {t : Int32} {a b : AS} (h : PE p M t d a) (e : ∀ g, g = 5 ∨ g = 7 ∨ g = 69 → av b g 0 0 = av a g 0 0) (el : al b 0 = al a 0) : PE p M t d b := by
  obtain ⟨h1, h2, h3⟩ := h
  refine ⟨?_, ?_, ?_⟩
  · rw [e 5 (by decide)]; exact h1
  · rw [e 69 (by decide)]; exact h2
  · rw [e 7 (by decide), el]; exact h3
theorem PE_le {p M d e : Nat} {t : Int32} {a : AS} (h : PE p M t d a) (he : e ≤ d) : PE p M t e a := by
  obtain ⟨h1, ⟨m, h2, h3⟩, h4⟩ := h
  exact ⟨h1, ⟨m, h2, by omega⟩, h4⟩
theorem PE_0 {p M d : Nat} {t : Int32} {a : AS} (h : PE p M t d a) : PE p M t 0 a := PE_le h (Nat.zero_le d)
theorem PE_sv {p M d : Nat} {t : Int32} {a : AS} {f i j : Nat} {x : Int32} (h : PE p M t d a) (h5 : ¬ f = 5) (h7 : ¬ f = 7) (h69 : ¬ f = 69) : PE p M t d (sv f i j x a) :=
  PE_eq h (fun g hg => av_o (by omega)) rfl
theorem PE_sl {p M d : Nat} {t : Int32} {a : AS} {q : Nat} {l : List Nat} (h : PE p M t d a) (hq : ¬ q = 0) : PE p M t d (sl q l a) :=
  PE_eq h (fun g hg => rfl) (by rw [al_sl, if_neg (fun y => hq y.symm)])
theorem PE_leave {p M d q : Nat} {t : Int32} {a : AS} (h : PE p M t d a) : PE p M t d (z_leave q a) := by
  obtain ⟨h1, h2, h3⟩ := h
  exact ⟨by rw [vo_leave (by decide)]; exact h1, by rw [vo_leave (by decide)]; exact h2, Or.inr (by rw [av_leave, if_pos ⟨rfl, rfl, rfl⟩])⟩
theorem PE_susp {p M d q : Nat} {t x : Int32} {a : AS} (h : PE p M t d a) : PE p M t d (z_susp q x a) :=
  PE_leave (PE_sv h (by decide) (by decide) (by decide))
theorem PE_wake {p M d q : Nat} {t : Int32} {a : AS} (h : PE p M t d a) : PE p M t d (z_wake q a) := by
  obtain ⟨h1, h2, h3⟩ := h
  refine ⟨by rw [vo_wake (by decide)]; exact h1, by rw [vo_wake (by decide)]; exact h2, ?_⟩
  rw [vo_wake (by decide)]
  refine h3.imp (fun y => ?_) id
  rw [al_wake, if_pos rfl]
  split
  · exact y
  · exact List.mem_append_left _ y
theorem PE_v {p M d s : Nat} {t : Int32} {a : AS} (h : PE p M t d a) : PE p M t d (z_v s a) := by
  unfold z_v
  split
  · exact PE_sv h (by decide) (by decide) (by decide)
  · exact PE_wake (PE_sv h (by decide) (by decide) (by decide))
theorem PE_p {p M d s : Nat} {t : Int32} {a : AS} (h : PE p M t d a) : PE p M t d (z_p s a) := by
  unfold z_p
  split
  · exact PE_susp (PE_sv h (by decide) (by decide) (by decide))
  · exact PE_sv h (by decide) (by decide) (by decide)
theorem PE_comp {p M d n k : Nat} {t x : Int32} {a : AS} (h : PE p M t d a) : PE p M t d (z_comp n k x a) :=
  PE_eq h (fun g hg => vo_comp (by omega) (by omega) (by omega)) (al_comp n k x a 0)
theorem PE_say {p M d : Nat} {t x : Int32} {a : AS} (h : PE p M t (d + 1) a) : PE p M t d (z_say x a) := by
  obtain ⟨h1, ⟨m, h2, h3⟩, h4⟩ := h
  refine ⟨by rw [vo_say (by decide) (by decide)]; exact h1, ⟨m + 1, ?_, by omega⟩, ?_⟩
  · unfold z_say
    rw [av_s, h2, nI_1]
  · rw [al_sayz, vo_say (by decide) (by decide)]; exact h4
theorem PE_19 {p M d n k : Nat} {t x y : Int32} {a : AS} (h : PE p M t d a) : PE p M t d (z_comp n k x (sv 19 k 0 y a)) := PE_comp (PE_sv h (by decide) (by decide) (by decide))
theorem PE_trap {p M d k : Nat} {t : Int32} {a : AS} (h : PE p M t d a) : PE p M t d (z_trap k a) := PE_sv h (by decide) (by decide) (by decide)
theorem PE_use {p M d f : Nat} {t : Int32} {a : AS} (h : PE p M t d a) : PE p M t d (z_use f a) := PE_sv h (by decide) (by decide) (by decide)
theorem PE_move {p M d k r : Nat} {t x : Int32} {a : AS} (h : PE p M t d a) : PE p M t d (z_move k r x a) := PE_sv (PE_sv h (by decide) (by decide) (by decide)) (by decide) (by decide) (by decide)
theorem PE_have {p M d n k r : Nat} {t : Int32} {l : List Nat} {a : AS} (h : PE p M t d a) : PE p M t d (z_have n k r l a) := PE_wake (PE_comp (PE_sl (PE_move h) (by decide)))
theorem PE_gtw {p M d n : Nat} {t : Int32} : ∀ rest pre a, PE p M t d a → PE p M t d (z_gtw n pre rest a) := by
  intro rest
  induction rest with
  | nil => intro pre a h; exact h
  | cons k r ih =>
    intro pre a h
    unfold z_gtw
    split
    · exact ih _ _ (PE_have h)
    · exact ih _ _ h
theorem PE_ask {p M d k : Nat} {t x : Int32} {a : AS} (h : PE p M t d a) : PE p M t d (z_ask k x a) := PE_v (PE_susp (PE_sl (PE_sv h (by decide) (by decide) (by decide)) (by decide)))
theorem PE_cmp {p M d n k : Nat} {t kind v : Int32} {a : AS} (h : PE p M t d a) : PE p M t d (z_cmp n k kind v a) := by
  unfold z_cmp
  split
  · exact PE_19 h
  · split
    · exact PE_19 h
    · split
      · exact PE_19 h
      · split
        · split
          · exact PE_trap h
          · exact PE_19 h
        · split
          · exact PE_comp (PE_sv h (by decide) (by decide) (by decide))
          · exact PE_19 h
theorem PE_op {p M d n k f : Nat} {t kind x : Int32} {a : AS} (h : PE p M t d a) : PE p M t d (z_op n k f kind x a) := by
  unfold z_op
  split
  · split
    · exact PE_ask h
    · split
      · exact PE_comp (PE_sv (PE_sv (PE_use (PE_use h)) (by decide) (by decide) (by decide)) (by decide) (by decide) (by decide))
      · exact PE_cmp (PE_use (PE_use h))
  · exact PE_trap (PE_use h)
theorem PE_get {p M d n k : Nat} {t x : Int32} {a : AS} (h : PE p M t d a) : PE p M t d (z_get n k x a) := by
  unfold z_get
  split
  · exact PE_trap h
  · split
    · split
      · exact PE_comp (PE_move h)
      · exact PE_susp (PE_sl (PE_sv h (by decide) (by decide) (by decide)) (by decide))
    · exact PE_sv h (by decide) (by decide) (by decide)
theorem PE_give {p M d n k : Nat} {t x : Int32} {a : AS} (h : PE p M t d a) : PE p M t d (z_give n k x a) := by
  have key : PE p M t d (z_tb n k x a).2 := by
    unfold z_tb
    split
    · exact PE_trap h
    · split
      · split
        · exact PE_susp h
        · exact PE_comp (PE_move h)
      · exact PE_trap h
  unfold z_give
  split
  · exact key
  · exact PE_gtw _ _ _ key
theorem PE_ctl {p M n k : Nat} {t kind x : Int32} {a : AS} (h : PE p M t 4 a) : PE p M t 0 (z_ctl n k kind x a) := by
  have h0 : PE p M t 0 a := PE_0 h
  unfold z_ctl
  split
  · exact PE_sv (PE_comp h0) (by decide) (by decide) (by decide)
  · split
    · exact PE_comp h0
    · split
      · exact PE_comp h0
      · split
        · exact PE_comp h0
        · split
          · unfold z_read
            split
            · exact PE_trap h0
            · exact PE_v (PE_susp (PE_sl h0 (by decide)))
          · split
            · unfold z_print
              split
              · exact PE_trap h0
              · split
                · exact PE_v (PE_comp (PE_sv (PE_sv h0 (by decide) (by decide) (by decide)) (by decide) (by decide) (by decide)))
                · exact PE_susp h0
            · split
              · exact PE_susp (PE_say (PE_say (PE_say (PE_le h (by decide)))))
              · split
                · exact PE_get h0
                · split
                  · exact PE_give h0
                  · split
                    · exact PE_19 h0
                    · exact PE_19 h0
theorem PE_end {p M n k : Nat} {t : Int32} {a : AS} (h : PE p M t 4 a) : PE p M t 0 (z_end n k a) := by
  unfold z_end
  split
  · refine PE_gtw _ _ _ ?_
    unfold z_ov z_over
    refine PE_say (PE_say (PE_say (PE_say (PE_leave (PE_sv ?_ (by decide) (by decide) (by decide))))))
    refine PE_eq h (fun g hg => ?_) rfl
    show (if g = 28 ∧ (0 : Nat) = 0 ∧ 0 < 3 then av (z_vac n k a) 28 0 0 + av (z_vac n k a) 27 k 0 else av (z_vac n k a) g 0 0) = _
    rw [if_neg (by omega)]
    show (if (0 : Nat) = 0 ∧ 0 < n ∧ av a 39 0 0 = nI k then (if g = 39 then -1 else if g = 42 ∨ g = 43 then 0 else av a g 0 0) else av a g 0 0) = _
    rw [if_neg (show ¬ g = 39 by omega), if_neg (show ¬ (g = 42 ∨ g = 43) by omega)]
    split <;> rfl
  · exact PE_susp (PE_0 h)
theorem PE_att {p M n k : Nat} {t : Int32} {a : AS} (h : PE p M t 4 a) : PE p M t 0 (z_att n k a) := by
  have h0 : PE p M t 0 a := PE_0 h
  unfold z_att
  split
  · split
    · exact PE_ask h0
    · unfold z_exec
      split
      · exact PE_trap (PE_use h0)
      · split
        · exact PE_op h0
        · split
          · exact PE_ctl (PE_use h)
          · exact PE_trap (PE_use h0)
  · exact PE_trap h0
theorem PE_job {p M n k : Nat} {t : Int32} {a : AS} (h : PE p M t 4 a) : PE p M t 0 (z_job n k a) := by
  have h0 : PE p M t 0 a := PE_0 h
  unfold z_job
  split
  · split
    · split
      · exact PE_att h
      · exact PE_sv h0 (by decide) (by decide) (by decide)
    · exact PE_sv h0 (by decide) (by decide) (by decide)
  · exact PE_end h
theorem PE_begin {p M d : Nat} {t x : Int32} {a : AS} (h : PE p M t d a) : PE p M t d (z_begin x a) := PE_sv (PE_sv h (by decide) (by decide) (by decide)) (by decide) (by decide) (by decide)
theorem PE_vacate {p M d f : Nat} {t : Int32} {a : AS} (h : PE p M t d a) : PE p M t d (z_vacate f a) := PE_sv (PE_sv (PE_sv h (by decide) (by decide) (by decide)) (by decide) (by decide) (by decide)) (by decide) (by decide) (by decide)
theorem PE_occ {p M d f k : Nat} {t x y : Int32} {a : AS} (h : PE p M t d a) : PE p M t d (z_occupy f k x y a) := PE_sv (PE_sv (PE_sv (PE_sv (PE_sv h (by decide) (by decide) (by decide)) (by decide) (by decide) (by decide)) (by decide) (by decide) (by decide)) (by decide) (by decide) (by decide)) (by decide) (by decide) (by decide)
theorem PE_take {p M d f k : Nat} {t : Int32} {l : List Nat} {a : AS} (h : PE p M t d a) : PE p M t d (z_take f k l a) := by
  have h1 : PE p M t d (sv 46 0 0 (nI f) (sv 47 0 0 (nI k) (sl 1 l a))) := PE_sv (PE_sv (PE_sl h (by decide)) (by decide) (by decide) (by decide)) (by decide) (by decide) (by decide)
  unfold z_take
  split
  · exact PE_begin (PE_sv (PE_vacate h1) (by decide) (by decide) (by decide))
  · exact PE_begin (PE_sv (PE_vacate (PE_sv (PE_sv (PE_sv h1 (by decide) (by decide) (by decide)) (by decide) (by decide) (by decide)) (by decide) (by decide) (by decide))) (by decide) (by decide) (by decide))
theorem PE_segs {p M d n : Nat} {t : Int32} {a : AS} (h : PE p M t d a) : PE p M t d (z_segs n a) := by
  unfold z_segs
  split
  · exact PE_p (PE_begin h)
  · split
    · refine PE_p ?_
      unfold z_bring
      exact PE_sv (PE_sv (PE_wake (PE_sv (PE_occ (PE_sv h (by decide) (by decide) (by decide))) (by decide) (by decide) (by decide))) (by decide) (by decide) (by decide)) (by decide) (by decide) (by decide)
    · split
      · exact PE_p (PE_take h)
      · exact h
theorem PE_reading {p M d n : Nat} {t : Int32} {a : AS} (h : PE p M t d a) : PE p M t d (z_reading n a) := by
  unfold z_reading
  split
  · split
    · exact h
    · exact PE_p (PE_sv (PE_sv (PE_sl h (by decide)) (by decide) (by decide) (by decide)) (by decide) (by decide) (by decide))
  · exact PE_p (PE_sv (PE_wake (PE_comp (PE_sv (PE_sv h (by decide) (by decide) (by decide)) (by decide) (by decide) (by decide)))) (by decide) (by decide) (by decide))
theorem PE_printing {p M d : Nat} {t : Int32} {a : AS} (h : PE p M t d a) : PE p M t d (z_printing a) := by
  unfold z_printing
  split
  · split
    · exact h
    · exact PE_p (PE_sv (PE_sv h (by decide) (by decide) (by decide)) (by decide) (by decide) (by decide))
  · refine PE_p (PE_sv ?_ (by decide) (by decide) (by decide))
    have hp : ∀ k, PE p M t d (z_put k a) := fun k => by
      unfold z_put z_shift
      refine PE_sv (PE_eq (a := z_out k a) ?_ (fun g hg => ?_) rfl) (by decide) (by decide) (by decide)
      · exact PE_sv (PE_sv (PE_sv (PE_sv (PE_sv h (by decide) (by decide) (by decide)) (by decide) (by decide) (by decide)) (by decide) (by decide) (by decide)) (by decide) (by decide) (by decide)) (by decide) (by decide) (by decide)
      · show (if g = 33 ∧ 0 = k ∧ 0 + 1 < _ then _ else av (z_out k a) g 0 0) = _
        rw [if_neg (by omega)]
    unfold z_wakeP
    split
    · exact PE_wake (hp _)
    · exact hp _
theorem PE_obeys {p M d n : Nat} {t : Int32} {a : AS} (h : PE p M t d a) : PE p M t d (z_obeys n a).2 := by
  unfold z_obeys
  split
  · exact h
  · split
    · split
      · unfold z_admits
        split
        · exact PE_wake (PE_sv h (by decide) (by decide) (by decide))
        · exact h
      · exact h
    · split
      · split
        · unfold z_cancels
          split
          · simp only
            split
            · exact PE_wake (PE_sl (PE_sv h (by decide) (by decide) (by decide)) (by decide))
            · exact PE_sv h (by decide) (by decide) (by decide)
          · exact h
        · exact h
      · split
        · unfold z_replies
          split
          · split
            · exact h
            · exact PE_wake (PE_19 h)
          · exact h
        · exact h
theorem PE_pop {p M d : Nat} {t : Int32} {a : AS} (h : PE p M t d a) : PE p M t d (z_pop a) := by
  refine PE_eq h (fun g hg => ?_) rfl
  rw [av_pop, if_neg (by omega), if_neg (by omega), if_neg (by omega)]
theorem PE_said {p M n : Nat} {t : Int32} {a : AS} (h : PE p M t 4 a) : PE p M t 0 (z_said n a) := by
  unfold z_said
  by_cases e : (z_obeys n a).1 = 0
  · rw [if_pos e]
    exact PE_say (PE_say (PE_obeys (PE_le h (by decide))))
  · rw [if_neg e]
    exact PE_obeys (PE_0 h)
theorem PE_cons {p M n : Nat} {t : Int32} {a : AS} (h : PE p M t 4 a) : PE p M t 0 (z_cons n a) := by
  unfold z_cons
  exact PE_p (PE_pop (PE_said h))
theorem PE_step {p M n : Nat} {t : Int32} {a : AS} (h : PE p M t 4 a) : PE p M t 0 (z_step n p a) := by
  unfold z_step
  split
  · exact PE_job h
  · split
    · exact PE_segs (PE_0 h)
    · split
      · exact PE_reading (PE_0 h)
      · split
        · exact PE_printing (PE_0 h)
        · exact PE_cons h
theorem PE_head {p t : Nat} {a : AS} (h : G7 t a) (hm : p ∈ al a 0) : PE p (4 * (t + 1)) (nI (t + 1)) 4 (z_t5 a) := by
  obtain ⟨h1, m, h2, h3⟩ := h
  refine ⟨?_, ⟨m, ?_, by omega⟩, Or.inl hm⟩
  · unfold z_t5; rw [av_s, h1, nI_1]
  · unfold z_t5; rw [av_o (by decide)]; exact h2
theorem G7_endt {p t : Nat} {a : AS} (h : G7 t a) : G7 t (z_endt p a) := by
  refine G7_eq h (fun g hg => ?_)
  unfold z_endt
  split
  · split
    · exact av_o (by omega)
    · rw [av_sl, av_o (by omega)]
  · rfl
theorem G7_tick1 {n t : Nat} {a : AS} (h : G7 t a) : G7 (t + 1) (z_tick1 n a) := by
  unfold z_tick1
  split
  · exact G7s_7 (G7_t5 h)
  · rename_i p l hl
    obtain ⟨g1, ⟨m, g2, g3⟩, -⟩ := PE_step (n := n) (PE_head h (p := p) (by rw [hl]; exact List.mem_cons_self))
    exact G7_endt ⟨g1, m, g2, by omega⟩
theorem G7_ticks {n : Nat} : ∀ m t a, G7 t a → G7 (t + m) (z_ticks n m a) := by
  intro m
  induction m with
  | zero => intro t a h; exact h
  | succ m ih =>
    intro t a h
    have := ih (t + 1) (z_tick1 n a) (G7_tick1 h)
    rw [show t + (m + 1) = t + 1 + m by omega]
    exact this
