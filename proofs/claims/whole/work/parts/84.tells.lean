/-! ===== telling: several plain cells at once ===== -/
abbrev UpE := Nat × Nat × Nat × Nat × Nat × Int
def upA : List UpE → XI → XI
  | [], I => I
  | (d, o, _, _, j, z) :: l, I => upA l (up I (1 + d) (j + o) z)
def upB : List UpE → XI → XI
  | [], I => I
  | (_, _, r, _, j, z) :: l, I => upB l (up I r j z)
def okE (q : UpE) : Prop := (q.1, q.2.1, q.2.2.1, q.2.2.2.1) ∈ plT ∧ q.2.2.2.2.1 < q.2.2.2.1 ∧ InR q.2.2.2.2.2 ∧ q.2.2.1 ≠ 117
def okL (L : List UpE) : Prop := ∀ q ∈ L, okE q
theorem okL.nil : okL [] := fun q h => by cases h
theorem okL.cons {d o r n j : Nat} {z : Int} {l : List UpE} (h1 : (d, o, r, n) ∈ plT) (h4 : r ≠ 117) (h2 : j < n) (h3 : InR z) (t : okL l) : okL ((d, o, r, n, j, z) :: l) := fun q hq => by
  rcases List.mem_cons.1 hq with e | e
  · subst e; exact ⟨h1, h2, h3, h4⟩
  · exact t q e
theorem okL.tl {q : UpE} {l : List UpE} (h : okL (q :: l)) : okL l := fun p hp => h p (List.mem_cons_of_mem _ hp)
theorem okL.hd {q : UpE} {l : List UpE} (h : okL (q :: l)) : okE q := h q (List.mem_cons_self ..)
theorem plT_ok2 : ∀ q ∈ plT, q.1 < 42 ∧ ¬ (31 < q.1 ∧ q.1 < 39) ∧ q.2.2.1 ≠ 85 ∧ q.2.2.1 ≠ 78 ∧ (¬ (116 < q.2.2.1 ∧ q.2.2.1 < 125) ∨ q.2.2.1 = 117) ∧ (q.1 = 1 → q.2.2.2 = 1 ∧ q.2.1 ≠ 1) := by decide +kernel
theorem upA_row {L : List UpE} {a : Nat} : ∀ {I : XI}, (∀ q ∈ L, a ≠ 1 + q.1) → upA L I a = I a := by
  induction L with
  | nil => intro I _; rfl
  | cons q l ih => intro I h; exact (ih (fun p hp => h p (List.mem_cons_of_mem _ hp))).trans (up_row (h q (List.mem_cons_self ..)))
theorem upB_row {L : List UpE} {a : Nat} : ∀ {I : XI}, (∀ q ∈ L, a ≠ q.2.2.1) → upB L I a = I a := by
  induction L with
  | nil => intro I _; rfl
  | cons q l ih => intro I h; exact (ih (fun p hp => h p (List.mem_cons_of_mem _ hp))).trans (up_row (h q (List.mem_cons_self ..)))
theorem upA_cell {L : List UpE} {a b : Nat} : ∀ {I : XI}, (∀ q ∈ L, a = 1 + q.1 → b ≠ q.2.2.2.2.1 + q.2.1) → upA L I a b = I a b := by
  induction L with
  | nil => intro I _; rfl
  | cons q l ih =>
    intro I h
    refine (ih (fun p hp => h p (List.mem_cons_of_mem _ hp))).trans ?_
    by_cases e : a = 1 + q.1
    · have := h q (List.mem_cons_self ..) e
      rw [e]; exact up_2 _ this
    · exact up_1 _ e
theorem upA_cong {L : List UpE} {a : Nat} : ∀ {I J : XI}, I a = J a → upA L I a = upA L J a := by
  induction L with
  | nil => intro I J h; exact h
  | cons q l ih => intro I J h; exact ih (up_cong h)
theorem upB_cong {L : List UpE} {a : Nat} : ∀ {I J : XI}, I a = J a → upB L I a = upB L J a := by
  induction L with
  | nil => intro I J h; exact h
  | cons q l ih => intro I J h; exact ih (up_cong h)
theorem upA_ok {L : List UpE} : ∀ {I : XI}, okL L → okA I → okA (upA L I) := by
  induction L with
  | nil => intro I _ h; exact h
  | cons q l ih => intro I hL h; exact ih hL.tl (h.up hL.hd.2.2.1)
theorem upB_ok {L : List UpE} : ∀ {I : XI}, okL L → okR I → okR (upB L I) := by
  induction L with
  | nil => intro I _ h; exact h
  | cons q l ih => intro I hL h; exact ih hL.tl (h.up hL.hd.2.2.1)
theorem upB_hi {L : List UpE} {I : XI} : ∀ {B : XI}, okL L → hiW I B → hiW I (upB L B) := by
  induction L with
  | nil => intro B _ h; exact h
  | cons q l ih =>
    intro B hL h
    have o := plT_ok _ hL.hd.1
    have o4 : q.2.2.2.1 = wid q.2.2.1 := o.2.2.2
    exact ih hL.tl (h.up (i := q.2.2.1) (k := q.2.2.2.2.1) (o4 ▸ hL.hd.2.1))
theorem up_Pl {L : List UpE} : ∀ {A B : XI}, okL L → Pl A 1 B → Pl (upA L A) 1 (upB L B) := by
  induction L with
  | nil => intro A B _ h; exact h
  | cons q l ih => intro A B hL h; exact ih hL.tl (h.up2 q.1 q.2.1 q.2.2.1 q.2.2.2.1 hL.hd.1 hL.hd.2.1)
/-- the class has told L, and forgotten what it knew; the code is 0; the reference has told L -/
theorem tells_rows {I K : XI} {L : List UpE} (hL : okL L) (hK : ∀ a, ((0 < a ∧ a < 44) ∨ (77 < a ∧ a < 129)) → K a = I a) : (∀ a, 0 < a → a < 44 → upB L (up (upA L K) r_obj 0 0) a = upA L I a) ∧ (∀ a, 77 < a → a < 129 → upB L (up (upA L K) r_obj 0 0) a = upB L I a) ∧ ∀ a, (a = 0 ∨ (43 < a ∧ a < 77) ∨ 128 < a) → upB L (up (upA L K) r_obj 0 0) a = K a := by
  have rB : ∀ q ∈ L, 77 < q.2.2.1 ∧ q.2.2.1 < 129 := fun q hq => by
    have o := plT_ok _ (hL q hq).1
    exact ⟨o.2.1, o.2.2.1⟩
  have rA : ∀ q ∈ L, q.1 < 42 := fun q hq => (plT_ok2 _ (hL q hq).1).1
  refine ⟨fun a h1 h2 => ?_, fun a h1 h2 => upB_cong ?_, fun a ha => ?_⟩
  · rw [upB_row (fun q hq => by have := rB q hq; omega), up_row (show a ≠ 77 by omega)]
    exact upA_cong (hK a (by omega))
  · rw [up_row (show a ≠ 77 by omega), upA_row (fun q hq => by have := rA q hq; omega)]
    exact hK a (by omega)
  · rw [upB_row (fun q hq => by have := rB q hq; omega), up_row (show a ≠ 77 by omega), upA_row (fun q hq => by have := rA q hq; omega)]
theorem now_tells {I K : XI} {L : List UpE} (h : Now I) (h0 : ∀ j, InR (I 0 j)) (hL : okL L) (hK : ∀ a, ((0 < a ∧ a < 44) ∨ (77 < a ∧ a < 129)) → K a = I a) (hG : Good (upB L I)) : Now (upB L (up (upA L K) r_obj 0 0)) := by
  obtain ⟨e1, e2, e3⟩ := tells_rows hL hK
  have k : ∀ q ∈ L, q.1 < 42 ∧ ¬ (31 < q.1 ∧ q.1 < 39) ∧ q.2.2.1 ≠ 85 ∧ q.2.2.1 ≠ 78 ∧ (¬ (116 < q.2.2.1 ∧ q.2.2.1 < 125) ∨ q.2.2.1 = 117) ∧ (q.1 = 1 → q.2.2.2.1 = 1 ∧ q.2.1 ≠ 1) := fun q hq => plT_ok2 _ (hL q hq).1
  refine h.tell (up_Pl hL h.2.2.1) e1 e2 (upA_ok hL (fun a j h1 h2 => h.okC h0 a j h2)) (upB_ok hL h.1) hG (upA_cell (fun q hq => ?_)) (upB_row (fun q hq => ?_)) (upA_row (fun q hq => ?_)) (upB_row (fun q hq => ?_)) (fun a h1 h2 => upA_row (fun q hq => ?_)) (fun a h1 h2 => upB_row (fun q hq => ?_))
  · have x := k q hq
    have y := (hL q hq).2.1
    intro e
    have z := x.2.2.2.2.2 (by omega)
    omega
  · have x := k q hq
    exact fun e => x.2.2.1 e.symm
  · have x := k q hq
    omega
  · have x := k q hq
    exact fun e => x.2.2.2.1 e.symm
  · have x := k q hq
    omega
  · have x := k q hq
    have y := (hL q hq).2.2.2
    omega
/-- nothing that PARTS or walks are worked out of -/
theorem rel_tells {S : XS} {I J : XI} (L : List UpE) (h : Rel S I) (hL : okL L) (hq : ∀ q ∈ L, 17 < q.1 ∧ 102 < q.2.2.1) (e : J = upB L (up (upA L I) r_obj 0 0)) (hG : Good (upB L I)) : Rel S J := by
  subst e
  obtain ⟨e1, e2, e3⟩ := tells_rows (K := I) hL (fun _ _ => rfl)
  have hq2 : ∀ q ∈ L, q.2.2.1 ≠ 101 ∧ q.2.2.1 ≠ 124 := fun q hx => by
    have x := (plT_ok2 _ (hL q hx).1).2.2.2.2.1
    have y := (hL q hx).2.2.2
    have z := (hq q hx).2
    have x' : ¬ (116 < q.2.2.1 ∧ q.2.2.1 < 125) ∨ q.2.2.1 = 117 := x
    omega
  refine h.tell (now_tells h.1 h.2.2.2.2 hL (fun _ _ => rfl) hG) (fun a ha => ?_) ⟨?_, ?_⟩ ?_ ⟨?_, ?_, ?_, ?_⟩ (fun a h1 h2 i hi => ?_)
  · by_cases c : 0 < a ∧ a < 44
    · rw [e1 a c.1 c.2]; exact upA_row (fun q hx => by have := hq q hx; omega)
    · exact e3 a (by omega)
  · rw [e2 r_newsSeen (by decide) (by decide)]; exact upB_row (fun q hx => by have := hq q hx; show 101 ≠ _; have := (hq2 q hx).1; omega)
  · rw [e2 r_testNot (by decide) (by decide)]; exact upB_row (fun q hx => by show 124 ≠ _; have := (hq2 q hx).2; omega)
  · rw [e1 c_land (by decide) (by decide)]; exact congrFun (upA_row (fun q hx => by have := hq q hx; show 2 ≠ _; omega)) 1
  · rw [e2 r_cells (by decide) (by decide)]; exact congrFun (upB_row (fun q hx => by have := hq q hx; show 84 ≠ _; omega)) 0
  · rw [e2 r_grasses (by decide) (by decide)]; exact congrFun (upB_row (fun q hx => by have := hq q hx; show 91 ≠ _; omega)) 0
  · rw [e2 r_newsMany (by decide) (by decide)]; exact congrFun (upB_row (fun q hx => by have := hq q hx; show 97 ≠ _; omega)) 0
  · rw [e2 r_camps (by decide) (by decide)]; exact congrFun (upB_row (fun q hx => by have := hq q hx; show 87 ≠ _; omega)) 0
  · rw [e2 a h1 h2]; exact upB_hi hL (hiW.refl I) a h1 h2 i hi
/-- what was known is forgotten -/
theorem rel_new {S : XS} {I J : XI} (h : Rel S I) (hN : Now J) (k1 : ∀ c, c < 6 → J c_now_knownTo c = -1) (k2 : ∀ c, c < 6 → J c_then_knownTo c = -1) (h1 : J c_now 6 = I c_now 6) (h2 : J c_then 6 = I c_then 6) (wk : WkOk J) (fl : FlR J) (im : ∀ a, (a = 0 ∨ (64 < a ∧ a < 72) ∨ (134 < a ∧ a < 142) ∨ 145 < a) → J a = I a) (hi : hiW I J) : Rel S J := by
  obtain ⟨_, c, _, i, z⟩ := h
  exact ⟨hN, Cach.none (nM_c hN.2.1).2 (by rw [h1]; exact c.1) (by rw [h2]; exact c.2.1) k1 k2, wk, i.eq fl (fun a ha => im a (by omega)) hi, fun j => by rw [im 0 (by omega)]; exact z j⟩
