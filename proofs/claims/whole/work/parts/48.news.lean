/-! ===== the class: PARTS move, NEWS narrows them ===== -/
def mvS (Wy g p : Nat → Int) : Nat → Nat → Int
  | 0, _ => 0
  | c + 1, j => if 0 < p c then (if 0 < sumA (wvS Wy g c) 10 then shareRow (mvS Wy g p c) (p c) (wvS Wy g c) (sumA (wvS Wy g c) 10) j else ud (mvS Wy g p c) c (mvS Wy g p c c + p c) j) else mvS Wy g p c j
/-- a NEWS heard: the PARTS behind it, and 1 if it is a QUARREL -/
def heS (p : Nat → Int) (cell : Nat) (seen : Int) : (Nat → Int) × Int :=
  if seen = 1 then (if p cell = 0 then (p, 1) else (ud (fun _ => 0) cell 1000000, 0)) else (if p cell = 1000000 then (p, 1) else (shareRow (fun _ => 0) 1000000 (ud p cell 0) (1000000 - p cell), 0))
/-- a row of PARTS: not below 0, a million together -/
def rowOk (p : Nat → Int) : Prop := (∀ j, j < 10 → 0 ≤ p j) ∧ sumA p 10 = 1000000
theorem rowOk.le {p : Nat → Int} (h : rowOk p) {j : Nat} (hj : j < 10) : p j ≤ 1000000 := by rw [← h.2]; exact sumA_ge h.1 j hj
def xclr (I : XI) (a row k : Nat) : XI := fun b j => if b = a ∧ row ≤ j ∧ j < row + k then 0 else I b j
theorem xclr_up (I : XI) (a row k : Nat) : up (xclr I a row k) a (row + k) 0 = xclr I a row (k + 1) := by
  funext b j
  unfold up xclr
  by_cases hb : b = a
  · subst hb
    by_cases hj : j = row + k
    · subst hj; simp
    · simp only [if_true, hj, if_false, true_and]
      by_cases h1 : row ≤ j ∧ j < row + k
      · rw [if_pos h1, if_pos (by omega)]
      · rw [if_neg h1, if_neg (by omega)]
  · simp [hb]
theorem xclr_in {I : XI} {a row k j : Nat} (h : j < k) : xclr I a row k a (row + j) = 0 := if_pos ⟨rfl, by omega, by omega⟩
theorem xclr_else {I : XI} {a row k j : Nat} (h : j < row ∨ row + k ≤ j) : xclr I a row k a j = I a j := if_neg (fun q => by omega)
theorem xclr_out {I : XI} {a row k b : Nat} (h : b ≠ a) : xclr I a row k b = I b := funext fun j => if_neg (fun q => h q.1)
theorem amx_cong {r q : Nat → Int} : ∀ n, (∀ j, j ≤ n → r j = q j) → amx r n = amx q n
  | 0, _ => rfl
  | n + 1, h => by
    have ih := amx_cong n (fun j hj => h j (by omega))
    have hl := amx_le q n
    unfold amx
    rw [ih, h (n + 1) (Nat.le_refl _), h (amx q n) (by omega)]
theorem pik_cong10 {e f r : Nat → Int} (h : ∀ j, j < 10 → e j = f j) : ∀ k j, j < 10 → (pik e r k).1 j = (pik f r k).1 j := by
  have h2 : ∀ k, (pik e r k).2 = (pik f r k).2 := by
    intro k
    induction k with
    | zero => rfl
    | succ k ih => show ud (pik e r k).2 _ _ = ud (pik f r k).2 _ _; rw [ih]
  intro k
  induction k with
  | zero => exact h
  | succ k ih =>
    intro j hj
    show ud (pik e r k).1 _ _ j = ud (pik f r k).1 _ _ j
    rw [h2 k]
    unfold ud
    split
    · rw [ih _ (by have := amx_le (pik f r k).2 9; omega)]
    · exact ih j hj
section PW
variable {G : XG} {S : XS}
theorem s_Wn_clearRow {I : XI} {rw' : Nat} {row : Int} {R : XI → Prop} (hS : xSh S) (hrow : row = (rw' : Int)) (hrow2 : rw' + 10 ≤ 6000) (h : R (xclr I c_now_parts rw' 10)) : Wn_clearRow G S I row R := by
  subst hrow
  refine b_Wn_clearRow hS ?_
  have key := down (n := 10) (P := fun k => Wn_clearRow_k2 G S (xclr I c_now_parts rw' k) (rw' : Int) (k : Int) R) ?_ ?_ 0 (Nat.zero_le _)
  · have e0 : xclr I c_now_parts rw' 0 = I := by funext b j; exact if_neg (fun q => by omega)
    rw [e0] at key; exact key
  · exact b_Wn_clearRow_k2 hS ⟨fun _ => h, fun e => absurd (by decide) e⟩
  · intro k hk ih
    refine b_Wn_clearRow_k2 hS ?_
    rw [show w32 10 = 10 from rfl, w32_nat (by omega), ix_add (by omega)]
    refine ⟨fun e => absurd e (by omega), fun _ => ⟨inb_b (by omega) (by omega) (by decide), fun I1 e1 => ?_⟩⟩
    rw [xclr_up] at e1; subst e1; exact ih
/-- the frame of a row's change -/
def frWn (I I' : XI) (rw' : Nat) : Prop := (∀ j, (j < rw' ∨ rw' + 10 ≤ j) → I' c_now_parts j = I c_now_parts j) ∧ ∀ a, a ≠ c_now_parts → a ≠ c_now_rests → a ≠ c_now_weights → I' a = I a
theorem s_Wn_gather {I : XI} {rw' : Nat} {row cl : Int} {c : Nat} {p : Nat → Int} {R : Int → XI → Prop} (hS : xSh S) (hrow : row = (rw' : Int)) (hrow2 : rw' + 10 ≤ 6000) (hcl : cl = (c : Int)) (hc : c < 10) (hp : ∀ j, j < 10 → I c_now_parts (rw' + j) = p j) (hok : rowOk p)
    (h0 : p c = 0 → R 0 I) (h1 : p c ≠ 0 → ∀ I', (∀ j, j < 10 → I' c_now_parts (rw' + j) = ud (fun _ => 0) c 1000000 j) → frWn I I' rw' → R 1 I') : Wn_gather G S I row cl R := by
  subst hrow; subst hcl
  have hl := hok.le hc
  have hg := hok.1 c hc
  refine b_Wn_gather hS ⟨inb_b (by omega) (by omega) (by decide), ?_⟩
  rw [ix_add (by omega), hp c hc, w32_b (z := p c) (by omega) (by omega)]
  refine ⟨h0, fun e => s_Wn_clearRow hS rfl hrow2 ⟨inb_b (by omega) (by omega) (by decide), fun I2 e2 => ?_⟩⟩
  subst e2
  refine h1 e _ (fun j hj => ?_) ⟨fun j hj => ?_, fun a ha1 ha2 ha3 => ?_⟩
  · unfold ud
    by_cases ej : j = c
    · rw [if_pos ej, ej, up_s]
    · rw [if_neg ej, up_2 _ (by omega), xclr_in hj]
  · rw [up_2 _ (by omega), xclr_else hj]
  · rw [up_row ha1, xclr_out ha1]
theorem s_Wn_leave {I : XI} {rw' : Nat} {row cl : Int} {c : Nat} {p : Nat → Int} {R : Int → XI → Prop} (hS : xSh S) (hrow : row = (rw' : Int)) (hrow2 : rw' + 10 ≤ 6000) (hcl : cl = (c : Int)) (hc : c < 10) (hp : ∀ j, j < 10 → I c_now_parts (rw' + j) = p j) (hok : rowOk p)
    (h0 : p c = 1000000 → R 0 I) (h1 : p c ≠ 1000000 → ∀ I', (∀ j, j < 10 → I' c_now_parts (rw' + j) = shareRow (fun _ => 0) 1000000 (ud p c 0) (1000000 - p c) j) → frWn I I' rw' → R 1 I') : Wn_leave G S I row cl R := by
  subst hrow; subst hcl
  have hl := hok.le hc
  have hg := hok.1 c hc
  refine b_Wn_leave hS ⟨inb_b (by omega) (by omega) (by decide), ?_⟩
  rw [ix_add (by omega), hp c hc, w32_b (z := 1000000 - p c) (by omega) (by omega)]
  refine ⟨fun e => h0 (by omega), fun e => ?_⟩
  have hsum : 1000000 - p c = sumA (ud p c 0) 10 := by rw [sumA_ud, if_pos hc, hok.2]; omega
  have hw0 : ∀ j, j < 10 → 0 ≤ ud p c 0 j ∧ ud p c 0 j ≤ 1000000 := fun j hj => by
    have := hok.1 j hj; have := hok.le hj
    unfold ud; split <;> omega
  refine down (n := 10) (P := fun k => ∀ I1 : XI, (∀ j, j < k → I1 c_now_weights j = ud p c 0 j) → (∀ j, j < k → I1 c_now_parts (rw' + j) = 0) → (∀ j, k ≤ j → j < 10 → I1 c_now_parts (rw' + j) = p j) → (∀ j, (j < rw' ∨ rw' + 10 ≤ j) → I1 c_now_parts j = I c_now_parts j) → (∀ a, a ≠ c_now_parts → a ≠ c_now_weights → I1 a = I a) → Wn_leave_k21 G S I1 (rw' : Int) (c : Int) (1000000 - p c) (k : Int) R) ?_ ?_ 0 (Nat.zero_le _) I (fun j hj => absurd hj (by omega)) (fun j hj => absurd hj (by omega)) (fun j _ hj => hp j hj) (fun _ _ => rfl) (fun _ _ _ => rfl)
  · intro I1 q1 q2 q3 q4 q5
    refine b_Wn_leave_k21 hS ⟨fun _ => ?_, fun e => absurd (by decide) e⟩
    obtain ⟨l0, l1, -⟩ := sh_left (p := 1000000) (w := ud p c 0) (by decide) (fun j hj => (hw0 j hj).1) hsum (by omega)
    refine s_Wn_share hS rfl hrow2 ⟨by decide, by decide⟩ q1 hw0 hsum (by omega) l1 l0 (fun I' h' => ⟨Or.inr rfl, h1 (by omega) I' (fun j hj => ?_) ⟨fun j hj => ?_, fun a ha1 ha2 ha3 => ?_⟩⟩)
    · rw [h'.1 j hj]
      unfold shareRow
      have ef : (fun j => I1 c_now_parts (rw' + j) + 1000000 * ud p c 0 j / (1000000 - p c)) = (fun j => (if j < 10 then 0 else I1 c_now_parts (rw' + j)) + 1000000 * ud p c 0 j / (1000000 - p c)) := by
        funext i; split
        · rename_i hi; rw [q2 i hi]
        · rfl
      rw [ef]
      exact pik_cong10 (fun i hi => by show _ + _ = _ + _; rw [if_pos hi]) _ j hj
    · rw [h'.2.1 j hj]; exact q4 j hj
    · rw [h'.2.2.2 a ha1 ha2]; exact q5 a ha1 ha3
  · intro k hk ih I1 q1 q2 q3 q4 q5
    have k53 : ∀ v : Int, v = ud p c 0 k → Wn_leave_k53 G S I1 (rw' : Int) (c : Int) (1000000 - p c) (k : Int) v (k : Int) R := by
      intro v hv
      refine b_Wn_leave_k53 hS ⟨inb_b (by omega) (by omega) (by decide), fun I3 e3 => ⟨inb_b (by omega) (by omega) (by decide), fun I4 e4 => ?_⟩⟩
      rw [ix_nat (by omega)] at e3
      rw [ix_add (by omega)] at e4
      subst e4; subst e3
      refine ih _ (fun j hj => ?_) (fun j hj => ?_) (fun j hj hj2 => ?_) (fun j hj => ?_) (fun a ha1 ha2 => ?_)
      · rw [up_1 _ (by decide)]
        by_cases ej : j = k
        · rw [ej, up_s, hv]
        · rw [up_2 _ ej]; exact q1 j (by omega)
      · by_cases ej : j = k
        · rw [ej, up_s]
        · rw [up_2 _ (by omega), up_1 _ (by decide)]; exact q2 j (by omega)
      · rw [up_2 _ (by omega), up_1 _ (by decide)]; exact q3 j (by omega) hj2
      · rw [up_2 _ (by omega), up_1 _ (by decide)]; exact q4 j hj
      · rw [up_row ha1, up_row ha2]; exact q5 a ha1 ha2
    refine b_Wn_leave_k21 hS ?_
    rw [show w32 10 = 10 from rfl, w32_nat (by omega), w32_nat (by omega), ix_add (by omega), q3 k (Nat.le_refl _) hk]
    refine ⟨fun e => absurd e (by omega), fun _ => ⟨fun e => k53 0 ?_, fun e => ⟨inb_b (by omega) (by omega) (by decide), k53 _ ?_⟩⟩⟩
    · exact (if_pos (by omega)).symm
    · exact (if_neg (by omega)).symm
theorem s_Wt_clearRow {I : XI} {rw' : Nat} {row : Int} {R : XI → Prop} (hS : xSh S) (hrow : row = (rw' : Int)) (hrow2 : rw' + 10 ≤ 6000) (h : R (xclr I c_then_parts rw' 10)) : Wt_clearRow G S I row R := by
  subst hrow
  refine b_Wt_clearRow hS ?_
  have key := down (n := 10) (P := fun k => Wt_clearRow_k2 G S (xclr I c_then_parts rw' k) (rw' : Int) (k : Int) R) ?_ ?_ 0 (Nat.zero_le _)
  · have e0 : xclr I c_then_parts rw' 0 = I := by funext b j; exact if_neg (fun q => by omega)
    rw [e0] at key; exact key
  · exact b_Wt_clearRow_k2 hS ⟨fun _ => h, fun e => absurd (by decide) e⟩
  · intro k hk ih
    refine b_Wt_clearRow_k2 hS ?_
    rw [show w32 10 = 10 from rfl, w32_nat (by omega), ix_add (by omega)]
    refine ⟨fun e => absurd e (by omega), fun _ => ⟨inb_b (by omega) (by omega) (by decide), fun I1 e1 => ?_⟩⟩
    rw [xclr_up] at e1; subst e1; exact ih
/-- the frame of a row's change -/
def frWt (I I' : XI) (rw' : Nat) : Prop := (∀ j, (j < rw' ∨ rw' + 10 ≤ j) → I' c_then_parts j = I c_then_parts j) ∧ ∀ a, a ≠ c_then_parts → a ≠ c_then_rests → a ≠ c_then_weights → I' a = I a
theorem s_Wt_gather {I : XI} {rw' : Nat} {row cl : Int} {c : Nat} {p : Nat → Int} {R : Int → XI → Prop} (hS : xSh S) (hrow : row = (rw' : Int)) (hrow2 : rw' + 10 ≤ 6000) (hcl : cl = (c : Int)) (hc : c < 10) (hp : ∀ j, j < 10 → I c_then_parts (rw' + j) = p j) (hok : rowOk p)
    (h0 : p c = 0 → R 0 I) (h1 : p c ≠ 0 → ∀ I', (∀ j, j < 10 → I' c_then_parts (rw' + j) = ud (fun _ => 0) c 1000000 j) → frWt I I' rw' → R 1 I') : Wt_gather G S I row cl R := by
  subst hrow; subst hcl
  have hl := hok.le hc
  have hg := hok.1 c hc
  refine b_Wt_gather hS ⟨inb_b (by omega) (by omega) (by decide), ?_⟩
  rw [ix_add (by omega), hp c hc, w32_b (z := p c) (by omega) (by omega)]
  refine ⟨h0, fun e => s_Wt_clearRow hS rfl hrow2 ⟨inb_b (by omega) (by omega) (by decide), fun I2 e2 => ?_⟩⟩
  subst e2
  refine h1 e _ (fun j hj => ?_) ⟨fun j hj => ?_, fun a ha1 ha2 ha3 => ?_⟩
  · unfold ud
    by_cases ej : j = c
    · rw [if_pos ej, ej, up_s]
    · rw [if_neg ej, up_2 _ (by omega), xclr_in hj]
  · rw [up_2 _ (by omega), xclr_else hj]
  · rw [up_row ha1, xclr_out ha1]
theorem s_Wt_leave {I : XI} {rw' : Nat} {row cl : Int} {c : Nat} {p : Nat → Int} {R : Int → XI → Prop} (hS : xSh S) (hrow : row = (rw' : Int)) (hrow2 : rw' + 10 ≤ 6000) (hcl : cl = (c : Int)) (hc : c < 10) (hp : ∀ j, j < 10 → I c_then_parts (rw' + j) = p j) (hok : rowOk p)
    (h0 : p c = 1000000 → R 0 I) (h1 : p c ≠ 1000000 → ∀ I', (∀ j, j < 10 → I' c_then_parts (rw' + j) = shareRow (fun _ => 0) 1000000 (ud p c 0) (1000000 - p c) j) → frWt I I' rw' → R 1 I') : Wt_leave G S I row cl R := by
  subst hrow; subst hcl
  have hl := hok.le hc
  have hg := hok.1 c hc
  refine b_Wt_leave hS ⟨inb_b (by omega) (by omega) (by decide), ?_⟩
  rw [ix_add (by omega), hp c hc, w32_b (z := 1000000 - p c) (by omega) (by omega)]
  refine ⟨fun e => h0 (by omega), fun e => ?_⟩
  have hsum : 1000000 - p c = sumA (ud p c 0) 10 := by rw [sumA_ud, if_pos hc, hok.2]; omega
  have hw0 : ∀ j, j < 10 → 0 ≤ ud p c 0 j ∧ ud p c 0 j ≤ 1000000 := fun j hj => by
    have := hok.1 j hj; have := hok.le hj
    unfold ud; split <;> omega
  refine down (n := 10) (P := fun k => ∀ I1 : XI, (∀ j, j < k → I1 c_then_weights j = ud p c 0 j) → (∀ j, j < k → I1 c_then_parts (rw' + j) = 0) → (∀ j, k ≤ j → j < 10 → I1 c_then_parts (rw' + j) = p j) → (∀ j, (j < rw' ∨ rw' + 10 ≤ j) → I1 c_then_parts j = I c_then_parts j) → (∀ a, a ≠ c_then_parts → a ≠ c_then_weights → I1 a = I a) → Wt_leave_k21 G S I1 (rw' : Int) (c : Int) (1000000 - p c) (k : Int) R) ?_ ?_ 0 (Nat.zero_le _) I (fun j hj => absurd hj (by omega)) (fun j hj => absurd hj (by omega)) (fun j _ hj => hp j hj) (fun _ _ => rfl) (fun _ _ _ => rfl)
  · intro I1 q1 q2 q3 q4 q5
    refine b_Wt_leave_k21 hS ⟨fun _ => ?_, fun e => absurd (by decide) e⟩
    obtain ⟨l0, l1, -⟩ := sh_left (p := 1000000) (w := ud p c 0) (by decide) (fun j hj => (hw0 j hj).1) hsum (by omega)
    refine s_Wt_share hS rfl hrow2 ⟨by decide, by decide⟩ q1 hw0 hsum (by omega) l1 l0 (fun I' h' => ⟨Or.inr rfl, h1 (by omega) I' (fun j hj => ?_) ⟨fun j hj => ?_, fun a ha1 ha2 ha3 => ?_⟩⟩)
    · rw [h'.1 j hj]
      unfold shareRow
      have ef : (fun j => I1 c_then_parts (rw' + j) + 1000000 * ud p c 0 j / (1000000 - p c)) = (fun j => (if j < 10 then 0 else I1 c_then_parts (rw' + j)) + 1000000 * ud p c 0 j / (1000000 - p c)) := by
        funext i; split
        · rename_i hi; rw [q2 i hi]
        · rfl
      rw [ef]
      exact pik_cong10 (fun i hi => by show _ + _ = _ + _; rw [if_pos hi]) _ j hj
    · rw [h'.2.1 j hj]; exact q4 j hj
    · rw [h'.2.2.2 a ha1 ha2]; exact q5 a ha1 ha3
  · intro k hk ih I1 q1 q2 q3 q4 q5
    have k53 : ∀ v : Int, v = ud p c 0 k → Wt_leave_k53 G S I1 (rw' : Int) (c : Int) (1000000 - p c) (k : Int) v (k : Int) R := by
      intro v hv
      refine b_Wt_leave_k53 hS ⟨inb_b (by omega) (by omega) (by decide), fun I3 e3 => ⟨inb_b (by omega) (by omega) (by decide), fun I4 e4 => ?_⟩⟩
      rw [ix_nat (by omega)] at e3
      rw [ix_add (by omega)] at e4
      subst e4; subst e3
      refine ih _ (fun j hj => ?_) (fun j hj => ?_) (fun j hj hj2 => ?_) (fun j hj => ?_) (fun a ha1 ha2 => ?_)
      · rw [up_1 _ (by decide)]
        by_cases ej : j = k
        · rw [ej, up_s, hv]
        · rw [up_2 _ ej]; exact q1 j (by omega)
      · by_cases ej : j = k
        · rw [ej, up_s]
        · rw [up_2 _ (by omega), up_1 _ (by decide)]; exact q2 j (by omega)
      · rw [up_2 _ (by omega), up_1 _ (by decide)]; exact q3 j (by omega) hj2
      · rw [up_2 _ (by omega), up_1 _ (by decide)]; exact q4 j hj
      · rw [up_row ha1, up_row ha2]; exact q5 a ha1 ha2
    refine b_Wt_leave_k21 hS ?_
    rw [show w32 10 = 10 from rfl, w32_nat (by omega), w32_nat (by omega), ix_add (by omega), q3 k (Nat.le_refl _) hk]
    refine ⟨fun e => absurd e (by omega), fun _ => ⟨fun e => k53 0 ?_, fun e => ⟨inb_b (by omega) (by omega) (by decide), k53 _ ?_⟩⟩⟩
    · exact (if_pos (by omega)).symm
    · exact (if_neg (by omega)).symm
end PW
