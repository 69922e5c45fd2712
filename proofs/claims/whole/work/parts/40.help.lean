/-! ===== pure helpers ===== -/
def InR (z : Int) : Prop := -2147483648 ≤ z ∧ z < 2147483648
theorem w32_r {z : Int} (h : InR z) : w32 z = z := w32_id h.1 h.2
theorem w32_nat {k : Nat} (h : k < 2147483648) : w32 (k : Int) = k := w32_id (by omega) (by omega)
theorem w32_b {z : Int} (h1 : -2147483648 ≤ z) (h2 : z < 2147483648) : w32 z = z := w32_id h1 h2
theorem ix_b {z : Int} (h1 : 0 ≤ z) (h2 : z < 2147483648) : ix z = z.toNat := by unfold ix; rw [w32_id (by omega) h2]
theorem inb_b {z : Int} {n : Nat} (h1 : 0 ≤ z) (h2 : z < n) (hn : n < 2147483648) : inb z n := by unfold inb; rw [w32_id (by omega) (by omega)]; exact ⟨h1, h2⟩
theorem br1 {A B : Prop} (h : B) : (w32 1 = 0 → A) ∧ (¬ (w32 1 = 0) → B) := ⟨fun e => absurd e (by decide), fun _ => h⟩
theorem br0 {A B : Prop} (h : A) : (w32 0 = 0 → A) ∧ (¬ (w32 0 = 0) → B) := ⟨fun _ => h, fun e => absurd rfl e⟩
/-- a loop that counts up to n -/
theorem down {P : Nat → Prop} {n : Nat} (h0 : P n) (hs : ∀ k, k < n → P (k + 1) → P k) : ∀ k, k ≤ n → P k := by
  intro k hk
  obtain ⟨d, rfl⟩ : ∃ d, n = k + d := ⟨n - k, by omega⟩
  induction d generalizing k with
  | zero => exact h0
  | succ d ih =>
    refine hs k (by omega) (ih (k + 1) ?_ ?_ ?_)
    · rw [show k + 1 + d = k + (d + 1) by omega]; exact h0
    · rw [show k + 1 + d = k + (d + 1) by omega]; exact hs
    · omega
theorem up_eq {I : XI} {i j : Nat} {z : Int} : up I i j z i j = z := up_s I i j z
theorem up_ne {I : XI} {i j : Nat} {z : Int} {a b : Nat} (h : a ≠ i ∨ b ≠ j) : up I i j z a b = I a b := by
  rcases h with h | h
  · exact up_1 b h
  · exact up_2 a h
theorem up_row {I : XI} {i j : Nat} {z : Int} {a : Nat} (h : a ≠ i) : up I i j z a = I a := funext fun b => up_1 b h
/-- every int of what is told is within 32 bits: the class' cells, the reference's rows -/
def okC (I : XI) : Prop := ∀ a j, a < 44 → InR (I a j)
def okR (I : XI) : Prop := ∀ a j, 77 < a → a < 129 → InR (I a j)
theorem okC.w {I : XI} (h : okC I) {a : Nat} (j : Nat) (ha : a < 44) : w32 (I a j) = I a j := w32_r (h a j ha)
theorem okR.w {I : XI} (h : okR I) {a : Nat} (j : Nat) (ha : 77 < a) (hb : a < 129) : w32 (I a j) = I a j := w32_r (h a j ha hb)
/-- what the class does leaves the reference's cells alone, and the other way round -/
def frC (I I' : XI) : Prop := ∀ a, 77 ≤ a → a < 147 → I' a = I a
def frR (I I' : XI) : Prop := ∀ a, (a < 77 ∨ 147 ≤ a) → I' a = I a
theorem frC.refl (I : XI) : frC I I := fun _ _ _ => rfl
theorem frR.refl (I : XI) : frR I I := fun _ _ => rfl
theorem frC.trans {I J K : XI} (h1 : frC I J) (h2 : frC J K) : frC I K := fun a ha hb => (h2 a ha hb).trans (h1 a ha hb)
theorem frR.trans {I J K : XI} (h1 : frR I J) (h2 : frR J K) : frR I K := fun a ha => (h2 a ha).trans (h1 a ha)
theorem frC.up {I J : XI} {i j : Nat} {z : Int} (h : frC I J) (hi : i < 77 ∨ 147 ≤ i) : frC I (up J i j z) := fun a ha hb => (up_row (by omega)).trans (h a ha hb)
theorem frR.up {I J : XI} {i j : Nat} {z : Int} (h : frR I J) (hi : 77 ≤ i) (hi2 : i < 147) : frR I (up J i j z) := fun a ha => (up_row (by omega)).trans (h a ha)
/-! ===== the last ACT ===== -/
def lastA (B K W T : Nat → Int) (bk lk wk lm : Int) : Nat → Int × Int
  | 0 => (-1, 0)
  | n + 1 => if B n = bk ∧ K n ≤ lk ∧ T n ≤ lm ∧ W n ≤ wk ∧ (lastA B K W T bk lk wk lm n).2 ≤ W n then ((n : Int), W n) else lastA B K W T bk lk wk lm n
section P1
variable {G : XG} {S : XS} {I : XI}
theorem s_isIn {v lo hi : Int} {R : Int → XI → Prop} (hS : xSh S) (hv : InR v) (h1 : InR lo) (h2 : InR hi) (ht : lo ≤ v → v ≤ hi → R 1 I) (hf : ¬ (lo ≤ v ∧ v ≤ hi) → R 0 I) : H_isIn G S I v lo hi R := by
  refine b_H_isIn hS ?_
  rw [w32_r hv, w32_r h1, w32_r h2]
  exact ⟨fun e => hf (by omega), fun e => ⟨fun e2 => hf (by omega), fun e2 => ht (by omega) (by omega)⟩⟩
theorem s_Rin {v lo hi : Int} {R : Int → XI → Prop} (hS : xSh S) (hv : InR v) (h1 : InR lo) (h2 : InR hi) (ht : lo ≤ v → v ≤ hi → R 1 I) (hf : ¬ (lo ≤ v ∧ v ≤ hi) → R 0 I) : R_in G S I v lo hi R := by
  refine b_R_in hS ?_
  rw [w32_r hv, w32_r h1, w32_r h2]
  exact ⟨fun e => hf (by omega), fun e => ⟨fun e2 => hf (by omega), fun e2 => ht (by omega) (by omega)⟩⟩
theorem s_Sh_lastAct {bk lk wk lm : Int} {n : Nat} {R : Int → XI → Prop} (hS : xSh S) (hI : okC I) (hn : I c_shelf 6 = (n : Int)) (hn2 : n ≤ 150) (h1 : InR bk) (h2 : InR lk) (h3 : InR wk) (h4 : InR lm)
    (h : R (lastA (I c_shelf_actBooks) (I c_shelf_actKinds) (I c_shelf_actWeeks) (I c_shelf_actTold) bk lk wk lm n).1 I) : Sh_lastAct G S I bk lk wk lm R := by
  refine b_Sh_lastAct hS ?_
  refine down (n := n) (P := fun k => Sh_lastAct_k9 G S I bk lk wk lm (lastA (I c_shelf_actBooks) (I c_shelf_actKinds) (I c_shelf_actWeeks) (I c_shelf_actTold) bk lk wk lm k).1 (lastA (I c_shelf_actBooks) (I c_shelf_actKinds) (I c_shelf_actWeeks) (I c_shelf_actTold) bk lk wk lm k).2 (k : Int) R) ?_ ?_ 0 (Nat.zero_le _)
  · refine b_Sh_lastAct_k9 hS ⟨fun _ => h, fun e => absurd (Int.le_refl _) (by rw [hn] at e; exact e)⟩
  · intro k hk ih
    have hlw : InR (lastA (I c_shelf_actBooks) (I c_shelf_actKinds) (I c_shelf_actWeeks) (I c_shelf_actTold) bk lk wk lm k).2 := by
      clear ih
      induction k with
      | zero => show InR 0; exact ⟨by decide, by decide⟩
      | succ k ihk => unfold lastA; split; exact hI _ _ (by decide); exact ihk (by omega)
    refine b_Sh_lastAct_k9 hS ?_
    simp (disch := first | decide | omega) only [hn, w32_nat, ix_nat, hI.w, w32_r h1, w32_r h2, w32_r h3, w32_r h4, w32_r hlw]
    unfold lastA at ih
    repeat' (with_reducible first | apply And.intro | intro _)
    all_goals first | omega | exact inb_nat (by omega) (by omega) | (rw [if_pos (by omega)] at ih; exact ih) | (rw [if_neg (by omega)] at ih; exact ih)
end P1
