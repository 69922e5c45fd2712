/-! ===== the class' sharing out ===== -/
theorem ix_add {a b : Nat} (h : a + b < 2147483648) : ix ((a : Int) + (b : Int)) = a + b := by
  rw [show ((a : Int) + (b : Int)) = ((a + b : Nat) : Int) by omega, ix_nat h]
theorem pik_succ (e r : Nat → Int) : ∀ k, pik e r (k + 1) = pik (ud e (amx r 9) (e (amx r 9) + 1)) (ud r (amx r 9) (-1)) k
  | 0 => rfl
  | k + 1 => by
    have ih := pik_succ e r k
    rw [pik, ih]
    rfl
/-- the row of PARTS and the rests stand at e and r; all else as in I0 -/
def ShInv (I0 I : XI) (pc rc row : Nat) (e r : Nat → Int) : Prop := (∀ j, j < 10 → I pc (row + j) = e j) ∧ (∀ j, (j < row ∨ row + 10 ≤ j) → I pc j = I0 pc j) ∧ (∀ j, j < 10 → I rc j = r j) ∧ ∀ a, a ≠ pc → a ≠ rc → I a = I0 a
theorem ldiv_pos {x y : Int} (h1 : 0 ≤ x) (h2 : x ≤ 1000000 * 1000000) (h3 : 0 < y) (h4 : y ≤ 2147483647) : ldiv x y = x / y := by
  unfold ldiv
  rw [w64_id (by omega) (by omega), w64_id (by omega) (by omega), Int.tdiv_eq_ediv_of_nonneg h1]
theorem lrem_pos {x y : Int} (h1 : 0 ≤ x) (h2 : x ≤ 1000000 * 1000000) (h3 : 0 < y) (h4 : y ≤ 2147483647) : lrem x y = x % y := by
  unfold lrem
  rw [w64_id (by omega) (by omega), w64_id (by omega) (by omega), Int.tdiv_eq_ediv_of_nonneg h1, Int.mul_comm, Int.emod_def]
theorem idiv_pos {x y : Int} (h1 : 0 ≤ x) (h2 : x < 2147483648) (h3 : 0 < y) (h4 : y < 2147483648) : idiv x y = x / y := by
  unfold idiv
  rw [w32_id (by omega) (by omega), w32_id (by omega) (by omega), Int.tdiv_eq_ediv_of_nonneg h1]
theorem irem_pos {x y : Int} (h1 : 0 ≤ x) (h2 : x < 2147483648) (h3 : 0 < y) (h4 : y < 2147483648) : irem x y = x % y := by
  unfold irem
  rw [w32_id (by omega) (by omega), w32_id (by omega) (by omega), Int.tdiv_eq_ediv_of_nonneg h1, Int.mul_comm, Int.emod_def]
section PW
variable {G : XG} {S : XS}
theorem s_Wn_share_k83 {R : Int → XI → Prop} {I0 : XI} {row : Nat} (hS : xSh S) (hrow : row + 10 ≤ 6000) : ∀ (m i : Nat) (e r : Nat → Int) (I : XI), i + m ≤ 10 → ShInv I0 I c_now_parts c_now_rests row e r → (∀ j, j < 10 → InR (r j)) → (∀ I', ShInv I0 I' c_now_parts c_now_rests row (pik e r m).1 (pik e r m).2 → R 1 I') → Wn_share_k83 G S I (row : Int) (m : Int) (i : Int) R
  | 0, i, e, r, I, him, hI, hr, h => by
    refine b_Wn_share_k83 hS ?_
    exact ⟨fun _ => h I hI, fun _ => ⟨fun _ => h I hI, fun e9 => absurd (by decide) e9⟩⟩
  | m + 1, i, e, r, I, him, hI, hr, h => by
    refine b_Wn_share_k83 hS ?_
    rw [show w32 10 = 10 from rfl, w32_nat (by omega), w32_nat (by omega)]
    refine ⟨fun e9 => absurd e9 (by omega), fun _ => ⟨fun e9 => absurd e9 (by omega), fun _ => ?_⟩⟩
    obtain ⟨p1, p2, p3, p4⟩ := hI
    refine down (n := 9) (P := fun k => Wn_share_k101 G S I (row : Int) ((m + 1 : Nat) : Int) (i : Int) (amx r k : Int) ((k + 1 : Nat) : Int) R) ?_ ?_ 0 (by omega)
    · have hb := amx_le r 9
      refine b_Wn_share_k101 hS ⟨fun _ => ⟨inb_b (by omega) (by omega) (by decide), inb_b (by omega) (by omega) (by decide), ?_⟩, fun e9 => absurd (by decide) e9⟩
      intro I3 e3
      refine ⟨inb_b (by omega) (by omega) (by decide), ?_⟩
      intro I4 e4
      rw [ix_add (by omega)] at e3
      rw [ix_nat (by omega)] at e4
      have key := s_Wn_share_k83 (R := R) (I0 := I0) hS hrow m (i + 1) (ud e (amx r 9) (e (amx r 9) + 1)) (ud r (amx r 9) (-1)) I4 (by omega) ?_ ?_ ?_
      · have e5 : (((m + 1 : Nat) : Int) + (-1)) = (m : Int) := by omega
        rw [e5]; exact key
      · subst e3; subst e4
        refine ⟨fun j hj => ?_, fun j hj => ?_, fun j hj => ?_, fun a ha1 ha2 => ?_⟩
        · rw [up_1 _ (by decide)]
          unfold ud
          by_cases ej : j = amx r 9
          · rw [if_pos ej, ej, up_s, p1 _ (by omega)]
          · rw [if_neg ej, up_2 _ (by omega)]; exact p1 j hj
        · rw [up_1 _ (by decide), up_2 _ (by omega)]; exact p2 j hj
        · unfold ud
          by_cases ej : j = amx r 9
          · rw [if_pos ej, ej, up_s]
          · rw [if_neg ej, up_2 _ ej, up_1 _ (by decide)]; exact p3 j hj
        · rw [up_row ha2, up_row ha1]; exact p4 a ha1 ha2
      · intro j hj
        unfold ud; split
        · exact ⟨by decide, by decide⟩
        · exact hr j hj
      · intro I' h'
        refine h I' ?_
        rw [pik_succ]; exact h'
    · intro k hk ih
      have hb := amx_le r k
      refine b_Wn_share_k101 hS ?_
      rw [show w32 10 = 10 from rfl, w32_nat (by omega), ix_nat (by omega), ix_nat (by omega), p3 _ (by omega), p3 _ (by omega), w32_r (hr _ (by omega)), w32_r (hr _ (by omega))]
      unfold amx at ih
      refine ⟨fun e9 => absurd e9 (by omega), fun _ => ⟨inb_b (by omega) (by omega) (by decide), inb_b (by omega) (by omega) (by decide), fun e9 => ?_, fun e9 => ?_⟩⟩
      · rw [if_neg (by omega)] at ih; exact ih
      · rw [if_pos (by omega)] at ih; exact ih
theorem s_Wn_share {R : Int → XI → Prop} {I : XI} {p all row : Int} {w : Nat → Int} {rw' : Nat} (hS : xSh S) (hrow : row = (rw' : Int)) (hrow2 : rw' + 10 ≤ 6000) (hp : 0 ≤ p ∧ p ≤ 1000000) (hw : ∀ j, j < 10 → I c_now_weights j = w j) (hw0 : ∀ j, j < 10 → 0 ≤ w j ∧ w j ≤ 1000000) (hall : all = sumA w 10) (ha : 0 < all) (hl : p - sumA (fun j => p * w j / all) 10 ≤ 10) (hl0 : 0 ≤ p - sumA (fun j => p * w j / all) 10)
    (h : ∀ I', ShInv I I' c_now_parts c_now_rests rw' (pik (fun j => I c_now_parts (rw' + j) + p * w j / all) (fun j => p * w j % all) (p - sumA (fun j => p * w j / all) 10).toNat).1 (pik (fun j => I c_now_parts (rw' + j) + p * w j / all) (fun j => p * w j % all) (p - sumA (fun j => p * w j / all) 10).toNat).2 → R 1 I') : Wn_share G S I p all row R := by
  subst hrow
  have hall2 : all ≤ 10000000 := by
    rw [hall]
    simp only [sumA]
    have h0 := hw0 0 (by decide); have h1 := hw0 1 (by decide); have h2 := hw0 2 (by decide); have h3 := hw0 3 (by decide); have h4 := hw0 4 (by decide); have h5 := hw0 5 (by decide); have h6 := hw0 6 (by decide); have h7 := hw0 7 (by decide); have h8 := hw0 8 (by decide); have h9 := hw0 9 (by decide)
    omega
  have hpw : ∀ j, j < 10 → 0 ≤ p * w j ∧ p * w j ≤ 1000000 * 1000000 := fun j hj => ⟨Int.mul_nonneg hp.1 (hw0 j hj).1, Int.mul_le_mul hp.2 (hw0 j hj).2 (hw0 j hj).1 (by decide)⟩
  refine b_Wn_share hS ?_
  rw [w32_b (z := all) (by omega) (by omega)]
  refine ⟨fun _ => ?_, fun e9 => absurd ha e9⟩
  have key := down (n := 10) (P := fun k => ∀ I1, (∀ j, j < k → I1 c_now_parts (rw' + j) = I c_now_parts (rw' + j) + p * w j / all) → (∀ j, (j < rw' ∨ rw' + k ≤ j) → I1 c_now_parts j = I c_now_parts j) → (∀ j, j < k → I1 c_now_rests j = p * w j % all) → (∀ a, a ≠ c_now_parts → a ≠ c_now_rests → I1 a = I a) → Wn_share_k12 G S I1 p all (rw' : Int) (p - sumA (fun j => p * w j / all) k) (k : Int) R) ?_ ?_ 0 (Nat.zero_le _) I (fun j hj => absurd hj (by omega)) (fun _ _ => rfl) (fun j hj => absurd hj (by omega)) (fun _ _ _ => rfl)
  · have e0 : p - sumA (fun j => p * w j / all) 0 = p := by simp [sumA]
    rw [e0] at key; exact key
  · intro I1 q1 q2 q3 q4
    refine b_Wn_share_k12 hS ⟨fun _ => ?_, fun e9 => absurd (by decide) e9⟩
    have e1 : p - sumA (fun j => p * w j / all) 10 = (((p - sumA (fun j => p * w j / all) 10).toNat : Nat) : Int) := by omega
    rw [e1]
    refine s_Wn_share_k83 (I0 := I) hS hrow2 (p - sumA (fun j => p * w j / all) 10).toNat 0 (fun j => I c_now_parts (rw' + j) + p * w j / all) (fun j => p * w j % all) I1 (by omega) ⟨q1, fun j hj => q2 j hj, q3, q4⟩ (fun j hj => ?_) h
    have := Int.emod_nonneg (p * w j) (show all ≠ 0 by omega)
    have := Int.emod_lt_of_pos (p * w j) ha
    exact ⟨by omega, by omega⟩
  · intro k hk ih I1 q1 q2 q3 q4
    refine b_Wn_share_k12 hS ?_
    have hwk : I1 c_now_weights k = w k := by rw [q4 _ (by decide) (by decide)]; exact hw k hk
    have hk0 := hpw k hk
    have hwk0 := hw0 k hk
    rw [show w32 10 = 10 from rfl, w32_nat (by omega), ix_nat (by omega), ix_add (by omega), hwk, w32_b (z := p) (by omega) (by omega), w32_b (z := w k) (by omega) (by omega), w32_b (z := all) (by omega) (by omega), ldiv_pos hk0.1 hk0.2 ha (by omega), lrem_pos hk0.1 hk0.2 ha (by omega), w64_id (z := all) (by omega) (by omega)]
    refine ⟨fun e9 => absurd e9 (by omega), fun _ => ⟨inb_b (by omega) (by omega) (by decide), by omega, by omega, inb_b (by omega) (by omega) (by decide), ?_⟩⟩
    intro I2 e2
    refine ⟨inb_b (by omega) (by omega) (by decide), inb_b (by omega) (by omega) (by decide), ?_⟩
    intro I3 e3
    have e5 : p - sumA (fun j => p * w j / all) (k + 1) = p - sumA (fun j => p * w j / all) k - p * w k / all := by simp only [sumA]; omega
    rw [← e5]
    have hold : I2 c_now_parts (rw' + k) = I c_now_parts (rw' + k) := by rw [e2, up_1 _ (by decide)]; exact q2 _ (by omega)
    rw [hold] at e3
    subst e3; subst e2
    refine ih _ (fun j hj => ?_) (fun j hj => ?_) (fun j hj => ?_) (fun a ha1 ha2 => ?_)
    · by_cases ej : j = k
      · rw [ej, up_s]
      · rw [up_2 _ (by omega), up_1 _ (by decide)]; exact q1 j (by omega)
    · rw [up_2 _ (by omega), up_1 _ (by decide)]; exact q2 j (by omega)
    · rw [up_1 _ (by decide)]
      by_cases ej : j = k
      · rw [ej, up_s]
      · rw [up_2 _ ej]; exact q3 j (by omega)
    · rw [up_row ha1, up_row ha2]; exact q4 a ha1 ha2
theorem s_Wt_share_k83 {R : Int → XI → Prop} {I0 : XI} {row : Nat} (hS : xSh S) (hrow : row + 10 ≤ 6000) : ∀ (m i : Nat) (e r : Nat → Int) (I : XI), i + m ≤ 10 → ShInv I0 I c_then_parts c_then_rests row e r → (∀ j, j < 10 → InR (r j)) → (∀ I', ShInv I0 I' c_then_parts c_then_rests row (pik e r m).1 (pik e r m).2 → R 1 I') → Wt_share_k83 G S I (row : Int) (m : Int) (i : Int) R
  | 0, i, e, r, I, him, hI, hr, h => by
    refine b_Wt_share_k83 hS ?_
    exact ⟨fun _ => h I hI, fun _ => ⟨fun _ => h I hI, fun e9 => absurd (by decide) e9⟩⟩
  | m + 1, i, e, r, I, him, hI, hr, h => by
    refine b_Wt_share_k83 hS ?_
    rw [show w32 10 = 10 from rfl, w32_nat (by omega), w32_nat (by omega)]
    refine ⟨fun e9 => absurd e9 (by omega), fun _ => ⟨fun e9 => absurd e9 (by omega), fun _ => ?_⟩⟩
    obtain ⟨p1, p2, p3, p4⟩ := hI
    refine down (n := 9) (P := fun k => Wt_share_k101 G S I (row : Int) ((m + 1 : Nat) : Int) (i : Int) (amx r k : Int) ((k + 1 : Nat) : Int) R) ?_ ?_ 0 (by omega)
    · have hb := amx_le r 9
      refine b_Wt_share_k101 hS ⟨fun _ => ⟨inb_b (by omega) (by omega) (by decide), inb_b (by omega) (by omega) (by decide), ?_⟩, fun e9 => absurd (by decide) e9⟩
      intro I3 e3
      refine ⟨inb_b (by omega) (by omega) (by decide), ?_⟩
      intro I4 e4
      rw [ix_add (by omega)] at e3
      rw [ix_nat (by omega)] at e4
      have key := s_Wt_share_k83 (R := R) (I0 := I0) hS hrow m (i + 1) (ud e (amx r 9) (e (amx r 9) + 1)) (ud r (amx r 9) (-1)) I4 (by omega) ?_ ?_ ?_
      · have e5 : (((m + 1 : Nat) : Int) + (-1)) = (m : Int) := by omega
        rw [e5]; exact key
      · subst e3; subst e4
        refine ⟨fun j hj => ?_, fun j hj => ?_, fun j hj => ?_, fun a ha1 ha2 => ?_⟩
        · rw [up_1 _ (by decide)]
          unfold ud
          by_cases ej : j = amx r 9
          · rw [if_pos ej, ej, up_s, p1 _ (by omega)]
          · rw [if_neg ej, up_2 _ (by omega)]; exact p1 j hj
        · rw [up_1 _ (by decide), up_2 _ (by omega)]; exact p2 j hj
        · unfold ud
          by_cases ej : j = amx r 9
          · rw [if_pos ej, ej, up_s]
          · rw [if_neg ej, up_2 _ ej, up_1 _ (by decide)]; exact p3 j hj
        · rw [up_row ha2, up_row ha1]; exact p4 a ha1 ha2
      · intro j hj
        unfold ud; split
        · exact ⟨by decide, by decide⟩
        · exact hr j hj
      · intro I' h'
        refine h I' ?_
        rw [pik_succ]; exact h'
    · intro k hk ih
      have hb := amx_le r k
      refine b_Wt_share_k101 hS ?_
      rw [show w32 10 = 10 from rfl, w32_nat (by omega), ix_nat (by omega), ix_nat (by omega), p3 _ (by omega), p3 _ (by omega), w32_r (hr _ (by omega)), w32_r (hr _ (by omega))]
      unfold amx at ih
      refine ⟨fun e9 => absurd e9 (by omega), fun _ => ⟨inb_b (by omega) (by omega) (by decide), inb_b (by omega) (by omega) (by decide), fun e9 => ?_, fun e9 => ?_⟩⟩
      · rw [if_neg (by omega)] at ih; exact ih
      · rw [if_pos (by omega)] at ih; exact ih
theorem s_Wt_share {R : Int → XI → Prop} {I : XI} {p all row : Int} {w : Nat → Int} {rw' : Nat} (hS : xSh S) (hrow : row = (rw' : Int)) (hrow2 : rw' + 10 ≤ 6000) (hp : 0 ≤ p ∧ p ≤ 1000000) (hw : ∀ j, j < 10 → I c_then_weights j = w j) (hw0 : ∀ j, j < 10 → 0 ≤ w j ∧ w j ≤ 1000000) (hall : all = sumA w 10) (ha : 0 < all) (hl : p - sumA (fun j => p * w j / all) 10 ≤ 10) (hl0 : 0 ≤ p - sumA (fun j => p * w j / all) 10)
    (h : ∀ I', ShInv I I' c_then_parts c_then_rests rw' (pik (fun j => I c_then_parts (rw' + j) + p * w j / all) (fun j => p * w j % all) (p - sumA (fun j => p * w j / all) 10).toNat).1 (pik (fun j => I c_then_parts (rw' + j) + p * w j / all) (fun j => p * w j % all) (p - sumA (fun j => p * w j / all) 10).toNat).2 → R 1 I') : Wt_share G S I p all row R := by
  subst hrow
  have hall2 : all ≤ 10000000 := by
    rw [hall]
    simp only [sumA]
    have h0 := hw0 0 (by decide); have h1 := hw0 1 (by decide); have h2 := hw0 2 (by decide); have h3 := hw0 3 (by decide); have h4 := hw0 4 (by decide); have h5 := hw0 5 (by decide); have h6 := hw0 6 (by decide); have h7 := hw0 7 (by decide); have h8 := hw0 8 (by decide); have h9 := hw0 9 (by decide)
    omega
  have hpw : ∀ j, j < 10 → 0 ≤ p * w j ∧ p * w j ≤ 1000000 * 1000000 := fun j hj => ⟨Int.mul_nonneg hp.1 (hw0 j hj).1, Int.mul_le_mul hp.2 (hw0 j hj).2 (hw0 j hj).1 (by decide)⟩
  refine b_Wt_share hS ?_
  rw [w32_b (z := all) (by omega) (by omega)]
  refine ⟨fun _ => ?_, fun e9 => absurd ha e9⟩
  have key := down (n := 10) (P := fun k => ∀ I1, (∀ j, j < k → I1 c_then_parts (rw' + j) = I c_then_parts (rw' + j) + p * w j / all) → (∀ j, (j < rw' ∨ rw' + k ≤ j) → I1 c_then_parts j = I c_then_parts j) → (∀ j, j < k → I1 c_then_rests j = p * w j % all) → (∀ a, a ≠ c_then_parts → a ≠ c_then_rests → I1 a = I a) → Wt_share_k12 G S I1 p all (rw' : Int) (p - sumA (fun j => p * w j / all) k) (k : Int) R) ?_ ?_ 0 (Nat.zero_le _) I (fun j hj => absurd hj (by omega)) (fun _ _ => rfl) (fun j hj => absurd hj (by omega)) (fun _ _ _ => rfl)
  · have e0 : p - sumA (fun j => p * w j / all) 0 = p := by simp [sumA]
    rw [e0] at key; exact key
  · intro I1 q1 q2 q3 q4
    refine b_Wt_share_k12 hS ⟨fun _ => ?_, fun e9 => absurd (by decide) e9⟩
    have e1 : p - sumA (fun j => p * w j / all) 10 = (((p - sumA (fun j => p * w j / all) 10).toNat : Nat) : Int) := by omega
    rw [e1]
    refine s_Wt_share_k83 (I0 := I) hS hrow2 (p - sumA (fun j => p * w j / all) 10).toNat 0 (fun j => I c_then_parts (rw' + j) + p * w j / all) (fun j => p * w j % all) I1 (by omega) ⟨q1, fun j hj => q2 j hj, q3, q4⟩ (fun j hj => ?_) h
    have := Int.emod_nonneg (p * w j) (show all ≠ 0 by omega)
    have := Int.emod_lt_of_pos (p * w j) ha
    exact ⟨by omega, by omega⟩
  · intro k hk ih I1 q1 q2 q3 q4
    refine b_Wt_share_k12 hS ?_
    have hwk : I1 c_then_weights k = w k := by rw [q4 _ (by decide) (by decide)]; exact hw k hk
    have hk0 := hpw k hk
    have hwk0 := hw0 k hk
    rw [show w32 10 = 10 from rfl, w32_nat (by omega), ix_nat (by omega), ix_add (by omega), hwk, w32_b (z := p) (by omega) (by omega), w32_b (z := w k) (by omega) (by omega), w32_b (z := all) (by omega) (by omega), ldiv_pos hk0.1 hk0.2 ha (by omega), lrem_pos hk0.1 hk0.2 ha (by omega), w64_id (z := all) (by omega) (by omega)]
    refine ⟨fun e9 => absurd e9 (by omega), fun _ => ⟨inb_b (by omega) (by omega) (by decide), by omega, by omega, inb_b (by omega) (by omega) (by decide), ?_⟩⟩
    intro I2 e2
    refine ⟨inb_b (by omega) (by omega) (by decide), inb_b (by omega) (by omega) (by decide), ?_⟩
    intro I3 e3
    have e5 : p - sumA (fun j => p * w j / all) (k + 1) = p - sumA (fun j => p * w j / all) k - p * w k / all := by simp only [sumA]; omega
    rw [← e5]
    have hold : I2 c_then_parts (rw' + k) = I c_then_parts (rw' + k) := by rw [e2, up_1 _ (by decide)]; exact q2 _ (by omega)
    rw [hold] at e3
    subst e3; subst e2
    refine ih _ (fun j hj => ?_) (fun j hj => ?_) (fun j hj => ?_) (fun a ha1 ha2 => ?_)
    · by_cases ej : j = k
      · rw [ej, up_s]
      · rw [up_2 _ (by omega), up_1 _ (by decide)]; exact q1 j (by omega)
    · rw [up_2 _ (by omega), up_1 _ (by decide)]; exact q2 j (by omega)
    · rw [up_1 _ (by decide)]
      by_cases ej : j = k
      · rw [ej, up_s]
      · rw [up_2 _ ej]; exact q3 j (by omega)
    · rw [up_row ha1, up_row ha2]; exact q4 a ha1 ha2
end PW
