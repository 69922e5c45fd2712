/-! ===== the class: PARTS from WEEK to WEEK ===== -/
/-- what the NEWS of a CAMP in a WEEK, told up to lm, make of a row: the first k of them -/
def nwS (NC NL NW NS NT : Nat → Int) (cp wk lm : Int) (p : Nat → Int) : Nat → Nat → Int
  | 0 => p
  | k + 1 => if NC k = cp ∧ NW k = wk ∧ NT k ≤ lm then (heS (nwS NC NL NW NS NT cp wk lm p k) (NL k).toNat (NS k)).1 else nwS NC NL NW NS NT cp wk lm p k
theorem sumA_ud0 (c : Nat) (hc : c < 10) (v : Int) : sumA (ud (fun _ => 0) c v) 10 = v := by
  rw [sumA_ud, if_pos hc, sumA_0 (fun _ _ => rfl)]; omega
theorem heS_ok {p : Nat → Int} {c : Nat} {s : Int} (hc : c < 10) (h : rowOk p) : rowOk (heS p c s).1 := by
  unfold heS
  split
  · split
    · exact h
    · refine ⟨fun j hj => ?_, sumA_ud0 c hc _⟩
      show 0 ≤ ud (fun _ => 0) c 1000000 j
      unfold ud; split
      · decide
      · exact Int.le_refl _
  · split
    · exact h
    · rename_i hne
      have hl := h.le hc
      have hsum : 1000000 - p c = sumA (ud p c 0) 10 := by rw [sumA_ud, if_pos hc, h.2]; omega
      have hw : ∀ j, j < 10 → 0 ≤ ud p c 0 j := fun j hj => by
        have := h.1 j hj
        unfold ud; split <;> omega
      refine ⟨fun j hj => ?_, ?_⟩
      · exact shareRow_ge (e := fun _ => 0) (by decide) (by omega) (hw j hj)
      · show sumA (shareRow (fun _ => 0) 1000000 (ud p c 0) (1000000 - p c)) 10 = 1000000
        rw [shareRow_sum (by decide) hw hsum (by omega), sumA_0 (fun _ _ => rfl)]
        omega
theorem nwS_ok {NC NL NW NS NT : Nat → Int} {cp wk lm : Int} {p : Nat → Int} (h : rowOk p) : ∀ k, (∀ j, j < k → 0 ≤ NL j ∧ NL j < 10) → rowOk (nwS NC NL NW NS NT cp wk lm p k)
  | 0, _ => h
  | k + 1, hl => by
    have ih := nwS_ok (NC := NC) (NW := NW) (NS := NS) (NT := NT) (cp := cp) (wk := wk) (lm := lm) h k (fun j hj => hl j (by omega))
    have := hl k (by omega)
    unfold nwS
    split
    · exact heS_ok (by omega) ih
    · exact ih
/-- shifting the row's ground: PARTS that go keep their sum -/
theorem mvS_ok {Wy g p : Nat → Int} (hp : ∀ j, j < 10 → 0 ≤ p j) (hg : ∀ j, j < 10 → 0 ≤ g j) : ∀ c, c ≤ 10 → (∀ j, j < 10 → 0 ≤ mvS Wy g p c j) ∧ sumA (mvS Wy g p c) 10 = sumA p c
  | 0, _ => ⟨fun j _ => Int.le_refl _, by show sumA (mvS Wy g p 0) 10 = 0; exact sumA_0 (fun _ _ => rfl)⟩
  | c + 1, hc => by
    obtain ⟨i1, i2⟩ := mvS_ok (Wy := Wy) hp hg c (by omega)
    have hpc := hp c (by omega)
    have hw : ∀ j, j < 10 → 0 ≤ wvS Wy g c j := fun j hj => by
      have := hg j hj
      unfold wvS; split <;> omega
    have e2 : sumA p (c + 1) = sumA p c + p c := rfl
    by_cases h0 : 0 < p c
    · by_cases ha : 0 < sumA (wvS Wy g c) 10
      · have ef : mvS Wy g p (c + 1) = shareRow (mvS Wy g p c) (p c) (wvS Wy g c) (sumA (wvS Wy g c) 10) := by funext j; rw [mvS, if_pos h0, if_pos ha]
        rw [ef]
        refine ⟨fun j hj => Int.le_trans (i1 j hj) (shareRow_ge hpc ha (hw j hj)), ?_⟩
        rw [shareRow_sum hpc hw rfl ha, i2, e2]
      · have ef : mvS Wy g p (c + 1) = ud (mvS Wy g p c) c (mvS Wy g p c c + p c) := by funext j; rw [mvS, if_pos h0, if_neg ha]
        rw [ef]
        have hcc := i1 c (by omega)
        refine ⟨fun j hj => ?_, ?_⟩
        · have := i1 j hj
          unfold ud; split <;> omega
        · rw [sumA_ud, if_pos (by omega), i2, e2]; omega
    · have ef : mvS Wy g p (c + 1) = mvS Wy g p c := by funext j; rw [mvS, if_neg h0]
      rw [ef, i2, e2]
      exact ⟨i1, by omega⟩
section PW
variable {G : XG} {S : XS}
theorem s_Wn_move {I : XI} {rw' nc ng : Nat} {row wk : Int} {p : Nat → Int} {R : XI → Prop} (hS : xSh S) (hrow : row = (rw' : Int)) (hr1 : 10 ≤ rw') (hrow2 : rw' + 10 ≤ 6000) (hnc : I c_land 0 = (nc : Int)) (hnc2 : nc ≤ 10) (hp : ∀ j, j < 10 → I c_now_parts (rw' - 10 + j) = p j) (hp0 : ∀ j, j < 10 → 0 ≤ p j ∧ p j ≤ 1000000) (hz : ∀ j, j < 10 → I c_now_parts (rw' + j) = 0) (hy : ∀ j, j < 100 → InR (I c_land_ways j))
    (hng : I c_land 3 = (ng : Int)) (hng2 : ng ≤ 60) (hgc : ∀ j, j < ng → 0 ≤ I c_land_grassCells j ∧ I c_land_grassCells j < 10) (hgw : ∀ j, j < ng → 0 ≤ I c_land_grassWeeks j ∧ I c_land_grassWeeks j ≤ 99) (hgt : ∀ j, j < ng → InR (I c_land_grassTold j)) (hgi : ∀ j, j < ng → 0 ≤ I c_land_grassNumbers j ∧ I c_land_grassNumbers j ≤ 99) (h3 : InR wk) (h4 : InR (I c_now 6))
    (h : ∀ I', (∀ j, j < 10 → I' c_now_parts (rw' + j) = mvS (I c_land_ways) (grS (I c_land_grassCells) (I c_land_grassWeeks) (I c_land_grassNumbers) (I c_land_grassTold) wk (I c_now 6) ng) p nc j) → (∀ j, (j < rw' ∨ rw' + 10 ≤ j) → I' c_now_parts j = I c_now_parts j) → (∀ a, a ≠ c_now_parts → a ≠ c_now_rests → a ≠ c_now_weights → a ≠ c_now_grass → I' a = I a) → R I') : Wn_move G S I row wk R := by
  subst hrow
  have hg0 : ∀ c, c < 10 → 0 ≤ grS (I c_land_grassCells) (I c_land_grassWeeks) (I c_land_grassNumbers) (I c_land_grassTold) wk (I c_now 6) ng c ∧ grS (I c_land_grassCells) (I c_land_grassWeeks) (I c_land_grassNumbers) (I c_land_grassTold) wk (I c_now 6) ng c ≤ 99 := by
    intro c hc
    have hin := lastA_in (B := I c_land_grassCells) (K := fun _ => 0) (W := I c_land_grassWeeks) (T := I c_land_grassTold) (bk := c) (lk := 0) (wk := wk) (lm := I c_now 6) ng
    unfold grS; split
    · omega
    · exact hgi _ (by omega)
  generalize hgd : grS (I c_land_grassCells) (I c_land_grassWeeks) (I c_land_grassNumbers) (I c_land_grassTold) wk (I c_now 6) ng = g at h hg0
  refine b_Wn_move hS (s_La_grassOfWeek hS hng hng2 hgc hgw hgt h3 h4 (fun Ig g1 g2 => ?_))
  rw [hgd] at g1
  refine down (n := nc) (P := fun k => ∀ I1 : XI, (∀ j, j < 10 → I1 c_now_parts (rw' + j) = mvS (I c_land_ways) g p k j) → (∀ j, (j < rw' ∨ rw' + 10 ≤ j) → I1 c_now_parts j = I c_now_parts j) → (∀ j, j < 10 → I1 c_now_grass j = g j) → (∀ a, a ≠ c_now_parts → a ≠ c_now_rests → a ≠ c_now_weights → a ≠ c_now_grass → I1 a = I a) → Wn_move_k20 G S I1 (rw' : Int) (k : Int) R) ?_ ?_ 0 (Nat.zero_le _) Ig (fun j hj => ?_) (fun j hj => ?_) g1 (fun a a1 a2 _ a4 => g2 a a4 a2)
  · intro I1 q1 q2 q3 q4
    refine b_Wn_move_k20 hS ⟨fun _ => h I1 q1 q2 q4, fun e => absurd (Int.le_refl _) (by rw [q4 _ (by decide) (by decide) (by decide) (by decide), hnc] at e; exact e)⟩
  · intro k hk ih I1 q1 q2 q3 q4
    have hpk := hp0 k (by omega)
    have ek : ((rw' : Int) - 10) + (k : Int) = ((rw' - 10 + k : Nat) : Int) := by omega
    have er : I1 c_now_parts (rw' - 10 + k) = p k := by rw [q2 _ (by omega)]; exact hp k (by omega)
    refine b_Wn_move_k20 hS ?_
    rw [q4 c_land (by decide) (by decide) (by decide) (by decide), hnc, ek, ix_nat (by omega), er, w32_nat (by omega), w32_nat (by omega), w32_b (z := p k) (by omega) (by omega)]
    refine ⟨fun e => absurd e (by omega), fun _ => ⟨inb_b (by omega) (by omega) (by decide), fun e => ?_, fun e => ?_⟩⟩
    · refine ih I1 (fun j hj => ?_) q2 q3 q4
      rw [mvS, if_neg (by omega)]; exact q1 j hj
    · refine s_Wn_weighGrass hS rfl (by omega) (fun j hj => by rw [q4 c_land_ways (by decide) (by decide) (by decide) (by decide)]; exact hy j hj) (fun I2 w1 w2 => ?_)
      rw [q4 c_land_ways (by decide) (by decide) (by decide) (by decide)] at w1 ⊢
      have hwv : ∀ j, j < 10 → wvS (I c_land_ways) (I1 c_now_grass) k j = wvS (I c_land_ways) g k j := fun j hj => by unfold wvS; rw [q3 j hj]
      have hsm : sumA (wvS (I c_land_ways) (I1 c_now_grass) k) 10 = sumA (wvS (I c_land_ways) g k) 10 := sumA_congr hwv
      rw [hsm]
      have hw0 : ∀ j, j < 10 → 0 ≤ wvS (I c_land_ways) g k j ∧ wvS (I c_land_ways) g k j ≤ 1000000 := fun j hj => by
        have := hg0 j hj
        unfold wvS; split <;> omega
      have p2 : I2 c_now_parts = I1 c_now_parts := w2 _ (by decide)
      by_cases ha : 0 < sumA (wvS (I c_land_ways) g k) 10
      · obtain ⟨l0, l1, -⟩ := sh_left (p := p k) hpk.1 (fun j hj => (hw0 j hj).1) rfl ha
        refine s_Wn_share (w := wvS (I c_land_ways) g k) hS rfl hrow2 hpk (fun j hj => (w1 j hj).trans (hwv j hj)) hw0 rfl ha l1 l0 (fun I' h' => br1 ?_)
        refine ih I' (fun j hj => ?_) (fun j hj => ?_) (fun j hj => ?_) (fun a a1 a2 a3 a4 => ?_)
        · rw [h'.1 j hj, mvS, if_pos (by omega), if_pos ha]
          unfold shareRow
          exact pik_cong10 (fun i hi => by show I2 c_now_parts (rw' + i) + _ = _ + _; rw [p2, q1 i hi]) _ j hj
        · rw [h'.2.1 j hj, p2]; exact q2 j hj
        · rw [h'.2.2.2 _ (by decide) (by decide), w2 _ (by decide)]; exact q3 j hj
        · rw [h'.2.2.2 a a1 a2, w2 a a3]; exact q4 a a1 a2 a3 a4
      · have hnn := sumA_nn (f := wvS (I c_land_ways) g k) (n := 10) (fun j hj => (hw0 j hj).1)
        refine b_Wn_share hS ⟨fun e9 => absurd e9 ?_, fun _ => br0 ⟨inb_b (by omega) (by omega) (by decide), inb_b (by omega) (by omega) (by decide), fun I6 e6 => ?_⟩⟩
        · rw [w32_b (by omega) (by omega)]; exact ha
        · rw [ix_add (by omega), p2, q1 k (by omega)] at e6
          subst e6
          refine ih _ (fun j hj => ?_) (fun j hj => ?_) (fun j hj => ?_) (fun a a1 a2 a3 a4 => ?_)
          · rw [mvS, if_pos (by omega), if_neg ha]
            unfold ud
            by_cases ej : j = k
            · rw [if_pos ej, ej, up_s]
            · rw [if_neg ej, up_2 _ (by omega), p2]; exact q1 j hj
          · rw [up_2 _ (by omega), p2]; exact q2 j hj
          · rw [up_1 _ (by decide), w2 _ (by decide)]; exact q3 j hj
          · rw [up_row a1, w2 a a3]; exact q4 a a1 a2 a3 a4
  · rw [g2 _ (by decide) (by decide)]; exact hz j hj
  · rw [g2 _ (by decide) (by decide)]
theorem s_Wt_move {I : XI} {rw' nc ng : Nat} {row wk : Int} {p : Nat → Int} {R : XI → Prop} (hS : xSh S) (hrow : row = (rw' : Int)) (hr1 : 10 ≤ rw') (hrow2 : rw' + 10 ≤ 6000) (hnc : I c_land 0 = (nc : Int)) (hnc2 : nc ≤ 10) (hp : ∀ j, j < 10 → I c_then_parts (rw' - 10 + j) = p j) (hp0 : ∀ j, j < 10 → 0 ≤ p j ∧ p j ≤ 1000000) (hz : ∀ j, j < 10 → I c_then_parts (rw' + j) = 0) (hy : ∀ j, j < 100 → InR (I c_land_ways j))
    (hng : I c_land 3 = (ng : Int)) (hng2 : ng ≤ 60) (hgc : ∀ j, j < ng → 0 ≤ I c_land_grassCells j ∧ I c_land_grassCells j < 10) (hgw : ∀ j, j < ng → 0 ≤ I c_land_grassWeeks j ∧ I c_land_grassWeeks j ≤ 99) (hgt : ∀ j, j < ng → InR (I c_land_grassTold j)) (hgi : ∀ j, j < ng → 0 ≤ I c_land_grassNumbers j ∧ I c_land_grassNumbers j ≤ 99) (h3 : InR wk) (h4 : InR (I c_then 6))
    (h : ∀ I', (∀ j, j < 10 → I' c_then_parts (rw' + j) = mvS (I c_land_ways) (grS (I c_land_grassCells) (I c_land_grassWeeks) (I c_land_grassNumbers) (I c_land_grassTold) wk (I c_then 6) ng) p nc j) → (∀ j, (j < rw' ∨ rw' + 10 ≤ j) → I' c_then_parts j = I c_then_parts j) → (∀ a, a ≠ c_then_parts → a ≠ c_then_rests → a ≠ c_then_weights → a ≠ c_then_grass → I' a = I a) → R I') : Wt_move G S I row wk R := by
  subst hrow
  have hg0 : ∀ c, c < 10 → 0 ≤ grS (I c_land_grassCells) (I c_land_grassWeeks) (I c_land_grassNumbers) (I c_land_grassTold) wk (I c_then 6) ng c ∧ grS (I c_land_grassCells) (I c_land_grassWeeks) (I c_land_grassNumbers) (I c_land_grassTold) wk (I c_then 6) ng c ≤ 99 := by
    intro c hc
    have hin := lastA_in (B := I c_land_grassCells) (K := fun _ => 0) (W := I c_land_grassWeeks) (T := I c_land_grassTold) (bk := c) (lk := 0) (wk := wk) (lm := I c_then 6) ng
    unfold grS; split
    · omega
    · exact hgi _ (by omega)
  generalize hgd : grS (I c_land_grassCells) (I c_land_grassWeeks) (I c_land_grassNumbers) (I c_land_grassTold) wk (I c_then 6) ng = g at h hg0
  refine b_Wt_move hS (s_La_grassOfWeek2 hS hng hng2 hgc hgw hgt h3 h4 (fun Ig g1 g2 => ?_))
  rw [hgd] at g1
  refine down (n := nc) (P := fun k => ∀ I1 : XI, (∀ j, j < 10 → I1 c_then_parts (rw' + j) = mvS (I c_land_ways) g p k j) → (∀ j, (j < rw' ∨ rw' + 10 ≤ j) → I1 c_then_parts j = I c_then_parts j) → (∀ j, j < 10 → I1 c_then_grass j = g j) → (∀ a, a ≠ c_then_parts → a ≠ c_then_rests → a ≠ c_then_weights → a ≠ c_then_grass → I1 a = I a) → Wt_move_k20 G S I1 (rw' : Int) (k : Int) R) ?_ ?_ 0 (Nat.zero_le _) Ig (fun j hj => ?_) (fun j hj => ?_) g1 (fun a a1 a2 _ a4 => g2 a a4 a2)
  · intro I1 q1 q2 q3 q4
    refine b_Wt_move_k20 hS ⟨fun _ => h I1 q1 q2 q4, fun e => absurd (Int.le_refl _) (by rw [q4 _ (by decide) (by decide) (by decide) (by decide), hnc] at e; exact e)⟩
  · intro k hk ih I1 q1 q2 q3 q4
    have hpk := hp0 k (by omega)
    have ek : ((rw' : Int) - 10) + (k : Int) = ((rw' - 10 + k : Nat) : Int) := by omega
    have er : I1 c_then_parts (rw' - 10 + k) = p k := by rw [q2 _ (by omega)]; exact hp k (by omega)
    refine b_Wt_move_k20 hS ?_
    rw [q4 c_land (by decide) (by decide) (by decide) (by decide), hnc, ek, ix_nat (by omega), er, w32_nat (by omega), w32_nat (by omega), w32_b (z := p k) (by omega) (by omega)]
    refine ⟨fun e => absurd e (by omega), fun _ => ⟨inb_b (by omega) (by omega) (by decide), fun e => ?_, fun e => ?_⟩⟩
    · refine ih I1 (fun j hj => ?_) q2 q3 q4
      rw [mvS, if_neg (by omega)]; exact q1 j hj
    · refine s_Wt_weighGrass hS rfl (by omega) (fun j hj => by rw [q4 c_land_ways (by decide) (by decide) (by decide) (by decide)]; exact hy j hj) (fun I2 w1 w2 => ?_)
      rw [q4 c_land_ways (by decide) (by decide) (by decide) (by decide)] at w1 ⊢
      have hwv : ∀ j, j < 10 → wvS (I c_land_ways) (I1 c_then_grass) k j = wvS (I c_land_ways) g k j := fun j hj => by unfold wvS; rw [q3 j hj]
      have hsm : sumA (wvS (I c_land_ways) (I1 c_then_grass) k) 10 = sumA (wvS (I c_land_ways) g k) 10 := sumA_congr hwv
      rw [hsm]
      have hw0 : ∀ j, j < 10 → 0 ≤ wvS (I c_land_ways) g k j ∧ wvS (I c_land_ways) g k j ≤ 1000000 := fun j hj => by
        have := hg0 j hj
        unfold wvS; split <;> omega
      have p2 : I2 c_then_parts = I1 c_then_parts := w2 _ (by decide)
      by_cases ha : 0 < sumA (wvS (I c_land_ways) g k) 10
      · obtain ⟨l0, l1, -⟩ := sh_left (p := p k) hpk.1 (fun j hj => (hw0 j hj).1) rfl ha
        refine s_Wt_share (w := wvS (I c_land_ways) g k) hS rfl hrow2 hpk (fun j hj => (w1 j hj).trans (hwv j hj)) hw0 rfl ha l1 l0 (fun I' h' => br1 ?_)
        refine ih I' (fun j hj => ?_) (fun j hj => ?_) (fun j hj => ?_) (fun a a1 a2 a3 a4 => ?_)
        · rw [h'.1 j hj, mvS, if_pos (by omega), if_pos ha]
          unfold shareRow
          exact pik_cong10 (fun i hi => by show I2 c_then_parts (rw' + i) + _ = _ + _; rw [p2, q1 i hi]) _ j hj
        · rw [h'.2.1 j hj, p2]; exact q2 j hj
        · rw [h'.2.2.2 _ (by decide) (by decide), w2 _ (by decide)]; exact q3 j hj
        · rw [h'.2.2.2 a a1 a2, w2 a a3]; exact q4 a a1 a2 a3 a4
      · have hnn := sumA_nn (f := wvS (I c_land_ways) g k) (n := 10) (fun j hj => (hw0 j hj).1)
        refine b_Wt_share hS ⟨fun e9 => absurd e9 ?_, fun _ => br0 ⟨inb_b (by omega) (by omega) (by decide), inb_b (by omega) (by omega) (by decide), fun I6 e6 => ?_⟩⟩
        · rw [w32_b (by omega) (by omega)]; exact ha
        · rw [ix_add (by omega), p2, q1 k (by omega)] at e6
          subst e6
          refine ih _ (fun j hj => ?_) (fun j hj => ?_) (fun j hj => ?_) (fun a a1 a2 a3 a4 => ?_)
          · rw [mvS, if_pos (by omega), if_neg ha]
            unfold ud
            by_cases ej : j = k
            · rw [if_pos ej, ej, up_s]
            · rw [if_neg ej, up_2 _ (by omega), p2]; exact q1 j hj
          · rw [up_2 _ (by omega), p2]; exact q2 j hj
          · rw [up_1 _ (by decide), w2 _ (by decide)]; exact q3 j hj
          · rw [up_row a1, w2 a a3]; exact q4 a a1 a2 a3 a4
  · rw [g2 _ (by decide) (by decide)]; exact hz j hj
  · rw [g2 _ (by decide) (by decide)]
end PW
