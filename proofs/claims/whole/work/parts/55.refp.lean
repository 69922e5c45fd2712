/-! ===== the reference: PARTS ===== -/
/-- the reference's rows that PARTS are worked out of, as far as they are told -/
def XR (I : XI) (X : Nat → Nat → Int) (ng nn : Nat) : Prop := (∀ j, j < 100 → I r_ways j = X 0 j) ∧ (∀ j, j < ng → I r_grassCell j = X 1 j ∧ I r_grassWeek j = X 2 j ∧ I r_grassIs j = X 3 j ∧ I r_grassTold j = X 4 j) ∧ (∀ j, j < nn → I r_newsCamp j = X 5 j ∧ I r_newsCell j = X 6 j ∧ I r_newsWeek j = X 7 j ∧ I r_newsSeen j = X 8 j ∧ I r_newsTold j = X 9 j) ∧ ∀ j, j < nn → X 8 j = 0 ∨ X 8 j = 1
theorem llcmp_le {x y : Int} (hx : InR x) (hy : InR y) : w32 (llcmp x y) ≤ 0 ↔ x ≤ y := by
  have h1 := hx.1
  have h2 := hx.2
  have h3 := hy.1
  have h4 := hy.2
  unfold llcmp
  rw [w64_id (z := x) (by omega) (by omega), w64_id (z := y) (by omega) (by omega)]
  by_cases c1 : x < y
  · rw [if_pos c1]; exact ⟨fun _ => by omega, fun _ => by decide⟩
  · rw [if_neg c1]
    by_cases c2 : x = y
    · rw [if_pos c2]; exact ⟨fun _ => by omega, fun _ => by decide⟩
    · rw [if_neg c2]; exact ⟨fun e => absurd e (by decide), fun e => by omega⟩
theorem shareRow_0 {e w : Nat → Int} {s : Int} (j : Nat) : shareRow e 0 w s j = e j := by
  unfold shareRow
  have h0 : sumA (fun j => 0 * w j / s) 10 = 0 := sumA_0 (fun j _ => by simp)
  rw [h0]
  show e j + 0 * w j / s = e j
  simp
section PR
variable {G : XG} {S : XS}
theorem s_R_grassOf {I : XI} {c ng : Nat} {cv wk lm : Int} {X : Nat → Nat → Int} {R : Int → XI → Prop} (hS : xSh S) (hc : cv = (c : Int)) (hc2 : c < 10) (hng : I r_grasses 0 = (ng : Int)) (hn2 : ng ≤ 60) (hx : ∀ j, j < ng → I r_grassCell j = X 1 j ∧ I r_grassWeek j = X 2 j ∧ I r_grassIs j = X 3 j ∧ I r_grassTold j = X 4 j) (h1 : ∀ j, j < ng → 0 ≤ X 1 j ∧ X 1 j < 10) (h2 : ∀ j, j < ng → 0 ≤ X 2 j ∧ X 2 j ≤ 99) (h4 : ∀ j, j < ng → InR (X 4 j)) (hw : InR wk) (hl : InR lm)
    (h : R (grS (X 1) (X 2) (X 3) (X 4) wk lm ng c) I) : R_grassOf G S I cv wk lm R := by
  subst hc
  refine b_R_grassOf hS ?_
  refine down (n := ng) (P := fun k => R_grassOf_k6 G S I (c : Int) wk lm (lastA (X 1) (fun _ => 0) (X 2) (X 4) c 0 wk lm k).1 (k : Int) R) ?_ ?_ 0 (Nat.zero_le _)
  · refine b_R_grassOf_k6 hS ⟨fun _ => ?_, fun e => absurd (Int.le_refl _) (by rw [hng] at e; exact e)⟩
    unfold grS at h
    have hin := lastA_in (B := X 1) (K := fun _ => 0) (W := X 2) (T := X 4) (bk := c) (lk := 0) (wk := wk) (lm := lm) ng
    generalize (lastA (X 1) (fun _ => 0) (X 2) (X 4) c 0 wk lm ng).1 = z at h hin ⊢
    rw [w32_b (z := z) (by omega) (by omega), show w32 (-1) = -1 from rfl]
    refine ⟨fun e => by rw [if_pos e] at h; exact h, fun e => ⟨inb_b (by omega) (by omega) (by decide), ?_⟩⟩
    rw [if_neg e] at h
    rw [ix_b (by omega) (by omega), (hx z.toNat (by omega)).2.2.1]; exact h
  · intro k hk ih
    obtain ⟨x1, x2, -, x4⟩ := hx k hk
    have a1 := h1 k hk
    have a2 := h2 k hk
    have a4 := h4 k hk
    have hin := lastA_in (B := X 1) (K := fun _ => 0) (W := X 2) (T := X 4) (bk := c) (lk := 0) (wk := wk) (lm := lm) k
    have hwk := lastA_wk (B := X 1) (K := fun _ => 0) (W := X 2) (T := X 4) (bk := c) (lk := 0) (wk := wk) (lm := lm) k
    have ht : (X 1 k = c ∧ X 4 k ≤ lm ∧ X 2 k ≤ wk ∧ (lastA (X 1) (fun _ => 0) (X 2) (X 4) c 0 wk lm k).2 ≤ X 2 k) → lastA (X 1) (fun _ => 0) (X 2) (X 4) c 0 wk lm (k + 1) = ((k : Int), X 2 k) := fun q => by rw [lastA, if_pos ⟨q.1, Int.le_refl _, q.2.1, q.2.2.1, q.2.2.2⟩]
    have hf : ¬ (X 1 k = c ∧ X 4 k ≤ lm ∧ X 2 k ≤ wk ∧ (lastA (X 1) (fun _ => 0) (X 2) (X 4) c 0 wk lm k).2 ≤ X 2 k) → lastA (X 1) (fun _ => 0) (X 2) (X 4) c 0 wk lm (k + 1) = lastA (X 1) (fun _ => 0) (X 2) (X 4) c 0 wk lm k := fun q => by rw [lastA, if_neg (fun z => q ⟨z.1, z.2.2.1, z.2.2.2.1, z.2.2.2.2⟩)]
    generalize lastA (X 1) (fun _ => 0) (X 2) (X 4) c 0 wk lm (k + 1) = z' at ih ht hf
    generalize lastA (X 1) (fun _ => 0) (X 2) (X 4) c 0 wk lm k = z at hin hwk ht hf ⊢
    have yes : X 1 k = c ∧ X 4 k ≤ lm ∧ X 2 k ≤ wk ∧ z.2 ≤ X 2 k → R_grassOf_k6 G S I (c : Int) wk lm (k : Int) ((k : Int) + 1) R := fun q => by rw [ht q] at ih; exact ih
    have no : ¬ (X 1 k = c ∧ X 4 k ≤ lm ∧ X 2 k ≤ wk ∧ z.2 ≤ X 2 k) → R_grassOf_k6 G S I (c : Int) wk lm z.1 ((k : Int) + 1) R := fun q => by rw [hf q] at ih; exact ih
    refine b_R_grassOf_k6 hS ?_
    rw [hng, w32_nat (k := ng) (by omega), w32_nat (k := k) (by omega), ix_nat (k := k) (by omega), x1, x2, x4, w32_b (z := X 1 k) (by omega) (by omega), w32_nat (k := c) (by omega), w32_b (z := X 2 k) (by omega) (by omega), w32_r a4, w32_r hw, w32_r hl, w32_b (z := z.1) (by omega) (by omega), show w32 (-1) = -1 from rfl]
    by_cases hz1 : z.1 = -1
    · rw [if_pos hz1] at hwk
      repeat' (with_reducible first | apply And.intro | intro _)
      all_goals first | omega | exact inb_b (by omega) (by omega) (by omega) | exact yes (by omega) | exact no (by omega)
    · rw [if_neg hz1] at hwk
      have a5 := h2 z.1.toNat (by omega)
      rw [ix_b (z := z.1) (by omega) (by omega), (hx z.1.toNat (by omega)).2.1, w32_b (z := X 2 z.1.toNat) (by omega) (by omega)]
      repeat' (with_reducible first | apply And.intro | intro _)
      all_goals first | omega | exact inb_b (by omega) (by omega) (by omega) | exact yes (by omega) | exact no (by omega)
theorem s_R_share_k {nc : Nat} {R : XI → Prop} (hS : xSh S) (hnc1 : 1 ≤ nc) (hnc2 : nc ≤ 10) : ∀ (m k : Nat) (e r : Nat → Int) (I : XI), k + m ≤ 1000 → I r_cells 0 = (nc : Int) → (∀ j, j < 10 → I r_next j = e j) → (∀ j, j < nc → InR (I r_rest j) ∧ (I r_rest j = r j ∨ (I r_rest j ≤ 0 ∧ r j ≤ 0))) → (∀ j, nc ≤ j → j < 10 → r j ≤ 0) → (∀ i, i < m → 0 < (pik e r i).2 (amx (pik e r i).2 9)) → (∀ I', (∀ j, j < 10 → I' r_next j = (pik e r m).1 j) → (∀ a, a ≠ r_next → a ≠ r_rest → I' a = I a) → R I') → R_share_k2 G S I ((k + m : Nat) : Int) (k : Int) R
  | 0, k, e, r, I, _, _, hn, _, _, _, h => b_R_share_k2 hS ⟨fun _ => h I hn (fun _ _ _ => rfl), fun e9 => absurd (Int.le_refl _) e9⟩
  | m + 1, k, e, r, I, hkm, hnc, hn, hq, h0, hp, h => by
    refine b_R_share_k2 hS ⟨fun e9 => absurd e9 (by rw [w32_nat (by omega), w32_nat (by omega)]; omega), fun _ => ?_⟩
    have hp0 : 0 < r (amx r 9) := hp 0 (by omega)
    have hb : amx (I r_rest) (nc - 1) = amx r 9 := amx_same (by omega) (fun j hj => by have := (hq j (by omega)).2; omega) (fun j h1 h2 => h0 j (by omega) (by omega)) hp0
    have hb9 := amx_le r 9
    refine down (n := nc - 1) (P := fun j => R_share_k12 G S I ((k + (m + 1) : Nat) : Int) (k : Int) (amx (I r_rest) j : Int) ((j : Int) + 1) R) ?_ ?_ 0 (Nat.zero_le _)
    · rw [hb]
      refine b_R_share_k12 hS ⟨fun _ => ⟨inb_b (by omega) (by omega) (by decide), inb_b (by omega) (by omega) (by decide), fun I1 e1 => ⟨inb_b (by omega) (by omega) (by decide), fun I2 e2 => ?_⟩⟩, fun e9 => absurd ?_ e9⟩
      · rw [ix_nat (by omega)] at e1 e2
        have key := s_R_share_k (R := R) hS hnc1 hnc2 m (k + 1) (ud e (amx r 9) (e (amx r 9) + 1)) (ud r (amx r 9) (-1)) I2 (by omega) ?_ ?_ ?_ ?_ ?_ ?_
        · rw [show k + 1 + m = k + (m + 1) by omega] at key; exact key
        · rw [e2, up_1 _ (by decide), e1, up_1 _ (by decide)]; exact hnc
        · intro j hj
          rw [e2, up_1 _ (by decide), e1]
          unfold ud
          by_cases ej : j = amx r 9
          · rw [if_pos ej, ej, up_s, hn _ (by omega)]
          · rw [if_neg ej, up_2 _ ej]; exact hn j hj
        · intro j hj
          rw [e2]
          unfold ud
          by_cases ej : j = amx r 9
          · rw [if_pos ej, ej, up_s]; exact ⟨⟨by decide, by decide⟩, Or.inl rfl⟩
          · rw [if_neg ej, up_2 _ ej, e1, up_1 _ (by decide)]; exact hq j hj
        · intro j h1 h2
          unfold ud; split
          · decide
          · exact h0 j h1 h2
        · intro i hi
          have := hp (i + 1) (by omega)
          rw [pik_succ] at this; exact this
        · intro I' g1 g2
          refine h I' (fun j hj => ?_) (fun a a1 a2 => ?_)
          · rw [pik_succ]; exact g1 j hj
          · rw [g2 a a1 a2, e2, up_row a2, e1, up_row a1]
      · rw [hnc, w32_nat (by omega), w32_b (by omega) (by omega)]; omega
    · intro j hj ih
      have ha := amx_le (I r_rest) j
      have q1 := (hq (j + 1) (by omega)).1
      have q2 := (hq (amx (I r_rest) j) (by omega)).1
      have ej : ((j : Int) + 1) = ((j + 1 : Nat) : Int) := rfl
      refine b_R_share_k12 hS ?_
      rw [ej, hnc, w32_nat (k := nc) (by omega), w32_nat (k := j + 1) (by omega), ix_nat (k := j + 1) (by omega), ix_nat (k := amx (I r_rest) j) (by omega), llcmp_le q1 q2]
      unfold amx at ih
      refine ⟨fun e => absurd e (by omega), fun _ => ⟨inb_b (by omega) (by omega) (by decide), inb_b (by omega) (by omega) (by decide), fun e => ?_, fun e => ?_⟩⟩
      · rw [if_neg (by omega)] at ih; exact ih
      · rw [if_pos (by omega)] at ih; exact ih
theorem s_R_share {nc m : Nat} {left : Int} {e r : Nat → Int} {I : XI} {R : XI → Prop} (hS : xSh S) (hnc1 : 1 ≤ nc) (hnc2 : nc ≤ 10) (hl : left = (m : Int)) (hm : m ≤ 1000) (hnc : I r_cells 0 = (nc : Int)) (hn : ∀ j, j < 10 → I r_next j = e j) (hq : ∀ j, j < nc → InR (I r_rest j) ∧ (I r_rest j = r j ∨ (I r_rest j ≤ 0 ∧ r j ≤ 0))) (h0 : ∀ j, nc ≤ j → j < 10 → r j ≤ 0) (hp : ∀ i, i < m → 0 < (pik e r i).2 (amx (pik e r i).2 9))
    (h : ∀ I', (∀ j, j < 10 → I' r_next j = (pik e r m).1 j) → (∀ a, a ≠ r_next → a ≠ r_rest → I' a = I a) → R I') : R_share G S I left R := by
  subst hl
  refine b_R_share hS ?_
  have := s_R_share_k (G := G) (R := R) hS hnc1 hnc2 m 0 e r I (by omega) hnc hn hq h0 hp h
  rw [Nat.zero_add] at this; exact this
/-- the PARTS of one CELL go -/
theorem s_R_wander_c {I1 : XI} {nc c : Nat} {Wy g e w : Nat → Int} {s pc : Int} {R : XI → Prop} (hS : xSh S) (hnc2 : nc ≤ 10) (hc : c < nc) (hcell : I1 r_cells 0 = (nc : Int)) (hway : ∀ j, j < 10 → I1 r_ways (c * 10 + j) = Wy (c * 10 + j) ∧ InR (Wy (c * 10 + j))) (hwt : ∀ j, j < nc → I1 r_weight j = g j) (hg : ∀ j, 0 ≤ g j ∧ g j ≤ 99) (hpc : I1 r_parts c = pc) (hpc2 : 0 ≤ pc ∧ pc ≤ 1000000) (hw : w = wvS Wy g c) (hz : rowZ nc w) (hs : s = sumA w 10) (hs1 : 0 < s) (hs2 : s ≤ 1000) (hn : ∀ j, j < 10 → I1 r_next j = e j)
    (h : ∀ I', (∀ j, j < 10 → I' r_next j = shareRow e pc w s j) → (∀ a, a ≠ r_next → a ≠ r_rest → I' a = I1 a) → R_wander_k64 G S I' ((c : Int) + 1) R) : R_wander_k168 G S I1 (c : Int) s pc 0 R := by
  have hw0 : ∀ j, 0 ≤ w j ∧ w j ≤ 99 := fun j => by
    have := hg j
    rw [hw]; unfold wvS; split <;> omega
  have hd : ∀ j, 0 ≤ pc * w j ∧ pc * w j ≤ 1000000 * 99 := fun j => ⟨Int.mul_nonneg hpc2.1 (hw0 j).1, Int.mul_le_mul hpc2.2 (hw0 j).2 (hw0 j).1 (by decide)⟩
  have hzd : ∀ j, nc ≤ j → j < 10 → pc * w j / s = 0 ∧ pc * w j % s = 0 := fun j h1 h2 => by rw [hz j h1 h2]; simp
  have key := down (n := nc) (P := fun d => ∀ I2 : XI, (∀ j, j < 10 → I2 r_next j = e j + (if j < d then pc * w j / s else 0)) → (∀ j, j < d → InR (I2 r_rest j) ∧ (I2 r_rest j = pc * w j % s ∨ (I2 r_rest j ≤ 0 ∧ pc * w j % s ≤ 0))) → (∀ a, a ≠ r_next → a ≠ r_rest → I2 a = I1 a) → R_wander_k168 G S I2 (c : Int) s (pc - sumA (fun j => pc * w j / s) d) (d : Int) R) ?_ ?_ 0 (Nat.zero_le _) I1 (fun j hj => ?_) (fun j hj => absurd hj (by omega)) (fun _ _ _ => rfl)
  · have e0 : pc - sumA (fun j => pc * w j / s) 0 = pc := by simp [sumA]
    rw [e0] at key; exact key
  · intro I2 q1 q2 q3
    refine b_R_wander_k168 hS ⟨fun _ => ?_, fun e9 => absurd ?_ e9⟩
    · obtain ⟨l0, l1, -⟩ := sh_left (p := pc) (w := w) (all := s) hpc2.1 (fun j _ => (hw0 j).1) hs hs1
      have esum : sumA (fun j => pc * w j / s) nc = sumA (fun j => pc * w j / s) 10 := (sumA_z (p := fun j => pc * w j / s) (fun j h1 h2 => (hzd j h1 h2).1) 10 hnc2 (Nat.le_refl _)).symm
      rw [esum]
      refine s_R_share (m := (pc - sumA (fun j => pc * w j / s) 10).toNat) (e := fun j => e j + pc * w j / s) (r := fun j => pc * w j % s) hS (by omega) hnc2 (by omega) (by omega) (by rw [q3 _ (by decide) (by decide)]; exact hcell) (fun j hj => ?_) (fun j hj => q2 j hj) (fun j h1 h2 => ?_) (sh_pik hpc2.1 (fun j _ => (hw0 j).1) hs hs1 _) (fun I' g1 g2 => h I' g1 (fun a a1 a2 => (g2 a a1 a2).trans (q3 a a1 a2)))
      · rw [q1 j hj]
        by_cases ej : j < nc
        · rw [if_pos ej]
        · rw [if_neg ej, (hzd j (by omega) hj).1]
      · show pc * w j % s ≤ 0
        rw [(hzd j h1 h2).2]; exact Int.le_refl _
    · rw [q3 _ (by decide) (by decide), hcell]; exact Int.le_refl _
  · intro d hdn ih I2 q1 q2 q3
    have hdd := hd d
    have hway2 : I2 r_ways (c * 10 + d) = Wy (c * 10 + d) := by rw [q3 _ (by decide) (by decide)]; exact (hway d (by omega)).1
    have e10 : ((10 : Int) * (c : Int) + (d : Int)) = ((c * 10 + d : Nat) : Int) := by omega
    have esum : pc - sumA (fun j => pc * w j / s) (d + 1) = pc - sumA (fun j => pc * w j / s) d - pc * w d / s := by simp only [sumA]; omega
    have hmod : InR (pc * w d % s) := by
      have a1 := Int.emod_nonneg (pc * w d) (show s ≠ 0 by omega)
      have a2 := Int.emod_lt_of_pos (pc * w d) hs1
      exact ⟨by omega, by omega⟩
    have k230 : ∀ v7 s0 : Int, s0 = pc * w d → (v7 = 0 ∧ w d = 0) ∨ v7 = 1 → R_wander_k230 G S I2 (c : Int) s (pc - sumA (fun j => pc * w j / s) d) (d : Int) v7 s0 R := by
      intro v7 s0 hs0 hv
      subst hs0
      have nx : ∀ v : Int, (∀ j, j < 10 → up (up I2 r_next d (I2 r_next d + pc * w d / s)) r_rest d v r_next j = e j + (if j < d + 1 then pc * w j / s else 0)) := fun v j hj => by
        rw [up_1 _ (by decide)]
        by_cases ej : j = d
        · rw [ej, up_s, q1 d (by omega), if_neg (by omega), if_pos (by omega)]; omega
        · rw [up_2 _ ej, q1 j hj]
          by_cases e3 : j < d
          · rw [if_pos e3, if_pos (by omega)]
          · rw [if_neg e3, if_neg (by omega)]
      have fr : ∀ v : Int, ∀ a, a ≠ r_next → a ≠ r_rest → up (up I2 r_next d (I2 r_next d + pc * w d / s)) r_rest d v a = I1 a := fun v a a1 a2 => by rw [up_row a2, up_row a1]; exact q3 a a1 a2
      refine b_R_wander_k230 hS ?_
      rw [w32_b (z := s) (by omega) (by omega), ix_nat (k := d) (by omega), idiv_pos hdd.1 (by omega) hs1 (by omega), irem_pos hdd.1 (by omega) hs1 (by omega), w32_r hmod, ← esum]
      refine ⟨inb_b (by omega) (by omega) (by decide), by omega, inb_b (by omega) (by omega) (by decide), fun I9 e9 => ⟨by omega, ?_⟩⟩
      rcases hv with ⟨rfl, hv⟩ | rfl
      · refine br0 ⟨inb_b (by omega) (by omega) (by decide), fun I10 e10 => ?_⟩
        subst e10; subst e9
        refine ih _ (nx _) (fun j hj => ?_) (fr _)
        by_cases ej : j = d
        · rw [ej, up_s, hv]; exact ⟨⟨by decide, by decide⟩, Or.inr ⟨by decide, by simp⟩⟩
        · rw [up_2 _ ej, up_1 _ (by decide)]; exact q2 j (by omega)
      · refine br1 ⟨by omega, inb_b (by omega) (by omega) (by decide), fun I10 e10 => ?_⟩
        subst e10; subst e9
        refine ih _ (nx _) (fun j hj => ?_) (fr _)
        by_cases ej : j = d
        · rw [ej, up_s]; exact ⟨hmod, Or.inl rfl⟩
        · rw [up_2 _ ej, up_1 _ (by decide)]; exact q2 j (by omega)
    have yes : d = c ∨ 0 < Wy (c * 10 + d) → R_wander_k205 G S I2 (c : Int) s (pc - sumA (fun j => pc * w j / s) d) (d : Int) 1 R := fun hh => by
      refine b_R_wander_k205 hS (br1 ⟨inb_b (by omega) (by omega) (by decide), inb_b (by omega) (by omega) (by decide), k230 _ _ ?_ (Or.inr rfl)⟩)
      rw [ix_nat (k := c) (by omega), ix_nat (k := d) (by omega), q3 _ (by decide) (by decide), q3 _ (by decide) (by decide), hpc, hwt d hdn, hw]
      rw [show wvS Wy g c d = g d from if_pos hh]
    have no : ¬ (d = c ∨ 0 < Wy (c * 10 + d)) → R_wander_k205 G S I2 (c : Int) s (pc - sumA (fun j => pc * w j / s) d) (d : Int) 0 R := fun hh => by
      have hwd : w d = 0 := by rw [hw]; exact if_neg hh
      exact b_R_wander_k205 hS (br0 (k230 _ _ (by rw [hwd]; simp) (Or.inl ⟨rfl, hwd⟩)))
    refine b_R_wander_k168 hS ?_
    rw [q3 r_cells (by decide) (by decide), hcell, w32_nat (k := nc) (by omega), w32_nat (k := d) (by omega), w32_nat (k := c) (by omega), e10, ix_nat (k := c * 10 + d) (by omega), hway2, w32_r (hway d (by omega)).2]
    exact ⟨fun e9 => absurd e9 (by omega), fun _ => ⟨fun e9 => yes (by omega), fun e9 => ⟨inb_b (by omega) (by omega) (by decide), fun e8 => no (by omega), fun e8 => yes (by omega)⟩⟩⟩
  · rw [if_neg (by omega), hn j hj]; omega
theorem s_R_wander {I : XI} {nc ng nn : Nat} {X : Nat → Nat → Int} {wk lm : Int} {p : Nat → Int} {R : XI → Prop} (hS : xSh S) (hnc : I r_cells 0 = (nc : Int)) (hnc1 : 1 ≤ nc) (hng : I r_grasses 0 = (ng : Int)) (hX : PtOk X nc ng nn) (hR : XR I X ng nn) (hwk : InR wk) (hlm : InR lm) (hp : ∀ j, j < 10 → I r_parts j = p j) (hp2 : ∀ j, j < 10 → 0 ≤ p j ∧ p j ≤ 1000000)
    (h : ∀ I', (∀ j, j < 10 → I' r_parts j = mvS (X 0) (grS (X 1) (X 2) (X 3) (X 4) wk lm ng) p nc j) → (∀ a, a ≠ r_parts → a ≠ r_next → a ≠ r_weight → a ≠ r_rest → I' a = I a) → R I') : R_wander G S I wk lm R := by
  obtain ⟨x1, x2, x3, x4, x5, x6, x7, x8, x9, x10, x11⟩ := hX
  obtain ⟨w1, w2, -, -⟩ := hR
  have hg := fun j => grS_r (X := X) (ng := ng) (wk := wk) (lm := lm) x8 j
  have hgo : ∀ I1 : XI, (∀ a, a ≠ r_weight → I1 a = I a) → ∀ c : Nat, c < 10 → ∀ T : Int → XI → Prop, T (grS (X 1) (X 2) (X 3) (X 4) wk lm ng c) I1 → R_grassOf G S I1 (c : Int) wk lm T := fun I1 hI1 c hc T hT => s_R_grassOf hS rfl hc (by rw [hI1 _ (by decide)]; exact hng) x2 (fun j hj => by rw [hI1 r_grassCell (by decide), hI1 r_grassWeek (by decide), hI1 r_grassIs (by decide), hI1 r_grassTold (by decide)]; exact w2 j hj) x6 x7 x9 hwk hlm hT
  generalize grS (X 1) (X 2) (X 3) (X 4) wk lm ng = g at h hg hgo
  have st4 : ∀ I1 : XI, (∀ j, j < 10 → I1 r_next j = mvS (X 0) g p nc j) → (∀ a, a ≠ r_parts → a ≠ r_next → a ≠ r_weight → a ≠ r_rest → I1 a = I a) → R_wander_k301 G S I1 0 R := by
    intro I1 n1 f1
    refine down (n := 10) (P := fun k => ∀ I2 : XI, (∀ j, j < k → I2 r_parts j = mvS (X 0) g p nc j) → (∀ a, a ≠ r_parts → I2 a = I1 a) → R_wander_k301 G S I2 (k : Int) R) ?_ ?_ 0 (Nat.zero_le _) I1 (fun j hj => absurd hj (by omega)) (fun _ _ => rfl)
    · intro I2 q1 q2
      exact b_R_wander_k301 hS ⟨fun _ => h I2 q1 (fun a a1 a2 a3 a4 => (q2 a a1).trans (f1 a a1 a2 a3 a4)), fun e => absurd (by decide) e⟩
    · intro k hk ih I2 q1 q2
      refine b_R_wander_k301 hS ?_
      rw [show w32 10 = 10 from rfl, w32_nat (k := k) (by omega), ix_nat (k := k) (by omega)]
      refine ⟨fun e => absurd e (by omega), fun _ => ⟨inb_b (by omega) (by omega) (by decide), inb_b (by omega) (by omega) (by decide), fun I3 e3 => ?_⟩⟩
      rw [q2 r_next (by decide), n1 k hk] at e3
      subst e3
      refine ih _ (fun j hj => ?_) (fun a a1 => (up_row a1).trans (q2 a a1))
      by_cases ej : j = k
      · rw [ej, up_s]
      · rw [up_2 _ ej]; exact q1 j (by omega)
  have st3 : ∀ c, c ≤ nc → ∀ I1 : XI, (∀ j, j < 10 → I1 r_next j = mvS (X 0) g p c j) → (∀ j, j < nc → I1 r_weight j = g j) → (∀ a, a ≠ r_next → a ≠ r_weight → a ≠ r_rest → I1 a = I a) → R_wander_k64 G S I1 (c : Int) R := by
    refine down (n := nc) (P := fun c => ∀ I1 : XI, (∀ j, j < 10 → I1 r_next j = mvS (X 0) g p c j) → (∀ j, j < nc → I1 r_weight j = g j) → (∀ a, a ≠ r_next → a ≠ r_weight → a ≠ r_rest → I1 a = I a) → R_wander_k64 G S I1 (c : Int) R) ?_ ?_
    · intro I1 q1 q2 q3
      refine b_R_wander_k64 hS ⟨fun _ => st4 I1 q1 (fun a _ a2 a3 a4 => q3 a a2 a3 a4), fun e => absurd ?_ e⟩
      rw [q3 r_cells (by decide) (by decide) (by decide), hnc]; exact Int.le_refl _
    · intro c hc ih I1 q1 q2 q3
      have hcell : I1 r_cells 0 = (nc : Int) := by rw [q3 _ (by decide) (by decide) (by decide)]; exact hnc
      have hpc : I1 r_parts c = p c := by rw [q3 _ (by decide) (by decide) (by decide)]; exact hp c (by omega)
      have hpr := hp2 c (by omega)
      have hway : ∀ j, j < 10 → I1 r_ways (c * 10 + j) = X 0 (c * 10 + j) ∧ InR (X 0 (c * 10 + j)) := fun j hj => ⟨by rw [q3 _ (by decide) (by decide) (by decide)]; exact w1 _ (by omega), x4 _ (by omega)⟩
      have hz : rowZ nc (wvS (X 0) g c) := fun j h1 h2 => if_neg (by have := x5 c j (by omega) h1 h2; omega)
      have hw0 : ∀ j, 0 ≤ wvS (X 0) g c j ∧ wvS (X 0) g c j ≤ 99 := fun j => by
        have := hg j
        unfold wvS; split <;> omega
      have hs10 : sumA (wvS (X 0) g c) nc = sumA (wvS (X 0) g c) 10 := (sumA_z hz 10 x1 (Nat.le_refl _)).symm
      have hs0 : 0 ≤ sumA (wvS (X 0) g c) 10 := sumA_nn (fun j _ => (hw0 j).1)
      have hs1 : sumA (wvS (X 0) g c) 10 ≤ ((10 : Nat) : Int) * 100 := sumA_lt (fun j _ => by have := hw0 j; omega)
      have m1 : 0 < p c → 0 < sumA (wvS (X 0) g c) 10 → mvS (X 0) g p (c + 1) = shareRow (mvS (X 0) g p c) (p c) (wvS (X 0) g c) (sumA (wvS (X 0) g c) 10) := fun h0 ha => by funext j; rw [mvS, if_pos h0, if_pos ha]
      have m2 : 0 < p c → ¬ 0 < sumA (wvS (X 0) g c) 10 → mvS (X 0) g p (c + 1) = ud (mvS (X 0) g p c) c (mvS (X 0) g p c c + p c) := fun h0 ha => by funext j; rw [mvS, if_pos h0, if_neg ha]
      have m3 : ¬ 0 < p c → mvS (X 0) g p (c + 1) = mvS (X 0) g p c := fun h0 => by funext j; rw [mvS, if_neg h0]
      refine b_R_wander_k64 hS ⟨fun e => absurd e (by rw [hcell, w32_nat (by omega), w32_nat (by omega)]; omega), fun _ => ?_⟩
      refine down (n := nc) (P := fun d => R_wander_k80 G S I1 (c : Int) (sumA (wvS (X 0) g c) d) (d : Int) R) ?_ ?_ 0 (Nat.zero_le _)
      · refine b_R_wander_k80 hS ⟨fun _ => ?_, fun e => absurd (by rw [hcell]; exact Int.le_refl _) e⟩
        rw [hs10, w32_b (z := sumA (wvS (X 0) g c) 10) (by omega) (by omega), ix_nat (k := c) (by omega), hpc]
        refine ⟨fun e => ⟨inb_b (by omega) (by omega) (by decide), inb_b (by omega) (by omega) (by decide), inb_b (by omega) (by omega) (by decide), fun I7 e7 => ?_⟩, fun e => ⟨inb_b (by omega) (by omega) (by decide), ?_⟩⟩
        · subst e7
          refine ih _ (fun j hj => ?_) (fun j hj => ?_) (fun a a1 a2 a3 => ?_)
          · by_cases h0 : 0 < p c
            · rw [m2 h0 (by omega)]
              unfold ud
              by_cases ej : j = c
              · rw [if_pos ej, ej, up_s, q1 c (by omega)]
              · rw [if_neg ej, up_2 _ ej]; exact q1 j hj
            · rw [m3 h0]
              by_cases ej : j = c
              · rw [ej, up_s, q1 c (by omega)]; omega
              · rw [up_2 _ ej]; exact q1 j hj
          · rw [up_1 _ (by decide)]; exact q2 j hj
          · rw [up_row a1]; exact q3 a a1 a2 a3
        · refine s_R_wander_c (e := mvS (X 0) g p c) hS x1 hc hcell hway q2 hg hpc hpr rfl hz rfl (by omega) (by omega) q1 (fun I' g1 g2 => ih I' (fun j hj => ?_) (fun j hj => ?_) (fun a a1 a2 a3 => (g2 a a1 a3).trans (q3 a a1 a2 a3)))
          · rw [g1 j hj]
            by_cases h0 : 0 < p c
            · rw [m1 h0 (by omega)]
            · rw [m3 h0, show p c = 0 by omega, shareRow_0]
          · rw [g2 _ (by decide) (by decide)]; exact q2 j hj
      · intro d hd ihd
        have e10 : ((10 : Int) * (c : Int) + (d : Int)) = ((c * 10 + d : Nat) : Int) := by omega
        have e1 : sumA (wvS (X 0) g c) (d + 1) = sumA (wvS (X 0) g c) d + wvS (X 0) g c d := rfl
        have ok : (d = c ∨ 0 < X 0 (c * 10 + d)) → R_wander_k114 G S I1 (c : Int) (d : Int) (sumA (wvS (X 0) g c) d) R := fun hh => by
          refine b_R_wander_k114 hS ⟨inb_b (by omega) (by omega) (by decide), ?_⟩
          rw [ix_nat (k := d) (by omega), q2 d hd]
          rw [e1, show wvS (X 0) g c d = g d from if_pos hh] at ihd
          exact ihd
        refine b_R_wander_k80 hS ?_
        rw [hcell, w32_nat (k := nc) (by omega), w32_nat (k := d) (by omega), w32_nat (k := c) (by omega), e10, ix_nat (k := c * 10 + d) (by omega), (hway d (by omega)).1, w32_r (hway d (by omega)).2]
        refine ⟨fun e => absurd e (by omega), fun _ => ⟨fun e => ok (by omega), fun e => ⟨inb_b (by omega) (by omega) (by decide), fun e2 => ?_, fun e2 => ok (by omega)⟩⟩⟩
        rw [e1, show wvS (X 0) g c d = 0 from if_neg (by omega)] at ihd
        exact ihd
  have st2 : ∀ I1 : XI, (∀ j, j < nc → I1 r_weight j = g j) → (∀ a, a ≠ r_weight → I1 a = I a) → R_wander_k43 G S I1 0 R := by
    intro I1 q1 q2
    refine down (n := 10) (P := fun k => ∀ I2 : XI, (∀ j, j < k → I2 r_next j = 0) → (∀ a, a ≠ r_next → I2 a = I1 a) → R_wander_k43 G S I2 (k : Int) R) ?_ ?_ 0 (Nat.zero_le _) I1 (fun j hj => absurd hj (by omega)) (fun _ _ => rfl)
    · intro I2 r1 r2
      refine b_R_wander_k43 hS ⟨fun _ => st3 0 (Nat.zero_le _) I2 r1 (fun j hj => ?_) (fun a a1 a2 _ => (r2 a a1).trans (q2 a a2)), fun e => absurd (by decide) e⟩
      rw [r2 _ (by decide)]; exact q1 j hj
    · intro k hk ih I2 r1 r2
      refine b_R_wander_k43 hS ?_
      rw [show w32 10 = 10 from rfl, w32_nat (k := k) (by omega), ix_nat (k := k) (by omega)]
      refine ⟨fun e => absurd e (by omega), fun _ => ⟨inb_b (by omega) (by omega) (by decide), fun I3 e3 => ?_⟩⟩
      subst e3
      refine ih _ (fun j hj => ?_) (fun a a1 => (up_row a1).trans (r2 a a1))
      by_cases ej : j = k
      · rw [ej, up_s]
      · rw [up_2 _ ej]; exact r1 j (by omega)
  refine b_R_wander hS ?_
  refine down (n := 10) (P := fun k => ∀ I1 : XI, (∀ j, j < k → j < nc → I1 r_weight j = g j) → (∀ a, a ≠ r_weight → I1 a = I a) → R_wander_k2 G S I1 wk lm (k : Int) R) ?_ ?_ 0 (Nat.zero_le _) I (fun j hj => absurd hj (by omega)) (fun _ _ => rfl)
  · intro I1 q1 q2
    exact b_R_wander_k2 hS ⟨fun _ => st2 I1 (fun j hj => q1 j (by omega) hj) q2, fun e => absurd (by decide) e⟩
  · intro k hk ih I1 q1 q2
    refine b_R_wander_k2 hS ?_
    rw [q2 r_cells (by decide), hnc, show w32 10 = 10 from rfl, w32_nat (k := k) (by omega), w32_nat (k := nc) (by omega), ix_nat (k := k) (by omega)]
    refine ⟨fun e => absurd e (by omega), fun _ => ⟨fun e => ⟨inb_b (by omega) (by omega) (by decide), fun I3 e3 => ?_⟩, fun e => hgo I1 q2 k hk _ ⟨inb_b (by omega) (by omega) (by decide), fun I3 e3 => ?_⟩⟩⟩
    · subst e3
      refine ih _ (fun j hj hj2 => ?_) (fun a a1 => (up_row a1).trans (q2 a a1))
      rw [up_2 _ (by omega)]; exact q1 j (by omega) hj2
    · subst e3
      refine ih _ (fun j hj hj2 => ?_) (fun a a1 => (up_row a1).trans (q2 a a1))
      by_cases ej : j = k
      · rw [ej, up_s]
      · rw [up_2 _ ej]; exact q1 j (by omega) hj2
end PR
