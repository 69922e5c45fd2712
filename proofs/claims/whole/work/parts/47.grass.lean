/-! ===== the class: filling, GRASS of a WEEK, weights ===== -/
def xfil (I : XI) (a n : Nat) (v : Int) : XI := fun b j => if b = a ∧ j < n then v else I b j
theorem xfil_in {I : XI} {a n j : Nat} {v : Int} (h : j < n) : xfil I a n v a j = v := if_pos ⟨rfl, h⟩
theorem xfil_out {I : XI} {a n b : Nat} {v : Int} (h : b ≠ a) : xfil I a n v b = I b := funext fun j => if_neg (fun q => h q.1)
theorem xfil_up (I : XI) (a k : Nat) (v : Int) : up (xfil I a k v) a k v = xfil I a (k + 1) v := by
  funext b j
  unfold up xfil
  by_cases hb : b = a
  · subst hb
    by_cases hj : j = k
    · subst hj; simp
    · simp only [if_true, hj, if_false, true_and]
      by_cases h1 : j < k
      · rw [if_pos h1, if_pos (by omega)]
      · rw [if_neg h1, if_neg (by omega)]
  · simp [hb]
def grS (GC GW GI GT : Nat → Int) (wk lm : Int) (n c : Nat) : Int := if (lastA GC (fun _ => 0) GW GT c 0 wk lm n).1 = -1 then 1 else GI (lastA GC (fun _ => 0) GW GT c 0 wk lm n).1.toNat
/-- the weights by which the PARTS of a CELL go -/
def wvS (Wy g : Nat → Int) (c j : Nat) : Int := if j = c ∨ 0 < Wy (c * 10 + j) then g j else 0
section PF
variable {G : XG} {S : XS} {I : XI}
theorem s_fill {a n : Nat} {v : Int} {R : XI → Prop} (hS : xSh S) (hN : a < S.1) (hT : xtag S a = 13) (hL : xlen S a = n) (hn : n < 100000) (h : R (xfil I a n v)) : Ja_fill G S I a v R := by
  refine b_Ja_fill hS hN hT ?_
  rw [hL]
  have key := down (n := n) (P := fun k => Ja_fill_k5 G S (xfil I a k v) a v (k : Int) (n : Int) R) ?_ ?_ 0 (Nat.zero_le _)
  · have e0 : xfil I a 0 v = I := by funext b j; exact if_neg (fun q => by omega)
    rw [e0] at key; exact key
  · exact b_Ja_fill_k5 hS hN hT ⟨fun _ => h, fun e => absurd (Int.le_refl _) e⟩
  · intro k hk ih
    refine b_Ja_fill_k5 hS hN hT ?_
    rw [w32_nat (by omega), w32_nat (by omega), ix_nat (by omega), hL]
    refine ⟨fun e => absurd e (by omega), fun _ => ⟨inb_b (by omega) (by omega) (by omega), fun I1 e1 => ?_⟩⟩
    rw [xfil_up] at e1
    subst e1
    exact ih
end PF
section PW
variable {G : XG} {S : XS}
theorem s_La_grassOfWeek {I : XI} {wk lm : Int} {n : Nat} {R : XI → Prop} (hS : xSh S) (hn : I c_land 3 = (n : Int)) (hn2 : n ≤ 60) (hc : ∀ j, j < n → 0 ≤ I c_land_grassCells j ∧ I c_land_grassCells j < 10) (hw : ∀ j, j < n → 0 ≤ I c_land_grassWeeks j ∧ I c_land_grassWeeks j ≤ 99) (ht : ∀ j, j < n → InR (I c_land_grassTold j)) (h3 : InR wk) (h4 : InR lm)
    (h : ∀ I', (∀ c, c < 10 → I' c_now_grass c = grS (I c_land_grassCells) (I c_land_grassWeeks) (I c_land_grassNumbers) (I c_land_grassTold) wk lm n c) → (∀ a, a ≠ c_now_grass → a ≠ c_now_rests → I' a = I a) → R I') : La_grassOfWeek G S I wk lm R := by
  refine b_La_grassOfWeek hS (s_fill hS (sN_c_now_grass hS) (sT_c_now_grass hS) (sL_c_now_grass hS) (by decide) (s_fill hS (sN_c_now_rests hS) (sT_c_now_rests hS) (sL_c_now_rests hS) (by decide) ?_))
  refine down (n := n) (P := fun k => ∀ I1 : XI, (∀ c, c < 10 → I1 c_now_grass c = grS (I c_land_grassCells) (I c_land_grassWeeks) (I c_land_grassNumbers) (I c_land_grassTold) wk lm k c) → (∀ c : Nat, c < 10 → I1 c_now_rests c = if (lastA (I c_land_grassCells) (fun _ => 0) (I c_land_grassWeeks) (I c_land_grassTold) c 0 wk lm k).1 = -1 then -1 else I c_land_grassWeeks (lastA (I c_land_grassCells) (fun _ => 0) (I c_land_grassWeeks) (I c_land_grassTold) c 0 wk lm k).1.toNat) → (∀ a, a ≠ c_now_grass → a ≠ c_now_rests → I1 a = I a) → La_grassOfWeek_k14 G S I1 wk lm (k : Int) R) ?_ ?_ 0 (Nat.zero_le _) _ (fun c hc => ?_) (fun c hc => ?_) (fun a h1 h2 => ?_)
  · intro I1 q1 q2 q3
    refine b_La_grassOfWeek_k14 hS ⟨fun _ => h I1 q1 q3, fun e => absurd (Int.le_refl _) (by rw [q3 _ (by decide) (by decide), hn] at e; exact e)⟩
  · intro k hk ih I1 q1 q2 q3
    have hck := hc k hk
    have hwk := hw k hk
    have htk := ht k hk
    obtain ⟨q, hq⟩ : ∃ q : Nat, I c_land_grassCells k = (q : Int) := ⟨(I c_land_grassCells k).toNat, by omega⟩
    have hq10 : q < 10 := by omega
    have hin := lastA_in (B := I c_land_grassCells) (K := fun _ => 0) (W := I c_land_grassWeeks) (T := I c_land_grassTold) (bk := q) (lk := 0) (wk := wk) (lm := lm) k
    have hl2 := lastA_wk (B := I c_land_grassCells) (K := fun _ => 0) (W := I c_land_grassWeeks) (T := I c_land_grassTold) (bk := q) (lk := 0) (wk := wk) (lm := lm) k
    have hq2 := q2 q hq10
    have hrin : -1 ≤ I1 c_now_rests q ∧ I1 c_now_rests q ≤ 99 := by
      rw [hq2]; split
      · omega
      · have := hw (lastA (I c_land_grassCells) (fun _ => 0) (I c_land_grassWeeks) (I c_land_grassTold) q 0 wk lm k).1.toNat (by omega); omega
    have hother : ∀ c : Nat, c ≠ q → lastA (I c_land_grassCells) (fun _ => 0) (I c_land_grassWeeks) (I c_land_grassTold) c 0 wk lm (k + 1) = lastA (I c_land_grassCells) (fun _ => 0) (I c_land_grassWeeks) (I c_land_grassTold) c 0 wk lm k := by
      intro c hcq
      rw [lastA, if_neg (fun z => hcq (by have := z.1; omega))]
    have hno : ¬ (I c_land_grassTold k ≤ lm ∧ I c_land_grassWeeks k ≤ wk ∧ I1 c_now_rests q ≤ I c_land_grassWeeks k) → La_grassOfWeek_k14 G S I1 wk lm ((k : Int) + 1) R := by
      intro hz
      have he : lastA (I c_land_grassCells) (fun _ => 0) (I c_land_grassWeeks) (I c_land_grassTold) q 0 wk lm (k + 1) = lastA (I c_land_grassCells) (fun _ => 0) (I c_land_grassWeeks) (I c_land_grassTold) q 0 wk lm k := by
        rw [lastA, if_neg]
        intro z
        refine hz ⟨z.2.2.1, z.2.2.2.1, ?_⟩
        rw [hq2]; split
        · omega
        · rename_i hne; rw [if_neg hne] at hl2; omega
      refine ih I1 (fun c hc9 => ?_) (fun c hc9 => ?_) q3
      · by_cases ec : c = q
        · subst ec; unfold grS; rw [he]; exact q1 c hc9
        · unfold grS; rw [hother c ec]; exact q1 c hc9
      · by_cases ec : c = q
        · subst ec; rw [he]; exact q2 c hc9
        · rw [hother c ec]; exact q2 c hc9
    refine b_La_grassOfWeek_k14 hS ?_
    have g3 : ∀ a, a ≠ c_now_grass → a ≠ c_now_rests → ∀ j, I1 a j = I a j := fun a h1 h2 j => by rw [q3 a h1 h2]
    rw [g3 c_land (by decide) (by decide), g3 c_land_grassCells (by decide) (by decide), g3 c_land_grassTold (by decide) (by decide), g3 c_land_grassWeeks (by decide) (by decide), hn, ix_nat (by omega), hq, ix_nat (by omega), w32_nat (by omega), w32_nat (by omega), w32_r h4, w32_r h3, w32_r htk, w32_b (z := I c_land_grassWeeks k) (by omega) (by omega), w32_b (z := I1 c_now_rests q) (by omega) (by omega)]
    refine ⟨fun e => absurd e (by omega), fun _ => ⟨inb_b (by omega) (by omega) (by decide), inb_b (by omega) (by omega) (by decide), fun e => hno (by omega), fun e1 => ⟨inb_b (by omega) (by omega) (by decide), fun e => hno (by omega), fun e2 => ⟨inb_b (by omega) (by omega) (by decide), inb_b (by omega) (by omega) (by decide), fun e => hno (by omega), fun e3 => ⟨inb_b (by omega) (by omega) (by decide), inb_b (by omega) (by omega) (by decide), ?_⟩⟩⟩⟩⟩
    intro I3 f3
    refine ⟨inb_b (by omega) (by omega) (by decide), inb_b (by omega) (by omega) (by decide), ?_⟩
    intro I4 f4
    have he : lastA (I c_land_grassCells) (fun _ => 0) (I c_land_grassWeeks) (I c_land_grassTold) q 0 wk lm (k + 1) = ((k : Int), I c_land_grassWeeks k) := by
      rw [lastA, if_pos]
      refine ⟨hq, Int.le_refl _, by omega, by omega, ?_⟩
      rw [hl2]; split
      · omega
      · rename_i hne; rw [if_neg hne] at hq2; omega
    have f5 : I3 c_land_grassNumbers k = I c_land_grassNumbers k := by rw [f3, up_1 _ (by decide), g3 _ (by decide) (by decide)]
    rw [f5] at f4
    subst f4; subst f3
    refine ih _ (fun c hc9 => ?_) (fun c hc9 => ?_) (fun a h1 h2 => ?_)
    · by_cases ec : c = q
      · subst ec; rw [up_s]; unfold grS; rw [he, if_neg (by show ¬ (k : Int) = -1; omega)]; simp
      · rw [up_2 _ ec, up_1 _ (by decide)]; unfold grS; rw [hother c ec]; exact q1 c hc9
    · rw [up_1 _ (by decide)]
      by_cases ec : c = q
      · subst ec; rw [up_s, he, if_neg (by show ¬ (k : Int) = -1; omega)]; simp
      · rw [up_2 _ ec, hother c ec]; exact q2 c hc9
    · rw [up_row h1, up_row h2]; exact q3 a h1 h2
  · rw [xfil_out (by decide), xfil_in hc]; simp [grS, lastA]
  · rw [xfil_in hc]; simp [lastA]
  · rw [xfil_out h2, xfil_out h1]
theorem s_Wn_weighGrass {I : XI} {cl : Int} {c : Nat} {R : Int → XI → Prop} (hS : xSh S) (hcl : cl = (c : Int)) (hc : c < 10) (hy : ∀ j, j < 100 → InR (I c_land_ways j))
    (h : ∀ I', (∀ j, j < 10 → I' c_now_weights j = wvS (I c_land_ways) (I c_now_grass) c j) → (∀ a, a ≠ c_now_weights → I' a = I a) → R (sumA (wvS (I c_land_ways) (I c_now_grass) c) 10) I') : Wn_weighGrass G S I cl R := by
  subst hcl
  refine b_Wn_weighGrass hS ?_
  refine down (n := 10) (P := fun k => ∀ I1 : XI, (∀ j, j < k → I1 c_now_weights j = wvS (I c_land_ways) (I c_now_grass) c j) → (∀ a, a ≠ c_now_weights → I1 a = I a) → Wn_weighGrass_k5 G S I1 (c : Int) (sumA (wvS (I c_land_ways) (I c_now_grass) c) k) (k : Int) R) ?_ ?_ 0 (Nat.zero_le _) I (fun j hj => absurd hj (by omega)) (fun _ _ => rfl)
  · intro I1 q1 q2
    exact b_Wn_weighGrass_k5 hS ⟨fun _ => h I1 q1 q2, fun e => absurd (by decide) e⟩
  · intro k hk ih I1 q1 q2
    have k62 : ∀ v : Int, v = wvS (I c_land_ways) (I c_now_grass) c k → Wn_weighGrass_k62 G S I1 (c : Int) (sumA (wvS (I c_land_ways) (I c_now_grass) c) k) (k : Int) v (k : Int) R := by
      intro v hv
      refine b_Wn_weighGrass_k62 hS ⟨inb_b (by omega) (by omega) (by decide), ?_⟩
      intro I2 f2
      refine ⟨inb_b (by omega) (by omega) (by decide), ?_⟩
      rw [ix_nat (by omega)] at f2 ⊢
      subst f2
      rw [up_s, hv]
      exact ih _ (fun j hj => by
        by_cases ej : j = k
        · rw [ej, up_s]
        · rw [up_2 _ ej]; exact q1 j (by omega)) (fun a ha => by rw [up_row ha]; exact q2 a ha)
    have k38 : ∀ s : Int, (s = 1 ∧ (k = c ∨ 0 < I c_land_ways (c * 10 + k))) ∨ (s = 0 ∧ ¬ (k = c ∨ 0 < I c_land_ways (c * 10 + k))) → Wn_weighGrass_k38 G S I1 (c : Int) (sumA (wvS (I c_land_ways) (I c_now_grass) c) k) (k : Int) s R := by
      intro s hs
      refine b_Wn_weighGrass_k38 hS ?_
      rcases hs with ⟨rfl, hs⟩ | ⟨rfl, hs⟩
      · refine br1 ⟨inb_b (by omega) (by omega) (by decide), k62 _ ?_⟩
        rw [ix_nat (by omega), q2 _ (by decide)]
        exact (if_pos hs).symm
      · exact br0 (k62 _ (if_neg hs).symm)
    refine b_Wn_weighGrass_k5 hS ?_
    have e1 : (c : Int) * 10 + (k : Int) = ((c * 10 + k : Nat) : Int) := by omega
    rw [show w32 10 = 10 from rfl, w32_nat (by omega), w32_nat (by omega), e1, ix_nat (by omega), q2 _ (by decide), w32_r (hy _ (by omega))]
    exact ⟨fun e => absurd e (by omega), fun _ => ⟨fun e => k38 1 (by omega), fun e => ⟨inb_b (by omega) (by omega) (by decide), fun e2 => k38 0 (by omega), fun e2 => k38 1 (by omega)⟩⟩⟩
theorem s_La_grassOfWeek2 {I : XI} {wk lm : Int} {n : Nat} {R : XI → Prop} (hS : xSh S) (hn : I c_land 3 = (n : Int)) (hn2 : n ≤ 60) (hc : ∀ j, j < n → 0 ≤ I c_land_grassCells j ∧ I c_land_grassCells j < 10) (hw : ∀ j, j < n → 0 ≤ I c_land_grassWeeks j ∧ I c_land_grassWeeks j ≤ 99) (ht : ∀ j, j < n → InR (I c_land_grassTold j)) (h3 : InR wk) (h4 : InR lm)
    (h : ∀ I', (∀ c, c < 10 → I' c_then_grass c = grS (I c_land_grassCells) (I c_land_grassWeeks) (I c_land_grassNumbers) (I c_land_grassTold) wk lm n c) → (∀ a, a ≠ c_then_grass → a ≠ c_then_rests → I' a = I a) → R I') : La_grassOfWeek2 G S I wk lm R := by
  refine b_La_grassOfWeek2 hS (s_fill hS (sN_c_then_grass hS) (sT_c_then_grass hS) (sL_c_then_grass hS) (by decide) (s_fill hS (sN_c_then_rests hS) (sT_c_then_rests hS) (sL_c_then_rests hS) (by decide) ?_))
  refine down (n := n) (P := fun k => ∀ I1 : XI, (∀ c, c < 10 → I1 c_then_grass c = grS (I c_land_grassCells) (I c_land_grassWeeks) (I c_land_grassNumbers) (I c_land_grassTold) wk lm k c) → (∀ c : Nat, c < 10 → I1 c_then_rests c = if (lastA (I c_land_grassCells) (fun _ => 0) (I c_land_grassWeeks) (I c_land_grassTold) c 0 wk lm k).1 = -1 then -1 else I c_land_grassWeeks (lastA (I c_land_grassCells) (fun _ => 0) (I c_land_grassWeeks) (I c_land_grassTold) c 0 wk lm k).1.toNat) → (∀ a, a ≠ c_then_grass → a ≠ c_then_rests → I1 a = I a) → La_grassOfWeek2_k14 G S I1 wk lm (k : Int) R) ?_ ?_ 0 (Nat.zero_le _) _ (fun c hc => ?_) (fun c hc => ?_) (fun a h1 h2 => ?_)
  · intro I1 q1 q2 q3
    refine b_La_grassOfWeek2_k14 hS ⟨fun _ => h I1 q1 q3, fun e => absurd (Int.le_refl _) (by rw [q3 _ (by decide) (by decide), hn] at e; exact e)⟩
  · intro k hk ih I1 q1 q2 q3
    have hck := hc k hk
    have hwk := hw k hk
    have htk := ht k hk
    obtain ⟨q, hq⟩ : ∃ q : Nat, I c_land_grassCells k = (q : Int) := ⟨(I c_land_grassCells k).toNat, by omega⟩
    have hq10 : q < 10 := by omega
    have hin := lastA_in (B := I c_land_grassCells) (K := fun _ => 0) (W := I c_land_grassWeeks) (T := I c_land_grassTold) (bk := q) (lk := 0) (wk := wk) (lm := lm) k
    have hl2 := lastA_wk (B := I c_land_grassCells) (K := fun _ => 0) (W := I c_land_grassWeeks) (T := I c_land_grassTold) (bk := q) (lk := 0) (wk := wk) (lm := lm) k
    have hq2 := q2 q hq10
    have hrin : -1 ≤ I1 c_then_rests q ∧ I1 c_then_rests q ≤ 99 := by
      rw [hq2]; split
      · omega
      · have := hw (lastA (I c_land_grassCells) (fun _ => 0) (I c_land_grassWeeks) (I c_land_grassTold) q 0 wk lm k).1.toNat (by omega); omega
    have hother : ∀ c : Nat, c ≠ q → lastA (I c_land_grassCells) (fun _ => 0) (I c_land_grassWeeks) (I c_land_grassTold) c 0 wk lm (k + 1) = lastA (I c_land_grassCells) (fun _ => 0) (I c_land_grassWeeks) (I c_land_grassTold) c 0 wk lm k := by
      intro c hcq
      rw [lastA, if_neg (fun z => hcq (by have := z.1; omega))]
    have hno : ¬ (I c_land_grassTold k ≤ lm ∧ I c_land_grassWeeks k ≤ wk ∧ I1 c_then_rests q ≤ I c_land_grassWeeks k) → La_grassOfWeek2_k14 G S I1 wk lm ((k : Int) + 1) R := by
      intro hz
      have he : lastA (I c_land_grassCells) (fun _ => 0) (I c_land_grassWeeks) (I c_land_grassTold) q 0 wk lm (k + 1) = lastA (I c_land_grassCells) (fun _ => 0) (I c_land_grassWeeks) (I c_land_grassTold) q 0 wk lm k := by
        rw [lastA, if_neg]
        intro z
        refine hz ⟨z.2.2.1, z.2.2.2.1, ?_⟩
        rw [hq2]; split
        · omega
        · rename_i hne; rw [if_neg hne] at hl2; omega
      refine ih I1 (fun c hc9 => ?_) (fun c hc9 => ?_) q3
      · by_cases ec : c = q
        · subst ec; unfold grS; rw [he]; exact q1 c hc9
        · unfold grS; rw [hother c ec]; exact q1 c hc9
      · by_cases ec : c = q
        · subst ec; rw [he]; exact q2 c hc9
        · rw [hother c ec]; exact q2 c hc9
    refine b_La_grassOfWeek2_k14 hS ?_
    have g3 : ∀ a, a ≠ c_then_grass → a ≠ c_then_rests → ∀ j, I1 a j = I a j := fun a h1 h2 j => by rw [q3 a h1 h2]
    rw [g3 c_land (by decide) (by decide), g3 c_land_grassCells (by decide) (by decide), g3 c_land_grassTold (by decide) (by decide), g3 c_land_grassWeeks (by decide) (by decide), hn, ix_nat (by omega), hq, ix_nat (by omega), w32_nat (by omega), w32_nat (by omega), w32_r h4, w32_r h3, w32_r htk, w32_b (z := I c_land_grassWeeks k) (by omega) (by omega), w32_b (z := I1 c_then_rests q) (by omega) (by omega)]
    refine ⟨fun e => absurd e (by omega), fun _ => ⟨inb_b (by omega) (by omega) (by decide), inb_b (by omega) (by omega) (by decide), fun e => hno (by omega), fun e1 => ⟨inb_b (by omega) (by omega) (by decide), fun e => hno (by omega), fun e2 => ⟨inb_b (by omega) (by omega) (by decide), inb_b (by omega) (by omega) (by decide), fun e => hno (by omega), fun e3 => ⟨inb_b (by omega) (by omega) (by decide), inb_b (by omega) (by omega) (by decide), ?_⟩⟩⟩⟩⟩
    intro I3 f3
    refine ⟨inb_b (by omega) (by omega) (by decide), inb_b (by omega) (by omega) (by decide), ?_⟩
    intro I4 f4
    have he : lastA (I c_land_grassCells) (fun _ => 0) (I c_land_grassWeeks) (I c_land_grassTold) q 0 wk lm (k + 1) = ((k : Int), I c_land_grassWeeks k) := by
      rw [lastA, if_pos]
      refine ⟨hq, Int.le_refl _, by omega, by omega, ?_⟩
      rw [hl2]; split
      · omega
      · rename_i hne; rw [if_neg hne] at hq2; omega
    have f5 : I3 c_land_grassNumbers k = I c_land_grassNumbers k := by rw [f3, up_1 _ (by decide), g3 _ (by decide) (by decide)]
    rw [f5] at f4
    subst f4; subst f3
    refine ih _ (fun c hc9 => ?_) (fun c hc9 => ?_) (fun a h1 h2 => ?_)
    · by_cases ec : c = q
      · subst ec; rw [up_s]; unfold grS; rw [he, if_neg (by show ¬ (k : Int) = -1; omega)]; simp
      · rw [up_2 _ ec, up_1 _ (by decide)]; unfold grS; rw [hother c ec]; exact q1 c hc9
    · rw [up_1 _ (by decide)]
      by_cases ec : c = q
      · subst ec; rw [up_s, he, if_neg (by show ¬ (k : Int) = -1; omega)]; simp
      · rw [up_2 _ ec, hother c ec]; exact q2 c hc9
    · rw [up_row h1, up_row h2]; exact q3 a h1 h2
  · rw [xfil_out (by decide), xfil_in hc]; simp [grS, lastA]
  · rw [xfil_in hc]; simp [lastA]
  · rw [xfil_out h2, xfil_out h1]
theorem s_Wt_weighGrass {I : XI} {cl : Int} {c : Nat} {R : Int → XI → Prop} (hS : xSh S) (hcl : cl = (c : Int)) (hc : c < 10) (hy : ∀ j, j < 100 → InR (I c_land_ways j))
    (h : ∀ I', (∀ j, j < 10 → I' c_then_weights j = wvS (I c_land_ways) (I c_then_grass) c j) → (∀ a, a ≠ c_then_weights → I' a = I a) → R (sumA (wvS (I c_land_ways) (I c_then_grass) c) 10) I') : Wt_weighGrass G S I cl R := by
  subst hcl
  refine b_Wt_weighGrass hS ?_
  refine down (n := 10) (P := fun k => ∀ I1 : XI, (∀ j, j < k → I1 c_then_weights j = wvS (I c_land_ways) (I c_then_grass) c j) → (∀ a, a ≠ c_then_weights → I1 a = I a) → Wt_weighGrass_k5 G S I1 (c : Int) (sumA (wvS (I c_land_ways) (I c_then_grass) c) k) (k : Int) R) ?_ ?_ 0 (Nat.zero_le _) I (fun j hj => absurd hj (by omega)) (fun _ _ => rfl)
  · intro I1 q1 q2
    exact b_Wt_weighGrass_k5 hS ⟨fun _ => h I1 q1 q2, fun e => absurd (by decide) e⟩
  · intro k hk ih I1 q1 q2
    have k62 : ∀ v : Int, v = wvS (I c_land_ways) (I c_then_grass) c k → Wt_weighGrass_k62 G S I1 (c : Int) (sumA (wvS (I c_land_ways) (I c_then_grass) c) k) (k : Int) v (k : Int) R := by
      intro v hv
      refine b_Wt_weighGrass_k62 hS ⟨inb_b (by omega) (by omega) (by decide), ?_⟩
      intro I2 f2
      refine ⟨inb_b (by omega) (by omega) (by decide), ?_⟩
      rw [ix_nat (by omega)] at f2 ⊢
      subst f2
      rw [up_s, hv]
      exact ih _ (fun j hj => by
        by_cases ej : j = k
        · rw [ej, up_s]
        · rw [up_2 _ ej]; exact q1 j (by omega)) (fun a ha => by rw [up_row ha]; exact q2 a ha)
    have k38 : ∀ s : Int, (s = 1 ∧ (k = c ∨ 0 < I c_land_ways (c * 10 + k))) ∨ (s = 0 ∧ ¬ (k = c ∨ 0 < I c_land_ways (c * 10 + k))) → Wt_weighGrass_k38 G S I1 (c : Int) (sumA (wvS (I c_land_ways) (I c_then_grass) c) k) (k : Int) s R := by
      intro s hs
      refine b_Wt_weighGrass_k38 hS ?_
      rcases hs with ⟨rfl, hs⟩ | ⟨rfl, hs⟩
      · refine br1 ⟨inb_b (by omega) (by omega) (by decide), k62 _ ?_⟩
        rw [ix_nat (by omega), q2 _ (by decide)]
        exact (if_pos hs).symm
      · exact br0 (k62 _ (if_neg hs).symm)
    refine b_Wt_weighGrass_k5 hS ?_
    have e1 : (c : Int) * 10 + (k : Int) = ((c * 10 + k : Nat) : Int) := by omega
    rw [show w32 10 = 10 from rfl, w32_nat (by omega), w32_nat (by omega), e1, ix_nat (by omega), q2 _ (by decide), w32_r (hy _ (by omega))]
    exact ⟨fun e => absurd e (by omega), fun _ => ⟨fun e => k38 1 (by omega), fun e => ⟨inb_b (by omega) (by omega) (by decide), fun e2 => k38 0 (by omega), fun e2 => k38 1 (by omega)⟩⟩⟩
end PW
