/-! ===== due, late, torn, left, owed, ever had; counts ===== -/
def dueA (B K W T M D : Nat → Int) (bk wk lm : Int) (n : Nat) : Int := if (lastA B K W T bk 0 wk lm n).1 = -1 then -1 else dueN D (99 - (W (lastA B K W T bk 0 wk lm n).1.toNat).toNat) (M (lastA B K W T bk 0 wk lm n).1.toNat) ((W (lastA B K W T bk 0 wk lm n).1.toNat).toNat + 1)
def lateA (f g : Nat → Int) (c w : Int) : Nat → Int
  | 0 => 0
  | n + 1 => if f n = c ∧ g n < w then lateA f g c w n + 1 else lateA f g c w n
def sumA (f : Nat → Int) : Nat → Int
  | 0 => 0
  | n + 1 => sumA f n + f n
/-- what an ACT of tearing adds -/
def tornF (X K W T M : Nat → Int) (x wk lm : Int) (j : Nat) : Int := if X j = x ∧ K j = 3 ∧ W j ≤ wk ∧ T j ≤ lm then M j else 0
theorem lastA_sat {B K W T : Nat → Int} {bk lk wk lm : Int} : ∀ n : Nat, (lastA B K W T bk lk wk lm n).1 ≠ -1 → B (lastA B K W T bk lk wk lm n).1.toNat = bk ∧ K (lastA B K W T bk lk wk lm n).1.toNat ≤ lk ∧ T (lastA B K W T bk lk wk lm n).1.toNat ≤ lm ∧ W (lastA B K W T bk lk wk lm n).1.toNat ≤ wk
  | 0 => by simp [lastA]
  | n + 1 => by
    by_cases h : B n = bk ∧ K n ≤ lk ∧ T n ≤ lm ∧ W n ≤ wk ∧ (lastA B K W T bk lk wk lm n).2 ≤ W n
    · have e : lastA B K W T bk lk wk lm (n + 1) = ((n : Int), W n) := by rw [lastA, if_pos h]
      rw [e]; intro _; simp only [Int.toNat_natCast]; exact ⟨h.1, h.2.1, h.2.2.1, h.2.2.2.1⟩
    · have e : lastA B K W T bk lk wk lm (n + 1) = lastA B K W T bk lk wk lm n := by rw [lastA, if_neg h]
      rw [e]; exact lastA_sat n
theorem dueN_in {D : Nat → Int} : ∀ (f : Nat) (l : Int) (w : Nat), w + f ≤ 100 → 0 ≤ dueN D f l w ∧ dueN D f l w ≤ 100
  | 0, _, _, _ => by simp [dueN]
  | f + 1, l, w, h => by
    unfold dueN
    split
    · omega
    · exact dueN_in f _ _ (by omega)
theorem dueA_in {B K W T M D : Nat → Int} {bk wk lm : Int} {n : Nat} (hw : ∀ j, j < n → 0 ≤ W j ∧ W j ≤ 99) : -1 ≤ dueA B K W T M D bk wk lm n ∧ dueA B K W T M D bk wk lm n ≤ 100 := by
  have hin := lastA_in (B := B) (K := K) (W := W) (T := T) (bk := bk) (lk := 0) (wk := wk) (lm := lm) n
  unfold dueA
  split
  · omega
  · have hw1 := hw (lastA B K W T bk 0 wk lm n).1.toNat (by omega)
    have := dueN_in (D := D) (99 - (W (lastA B K W T bk 0 wk lm n).1.toNat).toNat) (M (lastA B K W T bk 0 wk lm n).1.toNat) ((W (lastA B K W T bk 0 wk lm n).1.toNat).toNat + 1) (by omega)
    omega
theorem lateA_congr {f g f' g' : Nat → Int} {c w : Int} : ∀ {n : Nat}, (∀ j, j < n → f j = f' j ∧ (f j = c → g j = g' j)) → lateA f g c w n = lateA f' g' c w n
  | 0, _ => rfl
  | n + 1, h => by
    obtain ⟨h1, h2⟩ := h n (by omega)
    have ih := lateA_congr (c := c) (w := w) (n := n) (fun j hj => h j (by omega))
    unfold lateA
    rw [ih]
    by_cases hc : f n = c
    · rw [h2 hc, h1]
    · rw [if_neg (by omega), if_neg (by omega)]
theorem sumA_congr {f g : Nat → Int} : ∀ {n : Nat}, (∀ j, j < n → f j = g j) → sumA f n = sumA g n
  | 0, _ => rfl
  | n + 1, h => by unfold sumA; rw [sumA_congr (n := n) (fun j hj => h j (by omega)), h n (by omega)]
section P3
variable {G : XG} {S : XS} {I : XI} {n : Nat}
theorem s_Sh_dueWeek {bk wk lm : Int} {R : Int → XI → Prop} (hS : xSh S) (hI : okC I) (hn : I c_shelf 6 = (n : Int)) (hn2 : n ≤ 150) (hk : ∀ j, j < n → 0 ≤ I c_shelf_actKinds j) (hw : ∀ j, j < n → 0 ≤ I c_shelf_actWeeks j ∧ I c_shelf_actWeeks j ≤ 99) (hm : ∀ j, j < n → I c_shelf_actKinds j = 0 → 1 ≤ I c_shelf_actAmounts j ∧ I c_shelf_actAmounts j ≤ 1000000) (hd : ∀ j, j < 100 → I c_land_dry j = 0 ∨ I c_land_dry j = 1) (h1 : InR bk) (h3 : InR wk) (h4 : InR lm)
    (h : R (dueA (I c_shelf_actBooks) (I c_shelf_actKinds) (I c_shelf_actWeeks) (I c_shelf_actTold) (I c_shelf_actAmounts) (I c_land_dry) bk wk lm n) I) : Sh_dueWeek G S I bk wk lm R := by
  refine b_Sh_dueWeek hS (s_Sh_lastAct hS hI hn hn2 h1 ⟨by decide, by decide⟩ h3 h4 ?_)
  unfold dueA at h
  have hin := lastA_in (B := I c_shelf_actBooks) (K := I c_shelf_actKinds) (W := I c_shelf_actWeeks) (T := I c_shelf_actTold) (bk := bk) (lk := 0) (wk := wk) (lm := lm) n
  have hsat := lastA_sat (B := I c_shelf_actBooks) (K := I c_shelf_actKinds) (W := I c_shelf_actWeeks) (T := I c_shelf_actTold) (bk := bk) (lk := 0) (wk := wk) (lm := lm) n
  generalize (lastA (I c_shelf_actBooks) (I c_shelf_actKinds) (I c_shelf_actWeeks) (I c_shelf_actTold) bk 0 wk lm n).1 = z at h hin hsat ⊢
  rw [w32_b (z := z) (by omega) (by omega), show w32 (-1) = -1 from rfl]
  refine ⟨fun e => ?_, fun e => ⟨inb_b (by omega) (by omega) (by decide), inb_b (by omega) (by omega) (by decide), ?_⟩⟩
  · rw [if_pos e] at h; exact h
  · rw [if_neg e] at h
    rw [ix_b (by omega) (by omega)]
    have hs := hsat e
    have hk1 := hk z.toNat (by omega)
    have hw1 := hw z.toNat (by omega)
    have hm1 := hm z.toNat (by omega) (by omega)
    have e1 : I c_shelf_actWeeks z.toNat + 1 = (((I c_shelf_actWeeks z.toNat).toNat + 1 : Nat) : Int) := by omega
    rw [e1]
    refine s_Sh_dueWeek_k hS hd hm1.1 hm1.2 (by omega) ?_
    rw [show 100 - ((I c_shelf_actWeeks z.toNat).toNat + 1) = 99 - (I c_shelf_actWeeks z.toNat).toNat by omega]
    exact h
theorem s_Sh_lateWith {cp wk lm : Int} {b : Nat} {R : Int → XI → Prop} (hS : xSh S) (hI : okC I) (hn : I c_shelf 6 = (n : Int)) (hn2 : n ≤ 150) (hb : I c_shelf 0 = (b : Int)) (hb2 : b ≤ 24) (hk : ∀ j, j < n → 0 ≤ I c_shelf_actKinds j) (hw : ∀ j, j < n → 0 ≤ I c_shelf_actWeeks j ∧ I c_shelf_actWeeks j ≤ 99) (hm : ∀ j, j < n → I c_shelf_actKinds j = 0 → 1 ≤ I c_shelf_actAmounts j ∧ I c_shelf_actAmounts j ≤ 1000000) (hd : ∀ j, j < 100 → I c_land_dry j = 0 ∨ I c_land_dry j = 1) (h1 : InR cp) (h3 : InR wk) (h4 : InR lm)
    (h : R (lateA (fun q => whoA (I c_shelf_actBooks) (I c_shelf_actKinds) (I c_shelf_actCamps) (I c_shelf_actWeeks) (I c_shelf_actTold) q wk lm n) (fun q => dueA (I c_shelf_actBooks) (I c_shelf_actKinds) (I c_shelf_actWeeks) (I c_shelf_actTold) (I c_shelf_actAmounts) (I c_land_dry) q wk lm n) cp wk b) I) : Sh_lateWith G S I cp wk lm R := by
  refine b_Sh_lateWith hS ?_
  refine down (n := b) (P := fun k => Sh_lateWith_k6 G S I cp wk lm (lateA (fun q => whoA (I c_shelf_actBooks) (I c_shelf_actKinds) (I c_shelf_actCamps) (I c_shelf_actWeeks) (I c_shelf_actTold) q wk lm n) (fun q => dueA (I c_shelf_actBooks) (I c_shelf_actKinds) (I c_shelf_actWeeks) (I c_shelf_actTold) (I c_shelf_actAmounts) (I c_land_dry) q wk lm n) cp wk k) (k : Int) R) ?_ ?_ 0 (Nat.zero_le _)
  · exact b_Sh_lateWith_k6 hS ⟨fun _ => h, fun e => absurd (Int.le_refl _) (by rw [hb] at e; exact e)⟩
  · intro k hkb ih
    refine b_Sh_lateWith_k6 hS ?_
    rw [hb, w32_nat (by omega), w32_nat (by omega)]
    refine ⟨fun e => absurd e (by omega), fun _ => s_Sh_holder hS hI hn hn2 ⟨by omega, by omega⟩ h3 h4 ?_⟩
    rw [w32_r (whoA_InR fun j => hI _ j (by decide)), w32_r h1]
    unfold lateA at ih
    refine ⟨fun e => s_Sh_dueWeek hS hI hn hn2 hk hw hm hd ⟨by omega, by omega⟩ h3 h4 ?_, fun e => by rw [if_neg (fun q => e q.1)] at ih; exact ih⟩
    have hdi := dueA_in (B := I c_shelf_actBooks) (K := I c_shelf_actKinds) (T := I c_shelf_actTold) (M := I c_shelf_actAmounts) (D := I c_land_dry) (bk := k) (wk := wk) (lm := lm) hw
    rw [w32_r h3, w32_b (z := dueA _ _ _ _ _ _ _ _ _ _) (by omega) (by omega)]
    exact ⟨fun e2 => by rw [if_neg (fun q => by have := q.2; omega)] at ih; exact ih, fun e2 => by rw [if_pos ⟨e, by omega⟩] at ih; exact ih⟩
theorem s_Sh_isTorn {i wk lm : Int} {R : Int → XI → Prop} {j : Nat} (hS : xSh S) (hI : okC I) (hj : i = (j : Int)) (hj2 : j < 150) (h3 : InR wk) (h4 : InR lm) (ht : I c_shelf_actKinds j = 3 ∧ I c_shelf_actWeeks j ≤ wk ∧ I c_shelf_actTold j ≤ lm → R 1 I) (hf : ¬ (I c_shelf_actKinds j = 3 ∧ I c_shelf_actWeeks j ≤ wk ∧ I c_shelf_actTold j ≤ lm) → R 0 I) : Sh_isTorn G S I i wk lm R := by
  subst hj
  refine b_Sh_isTorn hS ?_
  simp (disch := first | decide | omega) only [w32_nat, ix_nat, hI.w, w32_r h3, w32_r h4, show w32 3 = 3 from rfl]
  repeat' (with_reducible first | apply And.intro | intro _)
  all_goals first | exact inb_b (by omega) (by omega) (by omega) | exact ht (by omega) | exact hf (by omega)
theorem s_Sh_pagesLeft {bk wk lm : Int} {q : Nat} {R : Int → XI → Prop} (hS : xSh S) (hI : okC I) (hn : I c_shelf 6 = (n : Int)) (hn2 : n ≤ 150) (hq : bk = (q : Int)) (hq2 : q < 24) (h3 : InR wk) (h4 : InR lm)
    (h : R (I c_shelf_pages q - sumA (tornF (I c_shelf_actBooks) (I c_shelf_actKinds) (I c_shelf_actWeeks) (I c_shelf_actTold) (I c_shelf_actAmounts) bk wk lm) n) I) : Sh_pagesLeft G S I bk wk lm R := by
  have h1 : InR bk := ⟨by omega, by omega⟩
  refine b_Sh_pagesLeft hS ⟨inb_b (by omega) (by omega) (by decide), ?_⟩
  rw [show ix bk = q by rw [hq, ix_nat (by omega)]]
  have key := down (n := n) (P := fun k => Sh_pagesLeft_k11 G S I bk wk lm (I c_shelf_pages q - sumA (tornF (I c_shelf_actBooks) (I c_shelf_actKinds) (I c_shelf_actWeeks) (I c_shelf_actTold) (I c_shelf_actAmounts) bk wk lm) k) (k : Int) R) ?_ ?_ 0 (Nat.zero_le _)
  · rw [show sumA (tornF (I c_shelf_actBooks) (I c_shelf_actKinds) (I c_shelf_actWeeks) (I c_shelf_actTold) (I c_shelf_actAmounts) bk wk lm) 0 = 0 from rfl, Int.sub_zero] at key
    exact key
  · exact b_Sh_pagesLeft_k11 hS ⟨fun _ => h, fun e => absurd (Int.le_refl _) (by rw [hn] at e; exact e)⟩
  · intro k hk ih
    refine b_Sh_pagesLeft_k11 hS ?_
    simp (disch := first | decide | omega) only [hn, w32_nat, ix_nat, hI.w, w32_r h1]
    unfold sumA at ih
    refine ⟨fun e => absurd e (by omega), fun _ => ⟨inb_b (by omega) (by omega) (by decide), fun e => ?_, fun e => ?_⟩⟩
    · refine s_Sh_isTorn hS hI rfl (by omega) h3 h4 (fun ht => br1 ⟨inb_b (by omega) (by omega) (by decide), ?_⟩) (fun hf => br0 ?_)
      · rw [show tornF (I c_shelf_actBooks) (I c_shelf_actKinds) (I c_shelf_actWeeks) (I c_shelf_actTold) (I c_shelf_actAmounts) bk wk lm k = I c_shelf_actAmounts k from if_pos ⟨e, ht⟩, ← Int.sub_sub] at ih
        exact ih
      · rw [show tornF (I c_shelf_actBooks) (I c_shelf_actKinds) (I c_shelf_actWeeks) (I c_shelf_actTold) (I c_shelf_actAmounts) bk wk lm k = 0 from if_neg (fun q => hf q.2), Int.add_zero] at ih
        exact ih
    · rw [show tornF (I c_shelf_actBooks) (I c_shelf_actKinds) (I c_shelf_actWeeks) (I c_shelf_actTold) (I c_shelf_actAmounts) bk wk lm k = 0 from if_neg (fun q => e q.1), Int.add_zero] at ih
      exact ih
theorem s_Sh_tornBy {cp wk lm : Int} {R : Int → XI → Prop} (hS : xSh S) (hI : okC I) (hn : I c_shelf 6 = (n : Int)) (hn2 : n ≤ 150) (h1 : InR cp) (h3 : InR wk) (h4 : InR lm)
    (h : R (sumA (tornF (I c_shelf_actCamps) (I c_shelf_actKinds) (I c_shelf_actWeeks) (I c_shelf_actTold) (I c_shelf_actAmounts) cp wk lm) n) I) : Sh_tornBy G S I cp wk lm R := by
  refine b_Sh_tornBy hS ?_
  refine down (n := n) (P := fun k => Sh_tornBy_k6 G S I cp wk lm (sumA (tornF (I c_shelf_actCamps) (I c_shelf_actKinds) (I c_shelf_actWeeks) (I c_shelf_actTold) (I c_shelf_actAmounts) cp wk lm) k) (k : Int) R) ?_ ?_ 0 (Nat.zero_le _)
  · exact b_Sh_tornBy_k6 hS ⟨fun _ => h, fun e => absurd (Int.le_refl _) (by rw [hn] at e; exact e)⟩
  · intro k hk ih
    refine b_Sh_tornBy_k6 hS ?_
    simp (disch := first | decide | omega) only [hn, w32_nat, ix_nat, hI.w, w32_r h1]
    unfold sumA at ih
    refine ⟨fun e => absurd e (by omega), fun _ => ⟨inb_b (by omega) (by omega) (by decide), fun e => ?_, fun e => ?_⟩⟩
    · refine s_Sh_isTorn hS hI rfl (by omega) h3 h4 (fun ht => br1 ⟨inb_b (by omega) (by omega) (by decide), ?_⟩) (fun hf => br0 ?_)
      · rw [show tornF (I c_shelf_actCamps) (I c_shelf_actKinds) (I c_shelf_actWeeks) (I c_shelf_actTold) (I c_shelf_actAmounts) cp wk lm k = I c_shelf_actAmounts k from if_pos ⟨e, ht⟩] at ih
        exact ih
      · rw [show tornF (I c_shelf_actCamps) (I c_shelf_actKinds) (I c_shelf_actWeeks) (I c_shelf_actTold) (I c_shelf_actAmounts) cp wk lm k = 0 from if_neg (fun q => hf q.2), Int.add_zero] at ih
        exact ih
    · rw [show tornF (I c_shelf_actCamps) (I c_shelf_actKinds) (I c_shelf_actWeeks) (I c_shelf_actTold) (I c_shelf_actAmounts) cp wk lm k = 0 from if_neg (fun q => e q.1), Int.add_zero] at ih
      exact ih
theorem s_Sh_owedBy {cp wk lm : Int} {R : Int → XI → Prop} (hS : xSh S) (hI : okC I) (hn : I c_shelf 6 = (n : Int)) (hn2 : n ≤ 150) (h1 : InR cp) (h3 : InR wk) (h4 : InR lm)
    (h : R (sumA (tornF (I c_shelf_actCamps) (I c_shelf_actKinds) (I c_shelf_actWeeks) (I c_shelf_actTold) (fun j => I c_shelf_actAmounts j * I c_shelf_actCosts j) cp wk lm) n) I) : Sh_owedBy G S I cp wk lm R := by
  refine b_Sh_owedBy hS ?_
  refine down (n := n) (P := fun k => Sh_owedBy_k6 G S I cp wk lm (sumA (tornF (I c_shelf_actCamps) (I c_shelf_actKinds) (I c_shelf_actWeeks) (I c_shelf_actTold) (fun j => I c_shelf_actAmounts j * I c_shelf_actCosts j) cp wk lm) k) (k : Int) R) ?_ ?_ 0 (Nat.zero_le _)
  · exact b_Sh_owedBy_k6 hS ⟨fun _ => h, fun e => absurd (Int.le_refl _) (by rw [hn] at e; exact e)⟩
  · intro k hk ih
    refine b_Sh_owedBy_k6 hS ?_
    simp (disch := first | decide | omega) only [hn, w32_nat, ix_nat, hI.w, w32_r h1]
    unfold sumA at ih
    refine ⟨fun e => absurd e (by omega), fun _ => ⟨inb_b (by omega) (by omega) (by decide), fun e => ?_, fun e => ?_⟩⟩
    · refine s_Sh_isTorn hS hI rfl (by omega) h3 h4 (fun ht => br1 ⟨inb_b (by omega) (by omega) (by decide), inb_b (by omega) (by omega) (by decide), ?_⟩) (fun hf => br0 ?_)
      · rw [show tornF (I c_shelf_actCamps) (I c_shelf_actKinds) (I c_shelf_actWeeks) (I c_shelf_actTold) (fun j => I c_shelf_actAmounts j * I c_shelf_actCosts j) cp wk lm k = I c_shelf_actAmounts k * I c_shelf_actCosts k from if_pos ⟨e, ht⟩] at ih
        exact ih
      · rw [show tornF (I c_shelf_actCamps) (I c_shelf_actKinds) (I c_shelf_actWeeks) (I c_shelf_actTold) (fun j => I c_shelf_actAmounts j * I c_shelf_actCosts j) cp wk lm k = 0 from if_neg (fun q => hf q.2), Int.add_zero] at ih
        exact ih
    · rw [show tornF (I c_shelf_actCamps) (I c_shelf_actKinds) (I c_shelf_actWeeks) (I c_shelf_actTold) (fun j => I c_shelf_actAmounts j * I c_shelf_actCosts j) cp wk lm k = 0 from if_neg (fun q => e q.1), Int.add_zero] at ih
      exact ih
theorem s_Sh_everHad {bk cp lm : Int} {R : Int → XI → Prop} (hS : xSh S) (hI : okC I) (hn : I c_shelf 6 = (n : Int)) (hn2 : n ≤ 150) (h1 : InR bk) (h2 : InR cp) (h4 : InR lm)
    (ht : (∃ j, j < n ∧ I c_shelf_actBooks j = bk ∧ I c_shelf_actKinds j ≤ 1 ∧ I c_shelf_actCamps j = cp ∧ I c_shelf_actTold j ≤ lm) → R 1 I) (hf : ¬ (∃ j, j < n ∧ I c_shelf_actBooks j = bk ∧ I c_shelf_actKinds j ≤ 1 ∧ I c_shelf_actCamps j = cp ∧ I c_shelf_actTold j ≤ lm) → R 0 I) : Sh_everHad G S I bk cp lm R := by
  refine b_Sh_everHad hS ?_
  refine down (n := n) (P := fun k => (∀ j, j < k → ¬ (I c_shelf_actBooks j = bk ∧ I c_shelf_actKinds j ≤ 1 ∧ I c_shelf_actCamps j = cp ∧ I c_shelf_actTold j ≤ lm)) → Sh_everHad_k3 G S I bk cp lm (k : Int) R) ?_ ?_ 0 (Nat.zero_le _) (fun j hj => absurd hj (by omega))
  · intro hno
    exact b_Sh_everHad_k3 hS ⟨fun _ => hf (fun ⟨j, hj, q⟩ => hno j hj q), fun e => absurd (Int.le_refl _) (by rw [hn] at e; exact e)⟩
  · intro k hk ih hno
    have ih' : ¬ (I c_shelf_actBooks k = bk ∧ I c_shelf_actKinds k ≤ 1 ∧ I c_shelf_actCamps k = cp ∧ I c_shelf_actTold k ≤ lm) → Sh_everHad_k3 G S I bk cp lm ((k : Int) + 1) R := fun q => ih (fun j hj => by
      by_cases e : j = k
      · subst e; exact q
      · exact hno j (by omega))
    refine b_Sh_everHad_k3 hS ?_
    simp (disch := first | decide | omega) only [hn, w32_nat, ix_nat, hI.w, w32_r h1, w32_r h2, w32_r h4, show w32 1 = 1 from rfl]
    repeat' (with_reducible first | apply And.intro | intro _)
    all_goals first | omega | exact inb_b (by omega) (by omega) (by omega) | exact ih' (by omega) | exact ht ⟨k, hk, by omega, by omega, by omega, by omega⟩
end P3
