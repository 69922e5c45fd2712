/-! ===== PARTS of all CAMPS together ===== -/
abbrev smF (X : Nat → Nat → Int) (nc ng nn c : Nat) (lm : Int) (fc f a j : Nat) : Nat → Int := fun w => if a ≤ w ∧ f ≤ w then ptA X nc ng nn c lm fc f (w - f) j else 0
abbrev smK (X : Nat → Nat → Int) (nc ng nn c : Nat) (lm : Int) (fc f a b j : Nat) : Int := sumA (smF X nc ng nn c lm fc f a j) (b + 1)
abbrev smT (X : Nat → Nat → Int) (nc ng nn : Nat) (FC FW : Nat → Nat) (lm : Int) (a b m j : Nat) : Int := sumA (fun c => smK X nc ng nn c lm (FC c) (FW c) a b j) m
theorem smF_lo {X : Nat → Nat → Int} {nc ng nn c : Nat} {lm : Int} {fc f a j : Nat} {n : Nat} (h : n ≤ a ∨ n ≤ f) : sumA (smF X nc ng nn c lm fc f a j) n = 0 :=
  sumA_0 (fun i hi => if_neg (fun q => by omega))
def fmS (I I' : XI) : Prop := ∀ a, (a < 45 ∨ (58 < a ∧ a ≠ 76)) → I' a = I a
theorem CP.fmS {I I' : XI} {nc ng nn m : Nat} (h : CP I nc ng nn m) (hf : fmS I I') : CP I' nc ng nn m := by
  unfold CP at h ⊢
  rw [Xof_eq (fun a ha => hf a (by omega)), hf c_land (by decide), hf c_herds (by decide), hf c_herds_firstCells (by decide), hf c_herds_firstWeeks (by decide)]
  exact h
section PSm
variable {G : XG} {S : XS}
theorem s_Wn_sumP {I : XI} {nc ng nn m a b : Nat} {av bv : Int} {R : XI → Prop} (hS : xSh S) (hP : CP I nc ng nn m) (hC : Cach I nc ng nn m) (ha : av = (a : Int)) (hb : bv = (b : Int)) (hb9 : b ≤ 99) (hab : a ≤ b) (h0 : ∀ j, j < 10 → I c_sums j = 0)
    (h : ∀ I', Cach I' nc ng nn m → fmS I I' → (∀ j, j < 10 → I' c_sums j = if j < nc then smT (Xof I) nc ng nn (FCo I) (FWo I) (I c_now 6) a b m j else 0) → R I') : H_sumParts_k20 G S I av bv 0 R := by
  subst ha; subst hb
  have hm := hP.2.2.2.2.1
  have hnc := hP.2.2.2.2.2.1.1
  refine down (n := m) (P := fun c => ∀ I1 : XI, Cach I1 nc ng nn m → fmS I I1 → I1 c_now 6 = I c_now 6 → (∀ j, j < 10 → I1 c_sums j = if j < nc then smT (Xof I) nc ng nn (FCo I) (FWo I) (I c_now 6) a b c j else 0) → H_sumParts_k20 G S I1 (a : Int) (b : Int) (c : Int) R) ?_ ?_ 0 (Nat.zero_le _) I hC (fun _ _ => rfl) rfl (fun j hj => ?_)
  · intro I1 c1 f1 _ s1
    refine b_H_sumParts_k20 hS ⟨fun _ => h I1 c1 f1 s1, fun e => absurd ?_ e⟩
    rw [f1 c_herds (by decide), hP.2.2.2.1]; exact Int.le_refl _
  · intro c hc ih I1 c1 f1 l1 s1
    obtain ⟨p1, p2, p3, p4, p5, p6, p7⟩ := hP.fmS f1
    obtain ⟨q1, q2⟩ := p7 c hc
    have vX : Xof I1 = Xof I := Xof_eq (fun x hx => f1 x (by omega))
    have vC : FCo I1 c = FCo I c := by show (I1 c_herds_firstCells c).toNat = _; rw [f1 c_herds_firstCells (by decide)]
    have vW : FWo I1 c = FWo I c := by show (I1 c_herds_firstWeeks c).toNat = _; rw [f1 c_herds_firstWeeks (by decide)]
    have z1 : I1 c_herds_firstWeeks c = ((FWo I1 c : Nat) : Int) := (Int.toNat_of_nonneg q2.1).symm
    have z2 : I1 c_herds_firstCells c = ((FCo I1 c : Nat) : Int) := (Int.toNat_of_nonneg q1.1).symm
    have h6 : InR (I1 c_now 6) := by have := c1.1; have := c1.2.1; exact ⟨by omega, by omega⟩
    refine b_H_sumParts_k20 hS ⟨fun e => absurd e (by rw [p4, w32_nat (by omega), w32_nat (by omega)]; omega), fun _ => s_Wn_reach (f := FWo I1 c) (fc := FCo I1 c) hS rfl (by omega) rfl hb9 p6 (Xof_XC I1) p1 p2 p3 z1 (by omega) z2 (by omega) h6 (c1.2.2 c hc).1 (fun I7 k1 k2 k3 => ⟨inb_b (by omega) (by omega) (by decide), ?_⟩)⟩
    obtain ⟨c7, g7⟩ := Cach_Wn c1 hc k1 k3
    have l7 : I7 c_now 6 = I c_now 6 := by rw [← l1, k3.1 _ (by decide) (by decide) (by decide) (by decide) (by decide) (by decide)]
    rw [vX, vC, vW] at k1
    rw [ix_nat (k := c) (by omega), g7 c_herds_firstWeeks (by decide), z1, vW, w32_nat (k := a) (by omega), w32_nat (k := FWo I c) (by omega)]
    have s7 : ∀ j, j < 10 → I7 c_sums j = if j < nc then smT (Xof I) nc ng nn (FCo I) (FWo I) (I c_now 6) a b c j else 0 := fun j hj => by rw [g7 _ (by decide)]; exact s1 j hj
    have nxt : ∀ I2 : XI, (∀ x, x ≠ 76 → I2 x = I7 x) → (∀ j, j < 10 → I2 c_sums j = if j < nc then smT (Xof I) nc ng nn (FCo I) (FWo I) (I c_now 6) a b c j + sumA (smF (Xof I) nc ng nn c (I c_now 6) (FCo I c) (FWo I c) a j) (b + 1) else 0) → H_sumParts_k20 G S I2 (a : Int) (b : Int) ((c : Int) + 1) R := by
      intro I2 e2 s2
      refine ih I2 (c7.eq (fun x hx => e2 x (by omega))) (fun x hx => (e2 x (by omega)).trans ((g7 x (by omega)).trans (f1 x hx))) (by rw [e2 _ (by decide)]; exact l7) s2
    have loop : ∀ w, w ≤ b + 1 → a ≤ w → FWo I c ≤ w → ∀ I2 : XI, (∀ x, x ≠ 76 → I2 x = I7 x) → (∀ j, j < 10 → I2 c_sums j = if j < nc then smT (Xof I) nc ng nn (FCo I) (FWo I) (I c_now 6) a b c j + sumA (smF (Xof I) nc ng nn c (I c_now 6) (FCo I c) (FWo I c) a j) w else 0) → H_sumParts_k65 G S I2 (a : Int) (b : Int) (c : Int) (w : Int) R := by
      refine down (n := b + 1) (P := fun w => a ≤ w → FWo I c ≤ w → ∀ I2 : XI, (∀ x, x ≠ 76 → I2 x = I7 x) → (∀ j, j < 10 → I2 c_sums j = if j < nc then smT (Xof I) nc ng nn (FCo I) (FWo I) (I c_now 6) a b c j + sumA (smF (Xof I) nc ng nn c (I c_now 6) (FCo I c) (FWo I c) a j) w else 0) → H_sumParts_k65 G S I2 (a : Int) (b : Int) (c : Int) (w : Int) R) ?_ ?_
      · intro _ _ I2 e2 s2
        exact b_H_sumParts_k65 hS ⟨fun _ => nxt I2 e2 s2, fun e => absurd (by rw [w32_nat (by omega), w32_nat (by omega)]; omega) e⟩
      · intro w hw ihw haw hfw I2 e2 s2
        refine b_H_sumParts_k65 hS ⟨fun e => absurd e (by rw [w32_nat (by omega), w32_nat (by omega)]; omega), fun _ => ?_⟩
        have kw := (k1.2.2 w hfw (by have := k2 (by omega); omega)).1
        refine down (n := nc) (P := fun d => ∀ I3 : XI, (∀ x, x ≠ 76 → I3 x = I7 x) → (∀ j, j < 10 → I3 c_sums j = if j < nc then smT (Xof I) nc ng nn (FCo I) (FWo I) (I c_now 6) a b c j + sumA (smF (Xof I) nc ng nn c (I c_now 6) (FCo I c) (FWo I c) a j) (if j < d then w + 1 else w) else 0) → H_sumParts_k74 G S I3 (a : Int) (b : Int) (c : Int) (w : Int) (d : Int) R) ?_ ?_ 0 (Nat.zero_le _) I2 e2 (fun j hj => by rw [if_neg (show ¬ j < 0 by omega)]; exact s2 j hj)
        · intro I3 e3 s3
          refine b_H_sumParts_k74 hS ⟨fun _ => ihw (by omega) (by omega) I3 e3 (fun j hj => ?_), fun e => absurd ?_ e⟩
          · rw [s3 j hj]
            by_cases cj : j < nc
            · rw [if_pos cj, if_pos cj, if_pos cj]
            · rw [if_neg cj, if_neg cj]
          · rw [e3 _ (by decide), g7 _ (by decide), p1]; exact Int.le_refl _
        · intro d hd ihd I3 e3 s3
          refine b_H_sumParts_k74 hS ⟨fun e => absurd e (by rw [e3 _ (by decide), g7 _ (by decide), p1, w32_nat (by omega), w32_nat (by omega)]; omega), fun _ => ⟨inb_b (by omega) (by omega) (by decide), s_Wn_partsAt hS rfl (by omega) rfl (by omega) rfl (by omega) ⟨inb_b (by omega) (by omega) (by decide), fun I11 e11 => ?_⟩⟩⟩
          rw [ix_nat (k := d) (by omega), e3 c_now_parts (by decide), kw d (by omega), s3 d (by omega), if_pos hd, if_neg (show ¬ d < d by omega), l7] at e11
          subst e11
          refine ihd _ (fun x hx => (up_row hx).trans (e3 x hx)) (fun j hj => ?_)
          by_cases ej : j = d
          · subst ej
            rw [up_s, if_pos hd, if_pos (by omega)]
            have es : sumA (smF (Xof I) nc ng nn c (I c_now 6) (FCo I c) (FWo I c) a j) (w + 1) = sumA (smF (Xof I) nc ng nn c (I c_now 6) (FCo I c) (FWo I c) a j) w + (if a ≤ w ∧ FWo I c ≤ w then ptA (Xof I) nc ng nn c (I c_now 6) (FCo I c) (FWo I c) (w - FWo I c) j else 0) := rfl
            rw [es, if_pos ⟨haw, hfw⟩]; omega
          · rw [up_2 _ ej, s3 j hj]
            by_cases cj : j < d
            · rw [if_pos cj, if_pos (show j < d + 1 by omega)]
            · rw [if_neg cj, if_neg (show ¬ j < d + 1 by omega)]
    by_cases hlt : (a : Int) < ((FWo I c : Nat) : Int)
    · rw [if_pos hlt]
      by_cases hfb : FWo I c ≤ b + 1
      · exact loop (FWo I c) hfb (by omega) (Nat.le_refl _) I7 (fun _ _ => rfl) (fun j hj => by rw [s7 j hj, smF_lo (Or.inr (Nat.le_refl _)), Int.add_zero])
      · refine b_H_sumParts_k65 hS ⟨fun _ => nxt I7 (fun _ _ => rfl) (fun j hj => by rw [s7 j hj, smF_lo (Or.inr (by omega)), Int.add_zero]), fun e => absurd ?_ e⟩
        rw [w32_nat (by omega), w32_nat (by omega)]; omega
    · rw [if_neg hlt]
      exact loop a (by omega) (Nat.le_refl _) (by omega) I7 (fun _ _ => rfl) (fun j hj => by rw [s7 j hj, smF_lo (Or.inl (Nat.le_refl _)), Int.add_zero])
  · rw [h0 j hj]; split <;> rfl
theorem s_Wt_sumP {I : XI} {nc ng nn m a b : Nat} {av bv : Int} {R : XI → Prop} (hS : xSh S) (hP : CP I nc ng nn m) (hC : Cach I nc ng nn m) (ha : av = (a : Int)) (hb : bv = (b : Int)) (hb9 : b ≤ 99) (hab : a ≤ b) (h0 : ∀ j, j < 10 → I c_sums j = 0)
    (h : ∀ I', Cach I' nc ng nn m → fmS I I' → (∀ j, j < 10 → I' c_sums j = if j < nc then smT (Xof I) nc ng nn (FCo I) (FWo I) (I c_then 6) a b m j else 0) → R I') : H_sumParts_k20_2 G S I av bv 0 R := by
  subst ha; subst hb
  have hm := hP.2.2.2.2.1
  have hnc := hP.2.2.2.2.2.1.1
  refine down (n := m) (P := fun c => ∀ I1 : XI, Cach I1 nc ng nn m → fmS I I1 → I1 c_then 6 = I c_then 6 → (∀ j, j < 10 → I1 c_sums j = if j < nc then smT (Xof I) nc ng nn (FCo I) (FWo I) (I c_then 6) a b c j else 0) → H_sumParts_k20_2 G S I1 (a : Int) (b : Int) (c : Int) R) ?_ ?_ 0 (Nat.zero_le _) I hC (fun _ _ => rfl) rfl (fun j hj => ?_)
  · intro I1 c1 f1 _ s1
    refine b_H_sumParts_k20_2 hS ⟨fun _ => h I1 c1 f1 s1, fun e => absurd ?_ e⟩
    rw [f1 c_herds (by decide), hP.2.2.2.1]; exact Int.le_refl _
  · intro c hc ih I1 c1 f1 l1 s1
    obtain ⟨p1, p2, p3, p4, p5, p6, p7⟩ := hP.fmS f1
    obtain ⟨q1, q2⟩ := p7 c hc
    have vX : Xof I1 = Xof I := Xof_eq (fun x hx => f1 x (by omega))
    have vC : FCo I1 c = FCo I c := by show (I1 c_herds_firstCells c).toNat = _; rw [f1 c_herds_firstCells (by decide)]
    have vW : FWo I1 c = FWo I c := by show (I1 c_herds_firstWeeks c).toNat = _; rw [f1 c_herds_firstWeeks (by decide)]
    have z1 : I1 c_herds_firstWeeks c = ((FWo I1 c : Nat) : Int) := (Int.toNat_of_nonneg q2.1).symm
    have z2 : I1 c_herds_firstCells c = ((FCo I1 c : Nat) : Int) := (Int.toNat_of_nonneg q1.1).symm
    have h6 : InR (I1 c_then 6) := by have := c1.1; have := c1.2.1; exact ⟨by omega, by omega⟩
    refine b_H_sumParts_k20_2 hS ⟨fun e => absurd e (by rw [p4, w32_nat (by omega), w32_nat (by omega)]; omega), fun _ => s_Wt_reach (f := FWo I1 c) (fc := FCo I1 c) hS rfl (by omega) rfl hb9 p6 (Xof_XC I1) p1 p2 p3 z1 (by omega) z2 (by omega) h6 (c1.2.2 c hc).2 (fun I7 k1 k2 k3 => ⟨inb_b (by omega) (by omega) (by decide), ?_⟩)⟩
    obtain ⟨c7, g7⟩ := Cach_Wt c1 hc k1 k3
    have l7 : I7 c_then 6 = I c_then 6 := by rw [← l1, k3.1 _ (by decide) (by decide) (by decide) (by decide) (by decide) (by decide)]
    rw [vX, vC, vW] at k1
    rw [ix_nat (k := c) (by omega), g7 c_herds_firstWeeks (by decide), z1, vW, w32_nat (k := a) (by omega), w32_nat (k := FWo I c) (by omega)]
    have s7 : ∀ j, j < 10 → I7 c_sums j = if j < nc then smT (Xof I) nc ng nn (FCo I) (FWo I) (I c_then 6) a b c j else 0 := fun j hj => by rw [g7 _ (by decide)]; exact s1 j hj
    have nxt : ∀ I2 : XI, (∀ x, x ≠ 76 → I2 x = I7 x) → (∀ j, j < 10 → I2 c_sums j = if j < nc then smT (Xof I) nc ng nn (FCo I) (FWo I) (I c_then 6) a b c j + sumA (smF (Xof I) nc ng nn c (I c_then 6) (FCo I c) (FWo I c) a j) (b + 1) else 0) → H_sumParts_k20_2 G S I2 (a : Int) (b : Int) ((c : Int) + 1) R := by
      intro I2 e2 s2
      refine ih I2 (c7.eq (fun x hx => e2 x (by omega))) (fun x hx => (e2 x (by omega)).trans ((g7 x (by omega)).trans (f1 x hx))) (by rw [e2 _ (by decide)]; exact l7) s2
    have loop : ∀ w, w ≤ b + 1 → a ≤ w → FWo I c ≤ w → ∀ I2 : XI, (∀ x, x ≠ 76 → I2 x = I7 x) → (∀ j, j < 10 → I2 c_sums j = if j < nc then smT (Xof I) nc ng nn (FCo I) (FWo I) (I c_then 6) a b c j + sumA (smF (Xof I) nc ng nn c (I c_then 6) (FCo I c) (FWo I c) a j) w else 0) → H_sumParts_k65_2 G S I2 (a : Int) (b : Int) (c : Int) (w : Int) R := by
      refine down (n := b + 1) (P := fun w => a ≤ w → FWo I c ≤ w → ∀ I2 : XI, (∀ x, x ≠ 76 → I2 x = I7 x) → (∀ j, j < 10 → I2 c_sums j = if j < nc then smT (Xof I) nc ng nn (FCo I) (FWo I) (I c_then 6) a b c j + sumA (smF (Xof I) nc ng nn c (I c_then 6) (FCo I c) (FWo I c) a j) w else 0) → H_sumParts_k65_2 G S I2 (a : Int) (b : Int) (c : Int) (w : Int) R) ?_ ?_
      · intro _ _ I2 e2 s2
        exact b_H_sumParts_k65_2 hS ⟨fun _ => nxt I2 e2 s2, fun e => absurd (by rw [w32_nat (by omega), w32_nat (by omega)]; omega) e⟩
      · intro w hw ihw haw hfw I2 e2 s2
        refine b_H_sumParts_k65_2 hS ⟨fun e => absurd e (by rw [w32_nat (by omega), w32_nat (by omega)]; omega), fun _ => ?_⟩
        have kw := (k1.2.2 w hfw (by have := k2 (by omega); omega)).1
        refine down (n := nc) (P := fun d => ∀ I3 : XI, (∀ x, x ≠ 76 → I3 x = I7 x) → (∀ j, j < 10 → I3 c_sums j = if j < nc then smT (Xof I) nc ng nn (FCo I) (FWo I) (I c_then 6) a b c j + sumA (smF (Xof I) nc ng nn c (I c_then 6) (FCo I c) (FWo I c) a j) (if j < d then w + 1 else w) else 0) → H_sumParts_k74_2 G S I3 (a : Int) (b : Int) (c : Int) (w : Int) (d : Int) R) ?_ ?_ 0 (Nat.zero_le _) I2 e2 (fun j hj => by rw [if_neg (show ¬ j < 0 by omega)]; exact s2 j hj)
        · intro I3 e3 s3
          refine b_H_sumParts_k74_2 hS ⟨fun _ => ihw (by omega) (by omega) I3 e3 (fun j hj => ?_), fun e => absurd ?_ e⟩
          · rw [s3 j hj]
            by_cases cj : j < nc
            · rw [if_pos cj, if_pos cj, if_pos cj]
            · rw [if_neg cj, if_neg cj]
          · rw [e3 _ (by decide), g7 _ (by decide), p1]; exact Int.le_refl _
        · intro d hd ihd I3 e3 s3
          refine b_H_sumParts_k74_2 hS ⟨fun e => absurd e (by rw [e3 _ (by decide), g7 _ (by decide), p1, w32_nat (by omega), w32_nat (by omega)]; omega), fun _ => ⟨inb_b (by omega) (by omega) (by decide), s_Wt_partsAt hS rfl (by omega) rfl (by omega) rfl (by omega) ⟨inb_b (by omega) (by omega) (by decide), fun I11 e11 => ?_⟩⟩⟩
          rw [ix_nat (k := d) (by omega), e3 c_then_parts (by decide), kw d (by omega), s3 d (by omega), if_pos hd, if_neg (show ¬ d < d by omega), l7] at e11
          subst e11
          refine ihd _ (fun x hx => (up_row hx).trans (e3 x hx)) (fun j hj => ?_)
          by_cases ej : j = d
          · subst ej
            rw [up_s, if_pos hd, if_pos (by omega)]
            have es : sumA (smF (Xof I) nc ng nn c (I c_then 6) (FCo I c) (FWo I c) a j) (w + 1) = sumA (smF (Xof I) nc ng nn c (I c_then 6) (FCo I c) (FWo I c) a j) w + (if a ≤ w ∧ FWo I c ≤ w then ptA (Xof I) nc ng nn c (I c_then 6) (FCo I c) (FWo I c) (w - FWo I c) j else 0) := rfl
            rw [es, if_pos ⟨haw, hfw⟩]; omega
          · rw [up_2 _ ej, s3 j hj]
            by_cases cj : j < d
            · rw [if_pos cj, if_pos (show j < d + 1 by omega)]
            · rw [if_neg cj, if_neg (show ¬ j < d + 1 by omega)]
    by_cases hlt : (a : Int) < ((FWo I c : Nat) : Int)
    · rw [if_pos hlt]
      by_cases hfb : FWo I c ≤ b + 1
      · exact loop (FWo I c) hfb (by omega) (Nat.le_refl _) I7 (fun _ _ => rfl) (fun j hj => by rw [s7 j hj, smF_lo (Or.inr (Nat.le_refl _)), Int.add_zero])
      · refine b_H_sumParts_k65_2 hS ⟨fun _ => nxt I7 (fun _ _ => rfl) (fun j hj => by rw [s7 j hj, smF_lo (Or.inr (by omega)), Int.add_zero]), fun e => absurd ?_ e⟩
        rw [w32_nat (by omega), w32_nat (by omega)]; omega
    · rw [if_neg hlt]
      exact loop a (by omega) (Nat.le_refl _) (by omega) I7 (fun _ _ => rfl) (fun j hj => by rw [s7 j hj, smF_lo (Or.inl (Nat.le_refl _)), Int.add_zero])
  · rw [h0 j hj]; split <;> rfl
theorem fmC.toS {I I' : XI} (h : fmC I I') : fmS I I' := fun a ha => h a (by omega)
theorem fmS.trans {I J K : XI} (h1 : fmS I J) (h2 : fmS J K) : fmS I K := fun a ha => (h2 a ha).trans (h1 a ha)
/-- the class' sums -/
theorem s_H_sumParts {I : XI} {a b : Nat} {av bv : Int} {R : XI → Prop} (hS : xSh S) (hI : Rel S I) (ha : av = (a : Int)) (hb : bv = (b : Int)) (hb9 : b ≤ 99) (hab : a ≤ b)
    (h : ∀ I', Cach I' (nC I) (nG I) (nN I) (nM I) → fmS I I' → (∀ j, j < 10 → I' c_sums j = if j < nC I then smT (Xof I) (nC I) (nG I) (nN I) (FCo I) (FWo I) (viewR I) a b (nM I) j else 0) → R I') : H_sumParts G S I av bv R := by
  have hl := limC_in hI.good
  have elim : ∀ j, smT (Xof I) (nC I) (nG I) (nN I) (FCo I) (FWo I) (limC I) a b (nM I) j = smT (Xof I) (nC I) (nG I) (nN I) (FCo I) (FWo I) (viewR I) a b (nM I) j := fun j => by
    unfold smT
    refine sumA_congr (fun c _ => ?_)
    unfold smK smF
    rw [show (fun w => if a ≤ w ∧ FWo I c ≤ w then ptA (Xof I) (nC I) (nG I) (nN I) (c : Int) (limC I) (FCo I c) (FWo I c) (w - FWo I c) j else 0) = (fun w => if a ≤ w ∧ FWo I c ≤ w then ptA (Xof I) (nC I) (nG I) (nN I) (c : Int) (viewR I) (FCo I c) (FWo I c) (w - FWo I c) j else 0) from funext fun w => by rw [hI.1.pt]]
  refine b_H_sumParts hS (s_H_limit hS hI.1 (s_H_whereBy hS hI.1.CP hI.2.1 hl (fun e => ⟨Or.inl rfl, fun _ => ?_, fun e2 => absurd e2 (by decide)⟩) (fun e I' c1 c2 c3 => ⟨Or.inr rfl, fun e2 => absurd e2 (by decide), fun _ => ?_⟩)))
  · refine s_fill hS (sN_c_sums hS) (sT_c_sums hS) (sL_c_sums hS) (by decide) ?_
    have f1 : fmS I (xfil I c_sums 10 0) := fun x hx => xfil_out (show x ≠ 76 by omega)
    have vX : Xof (xfil I c_sums 10 0) = Xof I := Xof_eq (fun x hx => f1 x (by omega))
    have vC : FCo (xfil I c_sums 10 0) = FCo I := by funext c; show (xfil I c_sums 10 0 c_herds_firstCells c).toNat = _; rw [f1 c_herds_firstCells (by decide)]
    have vW : FWo (xfil I c_sums 10 0) = FWo I := by funext c; show (xfil I c_sums 10 0 c_herds_firstWeeks c).toNat = _; rw [f1 c_herds_firstWeeks (by decide)]
    have e6 : xfil I c_sums 10 0 c_now 6 = limC I := by rw [xfil_out (by decide), hI.2.1.1, e]
    refine s_Wn_sumP hS (hI.1.CP.fmS f1) (hI.2.1.eq (fun x hx => xfil_out (show x ≠ 76 by omega))) ha hb hb9 hab (fun j hj => xfil_in hj) (fun I2 d1 d2 d3 => h I2 d1 (f1.trans d2) (fun j hj => ?_))
    rw [d3 j hj, vX, vC, vW, e6, elim]
  · refine s_fill hS (sN_c_sums hS) (sT_c_sums hS) (sL_c_sums hS) (by decide) ?_
    have f1 : fmS I' (xfil I' c_sums 10 0) := fun x hx => xfil_out (show x ≠ 76 by omega)
    have f2 : fmS I (xfil I' c_sums 10 0) := c2.toS.trans f1
    have vX : Xof (xfil I' c_sums 10 0) = Xof I := Xof_eq (fun x hx => f2 x (by omega))
    have vC : FCo (xfil I' c_sums 10 0) = FCo I := by funext c; show (xfil I' c_sums 10 0 c_herds_firstCells c).toNat = _; rw [f2 c_herds_firstCells (by decide)]
    have vW : FWo (xfil I' c_sums 10 0) = FWo I := by funext c; show (xfil I' c_sums 10 0 c_herds_firstWeeks c).toNat = _; rw [f2 c_herds_firstWeeks (by decide)]
    have e6 : xfil I' c_sums 10 0 c_then 6 = limC I := by rw [xfil_out (by decide), c3]
    refine s_Wt_sumP hS (hI.1.CP.fmS f2) (c1.eq (fun x hx => xfil_out (show x ≠ 76 by omega))) ha hb hb9 hab (fun j hj => xfil_in hj) (fun I2 d1 d2 d3 => h I2 d1 (f2.trans d2) (fun j hj => ?_))
    rw [d3 j hj, vX, vC, vW, e6, elim]
end PSm
