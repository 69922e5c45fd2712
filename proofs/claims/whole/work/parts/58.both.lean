/-! ===== the class: what the two Wheres know, looked at by either ===== -/
def Xof (I : XI) : Nat → Nat → Int
  | 0 => I c_land_ways
  | 1 => I c_land_grassCells
  | 2 => I c_land_grassWeeks
  | 3 => I c_land_grassNumbers
  | 4 => I c_land_grassTold
  | 5 => I c_herds_newsCamps
  | 6 => I c_herds_newsCells
  | 7 => I c_herds_newsWeeks
  | 8 => I c_herds_newsSeen
  | _ => I c_herds_newsTold
theorem Xof_XC (I : XI) : XC I (Xof I) := ⟨rfl, rfl, rfl, rfl, rfl, rfl, rfl, rfl, rfl, rfl⟩
abbrev FCo (I : XI) (c : Nat) : Nat := (I c_herds_firstCells c).toNat
abbrev FWo (I : XI) (c : Nat) : Nat := (I c_herds_firstWeeks c).toNat
/-- what PARTS need of the class' cells -/
def CP (I : XI) (nc ng nn m : Nat) : Prop := I c_land 0 = (nc : Int) ∧ I c_land 3 = (ng : Int) ∧ I c_herds 5 = (nn : Int) ∧ I c_herds 0 = (m : Int) ∧ m ≤ 6 ∧ PtOk (Xof I) nc ng nn ∧ ∀ c, c < m → (0 ≤ I c_herds_firstCells c ∧ I c_herds_firstCells c < (nc : Int)) ∧ 0 ≤ I c_herds_firstWeeks c ∧ I c_herds_firstWeeks c ≤ 99
/-- what the two Wheres know is true -/
def Cach (I : XI) (nc ng nn m : Nat) : Prop := I c_now 6 = 99 ∧ (-1 ≤ I c_then 6 ∧ I c_then 6 ≤ 99) ∧ ∀ c, c < m → knWn I (Xof I) nc ng nn c (FCo I c) (FWo I c) ∧ knWt I (Xof I) nc ng nn c (FCo I c) (FWo I c)
def fmC (I I' : XI) : Prop := ∀ a, (a < 45 ∨ 58 < a) → I' a = I a
theorem fmC.refl (I : XI) : fmC I I := fun _ _ => rfl
theorem fmC.trans {I J K : XI} (h1 : fmC I J) (h2 : fmC J K) : fmC I K := fun a ha => (h2 a ha).trans (h1 a ha)
theorem Xof_eq {I I' : XI} (h : ∀ a, a < 19 → I' a = I a) : Xof I' = Xof I := by
  funext a
  unfold Xof
  split <;> exact h _ (by decide)
theorem Xof_fm {I I' : XI} (h : fmC I I') : Xof I' = Xof I := Xof_eq (fun a ha => h a (by omega))
theorem CP.fm {I I' : XI} {nc ng nn m : Nat} (h : CP I nc ng nn m) (hf : fmC I I') : CP I' nc ng nn m := by
  unfold CP at h ⊢
  rw [Xof_fm hf, hf c_land (by decide), hf c_herds (by decide), hf c_herds_firstCells (by decide), hf c_herds_firstWeeks (by decide)]
  exact h
section PW
variable {G : XG} {S : XS}
theorem knWn_row {I I' : XI} {X : Nat → Nat → Int} {nc ng nn c fc f : Nat} (h : knWn I X nc ng nn c fc f) (h1 : I' c_now_knownTo c = I c_now_knownTo c) (h2 : ∀ j, c * 1000 ≤ j → j < c * 1000 + 1000 → I' c_now_parts j = I c_now_parts j) (h3 : ∀ i, i < nn → X 5 i = (c : Int) → I' c_now_quarrels i = I c_now_quarrels i) (h4 : I' c_now 6 = I c_now 6) : knWn I' X nc ng nn c fc f := by
  obtain ⟨a1, a2, a3⟩ := h
  refine ⟨by rw [h1]; exact a1, by rw [h1]; exact a2, fun w w1 w2 => ?_⟩
  rw [h1] at w2
  rw [h4]
  obtain ⟨b1, b2⟩ := a3 w w1 w2
  refine ⟨fun j hj => ?_, fun i hi x5 x7 x9 => ?_⟩
  · rw [h2 _ (by omega) (by omega)]; exact b1 j hj
  · rw [h3 i hi x5]; exact b2 i hi x5 x7 x9
theorem knWt_row {I I' : XI} {X : Nat → Nat → Int} {nc ng nn c fc f : Nat} (h : knWt I X nc ng nn c fc f) (h1 : I' c_then_knownTo c = I c_then_knownTo c) (h2 : ∀ j, c * 1000 ≤ j → j < c * 1000 + 1000 → I' c_then_parts j = I c_then_parts j) (h3 : ∀ i, i < nn → X 5 i = (c : Int) → I' c_then_quarrels i = I c_then_quarrels i) (h4 : I' c_then 6 = I c_then 6) : knWt I' X nc ng nn c fc f := by
  obtain ⟨a1, a2, a3⟩ := h
  refine ⟨by rw [h1]; exact a1, by rw [h1]; exact a2, fun w w1 w2 => ?_⟩
  rw [h1] at w2
  rw [h4]
  obtain ⟨b1, b2⟩ := a3 w w1 w2
  refine ⟨fun j hj => ?_, fun i hi x5 x7 x9 => ?_⟩
  · rw [h2 _ (by omega) (by omega)]; exact b1 j hj
  · rw [h3 i hi x5]; exact b2 i hi x5 x7 x9
theorem Cach_Wn {I I' : XI} {nc ng nn m c : Nat} (h : Cach I nc ng nn m) (hc : c < m) (k1 : knWn I' (Xof I) nc ng nn c (FCo I c) (FWo I c)) (k3 : fmWn I I' (Xof I) nn c) : Cach I' nc ng nn m ∧ fmC I I' := by
  obtain ⟨f1, f2, f3, f4⟩ := k3
  have hf : fmC I I' := fun a ha => f1 a (show a ≠ 46 by omega) (show a ≠ 51 by omega) (show a ≠ 50 by omega) (show a ≠ 49 by omega) (show a ≠ 48 by omega) (show a ≠ 47 by omega)
  have en : I' c_now 6 = I c_now 6 := by rw [f1 _ (by decide) (by decide) (by decide) (by decide) (by decide) (by decide)]
  have et : I' c_then 6 = I c_then 6 := by rw [f1 _ (by decide) (by decide) (by decide) (by decide) (by decide) (by decide)]
  refine ⟨⟨en.trans h.1, by rw [et]; exact h.2.1, fun q hq => ?_⟩, hf⟩
  have e1 : FCo I' q = FCo I q := by show (I' c_herds_firstCells q).toNat = _; rw [hf c_herds_firstCells (by decide)]
  have e2 : FWo I' q = FWo I q := by show (I' c_herds_firstWeeks q).toNat = _; rw [hf c_herds_firstWeeks (by decide)]
  rw [Xof_fm hf, e1, e2]
  obtain ⟨g1, g2⟩ := h.2.2 q hq
  have mine : knWn I' (Xof I) nc ng nn q (FCo I q) (FWo I q) := by
    by_cases e : q = c
    · subst e; exact k1
    · exact knWn_row g1 (f2 q e) (fun j j1 j2 => f3 j (by omega)) (fun i hi x => f4 i hi (by rw [x]; omega)) (by rw [f1 _ (by decide) (by decide) (by decide) (by decide) (by decide) (by decide)])
  exact ⟨mine, knWt_row g2 (by rw [f1 _ (by decide) (by decide) (by decide) (by decide) (by decide) (by decide)]) (fun j _ _ => by rw [f1 _ (by decide) (by decide) (by decide) (by decide) (by decide) (by decide)]) (fun i _ _ => by rw [f1 _ (by decide) (by decide) (by decide) (by decide) (by decide) (by decide)]) (by rw [f1 _ (by decide) (by decide) (by decide) (by decide) (by decide) (by decide)])⟩
theorem s_Wn_likely2 {I : XI} {nc ng nn m c wk : Nat} {cp wp : Int} {R : Int → XI → Prop} (hS : xSh S) (hP : CP I nc ng nn m) (hC : Cach I nc ng nn m) (hcp : cp = (c : Int)) (hc : c < m) (hwp : wp = (wk : Int)) (hwk : wk ≤ 99) (hf : FWo I c ≤ wk)
    (h : ∀ I', Cach I' nc ng nn m → fmC I I' → R (amx (ptA (Xof I) nc ng nn c (I c_now 6) (FCo I c) (FWo I c) (wk - FWo I c)) 9 : Int) I') : Wn_likeliestOf G S I cp wp R := by
  obtain ⟨p1, p2, p3, p4, p5, p6, p7⟩ := hP
  obtain ⟨q1, q2⟩ := p7 c hc
  have z1 : I c_herds_firstWeeks c = ((FWo I c : Nat) : Int) := (Int.toNat_of_nonneg q2.1).symm
  have z2 : I c_herds_firstCells c = ((FCo I c : Nat) : Int) := (Int.toNat_of_nonneg q1.1).symm
  have h6 : InR (I c_now 6) := by have := hC.1; have := hC.2.1; exact ⟨by omega, by omega⟩
  refine s_Wn_likeliestOf (f := FWo I c) (fc := FCo I c) hS hcp (by omega) hwp hwk p6 (Xof_XC I) p1 p2 p3 z1 hf z2 (by omega) h6 (hC.2.2 c hc).1 (fun I' k1 k3 => ?_)
  obtain ⟨c1, c2⟩ := Cach_Wn hC hc k1 k3
  exact h I' c1 c2
theorem s_Wn_parts2 {I : XI} {nc ng nn m c k wk : Nat} {cp wp cl : Int} {R : Int → XI → Prop} (hS : xSh S) (hP : CP I nc ng nn m) (hC : Cach I nc ng nn m) (hcp : cp = (c : Int)) (hc : c < m) (hcl : cl = (k : Int)) (hk : k < 10) (hwp : wp = (wk : Int)) (hwk : wk ≤ 99) (hf : FWo I c ≤ wk)
    (h : ∀ I', Cach I' nc ng nn m → fmC I I' → R (ptA (Xof I) nc ng nn c (I c_now 6) (FCo I c) (FWo I c) (wk - FWo I c) k) I') : Wn_reach G S I cp wp (fun I9 => Wn_partsAt G S I9 cp cl wp R) := by
  obtain ⟨p1, p2, p3, p4, p5, p6, p7⟩ := hP
  obtain ⟨q1, q2⟩ := p7 c hc
  have z1 : I c_herds_firstWeeks c = ((FWo I c : Nat) : Int) := (Int.toNat_of_nonneg q2.1).symm
  have z2 : I c_herds_firstCells c = ((FCo I c : Nat) : Int) := (Int.toNat_of_nonneg q1.1).symm
  have h6 : InR (I c_now 6) := by have := hC.1; have := hC.2.1; exact ⟨by omega, by omega⟩
  refine s_Wn_reach (f := FWo I c) (fc := FCo I c) hS hcp (by omega) hwp hwk p6 (Xof_XC I) p1 p2 p3 z1 (by omega) z2 (by omega) h6 (hC.2.2 c hc).1 (fun I' k1 k2 k3 => s_Wn_partsAt hS hcp (by omega) hcl hk hwp hwk ?_)
  obtain ⟨c1, c2⟩ := Cach_Wn hC hc k1 k3
  have e6 : I' c_now 6 = I c_now 6 := by rw [k3.1 _ (by decide) (by decide) (by decide) (by decide) (by decide) (by decide)]
  have t := (k1.2.2 wk hf (k2 hf)).1 k hk
  rw [e6] at t
  rw [t]
  exact h I' c1 c2
theorem s_Wn_quarrel2 {I : XI} {nc ng nn m c wk : Nat} {cp k : Int} {R : Int → XI → Prop} (hS : xSh S) (hP : CP I nc ng nn m) (hC : Cach I nc ng nn m) (hcp : cp = (c : Int)) (hc : c < m) (hwp : I c_told 9 = (wk : Int)) (hwk : wk ≤ 99) (hf : FWo I c ≤ wk) (hk : InR k)
    (h : ∀ I', Cach I' nc ng nn m → fmC I I' → R (qW (fun w i => qP (Xof I) nc ng nn c (I c_now 6) (FCo I c) (FWo I c) w i) k nn (wk + 1) (wk + 1 - FWo I c) 0) I') : Wn_quarrelOf G S I cp k R := by
  obtain ⟨p1, p2, p3, p4, p5, p6, p7⟩ := hP
  obtain ⟨q1, q2⟩ := p7 c hc
  have z1 : I c_herds_firstWeeks c = ((FWo I c : Nat) : Int) := (Int.toNat_of_nonneg q2.1).symm
  have z2 : I c_herds_firstCells c = ((FCo I c : Nat) : Int) := (Int.toNat_of_nonneg q1.1).symm
  have h6 : InR (I c_now 6) := by have := hC.1; have := hC.2.1; exact ⟨by omega, by omega⟩
  refine s_Wn_quarrelOf (f := FWo I c) (fc := FCo I c) hS hcp (by omega) hwp hwk p6 (Xof_XC I) p1 p2 p3 z1 (by omega) (by omega) z2 (by omega) h6 hk (hC.2.2 c hc).1 (fun I' k1 k3 => ?_)
  obtain ⟨c1, c2⟩ := Cach_Wn hC hc k1 k3
  exact h I' c1 c2
theorem Cach_Wt {I I' : XI} {nc ng nn m c : Nat} (h : Cach I nc ng nn m) (hc : c < m) (k1 : knWt I' (Xof I) nc ng nn c (FCo I c) (FWo I c)) (k3 : fmWt I I' (Xof I) nn c) : Cach I' nc ng nn m ∧ fmC I I' := by
  obtain ⟨f1, f2, f3, f4⟩ := k3
  have hf : fmC I I' := fun a ha => f1 a (show a ≠ 53 by omega) (show a ≠ 58 by omega) (show a ≠ 57 by omega) (show a ≠ 56 by omega) (show a ≠ 55 by omega) (show a ≠ 54 by omega)
  have en : I' c_now 6 = I c_now 6 := by rw [f1 _ (by decide) (by decide) (by decide) (by decide) (by decide) (by decide)]
  have et : I' c_then 6 = I c_then 6 := by rw [f1 _ (by decide) (by decide) (by decide) (by decide) (by decide) (by decide)]
  refine ⟨⟨en.trans h.1, by rw [et]; exact h.2.1, fun q hq => ?_⟩, hf⟩
  have e1 : FCo I' q = FCo I q := by show (I' c_herds_firstCells q).toNat = _; rw [hf c_herds_firstCells (by decide)]
  have e2 : FWo I' q = FWo I q := by show (I' c_herds_firstWeeks q).toNat = _; rw [hf c_herds_firstWeeks (by decide)]
  rw [Xof_fm hf, e1, e2]
  obtain ⟨g1, g2⟩ := h.2.2 q hq
  have mine : knWt I' (Xof I) nc ng nn q (FCo I q) (FWo I q) := by
    by_cases e : q = c
    · subst e; exact k1
    · exact knWt_row g2 (f2 q e) (fun j j1 j2 => f3 j (by omega)) (fun i hi x => f4 i hi (by rw [x]; omega)) (by rw [f1 _ (by decide) (by decide) (by decide) (by decide) (by decide) (by decide)])
  exact ⟨knWn_row g1 (by rw [f1 _ (by decide) (by decide) (by decide) (by decide) (by decide) (by decide)]) (fun j _ _ => by rw [f1 _ (by decide) (by decide) (by decide) (by decide) (by decide) (by decide)]) (fun i _ _ => by rw [f1 _ (by decide) (by decide) (by decide) (by decide) (by decide) (by decide)]) (by rw [f1 _ (by decide) (by decide) (by decide) (by decide) (by decide) (by decide)]), mine⟩
theorem s_Wt_likely2 {I : XI} {nc ng nn m c wk : Nat} {cp wp : Int} {R : Int → XI → Prop} (hS : xSh S) (hP : CP I nc ng nn m) (hC : Cach I nc ng nn m) (hcp : cp = (c : Int)) (hc : c < m) (hwp : wp = (wk : Int)) (hwk : wk ≤ 99) (hf : FWo I c ≤ wk)
    (h : ∀ I', Cach I' nc ng nn m → fmC I I' → R (amx (ptA (Xof I) nc ng nn c (I c_then 6) (FCo I c) (FWo I c) (wk - FWo I c)) 9 : Int) I') : Wt_likeliestOf G S I cp wp R := by
  obtain ⟨p1, p2, p3, p4, p5, p6, p7⟩ := hP
  obtain ⟨q1, q2⟩ := p7 c hc
  have z1 : I c_herds_firstWeeks c = ((FWo I c : Nat) : Int) := (Int.toNat_of_nonneg q2.1).symm
  have z2 : I c_herds_firstCells c = ((FCo I c : Nat) : Int) := (Int.toNat_of_nonneg q1.1).symm
  have h6 : InR (I c_then 6) := by have := hC.1; have := hC.2.1; exact ⟨by omega, by omega⟩
  refine s_Wt_likeliestOf (f := FWo I c) (fc := FCo I c) hS hcp (by omega) hwp hwk p6 (Xof_XC I) p1 p2 p3 z1 hf z2 (by omega) h6 (hC.2.2 c hc).2 (fun I' k1 k3 => ?_)
  obtain ⟨c1, c2⟩ := Cach_Wt hC hc k1 k3
  exact h I' c1 c2
theorem s_Wt_parts2 {I : XI} {nc ng nn m c k wk : Nat} {cp wp cl : Int} {R : Int → XI → Prop} (hS : xSh S) (hP : CP I nc ng nn m) (hC : Cach I nc ng nn m) (hcp : cp = (c : Int)) (hc : c < m) (hcl : cl = (k : Int)) (hk : k < 10) (hwp : wp = (wk : Int)) (hwk : wk ≤ 99) (hf : FWo I c ≤ wk)
    (h : ∀ I', Cach I' nc ng nn m → fmC I I' → R (ptA (Xof I) nc ng nn c (I c_then 6) (FCo I c) (FWo I c) (wk - FWo I c) k) I') : Wt_reach G S I cp wp (fun I9 => Wt_partsAt G S I9 cp cl wp R) := by
  obtain ⟨p1, p2, p3, p4, p5, p6, p7⟩ := hP
  obtain ⟨q1, q2⟩ := p7 c hc
  have z1 : I c_herds_firstWeeks c = ((FWo I c : Nat) : Int) := (Int.toNat_of_nonneg q2.1).symm
  have z2 : I c_herds_firstCells c = ((FCo I c : Nat) : Int) := (Int.toNat_of_nonneg q1.1).symm
  have h6 : InR (I c_then 6) := by have := hC.1; have := hC.2.1; exact ⟨by omega, by omega⟩
  refine s_Wt_reach (f := FWo I c) (fc := FCo I c) hS hcp (by omega) hwp hwk p6 (Xof_XC I) p1 p2 p3 z1 (by omega) z2 (by omega) h6 (hC.2.2 c hc).2 (fun I' k1 k2 k3 => s_Wt_partsAt hS hcp (by omega) hcl hk hwp hwk ?_)
  obtain ⟨c1, c2⟩ := Cach_Wt hC hc k1 k3
  have e6 : I' c_then 6 = I c_then 6 := by rw [k3.1 _ (by decide) (by decide) (by decide) (by decide) (by decide) (by decide)]
  have t := (k1.2.2 wk hf (k2 hf)).1 k hk
  rw [e6] at t
  rw [t]
  exact h I' c1 c2
theorem s_Wt_quarrel2 {I : XI} {nc ng nn m c wk : Nat} {cp k : Int} {R : Int → XI → Prop} (hS : xSh S) (hP : CP I nc ng nn m) (hC : Cach I nc ng nn m) (hcp : cp = (c : Int)) (hc : c < m) (hwp : I c_told 9 = (wk : Int)) (hwk : wk ≤ 99) (hf : FWo I c ≤ wk) (hk : InR k)
    (h : ∀ I', Cach I' nc ng nn m → fmC I I' → R (qW (fun w i => qP (Xof I) nc ng nn c (I c_then 6) (FCo I c) (FWo I c) w i) k nn (wk + 1) (wk + 1 - FWo I c) 0) I') : Wt_quarrelOf G S I cp k R := by
  obtain ⟨p1, p2, p3, p4, p5, p6, p7⟩ := hP
  obtain ⟨q1, q2⟩ := p7 c hc
  have z1 : I c_herds_firstWeeks c = ((FWo I c : Nat) : Int) := (Int.toNat_of_nonneg q2.1).symm
  have z2 : I c_herds_firstCells c = ((FCo I c : Nat) : Int) := (Int.toNat_of_nonneg q1.1).symm
  have h6 : InR (I c_then 6) := by have := hC.1; have := hC.2.1; exact ⟨by omega, by omega⟩
  refine s_Wt_quarrelOf (f := FWo I c) (fc := FCo I c) hS hcp (by omega) hwp hwk p6 (Xof_XC I) p1 p2 p3 z1 (by omega) (by omega) z2 (by omega) h6 hk (hC.2.2 c hc).2 (fun I' k1 k3 => ?_)
  obtain ⟨c1, c2⟩ := Cach_Wt hC hc k1 k3
  exact h I' c1 c2
end PW
section PC
variable {G : XG} {S : XS}
theorem s_H_whereBy {I : XI} {nc ng nn m : Nat} {lm : Int} {R : Nat → XI → Prop} (hS : xSh S) (hP : CP I nc ng nn m) (hC : Cach I nc ng nn m) (hl : 0 ≤ lm ∧ lm ≤ 99) (h1 : lm = 99 → R c_now I) (h2 : lm ≠ 99 → ∀ I', Cach I' nc ng nn m → fmC I I' → I' c_then 6 = lm → R c_then I') : H_whereBy G S I lm R := by
  refine b_H_whereBy hS ?_
  rw [w32_b (z := lm) (by omega) (by omega), show w32 99 = 99 from rfl]
  refine ⟨h1, fun e => b_Wt_aim hS ?_⟩
  have h6 := hC.2.1
  rw [w32_b (z := lm) (by omega) (by omega), w32_b (z := I c_then 6) (by omega) (by omega)]
  refine ⟨fun e2 => h2 e I hC (fmC.refl I) e2.symm, fun _ I1 e1 => s_Wt_forget hS ?_⟩
  have f1 : fmC I I1 := fun a ha => by rw [e1]; exact up_row (show a ≠ 52 by omega)
  have f2 : fmC I (xfil I1 c_then_knownTo 6 (-1)) := fun a ha => (xfil_out (show a ≠ 54 by omega)).trans (f1 a ha)
  have e6 : xfil I1 c_then_knownTo 6 (-1) c_then 6 = lm := by rw [xfil_out (by decide), e1, up_s]
  have e5 : xfil I1 c_then_knownTo 6 (-1) c_now = I c_now := by rw [xfil_out (by decide), e1, up_row (by decide)]
  refine h2 e _ ⟨by rw [e5]; exact hC.1, by rw [e6]; omega, fun c hc => ?_⟩ f2 e6
  have g1 : FCo (xfil I1 c_then_knownTo 6 (-1)) c = FCo I c := by show (xfil I1 c_then_knownTo 6 (-1) c_herds_firstCells c).toNat = _; rw [f2 c_herds_firstCells (by decide)]
  have g2 : FWo (xfil I1 c_then_knownTo 6 (-1)) c = FWo I c := by show (xfil I1 c_then_knownTo 6 (-1) c_herds_firstWeeks c).toNat = _; rw [f2 c_herds_firstWeeks (by decide)]
  rw [Xof_fm f2, g1, g2]
  have hm := hP.2.2.2.2.1
  refine ⟨knWn_row (hC.2.2 c hc).1 ?_ (fun j _ _ => ?_) (fun i _ _ => ?_) (by rw [e5]), knWt_none (xfil_in (by omega))⟩
  · rw [xfil_out (by decide), e1, up_row (by decide)]
  · rw [xfil_out (by decide), e1, up_row (by decide)]
  · rw [xfil_out (by decide), e1, up_row (by decide)]
theorem ptv {I I' : XI} (h : fmC I I') (c : Nat) : Xof I' = Xof I ∧ FCo I' c = FCo I c ∧ FWo I' c = FWo I c := by
  refine ⟨Xof_fm h, ?_, ?_⟩
  · show (I' c_herds_firstCells c).toNat = _; rw [h c_herds_firstCells (by decide)]
  · show (I' c_herds_firstWeeks c).toNat = _; rw [h c_herds_firstWeeks (by decide)]
theorem s_H_likely {I : XI} {nc ng nn m c wk : Nat} {cp wp lm : Int} {R : Int → XI → Prop} (hS : xSh S) (hP : CP I nc ng nn m) (hC : Cach I nc ng nn m) (hl : 0 ≤ lm ∧ lm ≤ 99) (hcp : cp = (c : Int)) (hc : c < m) (hwp : wp = (wk : Int)) (hwk : wk ≤ 99) (hf : FWo I c ≤ wk)
    (h : ∀ I', Cach I' nc ng nn m → fmC I I' → R (amx (ptA (Xof I) nc ng nn c lm (FCo I c) (FWo I c) (wk - FWo I c)) 9 : Int) I') : H_whereBy G S I lm (fun r6 I5 => ((r6 = c_now ∨ r6 = c_then) ∧ (r6 = c_now → Wn_likeliestOf G S I5 cp wp (fun r8 I7 => R r8 I7)) ∧ (r6 = c_then → Wt_likeliestOf G S I5 cp wp (fun r10 I9 => R r10 I9)))) := by
  refine s_H_whereBy hS hP hC hl (fun e => ⟨Or.inl rfl, fun _ => ?_, fun e2 => absurd e2 (by decide)⟩) (fun e I' c1 c2 c3 => ⟨Or.inr rfl, fun e2 => absurd e2 (by decide), fun _ => ?_⟩)
  · refine s_Wn_likely2 hS hP hC hcp hc hwp hwk hf (fun I' d1 d2 => ?_)
    rw [hC.1, ← e]; exact h I' d1 d2
  · obtain ⟨v1, v2, v3⟩ := ptv c2 c
    refine s_Wt_likely2 hS (hP.fm c2) c1 hcp hc hwp hwk (by rw [v3]; exact hf) (fun I2 d1 d2 => ?_)
    rw [v1, v2, v3, c3]; exact h I2 d1 (c2.trans d2)
theorem s_H_parts1 {I : XI} {nc ng nn m c k wk : Nat} {cp wp cl lm : Int} {R : Int → XI → Prop} (hS : xSh S) (hP : CP I nc ng nn m) (hC : Cach I nc ng nn m) (hl : 0 ≤ lm ∧ lm ≤ 99) (hcp : cp = (c : Int)) (hc : c < m) (hcl : cl = (k : Int)) (hk : k < 10) (hwp : wp = (wk : Int)) (hwk : wk ≤ 99) (hf : FWo I c ≤ wk)
    (h : ∀ I', Cach I' nc ng nn m → fmC I I' → R (ptA (Xof I) nc ng nn c lm (FCo I c) (FWo I c) (wk - FWo I c) k) I') : H_whereBy G S I lm (fun r8 I7 => ((r8 = c_now ∨ r8 = c_then) ∧ (r8 = c_now → Wn_reach G S I7 cp wp (fun I9 => Wn_partsAt G S I9 cp cl wp (fun r11 I10 => R r11 I10))) ∧ (r8 = c_then → Wt_reach G S I7 cp wp (fun I12 => Wt_partsAt G S I12 cp cl wp (fun r14 I13 => R r14 I13))))) := by
  refine s_H_whereBy hS hP hC hl (fun e => ⟨Or.inl rfl, fun _ => ?_, fun e2 => absurd e2 (by decide)⟩) (fun e I' c1 c2 c3 => ⟨Or.inr rfl, fun e2 => absurd e2 (by decide), fun _ => ?_⟩)
  · refine s_Wn_parts2 hS hP hC hcp hc hcl hk hwp hwk hf (fun I' d1 d2 => ?_)
    rw [hC.1, ← e]; exact h I' d1 d2
  · obtain ⟨v1, v2, v3⟩ := ptv c2 c
    refine s_Wt_parts2 hS (hP.fm c2) c1 hcp hc hcl hk hwp hwk (by rw [v3]; exact hf) (fun I2 d1 d2 => ?_)
    rw [v1, v2, v3, c3]; exact h I2 d1 (c2.trans d2)
theorem s_H_quarrel1 {I : XI} {nc ng nn m c wk : Nat} {cp k lm : Int} {R : Int → XI → Prop} (hS : xSh S) (hP : CP I nc ng nn m) (hC : Cach I nc ng nn m) (hl : 0 ≤ lm ∧ lm ≤ 99) (hcp : cp = (c : Int)) (hc : c < m) (hwp : I c_told 9 = (wk : Int)) (hwk : wk ≤ 99) (hf : FWo I c ≤ wk) (hk : InR k)
    (h : ∀ I', Cach I' nc ng nn m → fmC I I' → R (qW (fun w i => qP (Xof I) nc ng nn c lm (FCo I c) (FWo I c) w i) k nn (wk + 1) (wk + 1 - FWo I c) 0) I') : H_whereBy G S I lm (fun r6 I5 => ((r6 = c_now ∨ r6 = c_then) ∧ (r6 = c_now → Wn_quarrelOf G S I5 cp k (fun r8 I7 => R r8 I7)) ∧ (r6 = c_then → Wt_quarrelOf G S I5 cp k (fun r10 I9 => R r10 I9)))) := by
  refine s_H_whereBy hS hP hC hl (fun e => ⟨Or.inl rfl, fun _ => ?_, fun e2 => absurd e2 (by decide)⟩) (fun e I' c1 c2 c3 => ⟨Or.inr rfl, fun e2 => absurd e2 (by decide), fun _ => ?_⟩)
  · refine s_Wn_quarrel2 hS hP hC hcp hc hwp hwk hf hk (fun I' d1 d2 => ?_)
    rw [hC.1, ← e]; exact h I' d1 d2
  · obtain ⟨v1, v2, v3⟩ := ptv c2 c
    refine s_Wt_quarrel2 hS (hP.fm c2) c1 hcp hc (by rw [c2 _ (by decide)]; exact hwp) hwk (by rw [v3]; exact hf) hk (fun I2 d1 d2 => ?_)
    rw [v1, v2, v3, c3]; exact h I2 d1 (c2.trans d2)
end PC
