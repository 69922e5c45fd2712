/-! ===== FACTS of a CAMP, a BOOK and a WEEK ===== -/
def wellR (I : XI) (c wk : Nat) (lm : Int) : Int := if FWo I c ≤ wk then I r_wells (amx (ptA (Xof I) (nC I) (nG I) (nN I) c lm (FCo I c) (FWo I c) (wk - FWo I c)) 9) else 0
/-- by the reference's numbers -/
def seenR (I : XI) (c b wk : Nat) (lm : Int) : Nat → Int
  | 0 => heldR I c wk lm
  | 1 => lateR I c wk lm
  | 2 => I r_bookKind b
  | 3 => I r_bookLevel b
  | 4 => I r_bookPages b - tornR I b (-1) wk lm 0
  | 5 => tornR I (-1) c wk lm 0
  | 6 => (wk : Int)
  | 7 => if I r_bookTongue b = I r_campTongue c then 1 else 0
  | 8 => I r_dryWeek wk
  | _ => wellR I c wk lm
def FcC (I : XI) (c wk : Nat) (lm : Int) : Prop := I c_facts 1 = I r_dryWeek wk ∧ I c_facts 2 = wellR I c wk lm ∧ I c_facts 3 = heldR I c wk lm ∧ I c_facts 4 = lateR I c wk lm ∧ I c_facts 8 = tornR I (-1) c wk lm 0 ∧ I c_facts 9 = (wk : Int)
def FcB (I : XI) (c b wk : Nat) (lm : Int) : Prop := (I c_facts 0 = if I r_bookTongue b = I r_campTongue c then 1 else 0) ∧ I c_facts 5 = I r_bookKind b ∧ I c_facts 6 = I r_bookLevel b ∧ I c_facts 7 = I r_bookPages b - tornR I b (-1) wk lm 0
theorem Fc_seen {I : XI} {c b wk : Nat} {lm : Int} (h1 : FcC I c wk lm) (h2 : FcB I c b wk lm) : ∀ s, s < 10 → I c_facts s = seenR I c b wk lm (subR s).toNat := by
  obtain ⟨a1, a2, a3, a4, a8, a9⟩ := h1
  obtain ⟨b0, b5, b6, b7⟩ := h2
  intro s hs
  match s, hs with
  | 0, _ => exact b0
  | 1, _ => exact a1
  | 2, _ => exact a2
  | 3, _ => exact a3
  | 4, _ => exact a4
  | 5, _ => exact b5
  | 6, _ => exact b6
  | 7, _ => exact b7
  | 8, _ => exact a8
  | 9, _ => exact a9
theorem seen_le {I : XI} {a b : Int} (hl : LE I a b) (hp : ∀ c fc f d : Nat, ptA (Xof I) (nC I) (nG I) (nN I) c a fc f d = ptA (Xof I) (nC I) (nG I) (nN I) c b fc f d) (c bk wk : Nat) : ∀ k, seenR I c bk wk a k = seenR I c bk wk b k := by
  have hw : wellR I c wk a = wellR I c wk b := by unfold wellR; rw [hp]
  intro k
  unfold seenR
  split
  · exact heldR_le hl _ _
  · exact lateR_le hl _ _
  · rfl
  · rfl
  · rw [tornR_le hl]
  · exact tornR_le hl _ _ _ _
  · rfl
  · rfl
  · rfl
  · exact hw
theorem Now.seen {I : XI} (h : Now I) (c bk wk k : Nat) : seenR I c bk wk (limC I) k = seenR I c bk wk (viewR I) k := seen_le h.le (fun c fc f d => h.pt c fc f d) c bk wk k
theorem Now.seen99 {I : XI} (h : Now I) (c bk wk k : Nat) : seenR I c bk wk 99 k = seenR I c bk wk (I r_now 0) k := seen_le h.le99 (fun c fc f d => h.pt99 c fc f d) c bk wk k
/-- what is told, and what PARTS are worked out of, is the same -/
def tfx (I J : XI) : Prop := tf I J ∧ ∀ a, a < 19 → J a = I a
theorem well_tfx {I J : XI} (e : tfx I J) (c wk : Nat) (lm : Int) : wellR J c wk lm = wellR I c wk lm := by
  have vX : Xof J = Xof I := Xof_eq e.2
  have vC : FCo J c = FCo I c := by show (J c_herds_firstCells c).toNat = _; rw [e.2 c_herds_firstCells (by decide)]
  have vW : FWo J c = FWo I c := by show (J c_herds_firstWeeks c).toNat = _; rw [e.2 c_herds_firstWeeks (by decide)]
  have n1 : nC J = nC I := by show (J r_cells 0).toNat = _; rw [e.1 r_cells (by decide) (by decide)]
  have n2 : nG J = nG I := by show (J r_grasses 0).toNat = _; rw [e.1 r_grasses (by decide) (by decide)]
  have n3 : nN J = nN I := by show (J r_newsMany 0).toNat = _; rw [e.1 r_newsMany (by decide) (by decide)]
  unfold wellR
  rw [vX, vC, vW, n1, n2, n3, e.1 r_wells (by decide) (by decide)]
theorem seen_tfx {I J : XI} (e : tfx I J) (c b wk : Nat) (lm : Int) : ∀ k, seenR J c b wk lm k = seenR I c b wk lm k := by
  have t := e.1
  intro k
  unfold seenR
  split
  · exact tf_held t _ _ _
  · exact tf_late t _ _ _
  · rw [t r_bookKind (by decide) (by decide)]
  · rw [t r_bookLevel (by decide) (by decide)]
  · rw [t r_bookPages (by decide) (by decide), tf_torn t]
  · exact tf_torn t _ _ _ _ _
  · rfl
  · rw [t r_bookTongue (by decide) (by decide), t r_campTongue (by decide) (by decide)]
  · rw [t r_dryWeek (by decide) (by decide)]
  · exact well_tfx e _ _ _
theorem cnt_in (f : Nat → Int) (c : Int) : ∀ n : Nat, 0 ≤ cntA f c n ∧ cntA f c n ≤ n
  | 0 => ⟨Int.le_refl _, Int.le_refl _⟩
  | n + 1 => by have := cnt_in f c n; rw [cntA]; split <;> omega
theorem late_in (f g : Nat → Int) (c w : Int) : ∀ n : Nat, 0 ≤ lateA f g c w n ∧ lateA f g c w n ≤ n
  | 0 => ⟨Int.le_refl _, Int.le_refl _⟩
  | n + 1 => by have := late_in f g c w n; rw [lateA]; split <;> omega
theorem torn_in {S : XS} {I : XI} (h : Rel S I) (bk cp wk lm : Int) : 0 ≤ tornR I bk cp wk lm 0 ∧ tornR I bk cp wk lm 0 ≤ 60150 := by
  have ca := nA_c h.good
  have g := h.good.2.2.2.2.2.2.1.2
  have b : ∀ j, j < nA I → 0 ≤ tornG (I r_actBook) (I r_actCamp) (I r_actKind) (I r_actWeek) (I r_actTold) (fun j => I r_actMany j * (if (0 : Int) = 0 then 1 else I r_actCost j)) bk cp wk lm j ∧ tornG (I r_actBook) (I r_actCamp) (I r_actKind) (I r_actWeek) (I r_actTold) (fun j => I r_actMany j * (if (0 : Int) = 0 then 1 else I r_actCost j)) bk cp wk lm j < 401 := fun j hj => by
    unfold tornG
    split
    · next c =>
      have := (g j (by omega)).2.2.2.2.2.2.2.1 c.2.2.1
      show 0 ≤ I r_actMany j * (if (0 : Int) = 0 then 1 else I r_actCost j) ∧ I r_actMany j * (if (0 : Int) = 0 then 1 else I r_actCost j) < 401
      rw [if_pos rfl, Int.mul_one]; omega
    · omega
  have a1 := sumA_nn (n := nA I) (fun j hj => (b j hj).1)
  have a2 := sumA_lt (n := nA I) (fun j hj => (b j hj).2)
  refine ⟨a1, Int.le_trans a2 ?_⟩
  omega
section PFa
variable {G : XG} {S : XS} {I : XI}
theorem well_01 (h : Rel S I) {c wk : Nat} (hc : c < nM I) (lm : Int) : wellR I c wk lm = 0 ∨ wellR I c wk lm = 1 := by
  have hal := amx_le (ptA (Xof I) (nC I) (nG I) (nN I) c lm (FCo I c) (FWo I c) (wk - FWo I c)) 9
  unfold wellR
  split
  · exact h.good.2.1.2.2.2.2.1 _ (by omega)
  · exact Or.inl rfl
theorem seen_in (h : Rel S I) {c b wk : Nat} (hc : c < nM I) (hb : b < nB I) (hw : wk ≤ 99) (lm : Int) (k : Nat) : InR (seenR I c b wk lm k) := by
  have cb := nB_c h.good
  have gb := h.good.2.2.2.2.2.1.2 b (by omega)
  have c1 := cnt_in (fun q => whoR I (nA I) q wk lm) c (nB I)
  have c2 := late_in (fun q => whoR I (nA I) q wk lm) (fun q => dueR I (nA I) q wk lm) c wk (nB I)
  have c3 := torn_in h b (-1) wk lm
  have c4 := torn_in h (-1) c wk lm
  have c5 := h.good.2.1.2.2.2.2.2.2 wk (by omega)
  have c6 := well_01 h (wk := wk) hc lm
  unfold seenR
  split
  · exact ⟨by unfold heldR; omega, by unfold heldR; omega⟩
  · exact ⟨by unfold lateR; omega, by unfold lateR; omega⟩
  · exact ⟨by omega, by omega⟩
  · exact ⟨by omega, by omega⟩
  · exact ⟨by omega, by omega⟩
  · exact ⟨by omega, by omega⟩
  · exact ⟨by omega, by omega⟩
  · split <;> exact ⟨by decide, by decide⟩
  · exact ⟨by omega, by omega⟩
  · exact ⟨by omega, by omega⟩
/-- only the row of facts has changed -/
theorem Rel.facts (h : Rel S I) {J : XI} (e : ∀ a, a ≠ 75 → J a = I a) : Rel S J ∧ tfx I J := ⟨h.keepA (fun a ha => e a (by omega)), fun a h1 h2 => e a (by omega), fun a ha => e a (by omega)⟩
theorem tfx.trans {I J K : XI} (h1 : tfx I J) (h2 : tfx J K) : tfx I K := ⟨h1.1.trans h2.1, fun a ha => (h2.2 a ha).trans (h1.2 a ha)⟩
theorem s_H_gatherCamp_k {J : XI} {c wk : Nat} {cp wp lm : Int} {R : XI → Prop} (hS : xSh S) (hI : Rel S I) (hJ : Rel S J) (ht : tfx I J) (h1 : J c_facts 1 = I r_dryWeek wk) (h2 : J c_facts 2 = wellR I c wk lm) (hcp : cp = (c : Int)) (hc : c < nM I) (hwp : wp = (wk : Int)) (hwk : wk ≤ 99) (hlm : InR lm)
    (h : ∀ J', Rel S J' → tfx I J' → FcC J' c wk lm → (∀ a, a ≠ 75 → J' a = J a) → R J') : H_gatherCamp_k84 G S J cp wp lm R := by
  subst hcp; subst hwp
  have cm := nM_c hI.good
  have r1 : InR (c : Int) := ⟨by omega, by omega⟩
  have r2 : InR (wk : Int) := ⟨by omega, by omega⟩
  refine b_H_gatherCamp_k84 hS (c_held hS hJ r1 r2 hlm (fun J1 e1 => ?_))
  have f1 : ∀ a, a ≠ 75 → J1 a = J a := fun a ha => by rw [e1]; exact up_row ha
  obtain ⟨hJ1, t1⟩ := hJ.facts f1
  refine c_late hS hJ1 r1 r2 hlm (fun J2 e2 => ?_)
  have f2 : ∀ a, a ≠ 75 → J2 a = J a := fun a ha => by rw [e2, up_row ha]; exact f1 a ha
  obtain ⟨hJ2, t2⟩ := hJ.facts f2
  refine c_torn hS hJ2 r1 (by omega) r2 hlm (fun J3 e3 J4 e4 => ?_)
  have f4 : ∀ a, a ≠ 75 → J4 a = J a := fun a ha => by rw [e4, up_row ha, e3, up_row ha]; exact f2 a ha
  obtain ⟨hJ4, t4⟩ := hJ.facts f4
  have t14 : tfx I J4 := ht.trans t4
  refine h J4 hJ4 t14 ⟨?_, ?_, ?_, ?_, ?_, ?_⟩ f4
  · rw [e4, up_2 _ (by decide), e3, up_2 _ (by decide), e2, up_2 _ (by decide), e1, up_2 _ (by decide), h1, up_row (by decide), up_row (by decide), up_row (by decide), up_row (by decide), ht.1 r_dryWeek (by decide) (by decide)]
  · rw [well_tfx t14, ← h2, e4, up_2 _ (by decide), e3, up_2 _ (by decide), e2, up_2 _ (by decide), e1, up_2 _ (by decide)]
  · rw [tf_held t4.1, e4, up_2 _ (by decide), e3, up_2 _ (by decide), e2, up_2 _ (by decide), e1, up_s]
  · rw [tf_late t4.1, e4, up_2 _ (by decide), e3, up_2 _ (by decide), e2, up_s, tf_late t1.1]
  · rw [tf_torn t4.1, e4, up_2 _ (by decide), e3, up_s, tf_torn t2.1]
  · rw [e4, up_s]
theorem s_H_gatherCamp {c wk : Nat} {cp wp lm : Int} {R : XI → Prop} (hS : xSh S) (hI : Rel S I) (hcp : cp = (c : Int)) (hc : c < nM I) (hwp : wp = (wk : Int)) (hwk : wk ≤ 99) (hlm : 0 ≤ lm ∧ lm ≤ 99)
    (h : ∀ J', Rel S J' → tfx I J' → FcC J' c wk lm → R J') : H_gatherCamp G S I cp wp lm R := by
  have cm := nM_c hI.good
  have cc := nC_c hI.good
  obtain ⟨w1, w2, w3⟩ := hI.FW hc
  have fwn := (hI.good.2.2.2.1.2.1 c (by omega)).2.2
  have hnow := hI.good.1.1
  have hlr : InR lm := ⟨by omega, by omega⟩
  refine b_H_gatherCamp hS ⟨inb_b (by omega) (by omega) (by decide), fun I1 e1 I2 e2 => ⟨inb_b (by omega) (by omega) (by decide), ?_⟩⟩
  have f2 : ∀ a, a ≠ 75 → I2 a = I a := fun a ha => by rw [e2, up_row ha, e1, up_row ha]
  obtain ⟨hI2, t2⟩ := hI.facts f2
  have d1 : I2 c_facts 1 = I r_dryWeek wk := by rw [e2, up_2 _ (by decide), e1, up_s, hwp, ix_nat (by omega), pl_dryWeek hI.pl wk (by omega)]
  have d2 : I2 c_facts 2 = 0 := by rw [e2, up_s]
  have fw : I2 c_herds_firstWeeks c = ((FWo I c : Nat) : Int) := by rw [f2 _ (by decide), pl_campWeek hI.pl c (by omega)]; exact w1
  rw [hcp, hwp, ix_nat (k := c) (by omega), fw, w32_nat (k := wk) (by omega), w32_nat (k := FWo I c) (by omega)]
  refine ⟨fun e => s_H_gatherCamp_k hS hI hI2 t2 d1 (by rw [d2]; unfold wellR; rw [if_neg (by omega)]) rfl hc rfl hwk hlr (fun J' q1 q2 q3 _ => h J' q1 q2 q3), fun e => ?_⟩
  have fwe : FWo I2 c = FWo I c := by show (I2 c_herds_firstWeeks c).toNat = _; rw [f2 _ (by decide)]
  have fce : FCo I2 c = FCo I c := by show (I2 c_herds_firstCells c).toNat = _; rw [f2 _ (by decide)]
  have nM2 : nM I2 = nM I := by show (I2 r_camps 0).toNat = _; rw [f2 _ (by decide)]
  have nC2 : nC I2 = nC I := by show (I2 r_cells 0).toNat = _; rw [f2 _ (by decide)]
  have nG2 : nG I2 = nG I := by show (I2 r_grasses 0).toNat = _; rw [f2 _ (by decide)]
  have nN2 : nN I2 = nN I := by show (I2 r_newsMany 0).toNat = _; rw [f2 _ (by decide)]
  have vX : Xof I2 = Xof I := Xof_eq (fun x hx => f2 x (by omega))
  refine s_H_likely (c := c) (wk := wk) hS hI2.1.CP hI2.2.1 hlm rfl (by rw [nM2]; exact hc) rfl hwk (by rw [fwe]; omega) (fun I5 c5 f5 => ?_)
  rw [vX, fce, fwe, nC2, nG2, nN2]
  have hI5 := hI2.fmC c5 f5
  have t5 : tfx I I5 := t2.trans ⟨f5.tf, fun a ha => f5 a (by omega)⟩
  have hal := amx_le (ptA (Xof I) (nC I) (nG I) (nN I) c lm (FCo I c) (FWo I c) (wk - FWo I c)) 9
  have wl := hI.wells
  have hw0 : wellR I c wk lm = I r_wells (amx (ptA (Xof I) (nC I) (nG I) (nN I) c lm (FCo I c) (FWo I c) (wk - FWo I c)) 9) := by unfold wellR; rw [if_pos (by omega)]
  have gz := hI.good.2.1.2.2.2.2.2.1
  have g01 := hI.good.2.1.2.2.2.2.1
  generalize amx (ptA (Xof I) (nC I) (nG I) (nN I) c lm (FCo I c) (FWo I c) (wk - FWo I c)) 9 = x at hal hw0 ⊢
  have e5 : ∀ a, a < 45 → a ≠ 75 → I5 a = I a := fun a ha hb => (f5 a (by omega)).trans (f2 a hb)
  have d15 : I5 c_facts 1 = I r_dryWeek wk := by rw [f5 _ (by decide)]; exact d1
  refine s_La_hasWell (c := x) (nc := nC I) (w := I c_land 1) hS rfl (by omega) (by rw [e5 _ (by decide) (by decide), pl_cells hI.pl]; exact cc.1) cc.2 (by rw [e5 _ (by decide) (by decide)]) wl.1 (fun q1 q2 => br1 (fun I9 e9 => ?_)) (fun q => br0 ?_)
  · have f9 : ∀ a, a ≠ 75 → I9 a = I5 a := fun a ha => by rw [e9]; exact up_row ha
    obtain ⟨hI9, t9⟩ := hI5.facts f9
    refine s_H_gatherCamp_k hS hI hI9 (t5.trans t9) (by rw [e9, up_2 _ (by decide)]; exact d15) (by rw [e9, up_s, hw0, ← wl.2 x (by omega)]; exact q2.symm) rfl hc rfl hwk hlr (fun J' q1 q2 q3 _ => h J' q1 q2 q3)
  · refine s_H_gatherCamp_k hS hI hI5 t5 d15 ?_ rfl hc rfl hwk hlr (fun J' q1 q2 q3 _ => h J' q1 q2 q3)
    rw [f5 _ (by decide), d2, hw0]
    by_cases cx : x < nC I
    · have := g01 x (by omega)
      have : ¬ I r_wells x = 1 := fun z => q ⟨cx, by rw [wl.2 x (by omega)]; exact z⟩
      omega
    · exact (gz x (by omega) (by omega)).symm
theorem s_H_gatherBook {c b wk : Nat} {cp bv wp lm : Int} {R : XI → Prop} (hS : xSh S) (hI : Rel S I) (hcp : cp = (c : Int)) (hc : c < nM I) (hbv : bv = (b : Int)) (hb : b < nB I) (hwp : wp = (wk : Int)) (hwk : wk ≤ 99) (hlm : InR lm)
    (h : ∀ J', Rel S J' → (∀ a, a ≠ 75 → J' a = I a) → FcB J' c b wk lm → (∀ j, j ≠ 0 → j ≠ 5 → j ≠ 6 → j ≠ 7 → J' c_facts j = I c_facts j) → R J') : H_gatherBook G S I cp bv wp lm R := by
  subst hcp; subst hbv; subst hwp
  have cm := nM_c hI.good
  have cb := nB_c hI.good
  have gb := hI.good.2.2.2.2.2.1.2 b (by omega)
  have gc := hI.good.2.2.2.1.2.1 c (by omega)
  have k41 : ∀ z : Int, (z = if I r_bookTongue b = I r_campTongue c then 1 else 0) → H_gatherBook_k41 G S I (b : Int) (wk : Int) lm z 0 R := by
    intro z hz
    refine b_H_gatherBook_k41 hS ⟨inb_b (by decide) (by decide) (by decide), fun I1 e1 => ⟨inb_b (by omega) (by omega) (by decide), fun I2 e2 => ⟨inb_b (by omega) (by omega) (by decide), fun I3 e3 => ?_⟩⟩⟩
    rw [show ix 0 = 0 from rfl] at e1
    rw [ix_nat (by omega)] at e2 e3
    have f3 : ∀ a, a ≠ 75 → I3 a = I a := fun a ha => by rw [e3, up_row ha, e2, up_row ha, e1, up_row ha]
    obtain ⟨hI3, t3⟩ := hI.facts f3
    refine c_left (q := b) hS hI3 rfl (by omega) ⟨by omega, by omega⟩ hlm (fun I6 e6 => ?_)
    have f6 : ∀ a, a ≠ 75 → I6 a = I a := fun a ha => by rw [e6, up_row ha]; exact f3 a ha
    obtain ⟨hI6, t6⟩ := hI.facts f6
    have k2 : I1 c_shelf_kinds b = I r_bookKind b := by rw [e1, up_1 _ (by decide)]; exact pl_bookKind hI.pl b (by omega)
    have k3 : I2 c_shelf_levels b = I r_bookLevel b := by rw [e2, up_1 _ (by decide), e1, up_1 _ (by decide)]; exact pl_bookLevel hI.pl b (by omega)
    rw [k2] at e2
    rw [k3] at e3
    rw [f3 r_bookPages (by decide), tf_torn t3.1] at e6
    refine h I6 hI6 f6 ⟨?_, ?_, ?_, ?_⟩ (fun j j0 j5 j6 j7 => ?_)
    · rw [e6, up_2 _ (by decide), e3, up_2 _ (by decide), e2, up_2 _ (by decide), e1, up_s, hz, up_row (by decide), up_row (by decide), up_row (by decide), up_row (by decide), up_row (by decide), up_row (by decide), up_row (by decide), up_row (by decide)]
    · rw [t6.1 r_bookKind (by decide) (by decide), e6, up_2 _ (by decide), e3, up_2 _ (by decide), e2, up_s]
    · rw [t6.1 r_bookLevel (by decide) (by decide), e6, up_2 _ (by decide), e3, up_s]
    · rw [t6.1 r_bookPages (by decide) (by decide), tf_torn t6.1, e6, up_s]
    · rw [e6, up_2 _ j7, e3, up_2 _ j6, e2, up_2 _ j5, e1, up_2 _ j0]
  refine b_H_gatherBook hS ⟨inb_b (by omega) (by omega) (by decide), inb_b (by omega) (by omega) (by decide), ?_⟩
  rw [ix_nat (k := b) (by omega), ix_nat (k := c) (by omega), pl_bookTongue hI.pl b (by omega), pl_campTongue hI.pl c (by omega), w32_b (z := I r_bookTongue b) (by omega) (by omega), w32_b (z := I r_campTongue c) (by omega) (by omega)]
  exact ⟨fun e => k41 1 (by rw [if_pos e]), fun e => k41 0 (by rw [if_neg e])⟩
end PFa
