/-! ===== telling: what is told on both sides, Rel behind it ===== -/
def okA (A : XI) : Prop := ∀ a j, 0 < a → a < 44 → InR (A a j)
theorem okA.up {A : XI} {i k : Nat} {z : Int} (h : okA A) (hz : InR z) : okA (up A i k z) := fun a j h1 h2 => by
  by_cases e : a = i
  · subst e
    by_cases f : j = k
    · rw [f, up_s]; exact hz
    · rw [up_2 _ f]; exact h a j h1 h2
  · rw [up_1 _ e]; exact h a j h1 h2
theorem okR.up {A : XI} {i k : Nat} {z : Int} (h : okR A) (hz : InR z) : okR (up A i k z) := fun a j h1 h2 => by
  by_cases e : a = i
  · subst e
    by_cases f : j = k
    · rw [f, up_s]; exact hz
    · rw [up_2 _ f]; exact h a j h1 h2
  · rw [up_1 _ e]; exact h a j h1 h2
/-- only row 0 of the reference's rows has changed -/
def hiW (I B : XI) : Prop := ∀ a, 77 < a → a < 129 → ∀ j, wid a ≤ j → B a j = I a j
theorem hiW.refl (I : XI) : hiW I I := fun _ _ _ _ _ => rfl
theorem hiW.up {I B : XI} {i k : Nat} {z : Int} (h : hiW I B) (hk : k < wid i) : hiW I (up B i k z) := fun a h1 h2 j hj => by
  by_cases e : a = i
  · subst e; rw [up_2 _ (by omega)]; exact h a h1 h2 j hj
  · rw [up_1 _ e]; exact h a h1 h2 j hj
theorem up_comm {I : XI} {i j i' j' : Nat} {z z' : Int} (h : i ≠ i') : up (up I i j z) i' j' z' = up (up I i' j' z') i j z := by
  funext a b
  unfold up
  by_cases e : a = i
  · subst e; simp [h]
  · simp [e]
theorem up_at (I : XI) (i k : Nat) (z : Int) (j : Nat) : up I i k z i j = if j = k then z else I i j := by
  unfold up; simp
theorem Now.tell {I J A B : XI} (hI : Now I) (hP : Pl A 1 B) (eA : ∀ a, 0 < a → a < 44 → J a = A a) (eB : ∀ a, 77 < a → a < 129 → J a = B a) (oA : okA A) (oB : okR B) (hG : Good B) (w1 : A 2 1 = I 2 1) (w2 : B r_wells = I r_wells) (t1 : A 43 = I 43) (t2 : B r_tape = I r_tape) (ru : ∀ a, 32 < a → a < 40 → A a = I a) (rr : ∀ a, 116 < a → a < 125 → B a = I a) : Now J := by
  have bJ : ∀ a, 77 < a → a < 129 → J a = B a := eB
  refine ⟨fun a j h1 h2 => by rw [eB a h1 h2]; exact oB a j h1 h2, hG.eq eB, hP.eq (fun d hd => eA _ (by omega) (by omega)) eB, ?_, ?_, ?_, fun d j hd => by rw [eA _ (by omega) (by omega)]; exact oA _ _ (by omega) (by omega)⟩
  · obtain ⟨x1, x2⟩ := hI.2.2.2.1
    have e1 : J (1 + 1) 1 = I (1 + 1) 1 := by rw [eA (1 + 1) (by decide) (by decide)]; exact w1
    rw [e1, eB r_wells (by decide) (by decide), w2]
    exact ⟨x1, x2⟩
  · have x := hI.2.2.2.2.1
    have e1 : J (1 + 42) = I (1 + 42) := (eA (1 + 42) (by decide) (by decide)).trans t1
    rw [e1, eB r_tape (by decide) (by decide), t2]
    exact x
  · have x := hI.2.2.2.2.2.1
    have ec : ∀ a, 32 < a → a < 40 → J a = I a := fun a h1 h2 => (eA a (by omega) (by omega)).trans (ru a h1 h2)
    have er : ∀ a, 116 < a → a < 125 → J a = I a := fun a h1 h2 => (eB a (by omega) (by omega)).trans (rr a h1 h2)
    rw [ec (1 + 32) (by decide) (by decide), ec (1 + 33) (by decide) (by decide), ec (1 + 34) (by decide) (by decide), ec (1 + 35) (by decide) (by decide), ec (1 + 36) (by decide) (by decide), ec (1 + 37) (by decide) (by decide), ec (1 + 38) (by decide) (by decide), er r_lines (by decide) (by decide), er r_lineAct (by decide) (by decide), er r_lineNumber (by decide) (by decide), er r_lineTests (by decide) (by decide), er r_testNot (by decide) (by decide), er r_testWhat (by decide) (by decide), er r_testSign (by decide) (by decide), er r_testThan (by decide) (by decide)]
    exact x
theorem Cach.eq2 {I I' : XI} {nc ng nn m : Nat} (h : Cach I nc ng nn m) (e : ∀ a, ((2 < a ∧ a < 8) ∨ (10 < a ∧ a < 13) ∨ (13 < a ∧ a < 19) ∨ (44 < a ∧ a < 59)) → I' a = I a) : Cach I' nc ng nn m := by
  obtain ⟨h1, h2, h3⟩ := h
  refine ⟨by rw [e _ (by decide)]; exact h1, by rw [e _ (by decide)]; exact h2, fun c hc => ?_⟩
  have v1 : Xof I' = Xof I := by
    funext a
    unfold Xof
    split <;> exact e _ (by decide)
  have v2 : FCo I' c = FCo I c := by show (I' c_herds_firstCells c).toNat = _; rw [e c_herds_firstCells (by decide)]
  have v3 : FWo I' c = FWo I c := by show (I' c_herds_firstWeeks c).toNat = _; rw [e c_herds_firstWeeks (by decide)]
  rw [v1, v2, v3]
  obtain ⟨k1, k2⟩ := h3 c hc
  exact ⟨knWn_row k1 (by rw [e _ (by decide)]) (fun j _ _ => by rw [e _ (by decide)]) (fun i _ _ => by rw [e _ (by decide)]) (by rw [e _ (by decide)]), knWt_row k2 (by rw [e _ (by decide)]) (fun j _ _ => by rw [e _ (by decide)]) (fun i _ _ => by rw [e _ (by decide)]) (by rw [e _ (by decide)])⟩
/-- Rel behind a call that tells nothing that PARTS or walks are worked out of -/
theorem Rel.tell {S : XS} {I J : XI} (h : Rel S I) (hN : Now J) (eC : ∀ a, ((2 < a ∧ a < 8) ∨ (10 < a ∧ a < 13) ∨ (13 < a ∧ a < 19) ∨ (44 < a ∧ a < 63) ∨ a = 0 ∨ (64 < a ∧ a < 72) ∨ (134 < a ∧ a < 142) ∨ 145 < a) → J a = I a) (eF : J r_newsSeen = I r_newsSeen ∧ J r_testNot = I r_testNot) (eL : J c_land 1 = I c_land 1) (eN : J r_cells 0 = I r_cells 0 ∧ J r_grasses 0 = I r_grasses 0 ∧ J r_newsMany 0 = I r_newsMany 0 ∧ J r_camps 0 = I r_camps 0) (hi : hiW I J) : Rel S J := by
  obtain ⟨h1, h2, h3, h4, h5⟩ := h
  refine ⟨hN, ?_, h3.eq (by rw [eC _ (by decide)]) (eC _ (by decide)) (eC _ (by decide)) (eC _ (by decide)) eL, h4.eq (h4.1.1.eq eF.1 eF.2) (fun a ha => eC a (by omega)) hi, fun j => by rw [eC 0 (by decide)]; exact h5 j⟩
  show Cach J (J r_cells 0).toNat (J r_grasses 0).toNat (J r_newsMany 0).toNat (J r_camps 0).toNat
  rw [eN.1, eN.2.1, eN.2.2.1, eN.2.2.2]
  exact h2.eq2 (fun a ha => eC a (by omega))
/-! ===== an ACT told ===== -/
theorem gAc.add {I B : XI} {n : Nat} {bk kd cp wk tl am : Int} (h : gAc I) (hn : I r_acts 0 = (n : Int)) (hn2 : n < 150) (b0 : B r_acts 0 = (n : Int) + 1) (b1 : ∀ j, B r_actBook j = if j = n then bk else I r_actBook j) (b2 : ∀ j, B r_actKind j = if j = n then kd else I r_actKind j) (b3 : ∀ j, B r_actCamp j = if j = n then cp else I r_actCamp j) (b4 : ∀ j, B r_actWeek j = if j = n then wk else I r_actWeek j) (b5 : ∀ j, B r_actTold j = if j = n then tl else I r_actTold j) (b6 : ∀ j, B r_actMany j = if j = n then am else I r_actMany j) (e1 : B r_books 0 = I r_books 0) (e2 : B r_camps 0 = I r_camps 0) (e3 : B r_now 0 = I r_now 0)
    (c1 : 0 ≤ bk ∧ bk < I r_books 0) (c2 : 0 ≤ kd ∧ kd ≤ 3) (c3 : kd = 2 → cp = -1) (c4 : kd ≠ 2 → 0 ≤ cp ∧ cp < I r_camps 0) (c5 : 0 ≤ wk ∧ wk ≤ I r_now 0) (c6 : 0 ≤ tl ∧ tl ≤ I r_now 0) (c7 : kd = 0 → 1 ≤ am ∧ am ≤ 99) (c8 : kd = 3 → 1 ≤ am ∧ am ≤ 400) (c9 : kd = 1 → ∃ i, i < n ∧ I r_actKind i = 0 ∧ I r_actBook i = bk ∧ I r_actWeek i ≤ wk ∧ I r_actTold i ≤ tl) : gAc B := by
  refine ⟨by rw [b0]; omega, fun j hj => ?_⟩
  rw [b0] at hj
  rw [b1, b2, b3, b4, b5, b6, e1, e2, e3]
  by_cases e : j = n
  · rw [if_pos e, if_pos e, if_pos e, if_pos e, if_pos e, if_pos e]
    refine ⟨c1, c2, c3, c4, c5, c6, c7, c8, fun k1 => ?_⟩
    obtain ⟨i, i1, i2, i3, i4, i5⟩ := c9 k1
    refine ⟨i, by omega, ?_⟩
    rw [b1, b2, b4, b5, if_neg (by omega), if_neg (by omega), if_neg (by omega), if_neg (by omega)]
    exact ⟨i2, i3, i4, i5⟩
  · rw [if_neg e, if_neg e, if_neg e, if_neg e, if_neg e, if_neg e]
    obtain ⟨a1, a2, a3, a4, a5, a6, a7, a8, a9⟩ := h.2 j (by omega)
    refine ⟨a1, a2, a3, a4, a5, a6, a7, a8, fun k1 => ?_⟩
    obtain ⟨i, i1, i2, i3, i4, i5⟩ := a9 k1
    refine ⟨i, i1, ?_⟩
    rw [b1, b2, b4, b5, if_neg (by omega), if_neg (by omega), if_neg (by omega), if_neg (by omega)]
    exact ⟨i2, i3, i4, i5⟩
abbrev acA (I : XI) (n : Nat) (bk kd cp wk tl am cs : Int) : XI := up (up (up (up (up (up (up (up I c_shelf_actBooks n bk) c_shelf_actKinds n kd) c_shelf_actCamps n cp) c_shelf_actWeeks n wk) c_shelf_actTold n tl) c_shelf_actAmounts n am) c_shelf_actCosts n cs) c_shelf 6 ((n : Int) + 1)
abbrev acB (I : XI) (n : Nat) (bk kd cp wk tl am cs : Int) : XI := up (up (up (up (up (up (up (up I r_acts 0 ((n : Int) + 1)) r_actBook n bk) r_actKind n kd) r_actCamp n cp) r_actWeek n wk) r_actTold n tl) r_actMany n am) r_actCost n cs
theorem acA_row {I : XI} {n : Nat} {bk kd cp wk tl am cs : Int} {a : Nat} (h : a < 25 ∨ 31 < a) (h2 : a ≠ 19) : acA I n bk kd cp wk tl am cs a = I a := by
  unfold acA
  rw [up_row (show a ≠ 19 by omega), up_row (show a ≠ 31 by omega), up_row (show a ≠ 30 by omega), up_row (show a ≠ 29 by omega), up_row (show a ≠ 28 by omega), up_row (show a ≠ 27 by omega), up_row (show a ≠ 26 by omega), up_row (show a ≠ 25 by omega)]
theorem acB_row {I : XI} {n : Nat} {bk kd cp wk tl am cs : Int} {a : Nat} (h : a < 109 ∨ 116 < a) : acB I n bk kd cp wk tl am cs a = I a := by
  unfold acB
  rw [up_row (show a ≠ 116 by omega), up_row (show a ≠ 115 by omega), up_row (show a ≠ 114 by omega), up_row (show a ≠ 113 by omega), up_row (show a ≠ 112 by omega), up_row (show a ≠ 111 by omega), up_row (show a ≠ 110 by omega), up_row (show a ≠ 109 by omega)]
theorem acB_cong {I J : XI} {n : Nat} {bk kd cp wk tl am cs : Int} {a : Nat} (h : J a = I a) : acB J n bk kd cp wk tl am cs a = acB I n bk kd cp wk tl am cs a := up_cong (up_cong (up_cong (up_cong (up_cong (up_cong (up_cong (up_cong h)))))))
theorem acPl {I : XI} {n : Nat} {bk kd cp wk tl am cs : Int} (h : Pl I 1 I) (hn : n < 150) : Pl (acA I n bk kd cp wk tl am cs) 1 (acB I n bk kd cp wk tl am cs) := by
  have p1 := h.up2 24 0 110 150 (z := bk) (by decide) hn
  have p2 := p1.up2 25 0 111 150 (z := kd) (by decide) hn
  have p3 := p2.up2 26 0 112 150 (z := cp) (by decide) hn
  have p4 := p3.up2 27 0 113 150 (z := wk) (by decide) hn
  have p5 := p4.up2 28 0 114 150 (z := tl) (by decide) hn
  have p6 := p5.up2 29 0 115 150 (z := am) (by decide) hn
  have p7 := p6.up2 30 0 116 150 (z := cs) (by decide) hn
  have p8 := p7.up2 18 6 109 1 (j := 0) (z := (n : Int) + 1) (by decide) (by decide)
  refine p8.eq (fun d hd => rfl) (fun a h1 h2 => ?_)
  unfold acB
  rw [up_comm (I := I) (i := r_acts) (i' := r_actBook) (by decide), up_comm (i := r_acts) (i' := r_actKind) (by decide), up_comm (i := r_acts) (i' := r_actCamp) (by decide), up_comm (i := r_acts) (i' := r_actWeek) (by decide), up_comm (i := r_acts) (i' := r_actTold) (by decide), up_comm (i := r_acts) (i' := r_actMany) (by decide), up_comm (i := r_acts) (i' := r_actCost) (by decide)]
/-- Rel behind an ACT that both sides told -/
theorem rel_act {S : XS} {I J : XI} {n : Nat} {bk kd cp wk tl am cs : Int} (h : Rel S I) (hn : I r_acts 0 = (n : Int)) (hn2 : n < 150) (eA : ∀ a, (a < 63 ∨ (64 < a ∧ a < 72) ∨ (134 < a ∧ a < 142) ∨ 145 < a) → J a = acA I n bk kd cp wk tl am cs a) (eB : ∀ a, 77 < a → a < 129 → J a = acB I n bk kd cp wk tl am cs a)
    (c1 : 0 ≤ bk ∧ bk < I r_books 0) (c2 : 0 ≤ kd ∧ kd ≤ 3) (c3 : kd = 2 → cp = -1) (c4 : kd ≠ 2 → 0 ≤ cp ∧ cp < I r_camps 0) (c5 : 0 ≤ wk ∧ wk ≤ I r_now 0) (c6 : 0 ≤ tl ∧ tl ≤ I r_now 0) (c7 : kd = 0 → 1 ≤ am ∧ am ≤ 99) (c8 : kd = 3 → 1 ≤ am ∧ am ≤ 400) (c9 : kd = 1 → ∃ i, i < n ∧ I r_actKind i = 0 ∧ I r_actBook i = bk ∧ I r_actWeek i ≤ wk ∧ I r_actTold i ≤ tl) (ram : InR am) (rcs : InR cs) : Rel S J := by
  have cb := nB_c h.good
  have cm := nM_c h.good
  have hnow := h.good.1.1
  have rb : InR bk := ⟨by omega, by omega⟩
  have rk : InR kd := ⟨by omega, by omega⟩
  have rc : InR cp := by
    by_cases e : kd = 2
    · rw [c3 e]; exact ⟨by decide, by decide⟩
    · have := c4 e; exact ⟨by omega, by omega⟩
  have rw' : InR wk := ⟨by omega, by omega⟩
  have rt : InR tl := ⟨by omega, by omega⟩
  have rn : InR ((n : Int) + 1) := ⟨by omega, by omega⟩
  have oA : okA (acA I n bk kd cp wk tl am cs) := (((((((okA.up (fun a j h1 h2 => h.okC a j h2) rb).up rk).up rc).up rw').up rt).up ram).up rcs).up rn
  have oB : okR (acB I n bk kd cp wk tl am cs) := (((((((h.okR.up rn).up rb).up rk).up rc).up rw').up rt).up ram).up rcs
  have row : ∀ {a : Nat}, (a < 109 ∨ 116 < a) → acB I n bk kd cp wk tl am cs a = I a := fun ha => acB_row ha
  have z : ∀ {a : Nat}, (a < 109 ∨ 116 < a) → I a 0 ≤ acB I n bk kd cp wk tl am cs a 0 := fun ha => by rw [row ha]; exact Int.le_refl _
  obtain ⟨g1, g2, g3, g4, g5, g6, g7, g8, g9⟩ := h.good
  have G : Good (acB I n bk kd cp wk tl am cs) := by
    refine ⟨g1.mono (row (by decide)) (row (by decide)) (row (by decide)), g2.mono (row (by decide)) (row (by decide)) (row (by decide)) (row (by decide)), g3.mono (row (by decide)) (row (by decide)) (row (by decide)) (row (by decide)) (row (by decide)) (z (by decide)) (z (by decide)), g4.mono (row (by decide)) (row (by decide)) (row (by decide)) (row (by decide)) (row (by decide)) (z (by decide)) (z (by decide)), g5.mono (row (by decide)) (row (by decide)) (row (by decide)) (row (by decide)) (row (by decide)) (row (by decide)) (z (by decide)) (z (by decide)) (z (by decide)), g6.mono (row (by decide)) (row (by decide)) (row (by decide)) (row (by decide)) (row (by decide)) (row (by decide)), ?_, g8.mono (row (by decide)) (row (by decide)) (row (by decide)) (row (by decide)) (row (by decide)) (row (by decide)), g9.mono (row (by decide)) (row (by decide)) (row (by decide)) (z (by decide))⟩
    refine g7.add (n := n) hn hn2 ?_ (fun j => ?_) (fun j => ?_) (fun j => ?_) (fun j => ?_) (fun j => ?_) (fun j => ?_) (by rw [row (by decide)]) (by rw [row (by decide)]) (by rw [row (by decide)]) c1 c2 c3 c4 c5 c6 c7 c8 c9
    · unfold acB
      rw [up_row (by decide), up_row (by decide), up_row (by decide), up_row (by decide), up_row (by decide), up_row (by decide), up_row (by decide), up_s]
    · unfold acB
      rw [up_row (by decide), up_row (by decide), up_row (by decide), up_row (by decide), up_row (by decide), up_row (by decide), up_at, up_row (by decide)]
    · unfold acB
      rw [up_row (by decide), up_row (by decide), up_row (by decide), up_row (by decide), up_row (by decide), up_at, up_row (by decide), up_row (by decide)]
    · unfold acB
      rw [up_row (by decide), up_row (by decide), up_row (by decide), up_row (by decide), up_at, up_row (by decide), up_row (by decide), up_row (by decide)]
    · unfold acB
      rw [up_row (by decide), up_row (by decide), up_row (by decide), up_at, up_row (by decide), up_row (by decide), up_row (by decide), up_row (by decide)]
    · unfold acB
      rw [up_row (by decide), up_row (by decide), up_at, up_row (by decide), up_row (by decide), up_row (by decide), up_row (by decide), up_row (by decide)]
    · unfold acB
      rw [up_row (by decide), up_at, up_row (by decide), up_row (by decide), up_row (by decide), up_row (by decide), up_row (by decide), up_row (by decide)]
  have N : Now J := h.1.tell (acPl h.pl hn2) (fun a h1 h2 => eA a (by omega)) eB oA oB G (by rw [acA_row (by decide) (by decide)]) (row (by decide)) (acA_row (by decide) (by decide)) (row (by decide)) (fun a h1 h2 => acA_row (by omega) (by omega)) (fun a h1 h2 => row (by omega))
  refine h.tell N (fun a ha => (eA a (by omega)).trans (acA_row (by omega) (by omega))) ⟨(eB _ (by decide) (by decide)).trans (row (by decide)), (eB _ (by decide) (by decide)).trans (row (by decide))⟩ (by rw [eA _ (by decide), acA_row (by decide) (by decide)]) ⟨by rw [eB _ (by decide) (by decide), row (by decide)], by rw [eB _ (by decide) (by decide), row (by decide)], by rw [eB _ (by decide) (by decide), row (by decide)], by rw [eB _ (by decide) (by decide), row (by decide)]⟩ (fun a h1 h2 j hj => ?_)
  rw [eB a h1 h2]
  exact (((((((((hiW.refl I).up (i := r_acts) (by decide)).up (i := r_actBook) hn2).up (i := r_actKind) hn2).up (i := r_actCamp) hn2).up (i := r_actWeek) hn2).up (i := r_actTold) hn2).up (i := r_actMany) hn2).up (i := r_actCost) hn2) a h1 h2 j hj
section PTe
variable {G : XG} {S : XS} {I : XI}
theorem s_Sh_addAct {n : Nat} {bk kd cp wk tl am cs : Int} {R : Int → XI → Prop} (hS : xSh S) (hn : I c_shelf 6 = (n : Int)) (hn2 : n < 150) (h : ∀ J, J = acA I n bk kd cp wk tl am cs → R (n : Int) J) : Sh_addAct G S I bk kd cp wk tl am cs R := by
  refine b_Sh_addAct hS ?_
  rw [hn, w32_nat (k := n) (by omega), show w32 150 = 150 from rfl]
  have i150 : inb (n : Int) 150 := inb_b (by omega) (by omega) (by decide)
  refine ⟨fun _ => ⟨i150, fun I1 e1 => ?_⟩, fun e => absurd (by omega) e⟩
  have g : ∀ J : XI, J c_shelf = I c_shelf → J c_shelf 6 = (n : Int) := fun J e => by rw [e]; exact hn
  rw [ix_nat (k := n) (by omega)] at e1
  have s1 : I1 c_shelf = I c_shelf := by rw [e1]; exact up_row (by decide)
  rw [g I1 s1, ix_nat (k := n) (by omega)]
  refine ⟨i150, fun I2 e2 => ?_⟩
  have s2 : I2 c_shelf = I c_shelf := by rw [e2, up_row (by decide)]; exact s1
  rw [g I2 s2, ix_nat (k := n) (by omega)]
  refine ⟨i150, fun I3 e3 => ?_⟩
  have s3 : I3 c_shelf = I c_shelf := by rw [e3, up_row (by decide)]; exact s2
  rw [g I3 s3, ix_nat (k := n) (by omega)]
  refine ⟨i150, fun I4 e4 => ?_⟩
  have s4 : I4 c_shelf = I c_shelf := by rw [e4, up_row (by decide)]; exact s3
  rw [g I4 s4, ix_nat (k := n) (by omega)]
  refine ⟨i150, fun I5 e5 => ?_⟩
  have s5 : I5 c_shelf = I c_shelf := by rw [e5, up_row (by decide)]; exact s4
  rw [g I5 s5, ix_nat (k := n) (by omega)]
  refine ⟨i150, fun I6 e6 => ?_⟩
  have s6 : I6 c_shelf = I c_shelf := by rw [e6, up_row (by decide)]; exact s5
  rw [g I6 s6, ix_nat (k := n) (by omega)]
  refine ⟨i150, fun I7 e7 => ?_⟩
  have s7 : I7 c_shelf = I c_shelf := by rw [e7, up_row (by decide)]; exact s6
  rw [g I7 s7]
  intro I8 e8
  have e80 : I8 c_shelf 6 - 1 = (n : Int) := by rw [e8, up_s]; omega
  rw [e80]
  refine h I8 ?_
  rw [e8, e7, e6, e5, e4, e3, e2, e1]
theorem s_R_tellAct {n : Nat} {bk kd cp wk tl am cs : Int} {R : Int → XI → Prop} (hS : xSh S) (hn : I r_acts 0 = (n : Int)) (hn2 : n < 150) (ht : I r_now 0 = tl) (h : ∀ J, J = acB I n bk kd cp wk tl am cs → R (n : Int) J) : R_tellAct G S I bk kd cp wk am cs R := by
  refine b_R_tellAct hS (fun I1 e1 => ?_)
  rw [hn] at e1
  rw [hn, ix_nat (k := n) (by omega)]
  have i6 : inb (n : Int) 600 := inb_b (by omega) (by omega) (by decide)
  refine ⟨i6, fun I2 e2 => ⟨i6, fun I3 e3 => ⟨i6, fun I4 e4 => ⟨i6, fun I5 e5 => ⟨i6, fun I6 e6 => ⟨i6, fun I7 e7 => ⟨i6, fun I8 e8 => h I8 ?_⟩⟩⟩⟩⟩⟩⟩
  have en : I5 r_now 0 = tl := by rw [e5, up_1 _ (by decide), e4, up_1 _ (by decide), e3, up_1 _ (by decide), e2, up_1 _ (by decide), e1, up_1 _ (by decide)]; exact ht
  rw [en] at e6
  rw [e8, e7, e6, e5, e4, e3, e2, e1]
end PTe
