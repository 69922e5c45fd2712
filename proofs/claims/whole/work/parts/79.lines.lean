/-! ===== FACTS (reference); LINES that hold ===== -/
def tstS (sg v th : Int) : Int := if sg = 60 then (if v < th then 1 else 0) else if sg = 62 then (if th < v then 1 else 0) else (if v = th then 1 else 0)
/-- 1 if the first i TESTS of LINE l hold -/
def hldS (I : XI) (F : Nat → Int) (l : Nat) : Nat → Int
  | 0 => 1
  | i + 1 => if hldS I F l i = 0 then 0 else if tstS (I r_testSign (l * 4 + i)) (F (I r_testWhat (l * 4 + i)).toNat) (I r_testThan (l * 4 + i)) = I r_testNot (l * 4 + i) then 0 else 1
theorem hld_01 (I : XI) (F : Nat → Int) (l : Nat) : ∀ i, hldS I F l i = 0 ∨ hldS I F l i = 1
  | 0 => Or.inr rfl
  | i + 1 => by
    rw [hldS]; split
    · exact Or.inl rfl
    · split
      · exact Or.inl rfl
      · exact Or.inr rfl
theorem hld_0 {I : XI} {F : Nat → Int} {l i : Nat} (h : hldS I F l i = 0) : ∀ j, i ≤ j → hldS I F l j = 0 := by
  intro j
  induction j with
  | zero => intro q; rw [show i = 0 by omega] at h; exact h
  | succ j ih =>
    intro q
    by_cases e : i = j + 1
    · rw [← e]; exact h
    · rw [hldS, if_pos (ih (by omega))]
/-- the first from l on, n at most -/
def firstS (P : Nat → Prop) [DecidablePred P] : Nat → Nat → Int
  | 0, _ => -1
  | n + 1, l => if P l then (l : Int) else firstS P n (l + 1)
theorem firstS_in {P : Nat → Prop} [DecidablePred P] : ∀ n l, firstS P n l = -1 ∨ ∃ k, l ≤ k ∧ k < l + n ∧ P k ∧ firstS P n l = (k : Int)
  | 0, _ => Or.inl rfl
  | n + 1, l => by
    rw [firstS]
    by_cases c : P l
    · rw [if_pos c]; exact Or.inr ⟨l, Nat.le_refl _, by omega, c, rfl⟩
    · rw [if_neg c]
      rcases firstS_in (P := P) n (l + 1) with e | ⟨k, k1, k2, k3, k4⟩
      · exact Or.inl e
      · exact Or.inr ⟨k, by omega, by omega, k3, k4⟩
theorem firstS_cong {P Q : Nat → Prop} [DecidablePred P] [DecidablePred Q] : ∀ n l, (∀ k, l ≤ k → k < l + n → (P k ↔ Q k)) → firstS P n l = firstS Q n l
  | 0, _, _ => rfl
  | n + 1, l, h => by
    have h0 := h l (Nat.le_refl _) (by omega)
    rw [firstS, firstS]
    by_cases c : P l
    · rw [if_pos c, if_pos (h0.mp c)]
    · rw [if_neg c, if_neg (fun q => c (h0.mpr q)), firstS_cong n (l + 1) (fun k k1 k2 => h k (by omega) (by omega))]
abbrev lineR (I : XI) (F : Nat → Int) (act : Int) : Int := firstS (fun l => I r_lineAct l = act ∧ hldS I F l (I r_lineTests l).toNat = 1) (nL I) 0
abbrev numR (I : XI) (F : Nat → Int) (act wo : Int) : Int := if lineR I F act = -1 then wo else I r_lineNumber (lineR I F act).toNat
theorem hldS_cong {I J : XI} {F E : Nat → Int} (e : tf I J) (h : ∀ k, F k = E k) (l : Nat) : ∀ i, hldS J F l i = hldS I E l i
  | 0 => rfl
  | i + 1 => by
    rw [hldS, hldS, hldS_cong e h l i, e r_testSign (by decide) (by decide), e r_testWhat (by decide) (by decide), e r_testThan (by decide) (by decide), e r_testNot (by decide) (by decide), h]
theorem lineR_cong {I J : XI} {F E : Nat → Int} (e : tf I J) (h : ∀ k, F k = E k) (act : Int) : lineR J F act = lineR I E act := by
  have hn : nL J = nL I := by show (J r_lines 0).toNat = _; rw [e r_lines (by decide) (by decide)]
  unfold lineR
  rw [hn]
  refine firstS_cong _ _ (fun k _ _ => ?_)
  show (_ ∧ _) ↔ (_ ∧ _)
  rw [hldS_cong e h, e r_lineAct (by decide) (by decide), e r_lineTests (by decide) (by decide)]
theorem numR_cong {I J : XI} {F E : Nat → Int} (e : tf I J) (h : ∀ k, F k = E k) (act wo : Int) : numR J F act wo = numR I E act wo := by
  unfold numR; rw [lineR_cong e h, e r_lineNumber (by decide) (by decide)]
section PLi
variable {G : XG} {S : XS} {I : XI}
theorem okR_tf {I J : XI} (h : okR I) (e : tf I J) : okR J := fun a j h1 h2 => by rw [e a h1 h2]; exact h a j h1 h2
theorem actR_tf {I J : XI} {n : Nat} (h : actR I n) (e : tf I J) : actR J n := by
  unfold actR at h ⊢
  rw [e r_acts (by decide) (by decide), e r_actKind (by decide) (by decide), e r_actWeek (by decide) (by decide), e r_actCamp (by decide) (by decide), e r_actMany (by decide) (by decide), e r_dryWeek (by decide) (by decide)]
  exact h
theorem lent_tf {I J : XI} (h : Now I) (e : tf I J) {q wk lm : Int} (hw : whoR J (nA I) q wk lm ≠ -1) : (lastA (J r_actBook) (J r_actKind) (J r_actWeek) (J r_actTold) q 0 wk lm (nA I)).1 ≠ -1 := by
  rw [tf_who e] at hw
  rw [e r_actBook (by decide) (by decide), e r_actKind (by decide) (by decide), e r_actWeek (by decide) (by decide), e r_actTold (by decide) (by decide)]
  exact h.lent hw
theorem s_R_look {J0 : XI} {c b wk : Nat} {cp bv wp lm : Int} {R : XI → Prop} (hS : xSh S) (hI : Rel S I) (e0 : tf I J0) (hcp : cp = (c : Int)) (hc : c < nM I) (hbv : bv = (b : Int)) (hb : b < nB I) (hwp : wp = (wk : Int)) (hwk : wk ≤ 99) (hlm : InR lm)
    (h : ∀ J', tf I J' → (∀ k, k < 10 → J' r_seen k = seenR I c b wk lm k) → (∀ a, a ≠ 77 → (a < 129 ∨ (133 < a ∧ a ≠ 134)) → J' a = J0 a) → R J') : R_look G S J0 cp bv wp lm R := by
  subst hcp; subst hbv; subst hwp
  have cm := nM_c hI.good
  have cb := nB_c hI.good
  have ca := nA_c hI.good
  have cc := nC_c hI.good
  have gb := hI.good.2.2.2.2.2.1.2 b (by omega)
  have gc := hI.good.2.2.2.1.2.1 c (by omega)
  have hnow := hI.good.1.1
  obtain ⟨w1, w2, w3⟩ := hI.FW hc
  have r1 : InR (c : Int) := ⟨by omega, by omega⟩
  have r2 : InR (wk : Int) := ⟨by omega, by omega⟩
  have r3 : InR (b : Int) := ⟨by omega, by omega⟩
  have kp : ∀ J : XI, (∀ a, a ≠ 134 → J a = J0 a) → (okR J ∧ actR J (nA I)) ∧ tf I J := fun J e => by
    have t : tf I J := fun a h1 h2 => (e a (by omega)).trans (e0 a h1 h2)
    exact ⟨⟨okR_tf hI.okR t, actR_tf hI.1.actR t⟩, t⟩
  have nBJ : ∀ J : XI, tf I J → J r_books 0 = ((nB I : Nat) : Int) := fun J e => by rw [e r_books (by decide) (by decide)]; exact cb.1
  have nAJ : ∀ J : XI, tf I J → J r_acts 0 = ((nA I : Nat) : Int) := fun J e => by rw [e r_acts (by decide) (by decide)]; exact ca.1
  obtain ⟨h0, -⟩ := kp J0 (fun _ _ => rfl)
  refine b_R_look hS (s_R_held0 (b := nB I) hS h0.1 h0.2 (nBJ J0 e0) cb.2 r1 r2 hlm (fun J1 e1 => ?_))
  have f1 : ∀ a, a ≠ 134 → J1 a = J0 a := fun a ha => by rw [e1]; exact up_row ha
  obtain ⟨h1, t1⟩ := kp J1 f1
  refine s_R_held1 (b := nB I) hS h1.1 h1.2 (nBJ J1 t1) cb.2 r1 (by omega) r2 hlm (fun q _ x => lent_tf hI.1 t1 x) (fun J2 e2 => ⟨inb_b (by omega) (by omega) (by decide), fun J3 e3 => ⟨inb_b (by omega) (by omega) (by decide), fun J4 e4 => ⟨inb_b (by omega) (by omega) (by decide), ?_⟩⟩⟩)
  rw [ix_nat (k := b) (by omega)] at e3 e4 ⊢
  have f4 : ∀ a, a ≠ 134 → J4 a = J0 a := fun a ha => by rw [e4, up_row ha, e3, up_row ha, e2, up_row ha]; exact f1 a ha
  obtain ⟨h4, t4⟩ := kp J4 f4
  refine s_R_torn (n := nA I) hS h4.1 (nAJ J4 t4) ca.2 r3 ⟨by decide, by decide⟩ r2 hlm (Or.inl rfl) (fun J5 e5 => ?_)
  have f5 : ∀ a, a ≠ 134 → J5 a = J0 a := fun a ha => by rw [e5, up_row ha]; exact f4 a ha
  obtain ⟨h5, t5⟩ := kp J5 f5
  refine s_R_torn (n := nA I) hS h5.1 (nAJ J5 t5) ca.2 ⟨by decide, by decide⟩ r1 r2 hlm (Or.inl rfl) (fun J6 e6 J7 e7 => ⟨inb_b (by omega) (by omega) (by decide), inb_b (by omega) (by omega) (by decide), ?_⟩)
  have f7 : ∀ a, a ≠ 134 → J7 a = J0 a := fun a ha => by rw [e7, up_row ha, e6, up_row ha]; exact f5 a ha
  -- what stands there so far
  obtain ⟨h7, t7⟩ := kp J7 f7
  have s7 : J7 r_seen 0 = seenR I c b wk lm 0 ∧ J7 r_seen 1 = seenR I c b wk lm 1 ∧ J7 r_seen 2 = seenR I c b wk lm 2 ∧ J7 r_seen 3 = seenR I c b wk lm 3 ∧ J7 r_seen 4 = seenR I c b wk lm 4 ∧ J7 r_seen 5 = seenR I c b wk lm 5 ∧ J7 r_seen 6 = seenR I c b wk lm 6 := by
    have x4 := tf_torn t4 (b : Int) (-1) (wk : Int) lm 0
    have x5 := tf_torn t5 (-1) (c : Int) (wk : Int) lm 0
    unfold tornR at x4 x5
    rw [tf_nA t4] at x4
    rw [tf_nA t5] at x5
    have y2 : J2 r_bookKind b = I r_bookKind b := by rw [e2, up_1 _ (by decide), t1 _ (by decide) (by decide)]
    have y3 : J3 r_bookLevel b = I r_bookLevel b := by rw [e3, up_1 _ (by decide), e2, up_1 _ (by decide), t1 _ (by decide) (by decide)]
    refine ⟨?_, ?_, ?_, ?_, ?_, ?_, ?_⟩
    · rw [e7, up_2 _ (by decide), e6, up_2 _ (by decide), e5, up_2 _ (by decide), e4, up_2 _ (by decide), e3, up_2 _ (by decide), e2, up_2 _ (by decide), e1, up_s]
      exact cntA_congr (fun j _ => tf_who e0 _ _ _ _)
    · rw [e7, up_2 _ (by decide), e6, up_2 _ (by decide), e5, up_2 _ (by decide), e4, up_2 _ (by decide), e3, up_2 _ (by decide), e2, up_s]
      exact lateA_congr (fun j _ => ⟨tf_who t1 _ _ _ _, fun _ => tf_due t1 _ _ _ _⟩)
    · rw [e7, up_2 _ (by decide), e6, up_2 _ (by decide), e5, up_2 _ (by decide), e4, up_2 _ (by decide), e3, up_s, y2]; rfl
    · rw [e7, up_2 _ (by decide), e6, up_2 _ (by decide), e5, up_2 _ (by decide), e4, up_s, y3]; rfl
    · rw [e7, up_2 _ (by decide), e6, up_2 _ (by decide), e5, up_s, t4 r_bookPages (by decide) (by decide), x4]; rfl
    · rw [e7, up_2 _ (by decide), e6, up_s, x5]; rfl
    · rw [e7, up_s]; rfl
  obtain ⟨s0, s1, s2, s3, s4, s5, s6⟩ := s7
  rw [ix_nat (k := c) (by omega), t7 r_campTongue (by decide) (by decide), t7 r_bookTongue (by decide) (by decide), w32_b (z := I r_bookTongue b) (by omega) (by omega), w32_b (z := I r_campTongue c) (by omega) (by omega)]
  have k127 : ∀ z : Int, z = (if I r_bookTongue b = I r_campTongue c then 1 else 0) → R_look_k127 G S J7 (c : Int) (wk : Int) lm z 7 R := by
    intro z hz
    refine b_R_look_k127 hS ⟨inb_b (by decide) (by decide) (by decide), fun J8 e8 => ⟨inb_b (by omega) (by omega) (by decide), ?_⟩⟩
    rw [show ix 7 = 7 from rfl] at e8
    have f8 : ∀ a, a ≠ 134 → J8 a = J0 a := fun a ha => by rw [e8, up_row ha]; exact f7 a ha
    have gd := hI.good.2.1.2.2.2.2.2.2 wk (by omega)
    have k148 : ∀ y : Int, y = I r_dryWeek wk → R_look_k148 G S J8 (c : Int) (wk : Int) lm y 8 R := by
      intro y hy
      refine b_R_look_k148 hS ⟨inb_b (by decide) (by decide) (by decide), fun J9 e9 J10 e10 => ?_⟩
      rw [show ix 8 = 8 from rfl] at e9
      have f10 : ∀ a, a ≠ 134 → J10 a = J0 a := fun a ha => by rw [e10, up_row ha, e9, up_row ha]; exact f8 a ha
      obtain ⟨h10, t10⟩ := kp J10 f10
      have s10 : ∀ k, k < 9 → J10 r_seen k = seenR I c b wk lm k := fun k hk => by
        rw [e10, up_2 _ (by omega), e9]
        match k, hk with
        | 0, _ => rw [up_2 _ (by decide), e8, up_2 _ (by decide)]; exact s0
        | 1, _ => rw [up_2 _ (by decide), e8, up_2 _ (by decide)]; exact s1
        | 2, _ => rw [up_2 _ (by decide), e8, up_2 _ (by decide)]; exact s2
        | 3, _ => rw [up_2 _ (by decide), e8, up_2 _ (by decide)]; exact s3
        | 4, _ => rw [up_2 _ (by decide), e8, up_2 _ (by decide)]; exact s4
        | 5, _ => rw [up_2 _ (by decide), e8, up_2 _ (by decide)]; exact s5
        | 6, _ => rw [up_2 _ (by decide), e8, up_2 _ (by decide)]; exact s6
        | 7, _ => rw [up_2 _ (by decide), e8, up_s, hz]; rfl
        | 8, _ => rw [up_s, hy]; rfl
      have fin : ∀ J11 : XI, (∀ a, a ≠ 77 → (a < 129 ∨ (133 < a ∧ a ≠ 134)) → J11 a = J0 a) → (∀ k, k < 9 → J11 r_seen k = seenR I c b wk lm k) → J11 r_seen 9 = wellR I c wk lm → R J11 := fun J11 f11 s11 s9 => h J11 (fun a h1 h2 => (f11 a (by omega) (by omega)).trans (e0 a h1 h2)) (fun k hk => by
        by_cases e : k = 9
        · subst e; exact s9
        · exact s11 k (by omega)) f11
      refine s_R_isThere hS hI t10 r1 r2 (fun c' q => br1 ?_) (fun n => br0 ?_)
      · obtain ⟨q1, q2, q3, q4⟩ := q
        have ec : c' = c := by omega
        subst ec
        refine r_find (c := c') (wk := wk) hS hI t10 rfl hc rfl hwk (by omega) hlm (fun J11 P11 => s_R_greatest hS P11.1 (pt_ok hI.1.PtOk w3 _).2.1 ?_)
        have hal := amx_le (ptA (Xof I) (nC I) (nG I) (nN I) c' lm (FCo I c') (FWo I c') (wk - FWo I c')) 9
        have hw0 : wellR I c' wk lm = I r_wells (amx (ptA (Xof I) (nC I) (nG I) (nN I) c' lm (FCo I c') (FWo I c') (wk - FWo I c')) 9) := by unfold wellR; rw [if_pos (by omega)]
        have g01 := hI.good.2.1.2.2.2.2.1
        generalize amx (ptA (Xof I) (nC I) (nG I) (nN I) c' lm (FCo I c') (FWo I c') (wk - FWo I c')) 9 = x at hal hw0 ⊢
        have gx := g01 x (by omega)
        have f11 : ∀ a, a ≠ 77 → (a < 129 ∨ (133 < a ∧ a ≠ 134)) → J11 a = J0 a := fun a ha hb => (P11.2.1 a ha (by omega)).trans (f10 a (by omega))
        have s11 : ∀ k, J11 r_seen k = J10 r_seen k := fun k => by rw [P11.2.1 _ (by decide) (by decide)]
        rw [ix_nat (k := x) (by omega), f11 r_wells (by decide) (by decide), e0 r_wells (by decide) (by decide), w32_b (z := I r_wells x) (by omega) (by omega)]
        refine ⟨inb_b (by omega) (by omega) (by decide), fun q J12 e12 => ?_, fun q J12 e12 => ?_⟩
        · subst e12
          exact fin _ (fun a ha hb => by rw [up_row (show a ≠ 134 by omega)]; exact f11 a ha hb) (fun k hk => by rw [up_2 _ (by omega), s11]; exact s10 k hk) (by rw [up_s, hw0]; exact q.symm)
        · subst e12
          exact fin _ (fun a ha hb => by rw [up_row (show a ≠ 134 by omega)]; exact f11 a ha hb) (fun k hk => by rw [up_2 _ (by omega), s11]; exact s10 k hk) (by rw [up_s, hw0]; omega)
      · refine fin J10 (fun a ha hb => f10 a (by omega)) s10 ?_
        rw [e10, up_s]
        unfold wellR
        rw [if_neg (fun z => n ⟨c, rfl, by omega, by omega, by omega⟩)]
    rw [ix_nat (k := wk) (by omega), f8 r_dryWeek (by decide), e0 r_dryWeek (by decide) (by decide), w32_b (z := I r_dryWeek wk) (by omega) (by omega)]
    exact ⟨fun e => k148 0 e.symm, fun e => k148 1 (by omega)⟩
  exact ⟨fun e => k127 1 (by rw [if_pos e.symm]), fun e => k127 0 (by rw [if_neg (fun z => e z.symm)])⟩
theorem Rel.line (h : Rel S I) {l : Nat} (hl : l < nL I) : (I c_rules_deeds l = I r_lineAct l ∧ I c_rules_numbers l = I r_lineNumber l ∧ I c_rules_tests l = I r_lineTests l) ∧ (0 ≤ I r_lineAct l ∧ I r_lineAct l ≤ 2) ∧ (0 ≤ I r_lineTests l ∧ I r_lineTests l ≤ 4) ∧ ∀ i : Nat, (i : Int) < I r_lineTests l → (I c_rules_nots (l * 4 + i) = I r_testNot (l * 4 + i) ∧ I r_testWhat (l * 4 + i) = subR (I c_rules_subjects (l * 4 + i)) ∧ (0 ≤ I c_rules_subjects (l * 4 + i) ∧ I c_rules_subjects (l * 4 + i) ≤ 9) ∧ I c_rules_signs (l * 4 + i) = I r_testSign (l * 4 + i) ∧ I c_rules_bounds (l * 4 + i) = I r_testThan (l * 4 + i)) ∧ (I r_testNot (l * 4 + i) = 0 ∨ I r_testNot (l * 4 + i) = 1) := by
  have c := nL_c h.good
  have g := h.good.2.2.2.2.2.2.2.1.2 l (by omega)
  obtain ⟨x1, x2, x3, x4⟩ := h.1.2.2.2.2.2.1 l (by omega)
  exact ⟨⟨x1, x2, x3⟩, g.1, g.2.2.2.1, fun i hi => ⟨x4 i hi, g.2.2.2.2 i hi⟩⟩
theorem subR_in {s : Int} (h : 0 ≤ s ∧ s ≤ 9) : 0 ≤ subR s ∧ subR s ≤ 9 := by unfold subR; split <;> omega
theorem s_Ru_holds {F : Nat → Int} {l : Nat} {lv : Int} {R : Int → XI → Prop} (hS : xSh S) (hI : Rel S I) (hF : ∀ s : Nat, s < 10 → I c_facts s = F (subR s).toNat) (hFr : ∀ k, InR (F k)) (hlv : lv = (l : Int)) (hl : l < nL I) (ht : hldS I F l (I r_lineTests l).toNat = 1 → R 1 I) (hf : hldS I F l (I r_lineTests l).toNat = 0 → R 0 I) : Ru_holds G S I lv R := by
  subst hlv
  have cl := nL_c hI.good
  obtain ⟨⟨x1, x2, x3⟩, x4, x5, x6⟩ := hI.line hl
  obtain ⟨n, hn⟩ : ∃ n : Nat, I r_lineTests l = (n : Int) := ⟨(I r_lineTests l).toNat, by omega⟩
  rw [hn, Int.toNat_natCast] at ht hf
  refine b_Ru_holds hS ?_
  refine down (n := n) (P := fun i => hldS I F l i = 1 → Ru_holds_k2 G S I (l : Int) (i : Int) R) ?_ ?_ 0 (Nat.zero_le _) rfl
  · intro q
    refine b_Ru_holds_k2 hS ⟨inb_b (by omega) (by omega) (by decide), fun _ => ht q, fun e => absurd ?_ e⟩
    rw [ix_nat (by omega), x3, hn]; exact Int.le_refl _
  · intro i hi ih q
    obtain ⟨⟨y1, y2, y3, y4, y5⟩, y6⟩ := x6 i (by omega)
    have hs : hldS I F l (i + 1) = if tstS (I r_testSign (l * 4 + i)) (F (I r_testWhat (l * 4 + i)).toNat) (I r_testThan (l * 4 + i)) = I r_testNot (l * 4 + i) then 0 else 1 := by rw [hldS, if_neg (by omega)]
    have e4 : ((l : Int) * 4 + (i : Int)) = ((l * 4 + i : Nat) : Int) := by omega
    obtain ⟨sb, hsb⟩ : ∃ sb : Nat, I c_rules_subjects (l * 4 + i) = (sb : Int) := ⟨(I c_rules_subjects (l * 4 + i)).toNat, by omega⟩
    have hfac : I c_facts sb = F (I r_testWhat (l * 4 + i)).toNat := by rw [hF sb (by omega), y2, hsb]
    have fin : ∀ T : Int, (T = 0 ∨ T = 1) → T = tstS (I r_testSign (l * 4 + i)) (F (I r_testWhat (l * 4 + i)).toNat) (I r_testThan (l * 4 + i)) → (inb ((l * 4 + i : Nat) : Int) 64 ∧ ((w32 (I c_rules_nots (l * 4 + i)) = w32 1 → ((w32 T = w32 1 → R 0 I) ∧ (¬ (w32 T = w32 1) → Ru_holds_k2 G S I (l : Int) ((i : Int) + 1) R))) ∧ (¬ (w32 (I c_rules_nots (l * 4 + i)) = w32 1) → ((w32 T = w32 0 → R 0 I) ∧ (¬ (w32 T = w32 0) → Ru_holds_k2 G S I (l : Int) ((i : Int) + 1) R))))) := fun T hT hTe => by
      rw [← hTe] at hs
      have no : T = I r_testNot (l * 4 + i) → R 0 I := fun z => hf (hld_0 (i := i + 1) (by rw [hs, if_pos z]) n (by omega))
      have go : ¬ T = I r_testNot (l * 4 + i) → Ru_holds_k2 G S I (l : Int) ((i : Int) + 1) R := fun z => ih (by rw [hs, if_neg z])
      rw [y1, show w32 1 = 1 from rfl, show w32 0 = 0 from rfl, w32_b (z := T) (by omega) (by omega), w32_b (z := I r_testNot (l * 4 + i)) (by omega) (by omega)]
      exact ⟨inb_b (by omega) (by omega) (by decide), fun z => ⟨fun z2 => no (by omega), fun z2 => go (by omega)⟩, fun z => ⟨fun z2 => no (by omega), fun z2 => go (by omega)⟩⟩
    refine b_Ru_holds_k2 hS ⟨inb_b (by omega) (by omega) (by decide), fun e => absurd e ?_, fun _ => ?_⟩
    · rw [ix_nat (by omega), x3, hn, w32_nat (by omega), w32_nat (by omega)]; omega
    · rw [e4, ix_nat (k := l * 4 + i) (by omega), hsb, ix_nat (k := sb) (by omega), hfac]
      refine ⟨inb_b (by omega) (by omega) (by decide), inb_b (by omega) (by omega) (by decide), b_Ru_meetsTest hS ⟨inb_b (by omega) (by omega) (by decide), ?_⟩⟩
      rw [ix_nat (k := l * 4 + i) (by omega), y4, y5, w32_r (hI.okR r_testSign _ (by decide) (by decide)), w32_r (hI.okR r_testThan _ (by decide) (by decide)), w32_r (hFr _)]
      have i64 : inb ((l * 4 + i : Nat) : Int) 64 := inb_b (by omega) (by omega) (by decide)
      unfold tstS at fin
      refine ⟨fun z => ⟨i64, fun z2 => fin 0 (Or.inl rfl) ?_, fun z2 => fin 1 (Or.inr rfl) ?_⟩, fun z => ⟨i64, fun z2 => fin 0 (Or.inl rfl) ?_, fun z2 => fin 1 (Or.inr rfl) ?_⟩, fun z => ⟨i64, fun z2 => fin 1 (Or.inr rfl) ?_, fun z2 => fin 0 (Or.inl rfl) ?_⟩⟩
      · rw [if_pos z, if_neg (by omega)]
      · rw [if_pos z, if_pos (by omega)]
      · rw [if_neg (by omega), if_pos z, if_neg (by omega)]
      · rw [if_neg (by omega), if_pos z, if_pos (by omega)]
      · rw [if_neg z.1, if_neg z.2, if_pos z2]
      · rw [if_neg z.1, if_neg z.2, if_neg z2]
theorem s_Ru_first {F : Nat → Int} {act : Int} {R : Int → XI → Prop} (hS : xSh S) (hI : Rel S I) (hF : ∀ s : Nat, s < 10 → I c_facts s = F (subR s).toNat) (hFr : ∀ k, InR (F k)) (ha : InR act) (h : R (lineR I F act) I) : Ru_firstThatHolds G S I act R := by
  have cl := nL_c hI.good
  refine b_Ru_firstThatHolds hS ?_
  have key : ∀ m l, l + m = nL I → R (firstS (fun l => I r_lineAct l = act ∧ hldS I F l (I r_lineTests l).toNat = 1) m l) I → Ru_firstThatHolds_k2 G S I act (l : Int) R := by
    intro m
    induction m with
    | zero =>
      intro l hl hr
      refine b_Ru_firstThatHolds_k2 hS ⟨fun _ => hr, fun e => absurd ?_ e⟩
      rw [pl_lines hI.pl, cl.1, w32_nat (by omega), w32_nat (by omega)]; omega
    | succ m ih =>
      intro l hl hr
      rw [firstS] at hr
      obtain ⟨⟨x1, x2, x3⟩, x4, x5, x6⟩ := hI.line (l := l) (by omega)
      refine b_Ru_firstThatHolds_k2 hS ?_
      rw [pl_lines hI.pl, cl.1, w32_nat (k := nL I) (by omega), w32_nat (k := l) (by omega), ix_nat (k := l) (by omega), x1, w32_b (z := I r_lineAct l) (by omega) (by omega), w32_r ha]
      refine ⟨fun e => absurd e (by omega), fun _ => ⟨inb_b (by omega) (by omega) (by decide), fun c => s_Ru_holds hS hI hF hFr rfl (by omega) (fun q => br1 ?_) (fun q => br0 ?_), fun c => ?_⟩⟩
      · rw [if_pos ⟨c, q⟩] at hr; exact hr
      · rw [if_neg (fun z => by rw [q] at z; exact absurd z.2 (by decide))] at hr
        exact ih (l + 1) (by omega) hr
      · rw [if_neg (fun z => c z.1)] at hr
        exact ih (l + 1) (by omega) hr
  exact key (nL I) 0 (by omega) h
theorem s_Ru_number {F : Nat → Int} {act wo : Int} {R : Int → XI → Prop} (hS : xSh S) (hI : Rel S I) (hF : ∀ s : Nat, s < 10 → I c_facts s = F (subR s).toNat) (hFr : ∀ k, InR (F k)) (ha : InR act) (h : R (numR I F act wo) I) : Ru_numberBy G S I act wo R := by
  have cl := nL_c hI.good
  refine b_Ru_numberBy hS (s_Ru_first hS hI hF hFr ha ?_)
  unfold numR at h
  rcases firstS_in (P := fun l => I r_lineAct l = act ∧ hldS I F l (I r_lineTests l).toNat = 1) (nL I) 0 with e | ⟨k, k1, k2, k3, k4⟩
  · have e : lineR I F act = -1 := e
    rw [e] at h ⊢
    exact ⟨fun _ => h, fun n => absurd rfl n⟩
  · have k4 : lineR I F act = (k : Int) := k4
    obtain ⟨⟨x1, x2, x3⟩, -⟩ := hI.line (l := k) (by omega)
    rw [k4, if_neg (by omega), Int.toNat_natCast] at h
    rw [k4, w32_nat (k := k) (by omega), show w32 (-1) = -1 from rfl, ix_nat (k := k) (by omega), x2]
    exact ⟨fun n => absurd n (by omega), fun _ => ⟨inb_b (by omega) (by omega) (by decide), h⟩⟩
theorem s_R_lineOf {J : XI} {F : Nat → Int} {act : Int} {R : Int → XI → Prop} (hS : xSh S) (hI : Rel S I) (e : tf I J) (hF : ∀ k : Nat, k < 10 → J r_seen k = F k) (hFr : ∀ k, InR (F k)) (ha : InR act) (h : R (lineR I F act) J) : R_lineOf G S J act R := by
  have cl := nL_c hI.good
  refine b_R_lineOf hS ?_
  have key : ∀ m l, l + m = nL I → R (firstS (fun l => I r_lineAct l = act ∧ hldS I F l (I r_lineTests l).toNat = 1) m l) J → R_lineOf_k2 G S J act (l : Int) R := by
    intro m
    induction m with
    | zero =>
      intro l hl hr
      refine b_R_lineOf_k2 hS ⟨fun _ => hr, fun e9 => absurd ?_ e9⟩
      rw [e r_lines (by decide) (by decide), cl.1, w32_nat (by omega), w32_nat (by omega)]; omega
    | succ m ih =>
      intro l hl hr
      rw [firstS] at hr
      obtain ⟨⟨x1, x2, x3⟩, x4, x5, x6⟩ := hI.line (l := l) (by omega)
      obtain ⟨n, hn⟩ : ∃ n : Nat, I r_lineTests l = (n : Int) := ⟨(I r_lineTests l).toNat, by omega⟩
      rw [hn, Int.toNat_natCast] at hr
      have e4l : ((4 : Int) * (l : Int)) = ((l * 4 + 0 : Nat) : Int) := by omega
      have no : ¬ (I r_lineAct l = act ∧ hldS I F l n = 1) → R_lineOf_k2 G S J act ((l : Int) + 1) R := fun z => by
        rw [if_neg z] at hr; exact ih (l + 1) (by omega) hr
      -- a LINE that doesn't hold is left
      have k0 : ∀ i, i ≤ n → ¬ (I r_lineAct l = act ∧ hldS I F l n = 1) → R_lineOf_k33 G S J act (l : Int) 0 ((l * 4 + i : Nat) : Int) R := fun i hi z => by
        refine b_R_lineOf_k33 hS ⟨inb_b (by omega) (by omega) (by decide), fun _ => br0 (no z), fun _ => br0 (br0 (no z))⟩
      have k1 : I r_lineAct l = act → ∀ i, i ≤ n → hldS I F l i = 1 → R_lineOf_k33 G S J act (l : Int) 1 ((l * 4 + i : Nat) : Int) R := fun hact => by
        refine down (n := n) (P := fun i => hldS I F l i = 1 → R_lineOf_k33 G S J act (l : Int) 1 ((l * 4 + i : Nat) : Int) R) ?_ ?_
        · intro q
          refine b_R_lineOf_k33 hS ⟨inb_b (by omega) (by omega) (by decide), fun _ => br1 ?_, fun e9 => absurd ?_ e9⟩
          · rw [if_pos ⟨hact, q⟩] at hr; exact hr
          · rw [ix_nat (by omega), e r_lineTests (by decide) (by decide), hn, show ((4 : Int) * (l : Int) + (n : Int)) = ((l * 4 + n : Nat) : Int) by omega]; exact Int.le_refl _
        · intro i hi ihi q
          obtain ⟨⟨y1, y2, y3, y4, y5⟩, y6⟩ := x6 i (by omega)
          have hs : hldS I F l (i + 1) = if tstS (I r_testSign (l * 4 + i)) (F (I r_testWhat (l * 4 + i)).toNat) (I r_testThan (l * 4 + i)) = I r_testNot (l * 4 + i) then 0 else 1 := by rw [hldS, if_neg (by omega)]
          have wi := subR_in y3
          rw [← y2] at wi
          have fin : ∀ T : Int, (T = 0 ∨ T = 1) → T = tstS (I r_testSign (l * 4 + i)) (F (I r_testWhat (l * 4 + i)).toNat) (I r_testThan (l * 4 + i)) → R_lineOf_k147 G S J act (l : Int) ((l * 4 + i : Nat) : Int) T R := fun T hT hTe => by
            rw [← hTe] at hs
            refine b_R_lineOf_k147 hS ⟨inb_b (by omega) (by omega) (by decide), ?_⟩
            rw [ix_nat (k := l * 4 + i) (by omega), e r_testNot (by decide) (by decide), w32_b (z := T) (by omega) (by omega), w32_b (z := I r_testNot (l * 4 + i)) (by omega) (by omega)]
            have en : (((l * 4 + i : Nat) : Int) + 1) = ((l * 4 + (i + 1) : Nat) : Int) := by omega
            rw [en]
            exact ⟨fun z => k0 (i + 1) (by omega) (fun w => by rw [hld_0 (i := i + 1) (by rw [hs, if_pos z]) n (by omega)] at w; exact absurd w.2 (by decide)), fun z => ihi (by rw [hs, if_neg z])⟩
          refine b_R_lineOf_k33 hS ⟨inb_b (by omega) (by omega) (by decide), fun e9 => absurd e9 ?_, fun _ => br1 ?_⟩
          · rw [ix_nat (by omega), e r_lineTests (by decide) (by decide), hn, show ((4 : Int) * (l : Int) + (n : Int)) = ((l * 4 + n : Nat) : Int) by omega, w32_nat (by omega), w32_nat (by omega)]; omega
          · have i256 : inb ((l * 4 + i : Nat) : Int) 256 := inb_b (by omega) (by omega) (by decide)
            rw [ix_nat (k := l * 4 + i) (by omega), e r_testWhat (by decide) (by decide), e r_testSign (by decide) (by decide), e r_testThan (by decide) (by decide), ix_b (z := I r_testWhat (l * 4 + i)) (by omega) (by omega), hF _ (by omega), w32_r (hI.okR r_testSign _ (by decide) (by decide)), w32_r (hI.okR r_testThan _ (by decide) (by decide)), w32_r (hFr _), show w32 60 = 60 from rfl, show w32 62 = 62 from rfl]
            unfold tstS at fin
            refine ⟨i256, inb_b (by omega) (by omega) (by decide), i256, fun z => ⟨i256, fun z2 => fin 0 (Or.inl rfl) ?_, fun z2 => fin 1 (Or.inr rfl) ?_⟩, fun z => ⟨i256, fun w => ⟨i256, fun z2 => fin 0 (Or.inl rfl) ?_, fun z2 => fin 1 (Or.inr rfl) ?_⟩, fun w => ⟨i256, fun z2 => fin 1 (Or.inr rfl) ?_, fun z2 => fin 0 (Or.inl rfl) ?_⟩⟩⟩
            · rw [if_pos z, if_neg (by omega)]
            · rw [if_pos z, if_pos (by omega)]
            · rw [if_neg z, if_pos w, if_neg (by omega)]
            · rw [if_neg z, if_pos w, if_pos (by omega)]
            · rw [if_neg z, if_neg w, if_pos z2]
            · rw [if_neg z, if_neg w, if_neg z2]
      refine b_R_lineOf_k2 hS ?_
      rw [e r_lines (by decide) (by decide), e r_lineAct (by decide) (by decide), cl.1, w32_nat (k := nL I) (by omega), w32_nat (k := l) (by omega), ix_nat (k := l) (by omega), w32_b (z := I r_lineAct l) (by omega) (by omega), w32_r ha, e4l]
      exact ⟨fun e9 => absurd e9 (by omega), fun _ => ⟨inb_b (by omega) (by omega) (by decide), fun c => k1 c 0 (Nat.zero_le _) rfl, fun c => k0 0 (Nat.zero_le _) (fun z => c z.1)⟩⟩
  exact key (nL I) 0 (by omega) h
theorem s_R_numberOf {J : XI} {F : Nat → Int} {act wo : Int} {R : Int → XI → Prop} (hS : xSh S) (hI : Rel S I) (e : tf I J) (hF : ∀ k : Nat, k < 10 → J r_seen k = F k) (hFr : ∀ k, InR (F k)) (ha : InR act) (h : R (numR I F act wo) J) : R_numberOf G S J act wo R := by
  have cl := nL_c hI.good
  refine b_R_numberOf hS (s_R_lineOf hS hI e hF hFr ha ?_)
  unfold numR at h
  rcases firstS_in (P := fun l => I r_lineAct l = act ∧ hldS I F l (I r_lineTests l).toNat = 1) (nL I) 0 with e9 | ⟨k, k1, k2, k3, k4⟩
  · have e9 : lineR I F act = -1 := e9
    rw [e9] at h ⊢
    exact ⟨fun _ => h, fun n => absurd rfl n⟩
  · have k4 : lineR I F act = (k : Int) := k4
    rw [k4, if_neg (by omega), Int.toNat_natCast] at h
    rw [k4, w32_nat (k := k) (by omega), show w32 (-1) = -1 from rfl, ix_nat (k := k) (by omega), e r_lineNumber (by decide) (by decide)]
    exact ⟨fun n => absurd n (by omega), fun _ => ⟨inb_b (by omega) (by omega) (by decide), h⟩⟩
end PLi
