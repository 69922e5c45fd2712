/-! ===== printed by wip/gen86.py: cell, way ===== -/
/-- PARTS and walks are forgotten -/
abbrev fgw (I : XI) : XI := up (fgt I) c_walks 6 0
theorem fgw_row {I : XI} {a : Nat} (h1 : a ≠ 47) (h2 : a ≠ 54) (h3 : a ≠ 59) : fgw I a = I a := (up_row h3).trans (fgt_row h1 h2)
theorem rel_newW {S : XS} {I J K : XI} (h : Rel S I) (hN : Now J) (eK : ∀ a, 43 < a → a < 77 → J a = fgw K a) (k1 : K c_now = I c_now) (k2 : K c_then = I c_then) (eF : J r_newsSeen = I r_newsSeen ∧ J r_testNot = I r_testNot) (im : ∀ a, (a = 0 ∨ (64 < a ∧ a < 72) ∨ (134 < a ∧ a < 142) ∨ 145 < a) → J a = I a) (hi : hiW I J) : Rel S J := by
  refine rel_new h hN (fun c hc => ?_) (fun c hc => ?_) ?_ ?_ (Or.inl ?_) (h.2.2.2.1.1.1.eq eF.1 eF.2) im hi
  · rw [eK _ (by decide) (by decide)]; exact (congrFun (up_row (show c_now_knownTo ≠ c_walks by decide)) c).trans (fgt_1 hc)
  · rw [eK _ (by decide) (by decide)]; exact (congrFun (up_row (show c_then_knownTo ≠ c_walks by decide)) c).trans (fgt_2 hc)
  · rw [eK _ (by decide) (by decide), fgw_row (by decide) (by decide) (by decide), k1]
  · rw [eK _ (by decide) (by decide), fgw_row (by decide) (by decide) (by decide), k2]
  · rw [eK _ (by decide) (by decide)]; exact up_s _ _ _ _
theorem Rel.fgw {S : XS} {I : XI} (h : Rel S I) : Rel S (fgw I) :=
  rel_newW (K := I) h (h.1.eq (fun a h1 h2 => fgw_row (by omega) (by omega) (by omega)) (fun a h1 h2 => fgw_row (by omega) (by omega) (by omega))) (fun _ _ _ => rfl) rfl rfl ⟨fgw_row (by decide) (by decide) (by decide), fgw_row (by decide) (by decide) (by decide)⟩ (fun a ha => fgw_row (by omega) (by omega) (by omega)) (fun a h1 h2 j hj => congrFun (fgw_row (by omega) (by omega) (by omega)) j)
theorem up_same (I : XI) (i j : Nat) : up I i j (I i j) = I := by
  funext a b
  unfold up
  by_cases e : a = i
  · subst e
    by_cases f : b = j
    · subst f; simp
    · simp [f]
  · simp [e]
theorem bit_set10 {w : Int} {b : Nat} (h0 : 0 ≤ w) (h1 : w < 1024) (hb : b < 10) : (0 ≤ ior w (ishl 1 (b : Int)) ∧ ior w (ishl 1 (b : Int)) < 1024) ∧ ∀ k, bitI (ior w (ishl 1 (b : Int))) k = if k = b then 1 else bitI w k := by
  refine ⟨?_, (bit_set h0 (by omega) (by omega)).2⟩
  obtain ⟨n, rfl⟩ : ∃ n : Nat, w = (n : Int) := ⟨w.toNat, by omega⟩
  have e1 : (1 : Int) = ((1 : Nat) : Int) := rfl
  have hp : 2 ^ b < 1024 := Nat.pow_lt_pow_right (n := 10) (by decide) hb
  have hor := Nat.or_lt_two_pow (n := 10) (x := n) (y := 2 ^ b) (by omega) hp
  rw [e1, ishlN (by omega) (by omega), Nat.one_mul, iorN (by omega) (by omega)]
  omega
theorem Pl.wells {A B : XI} {j : Nat} {z z' : Int} (h : Pl A 1 B) : Pl (up A c_land 1 z) 1 (up B r_wells j z') := fun q hq i hi => by
  obtain ⟨_, _, o3, _, _, o6⟩ := plT_ok2 q hq
  rw [up_row (show q.2.2.1 ≠ 85 from o3)]
  by_cases e : 1 + q.1 = 2
  · have x := o6 (by omega)
    rw [up_2 _ (show i + q.2.1 ≠ 1 by omega)]; exact h q hq i hi
  · rw [up_row (show 1 + q.1 ≠ c_land from e)]; exact h q hq i hi
/-- as Now.tell, the wells told -/
theorem Now.tellW {I J A B : XI} (hI : Now I) (hP : Pl A 1 B) (eA : ∀ a, 0 < a → a < 44 → J a = A a) (eB : ∀ a, 77 < a → a < 129 → J a = B a) (oA : okA A) (oB : okR B) (hG : Good B) (w1 : (0 ≤ A 2 1 ∧ A 2 1 < 1024) ∧ ∀ c, c < 10 → bitI (A 2 1) c = B r_wells c) (t1 : A 43 = I 43) (t2 : B r_tape = I r_tape) (ru : ∀ a, 32 < a → a < 40 → A a = I a) (rr : ∀ a, 116 < a → a < 125 → B a = I a) : Now J := by
  refine ⟨fun a j h1 h2 => by rw [eB a h1 h2]; exact oB a j h1 h2, hG.eq eB, hP.eq (fun d hd => eA _ (by omega) (by omega)) eB, ?_, ?_, ?_, fun d j hd => by rw [eA _ (by omega) (by omega)]; exact oA _ _ (by omega) (by omega)⟩
  · rw [eA (1 + 1) (by decide) (by decide), eB r_wells (by decide) (by decide)]
    exact w1
  · have x := hI.2.2.2.2.1
    have e1 : J (1 + 42) = I (1 + 42) := (eA (1 + 42) (by decide) (by decide)).trans t1
    rw [e1, eB r_tape (by decide) (by decide), t2]
    exact x
  · have x := hI.2.2.2.2.2.1
    have ec : ∀ a, 32 < a → a < 40 → J a = I a := fun a h1 h2 => (eA a (by omega) (by omega)).trans (ru a h1 h2)
    have er : ∀ a, 116 < a → a < 125 → J a = I a := fun a h1 h2 => (eB a (by omega) (by omega)).trans (rr a h1 h2)
    rw [ec (1 + 32) (by decide) (by decide), ec (1 + 33) (by decide) (by decide), ec (1 + 34) (by decide) (by decide), ec (1 + 35) (by decide) (by decide), ec (1 + 36) (by decide) (by decide), ec (1 + 37) (by decide) (by decide), ec (1 + 38) (by decide) (by decide), er r_lines (by decide) (by decide), er r_lineAct (by decide) (by decide), er r_lineNumber (by decide) (by decide), er r_lineTests (by decide) (by decide), er r_testNot (by decide) (by decide), er r_testWhat (by decide) (by decide), er r_testSign (by decide) (by decide), er r_testThan (by decide) (by decide)]
    exact x
section PT3
variable {G : XG} {S : XS} {I : XI}
theorem s_H_forgetWays {R : XI → Prop} (hS : xSh S) (h : R (fgw I)) : H_forgetWays G S I R := b_H_forgetWays hS (s_H_forgetParts hS (b_Wa_forget hS (fun J e => by rw [e]; exact h)))
theorem s_La_addCell {n : Nat} {v1 : Int} {R : Int → XI → Prop} (hS : xSh S) (b1 : v1 = 0 ∨ v1 = 1) (hn : I c_land 0 = (n : Int)) (hn2 : n < 10) (h : ∀ J, J = up (up I c_land 1 (if v1 = 0 then I c_land 1 else ior (I c_land 1) (ishl 1 (n : Int)))) c_land 0 ((n : Int) + 1) → R (n : Int) J) : La_addCell G S I v1 R := by
  refine b_La_addCell hS ?_
  rw [hn, w32_nat (k := n) (by omega), show w32 10 = 10 from rfl]
  have k30 : ∀ z, z = (if v1 = 0 then I c_land 1 else ior (I c_land 1) (ishl 1 (n : Int))) → La_addCell_k30 G S (up I c_land 1 z) R := fun z ez => by
    refine b_La_addCell_k30 hS (fun I2 e2 => ?_)
    have e0 : up I c_land 1 z c_land 0 = (n : Int) := by rw [up_2 _ (by decide)]; exact hn
    rw [e0] at e2
    have e3 : I2 c_land 0 - 1 = (n : Int) := by rw [e2, up_s]; omega
    rw [e3]
    exact h I2 (by rw [e2, ez])
  refine ⟨fun _ => ?_, fun e => absurd (by omega) e⟩
  rcases b1 with e | e
  · subst e
    have := k30 (I c_land 1) (by rw [if_pos rfl])
    rw [up_same] at this
    exact br0 this
  · subst e
    exact br1 (fun I1 e1 => by rw [e1]; exact k30 _ (by rw [if_neg (by decide)]))
theorem t_cell {v1 : Int} {R : Int → Int → XI → Prop} (hS : xSh S) (hI : Rel S I) (b1 : v1 = 0 ∨ v1 = 1) (h : ∀ r J, Rel S J → R r r J) : H_cell G S I v1 (fun r I1 => R_cell G S I1 v1 (fun r' J => R r r' J)) := by
  obtain ⟨n, hn, hn2⟩ : ∃ n : Nat, I r_cells 0 = (n : Int) ∧ n ≤ 10 := ⟨_, nC_c hI.good⟩
  have ref : ∀ (J0 : XI) (T : Int → XI → Prop), tf I J0 → (n = 10 → T (-1) (up J0 r_obj 0 0)) → (n < 10 → ∀ J, J = up (up (up J0 r_obj 0 0) r_cells 0 ((n : Int) + 1)) r_wells n v1 → T (n : Int) J) → R_cell G S J0 v1 T := fun J0 T t0 kn ky => by
    refine b_R_cell hS (fun J e => ?_)
    have tc := code_tf t0
    rw [← e] at kn ky tc
    have tJ : J r_cells 0 = (n : Int) := by rw [tc r_cells (by decide) (by decide)]; exact hn
    rw [tJ, w32_nat (k := n) (by omega), show w32 10 = 10 from rfl, ix_nat (k := n) (by omega)]
    exact ⟨fun c => kn (by omega), fun c I1 e1 => ⟨b1, inb_b (by omega) (by omega) (by decide), fun I2 e2 => ky (by omega) I2 (by rw [e2, e1])⟩⟩
  refine b_H_cell hS ?_
  have hc : I c_land 0 = (n : Int) := (pl_cells hI.pl).trans hn
  have tw : ∀ K : XI, tf K (fgw K) := fun K a h1 h2 => fgw_row (by omega) (by omega) (by omega)
  by_cases c : n = 10
  · refine b_La_addCell hS ?_
    rw [hc, c, show w32 ((10 : Nat) : Int) = 10 from rfl, show w32 10 = 10 from rfl]
    exact ⟨fun e => absurd e (by decide), fun _ => s_H_forgetWays hS (ref _ _ (tw I) (fun _ => h _ _ (hI.fgw.code rfl).1) (fun x => by omega))⟩
  have cn : n < 10 := by omega
  obtain ⟨W, eW⟩ : ∃ W, W = if v1 = 0 then I c_land 1 else ior (I c_land 1) (ishl 1 (n : Int)) := ⟨_, rfl⟩
  obtain ⟨w1, w2⟩ := hI.1.2.2.2.1
  have w1 : 0 ≤ I c_land 1 ∧ I c_land 1 < 1024 := w1
  have w2 : ∀ c, c < 10 → bitI (I c_land 1) c = I r_wells c := w2
  have hw : (0 ≤ W ∧ W < 1024) ∧ ∀ k, k < 10 → bitI W k = if k = n then v1 else I r_wells k := by
    have g0 := hI.good.2.1.2.2.2.2.2.1 n (by omega) cn
    rcases b1 with e | e
    · rw [eW, if_pos e]
      refine ⟨w1, fun k hk => ?_⟩
      rw [w2 k hk]
      split
      · next q => rw [q, g0, e]
      · rfl
    · rw [eW, if_neg (by omega)]
      obtain ⟨q1, q2⟩ := bit_set10 (w := I c_land 1) (b := n) w1.1 w1.2 cn
      refine ⟨q1, fun k hk => ?_⟩
      rw [q2 k, e, w2 k hk]
  refine s_La_addCell (n := n) hS b1 hc cn (fun I1 e1 => s_H_forgetWays hS ?_)
  rw [← eW] at e1
  have tA : tf I I1 := fun a h1 h2 => by rw [e1, up_row (show a ≠ 2 by omega), up_row (show a ≠ 2 by omega)]
  refine ref _ _ (tA.trans (tw I1)) (fun q => absurd q c) (fun _ J eJ => h _ _ ?_)
  obtain ⟨B, eB⟩ : ∃ B, B = up (up I r_cells 0 ((n : Int) + 1)) r_wells n v1 := ⟨_, rfl⟩
  have row : ∀ a, (a < 84 ∨ 85 < a) → B a = I a := fun a ha => by rw [eB]; exact (up_row (show a ≠ 85 by omega)).trans (up_row (show a ≠ 84 by omega))
  have c0 : B r_cells 0 = (n : Int) + 1 := by rw [eB, up_row (by decide), up_s]
  have c1 : ∀ j, B r_wells j = if j = n then v1 else I r_wells j := fun j => by rw [eB, up_at, up_row (by decide)]
  have zz : ∀ a, (a ≠ 85) → I a 0 ≤ B a 0 := fun a ha => by
    by_cases e : a = 84
    · subst e; have x : I r_cells 0 ≤ B r_cells 0 := by omega
      exact x
    · rw [row a (by omega)]; exact Int.le_refl _
  have HG : Good B := by
    obtain ⟨g1, g2, g3, g4, g5, g6, g7, g8, g9⟩ := hI.good
    refine ⟨g1.mono (row _ (by decide)) (row _ (by decide)) (row _ (by decide)), ?_, g3.mono (row _ (by decide)) (row _ (by decide)) (row _ (by decide)) (row _ (by decide)) (row _ (by decide)) (zz r_cells (by decide)) (zz r_now (by decide)), g4.mono (row _ (by decide)) (row _ (by decide)) (row _ (by decide)) (row _ (by decide)) (row _ (by decide)) (zz r_cells (by decide)) (zz r_now (by decide)), g5.mono (row _ (by decide)) (row _ (by decide)) (row _ (by decide)) (row _ (by decide)) (row _ (by decide)) (row _ (by decide)) (zz r_camps (by decide)) (zz r_cells (by decide)) (zz r_now (by decide)), g6.mono (row _ (by decide)) (row _ (by decide)) (row _ (by decide)) (row _ (by decide)) (row _ (by decide)) (row _ (by decide)), g7.mono (row _ (by decide)) (row _ (by decide)) (row _ (by decide)) (row _ (by decide)) (row _ (by decide)) (row _ (by decide)) (row _ (by decide)) (row _ (by decide)) (zz r_books (by decide)) (zz r_camps (by decide)) (zz r_now (by decide)), g8.mono (row _ (by decide)) (row _ (by decide)) (row _ (by decide)) (row _ (by decide)) (row _ (by decide)) (row _ (by decide)), g9.mono (row _ (by decide)) (row _ (by decide)) (row _ (by decide)) (zz r_camps (by decide))⟩
    unfold gLa at g2 ⊢
    rw [c0, row r_ways (by decide), row r_dryWeek (by decide)]
    refine ⟨by omega, g2.2.1, g2.2.2.1, fun a b ha hb q => g2.2.2.2.1 a b ha hb (by omega), fun k hk => ?_, fun k q hk => ?_, g2.2.2.2.2.2.2⟩
    · rw [c1 k]; split
      · exact b1
      · exact g2.2.2.2.2.1 k hk
    · rw [c1 k, if_neg (by omega)]; exact g2.2.2.2.2.2.1 k (by omega) hk
  have eJB : ∀ a, 77 < a → a < 129 → J a = B a := fun a h1 h2 => by
    rw [eJ, eB]; exact up_cong (up_cong ((up_row (show a ≠ 77 by omega)).trans ((tw I1 a h1 h2).trans (tA a h1 h2))))
  have eJA : ∀ a, (a < 77 ∨ 128 < a) → J a = fgw I1 a := fun a ha => by
    rw [eJ, up_row (show a ≠ 85 by omega), up_row (show a ≠ 84 by omega), up_row (show a ≠ 77 by omega)]
  have rA : ∀ a, a ≠ 2 → I1 a = I a := fun a ha => by rw [e1, up_row (show a ≠ 2 by omega), up_row (show a ≠ 2 by omega)]
  have rv1 : InR v1 := ⟨by omega, by omega⟩
  have N : Now J := by
    refine hI.1.tellW (A := I1) (B := B) ?_ (fun a h1 h2 => (eJA a (by omega)).trans (fgw_row (by omega) (by omega) (by omega))) eJB ?_ ?_ HG ?_ (rA _ (by decide)) (row _ (by decide)) (fun a h1 h2 => rA a (by omega)) (fun a h1 h2 => row a (by omega))
    · have p := (hI.pl.up2 (z := (n : Int) + 1) 1 0 84 1 (by decide) (show 0 < 1 by decide)).wells (j := n) (z := W) (z' := v1)
      have q : up (up I (1 + 1) (0 + 0) ((n : Int) + 1)) c_land 1 W = I1 := by
        rw [e1]
        funext a b
        unfold up
        by_cases x : a = 2
        · subst x
          by_cases y : b = 0
          · subst y; simp
          · simp [y]
        · simp [x]
      rw [q, ← eB] at p
      exact p
    · rw [e1]; exact (okA.up (okA.up (fun a j h1 h2 => hI.okC a j h2) ⟨by omega, by omega⟩) ⟨by omega, by omega⟩)
    · rw [eB]; exact (hI.okR.up ⟨by omega, by omega⟩).up rv1
    · have e2 : I1 2 1 = W := by rw [e1, up_2 _ (by decide), up_s]
      rw [e2]
      exact ⟨hw.1, fun k hk => by rw [c1 k]; exact hw.2 k hk⟩
  refine rel_newW (K := I1) hI N (fun a h1 h2 => eJA a (by omega)) (rA _ (by decide)) (rA _ (by decide)) ⟨(eJB _ (by decide) (by decide)).trans (row _ (by decide)), (eJB _ (by decide) (by decide)).trans (row _ (by decide))⟩ (fun a ha => (eJA a (by omega)).trans ((fgw_row (by omega) (by omega) (by omega)).trans (rA a (by omega)))) (fun a h1 h2 j hj => ?_)
  rw [eJB a h1 h2, eB]
  exact ((hiW.refl I).up (i := r_cells) (by decide)).up (i := r_wells) cn a h1 h2 j hj

theorem t_way {v1 v2 v3 : Int} {R : Int → Int → XI → Prop} (hS : xSh S) (hI : Rel S I) (a1 : InR v1) (a2 : InR v2) (a3 : InR v3) (h : ∀ r J, Rel S J → R r r J) : H_way G S I v1 v2 v3 (fun r I1 => R_way G S I1 v1 v2 v3 (fun r' J => R r r' J)) := by
  have cc := nC_c hI.good
  have ref : ∀ (J0 : XI) (T : Int → XI → Prop), tf I J0 → (¬ ((0 ≤ v1 ∧ v1 < I r_cells 0) ∧ (0 ≤ v2 ∧ v2 < I r_cells 0) ∧ v1 ≠ v2 ∧ 1 ≤ v3 ∧ v3 ≤ 9) → T 0 (up J0 r_obj 0 0)) → (((0 ≤ v1 ∧ v1 < I r_cells 0) ∧ (0 ≤ v2 ∧ v2 < I r_cells 0) ∧ v1 ≠ v2 ∧ 1 ≤ v3 ∧ v3 ≤ 9) → ∀ J, J = upB [(2, 0, 86, 100, (v1 * 10 + v2).toNat, v3), (2, 0, 86, 100, (v2 * 10 + v1).toNat, v3)] (up J0 r_obj 0 0) → T 1 J) → R_way G S J0 v1 v2 v3 T := fun J0 T t0 kn ky => by
    refine b_R_way hS (fun J e => ?_)
    have tc := code_tf t0
    rw [← e] at kn ky tc
    have tJ : J r_cells 0 = I r_cells 0 := by rw [tc r_cells (by decide) (by decide)]
    refine s_R_isCell (z := I r_cells 0) hS tJ (by omega) a1 (fun p1 p2 => br1 (s_R_isCell (z := I r_cells 0) hS tJ (by omega) a2 (fun p3 p4 => br1 ?_) (fun x => br0 (kn (fun q => x q.2.1))))) (fun x => br0 (kn (fun q => x q.1)))
    rw [w32_r a1, w32_r a2]
    refine ⟨fun c => kn (fun q => q.2.2.1 c), fun c => s_Rin hS a3 ⟨by decide, by decide⟩ ⟨by decide, by decide⟩ (fun p5 p6 => br1 ⟨inb_b (by omega) (by omega) (by decide), fun I1 e1 => ⟨inb_b (by omega) (by omega) (by decide), fun I2 e2 => ky ⟨⟨p1, p2⟩, ⟨p3, p4⟩, c, p5, p6⟩ I2 ?_⟩⟩) (fun x => br0 (kn (fun q => x q.2.2.2)))⟩
    rw [show (10 * v2 + v1) = (v2 * 10 + v1) by omega, ix_b (by omega) (by omega)] at e2
    rw [show (10 * v1 + v2) = (v1 * 10 + v2) by omega, ix_b (by omega) (by omega)] at e1
    rw [e2, e1]
    rfl
  have bad : ¬ ((0 ≤ v1 ∧ v1 < I r_cells 0) ∧ (0 ≤ v2 ∧ v2 < I r_cells 0) ∧ v1 ≠ v2 ∧ 1 ≤ v3 ∧ v3 ≤ 9) → R_way G S I v1 v2 v3 (fun r' J => R 0 r' J) := fun q => ref I _ (tf.refl I) (fun _ => h _ _ (hI.code rfl).1) (fun z => absurd z q)
  refine b_H_way hS (s_La_hasCell hS hI a1 (fun p1 p2 => br1 (s_La_hasCell hS hI a2 (fun p3 p4 => br1 ?_) (fun x => br0 (bad (fun q => x q.2.1))))) (fun x => br0 (bad (fun q => x q.1))))
  rw [w32_r a1, w32_r a2]
  refine ⟨fun c => bad (fun q => q.2.2.1 c), fun c => s_isIn hS a3 ⟨by decide, by decide⟩ ⟨by decide, by decide⟩ (fun p5 p6 => br1 (b_La_setWay hS ⟨inb_b (by omega) (by omega) (by decide), fun I1 e1 => ⟨inb_b (by omega) (by omega) (by decide), fun I2 e2 => s_H_forgetWays hS ?_⟩⟩)) (fun x => br0 (bad (fun q => x q.2.2.2)))⟩
  rw [ix_b (by omega) (by omega)] at e1 e2
  have hL : okL [(2, 0, 86, 100, (v1 * 10 + v2).toNat, v3), (2, 0, 86, 100, (v2 * 10 + v1).toNat, v3)] := okL.cons (by decide) (by decide) (by omega) a3 (okL.cons (by decide) (by decide) (by omega) a3 okL.nil)
  have e3 : I2 = upA [(2, 0, 86, 100, (v1 * 10 + v2).toNat, v3), (2, 0, 86, 100, (v2 * 10 + v1).toNat, v3)] I := by rw [e2, e1]; rfl
  have tw : ∀ K : XI, tf K (fgw K) := fun K a h1 h2 => fgw_row (by omega) (by omega) (by omega)
  have hA : ∀ a, a ≠ 3 → I2 a = I a := fun a ha => by rw [e2, up_row (show a ≠ 3 by omega), e1, up_row (show a ≠ 3 by omega)]
  have tA : tf I I2 := fun a h1 h2 => hA a (by omega)
  have y : ((0 ≤ v1 ∧ v1 < I r_cells 0) ∧ (0 ≤ v2 ∧ v2 < I r_cells 0) ∧ v1 ≠ v2 ∧ 1 ≤ v3 ∧ v3 ≤ 9) := ⟨⟨p1, p2⟩, ⟨p3, p4⟩, c, p5, p6⟩
  refine ref _ _ (tA.trans (tw I2)) (fun q => absurd y q) (fun _ J eJ => h _ _ ?_)
  obtain ⟨B, eB⟩ : ∃ B, B = upB [(2, 0, 86, 100, (v1 * 10 + v2).toNat, v3), (2, 0, 86, 100, (v2 * 10 + v1).toNat, v3)] I := ⟨_, rfl⟩
  have row : ∀ a, a ≠ 86 → B a = I a := fun a ha => by rw [eB]; exact (up_row (show a ≠ 86 from ha)).trans (up_row (show a ≠ 86 from ha))
  obtain ⟨x, hx⟩ : ∃ x : Nat, v1 = (x : Int) := ⟨v1.toNat, by omega⟩
  obtain ⟨z, hz⟩ : ∃ z : Nat, v2 = (z : Int) := ⟨v2.toNat, by omega⟩
  have bw : ∀ j, B r_ways j = if j = z * 10 + x then v3 else if j = x * 10 + z then v3 else I r_ways j := fun j => by
    rw [eB]
    show up (up I r_ways (v1 * 10 + v2).toNat v3) r_ways (v2 * 10 + v1).toNat v3 r_ways j = _
    rw [up_at, up_at, show (v1 * 10 + v2).toNat = x * 10 + z by omega, show (v2 * 10 + v1).toNat = z * 10 + x by omega]
  have zz : ∀ a, a ≠ 86 → I a 0 ≤ B a 0 := fun a ha => by rw [row a ha]; exact Int.le_refl _
  have HG : Good B := by
    obtain ⟨g1, g2, g3, g4, g5, g6, g7, g8, g9⟩ := hI.good
    refine ⟨g1.mono (row _ (by decide)) (row _ (by decide)) (row _ (by decide)), ?_, g3.mono (row _ (by decide)) (row _ (by decide)) (row _ (by decide)) (row _ (by decide)) (row _ (by decide)) (zz r_cells (by decide)) (zz r_now (by decide)), g4.mono (row _ (by decide)) (row _ (by decide)) (row _ (by decide)) (row _ (by decide)) (row _ (by decide)) (zz r_cells (by decide)) (zz r_now (by decide)), g5.mono (row _ (by decide)) (row _ (by decide)) (row _ (by decide)) (row _ (by decide)) (row _ (by decide)) (row _ (by decide)) (zz r_camps (by decide)) (zz r_cells (by decide)) (zz r_now (by decide)), g6.mono (row _ (by decide)) (row _ (by decide)) (row _ (by decide)) (row _ (by decide)) (row _ (by decide)) (row _ (by decide)), g7.mono (row _ (by decide)) (row _ (by decide)) (row _ (by decide)) (row _ (by decide)) (row _ (by decide)) (row _ (by decide)) (row _ (by decide)) (row _ (by decide)) (zz r_books (by decide)) (zz r_camps (by decide)) (zz r_now (by decide)), g8.mono (row _ (by decide)) (row _ (by decide)) (row _ (by decide)) (row _ (by decide)) (row _ (by decide)) (row _ (by decide)), g9.mono (row _ (by decide)) (row _ (by decide)) (row _ (by decide)) (zz r_camps (by decide))⟩
    unfold gLa at g2 ⊢
    rw [row r_cells (by decide), row r_wells (by decide), row r_dryWeek (by decide)]
    refine ⟨g2.1, fun j hj => ?_, fun a b ha hb => ?_, fun a b ha hb q => ?_, g2.2.2.2.2⟩
    · rw [bw j]; split
      · omega
      · split
        · omega
        · exact g2.2.1 j hj
    · rw [bw (a * 10 + b), bw (b * 10 + a)]
      by_cases q1 : a * 10 + b = z * 10 + x
      · rw [if_pos q1]
        by_cases q2 : b * 10 + a = z * 10 + x
        · rw [if_pos q2]
        · rw [if_neg q2, if_pos (by omega)]
      · by_cases q2 : a * 10 + b = x * 10 + z
        · rw [if_neg q1, if_pos q2, if_pos (show b * 10 + a = z * 10 + x by omega)]
        · rw [if_neg q1, if_neg q2, if_neg (show ¬ b * 10 + a = z * 10 + x by omega), if_neg (show ¬ b * 10 + a = x * 10 + z by omega)]
          exact g2.2.2.1 a b ha hb
    · rw [bw, if_neg (by omega), if_neg (by omega)]
      exact g2.2.2.2.1 a b ha hb q
  obtain ⟨e4, e5, e6⟩ := tells_rows (I := I) (K := I) hL (fun _ _ => rfl)
  have N0 := now_tells (K := I) hI.1 hI.2.2.2.2 hL (fun _ _ => rfl) (by rw [← eB]; exact HG)
  have eJ0 : ∀ a, a ≠ 47 → a ≠ 54 → a ≠ 59 → J a = upB [(2, 0, 86, 100, (v1 * 10 + v2).toNat, v3), (2, 0, 86, 100, (v2 * 10 + v1).toNat, v3)] (up (upA [(2, 0, 86, 100, (v1 * 10 + v2).toNat, v3), (2, 0, 86, 100, (v2 * 10 + v1).toNat, v3)] I) r_obj 0 0) a := fun a h1 h2 h3 => by
    rw [eJ, ← e3]
    exact upB_cong (up_cong (fgw_row h1 h2 h3))
  have N : Now J := N0.eq (fun a h1 h2 => eJ0 a (by omega) (by omega) (by omega)) (fun a h1 h2 => eJ0 a (by omega) (by omega) (by omega))
  refine rel_newW (K := I2) hI N (fun a h1 h2 => ?_) (hA _ (by decide)) (hA _ (by decide)) ⟨(eJ0 _ (by decide) (by decide) (by decide)).trans ((e5 _ (by decide) (by decide)).trans (by rw [← eB]; exact row _ (by decide))), (eJ0 _ (by decide) (by decide) (by decide)).trans ((e5 _ (by decide) (by decide)).trans (by rw [← eB]; exact row _ (by decide)))⟩ (fun a ha => ?_) (fun a h1 h2 j hj => ?_)
  · rw [eJ]
    exact (up_row (show a ≠ 86 by omega)).trans ((up_row (show a ≠ 86 by omega)).trans (up_row (show a ≠ 77 by omega)))
  · rw [eJ0 a (by omega) (by omega) (by omega)]; by_cases c43 : 0 < a ∧ a < 44
    · omega
    · exact e6 a (by omega)
  · rw [eJ0 a (by omega) (by omega) (by omega), e5 a h1 h2]; exact upB_hi hL (hiW.refl I) a h1 h2 j hj
end PT3
