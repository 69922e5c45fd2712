/-! ===== RULES ===== -/
theorem Img.eq2 {S : XS} {I I' : XI} (h : Img S I) (e0 : FlR I') (e3 : Scr I') (e1 : ∀ a, 146 ≤ a → I' a = I a) (e2 : hiW I I') : Img S I' := by
  obtain ⟨_, T, h1, h2⟩ := h
  have ek : I' r_kept = I r_kept := e1 _ (by decide)
  have er : ∀ k a, 77 < a → a < 129 → rv I' (k + 1) a = rv I (k + 1) a := fun k a ha hb => by
    funext j
    show I' a (wid a * (k + 1) + j) = I a (wid a * (k + 1) + j)
    refine e2 a ha hb _ ?_
    rw [Nat.mul_add, Nat.mul_one]; omega
  refine ⟨⟨e0, e3⟩, T, fun k hk => ?_, fun k k' a b c d1 d2 => h2 k k' a b c (by rw [← ek]; exact d1) (by rw [← ek]; exact d2)⟩
  rw [ek]
  rcases h1 k hk with q | ⟨q1, q2, q3, q4, q5, q6, q7⟩
  · exact Or.inl q
  · exact Or.inr ⟨q1, q2, q3, q4, q5.eq (fun d _ => e1 _ (by omega)) (er k), q6.eq (er k), q7.eq (er k _ (by decide) (by decide)) (er k _ (by decide) (by decide))⟩
theorem rel_rul {S : XS} {I J : XI} (h : Rel S I) (hN : Now J) (eC : ∀ a, ((1 < a ∧ a < 32) ∨ (43 < a ∧ a < 63) ∨ a = 0 ∨ 145 < a) → J a = I a) (fl : FlR J) (sc : Scr J) (eN : J r_cells 0 = I r_cells 0 ∧ J r_grasses 0 = I r_grasses 0 ∧ J r_newsMany 0 = I r_newsMany 0 ∧ J r_camps 0 = I r_camps 0) (hi : hiW I J) : Rel S J := by
  obtain ⟨h1, h2, h3, h4, h5⟩ := h
  refine ⟨hN, ?_, h3.eq (by rw [eC _ (by decide)]) (eC _ (by decide)) (eC _ (by decide)) (eC _ (by decide)) (by rw [eC _ (by decide)]), h4.eq2 fl sc (fun a ha => eC a (by omega)) hi, fun j => by rw [eC 0 (by decide)]; exact h5 j⟩
  show Cach J (J r_cells 0).toNat (J r_grasses 0).toNat (J r_newsMany 0).toNat (J r_camps 0).toNat
  rw [eN.1, eN.2.1, eN.2.2.1, eN.2.2.2]
  exact h2.eq2 (fun a ha => eC a (by omega))
theorem plT_okR : ∀ q ∈ plT, (q.1 < 32 ∨ 38 < q.1) ∧ (q.2.2.1 < 118 ∨ 124 < q.2.2.1) := by decide +kernel
theorem Pl.eq2 {I I' s s' : XI} {t : Nat} (h : Pl I t s) (e1 : ∀ d, d < 43 → (d < 32 ∨ 38 < d) → I' (t + d) = I (t + d)) (e2 : ∀ a, 77 < a → a < 129 → (a < 118 ∨ 124 < a) → s' a = s a) : Pl I' t s' := by
  intro q hq j hj
  obtain ⟨o1, o2, o3, o4⟩ := plT_ok q hq
  obtain ⟨p1, p2⟩ := plT_okR q hq
  rw [e1 _ o1 p1, e2 _ o2 o3 p2]; exact h q hq j hj
section TW
variable {G : XG} {S : XS} {I : XI}
theorem good_sz {B : XI} {f pl : Int} (h : Good I) (eB : B = up (up (up I r_size 0 0) r_fault 0 f) r_faultPlace 0 pl) : Good B := by
  have row : ∀ a, a ≠ 79 → a ≠ 80 → a ≠ 81 → B a = I a := fun a h1 h2 h3 => by rw [eB, up_row h3, up_row h2, up_row h1]
  have zz : ∀ a, a ≠ 79 → a ≠ 80 → a ≠ 81 → I a 0 ≤ B a 0 := fun a h1 h2 h3 => by rw [row a h1 h2 h3]; exact Int.le_refl _
  have r : ∀ a, (a < 79 ∨ 81 < a) → B a = I a := fun a ha => row a (by omega) (by omega) (by omega)
  have z : ∀ a, (a < 79 ∨ 81 < a) → I a 0 ≤ B a 0 := fun a ha => zz a (by omega) (by omega) (by omega)
  obtain ⟨g1, g2, g3, g4, g5, g6, g7, g8, g9⟩ := h
  refine ⟨?_, g2.mono (r _ (by decide)) (r _ (by decide)) (r _ (by decide)) (r _ (by decide)), g3.mono (r _ (by decide)) (r _ (by decide)) (r _ (by decide)) (r _ (by decide)) (r _ (by decide)) (z _ (by decide)) (z _ (by decide)), g4.mono (r _ (by decide)) (r _ (by decide)) (r _ (by decide)) (r _ (by decide)) (r _ (by decide)) (z _ (by decide)) (z _ (by decide)), g5.mono (r _ (by decide)) (r _ (by decide)) (r _ (by decide)) (r _ (by decide)) (r _ (by decide)) (r _ (by decide)) (z _ (by decide)) (z _ (by decide)) (z _ (by decide)), g6.mono (r _ (by decide)) (r _ (by decide)) (r _ (by decide)) (r _ (by decide)) (r _ (by decide)) (r _ (by decide)), g7.mono (r _ (by decide)) (r _ (by decide)) (r _ (by decide)) (r _ (by decide)) (r _ (by decide)) (r _ (by decide)) (r _ (by decide)) (r _ (by decide)) (z _ (by decide)) (z _ (by decide)) (z _ (by decide)), g8.mono (r _ (by decide)) (r _ (by decide)) (r _ (by decide)) (r _ (by decide)) (r _ (by decide)) (r _ (by decide)), g9.mono (r _ (by decide)) (r _ (by decide)) (r _ (by decide)) (z _ (by decide))⟩
  unfold gSc at g1 ⊢
  have e79 : B r_size 0 = 0 := by rw [eB, up_1 _ (by decide), up_1 _ (by decide), up_s]
  rw [e79, r r_now (by decide), r r_viewed (by decide)]
  omega
theorem t_rules {R : Int → Int → XI → Prop} (hS : xSh S) (hI : Rel S I) (h : ∀ r J, Rel S J → R r r J) : H_rules G S I (fun r I1 => R_rules G S I1 (fun r' J => R r r' J)) := by
  have hs := hI.good.1.2.2
  obtain ⟨N, hN1⟩ : ∃ N : Nat, I r_size 0 = (N : Int) := ⟨(I r_size 0).toNat, by omega⟩
  have hN : N ≤ 500 := by omega
  have hNe : I c_told 6 = (N : Int) := (pl_size hI.pl).trans hN1
  have tp : ∀ j, j < 500 → (0 ≤ I c_told_tape j ∧ I c_told_tape j ≤ 255) ∧ I r_tape j = (I c_told_tape j).bmod 256 := hI.1.2.2.2.2.1
  have eT : ∀ j, j < 500 → clT I j = I c_told_tape j := fun j hj => by
    unfold clT
    rw [pce_at, if_pos hj]
  have hT : byt (clT I) := fun j hj => by rw [eT j hj]; exact (tp j hj).1
  have hB : ∀ j, j < N → iand (I r_tape j) 255 = clT I j := fun j hj => by
    rw [eT j (by omega), iand255, (tp j (by omega)).2]
    have := (tp j (by omega)).1
    have h3 := Int.bmod_emod (x := I c_told_tape j) (m := 256)
    omega
  have sc : Scr I := hI.2.2.2.1.1.2
  have fl : FlR I := hI.2.2.2.1.1.1
  have okZI : okZ (fun r => I (135 + r)) := ⟨fun r j hr => sc.1 (135 + r) j (by omega), fun j => sc.2 j⟩
  have okYI : okY (clY I) := fun r j hr => sc.1 (65 + r) j (by omega)
  have oAI : okA I := fun a j h1 h2 => by
    have := hI.1.2.2.2.2.2.2 (a - 1) j (by omega)
    rw [show 1 + (a - 1) = a by omega] at this
    exact this
  have ry := ruP_y (T := clT I) hN 500 0 0 0 (-1) (clY I) okYI
  have rf := ruP_f (T := clT I) hN 500 0 0 0 (-1) (clY I) (Nat.zero_le _) (Or.inl rfl)
  have rr := ruP_r (T := clT I) hN 500 0 0 0 (-1) (clY I) (Nat.zero_le _) (Or.inl rfl) ⟨by decide, by decide⟩
  refine s_Hrules hS hNe hN hT (fun A b l' p' lf' lp' Y' e ne hA => ?_) (fun A z l' p' lp' Y' e hz hA => ?_)
  · -- a fault
    obtain ⟨a1, a2, a3⟩ := hA
    have ref : ∀ a, 72 < a → A a = I a := fun a ha => a2 a (by omega) (by omega)
    have zA : (fun r => A (135 + r)) = fun r => I (135 + r) := funext fun r => ref _ (by omega)
    rw [e] at ry rf rr
    have ry : okY Y' := ry
    have rr : plR lp' := rr
    have lr : 1 ≤ lf' ∧ lf' ≤ 3 := by
      cases b with
      | false => have := (rf.1 rfl).1; have this : lf' = 1 := this; omega
      | true => have := rf.2.2 rfl; have this : fok lf' := this; unfold fok at this; omega
    have rp : InR lp' := by unfold plR at rr; exact ⟨by omega, by omega⟩
    have rl : InR lf' := ⟨by omega, by omega⟩
    refine s_Rrules (Y := clY I) hS hN (by rw [ref _ (by decide)]; exact hN1) hT (fun j hj => by rw [ref _ (by decide)]; exact hB j hj) (by rw [zA]; exact okZI) (fun K b2 l2 p2 f2 q2 Y2 Z2 e2 ne2 hK hZ okz => ?_) (fun K l2 p2 q2 Y2 Z2 e2 _ _ _ _ _ => ?_)
    · have ee := e.symm.trans e2
      obtain ⟨_, ee⟩ := Prod.mk.inj ee
      obtain ⟨_, ee⟩ := Prod.mk.inj ee
      obtain ⟨_, ee⟩ := Prod.mk.inj ee
      obtain ⟨x1, ee⟩ := Prod.mk.inj ee
      obtain ⟨x2, _⟩ := Prod.mk.inj ee
      subst x1
      subst x2
      obtain ⟨B, eB⟩ : ∃ B, B = up (up (up I r_size 0 0) r_fault 0 lf') r_faultPlace 0 lp' := ⟨_, rfl⟩
      obtain ⟨A', eA'⟩ : ∃ A', A' = up (up (up I c_told 6 0) c_told 7 lf') c_told 8 lp' := ⟨_, rfl⟩
      have k1 : ∀ a, a < 77 → K a = A a := fun a ha => by
        rw [hK a (by omega) (by omega), up_row (show a ≠ 81 by omega), up_row (show a ≠ 80 by omega), up_row (show a ≠ 79 by omega)]
      have kB : ∀ a, 77 < a → (a < 135 ∨ 141 < a) → K a = B a := fun a h1 h2 => by
        rw [hK a (by omega) h2, eB]
        exact up_cong (up_cong (up_cong (ref a (by omega))))
      have bo : ∀ a, (a < 79 ∨ 81 < a) → B a = I a := fun a ha => by rw [eB, up_row (show a ≠ 81 by omega), up_row (show a ≠ 80 by omega), up_row (show a ≠ 79 by omega)]
      have ao : ∀ a, a ≠ 1 → A' a = I a := fun a ha => by rw [eA', up_row ha, up_row ha, up_row ha]
      have kI : ∀ a, a ≠ 1 → a < 63 → K a = I a := fun a h1 h2 => (k1 a (by omega)).trans (a2 a h1 (by omega))
      have hP : Pl A' 1 B := by
        rw [eA', eB]
        exact ((hI.pl.up2 0 6 79 1 (j := 0) (z := 0) (by decide) (by decide)).up2 0 7 80 1 (j := 0) (z := lf') (by decide) (by decide)).up2 0 8 81 1 (j := 0) (z := lp') (by decide) (by decide)
      have hNow : Now K := by
        refine hI.1.tell hP (fun a h1 h2 => ?_) (fun a h1 h2 => kB a h1 (by omega)) ?_ ?_ (good_sz hI.good eB) ?_ (bo _ (by decide)) (ao _ (by decide)) (bo _ (by decide)) (fun a h1 h2 => ao a (by omega)) (fun a h1 h2 => bo a (by omega))
        · by_cases c : a = 1
          · subst c; rw [k1 1 (by decide), eA']; exact a1
          · rw [kI a c (by omega), ao a c]
        · rw [eA']; exact ((oAI.up ⟨by decide, by decide⟩).up rl).up rp
        · rw [eB]; exact ((okR.up hI.1.1 ⟨by decide, by decide⟩).up rl).up rp
        · rw [ao 2 (by decide)]
      refine h _ _ (rel_rul hI hNow (fun a ha => ?_) ?_ ?_ ⟨?_, ?_, ?_, ?_⟩ (fun a h1 h2 j hj => ?_))
      · by_cases c : a < 63
        · exact kI a (by omega) c
        · rw [kB a (by omega) (by omega), bo a (by omega)]
      · exact fl.eq ((kB _ (by decide) (by decide)).trans (bo _ (by decide))) ((kB _ (by decide) (by decide)).trans (bo _ (by decide)))
      · refine ⟨fun a j ha => ?_, fun j => ?_⟩
        · by_cases c : a < 72
          · have : K (65 + (a - 65)) = Y' (a - 65) := (k1 _ (by omega)).trans (a3 (a - 65) (by omega))
            rw [show 65 + (a - 65) = a by omega] at this
            rw [this]; exact ry _ _ (by omega)
          · have : K (135 + (a - 135)) = Z2 (a - 135) := hZ (a - 135) (by omega)
            rw [show 135 + (a - 135) = a by omega] at this
            rw [this]; exact okz.1 _ _ (by omega)
        · have : K r_newNot = Z2 6 := hZ 6 (by decide)
          rw [this]; exact okz.2 j
      · rw [kB _ (by decide) (by decide), bo _ (by decide)]
      · rw [kB _ (by decide) (by decide), bo _ (by decide)]
      · rw [kB _ (by decide) (by decide), bo _ (by decide)]
      · rw [kB _ (by decide) (by decide), bo _ (by decide)]
      · rw [kB a h1 (by omega), eB]
        have w1 : ∀ i, (i = 79 ∨ i = 80 ∨ i = 81) → wid i = 1 := fun i hi => by rcases hi with q | q | q <;> (rw [q]; rfl)
        exact (((hiW.refl I).up (i := r_size) (k := 0) (by decide)).up (i := r_fault) (k := 0) (by decide)).up (i := r_faultPlace) (k := 0) (by decide) a h1 h2 j hj
    · exfalso
      have ee := e.symm.trans e2
      obtain ⟨_, ee⟩ := Prod.mk.inj ee
      obtain ⟨_, ee⟩ := Prod.mk.inj ee
      obtain ⟨_, ee⟩ := Prod.mk.inj ee
      obtain ⟨x1, _⟩ := Prod.mk.inj ee
      exact ne x1
  · -- no fault
    obtain ⟨a1, a2, a3, a4, a5⟩ := hA
    have ref : ∀ a, 72 < a → A a = I a := fun a ha => a4 a (by omega) (by omega) (by omega)
    have zA : (fun r => A (135 + r)) = fun r => I (135 + r) := funext fun r => ref _ (by omega)
    rw [e] at ry rf rr
    have ry : okY Y' := ry
    refine s_Rrules (Y := clY I) hS hN (by rw [ref _ (by decide)]; exact hN1) hT (fun j hj => by rw [ref _ (by decide)]; exact hB j hj) (by rw [zA]; exact okZI) (fun K b2 l2 p2 f2 q2 Y2 Z2 e2 ne2 hK hZ okz => ?_) (fun K l2 p2 q2 Y2 Z2 e2 l16 hls okz hK hZ => ?_)
    · exfalso
      have ee := e.symm.trans e2
      obtain ⟨_, ee⟩ := Prod.mk.inj ee
      obtain ⟨_, ee⟩ := Prod.mk.inj ee
      obtain ⟨_, ee⟩ := Prod.mk.inj ee
      obtain ⟨x1, _⟩ := Prod.mk.inj ee
      exact ne2 x1.symm
    have ee := e.symm.trans e2
    obtain ⟨_, ee⟩ := Prod.mk.inj ee
    obtain ⟨x1, ee⟩ := Prod.mk.inj ee
    obtain ⟨_, ee⟩ := Prod.mk.inj ee
    obtain ⟨_, ee⟩ := Prod.mk.inj ee
    obtain ⟨_, x2⟩ := Prod.mk.inj ee
    subst x1
    subst x2
    rw [if_neg (by omega)] at hz
    subst hz
    obtain ⟨B, eB⟩ : ∃ B, B = up (up (up I r_size 0 0) r_fault 0 0) r_faultPlace 0 (-1) := ⟨_, rfl⟩
    obtain ⟨B2, eB2⟩ : ∃ B2, B2 = up B r_lines 0 (l' : Int) := ⟨_, rfl⟩
    obtain ⟨A', eA'⟩ : ∃ A', A' = up (up (up (up I c_told 6 0) c_told 7 0) c_told 8 (-1)) c_rules 0 (l' : Int) := ⟨_, rfl⟩
    have k1 : ∀ a, a < 77 → K a = A a := fun a ha => by
      rw [hK a (by omega) (by omega), cq_off (by omega), up_row (show a ≠ 117 by omega), up_row (show a ≠ 81 by omega), up_row (show a ≠ 80 by omega), up_row (show a ≠ 79 by omega)]
    have kQ : ∀ a, 77 < a → (a < 135 ∨ 141 < a) → K a = cqR B2 Z2 l' (4 * l') a := fun a h1 h2 => by
      rw [hK a (by omega) h2, eB2, eB]
      exact cq_cong (up_cong (up_cong (up_cong (up_cong (ref a (by omega))))))
    have b2o : ∀ a, a ≠ 117 → B2 a = B a := fun a ha => by rw [eB2]; exact up_row ha
    have bo : ∀ a, (a < 79 ∨ 81 < a) → B a = I a := fun a ha => by rw [eB, up_row (show a ≠ 81 by omega), up_row (show a ≠ 80 by omega), up_row (show a ≠ 79 by omega)]
    have kB : ∀ a, 77 < a → a < 135 ∨ 141 < a → (a < 118 ∨ 124 < a) → K a = B2 a := fun a h1 h2 h3 => (kQ a h1 h2).trans (cq_off h3)
    have kI2 : ∀ a, 81 < a → a < 135 ∨ 141 < a → (a < 117 ∨ 124 < a) → K a = I a := fun a h1 h2 h3 => (kB a (by omega) h2 (by omega)).trans ((b2o a (by omega)).trans (bo a (by omega)))
    have ao : ∀ a, a ≠ 1 → a ≠ 32 → A' a = I a := fun a h1 h2 => by rw [eA', up_row h2, up_row h1, up_row h1, up_row h1]
    have kI : ∀ a, a ≠ 1 → (a < 32 ∨ 39 < a) → a < 63 → K a = I a := fun a h1 h2 h3 => (k1 a (by omega)).trans (a4 a h1 h2 (by omega))
    have kA : ∀ a, 0 < a → a < 44 → (a < 33 ∨ 39 < a) → K a = A' a := fun a h1 h2 h3 => by
      by_cases c : a = 1
      · subst c
        rw [k1 1 (by decide), eA', up_row (by decide)]; exact a1
      · by_cases d : a = 32
        · subst d
          rw [k1 32 (by decide), eA']
          refine a2.trans (up_cong ?_)
          exact ((up_row (by decide)).trans ((up_row (by decide)).trans (up_row (by decide)))).symm
        · rw [kI a c (by omega) (by omega), ao a c d]
    have hlin : K r_lines 0 = (l' : Int) := by rw [kB _ (by decide) (by decide) (by decide), eB2]; exact up_s _ _ _ _
    have qL : ∀ r, r < 3 → ∀ j, j < l' → K (118 + r) j = Z2 r j := fun r hr j hj => by
      rw [kQ _ (by omega) (by omega)]
      unfold cqR
      rw [if_pos (by omega), show 118 + r - 118 = r by omega]
    have qT : ∀ r, r < 4 → ∀ j, j < 4 * l' → K (121 + r) j = Z2 (3 + r) j := fun r hr j hj => by
      rw [kQ _ (by omega) (by omega)]
      unfold cqR
      rw [if_neg (by omega), if_pos (by omega), show 121 + r - 118 = 3 + r by omega]
    have cR : ∀ d, d < 3 → ∀ j, j < 16 → K (33 + d) j = Y' d j := fun d hd j hj => by
      rw [k1 _ (by omega), a3 d (by omega) j]
      unfold rlW
      rw [if_pos hd, if_pos hj]
    have cT : ∀ d, d < 4 → ∀ j, j < 64 → K (36 + d) j = Y' (3 + d) j := fun d hd j hj => by
      have := a3 (3 + d) (by omega) j
      unfold rlW at this
      rw [if_neg (show ¬ 3 + d < 3 by omega), if_pos hj, show 33 + (3 + d) = 36 + d by omega] at this
      rw [k1 _ (by omega)]; exact this
    have gB := good_sz hI.good eB
    have hG : Good K := by
      have r : ∀ a, 77 < a → a < 129 → (a < 117 ∨ 124 < a) → K a = B a := fun a h1 h2 h3 => (kB a h1 (by omega) (by omega)).trans (b2o a (by omega))
      have z : ∀ a, 77 < a → a < 129 → (a < 117 ∨ 124 < a) → B a 0 ≤ K a 0 := fun a h1 h2 h3 => by rw [r a h1 h2 h3]; exact Int.le_refl _
      obtain ⟨g1, g2, g3, g4, g5, g6, g7, g8, g9⟩ := gB
      refine ⟨g1.mono (r _ (by decide) (by decide) (by decide)) (r _ (by decide) (by decide) (by decide)) (r _ (by decide) (by decide) (by decide)), g2.mono (r _ (by decide) (by decide) (by decide)) (r _ (by decide) (by decide) (by decide)) (r _ (by decide) (by decide) (by decide)) (r _ (by decide) (by decide) (by decide)), g3.mono (r _ (by decide) (by decide) (by decide)) (r _ (by decide) (by decide) (by decide)) (r _ (by decide) (by decide) (by decide)) (r _ (by decide) (by decide) (by decide)) (r _ (by decide) (by decide) (by decide)) (z _ (by decide) (by decide) (by decide)) (z _ (by decide) (by decide) (by decide)), g4.mono (r _ (by decide) (by decide) (by decide)) (r _ (by decide) (by decide) (by decide)) (r _ (by decide) (by decide) (by decide)) (r _ (by decide) (by decide) (by decide)) (r _ (by decide) (by decide) (by decide)) (z _ (by decide) (by decide) (by decide)) (z _ (by decide) (by decide) (by decide)), g5.mono (r _ (by decide) (by decide) (by decide)) (r _ (by decide) (by decide) (by decide)) (r _ (by decide) (by decide) (by decide)) (r _ (by decide) (by decide) (by decide)) (r _ (by decide) (by decide) (by decide)) (r _ (by decide) (by decide) (by decide)) (z _ (by decide) (by decide) (by decide)) (z _ (by decide) (by decide) (by decide)) (z _ (by decide) (by decide) (by decide)), g6.mono (r _ (by decide) (by decide) (by decide)) (r _ (by decide) (by decide) (by decide)) (r _ (by decide) (by decide) (by decide)) (r _ (by decide) (by decide) (by decide)) (r _ (by decide) (by decide) (by decide)) (r _ (by decide) (by decide) (by decide)), g7.mono (r _ (by decide) (by decide) (by decide)) (r _ (by decide) (by decide) (by decide)) (r _ (by decide) (by decide) (by decide)) (r _ (by decide) (by decide) (by decide)) (r _ (by decide) (by decide) (by decide)) (r _ (by decide) (by decide) (by decide)) (r _ (by decide) (by decide) (by decide)) (r _ (by decide) (by decide) (by decide)) (z _ (by decide) (by decide) (by decide)) (z _ (by decide) (by decide) (by decide)) (z _ (by decide) (by decide) (by decide)), ?_, g9.mono (r _ (by decide) (by decide) (by decide)) (r _ (by decide) (by decide) (by decide)) (r _ (by decide) (by decide) (by decide)) (z _ (by decide) (by decide) (by decide))⟩
      unfold gRu
      rw [hlin]
      refine ⟨by omega, fun l hl => ?_⟩
      have hl : l < l' := by omega
      obtain ⟨⟨⟨u1, u2, u3⟩, u4, u5, u6, u7⟩, u8⟩ := hls l hl (by omega)
      have w0 : K r_lineAct l = Y' 0 l := (qL 0 (by decide) l hl).trans u1
      have w1 : K r_lineNumber l = Y' 1 l := (qL 1 (by decide) l hl).trans u2
      have w2 : K r_lineTests l = Y' 2 l := (qL 2 (by decide) l hl).trans u3
      rw [w0, w1, w2]
      refine ⟨u4, fun x => u8 rfl x, u5, u6, fun i hi => ?_⟩
      have w3 : K r_testNot (l * 4 + i) = Z2 6 (l * 4 + i) := qT 3 (by decide) _ (by omega)
      rw [w3, (u7 i hi).1]
      exact (u7 i hi).2.1
    have hP : Pl K 1 K := by
      have p4 := (((hI.pl.up2 0 6 79 1 (j := 0) (z := 0) (by decide) (by decide)).up2 0 7 80 1 (j := 0) (z := 0) (by decide) (by decide)).up2 0 8 81 1 (j := 0) (z := -1) (by decide) (by decide)).up2 31 0 117 1 (j := 0) (z := (l' : Int)) (by decide) (by decide)
      have p4 : Pl A' 1 B2 := by rw [eA', eB2, eB]; exact p4
      exact p4.eq2 (fun d h1 h2 => kA _ (by omega) (by omega) (by omega)) (fun a h1 h2 h3 => kB a h1 (by omega) h3)
    have inC : ∀ d j, d < 43 → InR (K (1 + d) j) := fun d j hd => by
      by_cases c : d < 32 ∨ 38 < d
      · rw [kA _ (by omega) (by omega) (by omega), eA']
        exact (((oAI.up ⟨by decide, by decide⟩).up ⟨by decide, by decide⟩).up ⟨by decide, by decide⟩).up ⟨by omega, by omega⟩ _ _ (by omega) (by omega)
      · have := a3 (d - 32) (by omega) j
        rw [show 33 + (d - 32) = 1 + d by omega] at this
        rw [k1 _ (by omega), this]
        split
        · exact ry _ _ (by omega)
        · exact oAI _ _ (by omega) (by omega)
    have hNow : Now K := by
      refine ⟨fun a j h1 h2 => ?_, hG, hP, ?_, ?_, fun l hl => ?_, inC⟩
      · rw [kQ a h1 (by omega)]
        unfold cqR
        split
        · exact okz.1 _ _ (by omega)
        split
        · exact okz.1 _ _ (by omega)
        · rw [eB2, eB]
          exact (((okR.up hI.1.1 ⟨by decide, by decide⟩).up ⟨by decide, by decide⟩).up ⟨by decide, by decide⟩).up ⟨by omega, by omega⟩ a j h1 h2
      · have w := hI.1.2.2.2.1
        have e1 : K (1 + 1) 1 = I (1 + 1) 1 := by rw [kI (1 + 1) (by decide) (by decide) (by decide)]
        rw [e1, kI2 r_wells (by decide) (by decide) (by decide)]
        exact w
      · have w := hI.1.2.2.2.2.1
        have e1 : K (1 + 42) = I (1 + 42) := kI (1 + 42) (by decide) (by decide) (by decide)
        have e2 : K r_tape = I r_tape := (kB _ (by decide) (by decide) (by decide)).trans ((b2o _ (by decide)).trans (bo _ (by decide)))
        rw [e1, e2]
        exact w
      · rw [hlin] at hl
        have hl : l < l' := by omega
        obtain ⟨⟨⟨u1, u2, u3⟩, u4, u5, u6, u7⟩, u8⟩ := hls l hl (by omega)
        have w0 : K r_lineAct l = Y' 0 l := (qL 0 (by decide) l hl).trans u1
        have w1 : K r_lineNumber l = Y' 1 l := (qL 1 (by decide) l hl).trans u2
        have w2 : K r_lineTests l = Y' 2 l := (qL 2 (by decide) l hl).trans u3
        refine ⟨(cR 0 (by decide) l (by omega)).trans w0.symm, (cR 1 (by decide) l (by omega)).trans w1.symm, (cR 2 (by decide) l (by omega)).trans w2.symm, fun i hi => ?_⟩
        rw [w2] at hi
        obtain ⟨v1, v2, v3, v4, v5, v6⟩ := u7 i hi
        have kl : l * 4 + i < 64 := by omega
        have k4 : l * 4 + i < 4 * l' := by omega
        have c3 : K (1 + 35) (l * 4 + i) = Y' 3 (l * 4 + i) := cT 0 (by decide) _ kl
        have c4 : K (1 + 36) (l * 4 + i) = Y' 4 (l * 4 + i) := cT 1 (by decide) _ kl
        have c5 : K (1 + 37) (l * 4 + i) = Y' 5 (l * 4 + i) := cT 2 (by decide) _ kl
        have c6 : K (1 + 38) (l * 4 + i) = Y' 6 (l * 4 + i) := cT 3 (by decide) _ kl
        have d3 : K r_testWhat (l * 4 + i) = Z2 3 (l * 4 + i) := qT 0 (by decide) _ k4
        have d4 : K r_testSign (l * 4 + i) = Z2 4 (l * 4 + i) := qT 1 (by decide) _ k4
        have d5 : K r_testThan (l * 4 + i) = Z2 5 (l * 4 + i) := qT 2 (by decide) _ k4
        have d6 : K r_testNot (l * 4 + i) = Z2 6 (l * 4 + i) := qT 3 (by decide) _ k4
        rw [c3, c4, c5, c6, d3, d4, d5, d6]
        exact ⟨v1.symm, v3, v4, v5.symm, v6.symm⟩
    refine h _ _ (rel_rul hI hNow (fun a ha => ?_) ⟨fun j hj => ?_, fun j hj => ?_⟩ ⟨fun a j ha => ?_, fun j => ?_⟩ ⟨?_, ?_, ?_, ?_⟩ (fun a h1 h2 j hj => ?_))
    · by_cases c : a < 63
      · exact kI a (by omega) (by omega) c
      · exact kI2 a (by omega) (by omega) (by omega)
    · rw [kI2 r_newsSeen (by decide) (by decide) (by decide)]; exact fl.1 j hj
    · by_cases c : j < 4 * l'
      · rw [show K r_testNot j = Z2 6 j from qT 3 (by decide) j c]; exact okz.2 j
      · have : K r_testNot j = I r_testNot j := by
          rw [kQ _ (by decide) (by decide)]
          unfold cqR
          rw [if_neg (by omega), if_neg (by omega), b2o _ (by decide), bo _ (by decide)]
        rw [this]; exact fl.2 j hj
    · by_cases c : a < 72
      · have : K (65 + (a - 65)) = Y' (a - 65) := (k1 _ (by omega)).trans (a5 (a - 65) (by omega))
        rw [show 65 + (a - 65) = a by omega] at this
        rw [this]; exact ry _ _ (by omega)
      · have : K (135 + (a - 135)) = Z2 (a - 135) := hZ (a - 135) (by omega)
        rw [show 135 + (a - 135) = a by omega] at this
        rw [this]; exact okz.1 _ _ (by omega)
    · have : K r_newNot = Z2 6 := hZ 6 (by decide)
      rw [this]; exact okz.2 j
    · rw [kI2 _ (by decide) (by decide) (by decide)]
    · rw [kI2 _ (by decide) (by decide) (by decide)]
    · rw [kI2 _ (by decide) (by decide) (by decide)]
    · rw [kI2 _ (by decide) (by decide) (by decide)]
    · have w16 : ∀ x, 117 < x → x < 121 → wid x = 16 := fun x h1 h2 => by
        have : x = 118 ∨ x = 119 ∨ x = 120 := by omega
        rcases this with q | q | q <;> (rw [q]; rfl)
      have w64 : ∀ x, 120 < x → x < 125 → wid x = 64 := fun x h1 h2 => by
        have : x = 121 ∨ x = 122 ∨ x = 123 ∨ x = 124 := by omega
        rcases this with q | q | q | q <;> (rw [q]; rfl)
      have hB2 : B2 a j = I a j := by
        rw [eB2, eB]
        exact ((((hiW.refl I).up (i := r_size) (k := 0) (by decide)).up (i := r_fault) (k := 0) (by decide)).up (i := r_faultPlace) (k := 0) (by decide)).up (i := r_lines) (k := 0) (by decide) a h1 h2 j hj
      rw [kQ a h1 (by omega)]
      unfold cqR
      rw [if_neg (fun q => by have := w16 a q.1 q.2.1; omega), if_neg (fun q => by have := w64 a q.1 q.2.1; omega)]
      exact hB2
end TW
