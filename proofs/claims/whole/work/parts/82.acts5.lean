/-! ===== lend, pass, back, tear ===== -/
section PAc
variable {G : XG} {S : XS} {I : XI}
theorem s_Sh_hasRoom {R : Int → XI → Prop} (hS : xSh S) (h : Rel S I) (ht : nA I < 150 → R 1 I) (hf : ¬ nA I < 150 → R 0 I) : Sh_hasRoom G S I R := by
  have c := nA_c h.good
  refine b_Sh_hasRoom hS ?_
  rw [pl_acts h.pl, c.1, w32_nat (k := nA I) (by omega), show w32 150 = 150 from rfl]
  exact ⟨fun e => hf (by omega), fun e => ht (by omega)⟩
theorem acA_tf {I : XI} {n : Nat} {bk kd cp wk tl am cs : Int} : tf I (acA I n bk kd cp wk tl am cs) := fun a h1 h2 => acA_row (by omega) (by omega)
theorem code_tf {I J : XI} (h : tf I J) : tf I (up J r_obj 0 0) := fun a h1 h2 => by rw [up_row (show a ≠ 77 by omega)]; exact h a h1 h2
/-- both sides told: the class first, then the reference, with what it needs in between -/
theorem rel_act2 {J F : XI} {n : Nat} {bk kd cp wk tl am cs : Int} (h : Rel S I) (hn : I r_acts 0 = (n : Int)) (hn2 : n < 150) (eJ : ∀ a, a ≠ 77 → (a < 129 ∨ (133 < a ∧ a ≠ 134)) → J a = acA I n bk kd cp wk tl am cs a) (eF : F = acB J n bk kd cp wk tl am cs)
    (c1 : 0 ≤ bk ∧ bk < I r_books 0) (c2 : 0 ≤ kd ∧ kd ≤ 3) (c3 : kd = 2 → cp = -1) (c4 : kd ≠ 2 → 0 ≤ cp ∧ cp < I r_camps 0) (c5 : 0 ≤ wk ∧ wk ≤ I r_now 0) (c6 : 0 ≤ tl ∧ tl ≤ I r_now 0) (c7 : kd = 0 → 1 ≤ am ∧ am ≤ 99) (c8 : kd = 3 → 1 ≤ am ∧ am ≤ 400) (c9 : kd = 1 → ∃ i, i < n ∧ I r_actKind i = 0 ∧ I r_actBook i = bk ∧ I r_actWeek i ≤ wk ∧ I r_actTold i ≤ tl) (ram : InR am) (rcs : InR cs) : Rel S F := by
  subst eF
  refine rel_act h hn hn2 (fun a ha => ?_) (fun a h1 h2 => ?_) c1 c2 c3 c4 c5 c6 c7 c8 c9 ram rcs
  · rw [acB_row (by omega)]; exact eJ a (by omega) (by omega)
  · exact acB_cong ((eJ a (by omega) (by omega)).trans (acA_row (by omega) (by omega)))
theorem who_camp (h : Rel S I) {q wk lm : Int} (hw : whoR I (nA I) q wk lm ≠ -1) : 0 ≤ whoR I (nA I) q wk lm ∧ whoR I (nA I) q wk lm < I r_camps 0 := by
  have c := nA_c h.good
  have g := h.good.2.2.2.2.2.2.1.2
  have hin := lastA_in (B := I r_actBook) (K := I r_actKind) (W := I r_actWeek) (T := I r_actTold) (bk := q) (lk := 2) (wk := wk) (lm := lm) (nA I)
  unfold whoR whoA at hw ⊢
  generalize (lastA (I r_actBook) (I r_actKind) (I r_actWeek) (I r_actTold) q 2 wk lm (nA I)).1 = z at hw hin ⊢
  by_cases e : z = -1
  · rw [if_pos e] at hw; exact absurd rfl hw
  · rw [if_neg e] at hw ⊢
    obtain ⟨a1, a2, a3, a4, -⟩ := g z.toNat (by omega)
    by_cases k : I r_actKind z.toNat = 2
    · exact absurd (a3 k) hw
    · exact a4 k
theorem lent_ex (h : Rel S I) {q wk lm : Int} (hw : whoR I (nA I) q wk lm ≠ -1) : ∃ i, i < nA I ∧ I r_actKind i = 0 ∧ I r_actBook i = q ∧ I r_actWeek i ≤ wk ∧ I r_actTold i ≤ lm := by
  have c := nA_c h.good
  have g := h.good.2.2.2.2.2.2.1.2
  have hl := h.1.lent hw
  have hin := lastA_in (B := I r_actBook) (K := I r_actKind) (W := I r_actWeek) (T := I r_actTold) (bk := q) (lk := 0) (wk := wk) (lm := lm) (nA I)
  have hs := lastA_sat (B := I r_actBook) (K := I r_actKind) (W := I r_actWeek) (T := I r_actTold) (bk := q) (lk := 0) (wk := wk) (lm := lm) (nA I) hl
  generalize (lastA (I r_actBook) (I r_actKind) (I r_actWeek) (I r_actTold) q 0 wk lm (nA I)).1 = z at hl hin hs
  have a2 := (g z.toNat (by omega)).2.1
  exact ⟨z.toNat, by omega, by omega, hs.1, hs.2.2.2, hs.2.2.1⟩
theorem ref_who {J : XI} {bk wk lm : Int} {R : Int → XI → Prop} (hS : xSh S) (h : Rel S I) (e : tf I J) (h1 : InR bk) (h3 : InR wk) (h4 : InR lm) (k : R (whoR I (nA I) bk wk lm) J) : R_whoHas G S J bk wk lm R := by
  refine s_R_who hS (okR_tf h.okR e) (actR_tf h.1.actR e) h1 h3 h4 ?_
  rw [tf_who e]; exact k
theorem t_back {v1 : Int} {R : Int → Int → XI → Prop} (hS : xSh S) (hI : Rel S I) (a1 : InR v1) (h : ∀ r J, Rel S J → R r r J) : H_back G S I v1 (fun r I1 => R_back G S I1 v1 (fun r' J => R r r' J)) := by
  have ca := nA_c hI.good
  have cb := nB_c hI.good
  have hnow := hI.good.1.1
  have rn : InR (I r_now 0) := ⟨by omega, by omega⟩
  have ref : ∀ (J0 : XI) (T : Int → XI → Prop), tf I J0 → (¬ (nA I < 150 ∧ (0 ≤ v1 ∧ v1 < I r_books 0) ∧ whoR I (nA I) v1 (I r_now 0) (I r_now 0) ≠ -1) → T (-1) (up J0 r_obj 0 0)) → ((nA I < 150 ∧ (0 ≤ v1 ∧ v1 < I r_books 0) ∧ whoR I (nA I) v1 (I r_now 0) (I r_now 0) ≠ -1) → ∀ J, J = acB (up J0 r_obj 0 0) (nA I) v1 2 (-1) (I r_now 0) (I r_now 0) 0 0 → T ((nA I : Nat) : Int) J) → R_back G S J0 v1 T := fun J0 T ht kn ky => by
    refine b_R_back hS (fun J e => ?_)
    have tJ : tf I J := by rw [e]; exact code_tf ht
    rw [tJ r_acts (by decide) (by decide), ca.1, w32_nat (k := nA I) (by omega), show w32 150 = 150 from rfl]
    subst e
    refine ⟨fun z => kn (fun q => by omega), fun z => s_R_isBook (z := I r_books 0) hS (by rw [tJ r_books (by decide) (by decide)]) (by omega) a1 (fun b1 b2 => br1 ?_) (fun n => br0 (kn (fun q => n q.2.1)))⟩
    rw [tJ r_now (by decide) (by decide)]
    refine ref_who hS hI tJ a1 rn rn ?_
    rw [w32_r (whoR_in hI.okR), show w32 (-1) = -1 from rfl]
    refine ⟨fun w => kn (fun q => q.2.2 w), fun w => ?_⟩
    rw [tJ r_now (by decide) (by decide)]
    exact s_R_tellAct hS (by rw [tJ r_acts (by decide) (by decide)]; exact ca.1) (by omega) (tJ r_now (by decide) (by decide) ▸ rfl) (fun J eJ => ky ⟨by omega, ⟨b1, b2⟩, w⟩ J eJ)
  have bad : ¬ (nA I < 150 ∧ (0 ≤ v1 ∧ v1 < I r_books 0) ∧ whoR I (nA I) v1 (I r_now 0) (I r_now 0) ≠ -1) → R_back G S I v1 (fun r' J => R (-1) r' J) := fun q => ref I _ (tf.refl I) (fun _ => h _ _ (hI.code rfl).1) (fun z => absurd z q)
  refine b_H_back hS (s_Sh_hasRoom hS hI (fun r1 => br1 (s_Sh_hasBook hS hI a1 (fun b1 b2 => br1 ?_) (fun n => br0 (bad (fun q => n q.2.1))))) (fun n => br0 (bad (fun q => n q.1))))
  rw [pl_now hI.pl]
  refine c_who hS hI a1 rn ⟨by decide, by decide⟩ ?_
  rw [whoR_le hI.1.le99, w32_r (whoR_in hI.okR), show w32 (-1) = -1 from rfl]
  refine ⟨fun w => bad (fun q => q.2.2 w), fun w => s_Sh_addAct hS ((pl_acts hI.pl).trans ca.1) r1 (fun J1 e1 => ?_)⟩
  refine ref J1 _ (by rw [e1]; exact acA_tf) (fun q => absurd ⟨r1, ⟨b1, b2⟩, w⟩ q) (fun _ J eJ => h _ _ (rel_act2 hI ca.1 r1 (fun a h1 h2 => ?_) eJ ⟨b1, b2⟩ (by decide) (fun _ => rfl) (fun z => absurd rfl z) (by omega) (by omega) (fun z => by omega) (fun z => by omega) (fun z => by omega) ⟨by decide, by decide⟩ ⟨by decide, by decide⟩))
  rw [up_row h1, e1]
theorem t_pass {v1 v2 v3 : Int} {R : Int → Int → XI → Prop} (hS : xSh S) (hI : Rel S I) (a1 : InR v1) (a2 : InR v2) (a3 : InR v3) (h : ∀ r J, Rel S J → R r r J) : H_pass G S I v1 v2 v3 (fun r I1 => R_pass G S I1 v1 v2 v3 (fun r' J => R r r' J)) := by
  have ca := nA_c hI.good
  have cb := nB_c hI.good
  have cm := nM_c hI.good
  have hnow := hI.good.1.1
  have rn : InR (I r_now 0) := ⟨by omega, by omega⟩
  have ref : ∀ (J0 : XI) (T : Int → XI → Prop), tf I J0 → (¬ (nA I < 150 ∧ (0 ≤ v1 ∧ v1 < I r_books 0) ∧ (0 ≤ v2 ∧ v2 < I r_camps 0) ∧ (0 ≤ v3 ∧ v3 ≤ I r_now 0) ∧ whoR I (nA I) v1 v3 (I r_now 0) ≠ -1 ∧ whoR I (nA I) v1 v3 (I r_now 0) ≠ v2) → T (-1) (up J0 r_obj 0 0)) → ((nA I < 150 ∧ (0 ≤ v1 ∧ v1 < I r_books 0) ∧ (0 ≤ v2 ∧ v2 < I r_camps 0) ∧ (0 ≤ v3 ∧ v3 ≤ I r_now 0) ∧ whoR I (nA I) v1 v3 (I r_now 0) ≠ -1 ∧ whoR I (nA I) v1 v3 (I r_now 0) ≠ v2) → ∀ J, J = acB (up J0 r_obj 0 0) (nA I) v1 1 v2 v3 (I r_now 0) 0 0 → T ((nA I : Nat) : Int) J) → R_pass G S J0 v1 v2 v3 T := fun J0 T ht kn ky => by
    refine b_R_pass hS (fun J e => ?_)
    have tJ : tf I J := by rw [e]; exact code_tf ht
    rw [tJ r_acts (by decide) (by decide), ca.1, w32_nat (k := nA I) (by omega), show w32 150 = 150 from rfl]
    subst e
    refine ⟨fun z => kn (fun q => by omega), fun z => s_R_isBook (z := I r_books 0) hS (by rw [tJ r_books (by decide) (by decide)]) (by omega) a1 (fun b1 b2 => br1 (s_R_isCamp (z := I r_camps 0) hS (by rw [tJ r_camps (by decide) (by decide)]) (by omega) a2 (fun d1 d2 => br1 ?_) (fun n => br0 (kn (fun q => n q.2.2.1))))) (fun n => br0 (kn (fun q => n q.2.1)))⟩
    rw [tJ r_now (by decide) (by decide)]
    refine s_Rin hS a3 ⟨by decide, by decide⟩ rn (fun w1 w2 => br1 ?_) (fun n => br0 (kn (fun q => n q.2.2.2.1)))
    rw [tJ r_now (by decide) (by decide)]
    refine ref_who hS hI tJ a1 a3 rn ?_
    rw [w32_r (whoR_in hI.okR), show w32 (-1) = -1 from rfl, w32_r a2]
    refine ⟨fun w => kn (fun q => q.2.2.2.2.1 w), fun w => ⟨fun y => kn (fun q => q.2.2.2.2.2 y), fun y => ?_⟩⟩
    exact s_R_tellAct hS (by rw [tJ r_acts (by decide) (by decide)]; exact ca.1) (by omega) (tJ r_now (by decide) (by decide) ▸ rfl) (fun J eJ => ky ⟨by omega, ⟨b1, b2⟩, ⟨d1, d2⟩, ⟨w1, w2⟩, w, y⟩ J eJ)
  have bad : ¬ (nA I < 150 ∧ (0 ≤ v1 ∧ v1 < I r_books 0) ∧ (0 ≤ v2 ∧ v2 < I r_camps 0) ∧ (0 ≤ v3 ∧ v3 ≤ I r_now 0) ∧ whoR I (nA I) v1 v3 (I r_now 0) ≠ -1 ∧ whoR I (nA I) v1 v3 (I r_now 0) ≠ v2) → R_pass G S I v1 v2 v3 (fun r' J => R (-1) r' J) := fun q => ref I _ (tf.refl I) (fun _ => h _ _ (hI.code rfl).1) (fun z => absurd z q)
  refine b_H_pass hS (s_Sh_hasRoom hS hI (fun r1 => br1 (s_Sh_hasBook hS hI a1 (fun b1 b2 => br1 (s_He_hasCamp hS hI a2 (fun d1 d2 => br1 (s_H_isPast hS hI a3 (fun w1 w2 => br1 (c_who hS hI a1 a3 ⟨by decide, by decide⟩ ?_)) (fun n => br0 (bad (fun q => n q.2.2.2.1))))) (fun n => br0 (bad (fun q => n q.2.2.1))))) (fun n => br0 (bad (fun q => n q.2.1))))) (fun n => br0 (bad (fun q => n q.1))))
  rw [whoR_le hI.1.le99, w32_r (whoR_in hI.okR), show w32 (-1) = -1 from rfl, w32_r a2, pl_now hI.pl]
  refine ⟨fun w => bad (fun q => q.2.2.2.2.1 w), fun w => ⟨fun y => bad (fun q => q.2.2.2.2.2 y), fun y => s_Sh_addAct hS ((pl_acts hI.pl).trans ca.1) r1 (fun J1 e1 => ?_)⟩⟩
  refine ref J1 _ (by rw [e1]; exact acA_tf) (fun q => absurd ⟨r1, ⟨b1, b2⟩, ⟨d1, d2⟩, ⟨w1, w2⟩, w, y⟩ q) (fun _ J eJ => h _ _ (rel_act2 hI ca.1 r1 (fun a h1 h2 => ?_) eJ ⟨b1, b2⟩ (by decide) (fun z => by omega) (fun _ => ⟨d1, d2⟩) ⟨w1, w2⟩ (by omega) (fun z => by omega) (fun z => by omega) (fun _ => lent_ex hI w) ⟨by decide, by decide⟩ ⟨by decide, by decide⟩))
  rw [up_row h1, e1]
theorem num_1 (h : Rel S I) (F : Nat → Int) : 1 ≤ numR I F 1 4 ∧ numR I F 1 4 ≤ 99 := by
  have cl := nL_c h.good
  unfold numR
  rcases firstS_in (P := fun l => I r_lineAct l = 1 ∧ hldS I F l (I r_lineTests l).toNat = 1) (nL I) 0 with e | ⟨k, k1, k2, k3, k4⟩
  · have e : lineR I F 1 = -1 := e
    rw [if_pos e]; decide
  · have k4 : lineR I F 1 = (k : Int) := k4
    rw [k4, if_neg (by omega), Int.toNat_natCast]
    exact (h.good.2.2.2.2.2.2.2.1.2 k (by omega)).2.1 k3.1
theorem num_2 (h : Rel S I) (F : Nat → Int) : 0 ≤ numR I F 2 0 ∧ numR I F 2 0 ≤ 9999 := by
  have cl := nL_c h.good
  unfold numR
  rcases firstS_in (P := fun l => I r_lineAct l = 2 ∧ hldS I F l (I r_lineTests l).toNat = 1) (nL I) 0 with e | ⟨k, k1, k2, k3, k4⟩
  · have e : lineR I F 2 = -1 := e
    rw [if_pos e]; decide
  · have k4 : lineR I F 2 = (k : Int) := k4
    rw [k4, if_neg (by omega), Int.toNat_natCast]
    exact (h.good.2.2.2.2.2.2.2.1.2 k (by omega)).2.2.1
theorem line_in (h : Rel S I) (F : Nat → Int) (act : Int) : InR (lineR I F act) := by
  have cl := nL_c h.good
  rcases firstS_in (P := fun l => I r_lineAct l = act ∧ hldS I F l (I r_lineTests l).toNat = 1) (nL I) 0 with e | ⟨k, k1, k2, k3, k4⟩
  · have e : lineR I F act = -1 := e
    rw [e]; exact ⟨by decide, by decide⟩
  · have k4 : lineR I F act = (k : Int) := k4
    rw [k4]; exact ⟨by omega, by omega⟩
theorem t_lend {v1 v2 : Int} {R : Int → Int → XI → Prop} (hS : xSh S) (hI : Rel S I) (a1 : InR v1) (a2 : InR v2) (h : ∀ r J, Rel S J → R r r J) : H_lend G S I v1 v2 (fun r I1 => R_lend G S I1 v1 v2 (fun r' J => R r r' J)) := by
  have ca := nA_c hI.good
  have cb := nB_c hI.good
  have cm := nM_c hI.good
  have hnow := hI.good.1.1
  have rn : InR (I r_now 0) := ⟨by omega, by omega⟩
  obtain ⟨nw, hnw⟩ : ∃ nw : Nat, I r_now 0 = (nw : Int) := ⟨(I r_now 0).toNat, by omega⟩
  -- the reference, up to its look
  have ref : ∀ (J0 : XI) (T : Int → XI → Prop), tf I J0 → (¬ (nA I < 150 ∧ (0 ≤ v1 ∧ v1 < I r_books 0) ∧ (0 ≤ v2 ∧ v2 < I r_camps 0) ∧ whoR I (nA I) v1 (I r_now 0) (I r_now 0) = -1) → T (-1) (up J0 r_obj 0 0)) → ((nA I < 150 ∧ (0 ≤ v1 ∧ v1 < I r_books 0) ∧ (0 ≤ v2 ∧ v2 < I r_camps 0) ∧ whoR I (nA I) v1 (I r_now 0) (I r_now 0) = -1) → ∀ c b : Nat, v2 = (c : Int) → v1 = (b : Int) → c < nM I → b < nB I → ∀ J, tf I J → (∀ a, a ≠ 77 → (a < 129 ∨ (133 < a ∧ a ≠ 134)) → J a = J0 a) → ((lineR I (fun k => seenR I c b nw (I r_now 0) k) 0 ≠ -1 → T (-1) J) ∧ (lineR I (fun k => seenR I c b nw (I r_now 0) k) 0 = -1 → ∀ F, F = acB J (nA I) v1 0 v2 (I r_now 0) (I r_now 0) (numR I (fun k => seenR I c b nw (I r_now 0) k) 1 4) 0 → T ((nA I : Nat) : Int) F))) → R_lend G S J0 v1 v2 T := fun J0 T ht kn ky => by
    refine b_R_lend hS (fun J e => ?_)
    have tJ : tf I J := by rw [e]; exact code_tf ht
    have eJ : ∀ a, a ≠ 77 → J a = J0 a := fun a ha => by rw [e]; exact up_row ha
    rw [tJ r_acts (by decide) (by decide), ca.1, w32_nat (k := nA I) (by omega), show w32 150 = 150 from rfl]
    rw [← e] at kn
    refine ⟨fun z => kn (fun q => by omega), fun z => s_R_isBook (z := I r_books 0) hS (by rw [tJ r_books (by decide) (by decide)]) (by omega) a1 (fun b1 b2 => br1 (s_R_isCamp (z := I r_camps 0) hS (by rw [tJ r_camps (by decide) (by decide)]) (by omega) a2 (fun d1 d2 => br1 ?_) (fun n => br0 (kn (fun q => n q.2.2.1))))) (fun n => br0 (kn (fun q => n q.2.1)))⟩
    rw [tJ r_now (by decide) (by decide)]
    refine ref_who hS hI tJ a1 rn rn ?_
    rw [w32_r (whoR_in hI.okR), show w32 (-1) = -1 from rfl]
    refine ⟨fun w => ?_, fun w => kn (fun q => w q.2.2.2)⟩
    obtain ⟨c, hc⟩ : ∃ c : Nat, v2 = (c : Int) := ⟨v2.toNat, by omega⟩
    obtain ⟨b, hb⟩ : ∃ b : Nat, v1 = (b : Int) := ⟨v1.toNat, by omega⟩
    have hc2 : c < nM I := by omega
    have hb2 : b < nB I := by omega
    rw [tJ r_now (by decide) (by decide)]
    refine s_R_look hS hI tJ hc hc2 hb hb2 hnw (by omega) rn (fun J2 t2 s2 f2 => ?_)
    have hFr : ∀ k, InR ((fun k => seenR I c b nw (I r_now 0) k) k) := fun k => seen_in hI hc2 hb2 (by omega) _ k
    obtain ⟨k1, k2⟩ := ky ⟨by omega, ⟨b1, b2⟩, ⟨d1, d2⟩, w⟩ c b hc hb hc2 hb2 J2 t2 (fun a h1 h2 => (f2 a h1 h2).trans (eJ a h1))
    refine s_R_lineOf hS hI t2 s2 hFr ⟨by decide, by decide⟩ ?_
    rw [w32_r (line_in hI _ _)]
    refine ⟨fun y => s_R_numberOf hS hI t2 s2 hFr ⟨by decide, by decide⟩ ?_, fun y => k1 y⟩
    rw [t2 r_now (by decide) (by decide)]
    exact s_R_tellAct hS (by rw [t2 r_acts (by decide) (by decide)]; exact ca.1) (by omega) (t2 r_now (by decide) (by decide) ▸ rfl) (fun F eF => k2 y F eF)
  have bad : ¬ (nA I < 150 ∧ (0 ≤ v1 ∧ v1 < I r_books 0) ∧ (0 ≤ v2 ∧ v2 < I r_camps 0) ∧ whoR I (nA I) v1 (I r_now 0) (I r_now 0) = -1) → R_lend G S I v1 v2 (fun r' J => R (-1) r' J) := fun q => ref I _ (tf.refl I) (fun _ => h _ _ (hI.code rfl).1) (fun z => absurd z q)
  refine b_H_lend hS (s_Sh_hasRoom hS hI (fun r1 => br1 (s_Sh_hasBook hS hI a1 (fun b1 b2 => br1 (s_He_hasCamp hS hI a2 (fun d1 d2 => br1 ?_) (fun n => br0 (bad (fun q => n q.2.2.1))))) (fun n => br0 (bad (fun q => n q.2.1))))) (fun n => br0 (bad (fun q => n q.1))))
  rw [pl_now hI.pl]
  refine c_who hS hI a1 rn ⟨by decide, by decide⟩ ?_
  rw [whoR_le hI.1.le99, w32_r (whoR_in hI.okR), show w32 (-1) = -1 from rfl]
  refine ⟨fun w => ?_, fun w => bad (fun q => w q.2.2.2)⟩
  obtain ⟨c, hc⟩ : ∃ c : Nat, v2 = (c : Int) := ⟨v2.toNat, by omega⟩
  obtain ⟨b, hb⟩ : ∃ b : Nat, v1 = (b : Int) := ⟨v1.toNat, by omega⟩
  have hc2 : c < nM I := by omega
  have hb2 : b < nB I := by omega
  refine s_H_gatherCamp hS hI hc hc2 hnw (by omega) ⟨by decide, by decide⟩ (fun J1 hJ1 t1 hC1 => ?_)
  refine s_gatherB hS hJ1 hC1 hc (by rw [nM_tf t1.1]; exact hc2) hb (by rw [tf_nB t1.1]; exact hb2) hnw (by omega) ⟨by decide, by decide⟩ (fun J2 hJ2 e2 _ hF2 => ?_)
  have t2 : tfx I J2 := t1.trans ⟨fun a h1 h2 => e2 a (by omega), fun a ha => e2 a (by omega)⟩
  have hF : ∀ s : Nat, s < 10 → J2 c_facts s = (fun k => seenR I c b nw 99 k) (subR s).toNat := fun s hs => by rw [hF2 s hs, seen_tfx t1]
  have hFr : ∀ k, InR ((fun k => seenR I c b nw 99 k) k) := fun k => seen_in hI hc2 hb2 (by omega) _ k
  have eF : ∀ k, (fun k => seenR I c b nw 99 k) k = (fun k => seenR I c b nw (I r_now 0) k) k := fun k => hI.1.seen99 c b nw k
  have same : ∀ c' b' : Nat, v2 = (c' : Int) → v1 = (b' : Int) → c' = c ∧ b' = b := fun c' b' z1 z2 => ⟨by omega, by omega⟩
  refine s_Ru_first hS hJ2 hF hFr ⟨by decide, by decide⟩ ?_
  rw [lineR_cong t2.1 eF, w32_r (line_in hI _ _)]
  refine ⟨fun y => s_Ru_number hS hJ2 hF hFr ⟨by decide, by decide⟩ ?_, fun y => ?_⟩
  · rw [numR_cong t2.1 eF]
    have caJ : J2 r_acts 0 = ((nA I : Nat) : Int) := by rw [t2.1 r_acts (by decide) (by decide)]; exact ca.1
    refine s_Sh_addAct hS ((pl_acts hJ2.pl).trans caJ) r1 (fun J3 e3 => ?_)
    have t3 : tf I J3 := by rw [e3]; exact t2.1.trans acA_tf
    refine ref J3 _ t3 (fun q => absurd ⟨r1, ⟨b1, b2⟩, ⟨d1, d2⟩, w⟩ q) (fun _ c' b' z1 z2 _ _ J tJ fJ => ?_)
    obtain ⟨ec, eb⟩ := same c' b' z1 z2
    subst ec; subst eb
    refine ⟨fun n => absurd y n, fun _ F eFF => h _ _ ?_⟩
    have n1 := num_1 hI (fun k => seenR I c' b' nw (I r_now 0) k)
    exact rel_act2 hJ2 caJ r1 (fun a h1 h2 => (fJ a h1 h2).trans (by rw [e3])) eFF (by rw [t2.1 r_books (by decide) (by decide)]; exact ⟨b1, b2⟩) (by decide) (fun z => by omega) (fun _ => by rw [t2.1 r_camps (by decide) (by decide)]; exact ⟨d1, d2⟩) (by rw [t2.1 r_now (by decide) (by decide)]; omega) (by rw [t2.1 r_now (by decide) (by decide)]; omega) (fun _ => n1) (fun z => by omega) (fun z => by omega) ⟨by omega, by omega⟩ ⟨by decide, by decide⟩
  · refine ref J2 _ t2.1 (fun q => absurd ⟨r1, ⟨b1, b2⟩, ⟨d1, d2⟩, w⟩ q) (fun _ c' b' z1 z2 _ _ J tJ fJ => ?_)
    obtain ⟨ec, eb⟩ := same c' b' z1 z2
    subst ec; subst eb
    exact ⟨fun _ => h _ _ (hJ2.keepA (fun a ha => fJ a (by omega) (by omega))), fun n => absurd n y⟩
theorem torn_100 (h : Rel S I) (bk lm : Int) : tornR I bk (-1) 99 lm 0 = tornR I bk (-1) 100 lm 0 := by
  have ca := nA_c h.good
  have g := h.good.2.2.2.2.2.2.1.2
  have hn := h.good.1.1
  unfold tornR
  refine sumA_congr (fun j hj => ?_)
  have hw := (g j (by omega)).2.2.2.2.1
  unfold tornG
  by_cases c : (bk = -1 ∨ I r_actBook j = bk) ∧ ((-1 : Int) = -1 ∨ I r_actCamp j = -1) ∧ I r_actKind j = 3 ∧ I r_actWeek j ≤ 99 ∧ I r_actTold j ≤ lm
  · rw [if_pos c, if_pos ⟨c.1, c.2.1, c.2.2.1, by omega, c.2.2.2.2⟩]
  · rw [if_neg c, if_neg (fun q => c ⟨q.1, q.2.1, q.2.2.1, by omega, q.2.2.2.2⟩)]
theorem t_tear {v1 v2 v3 : Int} {R : Int → Int → XI → Prop} (hS : xSh S) (hI : Rel S I) (a1 : InR v1) (a2 : InR v2) (a3 : InR v3) (h : ∀ r J, Rel S J → R r r J) : H_tear G S I v1 v2 v3 (fun r I1 => R_tear G S I1 v1 v2 v3 (fun r' J => R r r' J)) := by
  have ca := nA_c hI.good
  have cb := nB_c hI.good
  have cm := nM_c hI.good
  have hnow := hI.good.1.1
  have rn : InR (I r_now 0) := ⟨by omega, by omega⟩
  have ref : ∀ (J0 : XI) (T : Int → XI → Prop), tf I J0 → (¬ (nA I < 150 ∧ (0 ≤ v1 ∧ v1 < I r_books 0) ∧ (0 ≤ v3 ∧ v3 ≤ I r_now 0) ∧ whoR I (nA I) v1 v3 (I r_now 0) ≠ -1 ∧ 1 ≤ v2 ∧ v2 ≤ I r_bookPages v1.toNat - tornR I v1 (-1) 99 (I r_now 0) 0) → ∀ J, (∀ a, a ≠ 77 → J a = J0 a) → T (-1) J) → ((nA I < 150 ∧ (0 ≤ v1 ∧ v1 < I r_books 0) ∧ (0 ≤ v3 ∧ v3 ≤ I r_now 0) ∧ whoR I (nA I) v1 v3 (I r_now 0) ≠ -1 ∧ 1 ≤ v2 ∧ v2 ≤ I r_bookPages v1.toNat - tornR I v1 (-1) 99 (I r_now 0) 0) → ∀ c b wk : Nat, whoR I (nA I) v1 v3 (I r_now 0) = (c : Int) → v1 = (b : Int) → v3 = (wk : Int) → c < nM I → b < nB I → wk ≤ 99 → ∀ J, tf I J → (∀ a, a ≠ 77 → (a < 129 ∨ (133 < a ∧ a ≠ 134)) → J a = J0 a) → ∀ F, F = acB J (nA I) v1 3 (whoR I (nA I) v1 v3 (I r_now 0)) v3 (I r_now 0) v2 (numR I (fun k => seenR I c b wk (I r_now 0) k) 2 0) → T ((nA I : Nat) : Int) F) → R_tear G S J0 v1 v2 v3 T := fun J0 T ht kn ky => by
    refine b_R_tear hS (fun J e => ?_)
    have tJ : tf I J := by rw [e]; exact code_tf ht
    have eJ : ∀ a, a ≠ 77 → J a = J0 a := fun a ha => by rw [e]; exact up_row ha
    rw [tJ r_acts (by decide) (by decide), ca.1, w32_nat (k := nA I) (by omega), show w32 150 = 150 from rfl]
    refine ⟨fun z => kn (fun q => by omega) J eJ, fun z => s_R_isBook (z := I r_books 0) hS (by rw [tJ r_books (by decide) (by decide)]) (by omega) a1 (fun b1 b2 => br1 ?_) (fun n => br0 (kn (fun q => n q.2.1) J eJ))⟩
    rw [tJ r_now (by decide) (by decide)]
    refine s_Rin hS a3 ⟨by decide, by decide⟩ rn (fun w1 w2 => br1 ?_) (fun n => br0 (kn (fun q => n q.2.2.1) J eJ))
    rw [show w32 1 = 1 from rfl, w32_r a2, tJ r_now (by decide) (by decide)]
    refine ⟨fun p1 => ref_who hS hI tJ a1 a3 rn ?_, fun p1 => kn (fun q => by omega) J eJ⟩
    rw [w32_r (whoR_in hI.okR), show w32 (-1) = -1 from rfl]
    refine ⟨fun w => kn (fun q => q.2.2.2.1 w) J eJ, fun w => ⟨inb_b (by omega) (by omega) (by decide), ?_⟩⟩
    obtain ⟨x1, x2⟩ := who_camp hI w
    obtain ⟨c, hc⟩ : ∃ c : Nat, whoR I (nA I) v1 v3 (I r_now 0) = (c : Int) := ⟨(whoR I (nA I) v1 v3 (I r_now 0)).toNat, by omega⟩
    obtain ⟨b, hb⟩ : ∃ b : Nat, v1 = (b : Int) := ⟨v1.toNat, by omega⟩
    obtain ⟨wk, hwk⟩ : ∃ wk : Nat, v3 = (wk : Int) := ⟨v3.toNat, by omega⟩
    have hc2 : c < nM I := by omega
    have hb2 : b < nB I := by omega
    have gb := hI.good.2.2.2.2.2.1.2 b (by omega)
    have ti := torn_in hI v1 (-1) 100 (I r_now 0)
    rw [tJ r_now (by decide) (by decide)]
    refine s_R_torn (n := nA I) hS (okR_tf hI.okR tJ) (by rw [tJ r_acts (by decide) (by decide)]; exact ca.1) ca.2 a1 ⟨by decide, by decide⟩ ⟨by decide, by decide⟩ rn (Or.inl rfl) ?_
    have et := tf_torn tJ v1 (-1) 100 (I r_now 0) 0
    unfold tornR at et
    rw [tf_nA tJ] at et
    have eb : v1.toNat = b := by omega
    rw [et, tJ r_bookPages (by decide) (by decide), ix_b (z := v1) (by omega) (by omega)]
    have e99 := torn_100 hI v1 (I r_now 0)
    rw [eb] at kn ky ⊢
    have ed : sumA (tornG (I r_actBook) (I r_actCamp) (I r_actKind) (I r_actWeek) (I r_actTold) (fun j => I r_actMany j * (if (0 : Int) = 0 then 1 else I r_actCost j)) v1 (-1) 100 (I r_now 0)) (nA I) = tornR I v1 (-1) 100 (I r_now 0) 0 := rfl
    rw [ed, w32_b (z := I r_bookPages b - tornR I v1 (-1) 100 (I r_now 0) 0) (by omega) (by omega)]
    refine ⟨fun p2 => ?_, fun p2 => kn (fun q => by omega) J eJ⟩
    rw [tJ r_now (by decide) (by decide), hc]
    refine s_R_look hS hI tJ rfl hc2 hb hb2 hwk (by omega) rn (fun J2 t2 s2 f2 => ?_)
    have hFr : ∀ k, InR ((fun k => seenR I c b wk (I r_now 0) k) k) := fun k => seen_in hI hc2 hb2 (by omega) _ k
    refine s_R_numberOf hS hI t2 s2 hFr ⟨by decide, by decide⟩ ?_
    refine s_R_tellAct (tl := I r_now 0) hS (by rw [t2 r_acts (by decide) (by decide)]; exact ca.1) (by omega) (by rw [t2 r_now (by decide) (by decide)]) (fun F eF => ky ⟨by omega, ⟨b1, b2⟩, ⟨w1, w2⟩, w, by omega, by omega⟩ c b wk hc hb hwk hc2 hb2 (by omega) J2 t2 (fun a h1 h2 => (f2 a h1 h2).trans (eJ a h1)) F (by rw [hc]; exact eF))
  have bad : ¬ (nA I < 150 ∧ (0 ≤ v1 ∧ v1 < I r_books 0) ∧ (0 ≤ v3 ∧ v3 ≤ I r_now 0) ∧ whoR I (nA I) v1 v3 (I r_now 0) ≠ -1 ∧ 1 ≤ v2 ∧ v2 ≤ I r_bookPages v1.toNat - tornR I v1 (-1) 99 (I r_now 0) 0) → R_tear G S I v1 v2 v3 (fun r' J => R (-1) r' J) := fun q => ref I _ (tf.refl I) (fun _ J eJ => h _ _ (hI.keepA (fun a ha => eJ a (by omega)))) (fun z => absurd z q)
  refine b_H_tear hS (s_Sh_hasRoom hS hI (fun r1 => br1 (s_Sh_hasBook hS hI a1 (fun b1 b2 => br1 (s_H_isPast hS hI a3 (fun w1 w2 => br1 (c_who hS hI a1 a3 ⟨by decide, by decide⟩ ?_)) (fun n => br0 (bad (fun q => n q.2.2.1))))) (fun n => br0 (bad (fun q => n q.2.1))))) (fun n => br0 (bad (fun q => n q.1))))
  rw [whoR_le hI.1.le99, w32_r (whoR_in hI.okR), show w32 (-1) = -1 from rfl]
  refine ⟨fun w => bad (fun q => q.2.2.2.1 w), fun w => ?_⟩
  obtain ⟨x1, x2⟩ := who_camp hI w
  obtain ⟨c, hc⟩ : ∃ c : Nat, whoR I (nA I) v1 v3 (I r_now 0) = (c : Int) := ⟨(whoR I (nA I) v1 v3 (I r_now 0)).toNat, by omega⟩
  obtain ⟨b, hb⟩ : ∃ b : Nat, v1 = (b : Int) := ⟨v1.toNat, by omega⟩
  obtain ⟨wk, hwk⟩ : ∃ wk : Nat, v3 = (wk : Int) := ⟨v3.toNat, by omega⟩
  have hc2 : c < nM I := by omega
  have hb2 : b < nB I := by omega
  have gb := hI.good.2.2.2.2.2.1.2 b (by omega)
  have ti := torn_in hI v1 (-1) 99 (I r_now 0)
  have eb : v1.toNat = b := by omega
  refine c_left (q := b) hS hI hb (by omega) ⟨by decide, by decide⟩ ⟨by decide, by decide⟩ ?_
  rw [tornR_le hI.1.le99]
  refine s_isIn hS a2 ⟨by decide, by decide⟩ ⟨by omega, by omega⟩ (fun p1 p2 => br1 ?_) (fun n => br0 (bad (fun q => n (by rw [eb] at q; exact q.2.2.2.2))))
  have OK : nA I < 150 ∧ (0 ≤ v1 ∧ v1 < I r_books 0) ∧ (0 ≤ v3 ∧ v3 ≤ I r_now 0) ∧ whoR I (nA I) v1 v3 (I r_now 0) ≠ -1 ∧ 1 ≤ v2 ∧ v2 ≤ I r_bookPages v1.toNat - tornR I v1 (-1) 99 (I r_now 0) 0 := ⟨r1, ⟨b1, b2⟩, ⟨w1, w2⟩, w, p1, by rw [eb]; exact p2⟩
  refine s_H_gatherCamp hS hI hc hc2 hwk (by omega) ⟨by decide, by decide⟩ (fun J1 hJ1 t1 hC1 => ?_)
  refine s_gatherB hS hJ1 hC1 hc (by rw [nM_tf t1.1]; exact hc2) hb (by rw [tf_nB t1.1]; exact hb2) hwk (by omega) ⟨by decide, by decide⟩ (fun J2 hJ2 e2 _ hF2 => ?_)
  have t2 : tfx I J2 := t1.trans ⟨fun a h1 h2 => e2 a (by omega), fun a ha => e2 a (by omega)⟩
  have hF : ∀ s : Nat, s < 10 → J2 c_facts s = (fun k => seenR I c b wk 99 k) (subR s).toNat := fun s hs => by rw [hF2 s hs, seen_tfx t1]
  have hFr : ∀ k, InR ((fun k => seenR I c b wk 99 k) k) := fun k => seen_in hI hc2 hb2 (by omega) _ k
  have eF : ∀ k, (fun k => seenR I c b wk 99 k) k = (fun k => seenR I c b wk (I r_now 0) k) k := fun k => hI.1.seen99 c b wk k
  refine s_Ru_number hS hJ2 hF hFr ⟨by decide, by decide⟩ ?_
  rw [numR_cong t2.1 eF, pl_now hJ2.pl, t2.1 r_now (by decide) (by decide)]
  have caJ : J2 r_acts 0 = ((nA I : Nat) : Int) := by rw [t2.1 r_acts (by decide) (by decide)]; exact ca.1
  refine s_Sh_addAct hS ((pl_acts hJ2.pl).trans caJ) r1 (fun J3 e3 => ?_)
  have t3 : tf I J3 := by rw [e3]; exact t2.1.trans acA_tf
  refine ref J3 _ t3 (fun q => absurd OK q) (fun _ c' b' wk' z1 z2 z3 _ _ _ J tJ fJ F eFF => h _ _ ?_)
  have ec : c' = c := by omega
  have eb' : b' = b := by omega
  have ew : wk' = wk := by omega
  subst ec; subst eb'; subst ew
  have n2 := num_2 hI (fun k => seenR I c' b' wk' (I r_now 0) k)
  exact rel_act2 hJ2 caJ r1 (fun a h1 h2 => (fJ a h1 h2).trans (by rw [e3])) eFF (by rw [t2.1 r_books (by decide) (by decide)]; exact ⟨b1, b2⟩) (by decide) (fun z => by omega) (fun _ => by rw [t2.1 r_camps (by decide) (by decide)]; exact ⟨x1, x2⟩) (by rw [t2.1 r_now (by decide) (by decide)]; exact ⟨w1, w2⟩) (by rw [t2.1 r_now (by decide) (by decide)]; omega) (fun z => by omega) (fun _ => by omega) (fun z => by omega) ⟨by omega, by omega⟩ ⟨by omega, by omega⟩
end PAc
