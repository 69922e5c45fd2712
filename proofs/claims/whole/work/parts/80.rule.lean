/-! ===== rule ===== -/
section PRu
variable {G : XG} {S : XS} {I : XI}
theorem FcC.keep {I J : XI} {c wk : Nat} {lm : Int} (h : FcC I c wk lm) (e : ∀ a, a ≠ 75 → J a = I a) (f : ∀ j, j ≠ 0 → j ≠ 5 → j ≠ 6 → j ≠ 7 → J c_facts j = I c_facts j) : FcC J c wk lm := by
  have t : tfx I J := ⟨fun a h1 h2 => e a (by omega), fun a ha => e a (by omega)⟩
  obtain ⟨h1, h2, h3, h4, h8, h9⟩ := h
  unfold FcC
  rw [f 1 (by decide) (by decide) (by decide) (by decide), f 2 (by decide) (by decide) (by decide) (by decide), f 3 (by decide) (by decide) (by decide) (by decide), f 4 (by decide) (by decide) (by decide) (by decide), f 8 (by decide) (by decide) (by decide) (by decide), f 9 (by decide) (by decide) (by decide) (by decide), t.1 r_dryWeek (by decide) (by decide), well_tfx t, tf_held t.1, tf_late t.1, tf_torn t.1]
  exact ⟨h1, h2, h3, h4, h8, h9⟩
theorem s_gatherB {c b wk : Nat} {cp bv wp lm : Int} {R : XI → Prop} (hS : xSh S) (hI : Rel S I) (hC : FcC I c wk lm) (hcp : cp = (c : Int)) (hc : c < nM I) (hbv : bv = (b : Int)) (hb : b < nB I) (hwp : wp = (wk : Int)) (hwk : wk ≤ 99) (hlm : InR lm)
    (h : ∀ J', Rel S J' → (∀ a, a ≠ 75 → J' a = I a) → FcC J' c wk lm → (∀ s : Nat, s < 10 → J' c_facts s = seenR I c b wk lm (subR s).toNat) → R J') : H_gatherBook G S I cp bv wp lm R := by
  refine s_H_gatherBook hS hI hcp hc hbv hb hwp hwk hlm (fun J' hJ e hB hk => ?_)
  have hC' := hC.keep e hk
  have t : tfx I J' := ⟨fun a h1 h2 => e a (by omega), fun a ha => e a (by omega)⟩
  refine h J' hJ e hC' (fun s hs => ?_)
  rw [Fc_seen hC' hB s hs, seen_tfx t]
theorem limC_tf {I J : XI} (e : tf I J) : limC J = limC I := by unfold limC; rw [e r_viewed (by decide) (by decide)]
theorem nM_tf {I J : XI} (e : tf I J) : nM J = nM I := by show (J r_camps 0).toNat = _; rw [e r_camps (by decide) (by decide)]
theorem t_rule {v1 v2 v3 v4 : Int} {R : Int → Int → XI → Prop} (hS : xSh S) (hI : Rel S I) (a1 : InR v1) (a2 : InR v2) (a3 : InR v3) (a4 : InR v4) (h : ∀ r J, Rel S J → R r r J) : H_rule G S I v1 v2 v3 v4 (fun r I1 => R_rule G S I1 v1 v2 v3 v4 (fun r' J => R r r' J)) := by
  have cb := nB_c hI.good
  have cm := nM_c hI.good
  have hl := limC_in hI.good
  have hlr : InR (limC I) := ⟨by omega, by omega⟩
  refine b_H_rule hS (s_H_isThere hS hI a1 a3 (fun c q => br1 (s_Sh_hasBook hS hI a2 (fun b1 b2 => br1 (s_isIn hS a4 ⟨by decide, by decide⟩ ⟨by decide, by decide⟩ (fun x1 x2 => br1 (s_H_limit hS hI.1 ?_)) (fun n => br0 ?_))) (fun n => br0 ?_))) (fun n => br0 ?_))
  · obtain ⟨q1, q2, q3, q4⟩ := q
    have hc : c < nM I := by omega
    obtain ⟨b, hbv⟩ : ∃ b : Nat, v2 = (b : Int) := ⟨v2.toNat, by omega⟩
    have hb : b < nB I := by omega
    have gc := hI.good.2.2.2.1.2.1 c (by omega)
    obtain ⟨wk, hwk⟩ : ∃ wk : Nat, v3 = (wk : Int) := ⟨v3.toNat, by omega⟩
    refine s_H_gatherCamp hS hI q1 hc hwk (by omega) hl (fun J1 hJ1 t1 hC1 => s_H_limit hS hJ1.1 ?_)
    rw [limC_tf t1.1]
    refine s_gatherB hS hJ1 hC1 q1 (by rw [nM_tf t1.1]; exact hc) hbv (by rw [tf_nB t1.1]; exact hb) hwk (by omega) hlr (fun J2 hJ2 e2 _ hF2 => ?_)
    have t2 : tfx I J2 := t1.trans ⟨fun a h1 h2 => e2 a (by omega), fun a ha => e2 a (by omega)⟩
    have hF : ∀ s : Nat, s < 10 → J2 c_facts s = (fun k => seenR I c b wk (limC I) k) (subR s).toNat := fun s hs => by rw [hF2 s hs, seen_tfx t1]
    have hFr : ∀ k, InR ((fun k => seenR I c b wk (limC I) k) k) := fun k => seen_in hI hc hb (by omega) _ k
    have eF : ∀ k, (fun k => seenR I c b wk (limC I) k) k = (fun k => seenR I c b wk (viewR I) k) k := fun k => hI.1.seen c b wk k
    have ref : ∀ T : Int → XI → Prop, (∀ J, Rel S J → ((v4 = 0 → T (lineR I (fun k => seenR I c b wk (viewR I) k) 0) J) ∧ (v4 = 1 → T (numR I (fun k => seenR I c b wk (viewR I) k) 1 4) J) ∧ (v4 = 2 → T (numR I (fun k => seenR I c b wk (viewR I) k) 2 0) J))) → R_rule G S J2 v1 v2 v3 v4 T := fun T k => by
      refine b_R_rule hS (fun J e => ?_)
      obtain ⟨hJ, htJ, eJ⟩ := hJ2.code e
      have t3 : tf I J := t2.1.trans htJ
      refine s_R_isThere hS hI t3 a1 a3 (fun _ _ => br1 (s_R_isBook (z := I r_books 0) hS (by rw [t3 r_books (by decide) (by decide)]) (by omega) a2 (fun _ _ => br1 (s_Rin hS a4 ⟨by decide, by decide⟩ ⟨by decide, by decide⟩ (fun _ _ => br1 (s_R_viewWeek hS hJ.okR ?_)) (fun n => absurd ⟨x1, x2⟩ n))) (fun n => absurd ⟨b1, b2⟩ n))) (fun n => absurd ⟨c, q1, q2, q3, q4⟩ n)
      rw [tf_view t3]
      refine s_R_look hS hI t3 q1 hc hbv hb hwk (by omega) (viewR_in hI.okR) (fun J' t4 s4 f4 => ?_)
      have hJ' : Rel S J' := hJ.keepA (fun a ha => f4 a (by omega) (by omega))
      obtain ⟨k0, k1, k2⟩ := k J' hJ'
      have hFr2 : ∀ k, InR ((fun k => seenR I c b wk (viewR I) k) k) := fun k => seen_in hI hc hb (by omega) _ k
      rw [w32_r a4, show w32 1 = 1 from rfl]
      exact ⟨fun z => s_R_lineOf hS hI t4 s4 hFr2 ⟨by decide, by decide⟩ (k0 z), fun z => ⟨fun z2 => s_R_numberOf hS hI t4 s4 hFr2 ⟨by decide, by decide⟩ (k1 z2), fun z2 => s_R_numberOf hS hI t4 s4 hFr2 ⟨by decide, by decide⟩ (k2 (by omega))⟩⟩
    rw [w32_r a4]
    refine ⟨fun z => s_Ru_first hS hJ2 hF hFr ⟨by decide, by decide⟩ (ref _ (fun J hJ => ⟨fun _ => ?_, fun d => absurd d (by omega), fun d => absurd d (by omega)⟩)), fun z => s_Ru_number hS hJ2 hF hFr ⟨by decide, by decide⟩ (ref _ (fun J hJ => ⟨fun d => absurd d (by omega), fun _ => ?_, fun d => absurd d (by omega)⟩)), fun z => s_Ru_number hS hJ2 hF hFr ⟨by decide, by decide⟩ (ref _ (fun J hJ => ⟨fun d => absurd d z.1, fun d => absurd d z.2, fun _ => ?_⟩))⟩
    · rw [lineR_cong t2.1 eF]; exact h _ _ hJ
    · rw [numR_cong t2.1 eF]; exact h _ _ hJ
    · rw [numR_cong t2.1 eF]; exact h _ _ hJ
  · refine b_R_rule hS (fun J e => ?_)
    obtain ⟨hJ, ht, -⟩ := hI.code e
    exact s_R_isThere hS hI ht a1 a3 (fun _ _ => br1 (s_R_isBook (z := I r_books 0) hS (by rw [ht r_books (by decide) (by decide)]) (by omega) a2 (fun _ _ => br1 (s_Rin hS a4 ⟨by decide, by decide⟩ ⟨by decide, by decide⟩ (fun x1 x2 => absurd ⟨x1, x2⟩ n) (fun _ => br0 (h _ _ hJ)))) (fun n => absurd ⟨b1, b2⟩ n))) (fun n => absurd ⟨c, q⟩ n)
  · refine b_R_rule hS (fun J e => ?_)
    obtain ⟨hJ, ht, -⟩ := hI.code e
    exact s_R_isThere hS hI ht a1 a3 (fun _ _ => br1 (s_R_isBook (z := I r_books 0) hS (by rw [ht r_books (by decide) (by decide)]) (by omega) a2 (fun b1 b2 => absurd ⟨b1, b2⟩ n) (fun _ => br0 (h _ _ hJ)))) (fun n => absurd ⟨c, q⟩ n)
  · refine b_R_rule hS (fun J e => ?_)
    obtain ⟨hJ, ht, -⟩ := hI.code e
    exact s_R_isThere hS hI ht a1 a3 (fun c q => absurd ⟨c, q⟩ n) (fun _ => br0 (h _ _ hJ))
end PRu
