/-! ===== HOUSE ===== -/
def fmM (I I' : XI) : Prop := ∀ a, a ≠ 77 → (a < 129 ∨ (133 < a ∧ a ≠ 144)) → I' a = I a
theorem fmM.tf {I I' : XI} (h : fmM I I') : tf I I' := fun a h1 h2 => h a (by omega) (by omega)
theorem fmM.fmP {I J K : XI} (h : fmM I J) (h2 : fmP J K) : fmM I K := fun a h1 h3 => (h2 a h1 (by omega)).trans (h a h1 h3)
theorem fmM.up {I J : XI} {j : Nat} {z : Int} (h : fmM I J) : fmM I (up J r_meets j z) := fun a h1 h3 => (up_row (show a ≠ 144 by omega)).trans (h a h1 h3)
theorem Rel.fmM {S : XS} {I J : XI} (h : Rel S I) (hf : fmM I J) : Rel S J := h.keepA (fun a ha => hf a (by omega) (by omega))
theorem XR_tf {I J : XI} {X : Nat → Nat → Int} {ng nn : Nat} (h : XR I X ng nn) (e : tf I J) : XR J X ng nn := by
  obtain ⟨x1, x2, x3, x4⟩ := h
  refine ⟨?_, ?_, ?_, x4⟩
  · rw [e r_ways (by decide) (by decide)]; exact x1
  · rw [e r_grassCell (by decide) (by decide), e r_grassWeek (by decide) (by decide), e r_grassIs (by decide) (by decide), e r_grassTold (by decide) (by decide)]; exact x2
  · rw [e r_newsCamp (by decide) (by decide), e r_newsCell (by decide) (by decide), e r_newsWeek (by decide) (by decide), e r_newsSeen (by decide) (by decide), e r_newsTold (by decide) (by decide)]; exact x3
theorem PIn.re {I J : XI} {X : Nat → Nat → Int} {nc ng nn c : Nat} {lm : Int} {fc f d : Nat} (h : PIn I J X nc ng nn c lm fc f d) : PIn J J X nc ng nn c lm fc f d := ⟨h.1, fmP.refl J, h.2.2⟩
theorem PIn.meets {I J : XI} {X : Nat → Nat → Int} {nc ng nn c : Nat} {lm : Int} {fc f d i : Nat} {z : Int} (h : PIn I J X nc ng nn c lm fc f d) : PIn (up J r_meets i z) (up J r_meets i z) X nc ng nn c lm fc f d :=
  ⟨fun j hj => by rw [up_1 _ (by decide)]; exact h.1 j hj, fmP.refl _, qSt_same h.2.2 (by rw [up_1 _ (by decide)]) (up_row (by decide)) (fun _ _ => rfl) (fun _ _ q => q)⟩
theorem amx_ext {r : Nat → Int} {n : Nat} : ∀ m, n ≤ m → (∀ j, n < j → j ≤ m → r j ≤ r (amx r n)) → amx r m = amx r n := by
  intro m
  induction m with
  | zero => intro h _; rw [show n = 0 by omega]
  | succ m ih =>
    intro h hj
    by_cases e : n = m + 1
    · rw [e]
    · have ih := ih (by omega) (fun j h1 h2 => hj j h1 (by omega))
      have := hj (m + 1) (by omega) (Nat.le_refl _)
      rw [amx, ih, if_neg (by omega)]
section SB
variable {S : XS} {I : XI}
theorem ptA_b (h : Rel S I) {c : Nat} (hc : c < nM I) (lm : Int) (d j : Nat) (hj : j < 10) : (0 ≤ ptA (Xof I) (nC I) (nG I) (nN I) c lm (FCo I c) (FWo I c) d j ∧ ptA (Xof I) (nC I) (nG I) (nN I) c lm (FCo I c) (FWo I c) d j ≤ 1000000) ∧ (nC I ≤ j → ptA (Xof I) (nC I) (nG I) (nN I) c lm (FCo I c) (FWo I c) d j = 0) := by
  obtain ⟨f1, f2, f3⟩ := h.FW hc
  have po := (pt_ok (cp := c) (lm := lm) (f := FWo I c) h.1.PtOk f3 d).2
  exact ⟨⟨po.1.1 j hj, po.1.le hj⟩, fun hn => po.2 j hn hj⟩
theorem smK_b (h : Rel S I) {c : Nat} (hc : c < nM I) (lm : Int) (a b j : Nat) (hb : b ≤ 99) (hj : j < 10) : (0 ≤ smK (Xof I) (nC I) (nG I) (nN I) c lm (FCo I c) (FWo I c) a b j ∧ smK (Xof I) (nC I) (nG I) (nN I) c lm (FCo I c) (FWo I c) a b j ≤ 100000100) ∧ (nC I ≤ j → smK (Xof I) (nC I) (nG I) (nN I) c lm (FCo I c) (FWo I c) a b j = 0) := by
  refine ⟨⟨sumA_nn (fun w _ => ?_), ?_⟩, fun hn => sumA_0 (fun w _ => ?_)⟩
  · show 0 ≤ (if a ≤ w ∧ FWo I c ≤ w then ptA (Xof I) (nC I) (nG I) (nN I) c lm (FCo I c) (FWo I c) (w - FWo I c) j else 0)
    have := (ptA_b h hc lm (w - FWo I c) j hj).1
    split <;> omega
  · have := sumA_lt (f := smF (Xof I) (nC I) (nG I) (nN I) c lm (FCo I c) (FWo I c) a j) (a := 1000001) (n := b + 1) (fun w _ => by
      show (if a ≤ w ∧ FWo I c ≤ w then ptA (Xof I) (nC I) (nG I) (nN I) c lm (FCo I c) (FWo I c) (w - FWo I c) j else 0) < 1000001
      have := (ptA_b h hc lm (w - FWo I c) j hj).1
      split <;> omega)
    unfold smK
    omega
  · show (if a ≤ w ∧ FWo I c ≤ w then ptA (Xof I) (nC I) (nG I) (nN I) c lm (FCo I c) (FWo I c) (w - FWo I c) j else 0) = 0
    have := (ptA_b h hc lm (w - FWo I c) j hj).2 hn
    split
    · exact this
    · rfl
theorem smT_b (h : Rel S I) (lm : Int) (a b : Nat) (hb : b ≤ 99) : ∀ m, m ≤ nM I → ∀ j, j < 10 → (0 ≤ smT (Xof I) (nC I) (nG I) (nN I) (FCo I) (FWo I) lm a b m j ∧ smT (Xof I) (nC I) (nG I) (nN I) (FCo I) (FWo I) lm a b m j ≤ m * 100000100) ∧ (nC I ≤ j → smT (Xof I) (nC I) (nG I) (nN I) (FCo I) (FWo I) lm a b m j = 0)
  | 0, _, j, _ => ⟨⟨Int.le_refl _, Int.le_refl _⟩, fun _ => rfl⟩
  | m + 1, hm, j, hj => by
    have ih := smT_b h lm a b hb m (by omega) j hj
    have hk := smK_b h (c := m) (by omega) lm a b j hb hj
    have e : smT (Xof I) (nC I) (nG I) (nN I) (FCo I) (FWo I) lm a b (m + 1) j = smT (Xof I) (nC I) (nG I) (nN I) (FCo I) (FWo I) lm a b m j + smK (Xof I) (nC I) (nG I) (nN I) m lm (FCo I m) (FWo I m) a b j := rfl
    rw [e]
    refine ⟨by omega, fun hn => ?_⟩
    have := ih.2 hn
    have := hk.2 hn
    omega
end SB
section PHo
variable {G : XG} {S : XS} {I : XI}
theorem s_R_house_m {a b : Nat} {v3 : Int} {R : Int → XI → Prop} (hS : xSh S) (hI : Rel S I) (ha9 : a ≤ 99) (hb : b ≤ 99)
    (h : ∀ J, fmM I J → (∀ j, j < 10 → J r_meets j = smT (Xof I) (nC I) (nG I) (nN I) (FCo I) (FWo I) (viewR I) a b (nM I) j) → R_house_k188 G S J v3 0 1 R) : ∀ J, fmM I J → R_house_k47 G S J (a : Int) (b : Int) v3 0 R := by
  have cm := nM_c hI.good
  have cc := nC_c hI.good
  have cg := nG_c hI.good
  have cn := nN_c hI.good
  have hnow := hI.good.1.1
  have hvw := viewR_in hI.okR
  have k71 : ∀ c, c ≤ nM I → ∀ J1 : XI, fmM I J1 → (∀ j, j < 10 → J1 r_meets j = smT (Xof I) (nC I) (nG I) (nN I) (FCo I) (FWo I) (viewR I) a b c j) → R_house_k71 G S J1 (a : Int) (b : Int) v3 (c : Int) R := by
    refine down (n := nM I) (P := fun c => ∀ J1 : XI, fmM I J1 → (∀ j, j < 10 → J1 r_meets j = smT (Xof I) (nC I) (nG I) (nN I) (FCo I) (FWo I) (viewR I) a b c j) → R_house_k71 G S J1 (a : Int) (b : Int) v3 (c : Int) R) ?_ ?_
    · intro J1 f1 s1
      refine b_R_house_k71 hS ⟨fun _ => h J1 f1 s1, fun e => absurd ?_ e⟩
      rw [f1.tf r_camps (by decide) (by decide), cm.1]; exact Int.le_refl _
    · intro c hc ih J1 f1 s1
      have hJ1 := hI.fmM f1
      obtain ⟨w1, w2, w3⟩ := hI.FW hc
      have fwn := (hI.good.2.2.2.1.2.1 c (by omega)).2.2
      have hbase : ∀ J2 : XI, tf I J2 → J2 r_cells 0 = ((nC I : Nat) : Int) ∧ J2 r_grasses 0 = ((nG I : Nat) : Int) ∧ J2 r_newsMany 0 = ((nN I : Nat) : Int) ∧ XR J2 (Xof I) (nG I) (nN I) ∧ J2 r_campWeek c = ((FWo I c : Nat) : Int) ∧ J2 r_campCell c = ((FCo I c : Nat) : Int) := fun J2 e => by
        rw [e r_cells (by decide) (by decide), e r_grasses (by decide) (by decide), e r_newsMany (by decide) (by decide), e r_campWeek (by decide) (by decide), e r_campCell (by decide) (by decide)]
        exact ⟨cc.1, cg.1, cn.1, XR_tf hI.1.XR e, w1, w2⟩
      obtain ⟨b1, b2, b3, b4, b5, b6⟩ := hbase J1 f1.tf
      refine b_R_house_k71 hS ⟨fun e => absurd e (by rw [f1.tf r_camps (by decide) (by decide), cm.1, w32_nat (by omega), w32_nat (by omega)]; omega), fun _ => s_R_viewWeek hS hJ1.okR ?_⟩
      rw [tf_view f1.tf]
      refine s_R_begin hS rfl (by omega) hvw b1 b3 hI.1.PtOk b4 b5 (by omega) b6 w3 (fun J2 P2 => ⟨inb_b (by omega) (by omega) (by decide), ?_⟩)
      have f2 : fmM I J2 := f1.fmP P2.2.1
      have s2 : ∀ j, j < 10 → J2 r_meets j = smT (Xof I) (nC I) (nG I) (nN I) (FCo I) (FWo I) (viewR I) a b c j := fun j hj => by rw [P2.2.1 _ (by decide) (by decide)]; exact s1 j hj
      rw [ix_nat (k := c) (by omega), (hbase J2 f2.tf).2.2.2.2.1]
      have nxt : ∀ J3 : XI, fmM I J3 → (∀ j, j < 10 → J3 r_meets j = smT (Xof I) (nC I) (nG I) (nN I) (FCo I) (FWo I) (viewR I) a b c j + sumA (smF (Xof I) (nC I) (nG I) (nN I) c (viewR I) (FCo I c) (FWo I c) a j) (b + 1)) → R_house_k71 G S J3 (a : Int) (b : Int) v3 ((c : Int) + 1) R := fun J3 f3 s3 => ih J3 f3 s3
      by_cases hfb : FWo I c ≤ b + 1
      · refine down (n := b + 1) (P := fun w => FWo I c ≤ w → ∀ J3 : XI, fmM I J3 → (∀ j, j < 10 → J3 r_meets j = smT (Xof I) (nC I) (nG I) (nN I) (FCo I) (FWo I) (viewR I) a b c j + sumA (smF (Xof I) (nC I) (nG I) (nN I) c (viewR I) (FCo I c) (FWo I c) a j) w) → PIn J3 J3 (Xof I) (nC I) (nG I) (nN I) c (viewR I) (FCo I c) (FWo I c) (w - 1 - FWo I c) → R_house_k101 G S J3 (a : Int) (b : Int) v3 (c : Int) (w : Int) R) ?_ ?_ (FWo I c) hfb (Nat.le_refl _) J2 f2 (fun j hj => by rw [s2 j hj, smF_lo (Or.inr (Nat.le_refl _)), Int.add_zero]) (by rw [show FWo I c - 1 - FWo I c = 0 by omega]; exact P2.re)
        · intro _ J3 f3 s3 _
          refine b_R_house_k101 hS ⟨fun _ => nxt J3 f3 s3, fun e => absurd ?_ e⟩
          rw [w32_nat (by omega), w32_nat (by omega)]; omega
        · intro w hw ihw hfw J3 f3 s3 P3
          obtain ⟨d1, d2, d3, d4, d5, d6⟩ := hbase J3 f3.tf
          have add : ∀ J4 : XI, fmM I J4 → (∀ j, j < 10 → J4 r_meets j = smT (Xof I) (nC I) (nG I) (nN I) (FCo I) (FWo I) (viewR I) a b c j + sumA (smF (Xof I) (nC I) (nG I) (nN I) c (viewR I) (FCo I c) (FWo I c) a j) w) → PIn J4 J4 (Xof I) (nC I) (nG I) (nN I) c (viewR I) (FCo I c) (FWo I c) (w - FWo I c) → R_house_k134 G S J4 (a : Int) (b : Int) v3 (c : Int) (w : Int) 0 R := by
            intro J4 f4 s4 P4
            have es : ∀ j, sumA (smF (Xof I) (nC I) (nG I) (nN I) c (viewR I) (FCo I c) (FWo I c) a j) (w + 1) = sumA (smF (Xof I) (nC I) (nG I) (nN I) c (viewR I) (FCo I c) (FWo I c) a j) w + (if a ≤ w ∧ FWo I c ≤ w then ptA (Xof I) (nC I) (nG I) (nN I) c (viewR I) (FCo I c) (FWo I c) (w - FWo I c) j else 0) := fun _ => rfl
            have goO : ∀ J5 : XI, fmM I J5 → (∀ j, j < 10 → J5 r_meets j = smT (Xof I) (nC I) (nG I) (nN I) (FCo I) (FWo I) (viewR I) a b c j + sumA (smF (Xof I) (nC I) (nG I) (nN I) c (viewR I) (FCo I c) (FWo I c) a j) (w + 1)) → PIn J5 J5 (Xof I) (nC I) (nG I) (nN I) c (viewR I) (FCo I c) (FWo I c) (w - FWo I c) → R_house_k101 G S J5 (a : Int) (b : Int) v3 (c : Int) ((w : Int) + 1) R := fun J5 f5 s5 P5 => ihw (by omega) J5 f5 s5 (by rw [show w + 1 - 1 - FWo I c = w - FWo I c by omega]; exact P5)
            by_cases haw : w < a
            · refine b_R_house_k134 hS ⟨fun e => absurd e (by decide), fun _ => ⟨fun _ => goO J4 f4 (fun j hj => ?_) P4, fun e => absurd ?_ e⟩⟩
              · rw [s4 j hj, es, if_neg (by omega)]; omega
              · rw [w32_nat (by omega), w32_b (by omega) (by omega)]; omega
            · refine down (n := 10) (P := fun i => ∀ J5 : XI, fmM I J5 → (∀ j, j < 10 → J5 r_meets j = smT (Xof I) (nC I) (nG I) (nN I) (FCo I) (FWo I) (viewR I) a b c j + sumA (smF (Xof I) (nC I) (nG I) (nN I) c (viewR I) (FCo I c) (FWo I c) a j) (if j < i then w + 1 else w)) → PIn J5 J5 (Xof I) (nC I) (nG I) (nN I) c (viewR I) (FCo I c) (FWo I c) (w - FWo I c) → R_house_k134 G S J5 (a : Int) (b : Int) v3 (c : Int) (w : Int) (i : Int) R) ?_ ?_ 0 (Nat.zero_le _) J4 f4 (fun j hj => by rw [if_neg (by omega)]; exact s4 j hj) P4
              · intro J5 f5 s5 P5
                exact b_R_house_k134 hS ⟨fun _ => goO J5 f5 (fun j hj => by rw [s5 j hj, if_pos hj]) P5, fun e => absurd (by decide) e⟩
              · intro i hi ihi J5 f5 s5 P5
                refine b_R_house_k134 hS ⟨fun e => absurd e (by rw [show w32 10 = 10 from rfl, w32_nat (by omega)]; omega), fun _ => ⟨fun e => absurd e (by rw [w32_nat (by omega), w32_nat (by omega)]; omega), fun _ => ⟨inb_b (by omega) (by omega) (by decide), inb_b (by omega) (by omega) (by decide), inb_b (by omega) (by omega) (by decide), fun J6 e6 => ?_⟩⟩⟩
                rw [ix_nat (k := i) (by omega), s5 i hi, if_neg (show ¬ i < i by omega), P5.1 i hi] at e6
                subst e6
                refine ihi _ f5.up (fun j hj => ?_) P5.meets
                by_cases ej : j = i
                · subst ej
                  rw [up_s, if_pos (by omega), es, if_pos ⟨by omega, hfw⟩]; omega
                · rw [up_2 _ ej, s5 j hj]
                  by_cases cj : j < i
                  · rw [if_pos cj, if_pos (show j < i + 1 by omega)]
                  · rw [if_neg cj, if_neg (show ¬ j < i + 1 by omega)]
          refine b_R_house_k101 hS ⟨fun e => absurd e (by rw [w32_nat (by omega), w32_nat (by omega)]; omega), fun _ => ⟨inb_b (by omega) (by omega) (by decide), ?_⟩⟩
          rw [ix_nat (k := c) (by omega), d5, w32_nat (k := w) (by omega), w32_nat (k := FWo I c) (by omega)]
          refine ⟨fun e => add J3 f3 s3 ?_, fun e => s_R_viewWeek hS (hI.fmM f3).okR ?_⟩
          · rw [show w - 1 - FWo I c = w - FWo I c by omega] at P3; exact P3
          · rw [tf_view f3.tf]
            refine s_R_goOn (d := w - 1 - FWo I c) hS rfl (by omega) (by omega) (by omega) hvw d1 d2 d3 hI.1.PtOk d4 w3 P3 (fun J4 P4 => add J4 (f3.fmP P4.2.1) (fun j hj => ?_) ?_)
            · rw [P4.2.1 _ (by decide) (by decide)]; exact s3 j hj
            · rw [show w - FWo I c = w - 1 - FWo I c + 1 by omega]; exact P4.re
      · refine b_R_house_k101 hS ⟨fun _ => nxt J2 f2 (fun j hj => by rw [s2 j hj, smF_lo (Or.inr (by omega)), Int.add_zero]), fun e => absurd ?_ e⟩
        rw [w32_nat (by omega), w32_nat (by omega)]; omega
  intro J fJ
  refine down (n := 10) (P := fun k => ∀ J1 : XI, fmM I J1 → (∀ j, j < k → J1 r_meets j = 0) → R_house_k47 G S J1 (a : Int) (b : Int) v3 (k : Int) R) ?_ ?_ 0 (Nat.zero_le _) J fJ (fun j hj => absurd hj (by omega))
  · intro J1 f1 s1
    exact b_R_house_k47 hS ⟨fun _ => k71 0 (Nat.zero_le _) J1 f1 s1, fun e => absurd (by decide) e⟩
  · intro k hk ih J1 f1 s1
    refine b_R_house_k47 hS ?_
    rw [show w32 10 = 10 from rfl, w32_nat (k := k) (by omega), ix_nat (k := k) (by omega)]
    refine ⟨fun e => absurd e (by omega), fun _ => ⟨inb_b (by omega) (by omega) (by decide), fun J2 e2 => ?_⟩⟩
    subst e2
    refine ih _ f1.up (fun j hj => ?_)
    by_cases ej : j = k
    · rw [ej, up_s]
    · rw [up_2 _ ej]; exact s1 j (by omega)
theorem s_R_house_x {M : Nat → Int} {v3 : Int} {R : Int → XI → Prop} (hS : xSh S) (hM : ∀ j, j < 10 → I r_meets j = M j ∧ InR (M j)) (h3 : v3 = 0 ∨ v3 = 1) (h : R (if v3 = 0 then (amx M 9 : Int) else M (amx M 9)) I) : R_house_k188 G S I v3 0 1 R := by
  refine down (n := 9) (P := fun k => R_house_k188 G S I v3 (amx M k : Int) ((k : Int) + 1) R) ?_ ?_ 0 (Nat.zero_le _)
  · have ha := amx_le M 9
    refine b_R_house_k188 hS ⟨fun _ => ?_, fun e => absurd (by decide) e⟩
    rw [ix_nat (by omega), (hM _ (by omega)).1]
    rcases h3 with rfl | rfl
    · exact br0 h
    · exact br1 ⟨inb_b (by omega) (by omega) (by decide), h⟩
  · intro k hk ih
    have ha := amx_le M k
    have ek : ((k : Int) + 1) = ((k + 1 : Nat) : Int) := rfl
    refine b_R_house_k188 hS ?_
    rw [ek, show w32 10 = 10 from rfl, w32_nat (k := k + 1) (by omega), ix_nat (k := k + 1) (by omega), ix_nat (k := amx M k) (by omega), (hM (k + 1) (by omega)).1, (hM (amx M k) (by omega)).1, w32_r (hM (k + 1) (by omega)).2, w32_r (hM (amx M k) (by omega)).2]
    unfold amx at ih
    refine ⟨fun e => absurd e (by omega), fun _ => ⟨inb_b (by omega) (by omega) (by decide), inb_b (by omega) (by omega) (by decide), fun e => ?_, fun e => ?_⟩⟩
    · rw [if_neg (by omega)] at ih; exact ih
    · rw [if_pos (by omega)] at ih; exact ih
theorem s_H_house_x {M : Nat → Int} {nc : Nat} {v3 : Int} {R : Int → XI → Prop} (hS : xSh S) (hn : I c_land 0 = (nc : Int)) (hn1 : 1 ≤ nc) (hn2 : nc ≤ 10) (hM : ∀ j, j < nc → I c_sums j = M j ∧ InR (M j)) (h3 : InR v3) (h0 : v3 = 0 → R (amx M (nc - 1) : Int) I) (h1 : v3 = 1 → R (M (amx M (nc - 1))) I) (hx : v3 ≠ 0 → v3 ≠ 1 → R (-1) I) : H_house_k46 G S I v3 0 1 R := by
  refine down (n := nc - 1) (P := fun k => H_house_k46 G S I v3 (amx M k : Int) ((k : Int) + 1) R) ?_ ?_ 0 (Nat.zero_le _)
  · have ha := amx_le M (nc - 1)
    refine b_H_house_k46 hS ⟨fun _ => ?_, fun e => absurd ?_ e⟩
    · rw [ix_nat (by omega), (hM _ (by omega)).1, w32_r h3]
      exact ⟨h0, fun e => ⟨inb_b (by omega) (by omega) (by decide), h1 e⟩, fun e => hx e.1 e.2⟩
    · rw [hn, w32_nat (by omega), w32_b (by omega) (by omega)]; omega
  · intro k hk ih
    have ha := amx_le M k
    have ek : ((k : Int) + 1) = ((k + 1 : Nat) : Int) := rfl
    refine b_H_house_k46 hS ?_
    rw [ek, hn, w32_nat (k := nc) (by omega), w32_nat (k := k + 1) (by omega), ix_nat (k := k + 1) (by omega), ix_nat (k := amx M k) (by omega), (hM (k + 1) (by omega)).1, (hM (amx M k) (by omega)).1, w32_r (hM (k + 1) (by omega)).2, w32_r (hM (amx M k) (by omega)).2]
    unfold amx at ih
    refine ⟨fun e => absurd e (by omega), fun _ => ⟨inb_b (by omega) (by omega) (by decide), inb_b (by omega) (by omega) (by decide), fun e => ?_, fun e => ?_⟩⟩
    · rw [if_neg (by omega)] at ih; exact ih
    · rw [if_pos (by omega)] at ih; exact ih
theorem Rel.fmS (h : Rel S I) {I' : XI} (hc : Cach I' (nC I) (nG I) (nN I) (nM I)) (hf : fmS I I') : Rel S I' := h.keepW (fun a ha => hf a (by omega)) hc
theorem t_house {v1 v2 v3 : Int} {R : Int → Int → XI → Prop} (hS : xSh S) (hI : Rel S I) (a1 : InR v1) (a2 : InR v2) (a3 : InR v3) (h : ∀ r J, Rel S J → R r r J) : H_house G S I v1 v2 v3 (fun r I1 => R_house G S I1 v1 v2 v3 (fun r' J => R r r' J)) := by
  have cc := nC_c hI.good
  have cm := nM_c hI.good
  have ref : ∀ (I' : XI) (T : Int → XI → Prop), Rel S I' → tf I I' → (¬ (0 ≤ v1 ∧ v1 ≤ 99) ∨ ¬ (0 ≤ v2 ∧ v2 ≤ 99) ∨ v2 < v1 ∨ I r_cells 0 = 0 ∨ ¬ (0 ≤ v3 ∧ v3 ≤ 1) → ∀ J, Rel S J → T (-1) J) → (∀ a b : Nat, v1 = (a : Int) → v2 = (b : Int) → b ≤ 99 → a ≤ b → 1 ≤ nC I → (v3 = 0 ∨ v3 = 1) → ∀ J, Rel S J → (∀ j, j < 10 → J r_meets j = smT (Xof I') (nC I') (nG I') (nN I') (FCo I') (FWo I') (viewR I') a b (nM I') j) → R_house_k188 G S J v3 0 1 T) → R_house G S I' v1 v2 v3 T := fun I' T hI' ht' kn ky => by
    refine b_R_house hS (fun J e => ?_)
    obtain ⟨hJ, htJ, -⟩ := hI'.code e
    have ht := ht'.trans htJ
    refine s_R_isWeek hS a1 (fun w1 w2 => br1 (s_R_isWeek hS a2 (fun w3 w4 => br1 ?_) (fun n => br0 (kn (Or.inr (Or.inl n)) J hJ)))) (fun n => br0 (kn (Or.inl n) J hJ))
    rw [w32_r a1, w32_r a2, ht r_cells (by decide) (by decide), w32_b (z := I r_cells 0) (by omega) (by omega)]
    refine ⟨fun c => kn (Or.inr (Or.inr (Or.inl c))) J hJ, fun c => ⟨fun d => kn (Or.inr (Or.inr (Or.inr (Or.inl d)))) J hJ, fun d => s_Rin hS a3 ⟨by decide, by decide⟩ ⟨by decide, by decide⟩ (fun x1 x2 => br1 ?_) (fun n => br0 (kn (Or.inr (Or.inr (Or.inr (Or.inr n)))) J hJ))⟩⟩
    obtain ⟨a, ha⟩ : ∃ a : Nat, v1 = (a : Int) := ⟨v1.toNat, by omega⟩
    obtain ⟨b, hb⟩ : ∃ b : Nat, v2 = (b : Int) := ⟨v2.toNat, by omega⟩
    have f0 : fmM I' J := fun x hx _ => by rw [e]; exact up_row hx
    have := s_R_house_m (G := G) (a := a) (b := b) (v3 := v3) (R := T) hS hI' (by omega) (by omega) (fun J2 f2 s2 => ky a b ha hb (by omega) (by omega) (by omega) (by omega) J2 (hI'.fmM f2) s2) J f0
    rw [← ha, ← hb] at this; exact this
  have bad : ∀ I' : XI, Rel S I' → tf I I' → (¬ (0 ≤ v1 ∧ v1 ≤ 99) ∨ ¬ (0 ≤ v2 ∧ v2 ≤ 99) ∨ v2 < v1 ∨ I r_cells 0 = 0 ∨ ¬ (0 ≤ v3 ∧ v3 ≤ 1)) → R_house G S I' v1 v2 v3 (fun r' J => R (-1) r' J) := fun I' hI' ht hb => ref I' _ hI' ht (fun _ J hJ => h _ _ hJ) (fun a b ha hb' h1 h2 h3 h4 => by omega)
  refine b_H_house hS (s_H_isWeek hS a1 (fun w1 w2 => br1 (s_H_isWeek hS a2 (fun w3 w4 => br1 ?_) (fun n => br0 (bad I hI (tf.refl I) (Or.inr (Or.inl n)))))) (fun n => br0 (bad I hI (tf.refl I) (Or.inl n))))
  rw [w32_r a1, w32_r a2, pl_cells hI.pl, w32_b (z := I r_cells 0) (by omega) (by omega)]
  refine ⟨fun c => bad I hI (tf.refl I) (Or.inr (Or.inr (Or.inl c))), fun c => ⟨fun d => bad I hI (tf.refl I) (Or.inr (Or.inr (Or.inr (Or.inl d)))), fun d => ?_⟩⟩
  obtain ⟨a, ha⟩ : ∃ a : Nat, v1 = (a : Int) := ⟨v1.toNat, by omega⟩
  obtain ⟨b, hb⟩ : ∃ b : Nat, v2 = (b : Int) := ⟨v2.toNat, by omega⟩
  refine s_H_sumParts hS hI ha hb (by omega) (by omega) (fun I' c1 f1 s1 => ?_)
  have hI' := hI.fmS c1 f1
  have ht : tf I I' := fun x h1 h2 => f1 x (by omega)
  have sb := smT_b hI (viewR I) a b (by omega) (nM I) (Nat.le_refl _)
  have vX : Xof I' = Xof I := Xof_eq (fun x hx => f1 x (by omega))
  have vC : FCo I' = FCo I := by funext c; show (I' c_herds_firstCells c).toNat = _; rw [f1 c_herds_firstCells (by decide)]
  have vW : FWo I' = FWo I := by funext c; show (I' c_herds_firstWeeks c).toNat = _; rw [f1 c_herds_firstWeeks (by decide)]
  have vn : nC I' = nC I ∧ nG I' = nG I ∧ nN I' = nN I ∧ nM I' = nM I := by
    refine ⟨?_, ?_, ?_, ?_⟩
    · show (I' r_cells 0).toNat = _; rw [ht r_cells (by decide) (by decide)]
    · show (I' r_grasses 0).toNat = _; rw [ht r_grasses (by decide) (by decide)]
    · show (I' r_newsMany 0).toNat = _; rw [ht r_newsMany (by decide) (by decide)]
    · show (I' r_camps 0).toNat = _; rw [ht r_camps (by decide) (by decide)]
  have hM : ∀ j, j < 10 → InR (smT (Xof I) (nC I) (nG I) (nN I) (FCo I) (FWo I) (viewR I) a b (nM I) j) := fun j hj => by have := (sb j hj).1; exact ⟨by omega, by omega⟩
  have hax : amx (fun j => smT (Xof I) (nC I) (nG I) (nN I) (FCo I) (FWo I) (viewR I) a b (nM I) j) 9 = amx (fun j => smT (Xof I) (nC I) (nG I) (nN I) (FCo I) (FWo I) (viewR I) a b (nM I) j) (nC I - 1) := by
    refine amx_ext 9 (by omega) (fun j h1 h2 => ?_)
    have hal := amx_le (fun j => smT (Xof I) (nC I) (nG I) (nN I) (FCo I) (FWo I) (viewR I) a b (nM I) j) (nC I - 1)
    have e0 := (sb j (by omega)).2 (by omega)
    have e1 := (sb (amx (fun j => smT (Xof I) (nC I) (nG I) (nN I) (FCo I) (FWo I) (viewR I) a b (nM I) j) (nC I - 1)) (by omega)).1.1
    show smT (Xof I) (nC I) (nG I) (nN I) (FCo I) (FWo I) (viewR I) a b (nM I) j ≤ smT (Xof I) (nC I) (nG I) (nN I) (FCo I) (FWo I) (viewR I) a b (nM I) _
    rw [e0]; exact e1
  have rf : ∀ T : Int → XI → Prop, (v3 = 0 ∨ v3 = 1) → (∀ J, Rel S J → T (if v3 = 0 then (amx (fun j => smT (Xof I) (nC I) (nG I) (nN I) (FCo I) (FWo I) (viewR I) a b (nM I) j) 9 : Int) else (fun j => smT (Xof I) (nC I) (nG I) (nN I) (FCo I) (FWo I) (viewR I) a b (nM I) j) (amx (fun j => smT (Xof I) (nC I) (nG I) (nN I) (FCo I) (FWo I) (viewR I) a b (nM I) j) 9)) J) → R_house G S I' v1 v2 v3 T := fun T h3 k => by
    refine ref I' T hI' ht (fun hbad => by omega) (fun a' b' ha' hb' _ _ _ _ J hJ s2 => ?_)
    have ea : a' = a := by omega
    have eb : b' = b := by omega
    subst ea; subst eb
    rw [vX, vC, vW, vn.1, vn.2.1, vn.2.2.1, vn.2.2.2, tf_view ht] at s2
    exact s_R_house_x hS (fun j hj => ⟨s2 j hj, hM j hj⟩) h3 (k J hJ)
  refine s_H_house_x (M := fun j => smT (Xof I) (nC I) (nG I) (nN I) (FCo I) (FWo I) (viewR I) a b (nM I) j) (nc := nC I) hS (by rw [f1 _ (by decide), pl_cells hI.pl]; exact cc.1) (by omega) cc.2 (fun j hj => ⟨by rw [s1 j (by omega), if_pos hj], hM j (by omega)⟩) a3 (fun e => rf _ (Or.inl e) (fun J hJ => ?_)) (fun e => rf _ (Or.inr e) (fun J hJ => ?_)) (fun e1 e2 => bad I' hI' ht (Or.inr (Or.inr (Or.inr (Or.inr (by omega))))))
  · rw [if_pos e, hax]; exact h _ _ hJ
  · rw [if_neg (by omega), hax]; exact h _ _ hJ
end PHo
