/-! ===== calls that only ask: quarrel, count, had ===== -/
/-- how many of those told up to lm -/
def cleA (T : Nat → Int) (lm : Int) : Nat → Int
  | 0 => 0
  | n + 1 => if T n ≤ lm then cleA T lm n + 1 else cleA T lm n
theorem cleA_cong {T U : Nat → Int} {a b : Int} : ∀ {n : Nat}, (∀ j, j < n → (T j ≤ a ↔ U j ≤ b)) → cleA T a n = cleA U b n
  | 0, _ => rfl
  | n + 1, h => by
    have ih := cleA_cong (n := n) (fun j hj => h j (by omega))
    have hn := h n (by omega)
    rw [cleA, cleA, ih]
    by_cases c : T n ≤ a
    · rw [if_pos c, if_pos (hn.mp c)]
    · rw [if_neg c, if_neg (fun q => c (hn.mpr q))]
def cneA (f : Nat → Int) (c : Int) : Nat → Int
  | 0 => 0
  | n + 1 => if f n = c then cneA f c n else cneA f c n + 1
theorem cne_cnt (f : Nat → Int) (c : Int) : ∀ n : Nat, (n : Int) - cntA f c n = cneA f c n
  | 0 => rfl
  | n + 1 => by
    have ih := cne_cnt f c n
    rw [cntA, cneA]
    split <;> omega
theorem cneA_cong {f g : Nat → Int} {c : Int} : ∀ {n : Nat}, (∀ j, j < n → f j = g j) → cneA f c n = cneA g c n
  | 0, _ => rfl
  | n + 1, h => by rw [cneA, cneA, cneA_cong (n := n) (fun j hj => h j (by omega)), h n (by omega)]
section PQ2
variable {G : XG} {S : XS} {I : XI}
theorem t_quarrel {v1 v2 : Int} {R : Int → Int → XI → Prop} (hS : xSh S) (hI : Rel S I) (a1 : InR v1) (a2 : InR v2) (h : ∀ r J, Rel S J → R r r J) : H_quarrel G S I v1 v2 (fun r I1 => R_quarrel G S I1 v1 v2 (fun r' J => R r r' J)) := by
  have cm := nM_c hI.good
  have cn := nN_c hI.good
  have hl := limC_in hI.good
  have hn := hI.good.1.1
  refine b_H_quarrel hS (s_He_hasCamp hS hI a1 (fun b1 b2 => br1 (s_H_limit hS hI.1 ?_)) (fun n => br0 ?_))
  · obtain ⟨c, hcv⟩ : ∃ c : Nat, v1 = (c : Int) := ⟨v1.toNat, by omega⟩
    have hc : c < nM I := by omega
    obtain ⟨f1, f2, f3⟩ := hI.FW hc
    have fw := (hI.good.2.2.2.1.2.1 c (by omega)).2.2
    refine s_H_quarrel1 (wk := (I r_now 0).toNat) hS hI.1.CP hI.2.1 hl hcv hc (by rw [pl_now hI.pl]; omega) (by omega) (by omega) a2 (fun I' c1 c2 => ?_)
    have hI' := hI.fmC c1 c2
    refine b_R_quarrel hS (fun J e => ?_)
    obtain ⟨hJ, ht, -⟩ := hI'.code e
    have ht := c2.tf.trans ht
    refine s_R_isCamp (z := I r_camps 0) hS (by rw [ht r_camps (by decide) (by decide)]) (by omega) a1 (fun _ _ => br1 (s_R_viewWeek hS hJ.okR (r_find (c := c) (wk := 99) hS hI ht hcv hc rfl (by omega) (by omega) (viewR_in hJ.okR) (fun J' hP => ?_)))) (fun n => absurd ⟨b1, b2⟩ n)
    obtain ⟨p1, p2, N, d, p3, p4, p5, p6, p7⟩ := hP
    have hN := sumA_le1 (f := d) (n := nN I) (fun j _ => (p4 j).2)
    have hJ' := hJ.fmP p2
    have p7 : (if 0 ≤ v2 ∧ v2 < (N : Int) then J' r_quarrel v2.toNat else -1) = qW (fun w i => qP (Xof I) (nC I) (nG I) (nN I) c (viewR J) (FCo I c) (FWo I c) w i) v2 (nN I) 100 (100 - FWo I c) 0 := by
      have q := p7 v2
      rw [show 99 - (FWo I c + (99 - FWo I c)) = 0 by omega] at q
      exact q
    have key : qW (fun w i => qP (Xof I) (nC I) (nG I) (nN I) c (limC I) (FCo I c) (FWo I c) w i) v2 (nN I) ((I r_now 0).toNat + 1) ((I r_now 0).toNat + 1 - FWo I c) 0 = qW (fun w i => qP (Xof I) (nC I) (nG I) (nN I) c (viewR J) (FCo I c) (FWo I c) w i) v2 (nN I) 100 (100 - FWo I c) 0 := by
      have hx7 : ∀ j, j < nN I → Xof I 7 j ≤ I r_now 0 := fun j hj => by
        have e7 : Xof I 7 j = I r_newsWeek j := pl_newsWeek hI.pl j (by omega)
        rw [e7]; exact (hI.good.2.2.2.2.1.2 j (by omega)).2.2.1.2
      rw [qW_ext (Q := fun w i => qP (Xof I) (nC I) (nG I) (nN I) c (limC I) (FCo I c) (FWo I c) w i) (by omega) (fun w i hw hi q => by have := hx7 i hi; have := q.2.1; omega) _ (by omega), show (I r_now 0).toNat + 1 - FWo I c + (100 - ((I r_now 0).toNat + 1)) = 100 - FWo I c by omega, tf_view ht]
      rcases hI.1.lim2 with e | ⟨x, y⟩
      · rw [e]
      · obtain ⟨l1, l2⟩ := hI.1.lims x y
        refine qW_cong (fun w i hi => ?_) _ _
        have hl2 := l2 i hi
        show (_ ∧ _ ∧ _ ∧ _) ↔ (_ ∧ _ ∧ _ ∧ _)
        rw [quA_lim l1 l2 _ hi]
        exact ⟨fun q => ⟨q.1, q.2.1, hl2.2, q.2.2.2⟩, fun q => ⟨q.1, q.2.1, hl2.1, q.2.2.2⟩⟩
    rw [key, ← p7, p3]
    refine s_Rin hS a2 ⟨by decide, by decide⟩ ⟨by omega, by omega⟩ (fun k1 k2 => br1 ⟨inb_b (by omega) (by omega) (by decide), ?_⟩) (fun n => br0 ?_)
    · rw [ix_b (by omega) (by omega), if_pos (by omega)]; exact h _ _ hJ'
    · rw [if_neg (by omega)]; exact h _ _ hJ'
  · refine b_R_quarrel hS (fun J e => ?_)
    obtain ⟨hJ, ht, -⟩ := hI.code e
    exact s_R_isCamp (z := I r_camps 0) hS (by rw [ht r_camps (by decide) (by decide)]) (by omega) a1 (fun b1 b2 => absurd ⟨b1, b2⟩ n) (fun _ => br0 (h _ _ hJ))
theorem s_H_countUpTo {T : Nat → Int} {v1 lm : Int} {n : Nat} {R : Int → XI → Prop} (hS : xSh S) (hv : v1 = (n : Int)) (hn : n ≤ 60) (hT : ∀ j, j < n → I c_herds_newsTold j = T j ∧ InR (T j)) (hl : InR lm) (h : R (cleA T lm n) I) : H_countUpTo G S I v1 lm R := by
  subst hv
  refine b_H_countUpTo hS ?_
  refine down (n := n) (P := fun k => H_countUpTo_k5 G S I (n : Int) lm (cleA T lm k) (k : Int) R) ?_ ?_ 0 (Nat.zero_le _)
  · exact b_H_countUpTo_k5 hS ⟨fun _ => h, fun e => absurd (Int.le_refl _) e⟩
  · intro k hk ih
    refine b_H_countUpTo_k5 hS ?_
    rw [w32_nat (k := n) (by omega), w32_nat (k := k) (by omega), ix_nat (k := k) (by omega), (hT k hk).1, w32_r (hT k hk).2, w32_r hl]
    unfold cleA at ih
    refine ⟨fun e => absurd e (by omega), fun _ => ⟨inb_b (by omega) (by omega) (by decide), fun e => ?_, fun e => ?_⟩⟩
    · rw [if_neg (by omega)] at ih; exact ih
    · rw [if_pos (by omega)] at ih; exact ih
theorem s_H_countUpTo2 {T : Nat → Int} {v1 lm : Int} {n : Nat} {R : Int → XI → Prop} (hS : xSh S) (hv : v1 = (n : Int)) (hn : n ≤ 150) (hT : ∀ j, j < n → I c_shelf_actTold j = T j ∧ InR (T j)) (hl : InR lm) (h : R (cleA T lm n) I) : H_countUpTo2 G S I v1 lm R := by
  subst hv
  refine b_H_countUpTo2 hS ?_
  refine down (n := n) (P := fun k => H_countUpTo2_k5 G S I (n : Int) lm (cleA T lm k) (k : Int) R) ?_ ?_ 0 (Nat.zero_le _)
  · exact b_H_countUpTo2_k5 hS ⟨fun _ => h, fun e => absurd (Int.le_refl _) e⟩
  · intro k hk ih
    refine b_H_countUpTo2_k5 hS ?_
    rw [w32_nat (k := n) (by omega), w32_nat (k := k) (by omega), ix_nat (k := k) (by omega), (hT k hk).1, w32_r (hT k hk).2, w32_r hl]
    unfold cleA at ih
    refine ⟨fun e => absurd e (by omega), fun _ => ⟨inb_b (by omega) (by omega) (by decide), fun e => ?_, fun e => ?_⟩⟩
    · rw [if_neg (by omega)] at ih; exact ih
    · rw [if_pos (by omega)] at ih; exact ih
theorem s_R_count9 {R : Int → XI → Prop} (hS : xSh S) (hI : Rel S I) (h : R (cneA (fun q => whoR I (nA I) q (I r_now 0) (viewR I)) (-1) (nB I)) I) : R_count_k137 G S I 0 0 R := by
  have cb := nB_c hI.good
  have hn := hI.good.1.1
  refine down (n := nB I) (P := fun k => R_count_k137 G S I (cneA (fun q => whoR I (nA I) q (I r_now 0) (viewR I)) (-1) k) (k : Int) R) ?_ ?_ 0 (Nat.zero_le _)
  · exact b_R_count_k137 hS ⟨fun _ => h, fun e => absurd (Int.le_refl _) (by rw [cb.1] at e; exact e)⟩
  · intro k hk ih
    refine b_R_count_k137 hS ?_
    rw [cb.1, w32_nat (k := nB I) (by omega), w32_nat (k := k) (by omega)]
    refine ⟨fun e => absurd e (by omega), fun _ => s_R_viewWeek hS hI.okR (s_R_who hS hI.okR hI.1.actR ⟨by omega, by omega⟩ ⟨by omega, by omega⟩ (viewR_in hI.okR) ?_)⟩
    rw [w32_r (whoR_in hI.okR), show w32 (-1) = -1 from rfl]
    unfold cneA at ih
    refine ⟨fun e => ?_, fun e => ?_⟩
    · rw [if_pos e] at ih; rw [Int.add_zero]; exact ih
    · rw [if_neg e] at ih; exact ih
theorem s_R_count10 {R : Int → XI → Prop} (hS : xSh S) (hI : Rel S I) (h : R (cleA (I r_newsTold) (viewR I) (nN I)) I) : R_count_k184 G S I 0 0 R := by
  have cb := nN_c hI.good
  refine down (n := nN I) (P := fun k => R_count_k184 G S I (cleA (I r_newsTold) (viewR I) k) (k : Int) R) ?_ ?_ 0 (Nat.zero_le _)
  · exact b_R_count_k184 hS ⟨fun _ => h, fun e => absurd (Int.le_refl _) (by rw [cb.1] at e; exact e)⟩
  · intro k hk ih
    refine b_R_count_k184 hS ?_
    rw [cb.1, w32_nat (k := nN I) (by omega), w32_nat (k := k) (by omega), ix_nat (k := k) (by omega), hI.okR.w _ (by decide) (by decide)]
    refine ⟨fun e => absurd e (by omega), fun _ => ⟨inb_b (by omega) (by omega) (by decide), s_R_viewWeek hS hI.okR ?_⟩⟩
    rw [w32_r (viewR_in hI.okR)]
    unfold cleA at ih
    refine ⟨fun e => ?_, fun e => ?_⟩
    · rw [if_neg (by omega)] at ih; rw [Int.add_zero]; exact ih
    · rw [if_pos (by omega)] at ih; exact ih
theorem s_R_count11 {R : Int → XI → Prop} (hS : xSh S) (hI : Rel S I) (h : R (cleA (I r_actTold) (viewR I) (nA I)) I) : R_count_k225 G S I 0 0 R := by
  have cb := nA_c hI.good
  refine down (n := nA I) (P := fun k => R_count_k225 G S I (cleA (I r_actTold) (viewR I) k) (k : Int) R) ?_ ?_ 0 (Nat.zero_le _)
  · exact b_R_count_k225 hS ⟨fun _ => h, fun e => absurd (Int.le_refl _) (by rw [cb.1] at e; exact e)⟩
  · intro k hk ih
    refine b_R_count_k225 hS ?_
    rw [cb.1, w32_nat (k := nA I) (by omega), w32_nat (k := k) (by omega), ix_nat (k := k) (by omega), hI.okR.w _ (by decide) (by decide)]
    refine ⟨fun e => absurd e (by omega), fun _ => ⟨inb_b (by omega) (by omega) (by decide), s_R_viewWeek hS hI.okR ?_⟩⟩
    rw [w32_r (viewR_in hI.okR)]
    unfold cleA at ih
    refine ⟨fun e => ?_, fun e => ?_⟩
    · rw [if_neg (by omega)] at ih; rw [Int.add_zero]; exact ih
    · rw [if_pos (by omega)] at ih; exact ih
theorem t_count {v1 : Int} {R : Int → Int → XI → Prop} (hS : xSh S) (hI : Rel S I) (a1 : InR v1) (h : ∀ r J, Rel S J → R r r J) : H_count G S I v1 (fun r I1 => R_count G S I1 v1 (fun r' J => R r r' J)) := by
  have p := hI.pl
  have hn := hI.good.1.1
  have cn := nN_c hI.good
  have ca := nA_c hI.good
  have cb := nB_c hI.good
  have hl := limC_in hI.good
  have hlr : InR (limC I) := ⟨by omega, by omega⟩
  have ref : ∀ T : Int → XI → Prop, (∀ J, Rel S J → ((v1 = 0 → T (I r_cells 0) J) ∧ (v1 = 1 → T (I r_camps 0) J) ∧ (v1 = 2 → T (I r_books 0) J) ∧ (v1 = 3 → T (I r_newsMany 0) J) ∧ (v1 = 4 → T (I r_acts 0) J) ∧ (v1 = 5 → T (I r_readers 0) J) ∧ (v1 = 6 → T (I r_now 0) J) ∧ (v1 = 7 → T (I r_viewed 0) J) ∧ (v1 = 8 → T (I r_lines 0) J) ∧ (v1 = 9 → T (cneA (fun q => whoR I (nA I) q (I r_now 0) (viewR I)) (-1) (nB I)) J) ∧ (v1 = 10 → T (cleA (I r_newsTold) (viewR I) (nN I)) J) ∧ (v1 = 11 → T (cleA (I r_actTold) (viewR I) (nA I)) J) ∧ ((v1 < 0 ∨ 11 < v1) → T (-2) J))) → R_count G S I v1 T := fun T k => by
    refine b_R_count hS (fun J e => ?_)
    obtain ⟨hJ, ht, -⟩ := hI.code e
    obtain ⟨k0, k1, k2, k3, k4, k5, k6, k7, k8, k9, k10, k11, k12⟩ := k J hJ
    have e9 : cneA (fun q => whoR J (nA J) q (J r_now 0) (viewR J)) (-1) (nB J) = cneA (fun q => whoR I (nA I) q (I r_now 0) (viewR I)) (-1) (nB I) := by
      rw [tf_nA ht, tf_nB ht, tf_view ht, ht r_now (by decide) (by decide)]; exact cneA_cong (fun j _ => tf_who ht _ _ _ _)
    have e10 : cleA (J r_newsTold) (viewR J) (nN J) = cleA (I r_newsTold) (viewR I) (nN I) := by
      show cleA (J r_newsTold) (viewR J) (J r_newsMany 0).toNat = _
      rw [tf_view ht, ht r_newsTold (by decide) (by decide), ht r_newsMany (by decide) (by decide)]
    have e11 : cleA (J r_actTold) (viewR J) (nA J) = cleA (I r_actTold) (viewR I) (nA I) := by
      rw [tf_view ht, tf_nA ht, ht r_actTold (by decide) (by decide)]
    rw [w32_r a1, ht r_cells (by decide) (by decide), ht r_camps (by decide) (by decide), ht r_books (by decide) (by decide), ht r_newsMany (by decide) (by decide), ht r_acts (by decide) (by decide), ht r_readers (by decide) (by decide), ht r_now (by decide) (by decide), ht r_viewed (by decide) (by decide), ht r_lines (by decide) (by decide)]
    exact ⟨k0, k1, k2, k3, k4, k5, k6, k7, k8, fun c => s_R_count9 hS hJ (by rw [e9]; exact k9 c), fun c => s_R_count10 hS hJ (by rw [e10]; exact k10 c), fun c => s_R_count11 hS hJ (by rw [e11]; exact k11 c), k12⟩
  have hnN : ∀ j, j < nN I → (I c_herds_newsTold j = I r_newsTold j ∧ InR (I r_newsTold j)) := fun j hj => ⟨pl_newsTold p j (by omega), hI.okR _ _ (by decide) (by decide)⟩
  have hnA : ∀ j, j < nA I → (I c_shelf_actTold j = I r_actTold j ∧ InR (I r_actTold j)) := fun j hj => ⟨pl_actTold p j (by omega), hI.okR _ _ (by decide) (by decide)⟩
  refine b_H_count hS ?_
  rw [w32_r a1, pl_cells p, pl_camps p, pl_books p, pl_newsMany p, pl_acts p, pl_readers p, pl_now p, pl_viewed p, pl_lines p]
  have e10 : cleA (I r_newsTold) (limC I) (nN I) = cleA (I r_newsTold) (viewR I) (nN I) := by
    rcases hI.1.lim2 with e | ⟨x, y⟩
    · rw [e]
    · refine cleA_cong (fun j hj => ?_)
      have := (hI.good.2.2.2.2.1.2 j (by omega)).2.2.2.2
      constructor <;> intro _ <;> omega
  have e11 : cleA (I r_actTold) (limC I) (nA I) = cleA (I r_actTold) (viewR I) (nA I) := cleA_cong hI.1.le
  refine ⟨fun c => ref _ fun J hJ => ?_, fun c => ref _ fun J hJ => ?_, fun c => ref _ fun J hJ => ?_, fun c => ref _ fun J hJ => ?_, fun c => ref _ fun J hJ => ?_, fun c => ref _ fun J hJ => ?_, fun c => ref _ fun J hJ => ?_, fun c => ref _ fun J hJ => ?_, fun c => ref _ fun J hJ => ?_, fun c => s_H_limit hS hI.1 (b_Sh_heldByAll hS (c_held hS hI ⟨by decide, by decide⟩ ⟨by omega, by omega⟩ hlr (ref _ fun J hJ => ?_))), fun c => s_H_limit hS hI.1 (s_H_countUpTo hS cn.1 cn.2 hnN hlr (ref _ fun J hJ => ?_)), fun c => s_H_limit hS hI.1 (s_H_countUpTo2 hS ca.1 ca.2 hnA hlr (ref _ fun J hJ => ?_)), fun c => ref _ fun J hJ => ?_⟩
  case refine_10 =>
    refine ⟨fun d => ?_, fun d => ?_, fun d => ?_, fun d => ?_, fun d => ?_, fun d => ?_, fun d => ?_, fun d => ?_, fun d => ?_, fun d => ?_, fun d => ?_, fun d => ?_, fun d => ?_⟩
    case refine_10 =>
      rw [pl_books p, cb.1, heldR_le hI.1.le]
      unfold heldR
      rw [cne_cnt]; exact h _ _ hJ
    all_goals omega
  case refine_11 =>
    refine ⟨fun d => ?_, fun d => ?_, fun d => ?_, fun d => ?_, fun d => ?_, fun d => ?_, fun d => ?_, fun d => ?_, fun d => ?_, fun d => ?_, fun d => ?_, fun d => ?_, fun d => ?_⟩
    case refine_11 => rw [e10]; exact h _ _ hJ
    all_goals omega
  case refine_12 =>
    refine ⟨fun d => ?_, fun d => ?_, fun d => ?_, fun d => ?_, fun d => ?_, fun d => ?_, fun d => ?_, fun d => ?_, fun d => ?_, fun d => ?_, fun d => ?_, fun d => ?_, fun d => ?_⟩
    case refine_12 => rw [e11]; exact h _ _ hJ
    all_goals omega
  all_goals (refine ⟨fun d => ?_, fun d => ?_, fun d => ?_, fun d => ?_, fun d => ?_, fun d => ?_, fun d => ?_, fun d => ?_, fun d => ?_, fun d => ?_, fun d => ?_, fun d => ?_, fun d => ?_⟩)
  all_goals first | exact h _ _ hJ | omega
end PQ2
