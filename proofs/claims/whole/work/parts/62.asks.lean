/-! ===== printed by wip/gen62.py: checks that several calls make ===== -/
def tf (I J : XI) : Prop := ∀ a, 77 < a → a < 129 → J a = I a
theorem tf.refl (I : XI) : tf I I := fun _ _ _ => rfl
theorem Rel.code {S : XS} {I J : XI} (h : Rel S I) (e : J = up I r_obj 0 0) : Rel S J ∧ tf I J ∧ ∀ a, a ≠ 77 → J a = I a := by
  subst e
  have z : ∀ a, a ≠ 77 → up I r_obj 0 0 a = I a := fun a ha => up_row ha
  exact ⟨h.keepA (fun a ha => z a (by omega)), fun a h1 h2 => z a (by omega), z⟩
theorem ne1 : ¬ (w32 1 = 0) := by decide
section TF
variable {I J : XI} (e : tf I J)
theorem tf_nA {I J : XI} (e : tf I J) : nA J = nA I := by show (J r_acts 0).toNat = _; rw [e r_acts (by decide) (by decide)]
theorem tf_nB {I J : XI} (e : tf I J) : nB J = nB I := by show (J r_books 0).toNat = _; rw [e r_books (by decide) (by decide)]
theorem tf_view {I J : XI} (e : tf I J) : viewR J = viewR I := by unfold viewR; rw [e r_viewed (by decide) (by decide), e r_now (by decide) (by decide)]
theorem tf_who {I J : XI} (e : tf I J) (n : Nat) (q wk lm : Int) : whoR J n q wk lm = whoR I n q wk lm := by
  unfold whoR; rw [e r_actBook (by decide) (by decide), e r_actKind (by decide) (by decide), e r_actCamp (by decide) (by decide), e r_actWeek (by decide) (by decide), e r_actTold (by decide) (by decide)]
theorem tf_due {I J : XI} (e : tf I J) (n : Nat) (q wk lm : Int) : dueR J n q wk lm = dueR I n q wk lm := by
  unfold dueR; rw [e r_actBook (by decide) (by decide), e r_actKind (by decide) (by decide), e r_actMany (by decide) (by decide), e r_actWeek (by decide) (by decide), e r_actTold (by decide) (by decide), e r_dryWeek (by decide) (by decide)]
theorem tf_held {I J : XI} (e : tf I J) (cp wk lm : Int) : heldR J cp wk lm = heldR I cp wk lm := by
  unfold heldR; rw [tf_nB e, tf_nA e]; exact cntA_congr (fun j _ => tf_who e _ _ _ _)
theorem tf_late {I J : XI} (e : tf I J) (cp wk lm : Int) : lateR J cp wk lm = lateR I cp wk lm := by
  unfold lateR; rw [tf_nB e, tf_nA e]; exact lateA_congr (fun j _ => ⟨tf_who e _ _ _ _, fun _ => tf_due e _ _ _ _⟩)
theorem tf_torn {I J : XI} (e : tf I J) (bk cp wk lm q : Int) : tornR J bk cp wk lm q = tornR I bk cp wk lm q := by
  unfold tornR; rw [tf_nA e, e r_actBook (by decide) (by decide), e r_actKind (by decide) (by decide), e r_actCamp (by decide) (by decide), e r_actWeek (by decide) (by decide), e r_actTold (by decide) (by decide), e r_actMany (by decide) (by decide), e r_actCost (by decide) (by decide)]
end TF
section PQ
variable {G : XG} {S : XS} {I : XI}
theorem s_La_hasCell {v : Int} {R : Int → XI → Prop} (hS : xSh S) (h : Rel S I) (hv : InR v) (ht : 0 ≤ v → v < I r_cells 0 → R 1 I) (hf : ¬ (0 ≤ v ∧ v < I r_cells 0) → R 0 I) : La_hasCell G S I v R := by
  have c := nC_c h.good
  refine b_La_hasCell hS ?_
  rw [pl_cells h.pl, w32_r hv, w32_b (z := I r_cells 0) (by omega) (by omega)]
  exact ⟨fun e => hf (by omega), fun e => ⟨fun e2 => hf (by omega), fun e2 => ht (by omega) (by omega)⟩⟩
theorem s_R_isCell {v z : Int} {R : Int → XI → Prop} (hS : xSh S) (hc : I r_cells 0 = z) (hz : 0 ≤ z ∧ z ≤ 1000) (hv : InR v) (ht : 0 ≤ v → v < z → R 1 I) (hf : ¬ (0 ≤ v ∧ v < z) → R 0 I) : R_isCell G S I v R := by
  refine b_R_isCell hS (s_Rin hS hv ⟨by decide, by decide⟩ ⟨by omega, by omega⟩ (fun a b => ⟨Or.inr rfl, ht a (by omega)⟩) (fun n => ⟨Or.inl rfl, hf (by omega)⟩))
theorem s_He_hasCamp {v : Int} {R : Int → XI → Prop} (hS : xSh S) (h : Rel S I) (hv : InR v) (ht : 0 ≤ v → v < I r_camps 0 → R 1 I) (hf : ¬ (0 ≤ v ∧ v < I r_camps 0) → R 0 I) : He_hasCamp G S I v R := by
  have c := nM_c h.good
  refine b_He_hasCamp hS ?_
  rw [pl_camps h.pl, w32_r hv, w32_b (z := I r_camps 0) (by omega) (by omega)]
  exact ⟨fun e => hf (by omega), fun e => ⟨fun e2 => hf (by omega), fun e2 => ht (by omega) (by omega)⟩⟩
theorem s_R_isCamp {v z : Int} {R : Int → XI → Prop} (hS : xSh S) (hc : I r_camps 0 = z) (hz : 0 ≤ z ∧ z ≤ 1000) (hv : InR v) (ht : 0 ≤ v → v < z → R 1 I) (hf : ¬ (0 ≤ v ∧ v < z) → R 0 I) : R_isCamp G S I v R := by
  refine b_R_isCamp hS (s_Rin hS hv ⟨by decide, by decide⟩ ⟨by omega, by omega⟩ (fun a b => ⟨Or.inr rfl, ht a (by omega)⟩) (fun n => ⟨Or.inl rfl, hf (by omega)⟩))
theorem s_Sh_hasBook {v : Int} {R : Int → XI → Prop} (hS : xSh S) (h : Rel S I) (hv : InR v) (ht : 0 ≤ v → v < I r_books 0 → R 1 I) (hf : ¬ (0 ≤ v ∧ v < I r_books 0) → R 0 I) : Sh_hasBook G S I v R := by
  have c := nB_c h.good
  refine b_Sh_hasBook hS ?_
  rw [pl_books h.pl, w32_r hv, w32_b (z := I r_books 0) (by omega) (by omega)]
  exact ⟨fun e => hf (by omega), fun e => ⟨fun e2 => hf (by omega), fun e2 => ht (by omega) (by omega)⟩⟩
theorem s_R_isBook {v z : Int} {R : Int → XI → Prop} (hS : xSh S) (hc : I r_books 0 = z) (hz : 0 ≤ z ∧ z ≤ 1000) (hv : InR v) (ht : 0 ≤ v → v < z → R 1 I) (hf : ¬ (0 ≤ v ∧ v < z) → R 0 I) : R_isBook G S I v R := by
  refine b_R_isBook hS (s_Rin hS hv ⟨by decide, by decide⟩ ⟨by omega, by omega⟩ (fun a b => ⟨Or.inr rfl, ht a (by omega)⟩) (fun n => ⟨Or.inl rfl, hf (by omega)⟩))
theorem s_Re_hasReader {v : Int} {R : Int → XI → Prop} (hS : xSh S) (h : Rel S I) (hv : InR v) (ht : 0 ≤ v → v < I r_readers 0 → R 1 I) (hf : ¬ (0 ≤ v ∧ v < I r_readers 0) → R 0 I) : Re_hasReader G S I v R := by
  have c := nR_c h.good
  refine b_Re_hasReader hS ?_
  rw [pl_readers h.pl, w32_r hv, w32_b (z := I r_readers 0) (by omega) (by omega)]
  exact ⟨fun e => hf (by omega), fun e => ⟨fun e2 => hf (by omega), fun e2 => ht (by omega) (by omega)⟩⟩
theorem s_R_isReader {v z : Int} {R : Int → XI → Prop} (hS : xSh S) (hc : I r_readers 0 = z) (hz : 0 ≤ z ∧ z ≤ 1000) (hv : InR v) (ht : 0 ≤ v → v < z → R 1 I) (hf : ¬ (0 ≤ v ∧ v < z) → R 0 I) : R_isReader G S I v R := by
  refine b_R_isReader hS (s_Rin hS hv ⟨by decide, by decide⟩ ⟨by omega, by omega⟩ (fun a b => ⟨Or.inr rfl, ht a (by omega)⟩) (fun n => ⟨Or.inl rfl, hf (by omega)⟩))
theorem s_H_isWeek {v : Int} {R : Int → XI → Prop} (hS : xSh S) (hv : InR v) (ht : 0 ≤ v → v ≤ 99 → R 1 I) (hf : ¬ (0 ≤ v ∧ v ≤ 99) → R 0 I) : H_isWeek G S I v R :=
  b_H_isWeek hS (s_isIn hS hv ⟨by decide, by decide⟩ ⟨by decide, by decide⟩ (fun a b => ⟨Or.inr rfl, ht a b⟩) (fun n => ⟨Or.inl rfl, hf n⟩))
theorem s_R_isWeek {v : Int} {R : Int → XI → Prop} (hS : xSh S) (hv : InR v) (ht : 0 ≤ v → v ≤ 99 → R 1 I) (hf : ¬ (0 ≤ v ∧ v ≤ 99) → R 0 I) : R_isWeek G S I v R :=
  b_R_isWeek hS (s_Rin hS hv ⟨by decide, by decide⟩ ⟨by decide, by decide⟩ (fun a b => ⟨Or.inr rfl, ht a b⟩) (fun n => ⟨Or.inl rfl, hf n⟩))
theorem s_H_isPast {v : Int} {R : Int → XI → Prop} (hS : xSh S) (h : Rel S I) (hv : InR v) (ht : 0 ≤ v → v ≤ I r_now 0 → R 1 I) (hf : ¬ (0 ≤ v ∧ v ≤ I r_now 0) → R 0 I) : H_isPast G S I v R := by
  have n := h.good.1.1
  refine b_H_isPast hS ?_
  rw [pl_now h.pl]
  exact s_isIn hS hv ⟨by decide, by decide⟩ ⟨by omega, by omega⟩ (fun a b => ⟨Or.inr rfl, ht a b⟩) (fun n => ⟨Or.inl rfl, hf n⟩)
/-- a CAMP and a WEEK that is not ahead of its first one -/
def isTh (I : XI) (c : Nat) (cp wk : Int) : Prop := cp = (c : Int) ∧ (c : Int) < I r_camps 0 ∧ I r_campWeek c ≤ wk ∧ wk ≤ 99
theorem s_H_isThere {cp wk : Int} {R : Int → XI → Prop} (hS : xSh S) (h : Rel S I) (h1 : InR cp) (h2 : InR wk) (ht : ∀ c, isTh I c cp wk → R 1 I) (hf : (¬ ∃ c, isTh I c cp wk) → R 0 I) : H_isThere G S I cp wk R := by
  have cm := nM_c h.good
  refine b_H_isThere hS (s_He_hasCamp hS h h1 (fun a1 a2 => br1 ?_) (fun n => br0 (hf (fun ⟨c, q⟩ => n ⟨by have := q.1; omega, by have := q.1; have := q.2.1; omega⟩))))
  have hc := h.good.2.2.2.1.2.1 cp.toNat (by omega)
  have hn := h.good.1.1
  refine s_H_isWeek hS h2 (fun b1 b2 => br1 ⟨inb_b (by omega) (by omega) (by decide), ?_⟩) (fun n => br0 (hf (fun ⟨c, q1, q2, q3, q4⟩ => n ⟨?_, q4⟩)))
  · rw [ix_b (by omega) (by omega), pl_campWeek h.pl _ (by omega), w32_r h2, w32_b (z := I r_campWeek cp.toNat) (by omega) (by omega)]
    refine ⟨fun e => hf (fun ⟨c, q1, q2, q3, q4⟩ => ?_), fun e => ht cp.toNat ⟨by omega, by omega, by omega, by omega⟩⟩
    have : cp.toNat = c := by omega
    rw [this] at e; omega
  · have := h.good.2.2.2.1.2.1 c (by omega); omega
theorem s_R_isThere {J : XI} {cp wk : Int} {R : Int → XI → Prop} (hS : xSh S) (h : Rel S I) (e : tf I J) (h1 : InR cp) (h2 : InR wk) (ht : ∀ c, isTh I c cp wk → R 1 J) (hf : (¬ ∃ c, isTh I c cp wk) → R 0 J) : R_isThere G S J cp wk R := by
  have cm := nM_c h.good
  refine b_R_isThere hS (s_R_isCamp (z := I r_camps 0) hS (by rw [e _ (by decide) (by decide)]) (by omega) h1 (fun a1 a2 => br1 ⟨inb_b (by omega) (by omega) (by decide), ?_⟩) (fun n => br0 (hf (fun ⟨c, q⟩ => n ⟨by have := q.1; omega, by have := q.1; have := q.2.1; omega⟩))))
  have hc := h.good.2.2.2.1.2.1 cp.toNat (by omega)
  have hn := h.good.1.1
  rw [ix_b (by omega) (by omega), e r_campWeek (by decide) (by decide)]
  refine s_Rin hS h2 ⟨by omega, by omega⟩ ⟨by decide, by decide⟩ (fun b1 b2 => br1 (ht cp.toNat ⟨by omega, by omega, b1, b2⟩)) (fun n => br0 (hf (fun ⟨c, q1, q2, q3, q4⟩ => ?_)))
  have : cp.toNat = c := by omega
  rw [this] at n; exact n ⟨q3, q4⟩
/-! ===== calls that only ask: ACTS ===== -/
theorem t_who {v1 v2 : Int} {R : Int → Int → XI → Prop} (hS : xSh S) (hI : Rel S I) (a1 : InR v1) (a2 : InR v2) (h : ∀ r J, Rel S J → R r r J) : H_who G S I v1 v2 (fun r I1 => R_who G S I1 v1 v2 (fun r' J => R r r' J)) := by
  have cb := nB_c hI.good
  have hl := limC_in hI.good
  refine b_H_who hS (s_Sh_hasBook hS hI a1 (fun b1 b2 => br1 (s_H_isWeek hS a2 (fun w1 w2 => br1 (s_H_limit hS hI.1 (c_who hS hI a1 a2 ⟨by omega, by omega⟩ ?_))) (fun n => br0 ?_))) (fun n => br0 ?_))
  · refine b_R_who hS (fun J e => ?_)
    obtain ⟨hJ, ht, -⟩ := hI.code e
    refine s_R_isBook hS (ht r_books (by decide) (by decide) ▸ rfl) (by omega) a1 (fun _ _ => br1 (s_R_isWeek hS a2 (fun _ _ => br1 (s_R_viewWeek hS hJ.okR (s_R_who hS hJ.okR hJ.1.actR a1 a2 (viewR_in hJ.okR) ?_))) (fun n => absurd ⟨w1, w2⟩ n))) (fun n => absurd ⟨b1, b2⟩ n)
    rw [tf_nA ht, tf_view ht, tf_who ht, whoR_le hI.1.le]
    exact h _ _ hJ
  · refine b_R_who hS (fun J e => ?_)
    obtain ⟨hJ, ht, -⟩ := hI.code e
    exact s_R_isBook hS (ht r_books (by decide) (by decide) ▸ rfl) (by omega) a1 (fun _ _ => br1 (s_R_isWeek hS a2 (fun w1 w2 => absurd ⟨w1, w2⟩ n) (fun _ => br0 (h _ _ hJ)))) (fun n => absurd ⟨b1, b2⟩ n)
  · refine b_R_who hS (fun J e => ?_)
    obtain ⟨hJ, ht, -⟩ := hI.code e
    exact s_R_isBook hS (ht r_books (by decide) (by decide) ▸ rfl) (by omega) a1 (fun b1 b2 => absurd ⟨b1, b2⟩ n) (fun _ => br0 (h _ _ hJ))
theorem t_due {v1 v2 : Int} {R : Int → Int → XI → Prop} (hS : xSh S) (hI : Rel S I) (a1 : InR v1) (a2 : InR v2) (h : ∀ r J, Rel S J → R r r J) : H_due G S I v1 v2 (fun r I1 => R_due G S I1 v1 v2 (fun r' J => R r r' J)) := by
  have cb := nB_c hI.good
  have hl := limC_in hI.good
  have hlr : InR (limC I) := ⟨by omega, by omega⟩
  have ref : ∀ T : Int → XI → Prop, (0 ≤ v1 ∧ v1 < I r_books 0) → (0 ≤ v2 ∧ v2 ≤ 99) → (∀ J, Rel S J → T (if whoR I (nA I) v1 v2 (viewR I) = -1 then -1 else dueR I (nA I) v1 v2 (viewR I)) J) → R_due G S I v1 v2 T := fun T b w k => by
    refine b_R_due hS (fun J e => ?_)
    obtain ⟨hJ, ht, -⟩ := hI.code e
    refine s_R_isBook hS (ht r_books (by decide) (by decide) ▸ rfl) (by omega) a1 (fun _ _ => br1 (s_R_isWeek hS a2 (fun _ _ => br1 (s_R_viewWeek hS hJ.okR (s_R_dueOf hS hJ.okR hJ.1.actR a1 a2 (viewR_in hJ.okR) (fun q => hJ.1.lent q) ?_))) (fun n => absurd w n))) (fun n => absurd b n)
    rw [tf_nA ht, tf_view ht, tf_who ht, tf_due ht]
    exact k J hJ
  refine b_H_due hS (s_Sh_hasBook hS hI a1 (fun b1 b2 => br1 (s_H_isWeek hS a2 (fun w1 w2 => br1 (s_H_limit hS hI.1 (c_who hS hI a1 a2 hlr ?_))) (fun n => br0 ?_))) (fun n => br0 ?_))
  · rw [w32_r (whoR_in hI.okR), show w32 (-1) = -1 from rfl]
    refine ⟨fun e => ref _ ⟨b1, b2⟩ ⟨w1, w2⟩ (fun J hJ => ?_), fun e => s_H_limit hS hI.1 (c_due hS hI a1 a2 hlr (ref _ ⟨b1, b2⟩ ⟨w1, w2⟩ (fun J hJ => ?_)))⟩
    · rw [whoR_le hI.1.le] at e
      rw [if_pos e]; exact h _ _ hJ
    · rw [whoR_le hI.1.le] at e
      rw [if_neg e, dueR_le hI.1.le]; exact h _ _ hJ
  · refine b_R_due hS (fun J e => ?_)
    obtain ⟨hJ, ht, -⟩ := hI.code e
    exact s_R_isBook hS (ht r_books (by decide) (by decide) ▸ rfl) (by omega) a1 (fun _ _ => br1 (s_R_isWeek hS a2 (fun w1 w2 => absurd ⟨w1, w2⟩ n) (fun _ => br0 (h _ _ hJ)))) (fun n => absurd ⟨b1, b2⟩ n)
  · refine b_R_due hS (fun J e => ?_)
    obtain ⟨hJ, ht, -⟩ := hI.code e
    exact s_R_isBook hS (ht r_books (by decide) (by decide) ▸ rfl) (by omega) a1 (fun b1 b2 => absurd ⟨b1, b2⟩ n) (fun _ => br0 (h _ _ hJ))
theorem t_fault {v1 : Int} {R : Int → Int → XI → Prop} (hS : xSh S) (hI : Rel S I) (a1 : InR v1) (h : ∀ r J, Rel S J → R r r J) : H_fault G S I v1 (fun r I1 => R_fault G S I1 v1 (fun r' J => R r r' J)) := by
  have p1 := pl_fault hI.pl
  have p2 := pl_faultPlace hI.pl
  refine b_H_fault hS ?_
  rw [p1, p2, w32_r a1]
  refine ⟨fun c => b_R_fault hS (fun J e => ?_), fun c => b_R_fault hS (fun J e => ?_), fun c => b_R_fault hS (fun J e => ?_)⟩ <;> (obtain ⟨hJ, ht, -⟩ := hI.code e; rw [w32_r a1, show w32 1 = 1 from rfl, ht r_fault (by decide) (by decide), ht r_faultPlace (by decide) (by decide)])
  · exact ⟨fun _ => h _ _ hJ, fun n => absurd c n⟩
  · exact ⟨fun n => absurd n (by omega), fun _ => ⟨fun _ => h _ _ hJ, fun n => absurd c n⟩⟩
  · exact ⟨fun n => absurd n c.1, fun _ => ⟨fun n => absurd n c.2, fun _ => h _ _ hJ⟩⟩
theorem t_owes {v1 v2 v3 : Int} {R : Int → Int → XI → Prop} (hS : xSh S) (hI : Rel S I) (a1 : InR v1) (a2 : InR v2) (a3 : InR v3) (h : ∀ r J, Rel S J → R r r J) : H_owes G S I v1 v2 v3 (fun r I1 => R_owes G S I1 v1 v2 v3 (fun r' J => R r r' J)) := by
  have cm := nM_c hI.good
  have cb := nB_c hI.good
  have hl := limC_in hI.good
  have hlr : InR (limC I) := ⟨by omega, by omega⟩
  refine b_H_owes hS (s_He_hasCamp hS hI a1 (fun b1 b2 => br1 (s_H_isWeek hS a2 (fun w1 w2 => br1 ?_) (fun n => br0 ?_))) (fun n => br0 ?_))
  · have ref : ∀ T : Int → XI → Prop, (∀ J, Rel S J → tf I J → ((v3 = 0 → T (heldR I v1 v2 (viewR I)) J) ∧ (v3 = 1 → T (lateR I v1 v2 (viewR I)) J) ∧ (v3 = 2 → T (tornR I (-1) v1 v2 (viewR I) 0) J) ∧ (v3 = 3 → T (tornR I (-1) v1 v2 (viewR I) 1) J) ∧ ((v3 < 0 ∨ 3 < v3) → T (-1) J))) → R_owes G S I v1 v2 v3 T := fun T k => by
      refine b_R_owes hS (fun J e => ?_)
      obtain ⟨hJ, ht, -⟩ := hI.code e
      have cbJ := nB_c hJ.good
      obtain ⟨k0, k1, k2, k3, k4⟩ := k J hJ ht
      refine s_R_isCamp hS (ht r_camps (by decide) (by decide) ▸ rfl) (by omega) a1 (fun _ _ => br1 (s_R_isWeek hS a2 (fun _ _ => br1 (s_R_viewWeek hS hJ.okR ?_)) (fun n => absurd ⟨w1, w2⟩ n))) (fun n => absurd ⟨b1, b2⟩ n)
      rw [w32_r a3]
      have hv := viewR_in hJ.okR
      refine ⟨fun c => s_R_held0 (b := nB J) hS hJ.okR hJ.1.actR cbJ.1 cbJ.2 a1 a2 hv ?_, fun c => s_R_held1 (b := nB J) hS hJ.okR hJ.1.actR cbJ.1 cbJ.2 a1 (by omega) a2 hv (fun q _ x => hJ.1.lent x) ?_, fun c => s_R_torn (n := nA J) hS hJ.okR (nA_c hJ.good).1 (nA_c hJ.good).2 ⟨by decide, by decide⟩ a1 a2 hv (Or.inl rfl) ?_, fun c => s_R_torn (n := nA J) hS hJ.okR (nA_c hJ.good).1 (nA_c hJ.good).2 ⟨by decide, by decide⟩ a1 a2 hv (Or.inr rfl) ?_, fun c => k4 c⟩
      · have x := tf_held ht v1 v2 (viewR J)
        unfold heldR at x; rw [x, tf_view ht]; exact k0 c
      · have x := tf_late ht v1 v2 (viewR J)
        unfold lateR at x; rw [x, tf_view ht]; exact k1 c
      · have x := tf_torn ht (-1) v1 v2 (viewR J) 0
        unfold tornR at x; rw [x, tf_view ht]; exact k2 c
      · have x := tf_torn ht (-1) v1 v2 (viewR J) 1
        unfold tornR at x; rw [x, tf_view ht]; exact k3 c
    have l := hI.1.le
    rw [w32_r a3]
    refine ⟨fun c => s_H_limit hS hI.1 (c_held hS hI a1 a2 hlr (ref _ (fun J hJ _ => ⟨fun _ => ?_, fun d => absurd d (by omega), fun d => absurd d (by omega), fun d => absurd d (by omega), fun d => absurd d (by omega)⟩))), fun c => s_H_limit hS hI.1 (c_late hS hI a1 a2 hlr (ref _ (fun J hJ _ => ⟨fun d => absurd d (by omega), fun _ => ?_, fun d => absurd d (by omega), fun d => absurd d (by omega), fun d => absurd d (by omega)⟩))), fun c => s_H_limit hS hI.1 (c_torn hS hI a1 (by omega) a2 hlr (ref _ (fun J hJ _ => ⟨fun d => absurd d (by omega), fun d => absurd d (by omega), fun _ => ?_, fun d => absurd d (by omega), fun d => absurd d (by omega)⟩))), fun c => s_H_limit hS hI.1 (c_owed hS hI a1 (by omega) a2 hlr (ref _ (fun J hJ _ => ⟨fun d => absurd d (by omega), fun d => absurd d (by omega), fun d => absurd d (by omega), fun _ => ?_, fun d => absurd d (by omega)⟩))), fun c => ref _ (fun J hJ _ => ⟨fun d => absurd d (by omega), fun d => absurd d (by omega), fun d => absurd d (by omega), fun d => absurd d (by omega), fun _ => h _ _ hJ⟩)⟩
    · rw [heldR_le l]; exact h _ _ hJ
    · rw [lateR_le l]; exact h _ _ hJ
    · rw [tornR_le l]; exact h _ _ hJ
    · rw [tornR_le l]; exact h _ _ hJ
  · refine b_R_owes hS (fun J e => ?_)
    obtain ⟨hJ, ht, -⟩ := hI.code e
    exact s_R_isCamp hS (ht r_camps (by decide) (by decide) ▸ rfl) (by omega) a1 (fun _ _ => br1 (s_R_isWeek hS a2 (fun w1 w2 => absurd ⟨w1, w2⟩ n) (fun _ => br0 (h _ _ hJ)))) (fun n => absurd ⟨b1, b2⟩ n)
  · refine b_R_owes hS (fun J e => ?_)
    obtain ⟨hJ, ht, -⟩ := hI.code e
    exact s_R_isCamp hS (ht r_camps (by decide) (by decide) ▸ rfl) (by omega) a1 (fun b1 b2 => absurd ⟨b1, b2⟩ n) (fun _ => br0 (h _ _ hJ))
theorem t_act {v1 v2 : Int} {R : Int → Int → XI → Prop} (hS : xSh S) (hI : Rel S I) (a1 : InR v1) (a2 : InR v2) (h : ∀ r J, Rel S J → R r r J) : H_act G S I v1 v2 (fun r I1 => R_act G S I1 v1 v2 (fun r' J => R r r' J)) := by
  have ca := nA_c hI.good
  have p := hI.pl
  refine b_H_act hS ?_
  rw [pl_acts p]
  refine s_isIn hS a1 ⟨by decide, by decide⟩ ⟨by omega, by omega⟩ (fun b1 b2 => br1 ?_) (fun n => br0 ?_)
  · have hb : v1.toNat < 150 := by omega
    rw [ix_b (z := v1) (by omega) (by omega), w32_r a2, pl_actBook p _ hb, pl_actKind p _ hb, pl_actCamp p _ hb, pl_actWeek p _ hb, pl_actTold p _ hb, pl_actMany p _ hb, pl_actCost p _ hb]
    have ref : ∀ T : Int → XI → Prop, (∀ J, Rel S J → ((v2 = 0 → T (I r_actBook v1.toNat) J) ∧ (v2 = 1 → T (I r_actKind v1.toNat) J) ∧ (v2 = 2 → T (I r_actCamp v1.toNat) J) ∧ (v2 = 3 → T (I r_actWeek v1.toNat) J) ∧ (v2 = 4 → T (I r_actTold v1.toNat) J) ∧ (v2 = 5 → T (I r_actMany v1.toNat) J) ∧ (v2 = 6 → T (I r_actCost v1.toNat) J) ∧ ((v2 < 0 ∨ 6 < v2) → T (-2) J))) → R_act G S I v1 v2 T := fun T k => by
      refine b_R_act hS (fun J e => ?_)
      obtain ⟨hJ, ht, -⟩ := hI.code e
      obtain ⟨k0, k1, k2, k3, k4, k5, k6, k7⟩ := k J hJ
      rw [ht r_acts (by decide) (by decide)]
      refine s_Rin hS a1 ⟨by decide, by decide⟩ ⟨by omega, by omega⟩ (fun _ _ => br1 ?_) (fun n => absurd ⟨b1, b2⟩ n)
      have i6 : inb v1 600 := inb_b (by omega) (by omega) (by decide)
      rw [ix_b (z := v1) (by omega) (by omega), w32_r a2, ht r_actBook (by decide) (by decide), ht r_actKind (by decide) (by decide), ht r_actCamp (by decide) (by decide), ht r_actWeek (by decide) (by decide), ht r_actTold (by decide) (by decide), ht r_actMany (by decide) (by decide), ht r_actCost (by decide) (by decide)]
      exact ⟨fun c => ⟨i6, k0 c⟩, fun c => ⟨i6, k1 c⟩, fun c => ⟨i6, k2 c⟩, fun c => ⟨i6, k3 c⟩, fun c => ⟨i6, k4 c⟩, fun c => ⟨i6, k5 c⟩, fun c => ⟨i6, k6 c⟩, k7⟩
    have i1 : inb v1 150 := inb_b (by omega) (by omega) (by decide)
    refine ⟨fun c => ⟨i1, ref _ fun J hJ => ?_⟩, fun c => ⟨i1, ref _ fun J hJ => ?_⟩, fun c => ⟨i1, ref _ fun J hJ => ?_⟩, fun c => ⟨i1, ref _ fun J hJ => ?_⟩, fun c => ⟨i1, ref _ fun J hJ => ?_⟩, fun c => ⟨i1, ref _ fun J hJ => ?_⟩, fun c => ⟨i1, ref _ fun J hJ => ?_⟩, fun c => ref _ fun J hJ => ?_⟩
    all_goals (refine ⟨fun d => ?_, fun d => ?_, fun d => ?_, fun d => ?_, fun d => ?_, fun d => ?_, fun d => ?_, fun d => ?_⟩)
    all_goals first | exact h _ _ hJ | omega
  · refine b_R_act hS (fun J e => ?_)
    obtain ⟨hJ, ht, -⟩ := hI.code e
    rw [ht r_acts (by decide) (by decide)]
    exact s_Rin hS a1 ⟨by decide, by decide⟩ ⟨by omega, by omega⟩ (fun b1 b2 => absurd ⟨b1, b2⟩ n) (fun _ => br0 (h _ _ hJ))
/-! ===== calls that only ask: PARTS ===== -/
theorem Rel.FW (h : Rel S I) {c : Nat} (hc : c < nM I) : I r_campWeek c = ((FWo I c : Nat) : Int) ∧ I r_campCell c = ((FCo I c : Nat) : Int) ∧ FCo I c < nC I := by
  have cm := nM_c h.good
  have cc := nC_c h.good
  have g := h.good.2.2.2.1.2.1 c (by omega)
  have e1 := pl_campWeek h.pl c (by omega)
  have e2 := pl_campCell h.pl c (by omega)
  have z1 : ((FWo I c : Nat) : Int) = I r_campWeek c := by show ((I c_herds_firstWeeks c).toNat : Int) = _; rw [e1]; omega
  have z2 : ((FCo I c : Nat) : Int) = I r_campCell c := by show ((I c_herds_firstCells c).toNat : Int) = _; rw [e2]; omega
  exact ⟨z1.symm, z2.symm, by omega⟩
/-- the reference's findParts, from a memory J in which what is told is as in I -/
theorem r_find {J : XI} {c wk : Nat} {cp wp lm : Int} {R : XI → Prop} (hS : xSh S) (h : Rel S I) (e : tf I J) (hcp : cp = (c : Int)) (hc : c < nM I) (hwp : wp = (wk : Int)) (hwk : wk ≤ 99) (hf : FWo I c ≤ wk) (hl : InR lm)
    (k : ∀ J', PIn J J' (Xof I) (nC I) (nG I) (nN I) c lm (FCo I c) (FWo I c) (wk - FWo I c) → R J') : R_findParts G S J cp wp lm R := by
  have cm := nM_c h.good
  obtain ⟨f1, f2, f3⟩ := h.FW hc
  have hx := h.1.XR
  have hxJ : XR J (Xof I) (nG I) (nN I) := by
    obtain ⟨x1, x2, x3, x4⟩ := hx
    refine ⟨?_, ?_, ?_, x4⟩
    · rw [e r_ways (by decide) (by decide)]; exact x1
    · rw [e r_grassCell (by decide) (by decide), e r_grassWeek (by decide) (by decide), e r_grassIs (by decide) (by decide), e r_grassTold (by decide) (by decide)]; exact x2
    · rw [e r_newsCamp (by decide) (by decide), e r_newsCell (by decide) (by decide), e r_newsWeek (by decide) (by decide), e r_newsSeen (by decide) (by decide), e r_newsTold (by decide) (by decide)]; exact x3
  exact s_R_findParts hS hcp (by omega) hwp hwk hf hl (by rw [e r_cells (by decide) (by decide)]; exact (nC_c h.good).1) (by rw [e r_grasses (by decide) (by decide)]; exact (nG_c h.good).1) (by rw [e r_newsMany (by decide) (by decide)]; exact (nN_c h.good).1) h.1.PtOk hxJ (by rw [e r_campWeek (by decide) (by decide)]; exact f1) (by rw [e r_campCell (by decide) (by decide)]; exact f2) f3 k
/-- behind the class' look at PARTS -/
theorem Rel.fmC (h : Rel S I) {I' : XI} (hc : Cach I' (nC I) (nG I) (nN I) (nM I)) (hf : fmC I I') : Rel S I' := h.keepW (fun a ha => hf a (by omega)) hc
theorem fmC.tf {I I' : XI} (h : fmC I I') : tf I I' := fun a h1 h2 => h a (by omega)
theorem Rel.fmP (h : Rel S I) {I' : XI} (hf : fmP I I') : Rel S I' := h.keepA (fun a ha => hf a (by omega) (by omega))
theorem tf.trans {I J K : XI} (h1 : tf I J) (h2 : tf J K) : tf I K := fun a ha hb => (h2 a ha hb).trans (h1 a ha hb)
theorem t_parts {v1 v2 v3 : Int} {R : Int → Int → XI → Prop} (hS : xSh S) (hI : Rel S I) (a1 : InR v1) (a2 : InR v2) (a3 : InR v3) (h : ∀ r J, Rel S J → R r r J) : H_parts G S I v1 v2 v3 (fun r I1 => R_parts G S I1 v1 v2 v3 (fun r' J => R r r' J)) := by
  have cc := nC_c hI.good
  have cm := nM_c hI.good
  have hl := limC_in hI.good
  refine b_H_parts hS (s_H_isThere hS hI a1 a3 (fun c q => br1 (s_La_hasCell hS hI a2 (fun b1 b2 => br1 (s_H_limit hS hI.1 ?_)) (fun n => br0 ?_))) (fun n => br0 ?_))
  · obtain ⟨q1, q2, q3, q4⟩ := q
    have hc : c < nM I := by omega
    obtain ⟨f1, f2, f3⟩ := hI.FW hc
    refine s_H_parts1 (k := v2.toNat) (wk := v3.toNat) hS hI.1.CP hI.2.1 hl q1 hc (by omega) (by omega) (by omega) (by omega) (by omega) (fun I' c1 c2 => ?_)
    have hI' := hI.fmC c1 c2
    refine b_R_parts hS (fun J e => ?_)
    obtain ⟨hJ, ht, -⟩ := hI'.code e
    have ht := c2.tf.trans ht
    refine s_R_isThere hS hI ht a1 a3 (fun _ _ => br1 (s_R_isCell (z := I r_cells 0) hS (by rw [ht r_cells (by decide) (by decide)]) (by omega) a2 (fun _ _ => br1 (s_R_viewWeek hS hJ.okR (r_find (c := c) (wk := v3.toNat) hS hI ht q1 hc (by omega) (by omega) (by omega) (viewR_in hJ.okR) (fun J' hP => ⟨inb_b (by omega) (by omega) (by decide), ?_⟩)))) (fun n => absurd ⟨b1, b2⟩ n))) (fun n => absurd ⟨c, q1, q2, q3, q4⟩ n)
    rw [ix_b (by omega) (by omega), hP.1 _ (by omega), tf_view ht, ← hI.1.pt]
    exact h _ _ (hJ.fmP hP.2.1)
  · refine b_R_parts hS (fun J e => ?_)
    obtain ⟨hJ, ht, -⟩ := hI.code e
    exact s_R_isThere hS hI ht a1 a3 (fun _ _ => br1 (s_R_isCell (z := I r_cells 0) hS (by rw [ht r_cells (by decide) (by decide)]) (by omega) a2 (fun b1 b2 => absurd ⟨b1, b2⟩ n) (fun _ => br0 (h _ _ hJ)))) (fun n => absurd ⟨c, q⟩ n)
  · refine b_R_parts hS (fun J e => ?_)
    obtain ⟨hJ, ht, -⟩ := hI.code e
    exact s_R_isThere hS hI ht a1 a3 (fun c q => absurd ⟨c, q⟩ n) (fun _ => br0 (h _ _ hJ))
theorem t_likeliest {v1 v2 : Int} {R : Int → Int → XI → Prop} (hS : xSh S) (hI : Rel S I) (a1 : InR v1) (a2 : InR v2) (h : ∀ r J, Rel S J → R r r J) : H_likeliest G S I v1 v2 (fun r I1 => R_likeliest G S I1 v1 v2 (fun r' J => R r r' J)) := by
  have cm := nM_c hI.good
  have hl := limC_in hI.good
  refine b_H_likeliest hS (s_H_isThere hS hI a1 a2 (fun c q => br1 (s_H_limit hS hI.1 ?_)) (fun n => br0 ?_))
  · obtain ⟨q1, q2, q3, q4⟩ := q
    have hc : c < nM I := by omega
    obtain ⟨f1, f2, f3⟩ := hI.FW hc
    refine s_H_likely (wk := v2.toNat) hS hI.1.CP hI.2.1 hl q1 hc (by omega) (by omega) (by omega) (fun I' c1 c2 => ?_)
    have hI' := hI.fmC c1 c2
    refine b_R_likeliest hS (fun J e => ?_)
    obtain ⟨hJ, ht, -⟩ := hI'.code e
    have ht := c2.tf.trans ht
    refine s_R_isThere hS hI ht a1 a2 (fun _ _ => br1 (s_R_viewWeek hS hJ.okR (r_find (c := c) (wk := v2.toNat) hS hI ht q1 hc (by omega) (by omega) (by omega) (viewR_in hJ.okR) (fun J' hP => ?_)))) (fun n => absurd ⟨c, q1, q2, q3, q4⟩ n)
    refine s_R_greatest hS hP.1 (pt_ok hI.1.PtOk f3 _).2.1 ?_
    rw [tf_view ht, ← hI.1.pt]
    exact h _ _ (hJ.fmP hP.2.1)
  · refine b_R_likeliest hS (fun J e => ?_)
    obtain ⟨hJ, ht, -⟩ := hI.code e
    exact s_R_isThere hS hI ht a1 a2 (fun c q => absurd ⟨c, q⟩ n) (fun _ => br0 (h _ _ hJ))
end PQ
