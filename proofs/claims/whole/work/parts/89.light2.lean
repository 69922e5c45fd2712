/-! ===== load: the reference's lightest BOOKS ===== -/
def frL (J0 J : XI) : Prop := ∀ a, (a < 77 ∨ (77 < a ∧ a < 129) ∨ (134 < a ∧ a < 142) ∨ 145 < a) → J a = J0 a
theorem frL.trans {I J K : XI} (h1 : frL I J) (h2 : frL J K) : frL I K := fun a ha => (h2 a ha).trans (h1 a ha)
theorem frL.tf {I J : XI} (h : frL I J) : tf I J := fun a h1 h2 => h a (by omega)
section PLe
variable {G : XG} {S : XS} {I : XI}
theorem s_R_light {P : Nat → Prop} [DecidablePred P] {c wk : Nat} {J0 : XI} {R : XI → Prop} (hS : xSh S) (hI : Rel S I) (t0 : tf I J0) (hc : c < nM I) (hwk : I r_now 0 = (wk : Int)) (hP : ∀ b, b < nB I → (P b ↔ offR I c wk b)) (h : ∀ J, frL J0 J → (∀ k, k < 8 → J r_lightest k = ltB P (I r_bookKind) (I r_bookGrams) (nB I) k) → R J) :
    ∀ m b J, b + m = nB I → frL J0 J → (∀ k, k < 8 → J r_lightest k = ltB P (I r_bookKind) (I r_bookGrams) b k) → R_findLightest_k23 G S J (c : Int) (b : Int) R := by
  have hnow := hI.good.1.1
  have cb := nB_c hI.good
  have ca := nA_c hI.good
  have cm := nM_c hI.good
  intro m
  induction m with
  | zero =>
    intro b J e f hL
    have t : tf I J := t0.trans f.tf
    refine b_R_findLightest_k23 hS ?_
    rw [t r_books (by decide) (by decide), cb.1, w32_nat (k := nB I) (by omega), w32_nat (k := b) (by omega)]
    have eb : b = nB I := by omega
    exact ⟨fun _ => h J f (by rw [← eb]; exact hL), fun q => absurd (by omega) q⟩
  | succ m ih =>
    intro b J e f hL
    have t : tf I J := t0.trans f.tf
    have hb : b < nB I := by omega
    have gb := hI.good.2.2.2.2.2.1.2 b (by omega)
    have gc := hI.good.2.2.2.1.2.1 c (by omega)
    have ib : InR (b : Int) := ⟨by omega, by omega⟩
    have ic : InR (c : Int) := ⟨by omega, by omega⟩
    have nb : inb (b : Int) 96 := inb_b (by omega) (by omega) (by decide)
    have skip : ¬ offR I c wk b → ∀ F, frL J0 F → F r_lightest = J r_lightest → R_findLightest_k23 G S F (c : Int) ((b : Int) + 1) R := fun q F hF eF => by
      refine ih (b + 1) F (by omega) hF (fun k hk => ?_)
      unfold ltB
      rw [if_neg (fun z => q ((hP b hb).1 z.1)), eF]
      exact hL k hk
    refine b_R_findLightest_k23 hS ?_
    rw [t r_books (by decide) (by decide), cb.1, w32_nat (k := nB I) (by omega), w32_nat (k := b) (by omega)]
    refine ⟨fun q => absurd q (by omega), fun _ => s_R_viewWeek hS (okR_tf hI.okR t) ?_⟩
    rw [tf_view t, t r_now (by decide) (by decide), hwk]
    refine ref_who hS hI t ib ⟨by omega, by omega⟩ (viewR_in hI.okR) ?_
    rw [w32_r (whoR_in hI.okR), show w32 (-1) = -1 from rfl]
    refine ⟨fun w => ⟨nb, inb_b (by omega) (by omega) (by decide), ?_⟩, fun w => skip (fun q => w q.2.1) J f rfl⟩
    rw [ix_nat (k := b) (by omega), ix_nat (k := c) (by omega), t r_bookTongue (by decide) (by decide), t r_campTongue (by decide) (by decide), w32_b (z := I r_bookTongue b) (by omega) (by omega), w32_b (z := I r_campTongue c) (by omega) (by omega)]
    refine ⟨fun ct => s_R_everHad (n := nA J) hS (okR_tf hI.okR t) (by rw [tf_nA t, t r_acts (by decide) (by decide)]; exact ca.1) (by rw [tf_nA t]; exact ca.2) ib ic (fun y => br1 (skip (fun q => q.2.2.1 ((ever_tf t _ _).1 y)) J f rfl)) (fun y => br0 (s_R_viewWeek hS (okR_tf hI.okR t) ?_)), fun ct => skip (fun q => ct q.1) J f rfl⟩
    rw [tf_view t, t r_now (by decide) (by decide), hwk]
    refine s_R_look hS hI t rfl hc rfl hb rfl (by omega) (viewR_in hI.okR) (fun J2 t2 s2 f2 => ⟨nb, ?_⟩)
    have f3 : frL J0 J2 := f.trans (fun a ha => f2 a (by omega) (by omega))
    have l2 : J2 r_lightest = J r_lightest := f2 _ (by decide) (by decide)
    have hFr : ∀ k, InR ((fun k => seenR I c b wk (viewR I) k) k) := fun k => seen_in hI hc hb (by omega) _ k
    refine s_R_lineOf hS hI t2 s2 hFr ⟨by decide, by decide⟩ ?_
    rw [w32_r (line_in hI _ _)]
    refine ⟨fun z => ?_, fun z => skip (fun q => z q.2.2.2) J2 f3 l2⟩
    have off : P b := (hP b hb).2 ⟨ct, w, fun x => y ((ever_tf t _ _).2 x), z⟩
    obtain ⟨kd, hk⟩ : ∃ kd : Nat, I r_bookKind b = (kd : Int) := ⟨(I r_bookKind b).toNat, by omega⟩
    have hk8 : kd < 8 := by omega
    have ik : inb (kd : Int) 8 := inb_b (by omega) (by omega) (by decide)
    have lt := ltB_in P (I r_bookKind) (I r_bookGrams) kd b
    rw [t2 r_bookKind (by decide) (by decide), hk, ix_nat (k := kd) (by omega), l2, hL kd hk8, t2 r_bookGrams (by decide) (by decide)]
    have yes : (ltB P (I r_bookKind) (I r_bookGrams) b kd = -1 ∨ I r_bookGrams b < I r_bookGrams (ltB P (I r_bookKind) (I r_bookGrams) b kd).toNat) → ∀ F, F = up J2 r_lightest kd (b : Int) → R_findLightest_k23 G S F (c : Int) ((b : Int) + 1) R := fun q F e => by
      refine ih (b + 1) F (by omega) (f3.trans (fun a ha => by rw [e, up_row (show a ≠ 145 by omega)])) (fun k hk' => ?_)
      rw [e, up_at]
      unfold ltB
      by_cases x : k = kd
      · subst x; rw [if_pos rfl, if_pos ⟨off, hk, q⟩]
      · rw [if_neg x, if_neg (fun z => x (by have := z.2.1; omega)), l2]; exact hL k hk'
    have no : ¬ (ltB P (I r_bookKind) (I r_bookGrams) b kd = -1 ∨ I r_bookGrams b < I r_bookGrams (ltB P (I r_bookKind) (I r_bookGrams) b kd).toNat) → R_findLightest_k23 G S J2 (c : Int) ((b : Int) + 1) R := fun q => by
      refine ih (b + 1) J2 (by omega) f3 (fun k hk' => ?_)
      unfold ltB
      rw [if_neg (fun z => q (by have : k = kd := by (have := z.2.1; omega)
                                 subst this; exact z.2.2)), l2]
      exact hL k hk'
    refine ⟨ik, ?_⟩
    rw [w32_b (z := ltB P (I r_bookKind) (I r_bookGrams) b kd) (by omega) (by omega)]
    refine ⟨fun z => ⟨ik, yes (Or.inl z)⟩, fun z => ⟨nb, ik, inb_b (by omega) (by omega) (by decide), ?_⟩⟩
    obtain ⟨l, hl2⟩ : ∃ l : Nat, ltB P (I r_bookKind) (I r_bookGrams) b kd = (l : Int) := ⟨(ltB P (I r_bookKind) (I r_bookGrams) b kd).toNat, by omega⟩
    rw [hl2] at yes no ⊢
    have gl := hI.good.2.2.2.2.2.1.2 l (by omega)
    rw [ix_nat (k := l) (by omega), w32_b (z := I r_bookGrams l) (by omega) (by omega), w32_b (z := I r_bookGrams b) (by omega) (by omega)]
    rw [Int.toNat_natCast] at yes no
    exact ⟨fun y => no (by omega), fun y => ⟨ik, yes (Or.inr (by omega))⟩⟩
theorem s_R_findLightest {P : Nat → Prop} [DecidablePred P] {c wk : Nat} {J0 : XI} {R : XI → Prop} (hS : xSh S) (hI : Rel S I) (t0 : tf I J0) (hc : c < nM I) (hwk : I r_now 0 = (wk : Int)) (hP : ∀ b, b < nB I → (P b ↔ offR I c wk b)) (h : ∀ J, frL J0 J → (∀ k, k < 8 → J r_lightest k = ltB P (I r_bookKind) (I r_bookGrams) (nB I) k) → R J) : R_findLightest G S J0 (c : Int) R := by
  refine b_R_findLightest hS ?_
  have key : ∀ m k J, k + m = 8 → frL J0 J → (∀ i, i < k → J r_lightest i = -1) → R_findLightest_k2 G S J (c : Int) (k : Int) R := by
    intro m
    induction m with
    | zero =>
      intro k J e f hL
      refine b_R_findLightest_k2 hS ?_
      rw [w32_nat (k := k) (by omega), show w32 8 = 8 from rfl]
      exact ⟨fun _ => s_R_light hS hI t0 hc hwk hP h (nB I) 0 J (by omega) f (fun i hi => hL i (by omega)), fun q => absurd (by omega) q⟩
    | succ m ih =>
      intro k J e f hL
      refine b_R_findLightest_k2 hS ?_
      rw [w32_nat (k := k) (by omega), show w32 8 = 8 from rfl, ix_nat (k := k) (by omega)]
      refine ⟨fun q => absurd q (by omega), fun _ => ⟨inb_b (by omega) (by omega) (by decide), fun I1 e1 => ?_⟩⟩
      refine ih (k + 1) I1 (by omega) (f.trans (fun a ha => by rw [e1, up_row (show a ≠ 145 by omega)])) (fun i hi => ?_)
      rw [e1, up_at]
      split
      · rfl
      · exact hL i (by omega)
  exact key 8 0 J0 (by omega) (fun _ _ => rfl) (fun i hi => absurd hi (by omega))
end PLe
