/-! ===== load: the lightest BOOK of each KIND ===== -/
def ltB (P : Nat → Prop) [DecidablePred P] (K W : Nat → Int) : Nat → Nat → Int
  | 0, _ => -1
  | b + 1, k => if P b ∧ K b = (k : Int) ∧ (ltB P K W b k = -1 ∨ W b < W (ltB P K W b k).toNat) then (b : Int) else ltB P K W b k
theorem ltB_in (P : Nat → Prop) [DecidablePred P] (K W : Nat → Int) (k : Nat) : ∀ b, ltB P K W b k = -1 ∨ (0 ≤ ltB P K W b k ∧ ltB P K W b k < (b : Int)) := by
  intro b
  induction b with
  | zero => exact Or.inl rfl
  | succ b ih =>
    unfold ltB
    split
    · right; omega
    · omega
/-- a BOOK is offered to the CAMP -/
def offR (I : XI) (c wk b : Nat) : Prop := I r_bookTongue b = I r_campTongue c ∧ whoR I (nA I) (b : Int) (wk : Int) (viewR I) = -1 ∧ ¬ (∃ j, j < nA I ∧ givesR I (b : Int) j ∧ I r_actCamp j = (c : Int)) ∧ lineR I (fun k => seenR I c b wk (viewR I) k) 0 = -1
section PLd
variable {G : XG} {S : XS} {I : XI}
theorem FcC.keep2 {I J : XI} {c wk : Nat} {lm : Int} (h : FcC I c wk lm) (e : ∀ a, a ≠ 74 → J a = I a) : FcC J c wk lm := by
  have t : tfx I J := ⟨fun a h1 h2 => e a (by omega), fun a ha => e a (by omega)⟩
  unfold FcC at h ⊢
  rw [e c_facts (by decide), t.1 r_dryWeek (by decide) (by decide), well_tfx t, tf_held t.1, tf_late t.1, tf_torn t.1]
  exact h
theorem ever_tf {I J : XI} (e : tf I J) (bk cp : Int) : (∃ j, j < nA J ∧ givesR J bk j ∧ J r_actCamp j = cp) ↔ (∃ j, j < nA I ∧ givesR I bk j ∧ I r_actCamp j = cp) := by
  unfold givesR
  rw [tf_nA e, tf_view e, e r_actBook (by decide) (by decide), e r_actKind (by decide) (by decide), e r_actTold (by decide) (by decide), e r_actCamp (by decide) (by decide)]
theorem s_Bo_offer {P : Nat → Prop} [DecidablePred P] {b : Nat} {J : XI} {R : XI → Prop} (hS : xSh S) (hI : Rel S J) (hb : b < nB J) (hP : P b) (hl : ∀ k, k < 8 → J c_box_lightest k = ltB P (J r_bookKind) (J r_bookGrams) b k) (h : ∀ F, (∀ a, a ≠ 74 → F a = J a) → (∀ k, k < 8 → F c_box_lightest k = ltB P (J r_bookKind) (J r_bookGrams) (b + 1) k) → R F) : Bo_offer G S J (b : Int) R := by
  have cb := nB_c hI.good
  have gb := hI.good.2.2.2.2.2.1.2 b (by omega)
  obtain ⟨kd, hk⟩ : ∃ kd : Nat, J r_bookKind b = (kd : Int) := ⟨(J r_bookKind b).toNat, by omega⟩
  have hk8 : kd < 8 := by omega
  have ib : inb (b : Int) 24 := inb_b (by omega) (by omega) (by decide)
  have ik : inb (kd : Int) 8 := inb_b (by omega) (by omega) (by decide)
  have lt := ltB_in P (J r_bookKind) (J r_bookGrams) kd b
  refine b_Bo_offer hS ⟨ib, ?_⟩
  rw [ix_nat (k := b) (by omega), pl_bookKind hI.pl b (by omega), hk, ix_nat (k := kd) (by omega), hl kd hk8, pl_bookGrams hI.pl b (by omega)]
  have yes : (ltB P (J r_bookKind) (J r_bookGrams) b kd = -1 ∨ J r_bookGrams b < J r_bookGrams (ltB P (J r_bookKind) (J r_bookGrams) b kd).toNat) → ∀ F, F = up J c_box_lightest kd (b : Int) → R F := fun q F e => by
    refine h F (fun a ha => by rw [e, up_row ha]) (fun k hk' => ?_)
    rw [e, up_at]
    unfold ltB
    by_cases x : k = kd
    · subst x; rw [if_pos rfl, if_pos ⟨hP, hk, q⟩]
    · rw [if_neg x, if_neg (fun z => x (by have := z.2.1; omega))]; exact hl k hk'
  have no : ¬ (ltB P (J r_bookKind) (J r_bookGrams) b kd = -1 ∨ J r_bookGrams b < J r_bookGrams (ltB P (J r_bookKind) (J r_bookGrams) b kd).toNat) → R J := fun q => by
    refine h J (fun _ _ => rfl) (fun k hk' => ?_)
    unfold ltB
    rw [if_neg (fun z => q (by have : k = kd := by (have := z.2.1; omega)
                               subst this; exact z.2.2))]
    exact hl k hk'
  refine ⟨ik, ?_⟩
  rw [w32_b (z := ltB P (J r_bookKind) (J r_bookGrams) b kd) (by omega) (by omega), show w32 (-1) = -1 from rfl]
  refine ⟨fun z => ⟨ik, yes (Or.inl z)⟩, fun z => ⟨ib, ik, inb_b (by omega) (by omega) (by decide), ?_⟩⟩
  obtain ⟨l, hl2⟩ : ∃ l : Nat, ltB P (J r_bookKind) (J r_bookGrams) b kd = (l : Int) := ⟨(ltB P (J r_bookKind) (J r_bookGrams) b kd).toNat, by omega⟩
  rw [hl2] at yes no ⊢
  have gl := hI.good.2.2.2.2.2.1.2 l (by omega)
  rw [ix_nat (k := l) (by omega), pl_bookGrams hI.pl l (by omega), w32_b (z := J r_bookGrams l) (by omega) (by omega), w32_b (z := J r_bookGrams b) (by omega) (by omega)]
  rw [Int.toNat_natCast] at yes no
  exact ⟨fun y => no (by omega), fun y => ⟨ik, yes (Or.inr (by omega))⟩⟩
theorem s_offers {P : Nat → Prop} [DecidablePred P] {c wk : Nat} {R : XI → Prop} (hS : xSh S) (hI : Rel S I) (hc : c < nM I) (hwk : I r_now 0 = (wk : Int)) (hP : ∀ b, b < nB I → (P b ↔ offR I c wk b)) (h : ∀ J, Rel S J → tfx I J → (∀ k, k < 8 → J c_box_lightest k = ltB P (I r_bookKind) (I r_bookGrams) (nB I) k) → R J) :
    ∀ m b J, b + m = nB I → Rel S J → tfx I J → FcC J c wk (limC I) → (∀ k, k < 8 → J c_box_lightest k = ltB P (I r_bookKind) (I r_bookGrams) b k) → H_offerBooks_k26 G S J (c : Int) (wk : Int) (b : Int) R := by
  have hnow := hI.good.1.1
  have cb := nB_c hI.good
  have cm := nM_c hI.good
  have hl := limC_in hI.good
  have hlr : InR (limC I) := ⟨by omega, by omega⟩
  intro m
  induction m with
  | zero =>
    intro b J e hJ t hC hL
    refine b_H_offerBooks_k26 hS ?_
    rw [pl_books hJ.pl, t.1 r_books (by decide) (by decide), cb.1, w32_nat (k := nB I) (by omega), w32_nat (k := b) (by omega)]
    have eb : b = nB I := by omega
    exact ⟨fun _ => h J hJ t (by rw [← eb]; exact hL), fun q => absurd (by omega) q⟩
  | succ m ih =>
    intro b J e hJ t hC hL
    have hb : b < nB I := by omega
    refine b_H_offerBooks_k26 hS ?_
    rw [pl_books hJ.pl, t.1 r_books (by decide) (by decide), cb.1, w32_nat (k := nB I) (by omega), w32_nat (k := b) (by omega)]
    refine ⟨fun q => absurd q (by omega), fun _ => s_H_limit hS hJ.1 ?_⟩
    rw [limC_tf t.1]
    refine s_gatherB hS hJ hC rfl (by rw [nM_tf t.1]; exact hc) rfl (by rw [tf_nB t.1]; exact hb) rfl (by omega) hlr (fun J2 hJ2 e2 hC2 hF2 => ?_)
    have t2 : tfx I J2 := t.trans ⟨fun a h1 h2 => e2 a (by omega), fun a ha => e2 a (by omega)⟩
    have hF : ∀ s : Nat, s < 10 → J2 c_facts s = (fun k => seenR I c b wk (limC I) k) (subR s).toNat := fun s hs => by rw [hF2 s hs, seen_tfx t]
    have hFr : ∀ k, InR ((fun k => seenR I c b wk (limC I) k) k) := fun k => seen_in hI hc hb (by omega) _ k
    have eF : ∀ k, (fun k => seenR I c b wk (limC I) k) k = (fun k => seenR I c b wk (viewR I) k) k := fun k => hI.1.seen c b wk k
    have f0 : J2 c_facts 0 = if I r_bookTongue b = I r_campTongue c then 1 else 0 := hF 0 (by decide)
    have L2 : ∀ k, k < 8 → J2 c_box_lightest k = ltB P (I r_bookKind) (I r_bookGrams) b k := fun k hk => by rw [e2 c_box_lightest (by decide)]; exact hL k hk
    have skip : ¬ offR I c wk b → H_offerBooks_k26 G S J2 (c : Int) (wk : Int) ((b : Int) + 1) R := fun q => by
      refine ih (b + 1) J2 (by omega) hJ2 t2 hC2 (fun k hk => ?_)
      unfold ltB
      rw [if_neg (fun z => q ((hP b hb).1 z.1))]
      exact L2 k hk
    rw [f0]
    have ib : InR (b : Int) := ⟨by omega, by omega⟩
    by_cases ct : I r_bookTongue b = I r_campTongue c
    · rw [if_pos ct]
      refine ⟨fun _ => s_H_limit hS hJ2.1 (c_who hS hJ2 ib ⟨by omega, by omega⟩ (by rw [limC_tf t2.1]; exact hlr) ?_), fun q => absurd rfl q⟩
      rw [limC_tf t2.1, tf_nA t2.1, tf_who t2.1, whoR_le hI.1.le, w32_r (whoR_in hI.okR), show w32 (-1) = -1 from rfl]
      refine ⟨fun w => s_H_limit hS hJ2.1 (c_ever hS hJ2 ib ⟨by omega, by omega⟩ (fun y => ?_) (fun y => ?_)), fun w => skip (fun q => w q.2.1)⟩
      · exact br1 (skip (fun q => q.2.2.1 ((ever_tf t2.1 _ _).1 y)))
      · refine br0 (s_Ru_first hS hJ2 hF hFr ⟨by decide, by decide⟩ ?_)
        rw [lineR_cong t2.1 eF, w32_r (line_in hI _ _)]
        refine ⟨fun z => ?_, fun z => skip (fun q => z q.2.2.2)⟩
        have off : offR I c wk b := ⟨ct, w, fun x => y ((ever_tf t2.1 _ _).2 x), z⟩
        refine s_Bo_offer (P := P) hS hJ2 (by rw [tf_nB t2.1]; exact hb) ((hP b hb).2 off) (fun k hk => by rw [t2.1 r_bookKind (by decide) (by decide), t2.1 r_bookGrams (by decide) (by decide)]; exact L2 k hk) (fun F eF' hF' => ?_)
        rw [t2.1 r_bookKind (by decide) (by decide), t2.1 r_bookGrams (by decide) (by decide)] at hF'
        refine ih (b + 1) F (by omega) (hJ2.keepA (fun a ha => eF' a (by omega))) (t2.trans ⟨fun a h1 h2 => eF' a (by omega), fun a ha => eF' a (by omega)⟩) (hC2.keep2 eF') hF'
    · rw [if_neg ct]
      exact ⟨fun q => absurd q (by decide), fun _ => skip (fun q => ct q.1)⟩
end PLd
