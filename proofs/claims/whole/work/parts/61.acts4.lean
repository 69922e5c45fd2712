/-! ===== ACTS: the class in the reference's words ===== -/
abbrev heldR (I : XI) (cp wk lm : Int) : Int := cntA (fun q => whoR I (nA I) q wk lm) cp (nB I)
abbrev lateR (I : XI) (cp wk lm : Int) : Int := lateA (fun q => whoR I (nA I) q wk lm) (fun q => dueR I (nA I) q wk lm) cp wk (nB I)
abbrev tornR (I : XI) (bk cp wk lm q : Int) : Int := sumA (tornG (I r_actBook) (I r_actCamp) (I r_actKind) (I r_actWeek) (I r_actTold) (fun j => I r_actMany j * (if q = 0 then 1 else I r_actCost j)) bk cp wk lm) (nA I)
/-- two limits let the same ACTS through -/
def LE (I : XI) (a b : Int) : Prop := ∀ j, j < nA I → (I r_actTold j ≤ a ↔ I r_actTold j ≤ b)
theorem lastA_lim2 {B K W T : Nat → Int} {bk lk wk a b : Int} : ∀ {n : Nat}, (∀ j, j < n → (T j ≤ a ↔ T j ≤ b)) → lastA B K W T bk lk wk a n = lastA B K W T bk lk wk b n
  | 0, _ => rfl
  | n + 1, h => by
    have ih := lastA_lim2 (B := B) (K := K) (W := W) (bk := bk) (lk := lk) (wk := wk) (n := n) (fun j hj => h j (by omega))
    have hn := h n (by omega)
    rw [lastA, lastA, ih]
    by_cases hc : B n = bk ∧ K n ≤ lk ∧ T n ≤ a ∧ W n ≤ wk ∧ (lastA B K W T bk lk wk b n).2 ≤ W n
    · rw [if_pos hc, if_pos ⟨hc.1, hc.2.1, hn.mp hc.2.2.1, hc.2.2.2⟩]
    · rw [if_neg hc, if_neg (fun q => hc ⟨q.1, q.2.1, hn.mpr q.2.2.1, q.2.2.2⟩)]
theorem lastA_ex {B K W T : Nat → Int} {bk lk wk lm : Int} : ∀ {n : Nat}, (∀ j, j < n → 0 ≤ W j) → ∀ i, i < n → B i = bk → K i ≤ lk → T i ≤ lm → W i ≤ wk → (lastA B K W T bk lk wk lm n).1 ≠ -1
  | 0, _, i, hi, _, _, _, _ => absurd hi (by omega)
  | n + 1, hw, i, hi, h1, h2, h3, h4 => by
    have hk := lastA_wk (B := B) (K := K) (W := W) (T := T) (bk := bk) (lk := lk) (wk := wk) (lm := lm) n
    have hn := hw n (by omega)
    rw [lastA]
    by_cases hc : B n = bk ∧ K n ≤ lk ∧ T n ≤ lm ∧ W n ≤ wk ∧ (lastA B K W T bk lk wk lm n).2 ≤ W n
    · rw [if_pos hc]; show (n : Int) ≠ -1; omega
    · rw [if_neg hc]
      by_cases e : i = n
      · subst e
        intro c
        rw [if_pos c] at hk
        exact hc ⟨h1, h2, h3, h4, by omega⟩
      · exact lastA_ex (fun j hj => hw j (by omega)) i (by omega) h1 h2 h3 h4
section LEs
variable {I : XI} {a b : Int}
theorem whoR_le (h : LE I a b) (q wk : Int) : whoR I (nA I) q wk a = whoR I (nA I) q wk b := by
  unfold whoR whoA; rw [lastA_lim2 h]
theorem dueR_le (h : LE I a b) (q wk : Int) : dueR I (nA I) q wk a = dueR I (nA I) q wk b := by
  unfold dueR dueA; rw [lastA_lim2 h]
theorem heldR_le (h : LE I a b) (cp wk : Int) : heldR I cp wk a = heldR I cp wk b := by
  unfold heldR
  exact cntA_congr (fun j _ => whoR_le h _ _)
theorem lateR_le (h : LE I a b) (cp wk : Int) : lateR I cp wk a = lateR I cp wk b := by
  unfold lateR
  exact lateA_congr (fun j _ => ⟨whoR_le h _ _, fun _ => dueR_le h _ _⟩)
theorem tornR_le (h : LE I a b) (bk cp wk q : Int) : tornR I bk cp wk a q = tornR I bk cp wk b q := by
  unfold tornR
  refine sumA_congr (fun j hj => ?_)
  have hj := h j hj
  unfold tornG
  by_cases c : (bk = -1 ∨ I r_actBook j = bk) ∧ (cp = -1 ∨ I r_actCamp j = cp) ∧ I r_actKind j = 3 ∧ I r_actWeek j ≤ wk ∧ I r_actTold j ≤ a
  · rw [if_pos c, if_pos ⟨c.1, c.2.1, c.2.2.1, c.2.2.2.1, hj.mp c.2.2.2.2⟩]
  · rw [if_neg c, if_neg (fun z => c ⟨z.1, z.2.1, z.2.2.1, z.2.2.2.1, hj.mpr z.2.2.2.2⟩)]
end LEs
theorem Now.le {I : XI} (h : Now I) : LE I (limC I) (viewR I) := by
  rcases h.lim2 with e | ⟨x, y⟩
  · rw [e]; exact fun _ _ => Iff.rfl
  · intro j hj
    have c := nA_c h.2.1
    have := (h.2.1.2.2.2.2.2.2.1.2 j (by omega)).2.2.2.2.2.1
    constructor <;> intro _ <;> omega
theorem Now.le99 {I : XI} (h : Now I) : LE I 99 (I r_now 0) := by
  intro j hj
  have c := nA_c h.2.1
  have := (h.2.1.2.2.2.2.2.2.1.2 j (by omega)).2.2.2.2.2.1
  have := h.2.1.1.1
  constructor <;> intro _ <;> omega
theorem Now.actR {I : XI} (h : Now I) : actR I (nA I) := by
  have c := nA_c h.2.1
  have g := h.2.1.2.2.2.2.2.2.1.2
  have n := h.2.1.1.1
  refine ⟨c.1, c.2, fun j hj => (g j (by omega)).2.1, fun j hj => ?_, fun j hj => (g j (by omega)).2.2.1, fun j hj e => ?_, h.2.1.2.1.2.2.2.2.2.2⟩
  · have := (g j (by omega)).2.2.2.2.1; omega
  · have := (g j (by omega)).2.2.2.2.2.2.1 e; omega
/-- whoever has a BOOK has it by an ACT of lending -/
theorem Now.lent {I : XI} (h : Now I) {q wk lm : Int} (hw : whoR I (nA I) q wk lm ≠ -1) : (lastA (I r_actBook) (I r_actKind) (I r_actWeek) (I r_actTold) q 0 wk lm (nA I)).1 ≠ -1 := by
  have c := nA_c h.2.1
  have g := h.2.1.2.2.2.2.2.2.1.2
  have hin := lastA_in (B := I r_actBook) (K := I r_actKind) (W := I r_actWeek) (T := I r_actTold) (bk := q) (lk := 2) (wk := wk) (lm := lm) (nA I)
  have hs := lastA_sat (B := I r_actBook) (K := I r_actKind) (W := I r_actWeek) (T := I r_actTold) (bk := q) (lk := 2) (wk := wk) (lm := lm) (nA I)
  unfold whoR whoA at hw
  generalize (lastA (I r_actBook) (I r_actKind) (I r_actWeek) (I r_actTold) q 2 wk lm (nA I)).1 = z at hw hin hs
  by_cases e : z = -1
  · rw [if_pos e] at hw; exact absurd rfl hw
  · rw [if_neg e] at hw
    obtain ⟨s1, s2, s3, s4⟩ := hs e
    obtain ⟨a1, a2, a3, a4, a5, a6, a7, a8, a9⟩ := g z.toNat (by omega)
    have h0 : ∀ j, j < nA I → 0 ≤ I r_actWeek j := fun j hj => by have := (g j (by omega)).2.2.2.2.1; omega
    by_cases k0 : I r_actKind z.toNat = 0
    · exact lastA_ex h0 z.toNat (by omega) s1 (by omega) s3 s4
    · by_cases k1 : I r_actKind z.toNat = 1
      · obtain ⟨i, i1, i2, i3, i4, i5⟩ := a9 k1
        exact lastA_ex h0 i (by omega) (i3.trans s1) (by omega) (by omega) (by omega)
      · exact absurd (a3 (by omega)) hw
section PA
variable {G : XG} {S : XS} {I : XI}
theorem Rel.okC {S : XS} {I : XI} (h : Rel S I) : okC I := h.1.okC h.2.2.2.2
theorem Rel.okR {S : XS} {I : XI} (h : Rel S I) : okR I := h.1.1
theorem Rel.pl {S : XS} {I : XI} (h : Rel S I) : Pl I 1 I := h.1.2.2.1
theorem Rel.good {S : XS} {I : XI} (h : Rel S I) : Good I := h.1.2.1
theorem whoC_eq (h : Rel S I) (q wk lm : Int) : whoA (I c_shelf_actBooks) (I c_shelf_actKinds) (I c_shelf_actCamps) (I c_shelf_actWeeks) (I c_shelf_actTold) q wk lm (nA I) = whoR I (nA I) q wk lm := by
  have c := nA_c h.good
  have p := h.pl
  have e : lastA (I c_shelf_actBooks) (I c_shelf_actKinds) (I c_shelf_actWeeks) (I c_shelf_actTold) q 2 wk lm (nA I) = lastA (I r_actBook) (I r_actKind) (I r_actWeek) (I r_actTold) q 2 wk lm (nA I) := lastA_congr (fun j hj => ⟨pl_actBook p j (by omega), pl_actKind p j (by omega), pl_actWeek p j (by omega), pl_actTold p j (by omega)⟩)
  have hin := lastA_in (B := I r_actBook) (K := I r_actKind) (W := I r_actWeek) (T := I r_actTold) (bk := q) (lk := 2) (wk := wk) (lm := lm) (nA I)
  unfold whoR whoA
  rw [e]
  generalize (lastA (I r_actBook) (I r_actKind) (I r_actWeek) (I r_actTold) q 2 wk lm (nA I)).1 = z at hin ⊢
  by_cases ez : z = -1
  · rw [if_pos ez, if_pos ez]
  · rw [if_neg ez, if_neg ez, pl_actCamp p _ (by omega)]
theorem dueN_cong {D D' : Nat → Int} : ∀ (f : Nat) (l : Int) (w : Nat), w + f ≤ 100 → (∀ j, j < 100 → D j = D' j) → dueN D f l w = dueN D' f l w
  | 0, _, _, _, _ => rfl
  | f + 1, l, w, h, e => by
    rw [dueN, dueN, e w (by omega), dueN_cong f _ _ (by omega) e]
theorem dueC_eq (h : Rel S I) (q wk lm : Int) : dueA (I c_shelf_actBooks) (I c_shelf_actKinds) (I c_shelf_actWeeks) (I c_shelf_actTold) (I c_shelf_actAmounts) (I c_land_dry) q wk lm (nA I) = dueR I (nA I) q wk lm := by
  have c := nA_c h.good
  have p := h.pl
  have e : lastA (I c_shelf_actBooks) (I c_shelf_actKinds) (I c_shelf_actWeeks) (I c_shelf_actTold) q 0 wk lm (nA I) = lastA (I r_actBook) (I r_actKind) (I r_actWeek) (I r_actTold) q 0 wk lm (nA I) := lastA_congr (fun j hj => ⟨pl_actBook p j (by omega), pl_actKind p j (by omega), pl_actWeek p j (by omega), pl_actTold p j (by omega)⟩)
  have hin := lastA_in (B := I r_actBook) (K := I r_actKind) (W := I r_actWeek) (T := I r_actTold) (bk := q) (lk := 0) (wk := wk) (lm := lm) (nA I)
  have hw := h.1.actR.2.2.2.1
  unfold dueR dueA
  rw [e]
  generalize (lastA (I r_actBook) (I r_actKind) (I r_actWeek) (I r_actTold) q 0 wk lm (nA I)).1 = z at hin ⊢
  by_cases ez : z = -1
  · rw [if_pos ez, if_pos ez]
  · have := hw z.toNat (by omega)
    rw [if_neg ez, if_neg ez, pl_actWeek p _ (by omega), pl_actMany p _ (by omega)]
    exact dueN_cong _ _ _ (by omega) (pl_dryWeek p)
theorem c_who {bk wk lm : Int} {R : Int → XI → Prop} (hS : xSh S) (h : Rel S I) (h1 : InR bk) (h3 : InR wk) (h4 : InR lm) (hk : R (whoR I (nA I) bk wk lm) I) : Sh_holder G S I bk wk lm R := by
  have c := nA_c h.good
  refine s_Sh_holder (n := nA I) hS h.okC ((pl_acts h.pl).trans c.1) c.2 h1 h3 h4 ?_
  rw [whoC_eq h]; exact hk
theorem actC (h : Rel S I) : (∀ j, j < nA I → 0 ≤ I c_shelf_actKinds j) ∧ (∀ j, j < nA I → 0 ≤ I c_shelf_actWeeks j ∧ I c_shelf_actWeeks j ≤ 99) ∧ (∀ j, j < nA I → I c_shelf_actKinds j = 0 → 1 ≤ I c_shelf_actAmounts j ∧ I c_shelf_actAmounts j ≤ 1000000) ∧ ∀ j, j < 100 → I c_land_dry j = 0 ∨ I c_land_dry j = 1 := by
  have c := nA_c h.good
  have p := h.pl
  obtain ⟨a1, a2, a3, a4, a5, a6, a7⟩ := h.1.actR
  refine ⟨fun j hj => ?_, fun j hj => ?_, fun j hj => ?_, fun j hj => ?_⟩
  · rw [pl_actKind p j (by omega)]; exact (a3 j hj).1
  · rw [pl_actWeek p j (by omega)]; exact a4 j hj
  · rw [pl_actKind p j (by omega), pl_actMany p j (by omega)]; exact a6 j hj
  · rw [pl_dryWeek p j hj]; exact a7 j hj
theorem c_due {bk wk lm : Int} {R : Int → XI → Prop} (hS : xSh S) (h : Rel S I) (h1 : InR bk) (h3 : InR wk) (h4 : InR lm) (hk : R (dueR I (nA I) bk wk lm) I) : Sh_dueWeek G S I bk wk lm R := by
  have c := nA_c h.good
  obtain ⟨a1, a2, a3, a4⟩ := actC h
  refine s_Sh_dueWeek (n := nA I) hS h.okC ((pl_acts h.pl).trans c.1) c.2 a1 a2 a3 a4 h1 h3 h4 ?_
  rw [dueC_eq h]; exact hk
theorem c_held {cp wk lm : Int} {R : Int → XI → Prop} (hS : xSh S) (h : Rel S I) (h1 : InR cp) (h3 : InR wk) (h4 : InR lm) (hk : R (heldR I cp wk lm) I) : Sh_heldBy G S I cp wk lm R := by
  have c := nA_c h.good
  have b := nB_c h.good
  refine s_Sh_heldBy (n := nA I) (b := nB I) hS h.okC ((pl_acts h.pl).trans c.1) c.2 ((pl_books h.pl).trans b.1) b.2 h1 h3 h4 ?_
  rw [cntA_congr (g := fun q => whoR I (nA I) q wk lm) (fun j _ => whoC_eq h _ _ _)]; exact hk
theorem c_late {cp wk lm : Int} {R : Int → XI → Prop} (hS : xSh S) (h : Rel S I) (h1 : InR cp) (h3 : InR wk) (h4 : InR lm) (hk : R (lateR I cp wk lm) I) : Sh_lateWith G S I cp wk lm R := by
  have c := nA_c h.good
  have b := nB_c h.good
  obtain ⟨a1, a2, a3, a4⟩ := actC h
  refine s_Sh_lateWith (n := nA I) (b := nB I) hS h.okC ((pl_acts h.pl).trans c.1) c.2 ((pl_books h.pl).trans b.1) b.2 a1 a2 a3 a4 h1 h3 h4 ?_
  rw [lateA_congr (f' := fun q => whoR I (nA I) q wk lm) (g' := fun q => dueR I (nA I) q wk lm) (fun j _ => ⟨whoC_eq h _ _ _, fun _ => dueC_eq h _ _ _⟩)]; exact hk
theorem c_torn {cp wk lm : Int} {R : Int → XI → Prop} (hS : xSh S) (h : Rel S I) (h1 : InR cp) (hc : cp ≠ -1) (h3 : InR wk) (h4 : InR lm) (hk : R (tornR I (-1) cp wk lm 0) I) : Sh_tornBy G S I cp wk lm R := by
  have c := nA_c h.good
  have p := h.pl
  refine s_Sh_tornBy (n := nA I) hS h.okC ((pl_acts p).trans c.1) c.2 h1 h3 h4 ?_
  unfold tornR at hk
  rw [sumA_congr (g := tornG (I r_actBook) (I r_actCamp) (I r_actKind) (I r_actWeek) (I r_actTold) (fun j => I r_actMany j * (if (0 : Int) = 0 then 1 else I r_actCost j)) (-1) cp wk lm) (fun j hj => ?_)]
  · exact hk
  · unfold tornF tornG
    rw [pl_actCamp p j (by omega), pl_actKind p j (by omega), pl_actWeek p j (by omega), pl_actTold p j (by omega), pl_actMany p j (by omega)]
    by_cases z : I r_actCamp j = cp ∧ I r_actKind j = 3 ∧ I r_actWeek j ≤ wk ∧ I r_actTold j ≤ lm
    · rw [if_pos z, if_pos ⟨Or.inl rfl, Or.inr z.1, z.2⟩]; simp
    · rw [if_neg z, if_neg (fun y => z ⟨y.2.1.resolve_left hc, y.2.2⟩)]
theorem c_owed {cp wk lm : Int} {R : Int → XI → Prop} (hS : xSh S) (h : Rel S I) (h1 : InR cp) (hc : cp ≠ -1) (h3 : InR wk) (h4 : InR lm) (hk : R (tornR I (-1) cp wk lm 1) I) : Sh_owedBy G S I cp wk lm R := by
  have c := nA_c h.good
  have p := h.pl
  refine s_Sh_owedBy (n := nA I) hS h.okC ((pl_acts p).trans c.1) c.2 h1 h3 h4 ?_
  unfold tornR at hk
  rw [sumA_congr (g := tornG (I r_actBook) (I r_actCamp) (I r_actKind) (I r_actWeek) (I r_actTold) (fun j => I r_actMany j * (if (1 : Int) = 0 then 1 else I r_actCost j)) (-1) cp wk lm) (fun j hj => ?_)]
  · exact hk
  · unfold tornF tornG
    rw [pl_actCamp p j (by omega), pl_actKind p j (by omega), pl_actWeek p j (by omega), pl_actTold p j (by omega)]
    by_cases z : I r_actCamp j = cp ∧ I r_actKind j = 3 ∧ I r_actWeek j ≤ wk ∧ I r_actTold j ≤ lm
    · rw [if_pos z, if_pos ⟨Or.inl rfl, Or.inr z.1, z.2⟩]
      show I c_shelf_actAmounts j * I c_shelf_actCosts j = I r_actMany j * (if (1 : Int) = 0 then 1 else I r_actCost j)
      rw [pl_actMany p j (by omega), pl_actCost p j (by omega)]; simp
    · rw [if_neg z, if_neg (fun y => z ⟨y.2.1.resolve_left hc, y.2.2⟩)]
theorem c_left {bk wk lm : Int} {q : Nat} {R : Int → XI → Prop} (hS : xSh S) (h : Rel S I) (hq : bk = (q : Int)) (hq2 : q < 24) (h3 : InR wk) (h4 : InR lm) (hk : R (I r_bookPages q - tornR I bk (-1) wk lm 0) I) : Sh_pagesLeft G S I bk wk lm R := by
  have c := nA_c h.good
  have p := h.pl
  refine s_Sh_pagesLeft (n := nA I) hS h.okC ((pl_acts p).trans c.1) c.2 hq hq2 h3 h4 ?_
  unfold tornR at hk
  rw [pl_bookPages p q hq2, sumA_congr (g := tornG (I r_actBook) (I r_actCamp) (I r_actKind) (I r_actWeek) (I r_actTold) (fun j => I r_actMany j * (if (0 : Int) = 0 then 1 else I r_actCost j)) bk (-1) wk lm) (fun j hj => ?_)]
  · exact hk
  · unfold tornF tornG
    rw [pl_actBook p j (by omega), pl_actKind p j (by omega), pl_actWeek p j (by omega), pl_actTold p j (by omega), pl_actMany p j (by omega)]
    by_cases z : I r_actBook j = bk ∧ I r_actKind j = 3 ∧ I r_actWeek j ≤ wk ∧ I r_actTold j ≤ lm
    · rw [if_pos z, if_pos ⟨Or.inr z.1, Or.inl rfl, z.2⟩]; simp
    · rw [if_neg z, if_neg (fun y => z ⟨y.1.resolve_left (by omega), y.2.2⟩)]
theorem c_ever {bk cp : Int} {R : Int → XI → Prop} (hS : xSh S) (h : Rel S I) (h1 : InR bk) (h2 : InR cp) (ht : (∃ j, j < nA I ∧ givesR I bk j ∧ I r_actCamp j = cp) → R 1 I) (hf : ¬ (∃ j, j < nA I ∧ givesR I bk j ∧ I r_actCamp j = cp) → R 0 I) : Sh_everHad G S I bk cp (limC I) R := by
  have c := nA_c h.good
  have p := h.pl
  have l := h.1.le
  have hl := limC_in h.good
  refine s_Sh_everHad (n := nA I) hS h.okC ((pl_acts p).trans c.1) c.2 h1 h2 ⟨by omega, by omega⟩ (fun ⟨j, j1, j2, j3, j4, j5⟩ => ht ⟨j, j1, ⟨?_, ?_, ?_⟩, ?_⟩) (fun hn => hf (fun ⟨j, j1, ⟨j2, j3, j4⟩, j5⟩ => hn ⟨j, j1, ?_, ?_, ?_, ?_⟩))
  · rw [← pl_actBook p j (by omega)]; exact j2
  · rw [← pl_actKind p j (by omega)]; exact j3
  · rw [pl_actTold p j (by omega)] at j5; exact (l j j1).mp j5
  · rw [← pl_actCamp p j (by omega)]; exact j4
  · rw [pl_actBook p j (by omega)]; exact j2
  · rw [pl_actKind p j (by omega)]; exact j3
  · rw [pl_actCamp p j (by omega)]; exact j5
  · rw [pl_actTold p j (by omega)]; exact (l j j1).mpr j4
end PA
