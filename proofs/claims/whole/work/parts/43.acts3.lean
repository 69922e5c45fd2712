/-! ===== the reference: due, late, held, torn, gives, ever had ===== -/
section P4
variable {G : XG} {S : XS} {I : XI} {n : Nat}
/-- what the reference's ACTS keep to -/
def actR (I : XI) (n : Nat) : Prop := I r_acts 0 = (n : Int) ∧ n ≤ 150 ∧ (∀ j, j < n → 0 ≤ I r_actKind j ∧ I r_actKind j ≤ 3) ∧ (∀ j, j < n → 0 ≤ I r_actWeek j ∧ I r_actWeek j ≤ 99) ∧ (∀ j, j < n → I r_actKind j = 2 → I r_actCamp j = -1) ∧ (∀ j, j < n → I r_actKind j = 0 → 1 ≤ I r_actMany j ∧ I r_actMany j ≤ 1000000) ∧ ∀ j, j < 100 → I r_dryWeek j = 0 ∨ I r_dryWeek j = 1
abbrev whoR (I : XI) (n : Nat) (q wk lm : Int) : Int := whoA (I r_actBook) (I r_actKind) (I r_actCamp) (I r_actWeek) (I r_actTold) q wk lm n
abbrev dueR (I : XI) (n : Nat) (q wk lm : Int) : Int := dueA (I r_actBook) (I r_actKind) (I r_actWeek) (I r_actTold) (I r_actMany) (I r_dryWeek) q wk lm n
theorem s_R_who {bk wk lm : Int} {R : Int → XI → Prop} (hS : xSh S) (hI : okR I) (hA : actR I n) (h1 : InR bk) (h3 : InR wk) (h4 : InR lm) (h : R (whoR I n bk wk lm) I) : R_whoHas G S I bk wk lm R :=
  s_R_whoHas hS hI hA.1 hA.2.1 hA.2.2.1 (fun j hj => (hA.2.2.2.1 j hj).1) hA.2.2.2.2.1 h1 h3 h4 h
theorem whoR_in {bk wk lm : Int} (hI : okR I) : InR (whoR I n bk wk lm) := whoA_InR fun j => hI _ j (by decide) (by decide)
/-- whoever has a BOOK has it by an ACT of lending: dueOf -/
theorem s_R_dueOf {bk wk lm : Int} {R : Int → XI → Prop} (hS : xSh S) (hI : okR I) (hA : actR I n) (h1 : InR bk) (h3 : InR wk) (h4 : InR lm)
    (hl : whoR I n bk wk lm ≠ -1 → (lastA (I r_actBook) (I r_actKind) (I r_actWeek) (I r_actTold) bk 0 wk lm n).1 ≠ -1)
    (h : R (if whoR I n bk wk lm = -1 then -1 else dueR I n bk wk lm) I) : R_dueOf G S I bk wk lm R := by
  obtain ⟨hn, hn2, hk, hw, hc, hm, hd⟩ := hA
  refine b_R_dueOf hS (s_R_whoHas hS hI hn hn2 hk (fun j hj => (hw j hj).1) hc h1 h3 h4 ?_)
  rw [w32_r (whoR_in (n := n) hI), show w32 (-1) = -1 from rfl]
  refine ⟨fun e => by rw [if_pos e] at h; exact h, fun e => ?_⟩
  rw [if_neg e] at h
  have hl := hl e
  refine s_R_lastAct (lk := 0) hS hI hn hn2 hk (fun j hj => (hw j hj).1) h1 h3 h4 (Or.inr ⟨rfl, rfl⟩) ?_
  unfold dueR dueA at h
  have hin := lastA_in (B := I r_actBook) (K := I r_actKind) (W := I r_actWeek) (T := I r_actTold) (bk := bk) (lk := 0) (wk := wk) (lm := lm) n
  have hsat := lastA_sat (B := I r_actBook) (K := I r_actKind) (W := I r_actWeek) (T := I r_actTold) (bk := bk) (lk := 0) (wk := wk) (lm := lm) n
  generalize (lastA (I r_actBook) (I r_actKind) (I r_actWeek) (I r_actTold) bk 0 wk lm n).1 = z at h hin hsat hl ⊢
  rw [w32_b (z := z) (by omega) (by omega)]
  rw [if_neg hl] at h
  have hs := hsat hl
  have hk1 := hk z.toNat (by omega)
  have hw1 := hw z.toNat (by omega)
  have hm1 := hm z.toNat (by omega) (by omega)
  refine ⟨fun e => absurd e hl, fun _ => ⟨inb_b (by omega) (by omega) (by decide), inb_b (by omega) (by omega) (by decide), ?_⟩⟩
  rw [ix_b (by omega) (by omega)]
  have e1 : I r_actWeek z.toNat = (((I r_actWeek z.toNat).toNat : Nat) : Int) := by omega
  rw [e1]
  exact s_R_dueOf_k hS hd hm1.1 hm1.2 (by omega) h
theorem s_R_isLate {bk wk lm : Int} {R : Int → XI → Prop} (hS : xSh S) (hI : okR I) (hA : actR I n) (h1 : InR bk) (h3 : InR wk) (h4 : InR lm)
    (hl : whoR I n bk wk lm ≠ -1 → (lastA (I r_actBook) (I r_actKind) (I r_actWeek) (I r_actTold) bk 0 wk lm n).1 ≠ -1) (hh : whoR I n bk wk lm ≠ -1)
    (ht : dueR I n bk wk lm < wk → R 1 I) (hf : ¬ dueR I n bk wk lm < wk → R 0 I) : R_isLate G S I bk wk lm R := by
  refine b_R_isLate hS (s_R_dueOf hS hI hA h1 h3 h4 hl ?_)
  rw [if_neg hh]
  have hdi := dueA_in (B := I r_actBook) (K := I r_actKind) (T := I r_actTold) (M := I r_actMany) (D := I r_dryWeek) (bk := bk) (wk := wk) (lm := lm) hA.2.2.2.1
  have hge : 0 ≤ dueR I n bk wk lm := by
    have hw := hA.2.2.2.1
    have hin := lastA_in (B := I r_actBook) (K := I r_actKind) (W := I r_actWeek) (T := I r_actTold) (bk := bk) (lk := 0) (wk := wk) (lm := lm) n
    unfold dueR dueA
    rw [if_neg (hl hh)]
    have hw1 := hw (lastA (I r_actBook) (I r_actKind) (I r_actWeek) (I r_actTold) bk 0 wk lm n).1.toNat (by have := hl hh; omega)
    exact (dueN_in _ _ _ (by omega)).1
  rw [w32_b (z := dueR I n bk wk lm) (by unfold dueR; omega) (by unfold dueR; omega), w32_r h3]
  exact ⟨fun e => absurd e (by omega), fun _ => ⟨fun e => hf (by omega), fun e => ht (by omega)⟩⟩
theorem s_R_held0 {cp wk lm : Int} {b : Nat} {R : Int → XI → Prop} (hS : xSh S) (hI : okR I) (hA : actR I n) (hb : I r_books 0 = (b : Int)) (hb2 : b ≤ 24) (h1 : InR cp) (h3 : InR wk) (h4 : InR lm)
    (h : R (cntA (fun q => whoR I n q wk lm) cp b) I) : R_held G S I cp wk lm 0 R := by
  refine b_R_held hS ?_
  refine down (n := b) (P := fun k => R_held_k6 G S I cp wk lm 0 (cntA (fun q => whoR I n q wk lm) cp k) (k : Int) R) ?_ ?_ 0 (Nat.zero_le _)
  · exact b_R_held_k6 hS ⟨fun _ => h, fun e => absurd (Int.le_refl _) (by rw [hb] at e; exact e)⟩
  · intro k hk ih
    refine b_R_held_k6 hS ?_
    rw [hb, w32_nat (by omega), w32_nat (by omega)]
    refine ⟨fun e => absurd e (by omega), fun _ => s_R_who hS hI hA ⟨by omega, by omega⟩ h3 h4 ?_⟩
    rw [w32_r (whoR_in hI), w32_r h1]
    unfold cntA at ih
    refine ⟨fun e => br0 (by rw [if_pos e] at ih; exact ih), fun e => ?_⟩
    rw [if_neg e] at ih; rw [Int.add_zero]; exact ih
theorem s_R_held1 {cp wk lm : Int} {b : Nat} {R : Int → XI → Prop} (hS : xSh S) (hI : okR I) (hA : actR I n) (hb : I r_books 0 = (b : Int)) (hb2 : b ≤ 24) (h1 : InR cp) (hcp : cp ≠ -1) (h3 : InR wk) (h4 : InR lm)
    (hl : ∀ q : Nat, q < b → whoR I n q wk lm ≠ -1 → (lastA (I r_actBook) (I r_actKind) (I r_actWeek) (I r_actTold) q 0 wk lm n).1 ≠ -1)
    (h : R (lateA (fun q => whoR I n q wk lm) (fun q => dueR I n q wk lm) cp wk b) I) : R_held G S I cp wk lm 1 R := by
  refine b_R_held hS ?_
  refine down (n := b) (P := fun k => R_held_k6 G S I cp wk lm 1 (lateA (fun q => whoR I n q wk lm) (fun q => dueR I n q wk lm) cp wk k) (k : Int) R) ?_ ?_ 0 (Nat.zero_le _)
  · exact b_R_held_k6 hS ⟨fun _ => h, fun e => absurd (Int.le_refl _) (by rw [hb] at e; exact e)⟩
  · intro k hk ih
    refine b_R_held_k6 hS ?_
    rw [hb, w32_nat (by omega), w32_nat (by omega)]
    refine ⟨fun e => absurd e (by omega), fun _ => s_R_who hS hI hA ⟨by omega, by omega⟩ h3 h4 ?_⟩
    rw [w32_r (whoR_in hI), w32_r h1]
    unfold lateA at ih
    refine ⟨fun e => br1 (s_R_isLate hS hI hA ⟨by omega, by omega⟩ h3 h4 (hl k hk) (by rw [e]; exact hcp) (fun e2 => br1 ?_) (fun e2 => br0 ?_)), fun e => ?_⟩
    · rw [if_pos ⟨e, e2⟩] at ih; exact ih
    · rw [if_neg (fun q => e2 q.2)] at ih; rw [Int.add_zero]; exact ih
    · rw [if_neg (fun q => e q.1)] at ih; rw [Int.add_zero]; exact ih
/-- what tearing adds, for the reference: of a BOOK or of any, of a CAMP or of any -/
def tornG (B C K W T M : Nat → Int) (bk cp wk lm : Int) (j : Nat) : Int := if (bk = -1 ∨ B j = bk) ∧ (cp = -1 ∨ C j = cp) ∧ K j = 3 ∧ W j ≤ wk ∧ T j ≤ lm then M j else 0
theorem s_R_torn {bk cp wk lm q : Int} {R : Int → XI → Prop} (hS : xSh S) (hI : okR I) (hn : I r_acts 0 = (n : Int)) (hn2 : n ≤ 150) (h1 : InR bk) (h2 : InR cp) (h3 : InR wk) (h4 : InR lm) (hq : q = 0 ∨ q = 1)
    (h : R (sumA (tornG (I r_actBook) (I r_actCamp) (I r_actKind) (I r_actWeek) (I r_actTold) (fun j => I r_actMany j * (if q = 0 then 1 else I r_actCost j)) bk cp wk lm) n) I) : R_torn G S I bk cp wk lm q R := by
  refine b_R_torn hS ?_
  refine down (n := n) (P := fun k => R_torn_k6 G S I bk cp wk lm q (sumA (tornG (I r_actBook) (I r_actCamp) (I r_actKind) (I r_actWeek) (I r_actTold) (fun j => I r_actMany j * (if q = 0 then 1 else I r_actCost j)) bk cp wk lm) k) (k : Int) R) ?_ ?_ 0 (Nat.zero_le _)
  · exact b_R_torn_k6 hS ⟨fun _ => h, fun e => absurd (Int.le_refl _) (by rw [hn] at e; exact e)⟩
  · intro k hk ih
    unfold sumA at ih
    generalize sumA (tornG (I r_actBook) (I r_actCamp) (I r_actKind) (I r_actWeek) (I r_actTold) (fun j => I r_actMany j * (if q = 0 then 1 else I r_actCost j)) bk cp wk lm) k = a at ih ⊢
    have k0 : ¬ ((bk = -1 ∨ I r_actBook k = bk) ∧ (cp = -1 ∨ I r_actCamp k = cp) ∧ I r_actKind k = 3 ∧ I r_actWeek k ≤ wk ∧ I r_actTold k ≤ lm) → R_torn_k88 G S I bk cp wk lm q a (k : Int) 0 R := by
      intro hc
      rw [show tornG (I r_actBook) (I r_actCamp) (I r_actKind) (I r_actWeek) (I r_actTold) (fun j => I r_actMany j * (if q = 0 then 1 else I r_actCost j)) bk cp wk lm k = 0 from if_neg hc] at ih
      exact b_R_torn_k88 hS (br0 ih)
    have k1 : ((bk = -1 ∨ I r_actBook k = bk) ∧ (cp = -1 ∨ I r_actCamp k = cp) ∧ I r_actKind k = 3 ∧ I r_actWeek k ≤ wk ∧ I r_actTold k ≤ lm) → R_torn_k88 G S I bk cp wk lm q a (k : Int) 1 R := by
      intro hc
      rw [show tornG (I r_actBook) (I r_actCamp) (I r_actKind) (I r_actWeek) (I r_actTold) (fun j => I r_actMany j * (if q = 0 then 1 else I r_actCost j)) bk cp wk lm k = I r_actMany k * (if q = 0 then 1 else I r_actCost k) from if_pos hc] at ih
      refine b_R_torn_k88 hS (br1 ⟨inb_b (by omega) (by omega) (by decide), ?_⟩)
      rw [ix_nat (by omega)]
      rcases hq with rfl | rfl
      · exact br0 ih
      · exact br1 ⟨inb_b (by omega) (by omega) (by decide), ih⟩
    have k60 : (bk = -1 ∨ I r_actBook k = bk) → (cp = -1 ∨ I r_actCamp k = cp) → I r_actKind k = 3 → R_torn_k60 G S I bk cp wk lm q a (k : Int) R := by
      intro c1 c2 c3
      refine b_R_torn_k60 hS ?_
      simp (disch := first | decide | omega) only [w32_nat, ix_nat, hI.w, w32_r h3, w32_r h4]
      exact ⟨inb_b (by omega) (by omega) (by decide), fun e => k0 (fun c => by omega), fun e => ⟨inb_b (by omega) (by omega) (by decide), fun e2 => k0 (fun c => by omega), fun e2 => k1 ⟨c1, c2, c3, by omega, by omega⟩⟩⟩
    have k44 : (bk = -1 ∨ I r_actBook k = bk) → I r_actKind k = 3 → R_torn_k44 G S I bk cp wk lm q a (k : Int) R := by
      intro c1 c3
      refine b_R_torn_k44 hS ?_
      simp (disch := first | decide | omega) only [w32_nat, ix_nat, hI.w, w32_r h2, show w32 (-1) = -1 from rfl]
      exact ⟨fun e => k60 c1 (Or.inl e) c3, fun e => ⟨inb_b (by omega) (by omega) (by decide), fun e2 => k60 c1 (Or.inr e2) c3, fun e2 => k0 (fun c => by rcases c.2.1 with c | c <;> contradiction)⟩⟩
    refine b_R_torn_k6 hS ?_
    simp (disch := first | decide | omega) only [hn, w32_nat, ix_nat, hI.w, w32_r h1, show w32 (-1) = -1 from rfl, show w32 3 = 3 from rfl]
    refine ⟨fun e => absurd e (by omega), fun _ => ⟨inb_b (by omega) (by omega) (by decide), fun e3 => ⟨fun e => k44 (Or.inl e) e3, fun e => ⟨inb_b (by omega) (by omega) (by decide), fun e2 => k44 (Or.inr e2) e3, fun e2 => k0 (fun c => by rcases c.1 with c | c <;> contradiction)⟩⟩, fun e3 => k0 (fun c => e3 c.2.2.1)⟩⟩
/-- THE VIEW -/
def viewR (I : XI) : Int := if I r_viewed 0 = -1 then I r_now 0 else I r_viewed 0
theorem s_R_viewWeek {R : Int → XI → Prop} (hS : xSh S) (hI : okR I) (h : R (viewR I) I) : R_viewWeek G S I R := by
  refine b_R_viewWeek hS ?_
  rw [hI.w _ (by decide) (by decide), show w32 (-1) = -1 from rfl]
  unfold viewR at h
  exact ⟨fun e => by rw [if_pos e] at h; exact h, fun e => by rw [if_neg e] at h; exact h⟩
theorem viewR_in (hI : okR I) : InR (viewR I) := by unfold viewR; split <;> exact hI _ _ (by decide) (by decide)
/-- an ACT by which a CAMP had the BOOK -/
def givesR (I : XI) (bk : Int) (j : Nat) : Prop := I r_actBook j = bk ∧ I r_actKind j ≤ 1 ∧ I r_actTold j ≤ viewR I
theorem s_R_gives {i bk : Int} {j : Nat} {R : Int → XI → Prop} (hS : xSh S) (hI : okR I) (hj : i = (j : Int)) (hj2 : j < 600) (h1 : InR bk) (ht : givesR I bk j → R 1 I) (hf : ¬ givesR I bk j → R 0 I) : R_gives G S I i bk R := by
  subst hj
  unfold givesR at ht hf
  refine b_R_gives hS ?_
  simp (disch := first | decide | omega) only [w32_nat, ix_nat, hI.w, w32_r h1, show w32 1 = 1 from rfl]
  refine ⟨inb_b (by omega) (by omega) (by decide), fun e => ⟨inb_b (by omega) (by omega) (by decide), fun e2 => hf (by omega), fun e2 => ⟨inb_b (by omega) (by omega) (by decide), s_R_viewWeek hS hI ?_⟩⟩, fun e => hf (by omega)⟩
  rw [w32_r (viewR_in hI)]
  exact ⟨fun e3 => hf (by omega), fun e3 => ht (by omega)⟩
theorem s_R_everHad {cp bk : Int} {R : Int → XI → Prop} (hS : xSh S) (hI : okR I) (hn : I r_acts 0 = (n : Int)) (hn2 : n ≤ 150) (h1 : InR bk) (h2 : InR cp)
    (ht : (∃ j, j < n ∧ givesR I bk j ∧ I r_actCamp j = cp) → R 1 I) (hf : ¬ (∃ j, j < n ∧ givesR I bk j ∧ I r_actCamp j = cp) → R 0 I) : R_everHad G S I cp bk R := by
  refine b_R_everHad hS ?_
  refine down (n := n) (P := fun k => (∀ j, j < k → ¬ (givesR I bk j ∧ I r_actCamp j = cp)) → R_everHad_k2 G S I cp bk (k : Int) R) ?_ ?_ 0 (Nat.zero_le _) (fun j hj => absurd hj (by omega))
  · intro hno
    exact b_R_everHad_k2 hS ⟨fun _ => hf (fun ⟨j, hj, q⟩ => hno j hj q), fun e => absurd (Int.le_refl _) (by rw [hn] at e; exact e)⟩
  · intro k hk ih hno
    have ih' : ¬ (givesR I bk k ∧ I r_actCamp k = cp) → R_everHad_k2 G S I cp bk ((k : Int) + 1) R := fun q => ih (fun j hj => by
      by_cases e : j = k
      · subst e; exact q
      · exact hno j (by omega))
    refine b_R_everHad_k2 hS ?_
    rw [hn, w32_nat (by omega), w32_nat (by omega)]
    refine ⟨fun e => absurd e (by omega), fun _ => s_R_gives hS hI rfl (by omega) h1 (fun hg => br1 ⟨inb_b (by omega) (by omega) (by decide), ?_⟩) (fun hg => br0 (ih' (fun q => hg q.1)))⟩
    rw [ix_nat (by omega), hI.w _ (by decide) (by decide), w32_r h2]
    exact ⟨fun e => ht ⟨k, hk, hg, e⟩, fun e => ih' (fun q => e q.2)⟩
end P4
