/-! ===== round, stop ===== -/
def sM (I : XI) (wk : Nat) : Nat → Int := fun j => smT (Xof I) (nC I) (nG I) (nN I) (FCo I) (FWo I) (viewR I) wk wk (nM I) j
theorem sM_eq {I I' : XI} (e : ∀ a, a < 45 → I' a = I a) (t : tf I I') (wk : Nat) : sM I' wk = sM I wk := by
  have vX : Xof I' = Xof I := Xof_eq (fun x hx => e x (by omega))
  have vC : FCo I' = FCo I := by funext c; show (I' c_herds_firstCells c).toNat = _; rw [e c_herds_firstCells (by decide)]
  have vW : FWo I' = FWo I := by funext c; show (I' c_herds_firstWeeks c).toNat = _; rw [e c_herds_firstWeeks (by decide)]
  have n1 : nC I' = nC I := by show (I' r_cells 0).toNat = _; rw [t r_cells (by decide) (by decide)]
  have n2 : nG I' = nG I := by show (I' r_grasses 0).toNat = _; rw [t r_grasses (by decide) (by decide)]
  have n3 : nN I' = nN I := by show (I' r_newsMany 0).toNat = _; rw [t r_newsMany (by decide) (by decide)]
  have n4 : nM I' = nM I := by show (I' r_camps 0).toNat = _; rw [t r_camps (by decide) (by decide)]
  unfold sM
  rw [vX, vC, vW, n1, n2, n3, n4, tf_view t]
abbrev bsM (I : XI) (wk : Nat) : Int := if I r_wells 0 = 1 then sM I wk 0 else 0
/-- the days of the class' walks are known, and true -/
def WkF (I : XI) : Prop := I c_walks 6 = 1 ∧ (∀ k, k < 100 → I c_walks_days k = flN (fl0 100000 (I c_land_ways)) 10 k) ∧ ∀ s c, s < 512 → c < 10 → HM (I c_land 1) (I c_walks_days) (I c_walks_home) s c
abbrev rB (I : XI) (wk : Nat) (most : Int) : Nat := chS most (mtS (sM I wk) (bsM I wk)) (fun s => I c_walks_home (s * 10)) 511
def RF (I : XI) (wk : Nat) (most : Int) : Prop := I c_walks 0 = (rB I wk most : Int) ∧ I c_walks 1 = I c_walks_home (rB I wk most * 10) ∧ I c_walks 2 = mtS (sM I wk) (bsM I wk) (rB I wk most)
theorem Rel.ways {S : XS} {I : XI} (h : Rel S I) : (∀ j, j < 100 → 0 ≤ I c_land_ways j ∧ I c_land_ways j ≤ 9) ∧ (∀ a b, a < 10 → b < 10 → I c_land_ways (a * 10 + b) = I c_land_ways (b * 10 + a)) := by
  refine ⟨fun j hj => by rw [pl_ways h.pl j hj]; exact h.good.2.1.2.1 j hj, fun a b ha hb => ?_⟩
  rw [pl_ways h.pl _ (by omega), pl_ways h.pl _ (by omega)]
  exact h.good.2.1.2.2.1 a b ha hb
theorem Rel.wells {S : XS} {I : XI} (h : Rel S I) : (0 ≤ I c_land 1 ∧ I c_land 1 < 1024) ∧ ∀ c, c < 10 → bitI (I c_land 1) c = I r_wells c := h.1.2.2.2.1
theorem allW_r {S : XS} {I : XI} (h : Rel S I) (s : Nat) : allW (I c_land 1) s ↔ ∀ t, t < 10 → hasS s t → I r_wells t = 1 := by
  constructor
  · intro q t ht z; rw [← h.wells.2 t ht]; exact q t ht z
  · intro q t ht z; rw [h.wells.2 t ht]; exact q t ht z
section PRw
variable {G : XG} {S : XS} {I : XI}
theorem s_H_walkRound {v1 v2 : Int} {R : Int → XI → Prop} (hS : xSh S) (hI : Rel S I) (a1 : InR v1) (a2 : InR v2) (hn : ¬ ((0 ≤ v1 ∧ v1 ≤ 99) ∧ (1 ≤ v2 ∧ v2 ≤ 60) ∧ I r_cells 0 ≠ 0) → R 0 I)
    (hy : ∀ wk : Nat, v1 = (wk : Int) → wk ≤ 99 → (1 ≤ v2 ∧ v2 ≤ 60) → I r_cells 0 ≠ 0 → ∀ I', Rel S I' → tf I I' → WkF I' → RF I' wk v2 → R 1 I') : H_walkRound G S I v1 v2 R := by
  have cc := nC_c hI.good
  have cm := nM_c hI.good
  refine b_H_walkRound hS (s_H_isWeek hS a1 (fun w1 w2 => br1 (s_isIn hS a2 ⟨by decide, by decide⟩ ⟨by decide, by decide⟩ (fun d1 d2 => br1 ?_) (fun q => br0 (hn (fun z => q z.2.1))))) (fun q => br0 (hn (fun z => q z.1))))
  rw [pl_cells hI.pl, w32_b (z := I r_cells 0) (by omega) (by omega)]
  refine ⟨fun e => hn (fun z => z.2.2 e), fun e => ?_⟩
  obtain ⟨wk, hwk⟩ : ∃ wk : Nat, v1 = (wk : Int) := ⟨v1.toNat, by omega⟩
  obtain ⟨y1, y2⟩ := hI.ways
  obtain ⟨z1, z2⟩ := hI.wells
  refine s_H_sumParts hS hI hwk hwk (by omega) (Nat.le_refl _) (fun I5 c5 f5 s5 => ?_)
  have sb := smT1_b hI (viewR I) wk (nM I) (Nat.le_refl _)
  have s0 := smT_b hI (viewR I) wk wk (by omega) (nM I) (Nat.le_refl _)
  refine s_Wa_choose (nc := nC I) (w := I c_land 1) (M := sM I wk) (W := I c_land_ways) hS (hI.2.2.1.eq (by rw [f5 _ (by decide)]) (f5 _ (by decide)) (f5 _ (by decide)) (f5 _ (by decide)) (by rw [f5 _ (by decide)])) (by rw [f5 _ (by decide), pl_cells hI.pl]; exact cc.1) (by omega) cc.2 (by rw [f5 _ (by decide)]) z1 (fun j hj => ?_) (f5 _ (by decide)) y1 y2 ⟨d1, d2⟩ (fun I6 k1 k2 k3 k4 k5 => ?_)
  · refine ⟨?_, (sb j hj).1, by have := (sb j hj).2; show smT _ _ _ _ _ _ _ _ _ _ _ ≤ _; omega⟩
    rw [s5 j hj]
    by_cases c : j < nC I
    · rw [if_pos c]; rfl
    · rw [if_neg c]; exact ((s0 j hj).2 (by omega)).symm
  · have e6 : ∀ a, (a < 45 ∨ (62 < a ∧ a ≠ 76)) → I6 a = I a := fun a ha => (k2 a (by omega)).trans (f5 a (by omega))
    have ht : tf I I6 := fun a h1 h2 => e6 a (by omega)
    have wf : WkF I6 := ⟨k1.1, fun k hk => by rw [e6 c_land_ways (by decide)]; exact k1.2.1 k hk, fun s c hs hc => by rw [e6 c_land (by decide)]; exact k1.2.2 s c hs hc⟩
    have hI6 : Rel S I6 := hI.keep (fun a ha => e6 a (by omega)) (c5.eq (fun a ha => k2 a (by omega))) (Or.inr wf)
    have em := sM_eq (fun a ha => e6 a (by omega)) ht wk
    have eb : bsM I6 wk = (if bitI (I c_land 1) 0 = 1 then sM I wk 0 else 0) := by
      unfold bsM; rw [em, ht r_wells (by decide) (by decide), z2 0 (by decide)]
    refine hy wk hwk (by omega) ⟨d1, d2⟩ e I6 hI6 ht wf ?_
    unfold RF rB
    rw [em, eb]
    exact ⟨k3, k4, k5⟩
theorem s_R_findRound {J : XI} {v1 v2 : Int} {ln : Nat → Int} {R : Int → XI → Prop} (hS : xSh S) (hI : Rel S I) (fJ : fmM I J) (a1 : InR v1) (a2 : InR v2) (hn : ¬ ((0 ≤ v1 ∧ v1 ≤ 99) ∧ (1 ≤ v2 ∧ v2 ≤ 60) ∧ I r_cells 0 ≠ 0) → R 0 J)
    (hln : ∀ L, LOk (flN (fl0 1000000 (I r_ways)) 10) L → LB L → ∀ s, s < 512 → ((∀ t, t < 10 → hasS s t → I r_wells t = 1) → ln s = sat (dR (flN (fl0 1000000 (I r_ways)) 10) L s)) ∧ (¬ (∀ t, t < 10 → hasS s t → I r_wells t = 1) → ln s = 100000))
    (hy : ∀ wk : Nat, v1 = (wk : Int) → ∀ J', Rel S J' → (∀ k, k < 100 → J' r_far k = flN (fl0 1000000 (I r_ways)) 10 k) → LOk (flN (fl0 1000000 (I r_ways)) 10) (J' r_least) → LB (J' r_least) → J' r_obj 79 = (chS v2 (mtS (sM I wk) (bsM I wk)) ln 511 : Int) → J' r_obj 80 = mtS (sM I wk) (bsM I wk) (chS v2 (mtS (sM I wk) (bsM I wk)) ln 511) → J' r_obj 81 = ln (chS v2 (mtS (sM I wk) (bsM I wk)) ln 511) → R 1 J') : R_findRound G S J v1 v2 R := by
  have cc := nC_c hI.good
  have cm := nM_c hI.good
  have y1 : ∀ j, j < 100 → 0 ≤ I r_ways j ∧ I r_ways j ≤ 9 := hI.good.2.1.2.1
  have y2 : ∀ a b, a < 10 → b < 10 → I r_ways (a * 10 + b) = I r_ways (b * 10 + a) := hI.good.2.1.2.2.1
  have ok := flN_ok (fl0_ok (F := 1000000) (by decide) y1 y2) 10 (Nat.le_refl _)
  refine b_R_findRound hS (s_R_isWeek hS a1 (fun w1 w2 => br1 (s_Rin hS a2 ⟨by decide, by decide⟩ ⟨by decide, by decide⟩ (fun d1 d2 => br1 ?_) (fun q => br0 (hn (fun z => q z.2.1))))) (fun q => br0 (hn (fun z => q z.1))))
  rw [fJ.tf r_cells (by decide) (by decide), w32_b (z := I r_cells 0) (by omega) (by omega)]
  refine ⟨fun e => hn (fun z => z.2.2 e), fun e => ?_⟩
  obtain ⟨wk, hwk⟩ : ∃ wk : Nat, v1 = (wk : Int) := ⟨v1.toNat, by omega⟩
  have sb := smT1_b hI (viewR I) wk (nM I) (Nat.le_refl _)
  have key := s_R_meets (G := G) (wk := wk) (most := v2) (R := R) hS hI (by omega) (fun J1 f1 s1 => ?_) J fJ
  · rw [← hwk] at key; exact key
  · refine s_R_findFar (W := I r_ways) hS (fun j _ => by rw [f1.tf r_ways (by decide) (by decide)]) y1 y2 (fun J2 g1 g2 => s_R_findLeast (D := flN (fl0 1000000 (I r_ways)) 10) hS (fun k hk => ⟨g1 k hk, ok.1 k hk⟩) (fun J3 l1 l2 l3 I8 e8 I9 e9 I10 e10 => ?_))
    have e3 : ∀ a, a ≠ 77 → I10 a = J3 a := fun a ha => by rw [e10, up_row ha, e9, up_row ha, e8, up_row ha]
    have f10 : fmF I I10 := fun a h1 h2 => (e3 a h1).trans ((l3 a (show a ≠ 143 by omega)).trans ((g2 a (show a ≠ 142 by omega)).trans (f1 a h1 (by omega))))
    refine s_R_pick (D := flN (fl0 1000000 (I r_ways)) 10) (L := J3 r_least) (M := sM I wk) (ln := ln) hS hI f10.tf ⟨d1, d2⟩ (fun k hk => ⟨?_, ok.1 k hk⟩) ok (e3 _ (by decide)) l2 (fun j hj => ⟨?_, (sb j hj).1, ?_⟩) (hln _ l1 l2) ?_ (fun J4 h1 h2 h3 h4 => ?_)
    · rw [e3 _ (by decide), l3 _ (by decide)]; exact g1 k hk
    · rw [e3 _ (by decide), l3 _ (by decide), g2 _ (by decide)]; exact s1 j hj
    · have := (sb j hj).2; show smT _ _ _ _ _ _ _ _ _ _ _ ≤ _; omega
    · rw [e10, up_2 _ (by decide), e9, up_2 _ (by decide), e8, up_s]
    · have f4 : fmF I J4 := fun a h5 h6 => (h1 a h5).trans (f10 a h5 h6)
      refine hy wk hwk J4 (hI.fmF f4) (fun k hk => ?_) ?_ ?_ h2 h3 h4
      · rw [h1 _ (by decide), e3 _ (by decide), l3 _ (by decide)]; exact g1 k hk
      · rw [h1 _ (by decide), e3 _ (by decide)]; exact l1
      · rw [h1 _ (by decide), e3 _ (by decide)]; exact l2
/-- the class' lengths against the reference's rows -/
theorem ln_ok (hI : Rel S I) (hw : WkF I) : ∀ L, LOk (flN (fl0 1000000 (I r_ways)) 10) L → LB L → ∀ s, s < 512 → ((∀ t, t < 10 → hasS s t → I r_wells t = 1) → I c_walks_home (s * 10) = sat (dR (flN (fl0 1000000 (I r_ways)) 10) L s)) ∧ (¬ (∀ t, t < 10 → hasS s t → I r_wells t = 1) → I c_walks_home (s * 10) = 100000) := by
  have y1 : ∀ j, j < 100 → 0 ≤ I r_ways j ∧ I r_ways j ≤ 9 := hI.good.2.1.2.1
  have y2 : ∀ a b, a < 10 → b < 10 → I r_ways (a * 10 + b) = I r_ways (b * 10 + a) := hI.good.2.1.2.2.1
  have ok := flN_ok (fl0_ok (F := 1000000) (by decide) y1 y2) 10 (Nat.le_refl _)
  have e1 : ∀ k, k < 100 → I c_walks_days k = sat (flN (fl0 1000000 (I r_ways)) 10 k) := fun k hk => by
    rw [hw.2.1 k hk, ← fl_sat y1 y2 10 (Nat.le_refl _) k hk]
    refine flN_cong (fun k hk => ?_) 10 (Nat.le_refl _) k hk
    unfold fl0
    rw [pl_ways hI.pl k hk]
  intro L hL hB s hs
  constructor
  · intro q
    have := home_sat (w := I c_land 1) ok e1 hw.2.2 hL hB s hs ((allW_r hI s).mpr q) 0 (by decide)
    rw [Nat.add_zero] at this
    rw [this, dR_hR ok]
  · intro q
    have := (hw.2.2 s 0 hs (by decide)).2 (fun z => q ((allW_r hI s).mp z))
    rw [Nat.add_zero] at this
    exact this
theorem s_R_findRound0 {J : XI} {v1 v2 : Int} {R : Int → XI → Prop} (hS : xSh S) (hI : Rel S I) (tJ : tf I J) (a1 : InR v1) (a2 : InR v2) (q : ¬ ((0 ≤ v1 ∧ v1 ≤ 99) ∧ (1 ≤ v2 ∧ v2 ≤ 60) ∧ I r_cells 0 ≠ 0)) (h : R 0 J) : R_findRound G S J v1 v2 R := by
  have cc := nC_c hI.good
  refine b_R_findRound hS (s_R_isWeek hS a1 (fun w1 w2 => br1 (s_Rin hS a2 ⟨by decide, by decide⟩ ⟨by decide, by decide⟩ (fun d1 d2 => br1 ?_) (fun _ => br0 h))) (fun _ => br0 h))
  rw [tJ r_cells (by decide) (by decide), w32_b (z := I r_cells 0) (by omega) (by omega)]
  exact ⟨fun _ => h, fun e => absurd ⟨⟨w1, w2⟩, ⟨d1, d2⟩, e⟩ q⟩
theorem rB_in (hI : Rel S I) (hw : WkF I) {wk : Nat} {most : Int} (hm : 1 ≤ most) : rB I wk most < 512 ∧ I c_walks_home (rB I wk most * 10) ≤ most := by
  have y := hI.ways
  have ok := flN_ok (fl0_ok (F := 100000) (by decide) y.1 y.2) 10 (Nat.le_refl _)
  have h00 : I c_walks_home (0 * 10) = 0 := by
    have := (hw.2.2 0 0 (by decide) (by decide)).1 (fun t _ q => by have := hasS_pos q; omega)
    rw [if_pos rfl, hw.2.1 0 (by decide)] at this
    exact this.trans (ok.2.1 0 (by decide))
  have ci := chS_in (most := most) (mt := mtS (sM I wk) (bsM I wk)) (ln := fun s => I c_walks_home (s * 10)) (by show I c_walks_home (0 * 10) ≤ most; rw [h00]; omega) 511
  exact ⟨by show chS _ _ _ _ < 512; omega, ci.2⟩
theorem t_round {v1 v2 v3 : Int} {R : Int → Int → XI → Prop} (hS : xSh S) (hI : Rel S I) (a1 : InR v1) (a2 : InR v2) (a3 : InR v3) (h : ∀ r J, Rel S J → R r r J) : H_round G S I v1 v2 v3 (fun r I1 => R_round G S I1 v1 v2 v3 (fun r' J => R r r' J)) := by
  refine b_H_round hS (s_H_walkRound hS hI a1 a2 (fun q => br0 ?_) (fun wk hwk w9 hd hc I' hI' ht wf rf => br1 ?_))
  · refine b_R_round hS (fun J e => ?_)
    obtain ⟨hJ, htJ, eJ⟩ := hI.code e
    exact s_Rin hS a3 ⟨by decide, by decide⟩ ⟨by decide, by decide⟩ (fun x1 x2 => br1 (s_R_findRound0 hS hI htJ a1 a2 q (br0 (h _ _ hJ)))) (fun n => br0 (h _ _ hJ))
  · obtain ⟨r0, r1, r2⟩ := rf
    have rb := rB_in (wk := wk) hI' wf hd.1
    have ref : ∀ T : Int → XI → Prop, (0 ≤ v3 ∧ v3 ≤ 2) → (∀ J', Rel S J' → ((v3 = 0 → T (mtS (sM I' wk) (bsM I' wk) (rB I' wk v2)) J') ∧ (v3 = 1 → T (I' c_walks_home (rB I' wk v2 * 10)) J') ∧ (v3 = 2 → T (2 * (rB I' wk v2 : Int)) J'))) → R_round G S I' v1 v2 v3 T := fun T h3 k => by
      refine b_R_round hS (fun J e => ?_)
      obtain ⟨hJ, htJ, eJ⟩ := hI'.code e
      refine s_Rin hS a3 ⟨by decide, by decide⟩ ⟨by decide, by decide⟩ (fun x1 x2 => br1 (s_R_findRound (I := I') (ln := fun s => I' c_walks_home (s * 10)) hS hI' (fun a h1 _ => eJ a h1) a1 a2 (fun q => absurd ⟨⟨by omega, by omega⟩, hd, by rw [ht r_cells (by decide) (by decide)]; exact hc⟩ q) (ln_ok hI' wf) (fun wk' hwk' J' hJ' _ _ _ h79 h80 h81 => br1 ?_))) (fun n => absurd h3 n)
      have ew : wk' = wk := by omega
      subst ew
      obtain ⟨k0, k1, k2⟩ := k J' hJ'
      rw [h79, h80, h81, w32_r a3, show w32 1 = 1 from rfl]
      exact ⟨k0, fun c => ⟨k1, fun c2 => k2 (by omega)⟩⟩
    rw [r0, r1, r2, w32_r a3]
    have esh : ishl (rB I' wk v2 : Int) 1 = 2 * (rB I' wk v2 : Int) := by
      have := ishlN (n := rB I' wk v2) (k := 1) (by decide) (by omega)
      rw [show ((1 : Nat) : Int) = 1 from rfl] at this
      rw [this]; omega
    refine ⟨fun c => ref _ (by omega) (fun J' hJ' => ⟨fun _ => h _ _ hJ', fun d => absurd d (by omega), fun d => absurd d (by omega)⟩), fun c => ref _ (by omega) (fun J' hJ' => ⟨fun d => absurd d (by omega), fun _ => h _ _ hJ', fun d => absurd d (by omega)⟩), fun c => ref _ (by omega) (fun J' hJ' => ⟨fun d => absurd d (by omega), fun d => absurd d (by omega), fun _ => ?_⟩), fun c => ?_⟩
    · rw [esh]; exact h _ _ hJ'
    · refine b_R_round hS (fun J e => ?_)
      obtain ⟨hJ, htJ, eJ⟩ := hI'.code e
      exact s_Rin hS a3 ⟨by decide, by decide⟩ ⟨by decide, by decide⟩ (fun x1 x2 => by omega) (fun n => br0 (h _ _ hJ))
end PRw
/-! a row that keeps to LOk, whatever the reference will find -/
def Lf (D : Nat → Int) : Nat → Nat → Nat → Int
  | 0, _, _ => 0
  | f + 1, s, c => if s = 2 ^ (c - 1) then D c else mnT 1000000 (fun t => hasS s t ∧ t ≠ c) (fun t => Lf D f (woS s c) t + D (t * 10 + c)) 10
theorem Lf_in {D : Nat → Int} (hf : flOk 1000000 D) : ∀ f s c, c < 10 → 0 ≤ Lf D f s c ∧ Lf D f s c ≤ 1000000
  | 0, _, _, _ => ⟨Int.le_refl _, (by decide : (0 : Int) ≤ 1000000)⟩
  | f + 1, s, c, hc => by
    rw [Lf]; split
    · exact hf.1 c (by omega)
    · exact mnT_in (by decide) (fun j hj _ => by
        have := Lf_in hf f (woS s c) j hj
        have := hf.1 (j * 10 + c) (by omega)
        omega)
theorem Lf_st {D : Nat → Int} : ∀ s, s < 512 → ∀ c, c < 10 → hasS s c → ∀ f g, s < f → s < g → Lf D f s c = Lf D g s c := by
  intro s
  induction s using Nat.strongRecOn with
  | ind s ih =>
    intro hs c hc hh f g hf hg
    obtain ⟨f', rfl⟩ : ∃ f', f = f' + 1 := ⟨f - 1, by omega⟩
    obtain ⟨g', rfl⟩ : ∃ g', g = g' + 1 := ⟨g - 1, by omega⟩
    have hw := set_wo s hs c hc hh
    rw [Lf, Lf]
    split
    · rfl
    · refine mnT_cong (fun t ht => ⟨Iff.rfl, fun q => ?_⟩)
      rw [ih (woS s c) hw.1 (by omega) t ht ((hw.2 t ht).mpr q) f' g' (by omega) (by omega)]
def Lc (D : Nat → Int) : Nat → Int := fun i => Lf D 600 (i / 10) (i % 10)
theorem Lc_ok {D : Nat → Int} (hf : flOk 1000000 D) : LOk D (Lc D) ∧ LB (Lc D) := by
  have ei : ∀ s c, c < 10 → Lc D (s * 10 + c) = Lf D 600 s c := fun s c hc => by
    unfold Lc; rw [show (s * 10 + c) / 10 = s by omega, show (s * 10 + c) % 10 = c by omega]
  refine ⟨fun s c hs hc hh => ?_, fun s c _ _ _ hc => by rw [ei s c hc]; exact Lf_in hf 600 s c hc⟩
  have hw := set_wo s hs c hc hh
  unfold LM
  rw [ei s c hc, Lf]
  split
  · rfl
  · refine mnT_cong (fun t ht => ⟨Iff.rfl, fun q => ?_⟩)
    rw [ei _ _ ht, Lf_st (woS s c) (by omega) t ht ((hw.2 t ht).mpr q) 599 600 (by omega) (by omega)]
theorem L_uniq {D L K : Nat → Int} (hL : LOk D L) (hK : LOk D K) : ∀ s, s < 512 → ∀ c, c < 10 → hasS s c → L (s * 10 + c) = K (s * 10 + c) := by
  intro s
  induction s using Nat.strongRecOn with
  | ind s ih =>
    intro hs c hc hh
    have hw := set_wo s hs c hc hh
    have a := hL s c hs hc hh
    have b := hK s c hs hc hh
    unfold LM at a b
    rw [a, b]
    split
    · rfl
    · refine mnT_cong (fun t ht => ⟨Iff.rfl, fun q => ?_⟩)
      rw [ih (woS s c) hw.1 (by omega) t ht ((hw.2 t ht).mpr q)]
theorem hR_uniq {D L K : Nat → Int} (hL : LOk D L) (hK : LOk D K) {s : Nat} (hs : s < 512) (x : Nat) : hR D L s x = hR D K s x := by
  unfold hR
  split
  · rfl
  · exact mnT_cong (fun t ht => ⟨Iff.rfl, fun q => by rw [L_uniq hL hK s hs t ht q]⟩)
theorem lsT_cong {P Q : Nat → Prop} [DecidablePred P] [DecidablePred Q] : ∀ f t, (∀ u, t ≤ u → u < t + f → (P u ↔ Q u)) → lsT P f t = lsT Q f t
  | 0, _, _ => rfl
  | f + 1, t, h => by
    have h0 := h t (Nat.le_refl _) (by omega)
    rw [lsT, lsT]
    by_cases c : P t
    · rw [if_pos c, if_pos (h0.mp c)]
    · rw [if_neg c, if_neg (fun q => c (h0.mpr q))]
      exact lsT_cong f (t + 1) (fun u h1 h2 => h u (by omega) (by omega))
theorem stF_uniq {D L K : Nat → Int} (hL : LOk D L) (hK : LOk D K) : ∀ f s x k i, s < 512 → stF D L f s x k i = stF D K f s x k i
  | 0, _, _, _, _, _ => rfl
  | f + 1, s, x, k, i, hs => by
    have e : lsT (stP D L s x) 8 1 = lsT (stP D K s x) 8 1 := lsT_cong 8 1 (fun u h1 h2 => by
      show (_ ∧ _) ↔ (_ ∧ _)
      rw [hR_uniq hL hK hs x]
      exact ⟨fun q => ⟨q.1, by rw [← L_uniq hL hK s hs u (by omega) q.1]; exact q.2⟩, fun q => ⟨q.1, by rw [L_uniq hL hK s hs u (by omega) q.1]; exact q.2⟩⟩)
    have hlt : woS s (lsT (stP D K s x) 8 1) < 512 := Nat.lt_of_le_of_lt (Nat.sub_le _ _) hs
    rw [stF, stF, e, stF_uniq hL hK f _ _ _ _ hlt]
section PRs
variable {G : XG} {S : XS} {I : XI}
theorem t_stop {v1 v2 v3 : Int} {R : Int → Int → XI → Prop} (hS : xSh S) (hI : Rel S I) (a1 : InR v1) (a2 : InR v2) (a3 : InR v3) (h : ∀ r J, Rel S J → R r r J) : H_stop G S I v1 v2 v3 (fun r I1 => R_stop G S I1 v1 v2 v3 (fun r' J => R r r' J)) := by
  refine b_H_stop hS (s_H_walkRound hS hI a1 a2 (fun q => br0 ?_) (fun wk hwk w9 hd hc I' hI' ht wf rf => br1 ?_))
  · refine b_R_stop hS (fun J e => ?_)
    obtain ⟨hJ, htJ, eJ⟩ := hI.code e
    exact s_R_findRound0 hS hI htJ a1 a2 q (br0 (h _ _ hJ))
  · obtain ⟨r0, r1, r2⟩ := rf
    have rb := rB_in (wk := wk) hI' wf hd.1
    have y1 : ∀ j, j < 100 → 0 ≤ I' r_ways j ∧ I' r_ways j ≤ 9 := hI'.good.2.1.2.1
    have y2 : ∀ a b, a < 10 → b < 10 → I' r_ways (a * 10 + b) = I' r_ways (b * 10 + a) := hI'.good.2.1.2.2.1
    have ok := flN_ok (fl0_ok (F := 1000000) (by decide) y1 y2) 10 (Nat.le_refl _)
    obtain ⟨lo, lb⟩ := Lc_ok ok
    have e1 : ∀ k, k < 100 → I' c_walks_days k = sat (flN (fl0 1000000 (I' r_ways)) 10 k) := fun k hk => by
      rw [wf.2.1 k hk, ← fl_sat y1 y2 10 (Nat.le_refl _) k hk]
      refine flN_cong (fun k hk => ?_) 10 (Nat.le_refl _) k hk
      unfold fl0
      rw [pl_ways hI'.pl k hk]
    have ll := ln_ok hI' wf _ lo lb (rB I' wk v2) rb.1
    have haw : ∀ t, t < 10 → hasS (rB I' wk v2) t → I' r_wells t = 1 := by
      rcases Classical.em (∀ t, t < 10 → hasS (rB I' wk v2) t → I' r_wells t = 1) with z | z
      · exact z
      · have := ll.2 z; omega
    have l60 := ll.1 haw
    rw [dR_hR ok] at l60
    have hri := hR_in ok lb (s := rB I' wk v2) (x := 0) rb.1 (by decide)
    have hle : hR (flN (fl0 1000000 (I' r_ways)) 10) (Lc (flN (fl0 1000000 (I' r_ways)) 10)) (rB I' wk v2) 0 ≤ 60 ∧ I' c_walks_home (rB I' wk v2 * 10) = hR (flN (fl0 1000000 (I' r_ways)) 10) (Lc (flN (fl0 1000000 (I' r_ways)) 10)) (rB I' wk v2) 0 := by
      have h1 := rb.2
      rw [l60] at h1 ⊢
      unfold sat at h1 ⊢
      split
      · next c => rw [if_pos c] at h1; exact ⟨by omega, rfl⟩
      · next c => rw [if_neg c] at h1; omega
    refine b_Wa_stopAt hS ?_
    rw [r0]
    refine s_Wa_stopAt_k (w := I' c_land 1) (D := flN (fl0 1000000 (I' r_ways)) 10) (L := Lc (flN (fl0 1000000 (I' r_ways)) 10)) hS a3 ok lo lb e1 wf.2.2 10 (rB I' wk v2) 0 0 rfl rb.1 (by decide) ((allW_r hI' _).mpr haw) (fun _ => hle.1) ?_
    refine b_R_stop hS (fun J e => ?_)
    obtain ⟨hJ, htJ, eJ⟩ := hI'.code e
    refine s_R_findRound (I := I') (ln := fun s => I' c_walks_home (s * 10)) hS hI' (fun a h1 _ => eJ a h1) a1 a2 (fun q => absurd ⟨⟨by omega, by omega⟩, hd, by rw [ht r_cells (by decide) (by decide)]; exact hc⟩ q) (ln_ok hI' wf) (fun wk' hwk' J' hJ' f1 f2 f3 h79 h80 h81 => br1 ?_)
    have ew : wk' = wk := by omega
    subst ew
    rw [w32_r a3, h79]
    refine ⟨fun i0 => ?_, fun i0 => ?_⟩
    · refine s_R_stop_k (D := flN (fl0 1000000 (I' r_ways)) 10) (L := J' r_least) (bd := I' c_walks_home (rB I' wk' v2 * 10)) hS a3 ok f2 f3 f1 rfl h81 (by omega) 10 (rB I' wk' v2) 0 0 0 rfl (by have := pc_in (rB I' wk' v2); omega) rb.1 (by decide) (Int.le_refl _) (fun _ => ?_) ?_
      · rw [hle.2, hR_uniq lo f2 rb.1]; omega
      · rw [stF_uniq f2 lo _ _ _ _ _ rb.1]; exact h _ _ hJ'
    · have neg : ∀ f s x (k : Int), 0 ≤ k → stF (flN (fl0 1000000 (I' r_ways)) 10) (Lc (flN (fl0 1000000 (I' r_ways)) 10)) f s x k v3 = -1 := by
        intro f
        induction f with
        | zero => intro _ _ _ _; rfl
        | succ f ih =>
          intro s x k hk
          rw [stF]
          by_cases s0 : s = 0
          · rw [if_pos s0]
          · rw [if_neg s0, if_neg (by omega)]; exact ih _ _ _ (by omega)
      rw [neg _ _ _ _ (by decide)]
      exact h _ _ hJ'
end PRs
