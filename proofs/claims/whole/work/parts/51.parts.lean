/-! ===== PARTS, WEEK for WEEK ===== -/
def rowZ (nc : Nat) (p : Nat → Int) : Prop := ∀ j, nc ≤ j → j < 10 → p j = 0
theorem heS_z {nc : Nat} {p : Nat → Int} {c : Nat} {s : Int} (hc : c < nc) (hc2 : c < 10) (h : rowOk p) (hz : rowZ nc p) : rowZ nc (heS p c s).1 := by
  intro j hj hj2
  have hl := h.le hc2
  unfold heS
  split
  · split
    · exact hz j hj hj2
    · show ud (fun _ => 0) c 1000000 j = 0
      unfold ud; rw [if_neg (by omega)]
  · split
    · exact hz j hj hj2
    · next hne =>
      show shareRow (fun _ => 0) 1000000 (ud p c 0) (1000000 - p c) j = 0
      refine shareRow_out (e := fun _ => 0) (by decide) (fun i hi => ?_) ?_ (by omega) ?_
      · unfold ud; split
        · decide
        · exact h.1 i hi
      · rw [sumA_ud, if_pos hc2, h.2]; omega
      · unfold ud; rw [if_neg (by omega)]; exact hz j hj hj2
theorem nwS_z {NC NL NW NS NT : Nat → Int} {cp wk lm : Int} {p : Nat → Int} {nc : Nat} (hnc : nc ≤ 10) (h : rowOk p) (hz : rowZ nc p) : ∀ k, (∀ j, j < k → 0 ≤ NL j ∧ NL j < nc) → rowZ nc (nwS NC NL NW NS NT cp wk lm p k)
  | 0, _ => hz
  | k + 1, hl => by
    have ih := nwS_z (NC := NC) (NL := NL) (NW := NW) (NS := NS) (NT := NT) (cp := cp) (wk := wk) (lm := lm) hnc h hz k (fun j hj => hl j (by omega))
    have io := nwS_ok (NC := NC) (NL := NL) (NW := NW) (NS := NS) (NT := NT) (cp := cp) (wk := wk) (lm := lm) h k (fun j hj => by have := hl j (by omega); omega)
    have hk := hl k (by omega)
    show rowZ nc (if _ then _ else _)
    split
    · exact heS_z (by omega) (by omega) io ih
    · exact ih
theorem mvS_z {Wy g p : Nat → Int} {nc : Nat} (hp : ∀ j, j < 10 → 0 ≤ p j) (hg : ∀ j, j < 10 → 0 ≤ g j) (hw : ∀ c j, c < 10 → nc ≤ j → j < 10 → Wy (c * 10 + j) ≤ 0) : ∀ c, c ≤ nc → c ≤ 10 → rowZ nc (mvS Wy g p c)
  | 0, _, _ => fun _ _ _ => rfl
  | c + 1, h1, h2 => by
    have ih := mvS_z (Wy := Wy) hp hg hw c (by omega) (by omega)
    intro j hj hj2
    have ihj := ih j hj hj2
    rw [mvS]
    split
    · split
      · next ha =>
        have hw0 : ∀ i, i < 10 → 0 ≤ wvS Wy g c i := fun i hi => by
          unfold wvS; split
          · exact hg i hi
          · exact Int.le_refl _
        have hwj : wvS Wy g c j = 0 := by
          have := hw c j (by omega) hj hj2
          unfold wvS; rw [if_neg (by omega)]
        exact (shareRow_out (e := mvS Wy g p c) (hp c (by omega)) hw0 rfl ha hwj).trans ihj
      · unfold ud; rw [if_neg (by omega)]; exact ihj
    · exact ihj
theorem sumA_z {p : Nat → Int} {nc : Nat} (hz : rowZ nc p) : ∀ n, nc ≤ n → n ≤ 10 → sumA p n = sumA p nc := by
  intro n
  induction n with
  | zero => intro h _; rw [show nc = 0 by omega]
  | succ n ih =>
    intro h h2
    by_cases e : nc = n + 1
    · rw [e]
    · show sumA p n + p n = _
      rw [ih (by omega) (by omega), hz n (by omega) (by omega)]; omega
/-- what PARTS are worked out of: ways; GRASS (cells, weeks, numbers, told); NEWS (camps, cells, weeks, seen, told) -/
def PtOk (X : Nat → Nat → Int) (nc ng nn : Nat) : Prop := nc ≤ 10 ∧ ng ≤ 60 ∧ nn ≤ 60 ∧ (∀ j, j < 100 → InR (X 0 j)) ∧ (∀ c j, c < 10 → nc ≤ j → j < 10 → X 0 (c * 10 + j) ≤ 0) ∧ (∀ j, j < ng → 0 ≤ X 1 j ∧ X 1 j < 10) ∧ (∀ j, j < ng → 0 ≤ X 2 j ∧ X 2 j ≤ 99) ∧ (∀ j, j < ng → 0 ≤ X 3 j ∧ X 3 j ≤ 99) ∧ (∀ j, j < ng → InR (X 4 j)) ∧ (∀ j, j < nn → InR (X 5 j) ∧ InR (X 7 j) ∧ InR (X 8 j) ∧ InR (X 9 j)) ∧ (∀ j, j < nn → 0 ≤ X 6 j ∧ X 6 j < nc)
/-- the PARTS of a CAMP d WEEKS behind its first, before NEWS, and behind it; which NEWS is a QUARREL -/
def pt0 (X : Nat → Nat → Int) (nc ng nn : Nat) (cp lm : Int) (fc f : Nat) : Nat → Nat → Int
  | 0 => ud (fun _ => 0) fc 1000000
  | d + 1 => mvS (X 0) (grS (X 1) (X 2) (X 3) (X 4) ((f + (d + 1) : Nat) : Int) lm ng) (nwS (X 5) (X 6) (X 7) (X 8) (X 9) cp ((f + d : Nat) : Int) lm (pt0 X nc ng nn cp lm fc f d) nn) nc
def ptA (X : Nat → Nat → Int) (nc ng nn : Nat) (cp lm : Int) (fc f d : Nat) : Nat → Int := nwS (X 5) (X 6) (X 7) (X 8) (X 9) cp ((f + d : Nat) : Int) lm (pt0 X nc ng nn cp lm fc f d) nn
def quA (X : Nat → Nat → Int) (nc ng nn : Nat) (cp lm : Int) (fc f d i : Nat) : Int := (heS (nwS (X 5) (X 6) (X 7) (X 8) (X 9) cp ((f + d : Nat) : Int) lm (pt0 X nc ng nn cp lm fc f d) i) (X 6 i).toNat (X 8 i)).2
theorem grS_r {X : Nat → Nat → Int} {ng : Nat} {wk lm : Int} (hg : ∀ j, j < ng → 0 ≤ X 3 j ∧ X 3 j ≤ 99) (c : Nat) : 0 ≤ grS (X 1) (X 2) (X 3) (X 4) wk lm ng c ∧ grS (X 1) (X 2) (X 3) (X 4) wk lm ng c ≤ 99 := by
  have hin := lastA_in (B := X 1) (K := fun _ => 0) (W := X 2) (T := X 4) (bk := c) (lk := 0) (wk := wk) (lm := lm) ng
  unfold grS; split
  · omega
  · exact hg _ (by omega)
theorem pt_ok {X : Nat → Nat → Int} {nc ng nn : Nat} {cp lm : Int} {fc f : Nat} (hX : PtOk X nc ng nn) (hfc : fc < nc) : ∀ d, (rowOk (pt0 X nc ng nn cp lm fc f d) ∧ rowZ nc (pt0 X nc ng nn cp lm fc f d)) ∧ rowOk (ptA X nc ng nn cp lm fc f d) ∧ rowZ nc (ptA X nc ng nn cp lm fc f d) := by
  obtain ⟨h1, h2, h3, h4, h5, h6, h7, h8, h9, h10, h11⟩ := hX
  have st : ∀ d, (rowOk (pt0 X nc ng nn cp lm fc f d) ∧ rowZ nc (pt0 X nc ng nn cp lm fc f d)) → rowOk (ptA X nc ng nn cp lm fc f d) ∧ rowZ nc (ptA X nc ng nn cp lm fc f d) := fun d hd =>
    ⟨nwS_ok hd.1 nn (fun j hj => by have := h11 j hj; omega), nwS_z h1 hd.1 hd.2 nn h11⟩
  intro d
  induction d with
  | zero =>
    have hd : rowOk (pt0 X nc ng nn cp lm fc f 0) ∧ rowZ nc (pt0 X nc ng nn cp lm fc f 0) := by
      refine ⟨⟨fun j hj => ?_, sumA_ud0 fc (by omega) 1000000⟩, fun j hj hj2 => ?_⟩
      · show 0 ≤ ud (fun _ => 0) fc 1000000 j
        unfold ud; split
        · decide
        · exact Int.le_refl _
      · show ud (fun _ => 0) fc 1000000 j = 0
        unfold ud; rw [if_neg (by omega)]
    exact ⟨hd, st 0 hd⟩
  | succ d ih =>
    obtain ⟨-, io, iz⟩ := ih
    have hm := mvS_ok (Wy := X 0) (g := grS (X 1) (X 2) (X 3) (X 4) ((f + (d + 1) : Nat) : Int) lm ng) io.1 (fun j _ => (grS_r h8 j).1) nc h1
    have hd : rowOk (pt0 X nc ng nn cp lm fc f (d + 1)) ∧ rowZ nc (pt0 X nc ng nn cp lm fc f (d + 1)) := by
      refine ⟨⟨hm.1, ?_⟩, mvS_z io.1 (fun j _ => (grS_r h8 j).1) h5 nc (Nat.le_refl _) h1⟩
      refine hm.2.trans ?_
      rw [← sumA_z iz 10 h1 (Nat.le_refl _)]; exact io.2
    exact ⟨hd, st (d + 1) hd⟩
/-- the class' cells that PARTS are worked out of -/
def XC (I : XI) (X : Nat → Nat → Int) : Prop := I c_land_ways = X 0 ∧ I c_land_grassCells = X 1 ∧ I c_land_grassWeeks = X 2 ∧ I c_land_grassNumbers = X 3 ∧ I c_land_grassTold = X 4 ∧ I c_herds_newsCamps = X 5 ∧ I c_herds_newsCells = X 6 ∧ I c_herds_newsWeeks = X 7 ∧ I c_herds_newsSeen = X 8 ∧ I c_herds_newsTold = X 9
section PW
variable {G : XG} {S : XS}


end PW
