/-! ===== the class: PARTS reached ===== -/
section PW
variable {G : XG} {S : XS}
/-- what is known of a CAMP's PARTS is true -/
def knWn (I : XI) (X : Nat → Nat → Int) (nc ng nn c fc f : Nat) : Prop := -1 ≤ I c_now_knownTo c ∧ I c_now_knownTo c ≤ 99 ∧ ∀ w : Nat, f ≤ w → (w : Int) ≤ I c_now_knownTo c → (∀ j, j < 10 → I c_now_parts ((c * 100 + w) * 10 + j) = ptA X nc ng nn c (I c_now 6) fc f (w - f) j) ∧ ∀ i, i < nn → X 5 i = c → X 7 i = w → X 9 i ≤ I c_now 6 → I c_now_quarrels i = quA X nc ng nn c (I c_now 6) fc f (w - f) i
def fmWn (I I' : XI) (X : Nat → Nat → Int) (nn c : Nat) : Prop := (∀ a, a ≠ c_now_parts → a ≠ c_now_rests → a ≠ c_now_weights → a ≠ c_now_grass → a ≠ c_now_quarrels → a ≠ c_now_knownTo → I' a = I a) ∧ (∀ k, k ≠ c → I' c_now_knownTo k = I c_now_knownTo k) ∧ (∀ j, (j < c * 1000 ∨ c * 1000 + 1000 ≤ j) → I' c_now_parts j = I c_now_parts j) ∧ ∀ i, i < nn → X 5 i ≠ c → I' c_now_quarrels i = I c_now_quarrels i
theorem s_Wn_reach {I : XI} {c nc ng nn fc f wk : Nat} {X : Nat → Nat → Int} {cp wp : Int} {R : XI → Prop} (hS : xSh S) (hcp : cp = (c : Int)) (hc : c < 6) (hwp : wp = (wk : Int)) (hwk : wk ≤ 99) (hX : PtOk X nc ng nn) (hXC : XC I X) (hnc : I c_land 0 = (nc : Int)) (hng : I c_land 3 = (ng : Int)) (hnn : I c_herds 5 = (nn : Int)) (hf : I c_herds_firstWeeks c = (f : Int)) (hf2 : f ≤ 99) (hfc : I c_herds_firstCells c = (fc : Int)) (hfc2 : fc < nc) (h6 : InR (I c_now 6)) (hk : knWn I X nc ng nn c fc f)
    (h : ∀ I', knWn I' X nc ng nn c fc f → (f ≤ wk → (wk : Int) ≤ I' c_now_knownTo c) → fmWn I I' X nn c → R I') : Wn_reach G S I cp wp R := by
  subst hcp; subst hwp
  have hX' := hX
  obtain ⟨x1, x2, x3, x4, x5, x6, x7, x8, x9, x10, x11⟩ := hX
  refine b_Wn_reach hS ?_
  rw [ix_nat (by omega), hf]
  have hK := hk.1
  have hK2 := hk.2.1
  rw [w32_nat (by omega), w32_b (z := I c_now_knownTo c + 1) (by omega) (by omega)]
  refine ⟨inb_b (by omega) (by omega) (by decide), inb_b (by omega) (by omega) (by decide), ?_⟩
  have key : ∀ w, w ≤ wk + 1 → f ≤ w → ∀ I1 : XI, knWn I1 X nc ng nn c fc f → I1 c_now_knownTo c ≤ (w : Int) - 1 → (f < w → I1 c_now_knownTo c = (w : Int) - 1) → fmWn I I1 X nn c → Wn_reach_k26 G S I1 (c : Int) (wk : Int) (f : Int) (w : Int) R := by
    refine down (n := wk + 1) (P := fun w => f ≤ w → ∀ I1 : XI, knWn I1 X nc ng nn c fc f → I1 c_now_knownTo c ≤ (w : Int) - 1 → (f < w → I1 c_now_knownTo c = (w : Int) - 1) → fmWn I I1 X nn c → Wn_reach_k26 G S I1 (c : Int) (wk : Int) (f : Int) (w : Int) R) ?_ ?_
    · intro hfw I1 q1 q2 q3 q4
      refine b_Wn_reach_k26 hS ⟨fun _ => h I1 q1 (fun _ => ?_) q4, fun e => absurd ?_ e⟩
      · have := q3 (by omega); omega
      · rw [w32_nat (by omega), w32_nat (by omega)]; omega
    · intro w hw ih hfw I1 q1 q2 q3 q4
      obtain ⟨y0, y1, y2, y3, y4, y5, y6, y7, y8, y9⟩ := hXC
      have u : ∀ a, a ≠ c_now_parts → a ≠ c_now_rests → a ≠ c_now_weights → a ≠ c_now_grass → a ≠ c_now_quarrels → a ≠ c_now_knownTo → I1 a = I a := q4.1
      refine b_Wn_reach_k26 hS ⟨fun e => absurd e (by rw [w32_nat (by omega), w32_nat (by omega)]; omega), fun _ => ?_⟩
      refine s_rowOf hS rfl rfl ?_
      have hrow2 : (c * 100 + w) * 10 + 10 ≤ 6000 := by omega
      refine s_Wn_clearRow hS rfl hrow2 ?_
      have fin : ∀ I4 : XI, (∀ j, j < 10 → I4 c_now_parts ((c * 100 + w) * 10 + j) = pt0 X nc ng nn c (I c_now 6) fc f (w - f) j) → (∀ j, (j < (c * 100 + w) * 10 ∨ (c * 100 + w) * 10 + 10 ≤ j) → I4 c_now_parts j = I1 c_now_parts j) → (∀ a, a ≠ c_now_parts → a ≠ c_now_rests → a ≠ c_now_weights → a ≠ c_now_grass → I4 a = I1 a) → Wn_reach_k87 G S I4 (c : Int) (wk : Int) (f : Int) (w : Int) R := by
        intro I4 r1 r2 r3
        have v : ∀ a, a ≠ c_now_parts → a ≠ c_now_rests → a ≠ c_now_weights → a ≠ c_now_grass → a ≠ c_now_quarrels → a ≠ c_now_knownTo → I4 a = I a := fun a a1 a2 a3 a4 a5 a6 => (r3 a a1 a2 a3 a4).trans (u a a1 a2 a3 a4 a5 a6)
        have z5 : I4 c_herds_newsCamps = X 5 := (v _ (by decide) (by decide) (by decide) (by decide) (by decide) (by decide)).trans y5
        have z6 : I4 c_herds_newsCells = X 6 := (v _ (by decide) (by decide) (by decide) (by decide) (by decide) (by decide)).trans y6
        have z7 : I4 c_herds_newsWeeks = X 7 := (v _ (by decide) (by decide) (by decide) (by decide) (by decide) (by decide)).trans y7
        have z8 : I4 c_herds_newsSeen = X 8 := (v _ (by decide) (by decide) (by decide) (by decide) (by decide) (by decide)).trans y8
        have z9 : I4 c_herds_newsTold = X 9 := (v _ (by decide) (by decide) (by decide) (by decide) (by decide) (by decide)).trans y9
        have zl : I4 c_now 6 = I c_now 6 := by rw [v _ (by decide) (by decide) (by decide) (by decide) (by decide) (by decide)]
        have l1 : I1 c_now 6 = I c_now 6 := by rw [u _ (by decide) (by decide) (by decide) (by decide) (by decide) (by decide)]
        have ew : ((f + (w - f) : Nat) : Int) = (w : Int) := by omega
        refine b_Wn_reach_k87 hS (s_Wn_hear (nn := nn) (p := pt0 X nc ng nn c (I c_now 6) fc f (w - f)) hS rfl hc rfl (by omega) (by rw [v _ (by decide) (by decide) (by decide) (by decide) (by decide) (by decide)]; exact hnn) x3 ?_ ?_ (by rw [zl]; exact h6) r1 (pt_ok hX' hfc2 _).1.1 ?_)
        · intro a ha j hj
          have := x10 j hj
          rcases ha with rfl | rfl | rfl | rfl
          · rw [z5]; exact this.1
          · rw [z7]; exact this.2.1
          · rw [z9]; exact this.2.2.2
          · rw [z8]; exact this.2.2.1
        · intro j hj
          rw [z6]; have := x11 j hj; omega
        · rw [z5, z6, z7, z8, z9, zl]
          intro I6 s1 s2 s3 s4
          rw [ix_nat (by omega)]
          refine ⟨inb_b (by omega) (by omega) (by decide), fun I7 e7 => ?_⟩
          subst e7
          have k7 : up I6 c_now_knownTo c (w : Int) c_now_knownTo c = (w : Int) := up_s _ _ _ _
          have m1 : ∀ a, a ≠ c_now_parts → a ≠ c_now_rests → a ≠ c_now_weights → a ≠ c_now_grass → a ≠ c_now_quarrels → a ≠ c_now_knownTo → up I6 c_now_knownTo c (w : Int) a = I a := fun a a1 a2 a3 a4 a5 a6 => by rw [up_row a6, s4 a a1 a2 a3 a5]; exact v a a1 a2 a3 a4 a5 a6
          have ml : up I6 c_now_knownTo c (w : Int) c_now 6 = I c_now 6 := by rw [m1 _ (by decide) (by decide) (by decide) (by decide) (by decide) (by decide)]
          have hq : ∀ i, i < nn → ¬ (X 5 i = (c : Int) ∧ X 7 i = (w : Int) ∧ X 9 i ≤ I c_now 6) → I6 c_now_quarrels i = I1 c_now_quarrels i := fun i hi hz => by rw [s3 i hi, if_neg hz, r3 _ (by decide) (by decide) (by decide) (by decide)]
          refine ih (by omega) _ ⟨by rw [k7]; omega, by rw [k7]; omega, fun w' hw1 hw2 => ?_⟩ (by rw [k7]; omega) (fun _ => by rw [k7]; omega) ⟨m1, fun k hk' => ?_, fun j hj => ?_, fun i hi hne => ?_⟩
          · rw [k7] at hw2
            rw [ml]
            by_cases e : w' = w
            · subst e
              refine ⟨fun j hj => ?_, fun i hi e5 e7' e9 => ?_⟩
              · rw [up_1 _ (by decide), s1 j hj]; unfold ptA; rw [ew]
              · rw [up_1 _ (by decide), s3 i hi, if_pos ⟨e5, e7', e9⟩]; unfold quA; rw [ew]
            · have hlt : w' < w := by omega
              have q0 := q3 (by omega)
              obtain ⟨t1, t2⟩ := q1.2.2 w' hw1 (by omega)
              rw [l1] at t1 t2
              refine ⟨fun j hj => ?_, fun i hi e5 e7' e9 => ?_⟩
              · rw [up_1 _ (by decide), s2 _ (by omega), r2 _ (by omega)]; exact t1 j hj
              · rw [up_1 _ (by decide), hq i hi (fun q => by omega)]; exact t2 i hi e5 e7' e9
          · rw [up_2 _ hk', s4 _ (by decide) (by decide) (by decide) (by decide), r3 _ (by decide) (by decide) (by decide) (by decide)]; exact q4.2.1 k hk'
          · rw [up_1 _ (by decide), s2 _ (by omega), r2 _ (by omega)]; exact q4.2.2.1 j hj
          · rw [up_1 _ (by decide), hq i hi (fun q => hne q.1)]; exact q4.2.2.2 i hi hne
      have uc : ∀ a, a ≠ c_now_parts → xclr I1 c_now_parts ((c * 100 + w) * 10) 10 a = I1 a := fun a ha => xclr_out ha
      rw [w32_nat (by omega), w32_nat (by omega), ix_nat (by omega)]
      refine ⟨fun e => ?_, fun e => ?_⟩
      · have e' : w = f := by omega
        rw [uc _ (by decide), u c_herds_firstCells (by decide) (by decide) (by decide) (by decide) (by decide) (by decide), hfc]
        refine ⟨inb_b (by omega) (by omega) (by decide), inb_b (by omega) (by omega) (by decide), fun I4 e4 => ?_⟩
        rw [ix_add (by omega)] at e4
        subst e4
        refine fin _ (fun j hj => ?_) (fun j hj => ?_) (fun a a1 _ _ _ => ?_)
        · rw [show w - f = 0 by omega]
          show _ = ud (fun _ => 0) fc 1000000 j
          unfold ud
          by_cases ej : j = fc
          · rw [if_pos ej, ej, up_s]
          · rw [if_neg ej, up_2 _ (by omega)]; exact xclr_in hj
        · rw [up_2 _ (by omega)]; exact xclr_else hj
        · rw [up_row a1]; exact uc a a1
      · have hlt : f < w := by omega
        have q0 := q3 hlt
        have l1 : I1 c_now 6 = I c_now 6 := by rw [u _ (by decide) (by decide) (by decide) (by decide) (by decide) (by decide)]
        obtain ⟨t1, -⟩ := q1.2.2 (w - 1) (by omega) (by omega)
        rw [l1] at t1
        have po := (pt_ok (cp := c) (lm := I c_now 6) (f := f) hX' hfc2 (w - 1 - f)).2.1
        have b : ∀ a, a ≠ c_now_parts → a ≠ c_now_rests → a ≠ c_now_weights → a ≠ c_now_grass → a ≠ c_now_quarrels → a ≠ c_now_knownTo → xclr I1 c_now_parts ((c * 100 + w) * 10) 10 a = I a := fun a a1 a2 a3 a4 a5 a6 => (uc a a1).trans (u a a1 a2 a3 a4 a5 a6)
        have z0 := (b c_land_ways (by decide) (by decide) (by decide) (by decide) (by decide) (by decide)).trans y0
        have z1 := (b c_land_grassCells (by decide) (by decide) (by decide) (by decide) (by decide) (by decide)).trans y1
        have z2 := (b c_land_grassWeeks (by decide) (by decide) (by decide) (by decide) (by decide) (by decide)).trans y2
        have z3 := (b c_land_grassNumbers (by decide) (by decide) (by decide) (by decide) (by decide) (by decide)).trans y3
        have z4 := (b c_land_grassTold (by decide) (by decide) (by decide) (by decide) (by decide) (by decide)).trans y4
        have zl : xclr I1 c_now_parts ((c * 100 + w) * 10) 10 c_now 6 = I c_now 6 := by rw [b _ (by decide) (by decide) (by decide) (by decide) (by decide) (by decide)]
        refine s_Wn_move (nc := nc) (ng := ng) (p := ptA X nc ng nn c (I c_now 6) fc f (w - 1 - f)) hS rfl (by omega) hrow2 (by rw [b _ (by decide) (by decide) (by decide) (by decide) (by decide) (by decide)]; exact hnc) x1 ?_ (fun j hj => ⟨po.1 j hj, po.le hj⟩) (fun j hj => xclr_in hj) (by rw [z0]; exact x4) (by rw [b _ (by decide) (by decide) (by decide) (by decide) (by decide) (by decide)]; exact hng) x2 (by rw [z1]; exact x6) (by rw [z2]; exact x7) (by rw [z4]; exact x9) (by rw [z3]; exact x8) ⟨by omega, by omega⟩ (by rw [zl]; exact h6) ?_
        · intro j hj
          rw [xclr_else (by omega), show (c * 100 + w) * 10 - 10 + j = (c * 100 + (w - 1)) * 10 + j by omega]
          exact t1 j hj
        · rw [z0, z1, z2, z3, z4, zl]
          intro I5 g1 g2 g3
          refine fin I5 (fun j hj => ?_) (fun j hj => ?_) (fun a a1 a2 a3 a4 => (g3 a a1 a2 a3 a4).trans (uc a a1))
          · rw [g1 j hj]
            have ed : w - f = (w - 1 - f) + 1 := by omega
            rw [ed]
            show _ = mvS _ _ _ nc j
            rw [show ((f + (w - 1 - f + 1) : Nat) : Int) = (w : Int) by omega]
            rfl
          · rw [g2 j hj]; exact xclr_else hj
  by_cases hlt : (f : Int) < I c_now_knownTo c + 1
  · rw [if_pos hlt]
    by_cases hle : I c_now_knownTo c + 1 ≤ (wk : Int) + 1
    · have e : I c_now_knownTo c + 1 = ((I c_now_knownTo c + 1).toNat : Int) := by omega
      rw [e]
      exact key _ (by omega) (by omega) I hk (by omega) (fun _ => by omega) ⟨fun _ _ _ _ _ _ _ => rfl, fun _ _ => rfl, fun _ _ => rfl, fun _ _ _ => rfl⟩
    · refine b_Wn_reach_k26 hS ⟨fun _ => h I hk (fun _ => by omega) ⟨fun _ _ _ _ _ _ _ => rfl, fun _ _ => rfl, fun _ _ => rfl, fun _ _ _ => rfl⟩, fun e => absurd ?_ e⟩
      rw [w32_nat (by omega), w32_b (by omega) (by omega)]; omega
  · rw [if_neg hlt]
    by_cases hle : f ≤ wk + 1
    · exact key f hle (Nat.le_refl _) I hk (by omega) (fun e => absurd e (by omega)) ⟨fun _ _ _ _ _ _ _ => rfl, fun _ _ => rfl, fun _ _ => rfl, fun _ _ _ => rfl⟩
    · refine b_Wn_reach_k26 hS ⟨fun _ => h I hk (fun _ => by omega) ⟨fun _ _ _ _ _ _ _ => rfl, fun _ _ => rfl, fun _ _ => rfl, fun _ _ _ => rfl⟩, fun e => absurd ?_ e⟩
      rw [w32_nat (by omega), w32_nat (by omega)]; omega
/-- what is known of a CAMP's PARTS is true -/
def knWt (I : XI) (X : Nat → Nat → Int) (nc ng nn c fc f : Nat) : Prop := -1 ≤ I c_then_knownTo c ∧ I c_then_knownTo c ≤ 99 ∧ ∀ w : Nat, f ≤ w → (w : Int) ≤ I c_then_knownTo c → (∀ j, j < 10 → I c_then_parts ((c * 100 + w) * 10 + j) = ptA X nc ng nn c (I c_then 6) fc f (w - f) j) ∧ ∀ i, i < nn → X 5 i = c → X 7 i = w → X 9 i ≤ I c_then 6 → I c_then_quarrels i = quA X nc ng nn c (I c_then 6) fc f (w - f) i
def fmWt (I I' : XI) (X : Nat → Nat → Int) (nn c : Nat) : Prop := (∀ a, a ≠ c_then_parts → a ≠ c_then_rests → a ≠ c_then_weights → a ≠ c_then_grass → a ≠ c_then_quarrels → a ≠ c_then_knownTo → I' a = I a) ∧ (∀ k, k ≠ c → I' c_then_knownTo k = I c_then_knownTo k) ∧ (∀ j, (j < c * 1000 ∨ c * 1000 + 1000 ≤ j) → I' c_then_parts j = I c_then_parts j) ∧ ∀ i, i < nn → X 5 i ≠ c → I' c_then_quarrels i = I c_then_quarrels i
theorem s_Wt_reach {I : XI} {c nc ng nn fc f wk : Nat} {X : Nat → Nat → Int} {cp wp : Int} {R : XI → Prop} (hS : xSh S) (hcp : cp = (c : Int)) (hc : c < 6) (hwp : wp = (wk : Int)) (hwk : wk ≤ 99) (hX : PtOk X nc ng nn) (hXC : XC I X) (hnc : I c_land 0 = (nc : Int)) (hng : I c_land 3 = (ng : Int)) (hnn : I c_herds 5 = (nn : Int)) (hf : I c_herds_firstWeeks c = (f : Int)) (hf2 : f ≤ 99) (hfc : I c_herds_firstCells c = (fc : Int)) (hfc2 : fc < nc) (h6 : InR (I c_then 6)) (hk : knWt I X nc ng nn c fc f)
    (h : ∀ I', knWt I' X nc ng nn c fc f → (f ≤ wk → (wk : Int) ≤ I' c_then_knownTo c) → fmWt I I' X nn c → R I') : Wt_reach G S I cp wp R := by
  subst hcp; subst hwp
  have hX' := hX
  obtain ⟨x1, x2, x3, x4, x5, x6, x7, x8, x9, x10, x11⟩ := hX
  refine b_Wt_reach hS ?_
  rw [ix_nat (by omega), hf]
  have hK := hk.1
  have hK2 := hk.2.1
  rw [w32_nat (by omega), w32_b (z := I c_then_knownTo c + 1) (by omega) (by omega)]
  refine ⟨inb_b (by omega) (by omega) (by decide), inb_b (by omega) (by omega) (by decide), ?_⟩
  have key : ∀ w, w ≤ wk + 1 → f ≤ w → ∀ I1 : XI, knWt I1 X nc ng nn c fc f → I1 c_then_knownTo c ≤ (w : Int) - 1 → (f < w → I1 c_then_knownTo c = (w : Int) - 1) → fmWt I I1 X nn c → Wt_reach_k26 G S I1 (c : Int) (wk : Int) (f : Int) (w : Int) R := by
    refine down (n := wk + 1) (P := fun w => f ≤ w → ∀ I1 : XI, knWt I1 X nc ng nn c fc f → I1 c_then_knownTo c ≤ (w : Int) - 1 → (f < w → I1 c_then_knownTo c = (w : Int) - 1) → fmWt I I1 X nn c → Wt_reach_k26 G S I1 (c : Int) (wk : Int) (f : Int) (w : Int) R) ?_ ?_
    · intro hfw I1 q1 q2 q3 q4
      refine b_Wt_reach_k26 hS ⟨fun _ => h I1 q1 (fun _ => ?_) q4, fun e => absurd ?_ e⟩
      · have := q3 (by omega); omega
      · rw [w32_nat (by omega), w32_nat (by omega)]; omega
    · intro w hw ih hfw I1 q1 q2 q3 q4
      obtain ⟨y0, y1, y2, y3, y4, y5, y6, y7, y8, y9⟩ := hXC
      have u : ∀ a, a ≠ c_then_parts → a ≠ c_then_rests → a ≠ c_then_weights → a ≠ c_then_grass → a ≠ c_then_quarrels → a ≠ c_then_knownTo → I1 a = I a := q4.1
      refine b_Wt_reach_k26 hS ⟨fun e => absurd e (by rw [w32_nat (by omega), w32_nat (by omega)]; omega), fun _ => ?_⟩
      refine s_rowOf hS rfl rfl ?_
      have hrow2 : (c * 100 + w) * 10 + 10 ≤ 6000 := by omega
      refine s_Wt_clearRow hS rfl hrow2 ?_
      have fin : ∀ I4 : XI, (∀ j, j < 10 → I4 c_then_parts ((c * 100 + w) * 10 + j) = pt0 X nc ng nn c (I c_then 6) fc f (w - f) j) → (∀ j, (j < (c * 100 + w) * 10 ∨ (c * 100 + w) * 10 + 10 ≤ j) → I4 c_then_parts j = I1 c_then_parts j) → (∀ a, a ≠ c_then_parts → a ≠ c_then_rests → a ≠ c_then_weights → a ≠ c_then_grass → I4 a = I1 a) → Wt_reach_k87 G S I4 (c : Int) (wk : Int) (f : Int) (w : Int) R := by
        intro I4 r1 r2 r3
        have v : ∀ a, a ≠ c_then_parts → a ≠ c_then_rests → a ≠ c_then_weights → a ≠ c_then_grass → a ≠ c_then_quarrels → a ≠ c_then_knownTo → I4 a = I a := fun a a1 a2 a3 a4 a5 a6 => (r3 a a1 a2 a3 a4).trans (u a a1 a2 a3 a4 a5 a6)
        have z5 : I4 c_herds_newsCamps = X 5 := (v _ (by decide) (by decide) (by decide) (by decide) (by decide) (by decide)).trans y5
        have z6 : I4 c_herds_newsCells = X 6 := (v _ (by decide) (by decide) (by decide) (by decide) (by decide) (by decide)).trans y6
        have z7 : I4 c_herds_newsWeeks = X 7 := (v _ (by decide) (by decide) (by decide) (by decide) (by decide) (by decide)).trans y7
        have z8 : I4 c_herds_newsSeen = X 8 := (v _ (by decide) (by decide) (by decide) (by decide) (by decide) (by decide)).trans y8
        have z9 : I4 c_herds_newsTold = X 9 := (v _ (by decide) (by decide) (by decide) (by decide) (by decide) (by decide)).trans y9
        have zl : I4 c_then 6 = I c_then 6 := by rw [v _ (by decide) (by decide) (by decide) (by decide) (by decide) (by decide)]
        have l1 : I1 c_then 6 = I c_then 6 := by rw [u _ (by decide) (by decide) (by decide) (by decide) (by decide) (by decide)]
        have ew : ((f + (w - f) : Nat) : Int) = (w : Int) := by omega
        refine b_Wt_reach_k87 hS (s_Wt_hear (nn := nn) (p := pt0 X nc ng nn c (I c_then 6) fc f (w - f)) hS rfl hc rfl (by omega) (by rw [v _ (by decide) (by decide) (by decide) (by decide) (by decide) (by decide)]; exact hnn) x3 ?_ ?_ (by rw [zl]; exact h6) r1 (pt_ok hX' hfc2 _).1.1 ?_)
        · intro a ha j hj
          have := x10 j hj
          rcases ha with rfl | rfl | rfl | rfl
          · rw [z5]; exact this.1
          · rw [z7]; exact this.2.1
          · rw [z9]; exact this.2.2.2
          · rw [z8]; exact this.2.2.1
        · intro j hj
          rw [z6]; have := x11 j hj; omega
        · rw [z5, z6, z7, z8, z9, zl]
          intro I6 s1 s2 s3 s4
          rw [ix_nat (by omega)]
          refine ⟨inb_b (by omega) (by omega) (by decide), fun I7 e7 => ?_⟩
          subst e7
          have k7 : up I6 c_then_knownTo c (w : Int) c_then_knownTo c = (w : Int) := up_s _ _ _ _
          have m1 : ∀ a, a ≠ c_then_parts → a ≠ c_then_rests → a ≠ c_then_weights → a ≠ c_then_grass → a ≠ c_then_quarrels → a ≠ c_then_knownTo → up I6 c_then_knownTo c (w : Int) a = I a := fun a a1 a2 a3 a4 a5 a6 => by rw [up_row a6, s4 a a1 a2 a3 a5]; exact v a a1 a2 a3 a4 a5 a6
          have ml : up I6 c_then_knownTo c (w : Int) c_then 6 = I c_then 6 := by rw [m1 _ (by decide) (by decide) (by decide) (by decide) (by decide) (by decide)]
          have hq : ∀ i, i < nn → ¬ (X 5 i = (c : Int) ∧ X 7 i = (w : Int) ∧ X 9 i ≤ I c_then 6) → I6 c_then_quarrels i = I1 c_then_quarrels i := fun i hi hz => by rw [s3 i hi, if_neg hz, r3 _ (by decide) (by decide) (by decide) (by decide)]
          refine ih (by omega) _ ⟨by rw [k7]; omega, by rw [k7]; omega, fun w' hw1 hw2 => ?_⟩ (by rw [k7]; omega) (fun _ => by rw [k7]; omega) ⟨m1, fun k hk' => ?_, fun j hj => ?_, fun i hi hne => ?_⟩
          · rw [k7] at hw2
            rw [ml]
            by_cases e : w' = w
            · subst e
              refine ⟨fun j hj => ?_, fun i hi e5 e7' e9 => ?_⟩
              · rw [up_1 _ (by decide), s1 j hj]; unfold ptA; rw [ew]
              · rw [up_1 _ (by decide), s3 i hi, if_pos ⟨e5, e7', e9⟩]; unfold quA; rw [ew]
            · have hlt : w' < w := by omega
              have q0 := q3 (by omega)
              obtain ⟨t1, t2⟩ := q1.2.2 w' hw1 (by omega)
              rw [l1] at t1 t2
              refine ⟨fun j hj => ?_, fun i hi e5 e7' e9 => ?_⟩
              · rw [up_1 _ (by decide), s2 _ (by omega), r2 _ (by omega)]; exact t1 j hj
              · rw [up_1 _ (by decide), hq i hi (fun q => by omega)]; exact t2 i hi e5 e7' e9
          · rw [up_2 _ hk', s4 _ (by decide) (by decide) (by decide) (by decide), r3 _ (by decide) (by decide) (by decide) (by decide)]; exact q4.2.1 k hk'
          · rw [up_1 _ (by decide), s2 _ (by omega), r2 _ (by omega)]; exact q4.2.2.1 j hj
          · rw [up_1 _ (by decide), hq i hi (fun q => hne q.1)]; exact q4.2.2.2 i hi hne
      have uc : ∀ a, a ≠ c_then_parts → xclr I1 c_then_parts ((c * 100 + w) * 10) 10 a = I1 a := fun a ha => xclr_out ha
      rw [w32_nat (by omega), w32_nat (by omega), ix_nat (by omega)]
      refine ⟨fun e => ?_, fun e => ?_⟩
      · have e' : w = f := by omega
        rw [uc _ (by decide), u c_herds_firstCells (by decide) (by decide) (by decide) (by decide) (by decide) (by decide), hfc]
        refine ⟨inb_b (by omega) (by omega) (by decide), inb_b (by omega) (by omega) (by decide), fun I4 e4 => ?_⟩
        rw [ix_add (by omega)] at e4
        subst e4
        refine fin _ (fun j hj => ?_) (fun j hj => ?_) (fun a a1 _ _ _ => ?_)
        · rw [show w - f = 0 by omega]
          show _ = ud (fun _ => 0) fc 1000000 j
          unfold ud
          by_cases ej : j = fc
          · rw [if_pos ej, ej, up_s]
          · rw [if_neg ej, up_2 _ (by omega)]; exact xclr_in hj
        · rw [up_2 _ (by omega)]; exact xclr_else hj
        · rw [up_row a1]; exact uc a a1
      · have hlt : f < w := by omega
        have q0 := q3 hlt
        have l1 : I1 c_then 6 = I c_then 6 := by rw [u _ (by decide) (by decide) (by decide) (by decide) (by decide) (by decide)]
        obtain ⟨t1, -⟩ := q1.2.2 (w - 1) (by omega) (by omega)
        rw [l1] at t1
        have po := (pt_ok (cp := c) (lm := I c_then 6) (f := f) hX' hfc2 (w - 1 - f)).2.1
        have b : ∀ a, a ≠ c_then_parts → a ≠ c_then_rests → a ≠ c_then_weights → a ≠ c_then_grass → a ≠ c_then_quarrels → a ≠ c_then_knownTo → xclr I1 c_then_parts ((c * 100 + w) * 10) 10 a = I a := fun a a1 a2 a3 a4 a5 a6 => (uc a a1).trans (u a a1 a2 a3 a4 a5 a6)
        have z0 := (b c_land_ways (by decide) (by decide) (by decide) (by decide) (by decide) (by decide)).trans y0
        have z1 := (b c_land_grassCells (by decide) (by decide) (by decide) (by decide) (by decide) (by decide)).trans y1
        have z2 := (b c_land_grassWeeks (by decide) (by decide) (by decide) (by decide) (by decide) (by decide)).trans y2
        have z3 := (b c_land_grassNumbers (by decide) (by decide) (by decide) (by decide) (by decide) (by decide)).trans y3
        have z4 := (b c_land_grassTold (by decide) (by decide) (by decide) (by decide) (by decide) (by decide)).trans y4
        have zl : xclr I1 c_then_parts ((c * 100 + w) * 10) 10 c_then 6 = I c_then 6 := by rw [b _ (by decide) (by decide) (by decide) (by decide) (by decide) (by decide)]
        refine s_Wt_move (nc := nc) (ng := ng) (p := ptA X nc ng nn c (I c_then 6) fc f (w - 1 - f)) hS rfl (by omega) hrow2 (by rw [b _ (by decide) (by decide) (by decide) (by decide) (by decide) (by decide)]; exact hnc) x1 ?_ (fun j hj => ⟨po.1 j hj, po.le hj⟩) (fun j hj => xclr_in hj) (by rw [z0]; exact x4) (by rw [b _ (by decide) (by decide) (by decide) (by decide) (by decide) (by decide)]; exact hng) x2 (by rw [z1]; exact x6) (by rw [z2]; exact x7) (by rw [z4]; exact x9) (by rw [z3]; exact x8) ⟨by omega, by omega⟩ (by rw [zl]; exact h6) ?_
        · intro j hj
          rw [xclr_else (by omega), show (c * 100 + w) * 10 - 10 + j = (c * 100 + (w - 1)) * 10 + j by omega]
          exact t1 j hj
        · rw [z0, z1, z2, z3, z4, zl]
          intro I5 g1 g2 g3
          refine fin I5 (fun j hj => ?_) (fun j hj => ?_) (fun a a1 a2 a3 a4 => (g3 a a1 a2 a3 a4).trans (uc a a1))
          · rw [g1 j hj]
            have ed : w - f = (w - 1 - f) + 1 := by omega
            rw [ed]
            show _ = mvS _ _ _ nc j
            rw [show ((f + (w - 1 - f + 1) : Nat) : Int) = (w : Int) by omega]
            rfl
          · rw [g2 j hj]; exact xclr_else hj
  by_cases hlt : (f : Int) < I c_then_knownTo c + 1
  · rw [if_pos hlt]
    by_cases hle : I c_then_knownTo c + 1 ≤ (wk : Int) + 1
    · have e : I c_then_knownTo c + 1 = ((I c_then_knownTo c + 1).toNat : Int) := by omega
      rw [e]
      exact key _ (by omega) (by omega) I hk (by omega) (fun _ => by omega) ⟨fun _ _ _ _ _ _ _ => rfl, fun _ _ => rfl, fun _ _ => rfl, fun _ _ _ => rfl⟩
    · refine b_Wt_reach_k26 hS ⟨fun _ => h I hk (fun _ => by omega) ⟨fun _ _ _ _ _ _ _ => rfl, fun _ _ => rfl, fun _ _ => rfl, fun _ _ _ => rfl⟩, fun e => absurd ?_ e⟩
      rw [w32_nat (by omega), w32_b (by omega) (by omega)]; omega
  · rw [if_neg hlt]
    by_cases hle : f ≤ wk + 1
    · exact key f hle (Nat.le_refl _) I hk (by omega) (fun e => absurd e (by omega)) ⟨fun _ _ _ _ _ _ _ => rfl, fun _ _ => rfl, fun _ _ => rfl, fun _ _ _ => rfl⟩
    · refine b_Wt_reach_k26 hS ⟨fun _ => h I hk (fun _ => by omega) ⟨fun _ _ _ _ _ _ _ => rfl, fun _ _ => rfl, fun _ _ => rfl, fun _ _ _ => rfl⟩, fun e => absurd ?_ e⟩
      rw [w32_nat (by omega), w32_nat (by omega)]; omega
end PW
