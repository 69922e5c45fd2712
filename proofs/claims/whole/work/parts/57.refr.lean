/-! ===== the reference: PARTS found; THE VIEW's limit ===== -/
/-- PARTS of CAMP c stand d WEEKS behind its first one -/
def PIn (I I' : XI) (X : Nat → Nat → Int) (nc ng nn c : Nat) (lm : Int) (fc f d : Nat) : Prop := (∀ j, j < 10 → I' r_parts j = ptA X nc ng nn c lm fc f d j) ∧ fmP I I' ∧ qSt I' nn (fun κ => qW (fun w i => qP X nc ng nn c lm fc f w i) κ nn 100 (100 - f) 0) (fun κ N => qW (fun w i => qP X nc ng nn c lm fc f w i) κ nn 100 (99 - (f + d)) N) (fun i => ¬ X 7 i < ((f + d : Nat) : Int) + 1)
section PR3
variable {G : XG} {S : XS}
theorem s_R_begin {I : XI} {c nc ng nn fc f : Nat} {X : Nat → Nat → Int} {cp lm : Int} {R : XI → Prop} (hS : xSh S) (hcp : cp = (c : Int)) (hc : c < 6) (hlm : InR lm) (hcell : I r_cells 0 = (nc : Int)) (hnn : I r_newsMany 0 = (nn : Int)) (hX : PtOk X nc ng nn) (hR : XR I X ng nn) (hf : I r_campWeek c = (f : Int)) (hf2 : f ≤ 99) (hfc : I r_campCell c = (fc : Int)) (hfc2 : fc < nc)
    (h : ∀ I', PIn I I' X nc ng nn c lm fc f 0 → R I') : R_begin G S I cp lm R := by
  subst hcp
  have x1 := hX.1
  refine b_R_begin hS (fun I1 e1 => ?_)
  have f1 : fmP I I1 := by rw [e1]; exact (fmP.refl I).up (by decide)
  have o1 : I1 r_obj 56 = 0 := by rw [e1, up_s]
  refine down (n := 10) (P := fun k => ∀ I2 : XI, (∀ j, j < k → I2 r_parts j = ud (fun _ => 0) fc 1000000 j) → (∀ a, a ≠ r_parts → I2 a = I1 a) → R_begin_k7 G S I2 (c : Int) lm (k : Int) R) ?_ ?_ 0 (Nat.zero_le _) I1 (fun j hj => absurd hj (by omega)) (fun _ _ => rfl)
  · intro I2 q1 q2
    have f2 : fmP I I2 := fun a a1 a2 => (q2 a (show a ≠ 129 by omega)).trans (f1 a a1 a2)
    refine b_R_begin_k7 hS ⟨fun _ => ⟨inb_b (by omega) (by omega) (by decide), ?_⟩, fun e => absurd (by decide) e⟩
    rw [ix_nat (k := c) (by omega), f2 r_campWeek (by decide) (by decide), hf]
    refine s_R_hearAll (f := f) (w := f) (fc := fc) (A := fun κ => qW (fun w i => qP X nc ng nn c lm fc f w i) κ nn 100 (100 - f) 0) hS rfl (by omega) rfl hf2 (Nat.le_refl _) hlm (by rw [f2 _ (by decide) (by decide)]; exact hcell) (by rw [f2 _ (by decide) (by decide)]; exact hnn) hX (hR.fm f2) hfc2 (fun j hj => ?_) ?_ (fun I' g1 g2 g3 => h I' ⟨?_, f2.trans g2, g3⟩)
    · rw [Nat.sub_self]; exact q1 j hj
    · refine ⟨0, fun _ => 0, ?_, fun _ => ⟨Int.le_refl _, (show (0 : Int) ≤ 1 by decide)⟩, (sumA_0 (fun _ _ => rfl)).symm, fun _ _ _ => rfl, fun κ => ?_⟩
      · rw [q2 _ (by decide)]; exact o1
      · rw [if_neg (by omega)]; rfl
    · rw [Nat.sub_self] at g1; exact g1
  · intro k hk ih I2 q1 q2
    have f2 : fmP I I2 := fun a a1 a2 => (q2 a (show a ≠ 129 by omega)).trans (f1 a a1 a2)
    refine b_R_begin_k7 hS ?_
    rw [show w32 10 = 10 from rfl, w32_nat (k := k) (by omega), ix_nat (k := c) (by omega), ix_nat (k := k) (by omega), f2 r_campCell (by decide) (by decide), hfc, w32_nat (k := fc) (by omega)]
    refine ⟨fun e => absurd e (by omega), fun _ => ⟨inb_b (by omega) (by omega) (by decide), fun e => ⟨inb_b (by omega) (by omega) (by decide), fun I3 e3 => ?_⟩, fun e => ⟨inb_b (by omega) (by omega) (by decide), fun I3 e3 => ?_⟩⟩⟩
    · subst e3
      refine ih _ (fun j hj => ?_) (fun a a1 => (up_row a1).trans (q2 a a1))
      by_cases ej : j = k
      · rw [ej, up_s]; exact (if_pos (by omega) : (if k = fc then (1000000 : Int) else 0) = 1000000).symm
      · rw [up_2 _ ej]; exact q1 j (by omega)
    · subst e3
      refine ih _ (fun j hj => ?_) (fun a a1 => (up_row a1).trans (q2 a a1))
      by_cases ej : j = k
      · rw [ej, up_s]; exact (if_neg (by omega) : (if k = fc then (1000000 : Int) else 0) = 0).symm
      · rw [up_2 _ ej]; exact q1 j (by omega)
theorem s_R_goOn {I I1 : XI} {c nc ng nn fc f d : Nat} {X : Nat → Nat → Int} {cp wp lm : Int} {R : XI → Prop} (hS : xSh S) (hcp : cp = (c : Int)) (hc : c < 6) (hwp : wp = ((f + (d + 1) : Nat) : Int)) (hd : f + (d + 1) ≤ 99) (hlm : InR lm) (hcell : I r_cells 0 = (nc : Int)) (hng : I r_grasses 0 = (ng : Int)) (hnn : I r_newsMany 0 = (nn : Int)) (hX : PtOk X nc ng nn) (hR : XR I X ng nn) (hfc2 : fc < nc) (hP : PIn I I1 X nc ng nn c lm fc f d)
    (h : ∀ I', PIn I I' X nc ng nn c lm fc f (d + 1) → R I') : R_goOn G S I1 cp wp lm R := by
  subst hcp; subst hwp
  obtain ⟨p1, p2, p3⟩ := hP
  have po := (pt_ok (cp := c) (lm := lm) (f := f) hX hfc2 d).2.1
  refine b_R_goOn hS (s_R_wander (nn := nn) (p := ptA X nc ng nn c lm fc f d) hS (by rw [p2 _ (by decide) (by decide)]; exact hcell) (by omega) (by rw [p2 _ (by decide) (by decide)]; exact hng) hX (hR.fm p2) ⟨by omega, by omega⟩ hlm p1 (fun j hj => ⟨po.1 j hj, po.le hj⟩) (fun I2 g1 g2 => ?_))
  have f2 : fmP I1 I2 := fun a a1 a2 => g2 a (show a ≠ 129 by omega) (show a ≠ 130 by omega) (show a ≠ 131 by omega) (show a ≠ 132 by omega)
  have f3 := p2.trans f2
  have ed : f + (d + 1) - f = d + 1 := by omega
  refine s_R_hearAll (f := f) (w := f + (d + 1)) (fc := fc) (A := fun κ => qW (fun w i => qP X nc ng nn c lm fc f w i) κ nn 100 (100 - f) 0) hS rfl (by omega) rfl hd (by omega) hlm (by rw [f3 _ (by decide) (by decide)]; exact hcell) (by rw [f3 _ (by decide) (by decide)]; exact hnn) hX (hR.fm f3) hfc2 (fun j hj => ?_) (qSt_same p3 (by rw [g2 _ (by decide) (by decide) (by decide) (by decide)]) (g2 _ (by decide) (by decide) (by decide) (by decide)) (fun κ N => ?_) (fun i hi hb => by omega)) (fun I' k1 k2 k3 => h I' ⟨?_, f3.trans k2, k3⟩)
  · rw [ed, g1 j hj]; rfl
  · show qW _ _ _ _ (99 - (f + d)) N = qW _ _ _ _ (100 - (f + (d + 1))) N
    rw [show 99 - (f + d) = 100 - (f + (d + 1)) by omega]
  · rw [ed] at k1; exact k1
theorem s_R_findParts {I : XI} {c nc ng nn fc f wk : Nat} {X : Nat → Nat → Int} {cp wp lm : Int} {R : XI → Prop} (hS : xSh S) (hcp : cp = (c : Int)) (hc : c < 6) (hwp : wp = (wk : Int)) (hwk : wk ≤ 99) (hfw : f ≤ wk) (hlm : InR lm) (hcell : I r_cells 0 = (nc : Int)) (hng : I r_grasses 0 = (ng : Int)) (hnn : I r_newsMany 0 = (nn : Int)) (hX : PtOk X nc ng nn) (hR : XR I X ng nn) (hf : I r_campWeek c = (f : Int)) (hfc : I r_campCell c = (fc : Int)) (hfc2 : fc < nc)
    (h : ∀ I', PIn I I' X nc ng nn c lm fc f (wk - f) → R I') : R_findParts G S I cp wp lm R := by
  subst hcp; subst hwp
  refine b_R_findParts hS (s_R_begin hS rfl hc hlm hcell hnn hX hR hf (by omega) hfc hfc2 (fun I1 h1 => ⟨inb_b (by omega) (by omega) (by decide), ?_⟩))
  rw [ix_nat (k := c) (by omega), h1.2.1 r_campWeek (by decide) (by decide), hf]
  have ef : ((f : Int) + 1) = ((f + 1 : Nat) : Int) := rfl
  rw [ef]
  refine down (n := wk + 1) (P := fun w => f + 1 ≤ w → ∀ I1 : XI, PIn I I1 X nc ng nn c lm fc f (w - 1 - f) → R_findParts_k16 G S I1 (c : Int) (wk : Int) lm (w : Int) R) ?_ ?_ (f + 1) (by omega) (Nat.le_refl _) I1 (by rw [show f + 1 - 1 - f = 0 by omega]; exact h1)
  · intro _ I2 hP
    rw [show wk + 1 - 1 - f = wk - f by omega] at hP
    refine b_R_findParts_k16 hS ⟨fun _ => h I2 hP, fun e => absurd ?_ e⟩
    rw [w32_nat (by omega), w32_nat (by omega)]; omega
  · intro w hw ih hfw' I2 hP
    refine b_R_findParts_k16 hS ⟨fun e => absurd e (by rw [w32_nat (by omega), w32_nat (by omega)]; omega), fun _ => s_R_goOn (d := w - 1 - f) hS rfl hc (by omega) (by omega) hlm hcell hng hnn hX hR hfc2 hP (fun I' g => ih (by omega) I' ?_)⟩
    rw [show w + 1 - 1 - f = w - 1 - f + 1 by omega]; exact g
theorem s_R_greatest {I : XI} {p : Nat → Int} {R : Int → XI → Prop} (hS : xSh S) (hp : ∀ j, j < 10 → I r_parts j = p j) (hok : rowOk p) (h : R (amx p 9 : Int) I) : R_greatest G S I R := by
  refine b_R_greatest hS ?_
  refine down (n := 9) (P := fun k => R_greatest_k4 G S I (amx p k : Int) ((k : Int) + 1) R) ?_ ?_ 0 (Nat.zero_le _)
  · exact b_R_greatest_k4 hS ⟨fun _ => h, fun e => absurd (by decide) e⟩
  · intro k hk ih
    have ha := amx_le p k
    have h1 := hok.le (j := k + 1) (by omega)
    have h2 := hok.1 (k + 1) (by omega)
    have h3 := hok.le (j := amx p k) (by omega)
    have h4 := hok.1 (amx p k) (by omega)
    have ek : ((k : Int) + 1) = ((k + 1 : Nat) : Int) := rfl
    refine b_R_greatest_k4 hS ?_
    rw [ek, ix_nat (k := k + 1) (by omega), ix_nat (k := amx p k) (by omega), hp (k + 1) (by omega), hp (amx p k) (by omega), w32_b (z := p (k + 1)) (by omega) (by omega), w32_b (z := p (amx p k)) (by omega) (by omega), show w32 10 = 10 from rfl, w32_nat (k := k + 1) (by omega)]
    unfold amx at ih
    refine ⟨fun e => absurd e (by omega), fun _ => ⟨inb_b (by omega) (by omega) (by decide), inb_b (by omega) (by omega) (by decide), fun e => ?_, fun e => ?_⟩⟩
    · rw [if_neg (by omega)] at ih; exact ih
    · rw [if_pos (by omega)] at ih; exact ih
end PR3
theorem lastA_lim {B K W T : Nat → Int} {bk lk wk a b : Int} : ∀ {n : Nat}, (∀ j, j < n → T j ≤ a ∧ T j ≤ b) → lastA B K W T bk lk wk a n = lastA B K W T bk lk wk b n
  | 0, _ => rfl
  | n + 1, h => by
    have ih := lastA_lim (B := B) (K := K) (W := W) (bk := bk) (lk := lk) (wk := wk) (n := n) (fun j hj => h j (by omega))
    have hn := h n (by omega)
    rw [lastA, lastA, ih]
    by_cases hc : B n = bk ∧ K n ≤ lk ∧ W n ≤ wk ∧ (lastA B K W T bk lk wk b n).2 ≤ W n
    · rw [if_pos ⟨hc.1, hc.2.1, hn.1, hc.2.2⟩, if_pos ⟨hc.1, hc.2.1, hn.2, hc.2.2⟩]
    · rw [if_neg (fun q => hc ⟨q.1, q.2.1, q.2.2.2⟩), if_neg (fun q => hc ⟨q.1, q.2.1, q.2.2.2⟩)]
theorem nwS_lim {NC NL NW NS NT : Nat → Int} {cp wk a b : Int} {p : Nat → Int} : ∀ {k : Nat}, (∀ j, j < k → NT j ≤ a ∧ NT j ≤ b) → nwS NC NL NW NS NT cp wk a p k = nwS NC NL NW NS NT cp wk b p k
  | 0, _ => rfl
  | k + 1, h => by
    have ih := nwS_lim (NC := NC) (NL := NL) (NW := NW) (NS := NS) (cp := cp) (wk := wk) (p := p) (k := k) (fun j hj => h j (by omega))
    have hn := h k (by omega)
    funext j
    rw [nwS, nwS, ih]
    by_cases hc : NC k = cp ∧ NW k = wk
    · rw [if_pos ⟨hc.1, hc.2, hn.1⟩, if_pos ⟨hc.1, hc.2, hn.2⟩]
    · rw [if_neg (fun q => hc ⟨q.1, q.2.1⟩), if_neg (fun q => hc ⟨q.1, q.2.1⟩)]
section LM
variable {X : Nat → Nat → Int} {nc ng nn : Nat} {cp a b : Int} {fc f : Nat}
theorem pt0_lim (h1 : ∀ j, j < ng → X 4 j ≤ a ∧ X 4 j ≤ b) (h2 : ∀ j, j < nn → X 9 j ≤ a ∧ X 9 j ≤ b) : ∀ d, pt0 X nc ng nn cp a fc f d = pt0 X nc ng nn cp b fc f d
  | 0 => rfl
  | d + 1 => by
    have ih := pt0_lim h1 h2 d
    have eg : grS (X 1) (X 2) (X 3) (X 4) ((f + (d + 1) : Nat) : Int) a ng = grS (X 1) (X 2) (X 3) (X 4) ((f + (d + 1) : Nat) : Int) b ng := by
      funext c; unfold grS; rw [lastA_lim h1]
    funext j
    show mvS _ _ _ nc j = mvS _ _ _ nc j
    rw [eg, ih, nwS_lim h2]
theorem ptA_lim (h1 : ∀ j, j < ng → X 4 j ≤ a ∧ X 4 j ≤ b) (h2 : ∀ j, j < nn → X 9 j ≤ a ∧ X 9 j ≤ b) (d : Nat) : ptA X nc ng nn cp a fc f d = ptA X nc ng nn cp b fc f d := by
  unfold ptA; rw [pt0_lim h1 h2 d, nwS_lim h2]
theorem quA_lim (h1 : ∀ j, j < ng → X 4 j ≤ a ∧ X 4 j ≤ b) (h2 : ∀ j, j < nn → X 9 j ≤ a ∧ X 9 j ≤ b) (d : Nat) {i : Nat} (hi : i < nn) : quA X nc ng nn cp a fc f d i = quA X nc ng nn cp b fc f d i := by
  unfold quA; rw [pt0_lim h1 h2 d, nwS_lim (fun j hj => h2 j (by omega))]
end LM
theorem qI_none {Q : Nat → Prop} [DecidablePred Q] {k : Int} {nn : Nat} {C : Int → Int} (h : ∀ i, i < nn → ¬ Q i) : ∀ n fd, n ≤ nn → qI Q k nn C n fd = C fd
  | 0, _, _ => rfl
  | n + 1, fd, hn => by rw [qI, if_neg (h _ (by omega)), qI_none h n fd (by omega)]
theorem qW_none {Q : Nat → Nat → Prop} [∀ w, DecidablePred (Q w)] {k : Int} {nn wk1 w0 : Nat} (h : ∀ w i, w0 ≤ w → i < nn → ¬ Q w i) : ∀ m fd, m + w0 ≤ wk1 → qW Q k nn wk1 m fd = -1
  | 0, _, _ => rfl
  | m + 1, fd, hm => by rw [qW, qI_none (h _ · (by omega)) nn fd (Nat.le_refl _), qW_none h m fd (by omega)]
theorem qW_ext {Q : Nat → Nat → Prop} [∀ w, DecidablePred (Q w)] {k : Int} {nn wk1 : Nat} (h1 : wk1 ≤ 100) (h : ∀ w i, wk1 ≤ w → i < nn → ¬ Q w i) : ∀ m, m ≤ wk1 → qW Q k nn wk1 m = qW Q k nn 100 (m + (100 - wk1))
  | 0, _ => by
    funext fd
    rw [qW_none h (0 + (100 - wk1)) fd (by omega)]; rfl
  | m + 1, hm => by
    have ih := qW_ext (k := k) h1 h m (by omega)
    funext fd
    rw [qW, show m + 1 + (100 - wk1) = (m + (100 - wk1)) + 1 by omega, qW, ih, show 100 - (m + (100 - wk1) + 1) = wk1 - (m + 1) by omega]
theorem qI_cong {Q Q' : Nat → Prop} [DecidablePred Q] [DecidablePred Q'] {k : Int} {nn : Nat} {C : Int → Int} (h : ∀ i, i < nn → (Q i ↔ Q' i)) : ∀ n fd, n ≤ nn → qI Q k nn C n fd = qI Q' k nn C n fd
  | 0, _, _ => rfl
  | n + 1, fd, hn => by
    have hq := h (nn - (n + 1)) (by omega)
    rw [qI, qI]
    by_cases c : Q (nn - (n + 1))
    · rw [if_pos c, if_pos (hq.mp c), qI_cong h n _ (by omega)]
    · rw [if_neg c, if_neg (fun q => c (hq.mpr q)), qI_cong h n _ (by omega)]
theorem qW_cong {Q Q' : Nat → Nat → Prop} [∀ w, DecidablePred (Q w)] [∀ w, DecidablePred (Q' w)] {k : Int} {nn wk1 : Nat} (h : ∀ w i, i < nn → (Q w i ↔ Q' w i)) : ∀ m fd, qW Q k nn wk1 m fd = qW Q' k nn wk1 m fd
  | 0, _ => rfl
  | m + 1, fd => by
    have ih : qW Q k nn wk1 m = qW Q' k nn wk1 m := funext fun fd => qW_cong h m fd
    rw [qW, qW, ih, qI_cong (h _) nn fd (Nat.le_refl _)]
