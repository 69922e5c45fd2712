/-! ===== the class: PARTS looked at ===== -/
/-- the k-th of those that hold, over NEWS (n left), over WEEKS (m left) -/
def qI (Q : Nat → Prop) [DecidablePred Q] (k : Int) (nn : Nat) (C : Int → Int) : Nat → Int → Int
  | 0, fd => C fd
  | n + 1, fd => if Q (nn - (n + 1)) then (if fd = k then ((nn - (n + 1) : Nat) : Int) else qI Q k nn C n (fd + 1)) else qI Q k nn C n fd
def qW (Q : Nat → Nat → Prop) [∀ w, DecidablePred (Q w)] (k : Int) (nn wk1 : Nat) : Nat → Int → Int
  | 0, _ => -1
  | m + 1, fd => qI (Q (wk1 - (m + 1))) k nn (qW Q k nn wk1 m) nn fd
theorem heS_r (p : Nat → Int) (c : Nat) (v : Int) : InR (heS p c v).2 := by
  have h0 : InR 0 := ⟨by decide, by decide⟩
  have h1 : InR 1 := ⟨by decide, by decide⟩
  unfold heS
  split <;> split
  · exact h1
  · exact h0
  · exact h1
  · exact h0
section PW
variable {G : XG} {S : XS}
theorem s_Wn_partsAt {I : XI} {c w k : Nat} {cp cl wp : Int} {R : Int → XI → Prop} (hS : xSh S) (hcp : cp = (c : Int)) (hc : c < 6) (hcl : cl = (k : Int)) (hk : k < 10) (hwp : wp = (w : Int)) (hw : w ≤ 99) (h : R (I c_now_parts ((c * 100 + w) * 10 + k)) I) : Wn_partsAt G S I cp cl wp R := by
  subst hcl
  refine b_Wn_partsAt hS (s_rowOf hS hcp hwp ⟨inb_b (by omega) (by omega) (by decide), ?_⟩)
  rw [ix_add (by omega)]; exact h
theorem s_Wn_likely {I : XI} {rw' : Nat} {row : Int} {p : Nat → Int} {R : Int → XI → Prop} (hS : xSh S) (hrow : row = (rw' : Int)) (hrow2 : rw' + 10 ≤ 6000) (hp : ∀ j, j < 10 → I c_now_parts (rw' + j) = p j) (hok : rowOk p) (h : R (amx p 9 : Int) I) : Wn_likeliestOf_k20 G S I row 0 1 R := by
  subst hrow
  refine down (n := 9) (P := fun k => Wn_likeliestOf_k20 G S I (rw' : Int) (amx p k : Int) ((k : Int) + 1) R) ?_ ?_ 0 (Nat.zero_le _)
  · exact b_Wn_likeliestOf_k20 hS ⟨fun _ => h, fun e => absurd (by decide) e⟩
  · intro k hk ih
    have ha := amx_le p k
    have h1 := hok.le (j := k + 1) (by omega)
    have h2 := hok.1 (k + 1) (by omega)
    have h3 := hok.le (j := amx p k) (by omega)
    have h4 := hok.1 (amx p k) (by omega)
    have ek : (rw' : Int) + ((k : Int) + 1) = ((rw' + (k + 1) : Nat) : Int) := by omega
    refine b_Wn_likeliestOf_k20 hS ?_
    rw [ek, ix_nat (by omega), ix_add (by omega), hp (k + 1) (by omega), hp (amx p k) (by omega), w32_b (z := p (k + 1)) (by omega) (by omega), w32_b (z := p (amx p k)) (by omega) (by omega), w32_b (z := 10) (by omega) (by omega), w32_b (z := (k : Int) + 1) (by omega) (by omega)]
    refine ⟨fun e => absurd e (by omega), fun _ => ⟨inb_b (by omega) (by omega) (by decide), inb_b (by omega) (by omega) (by decide), fun e => ?_, fun e => ?_⟩⟩
    · have ea : amx p (k + 1) = amx p k := (if_neg (show ¬ p (amx p k) < p (k + 1) by omega) : (if p (amx p k) < p (k + 1) then k + 1 else amx p k) = amx p k)
      rw [ea] at ih; exact ih
    · have ea : amx p (k + 1) = k + 1 := (if_pos (show p (amx p k) < p (k + 1) by omega) : (if p (amx p k) < p (k + 1) then k + 1 else amx p k) = k + 1)
      rw [ea] at ih; exact ih
theorem s_Wn_likeliestOf {I : XI} {c nc ng nn fc f wk : Nat} {X : Nat → Nat → Int} {cp wp : Int} {R : Int → XI → Prop} (hS : xSh S) (hcp : cp = (c : Int)) (hc : c < 6) (hwp : wp = (wk : Int)) (hwk : wk ≤ 99) (hX : PtOk X nc ng nn) (hXC : XC I X) (hnc : I c_land 0 = (nc : Int)) (hng : I c_land 3 = (ng : Int)) (hnn : I c_herds 5 = (nn : Int)) (hf : I c_herds_firstWeeks c = (f : Int)) (hf2 : f ≤ wk) (hfc : I c_herds_firstCells c = (fc : Int)) (hfc2 : fc < nc) (h6 : InR (I c_now 6)) (hk : knWn I X nc ng nn c fc f)
    (h : ∀ I', knWn I' X nc ng nn c fc f → fmWn I I' X nn c → R (amx (ptA X nc ng nn c (I c_now 6) fc f (wk - f)) 9 : Int) I') : Wn_likeliestOf G S I cp wp R := by
  refine b_Wn_likeliestOf hS (s_Wn_reach hS hcp hc hwp hwk hX hXC hnc hng hnn hf (by omega) hfc hfc2 h6 hk (fun I' k1 k2 k3 => s_rowOf hS hcp hwp ?_))
  have e6 : I' c_now 6 = I c_now 6 := by rw [k3.1 _ (by decide) (by decide) (by decide) (by decide) (by decide) (by decide)]
  have t := (k1.2.2 wk hf2 (k2 hf2)).1
  rw [e6] at t
  exact s_Wn_likely hS rfl (by omega) t (pt_ok hX hfc2 _).2.1 (h I' k1 k3)
theorem s_Wn_quarrels {I : XI} {c nn wk : Nat} {X : Nat → Nat → Int} {k : Int} {f : Nat} {F : Nat → Nat → Int} {R : Int → XI → Prop} (hS : xSh S) (hc : c < 6) (hwk : wk ≤ 99) (hn2 : nn ≤ 60) (hXC : XC I X) (hnn : I c_herds 5 = (nn : Int)) (hw : I c_told 9 = (wk : Int)) (hN : ∀ j, j < nn → InR (X 5 j) ∧ InR (X 7 j) ∧ InR (X 8 j) ∧ InR (X 9 j)) (h6 : InR (I c_now 6)) (hk : InR k) (hq : ∀ w i, f ≤ w → w ≤ wk → i < nn → X 5 i = (c : Int) → X 7 i = (w : Int) → X 9 i ≤ I c_now 6 → I c_now_quarrels i = F w i ∧ InR (F w i)) :
    ∀ m, m + f ≤ wk + 1 → ∀ fd : Int, 0 ≤ fd → fd ≤ ((wk + 1 - m : Nat) : Int) * 60 → R (qW (fun w i => X 5 i = (c : Int) ∧ X 7 i = (w : Int) ∧ X 9 i ≤ I c_now 6 ∧ F w i = 1) k nn (wk + 1) m fd) I → Wn_quarrelOf_k28 G S I (c : Int) k fd ((wk + 1 - m : Nat) : Int) R := by
  obtain ⟨y0, y1, y2, y3, y4, y5, y6, y7, y8, y9⟩ := hXC
  intro m
  induction m with
  | zero =>
    intro _ fd _ _ h
    refine b_Wn_quarrelOf_k28 hS ⟨fun _ => h, fun e => absurd ?_ e⟩
    rw [hw, w32_nat (by omega), w32_nat (by omega)]; omega
  | succ m ih =>
    intro hm fd hf1 hf2 h
    refine b_Wn_quarrelOf_k28 hS ⟨fun e => absurd e ?_, fun _ => ?_⟩
    · rw [hw, w32_nat (by omega), w32_nat (by omega)]; omega
    · generalize hwv : wk + 1 - (m + 1) = w at hf2 ⊢
      have hQ : ∀ n, n ≤ nn → ∀ fd : Int, 0 ≤ fd → fd ≤ (w : Int) * 60 + ((nn - n : Nat) : Int) → R (qI (fun i => X 5 i = (c : Int) ∧ X 7 i = (w : Int) ∧ X 9 i ≤ I c_now 6 ∧ F w i = 1) k nn (qW (fun w i => X 5 i = (c : Int) ∧ X 7 i = (w : Int) ∧ X 9 i ≤ I c_now 6 ∧ F w i = 1) k nn (wk + 1) m) n fd) I → Wn_quarrelOf_k40 G S I (c : Int) k fd (w : Int) ((nn - n : Nat) : Int) R := by
        intro n
        induction n with
        | zero =>
          intro _ fd g1 g2 h
          refine b_Wn_quarrelOf_k40 hS ⟨fun _ => ?_, fun e => absurd ?_ e⟩
          · have := ih (by omega) fd g1 (by omega) h
            rw [show ((wk + 1 - m : Nat) : Int) = (w : Int) + 1 by omega] at this
            exact this
          · rw [hnn]; exact Int.le_refl _
        | succ n ih2 =>
          intro hn fd g1 g2 h
          generalize hi : nn - (n + 1) = i at g2 ⊢
          have e1 : ((nn - n : Nat) : Int) = (i : Int) + 1 := by omega
          have hl : i < nn := by omega
          have hx := hN i hl
          have skip : ¬ (X 5 i = (c : Int) ∧ X 7 i = (w : Int) ∧ X 9 i ≤ I c_now 6 ∧ F w i = 1) → Wn_quarrelOf_k40 G S I (c : Int) k fd (w : Int) ((i : Int) + 1) R := by
            intro hz
            rw [← e1]
            refine ih2 (by omega) fd g1 (by omega) ?_
            rw [qI, hi, if_neg hz] at h
            exact h
          refine b_Wn_quarrelOf_k40 hS ⟨fun e => absurd e ?_, fun _ => ?_⟩
          · rw [hnn, w32_nat (by omega), w32_nat (by omega)]; omega
          · refine b_He_isNewsOf hS ?_
            rw [ix_nat (by omega), y5, y7, y9, w32_r hx.1, w32_r hx.2.1, w32_r hx.2.2.2, w32_r h6, w32_nat (by omega), w32_nat (by omega), show w32 1 = 1 from rfl, w32_r hk, w32_b (z := fd) (by omega) (by omega)]
            refine ⟨inb_b (by omega) (by omega) (by decide), fun f1 => ⟨inb_b (by omega) (by omega) (by decide), fun f2 => ⟨inb_b (by omega) (by omega) (by decide), fun f3 => br0 (skip (fun q => by omega)), fun f3 => br1 ?_⟩, fun f2 => br0 (skip (fun q => f2 q.2.1))⟩, fun f1 => br0 (skip (fun q => f1 q.1))⟩
            obtain ⟨hv, hr⟩ := hq w i (by omega) (by omega) hl f1 f2 (by omega)
            rw [hv, w32_r hr]
            refine ⟨inb_b (by omega) (by omega) (by decide), fun f4 => ?_, fun f4 => skip (fun q => f4 q.2.2.2)⟩
            have hz : X 5 i = (c : Int) ∧ X 7 i = (w : Int) ∧ X 9 i ≤ I c_now 6 ∧ F w i = 1 := ⟨f1, f2, by omega, f4⟩
            rw [qI, hi, if_pos hz] at h
            refine ⟨fun f5 => ?_, fun f5 => ?_⟩
            · rw [if_pos f5] at h; exact h
            · rw [if_neg f5] at h
              rw [← e1]
              exact ih2 (by omega) (fd + 1) (by omega) (by omega) h
      have := hQ nn (Nat.le_refl _) fd hf1 (by omega)
      rw [Nat.sub_self] at this
      refine this ?_
      rw [qW, hwv] at h
      exact h
theorem s_Wn_quarrelOf {I : XI} {c nc ng nn fc f wk : Nat} {X : Nat → Nat → Int} {cp k : Int} {R : Int → XI → Prop} (hS : xSh S) (hcp : cp = (c : Int)) (hc : c < 6) (hwp : I c_told 9 = (wk : Int)) (hwk : wk ≤ 99) (hX : PtOk X nc ng nn) (hXC : XC I X) (hnc : I c_land 0 = (nc : Int)) (hng : I c_land 3 = (ng : Int)) (hnn : I c_herds 5 = (nn : Int)) (hf : I c_herds_firstWeeks c = (f : Int)) (hf2 : f ≤ wk + 1) (hf3 : f ≤ 99) (hfc : I c_herds_firstCells c = (fc : Int)) (hfc2 : fc < nc) (h6 : InR (I c_now 6)) (hi : InR k) (hk : knWn I X nc ng nn c fc f)
    (h : ∀ I', knWn I' X nc ng nn c fc f → fmWn I I' X nn c → R (qW (fun w i => X 5 i = (c : Int) ∧ X 7 i = (w : Int) ∧ X 9 i ≤ I c_now 6 ∧ quA X nc ng nn c (I c_now 6) fc f (w - f) i = 1) k nn (wk + 1) (wk + 1 - f) 0) I') : Wn_quarrelOf G S I cp k R := by
  refine b_Wn_quarrelOf hS (s_Wn_reach hS hcp hc hwp hwk hX hXC hnc hng hnn hf hf3 hfc hfc2 h6 hk (fun I' k1 k2 k3 => ?_))
  have b := k3.1
  have e6 : I' c_now 6 = I c_now 6 := by rw [b _ (by decide) (by decide) (by decide) (by decide) (by decide) (by decide)]
  subst hcp
  obtain ⟨y0, y1, y2, y3, y4, y5, y6, y7, y8, y9⟩ := hXC
  have hXC' : XC I' X := ⟨(b _ (by decide) (by decide) (by decide) (by decide) (by decide) (by decide)).trans y0, (b _ (by decide) (by decide) (by decide) (by decide) (by decide) (by decide)).trans y1, (b _ (by decide) (by decide) (by decide) (by decide) (by decide) (by decide)).trans y2, (b _ (by decide) (by decide) (by decide) (by decide) (by decide) (by decide)).trans y3, (b _ (by decide) (by decide) (by decide) (by decide) (by decide) (by decide)).trans y4, (b _ (by decide) (by decide) (by decide) (by decide) (by decide) (by decide)).trans y5, (b _ (by decide) (by decide) (by decide) (by decide) (by decide) (by decide)).trans y6, (b _ (by decide) (by decide) (by decide) (by decide) (by decide) (by decide)).trans y7, (b _ (by decide) (by decide) (by decide) (by decide) (by decide) (by decide)).trans y8, (b _ (by decide) (by decide) (by decide) (by decide) (by decide) (by decide)).trans y9⟩
  refine ⟨inb_b (by omega) (by omega) (by decide), ?_⟩
  rw [ix_nat (by omega), b c_herds_firstWeeks (by decide) (by decide) (by decide) (by decide) (by decide) (by decide), hf]
  have hh := h I' k1 k3
  rw [← e6] at hh
  have := s_Wn_quarrels (G := G) (f := f) (F := fun w i => quA X nc ng nn c (I' c_now 6) fc f (w - f) i) (k := k) (R := R) hS hc hwk hX.2.2.1 hXC' (by rw [b _ (by decide) (by decide) (by decide) (by decide) (by decide) (by decide)]; exact hnn) (by rw [b _ (by decide) (by decide) (by decide) (by decide) (by decide) (by decide)]; exact hwp) hX.2.2.2.2.2.2.2.2.2.1 (by rw [e6]; exact h6) hi (fun w i hw1 hw2 hin a1 a2 a3 => ?_) (wk + 1 - f) (by omega) 0 (Int.le_refl _) (by omega) hh
  · rw [show wk + 1 - (wk + 1 - f) = f by omega] at this
    exact this
  · have kk := k2 (by omega)
    refine ⟨(k1.2.2 w hw1 (by omega)).2 i hin a1 a2 a3, ?_⟩
    exact heS_r _ _ _
theorem s_Wt_partsAt {I : XI} {c w k : Nat} {cp cl wp : Int} {R : Int → XI → Prop} (hS : xSh S) (hcp : cp = (c : Int)) (hc : c < 6) (hcl : cl = (k : Int)) (hk : k < 10) (hwp : wp = (w : Int)) (hw : w ≤ 99) (h : R (I c_then_parts ((c * 100 + w) * 10 + k)) I) : Wt_partsAt G S I cp cl wp R := by
  subst hcl
  refine b_Wt_partsAt hS (s_rowOf hS hcp hwp ⟨inb_b (by omega) (by omega) (by decide), ?_⟩)
  rw [ix_add (by omega)]; exact h
theorem s_Wt_likely {I : XI} {rw' : Nat} {row : Int} {p : Nat → Int} {R : Int → XI → Prop} (hS : xSh S) (hrow : row = (rw' : Int)) (hrow2 : rw' + 10 ≤ 6000) (hp : ∀ j, j < 10 → I c_then_parts (rw' + j) = p j) (hok : rowOk p) (h : R (amx p 9 : Int) I) : Wt_likeliestOf_k20 G S I row 0 1 R := by
  subst hrow
  refine down (n := 9) (P := fun k => Wt_likeliestOf_k20 G S I (rw' : Int) (amx p k : Int) ((k : Int) + 1) R) ?_ ?_ 0 (Nat.zero_le _)
  · exact b_Wt_likeliestOf_k20 hS ⟨fun _ => h, fun e => absurd (by decide) e⟩
  · intro k hk ih
    have ha := amx_le p k
    have h1 := hok.le (j := k + 1) (by omega)
    have h2 := hok.1 (k + 1) (by omega)
    have h3 := hok.le (j := amx p k) (by omega)
    have h4 := hok.1 (amx p k) (by omega)
    have ek : (rw' : Int) + ((k : Int) + 1) = ((rw' + (k + 1) : Nat) : Int) := by omega
    refine b_Wt_likeliestOf_k20 hS ?_
    rw [ek, ix_nat (by omega), ix_add (by omega), hp (k + 1) (by omega), hp (amx p k) (by omega), w32_b (z := p (k + 1)) (by omega) (by omega), w32_b (z := p (amx p k)) (by omega) (by omega), w32_b (z := 10) (by omega) (by omega), w32_b (z := (k : Int) + 1) (by omega) (by omega)]
    refine ⟨fun e => absurd e (by omega), fun _ => ⟨inb_b (by omega) (by omega) (by decide), inb_b (by omega) (by omega) (by decide), fun e => ?_, fun e => ?_⟩⟩
    · have ea : amx p (k + 1) = amx p k := (if_neg (show ¬ p (amx p k) < p (k + 1) by omega) : (if p (amx p k) < p (k + 1) then k + 1 else amx p k) = amx p k)
      rw [ea] at ih; exact ih
    · have ea : amx p (k + 1) = k + 1 := (if_pos (show p (amx p k) < p (k + 1) by omega) : (if p (amx p k) < p (k + 1) then k + 1 else amx p k) = k + 1)
      rw [ea] at ih; exact ih
theorem s_Wt_likeliestOf {I : XI} {c nc ng nn fc f wk : Nat} {X : Nat → Nat → Int} {cp wp : Int} {R : Int → XI → Prop} (hS : xSh S) (hcp : cp = (c : Int)) (hc : c < 6) (hwp : wp = (wk : Int)) (hwk : wk ≤ 99) (hX : PtOk X nc ng nn) (hXC : XC I X) (hnc : I c_land 0 = (nc : Int)) (hng : I c_land 3 = (ng : Int)) (hnn : I c_herds 5 = (nn : Int)) (hf : I c_herds_firstWeeks c = (f : Int)) (hf2 : f ≤ wk) (hfc : I c_herds_firstCells c = (fc : Int)) (hfc2 : fc < nc) (h6 : InR (I c_then 6)) (hk : knWt I X nc ng nn c fc f)
    (h : ∀ I', knWt I' X nc ng nn c fc f → fmWt I I' X nn c → R (amx (ptA X nc ng nn c (I c_then 6) fc f (wk - f)) 9 : Int) I') : Wt_likeliestOf G S I cp wp R := by
  refine b_Wt_likeliestOf hS (s_Wt_reach hS hcp hc hwp hwk hX hXC hnc hng hnn hf (by omega) hfc hfc2 h6 hk (fun I' k1 k2 k3 => s_rowOf hS hcp hwp ?_))
  have e6 : I' c_then 6 = I c_then 6 := by rw [k3.1 _ (by decide) (by decide) (by decide) (by decide) (by decide) (by decide)]
  have t := (k1.2.2 wk hf2 (k2 hf2)).1
  rw [e6] at t
  exact s_Wt_likely hS rfl (by omega) t (pt_ok hX hfc2 _).2.1 (h I' k1 k3)
theorem s_Wt_quarrels {I : XI} {c nn wk : Nat} {X : Nat → Nat → Int} {k : Int} {f : Nat} {F : Nat → Nat → Int} {R : Int → XI → Prop} (hS : xSh S) (hc : c < 6) (hwk : wk ≤ 99) (hn2 : nn ≤ 60) (hXC : XC I X) (hnn : I c_herds 5 = (nn : Int)) (hw : I c_told 9 = (wk : Int)) (hN : ∀ j, j < nn → InR (X 5 j) ∧ InR (X 7 j) ∧ InR (X 8 j) ∧ InR (X 9 j)) (h6 : InR (I c_then 6)) (hk : InR k) (hq : ∀ w i, f ≤ w → w ≤ wk → i < nn → X 5 i = (c : Int) → X 7 i = (w : Int) → X 9 i ≤ I c_then 6 → I c_then_quarrels i = F w i ∧ InR (F w i)) :
    ∀ m, m + f ≤ wk + 1 → ∀ fd : Int, 0 ≤ fd → fd ≤ ((wk + 1 - m : Nat) : Int) * 60 → R (qW (fun w i => X 5 i = (c : Int) ∧ X 7 i = (w : Int) ∧ X 9 i ≤ I c_then 6 ∧ F w i = 1) k nn (wk + 1) m fd) I → Wt_quarrelOf_k28 G S I (c : Int) k fd ((wk + 1 - m : Nat) : Int) R := by
  obtain ⟨y0, y1, y2, y3, y4, y5, y6, y7, y8, y9⟩ := hXC
  intro m
  induction m with
  | zero =>
    intro _ fd _ _ h
    refine b_Wt_quarrelOf_k28 hS ⟨fun _ => h, fun e => absurd ?_ e⟩
    rw [hw, w32_nat (by omega), w32_nat (by omega)]; omega
  | succ m ih =>
    intro hm fd hf1 hf2 h
    refine b_Wt_quarrelOf_k28 hS ⟨fun e => absurd e ?_, fun _ => ?_⟩
    · rw [hw, w32_nat (by omega), w32_nat (by omega)]; omega
    · generalize hwv : wk + 1 - (m + 1) = w at hf2 ⊢
      have hQ : ∀ n, n ≤ nn → ∀ fd : Int, 0 ≤ fd → fd ≤ (w : Int) * 60 + ((nn - n : Nat) : Int) → R (qI (fun i => X 5 i = (c : Int) ∧ X 7 i = (w : Int) ∧ X 9 i ≤ I c_then 6 ∧ F w i = 1) k nn (qW (fun w i => X 5 i = (c : Int) ∧ X 7 i = (w : Int) ∧ X 9 i ≤ I c_then 6 ∧ F w i = 1) k nn (wk + 1) m) n fd) I → Wt_quarrelOf_k40 G S I (c : Int) k fd (w : Int) ((nn - n : Nat) : Int) R := by
        intro n
        induction n with
        | zero =>
          intro _ fd g1 g2 h
          refine b_Wt_quarrelOf_k40 hS ⟨fun _ => ?_, fun e => absurd ?_ e⟩
          · have := ih (by omega) fd g1 (by omega) h
            rw [show ((wk + 1 - m : Nat) : Int) = (w : Int) + 1 by omega] at this
            exact this
          · rw [hnn]; exact Int.le_refl _
        | succ n ih2 =>
          intro hn fd g1 g2 h
          generalize hi : nn - (n + 1) = i at g2 ⊢
          have e1 : ((nn - n : Nat) : Int) = (i : Int) + 1 := by omega
          have hl : i < nn := by omega
          have hx := hN i hl
          have skip : ¬ (X 5 i = (c : Int) ∧ X 7 i = (w : Int) ∧ X 9 i ≤ I c_then 6 ∧ F w i = 1) → Wt_quarrelOf_k40 G S I (c : Int) k fd (w : Int) ((i : Int) + 1) R := by
            intro hz
            rw [← e1]
            refine ih2 (by omega) fd g1 (by omega) ?_
            rw [qI, hi, if_neg hz] at h
            exact h
          refine b_Wt_quarrelOf_k40 hS ⟨fun e => absurd e ?_, fun _ => ?_⟩
          · rw [hnn, w32_nat (by omega), w32_nat (by omega)]; omega
          · refine b_He_isNewsOf hS ?_
            rw [ix_nat (by omega), y5, y7, y9, w32_r hx.1, w32_r hx.2.1, w32_r hx.2.2.2, w32_r h6, w32_nat (by omega), w32_nat (by omega), show w32 1 = 1 from rfl, w32_r hk, w32_b (z := fd) (by omega) (by omega)]
            refine ⟨inb_b (by omega) (by omega) (by decide), fun f1 => ⟨inb_b (by omega) (by omega) (by decide), fun f2 => ⟨inb_b (by omega) (by omega) (by decide), fun f3 => br0 (skip (fun q => by omega)), fun f3 => br1 ?_⟩, fun f2 => br0 (skip (fun q => f2 q.2.1))⟩, fun f1 => br0 (skip (fun q => f1 q.1))⟩
            obtain ⟨hv, hr⟩ := hq w i (by omega) (by omega) hl f1 f2 (by omega)
            rw [hv, w32_r hr]
            refine ⟨inb_b (by omega) (by omega) (by decide), fun f4 => ?_, fun f4 => skip (fun q => f4 q.2.2.2)⟩
            have hz : X 5 i = (c : Int) ∧ X 7 i = (w : Int) ∧ X 9 i ≤ I c_then 6 ∧ F w i = 1 := ⟨f1, f2, by omega, f4⟩
            rw [qI, hi, if_pos hz] at h
            refine ⟨fun f5 => ?_, fun f5 => ?_⟩
            · rw [if_pos f5] at h; exact h
            · rw [if_neg f5] at h
              rw [← e1]
              exact ih2 (by omega) (fd + 1) (by omega) (by omega) h
      have := hQ nn (Nat.le_refl _) fd hf1 (by omega)
      rw [Nat.sub_self] at this
      refine this ?_
      rw [qW, hwv] at h
      exact h
theorem s_Wt_quarrelOf {I : XI} {c nc ng nn fc f wk : Nat} {X : Nat → Nat → Int} {cp k : Int} {R : Int → XI → Prop} (hS : xSh S) (hcp : cp = (c : Int)) (hc : c < 6) (hwp : I c_told 9 = (wk : Int)) (hwk : wk ≤ 99) (hX : PtOk X nc ng nn) (hXC : XC I X) (hnc : I c_land 0 = (nc : Int)) (hng : I c_land 3 = (ng : Int)) (hnn : I c_herds 5 = (nn : Int)) (hf : I c_herds_firstWeeks c = (f : Int)) (hf2 : f ≤ wk + 1) (hf3 : f ≤ 99) (hfc : I c_herds_firstCells c = (fc : Int)) (hfc2 : fc < nc) (h6 : InR (I c_then 6)) (hi : InR k) (hk : knWt I X nc ng nn c fc f)
    (h : ∀ I', knWt I' X nc ng nn c fc f → fmWt I I' X nn c → R (qW (fun w i => X 5 i = (c : Int) ∧ X 7 i = (w : Int) ∧ X 9 i ≤ I c_then 6 ∧ quA X nc ng nn c (I c_then 6) fc f (w - f) i = 1) k nn (wk + 1) (wk + 1 - f) 0) I') : Wt_quarrelOf G S I cp k R := by
  refine b_Wt_quarrelOf hS (s_Wt_reach hS hcp hc hwp hwk hX hXC hnc hng hnn hf hf3 hfc hfc2 h6 hk (fun I' k1 k2 k3 => ?_))
  have b := k3.1
  have e6 : I' c_then 6 = I c_then 6 := by rw [b _ (by decide) (by decide) (by decide) (by decide) (by decide) (by decide)]
  subst hcp
  obtain ⟨y0, y1, y2, y3, y4, y5, y6, y7, y8, y9⟩ := hXC
  have hXC' : XC I' X := ⟨(b _ (by decide) (by decide) (by decide) (by decide) (by decide) (by decide)).trans y0, (b _ (by decide) (by decide) (by decide) (by decide) (by decide) (by decide)).trans y1, (b _ (by decide) (by decide) (by decide) (by decide) (by decide) (by decide)).trans y2, (b _ (by decide) (by decide) (by decide) (by decide) (by decide) (by decide)).trans y3, (b _ (by decide) (by decide) (by decide) (by decide) (by decide) (by decide)).trans y4, (b _ (by decide) (by decide) (by decide) (by decide) (by decide) (by decide)).trans y5, (b _ (by decide) (by decide) (by decide) (by decide) (by decide) (by decide)).trans y6, (b _ (by decide) (by decide) (by decide) (by decide) (by decide) (by decide)).trans y7, (b _ (by decide) (by decide) (by decide) (by decide) (by decide) (by decide)).trans y8, (b _ (by decide) (by decide) (by decide) (by decide) (by decide) (by decide)).trans y9⟩
  refine ⟨inb_b (by omega) (by omega) (by decide), ?_⟩
  rw [ix_nat (by omega), b c_herds_firstWeeks (by decide) (by decide) (by decide) (by decide) (by decide) (by decide), hf]
  have hh := h I' k1 k3
  rw [← e6] at hh
  have := s_Wt_quarrels (G := G) (f := f) (F := fun w i => quA X nc ng nn c (I' c_then 6) fc f (w - f) i) (k := k) (R := R) hS hc hwk hX.2.2.1 hXC' (by rw [b _ (by decide) (by decide) (by decide) (by decide) (by decide) (by decide)]; exact hnn) (by rw [b _ (by decide) (by decide) (by decide) (by decide) (by decide) (by decide)]; exact hwp) hX.2.2.2.2.2.2.2.2.2.1 (by rw [e6]; exact h6) hi (fun w i hw1 hw2 hin a1 a2 a3 => ?_) (wk + 1 - f) (by omega) 0 (Int.le_refl _) (by omega) hh
  · rw [show wk + 1 - (wk + 1 - f) = f by omega] at this
    exact this
  · have kk := k2 (by omega)
    refine ⟨(k1.2.2 w hw1 (by omega)).2 i hin a1 a2 a3, ?_⟩
    exact heS_r _ _ _
end PW
