/-! ===== printed by wip/gen99h.py: the law's loop ===== -/
section LL
variable {G : XG}
/-- the law comes to its end with true -/
abbrev QL : Option Value → XS → XI → Prop := fun v _ _ => v = some (vi 1)
theorem u_L200 {S : XS} {I : XI} {k : Nat × Nat} {v3 : Int} (hS : xSh S) (hk : k.1 + 43 ≤ 73020 ∧ k.2 + 2860 ≤ 8883190) (hI : Rel S I) (hb : ∀ d : Int, 1 ≤ d → d ≤ 5 → inb (v3 + d) G.2.2.2.2.2.2.1) (hv : ∀ j, InR (G.2.2.2.2.2.2.2 j)) (go : ∀ (S : XS) (J : XI) (k2 : Nat × Nat), xSh S → Rel S J → k2.1 ≤ k.1 + 43 → k2.2 ≤ k.2 + 2860 → L_k1582 G S k2 J v3 QL) : L_k200 G S k I v3 QL := by
  have i1 : inb (v3 + 1) G.2.2.2.2.2.2.1 = True := eq_true (hb 1 (by decide) (by decide))
  refine b_L_k200 hS ⟨by omega, by omega⟩ ?_
  by_cases c : w32 (G.2.2.2.2.2.2.2 (ix (v3 + 1))) = 0
  · simp only [i1, true_and, eq_true c, not_true_eq_false, true_implies, false_implies, and_true, true_and]
    exact t_cell hS hI (Or.inl rfl) (fun r J hJ => ⟨fun _ => go S J k hS hJ (by omega) (by omega), fun ne => absurd rfl ne⟩)
  · simp only [i1, true_and, eq_false c, not_false_eq_true, true_implies, false_implies, and_true, true_and]
    exact t_cell hS hI (Or.inr rfl) (fun r J hJ => ⟨fun _ => go S J k hS hJ (by omega) (by omega), fun ne => absurd rfl ne⟩)
theorem u_L239 {S : XS} {I : XI} {k : Nat × Nat} {v3 : Int} (hS : xSh S) (hk : k.1 + 43 ≤ 73020 ∧ k.2 + 2860 ≤ 8883190) (hI : Rel S I) (hb : ∀ d : Int, 1 ≤ d → d ≤ 5 → inb (v3 + d) G.2.2.2.2.2.2.1) (hv : ∀ j, InR (G.2.2.2.2.2.2.2 j)) (go : ∀ (S : XS) (J : XI) (k2 : Nat × Nat), xSh S → Rel S J → k2.1 ≤ k.1 + 43 → k2.2 ≤ k.2 + 2860 → L_k1582 G S k2 J v3 QL) : L_k239 G S k I v3 QL := by
  have i1 : inb (v3 + 1) G.2.2.2.2.2.2.1 = True := eq_true (hb 1 (by decide) (by decide))
  have i2 : inb (v3 + 2) G.2.2.2.2.2.2.1 = True := eq_true (hb 2 (by decide) (by decide))
  have i3 : inb (v3 + 3) G.2.2.2.2.2.2.1 = True := eq_true (hb 3 (by decide) (by decide))
  refine b_L_k239 hS ⟨by omega, by omega⟩ ?_
  simp only [i1, i2, i3, true_and]
  exact t_way hS hI (hv _) (hv _) (hv _) (fun r J hJ => ⟨fun _ => go S J k hS hJ (by omega) (by omega), fun ne => absurd rfl ne⟩)
theorem u_L282 {S : XS} {I : XI} {k : Nat × Nat} {v3 : Int} (hS : xSh S) (hk : k.1 + 43 ≤ 73020 ∧ k.2 + 2860 ≤ 8883190) (hI : Rel S I) (hb : ∀ d : Int, 1 ≤ d → d ≤ 5 → inb (v3 + d) G.2.2.2.2.2.2.1) (hv : ∀ j, InR (G.2.2.2.2.2.2.2 j)) (go : ∀ (S : XS) (J : XI) (k2 : Nat × Nat), xSh S → Rel S J → k2.1 ≤ k.1 + 43 → k2.2 ≤ k.2 + 2860 → L_k1582 G S k2 J v3 QL) : L_k282 G S k I v3 QL := by
  have i1 : inb (v3 + 1) G.2.2.2.2.2.2.1 = True := eq_true (hb 1 (by decide) (by decide))
  have i2 : inb (v3 + 2) G.2.2.2.2.2.2.1 = True := eq_true (hb 2 (by decide) (by decide))
  refine b_L_k282 hS ⟨by omega, by omega⟩ ?_
  simp only [i1, i2, true_and]
  exact t_camp hS hI (hv _) (hv _) (fun r J hJ => ⟨fun _ => go S J k hS hJ (by omega) (by omega), fun ne => absurd rfl ne⟩)
theorem u_L315 {S : XS} {I : XI} {k : Nat × Nat} {v3 : Int} (hS : xSh S) (hk : k.1 + 43 ≤ 73020 ∧ k.2 + 2860 ≤ 8883190) (hI : Rel S I) (hb : ∀ d : Int, 1 ≤ d → d ≤ 5 → inb (v3 + d) G.2.2.2.2.2.2.1) (hv : ∀ j, InR (G.2.2.2.2.2.2.2 j)) (go : ∀ (S : XS) (J : XI) (k2 : Nat × Nat), xSh S → Rel S J → k2.1 ≤ k.1 + 43 → k2.2 ≤ k.2 + 2860 → L_k1582 G S k2 J v3 QL) : L_k315 G S k I v3 QL := by
  have i1 : inb (v3 + 1) G.2.2.2.2.2.2.1 = True := eq_true (hb 1 (by decide) (by decide))
  have i2 : inb (v3 + 2) G.2.2.2.2.2.2.1 = True := eq_true (hb 2 (by decide) (by decide))
  have i3 : inb (v3 + 3) G.2.2.2.2.2.2.1 = True := eq_true (hb 3 (by decide) (by decide))
  refine b_L_k315 hS ⟨by omega, by omega⟩ ?_
  simp only [i1, i2, i3, true_and]
  exact t_grass hS hI (hv _) (hv _) (hv _) (fun r J hJ => ⟨fun _ => go S J k hS hJ (by omega) (by omega), fun ne => absurd rfl ne⟩)
theorem u_L358 {S : XS} {I : XI} {k : Nat × Nat} {v3 : Int} (hS : xSh S) (hk : k.1 + 43 ≤ 73020 ∧ k.2 + 2860 ≤ 8883190) (hI : Rel S I) (hb : ∀ d : Int, 1 ≤ d → d ≤ 5 → inb (v3 + d) G.2.2.2.2.2.2.1) (hv : ∀ j, InR (G.2.2.2.2.2.2.2 j)) (go : ∀ (S : XS) (J : XI) (k2 : Nat × Nat), xSh S → Rel S J → k2.1 ≤ k.1 + 43 → k2.2 ≤ k.2 + 2860 → L_k1582 G S k2 J v3 QL) : L_k358 G S k I v3 QL := by
  have i1 : inb (v3 + 1) G.2.2.2.2.2.2.1 = True := eq_true (hb 1 (by decide) (by decide))
  have i2 : inb (v3 + 2) G.2.2.2.2.2.2.1 = True := eq_true (hb 2 (by decide) (by decide))
  refine b_L_k358 hS ⟨by omega, by omega⟩ ?_
  by_cases c : w32 (G.2.2.2.2.2.2.2 (ix (v3 + 2))) = 0
  · simp only [i1, i2, true_and, eq_true c, not_true_eq_false, true_implies, false_implies, and_true, true_and]
    exact t_dry hS hI (hv _) (Or.inl rfl) (fun r J hJ => ⟨fun _ => go S J k hS hJ (by omega) (by omega), fun ne => absurd rfl ne⟩)
  · simp only [i1, i2, true_and, eq_false c, not_false_eq_true, true_implies, false_implies, and_true, true_and]
    exact t_dry hS hI (hv _) (Or.inr rfl) (fun r J hJ => ⟨fun _ => go S J k hS hJ (by omega) (by omega), fun ne => absurd rfl ne⟩)
theorem u_L407 {S : XS} {I : XI} {k : Nat × Nat} {v3 : Int} (hS : xSh S) (hk : k.1 + 43 ≤ 73020 ∧ k.2 + 2860 ≤ 8883190) (hI : Rel S I) (hb : ∀ d : Int, 1 ≤ d → d ≤ 5 → inb (v3 + d) G.2.2.2.2.2.2.1) (hv : ∀ j, InR (G.2.2.2.2.2.2.2 j)) (go : ∀ (S : XS) (J : XI) (k2 : Nat × Nat), xSh S → Rel S J → k2.1 ≤ k.1 + 43 → k2.2 ≤ k.2 + 2860 → L_k1582 G S k2 J v3 QL) : L_k407 G S k I v3 QL := by
  have i1 : inb (v3 + 1) G.2.2.2.2.2.2.1 = True := eq_true (hb 1 (by decide) (by decide))
  refine b_L_k407 hS ⟨by omega, by omega⟩ ?_
  simp only [i1, true_and]
  exact t_week hS hI (hv _) (fun r J hJ => ⟨fun _ => go S J k hS hJ (by omega) (by omega), fun ne => absurd rfl ne⟩)
theorem u_L430 {S : XS} {I : XI} {k : Nat × Nat} {v3 : Int} (hS : xSh S) (hk : k.1 + 43 ≤ 73020 ∧ k.2 + 2860 ≤ 8883190) (hI : Rel S I) (hb : ∀ d : Int, 1 ≤ d → d ≤ 5 → inb (v3 + d) G.2.2.2.2.2.2.1) (hv : ∀ j, InR (G.2.2.2.2.2.2.2 j)) (go : ∀ (S : XS) (J : XI) (k2 : Nat × Nat), xSh S → Rel S J → k2.1 ≤ k.1 + 43 → k2.2 ≤ k.2 + 2860 → L_k1582 G S k2 J v3 QL) : L_k430 G S k I v3 QL := by
  have i1 : inb (v3 + 1) G.2.2.2.2.2.2.1 = True := eq_true (hb 1 (by decide) (by decide))
  refine b_L_k430 hS ⟨by omega, by omega⟩ ?_
  simp only [i1, true_and]
  exact t_view hS hI (hv _) (fun r J hJ => ⟨fun _ => go S J k hS hJ (by omega) (by omega), fun ne => absurd rfl ne⟩)
theorem u_L453 {S : XS} {I : XI} {k : Nat × Nat} {v3 : Int} (hS : xSh S) (hk : k.1 + 43 ≤ 73020 ∧ k.2 + 2860 ≤ 8883190) (hI : Rel S I) (hb : ∀ d : Int, 1 ≤ d → d ≤ 5 → inb (v3 + d) G.2.2.2.2.2.2.1) (hv : ∀ j, InR (G.2.2.2.2.2.2.2 j)) (go : ∀ (S : XS) (J : XI) (k2 : Nat × Nat), xSh S → Rel S J → k2.1 ≤ k.1 + 43 → k2.2 ≤ k.2 + 2860 → L_k1582 G S k2 J v3 QL) : L_k453 G S k I v3 QL := by
  have i1 : inb (v3 + 1) G.2.2.2.2.2.2.1 = True := eq_true (hb 1 (by decide) (by decide))
  have i2 : inb (v3 + 2) G.2.2.2.2.2.2.1 = True := eq_true (hb 2 (by decide) (by decide))
  have i3 : inb (v3 + 3) G.2.2.2.2.2.2.1 = True := eq_true (hb 3 (by decide) (by decide))
  have i4 : inb (v3 + 4) G.2.2.2.2.2.2.1 = True := eq_true (hb 4 (by decide) (by decide))
  refine b_L_k453 hS ⟨by omega, by omega⟩ ?_
  by_cases c : w32 (G.2.2.2.2.2.2.2 (ix (v3 + 4))) = 0
  · simp only [i1, i2, i3, i4, true_and, eq_true c, not_true_eq_false, true_implies, false_implies, and_true, true_and]
    exact t_news hS hI (hv _) (hv _) (hv _) (Or.inl rfl) (fun r J hJ => ⟨fun _ => go S J k hS hJ (by omega) (by omega), fun ne => absurd rfl ne⟩)
  · simp only [i1, i2, i3, i4, true_and, eq_false c, not_false_eq_true, true_implies, false_implies, and_true, true_and]
    exact t_news hS hI (hv _) (hv _) (hv _) (Or.inr rfl) (fun r J hJ => ⟨fun _ => go S J k hS hJ (by omega) (by omega), fun ne => absurd rfl ne⟩)
theorem u_L522 {S : XS} {I : XI} {k : Nat × Nat} {v3 : Int} (hS : xSh S) (hk : k.1 + 43 ≤ 73020 ∧ k.2 + 2860 ≤ 8883190) (hI : Rel S I) (hb : ∀ d : Int, 1 ≤ d → d ≤ 5 → inb (v3 + d) G.2.2.2.2.2.2.1) (hv : ∀ j, InR (G.2.2.2.2.2.2.2 j)) (go : ∀ (S : XS) (J : XI) (k2 : Nat × Nat), xSh S → Rel S J → k2.1 ≤ k.1 + 43 → k2.2 ≤ k.2 + 2860 → L_k1582 G S k2 J v3 QL) : L_k522 G S k I v3 QL := by
  have i1 : inb (v3 + 1) G.2.2.2.2.2.2.1 = True := eq_true (hb 1 (by decide) (by decide))
  have i2 : inb (v3 + 2) G.2.2.2.2.2.2.1 = True := eq_true (hb 2 (by decide) (by decide))
  have i3 : inb (v3 + 3) G.2.2.2.2.2.2.1 = True := eq_true (hb 3 (by decide) (by decide))
  refine b_L_k522 hS ⟨by omega, by omega⟩ ?_
  simp only [i1, i2, i3, true_and]
  exact t_parts hS hI (hv _) (hv _) (hv _) (fun r J hJ => ⟨fun _ => go S J k hS hJ (by omega) (by omega), fun ne => absurd rfl ne⟩)
theorem u_L565 {S : XS} {I : XI} {k : Nat × Nat} {v3 : Int} (hS : xSh S) (hk : k.1 + 43 ≤ 73020 ∧ k.2 + 2860 ≤ 8883190) (hI : Rel S I) (hb : ∀ d : Int, 1 ≤ d → d ≤ 5 → inb (v3 + d) G.2.2.2.2.2.2.1) (hv : ∀ j, InR (G.2.2.2.2.2.2.2 j)) (go : ∀ (S : XS) (J : XI) (k2 : Nat × Nat), xSh S → Rel S J → k2.1 ≤ k.1 + 43 → k2.2 ≤ k.2 + 2860 → L_k1582 G S k2 J v3 QL) : L_k565 G S k I v3 QL := by
  have i1 : inb (v3 + 1) G.2.2.2.2.2.2.1 = True := eq_true (hb 1 (by decide) (by decide))
  have i2 : inb (v3 + 2) G.2.2.2.2.2.2.1 = True := eq_true (hb 2 (by decide) (by decide))
  refine b_L_k565 hS ⟨by omega, by omega⟩ ?_
  simp only [i1, i2, true_and]
  exact t_likeliest hS hI (hv _) (hv _) (fun r J hJ => ⟨fun _ => go S J k hS hJ (by omega) (by omega), fun ne => absurd rfl ne⟩)
theorem u_L598 {S : XS} {I : XI} {k : Nat × Nat} {v3 : Int} (hS : xSh S) (hk : k.1 + 43 ≤ 73020 ∧ k.2 + 2860 ≤ 8883190) (hI : Rel S I) (hb : ∀ d : Int, 1 ≤ d → d ≤ 5 → inb (v3 + d) G.2.2.2.2.2.2.1) (hv : ∀ j, InR (G.2.2.2.2.2.2.2 j)) (go : ∀ (S : XS) (J : XI) (k2 : Nat × Nat), xSh S → Rel S J → k2.1 ≤ k.1 + 43 → k2.2 ≤ k.2 + 2860 → L_k1582 G S k2 J v3 QL) : L_k598 G S k I v3 QL := by
  have i1 : inb (v3 + 1) G.2.2.2.2.2.2.1 = True := eq_true (hb 1 (by decide) (by decide))
  have i2 : inb (v3 + 2) G.2.2.2.2.2.2.1 = True := eq_true (hb 2 (by decide) (by decide))
  refine b_L_k598 hS ⟨by omega, by omega⟩ ?_
  simp only [i1, i2, true_and]
  exact t_quarrel hS hI (hv _) (hv _) (fun r J hJ => ⟨fun _ => go S J k hS hJ (by omega) (by omega), fun ne => absurd rfl ne⟩)
theorem u_L631 {S : XS} {I : XI} {k : Nat × Nat} {v3 : Int} (hS : xSh S) (hk : k.1 + 43 ≤ 73020 ∧ k.2 + 2860 ≤ 8883190) (hI : Rel S I) (hb : ∀ d : Int, 1 ≤ d → d ≤ 5 → inb (v3 + d) G.2.2.2.2.2.2.1) (hv : ∀ j, InR (G.2.2.2.2.2.2.2 j)) (go : ∀ (S : XS) (J : XI) (k2 : Nat × Nat), xSh S → Rel S J → k2.1 ≤ k.1 + 43 → k2.2 ≤ k.2 + 2860 → L_k1582 G S k2 J v3 QL) : L_k631 G S k I v3 QL := by
  have i1 : inb (v3 + 1) G.2.2.2.2.2.2.1 = True := eq_true (hb 1 (by decide) (by decide))
  have i2 : inb (v3 + 2) G.2.2.2.2.2.2.1 = True := eq_true (hb 2 (by decide) (by decide))
  have i3 : inb (v3 + 3) G.2.2.2.2.2.2.1 = True := eq_true (hb 3 (by decide) (by decide))
  have i4 : inb (v3 + 4) G.2.2.2.2.2.2.1 = True := eq_true (hb 4 (by decide) (by decide))
  have i5 : inb (v3 + 5) G.2.2.2.2.2.2.1 = True := eq_true (hb 5 (by decide) (by decide))
  refine b_L_k631 hS ⟨by omega, by omega⟩ ?_
  simp only [i1, i2, i3, i4, i5, true_and]
  exact t_book hS hI (hv _) (hv _) (hv _) (hv _) (hv _) (fun r J hJ => ⟨fun _ => go S J k hS hJ (by omega) (by omega), fun ne => absurd rfl ne⟩)
theorem u_L694 {S : XS} {I : XI} {k : Nat × Nat} {v3 : Int} (hS : xSh S) (hk : k.1 + 43 ≤ 73020 ∧ k.2 + 2860 ≤ 8883190) (hI : Rel S I) (hb : ∀ d : Int, 1 ≤ d → d ≤ 5 → inb (v3 + d) G.2.2.2.2.2.2.1) (hv : ∀ j, InR (G.2.2.2.2.2.2.2 j)) (go : ∀ (S : XS) (J : XI) (k2 : Nat × Nat), xSh S → Rel S J → k2.1 ≤ k.1 + 43 → k2.2 ≤ k.2 + 2860 → L_k1582 G S k2 J v3 QL) : L_k694 G S k I v3 QL := by
  have i1 : inb (v3 + 1) G.2.2.2.2.2.2.1 = True := eq_true (hb 1 (by decide) (by decide))
  have i2 : inb (v3 + 2) G.2.2.2.2.2.2.1 = True := eq_true (hb 2 (by decide) (by decide))
  refine b_L_k694 hS ⟨by omega, by omega⟩ ?_
  simp only [i1, i2, true_and]
  exact t_lend hS hI (hv _) (hv _) (fun r J hJ => ⟨fun _ => go S J k hS hJ (by omega) (by omega), fun ne => absurd rfl ne⟩)
theorem u_L727 {S : XS} {I : XI} {k : Nat × Nat} {v3 : Int} (hS : xSh S) (hk : k.1 + 43 ≤ 73020 ∧ k.2 + 2860 ≤ 8883190) (hI : Rel S I) (hb : ∀ d : Int, 1 ≤ d → d ≤ 5 → inb (v3 + d) G.2.2.2.2.2.2.1) (hv : ∀ j, InR (G.2.2.2.2.2.2.2 j)) (go : ∀ (S : XS) (J : XI) (k2 : Nat × Nat), xSh S → Rel S J → k2.1 ≤ k.1 + 43 → k2.2 ≤ k.2 + 2860 → L_k1582 G S k2 J v3 QL) : L_k727 G S k I v3 QL := by
  have i1 : inb (v3 + 1) G.2.2.2.2.2.2.1 = True := eq_true (hb 1 (by decide) (by decide))
  have i2 : inb (v3 + 2) G.2.2.2.2.2.2.1 = True := eq_true (hb 2 (by decide) (by decide))
  have i3 : inb (v3 + 3) G.2.2.2.2.2.2.1 = True := eq_true (hb 3 (by decide) (by decide))
  refine b_L_k727 hS ⟨by omega, by omega⟩ ?_
  simp only [i1, i2, i3, true_and]
  exact t_pass hS hI (hv _) (hv _) (hv _) (fun r J hJ => ⟨fun _ => go S J k hS hJ (by omega) (by omega), fun ne => absurd rfl ne⟩)
theorem u_L770 {S : XS} {I : XI} {k : Nat × Nat} {v3 : Int} (hS : xSh S) (hk : k.1 + 43 ≤ 73020 ∧ k.2 + 2860 ≤ 8883190) (hI : Rel S I) (hb : ∀ d : Int, 1 ≤ d → d ≤ 5 → inb (v3 + d) G.2.2.2.2.2.2.1) (hv : ∀ j, InR (G.2.2.2.2.2.2.2 j)) (go : ∀ (S : XS) (J : XI) (k2 : Nat × Nat), xSh S → Rel S J → k2.1 ≤ k.1 + 43 → k2.2 ≤ k.2 + 2860 → L_k1582 G S k2 J v3 QL) : L_k770 G S k I v3 QL := by
  have i1 : inb (v3 + 1) G.2.2.2.2.2.2.1 = True := eq_true (hb 1 (by decide) (by decide))
  refine b_L_k770 hS ⟨by omega, by omega⟩ ?_
  simp only [i1, true_and]
  exact t_back hS hI (hv _) (fun r J hJ => ⟨fun _ => go S J k hS hJ (by omega) (by omega), fun ne => absurd rfl ne⟩)
theorem u_L793 {S : XS} {I : XI} {k : Nat × Nat} {v3 : Int} (hS : xSh S) (hk : k.1 + 43 ≤ 73020 ∧ k.2 + 2860 ≤ 8883190) (hI : Rel S I) (hb : ∀ d : Int, 1 ≤ d → d ≤ 5 → inb (v3 + d) G.2.2.2.2.2.2.1) (hv : ∀ j, InR (G.2.2.2.2.2.2.2 j)) (go : ∀ (S : XS) (J : XI) (k2 : Nat × Nat), xSh S → Rel S J → k2.1 ≤ k.1 + 43 → k2.2 ≤ k.2 + 2860 → L_k1582 G S k2 J v3 QL) : L_k793 G S k I v3 QL := by
  have i1 : inb (v3 + 1) G.2.2.2.2.2.2.1 = True := eq_true (hb 1 (by decide) (by decide))
  have i2 : inb (v3 + 2) G.2.2.2.2.2.2.1 = True := eq_true (hb 2 (by decide) (by decide))
  have i3 : inb (v3 + 3) G.2.2.2.2.2.2.1 = True := eq_true (hb 3 (by decide) (by decide))
  refine b_L_k793 hS ⟨by omega, by omega⟩ ?_
  simp only [i1, i2, i3, true_and]
  exact t_tear hS hI (hv _) (hv _) (hv _) (fun r J hJ => ⟨fun _ => go S J k hS hJ (by omega) (by omega), fun ne => absurd rfl ne⟩)
theorem u_L836 {S : XS} {I : XI} {k : Nat × Nat} {v3 : Int} (hS : xSh S) (hk : k.1 + 43 ≤ 73020 ∧ k.2 + 2860 ≤ 8883190) (hI : Rel S I) (hb : ∀ d : Int, 1 ≤ d → d ≤ 5 → inb (v3 + d) G.2.2.2.2.2.2.1) (hv : ∀ j, InR (G.2.2.2.2.2.2.2 j)) (go : ∀ (S : XS) (J : XI) (k2 : Nat × Nat), xSh S → Rel S J → k2.1 ≤ k.1 + 43 → k2.2 ≤ k.2 + 2860 → L_k1582 G S k2 J v3 QL) : L_k836 G S k I v3 QL := by
  have i1 : inb (v3 + 1) G.2.2.2.2.2.2.1 = True := eq_true (hb 1 (by decide) (by decide))
  have i2 : inb (v3 + 2) G.2.2.2.2.2.2.1 = True := eq_true (hb 2 (by decide) (by decide))
  refine b_L_k836 hS ⟨by omega, by omega⟩ ?_
  simp only [i1, i2, true_and]
  exact t_act hS hI (hv _) (hv _) (fun r J hJ => ⟨fun _ => go S J k hS hJ (by omega) (by omega), fun ne => absurd rfl ne⟩)
theorem u_L869 {S : XS} {I : XI} {k : Nat × Nat} {v3 : Int} (hS : xSh S) (hk : k.1 + 43 ≤ 73020 ∧ k.2 + 2860 ≤ 8883190) (hI : Rel S I) (hb : ∀ d : Int, 1 ≤ d → d ≤ 5 → inb (v3 + d) G.2.2.2.2.2.2.1) (hv : ∀ j, InR (G.2.2.2.2.2.2.2 j)) (go : ∀ (S : XS) (J : XI) (k2 : Nat × Nat), xSh S → Rel S J → k2.1 ≤ k.1 + 43 → k2.2 ≤ k.2 + 2860 → L_k1582 G S k2 J v3 QL) : L_k869 G S k I v3 QL := by
  have i1 : inb (v3 + 1) G.2.2.2.2.2.2.1 = True := eq_true (hb 1 (by decide) (by decide))
  have i2 : inb (v3 + 2) G.2.2.2.2.2.2.1 = True := eq_true (hb 2 (by decide) (by decide))
  refine b_L_k869 hS ⟨by omega, by omega⟩ ?_
  simp only [i1, i2, true_and]
  exact t_who hS hI (hv _) (hv _) (fun r J hJ => ⟨fun _ => go S J k hS hJ (by omega) (by omega), fun ne => absurd rfl ne⟩)
theorem u_L902 {S : XS} {I : XI} {k : Nat × Nat} {v3 : Int} (hS : xSh S) (hk : k.1 + 43 ≤ 73020 ∧ k.2 + 2860 ≤ 8883190) (hI : Rel S I) (hb : ∀ d : Int, 1 ≤ d → d ≤ 5 → inb (v3 + d) G.2.2.2.2.2.2.1) (hv : ∀ j, InR (G.2.2.2.2.2.2.2 j)) (go : ∀ (S : XS) (J : XI) (k2 : Nat × Nat), xSh S → Rel S J → k2.1 ≤ k.1 + 43 → k2.2 ≤ k.2 + 2860 → L_k1582 G S k2 J v3 QL) : L_k902 G S k I v3 QL := by
  have i1 : inb (v3 + 1) G.2.2.2.2.2.2.1 = True := eq_true (hb 1 (by decide) (by decide))
  have i2 : inb (v3 + 2) G.2.2.2.2.2.2.1 = True := eq_true (hb 2 (by decide) (by decide))
  refine b_L_k902 hS ⟨by omega, by omega⟩ ?_
  simp only [i1, i2, true_and]
  exact t_had hS hI (hv _) (hv _) (fun r J hJ => ⟨fun _ => go S J k hS hJ (by omega) (by omega), fun ne => absurd rfl ne⟩)
theorem u_L935 {S : XS} {I : XI} {k : Nat × Nat} {v3 : Int} (hS : xSh S) (hk : k.1 + 43 ≤ 73020 ∧ k.2 + 2860 ≤ 8883190) (hI : Rel S I) (hb : ∀ d : Int, 1 ≤ d → d ≤ 5 → inb (v3 + d) G.2.2.2.2.2.2.1) (hv : ∀ j, InR (G.2.2.2.2.2.2.2 j)) (go : ∀ (S : XS) (J : XI) (k2 : Nat × Nat), xSh S → Rel S J → k2.1 ≤ k.1 + 43 → k2.2 ≤ k.2 + 2860 → L_k1582 G S k2 J v3 QL) : L_k935 G S k I v3 QL := by
  have i1 : inb (v3 + 1) G.2.2.2.2.2.2.1 = True := eq_true (hb 1 (by decide) (by decide))
  have i2 : inb (v3 + 2) G.2.2.2.2.2.2.1 = True := eq_true (hb 2 (by decide) (by decide))
  refine b_L_k935 hS ⟨by omega, by omega⟩ ?_
  simp only [i1, i2, true_and]
  exact t_due hS hI (hv _) (hv _) (fun r J hJ => ⟨fun _ => go S J k hS hJ (by omega) (by omega), fun ne => absurd rfl ne⟩)
theorem u_L968 {S : XS} {I : XI} {k : Nat × Nat} {v3 : Int} (hS : xSh S) (hk : k.1 + 43 ≤ 73020 ∧ k.2 + 2860 ≤ 8883190) (hI : Rel S I) (hb : ∀ d : Int, 1 ≤ d → d ≤ 5 → inb (v3 + d) G.2.2.2.2.2.2.1) (hv : ∀ j, InR (G.2.2.2.2.2.2.2 j)) (go : ∀ (S : XS) (J : XI) (k2 : Nat × Nat), xSh S → Rel S J → k2.1 ≤ k.1 + 43 → k2.2 ≤ k.2 + 2860 → L_k1582 G S k2 J v3 QL) : L_k968 G S k I v3 QL := by
  have i1 : inb (v3 + 1) G.2.2.2.2.2.2.1 = True := eq_true (hb 1 (by decide) (by decide))
  have i2 : inb (v3 + 2) G.2.2.2.2.2.2.1 = True := eq_true (hb 2 (by decide) (by decide))
  have i3 : inb (v3 + 3) G.2.2.2.2.2.2.1 = True := eq_true (hb 3 (by decide) (by decide))
  refine b_L_k968 hS ⟨by omega, by omega⟩ ?_
  simp only [i1, i2, i3, true_and]
  exact t_owes hS hI (hv _) (hv _) (hv _) (fun r J hJ => ⟨fun _ => go S J k hS hJ (by omega) (by omega), fun ne => absurd rfl ne⟩)
theorem u_L1011 {S : XS} {I : XI} {k : Nat × Nat} {v3 : Int} (hS : xSh S) (hk : k.1 + 43 ≤ 73020 ∧ k.2 + 2860 ≤ 8883190) (hI : Rel S I) (hb : ∀ d : Int, 1 ≤ d → d ≤ 5 → inb (v3 + d) G.2.2.2.2.2.2.1) (hv : ∀ j, InR (G.2.2.2.2.2.2.2 j)) (go : ∀ (S : XS) (J : XI) (k2 : Nat × Nat), xSh S → Rel S J → k2.1 ≤ k.1 + 43 → k2.2 ≤ k.2 + 2860 → L_k1582 G S k2 J v3 QL) : L_k1011 G S k I v3 QL := by
  have i1 : inb (v3 + 1) G.2.2.2.2.2.2.1 = True := eq_true (hb 1 (by decide) (by decide))
  have i2 : inb (v3 + 2) G.2.2.2.2.2.2.1 = True := eq_true (hb 2 (by decide) (by decide))
  have i3 : inb (v3 + 3) G.2.2.2.2.2.2.1 = True := eq_true (hb 3 (by decide) (by decide))
  have i4 : inb (v3 + 4) G.2.2.2.2.2.2.1 = True := eq_true (hb 4 (by decide) (by decide))
  have i5 : inb (v3 + 5) G.2.2.2.2.2.2.1 = True := eq_true (hb 5 (by decide) (by decide))
  refine b_L_k1011 hS ⟨by omega, by omega⟩ ?_
  simp only [i1, i2, i3, i4, i5, true_and]
  exact t_feed hS hI  (fun r J hJ => ⟨fun _ => go S J k hS hJ (by omega) (by omega), fun ne => absurd rfl ne⟩)
theorem u_L1074 {S : XS} {I : XI} {k : Nat × Nat} {v3 : Int} (hS : xSh S) (hk : k.1 + 43 ≤ 73020 ∧ k.2 + 2860 ≤ 8883190) (hI : Rel S I) (hb : ∀ d : Int, 1 ≤ d → d ≤ 5 → inb (v3 + d) G.2.2.2.2.2.2.1) (hv : ∀ j, InR (G.2.2.2.2.2.2.2 j)) (go : ∀ (S : XS) (J : XI) (k2 : Nat × Nat), xSh S → Rel S J → k2.1 ≤ k.1 + 43 → k2.2 ≤ k.2 + 2860 → L_k1582 G S k2 J v3 QL) : L_k1074 G S k I v3 QL := by
  have i1 : inb (v3 + 1) G.2.2.2.2.2.2.1 = True := eq_true (hb 1 (by decide) (by decide))
  refine b_L_k1074 hS ⟨by omega, by omega⟩ ?_
  simp only [i1, true_and]
  exact t_end hS hI (hv _) (fun r J hJ => ⟨fun _ => go S J k hS hJ (by omega) (by omega), fun ne => absurd rfl ne⟩)
theorem u_L1097 {S : XS} {I : XI} {k : Nat × Nat} {v3 : Int} (hS : xSh S) (hk : k.1 + 43 ≤ 73020 ∧ k.2 + 2860 ≤ 8883190) (hI : Rel S I) (hb : ∀ d : Int, 1 ≤ d → d ≤ 5 → inb (v3 + d) G.2.2.2.2.2.2.1) (hv : ∀ j, InR (G.2.2.2.2.2.2.2 j)) (go : ∀ (S : XS) (J : XI) (k2 : Nat × Nat), xSh S → Rel S J → k2.1 ≤ k.1 + 43 → k2.2 ≤ k.2 + 2860 → L_k1582 G S k2 J v3 QL) : L_k1097 G S k I v3 QL := by
  refine b_L_k1097 hS ⟨by omega, by omega⟩ ?_
  exact t_rules hS hI  (fun r J hJ => ⟨fun _ => go S J k hS hJ (by omega) (by omega), fun ne => absurd rfl ne⟩)
theorem u_L1110 {S : XS} {I : XI} {k : Nat × Nat} {v3 : Int} (hS : xSh S) (hk : k.1 + 43 ≤ 73020 ∧ k.2 + 2860 ≤ 8883190) (hI : Rel S I) (hb : ∀ d : Int, 1 ≤ d → d ≤ 5 → inb (v3 + d) G.2.2.2.2.2.2.1) (hv : ∀ j, InR (G.2.2.2.2.2.2.2 j)) (go : ∀ (S : XS) (J : XI) (k2 : Nat × Nat), xSh S → Rel S J → k2.1 ≤ k.1 + 43 → k2.2 ≤ k.2 + 2860 → L_k1582 G S k2 J v3 QL) : L_k1110 G S k I v3 QL := by
  have i1 : inb (v3 + 1) G.2.2.2.2.2.2.1 = True := eq_true (hb 1 (by decide) (by decide))
  refine b_L_k1110 hS ⟨by omega, by omega⟩ ?_
  simp only [i1, true_and]
  exact t_fault hS hI (hv _) (fun r J hJ => ⟨fun _ => go S J k hS hJ (by omega) (by omega), fun ne => absurd rfl ne⟩)
theorem u_L1133 {S : XS} {I : XI} {k : Nat × Nat} {v3 : Int} (hS : xSh S) (hk : k.1 + 43 ≤ 73020 ∧ k.2 + 2860 ≤ 8883190) (hI : Rel S I) (hb : ∀ d : Int, 1 ≤ d → d ≤ 5 → inb (v3 + d) G.2.2.2.2.2.2.1) (hv : ∀ j, InR (G.2.2.2.2.2.2.2 j)) (go : ∀ (S : XS) (J : XI) (k2 : Nat × Nat), xSh S → Rel S J → k2.1 ≤ k.1 + 43 → k2.2 ≤ k.2 + 2860 → L_k1582 G S k2 J v3 QL) : L_k1133 G S k I v3 QL := by
  have i1 : inb (v3 + 1) G.2.2.2.2.2.2.1 = True := eq_true (hb 1 (by decide) (by decide))
  have i2 : inb (v3 + 2) G.2.2.2.2.2.2.1 = True := eq_true (hb 2 (by decide) (by decide))
  have i3 : inb (v3 + 3) G.2.2.2.2.2.2.1 = True := eq_true (hb 3 (by decide) (by decide))
  have i4 : inb (v3 + 4) G.2.2.2.2.2.2.1 = True := eq_true (hb 4 (by decide) (by decide))
  refine b_L_k1133 hS ⟨by omega, by omega⟩ ?_
  simp only [i1, i2, i3, i4, true_and]
  exact t_rule hS hI (hv _) (hv _) (hv _) (hv _) (fun r J hJ => ⟨fun _ => go S J k hS hJ (by omega) (by omega), fun ne => absurd rfl ne⟩)
theorem u_L1186 {S : XS} {I : XI} {k : Nat × Nat} {v3 : Int} (hS : xSh S) (hk : k.1 + 43 ≤ 73020 ∧ k.2 + 2860 ≤ 8883190) (hI : Rel S I) (hb : ∀ d : Int, 1 ≤ d → d ≤ 5 → inb (v3 + d) G.2.2.2.2.2.2.1) (hv : ∀ j, InR (G.2.2.2.2.2.2.2 j)) (go : ∀ (S : XS) (J : XI) (k2 : Nat × Nat), xSh S → Rel S J → k2.1 ≤ k.1 + 43 → k2.2 ≤ k.2 + 2860 → L_k1582 G S k2 J v3 QL) : L_k1186 G S k I v3 QL := by
  have i1 : inb (v3 + 1) G.2.2.2.2.2.2.1 = True := eq_true (hb 1 (by decide) (by decide))
  have i2 : inb (v3 + 2) G.2.2.2.2.2.2.1 = True := eq_true (hb 2 (by decide) (by decide))
  have i3 : inb (v3 + 3) G.2.2.2.2.2.2.1 = True := eq_true (hb 3 (by decide) (by decide))
  refine b_L_k1186 hS ⟨by omega, by omega⟩ ?_
  simp only [i1, i2, i3, true_and]
  exact t_round hS hI (hv _) (hv _) (hv _) (fun r J hJ => ⟨fun _ => go S J k hS hJ (by omega) (by omega), fun ne => absurd rfl ne⟩)
theorem u_L1229 {S : XS} {I : XI} {k : Nat × Nat} {v3 : Int} (hS : xSh S) (hk : k.1 + 43 ≤ 73020 ∧ k.2 + 2860 ≤ 8883190) (hI : Rel S I) (hb : ∀ d : Int, 1 ≤ d → d ≤ 5 → inb (v3 + d) G.2.2.2.2.2.2.1) (hv : ∀ j, InR (G.2.2.2.2.2.2.2 j)) (go : ∀ (S : XS) (J : XI) (k2 : Nat × Nat), xSh S → Rel S J → k2.1 ≤ k.1 + 43 → k2.2 ≤ k.2 + 2860 → L_k1582 G S k2 J v3 QL) : L_k1229 G S k I v3 QL := by
  have i1 : inb (v3 + 1) G.2.2.2.2.2.2.1 = True := eq_true (hb 1 (by decide) (by decide))
  have i2 : inb (v3 + 2) G.2.2.2.2.2.2.1 = True := eq_true (hb 2 (by decide) (by decide))
  have i3 : inb (v3 + 3) G.2.2.2.2.2.2.1 = True := eq_true (hb 3 (by decide) (by decide))
  refine b_L_k1229 hS ⟨by omega, by omega⟩ ?_
  simp only [i1, i2, i3, true_and]
  exact t_stop hS hI (hv _) (hv _) (hv _) (fun r J hJ => ⟨fun _ => go S J k hS hJ (by omega) (by omega), fun ne => absurd rfl ne⟩)
theorem u_L1272 {S : XS} {I : XI} {k : Nat × Nat} {v3 : Int} (hS : xSh S) (hk : k.1 + 43 ≤ 73020 ∧ k.2 + 2860 ≤ 8883190) (hI : Rel S I) (hb : ∀ d : Int, 1 ≤ d → d ≤ 5 → inb (v3 + d) G.2.2.2.2.2.2.1) (hv : ∀ j, InR (G.2.2.2.2.2.2.2 j)) (go : ∀ (S : XS) (J : XI) (k2 : Nat × Nat), xSh S → Rel S J → k2.1 ≤ k.1 + 43 → k2.2 ≤ k.2 + 2860 → L_k1582 G S k2 J v3 QL) : L_k1272 G S k I v3 QL := by
  have i1 : inb (v3 + 1) G.2.2.2.2.2.2.1 = True := eq_true (hb 1 (by decide) (by decide))
  have i2 : inb (v3 + 2) G.2.2.2.2.2.2.1 = True := eq_true (hb 2 (by decide) (by decide))
  have i3 : inb (v3 + 3) G.2.2.2.2.2.2.1 = True := eq_true (hb 3 (by decide) (by decide))
  refine b_L_k1272 hS ⟨by omega, by omega⟩ ?_
  simp only [i1, i2, i3, true_and]
  exact t_wish hS hI (hv _) (hv _) (hv _) (fun r J hJ => ⟨fun _ => go S J k hS hJ (by omega) (by omega), fun ne => absurd rfl ne⟩)
theorem u_L1315 {S : XS} {I : XI} {k : Nat × Nat} {v3 : Int} (hS : xSh S) (hk : k.1 + 43 ≤ 73020 ∧ k.2 + 2860 ≤ 8883190) (hI : Rel S I) (hb : ∀ d : Int, 1 ≤ d → d ≤ 5 → inb (v3 + d) G.2.2.2.2.2.2.1) (hv : ∀ j, InR (G.2.2.2.2.2.2.2 j)) (go : ∀ (S : XS) (J : XI) (k2 : Nat × Nat), xSh S → Rel S J → k2.1 ≤ k.1 + 43 → k2.2 ≤ k.2 + 2860 → L_k1582 G S k2 J v3 QL) : L_k1315 G S k I v3 QL := by
  have i1 : inb (v3 + 1) G.2.2.2.2.2.2.1 = True := eq_true (hb 1 (by decide) (by decide))
  have i2 : inb (v3 + 2) G.2.2.2.2.2.2.1 = True := eq_true (hb 2 (by decide) (by decide))
  have i3 : inb (v3 + 3) G.2.2.2.2.2.2.1 = True := eq_true (hb 3 (by decide) (by decide))
  refine b_L_k1315 hS ⟨by omega, by omega⟩ ?_
  simp only [i1, i2, i3, true_and]
  exact t_load hS hI (hv _) (hv _) (hv _) (fun r J hJ => ⟨fun _ => go S J k hS hJ (by omega) (by omega), fun ne => absurd rfl ne⟩)
theorem u_L1358 {S : XS} {I : XI} {k : Nat × Nat} {v3 : Int} (hS : xSh S) (hk : k.1 + 43 ≤ 73020 ∧ k.2 + 2860 ≤ 8883190) (hI : Rel S I) (hb : ∀ d : Int, 1 ≤ d → d ≤ 5 → inb (v3 + d) G.2.2.2.2.2.2.1) (hv : ∀ j, InR (G.2.2.2.2.2.2.2 j)) (go : ∀ (S : XS) (J : XI) (k2 : Nat × Nat), xSh S → Rel S J → k2.1 ≤ k.1 + 43 → k2.2 ≤ k.2 + 2860 → L_k1582 G S k2 J v3 QL) : L_k1358 G S k I v3 QL := by
  have i1 : inb (v3 + 1) G.2.2.2.2.2.2.1 = True := eq_true (hb 1 (by decide) (by decide))
  refine b_L_k1358 hS ⟨by omega, by omega⟩ ?_
  simp only [i1, true_and]
  exact t_reader hS hI (hv _) (fun r J hJ => ⟨fun _ => go S J k hS hJ (by omega) (by omega), fun ne => absurd rfl ne⟩)
theorem u_L1381 {S : XS} {I : XI} {k : Nat × Nat} {v3 : Int} (hS : xSh S) (hk : k.1 + 43 ≤ 73020 ∧ k.2 + 2860 ≤ 8883190) (hI : Rel S I) (hb : ∀ d : Int, 1 ≤ d → d ≤ 5 → inb (v3 + d) G.2.2.2.2.2.2.1) (hv : ∀ j, InR (G.2.2.2.2.2.2.2 j)) (go : ∀ (S : XS) (J : XI) (k2 : Nat × Nat), xSh S → Rel S J → k2.1 ≤ k.1 + 43 → k2.2 ≤ k.2 + 2860 → L_k1582 G S k2 J v3 QL) : L_k1381 G S k I v3 QL := by
  have i1 : inb (v3 + 1) G.2.2.2.2.2.2.1 = True := eq_true (hb 1 (by decide) (by decide))
  have i2 : inb (v3 + 2) G.2.2.2.2.2.2.1 = True := eq_true (hb 2 (by decide) (by decide))
  refine b_L_k1381 hS ⟨by omega, by omega⟩ ?_
  simp only [i1, i2, true_and]
  exact t_read hS hI (hv _) (hv _) (fun r J hJ => ⟨fun _ => go S J k hS hJ (by omega) (by omega), fun ne => absurd rfl ne⟩)
theorem u_L1414 {S : XS} {I : XI} {k : Nat × Nat} {v3 : Int} (hS : xSh S) (hk : k.1 + 43 ≤ 73020 ∧ k.2 + 2860 ≤ 8883190) (hI : Rel S I) (hb : ∀ d : Int, 1 ≤ d → d ≤ 5 → inb (v3 + d) G.2.2.2.2.2.2.1) (hv : ∀ j, InR (G.2.2.2.2.2.2.2 j)) (go : ∀ (S : XS) (J : XI) (k2 : Nat × Nat), xSh S → Rel S J → k2.1 ≤ k.1 + 43 → k2.2 ≤ k.2 + 2860 → L_k1582 G S k2 J v3 QL) : L_k1414 G S k I v3 QL := by
  have i1 : inb (v3 + 1) G.2.2.2.2.2.2.1 = True := eq_true (hb 1 (by decide) (by decide))
  have i2 : inb (v3 + 2) G.2.2.2.2.2.2.1 = True := eq_true (hb 2 (by decide) (by decide))
  refine b_L_k1414 hS ⟨by omega, by omega⟩ ?_
  simp only [i1, i2, true_and]
  exact t_learns hS hI (hv _) (hv _) (fun r J hJ => ⟨fun _ => go S J k hS hJ (by omega) (by omega), fun ne => absurd rfl ne⟩)
theorem u_L1447 {S : XS} {I : XI} {k : Nat × Nat} {v3 : Int} (hS : xSh S) (hk : k.1 + 43 ≤ 73020 ∧ k.2 + 2860 ≤ 8883190) (hI : Rel S I) (hb : ∀ d : Int, 1 ≤ d → d ≤ 5 → inb (v3 + d) G.2.2.2.2.2.2.1) (hv : ∀ j, InR (G.2.2.2.2.2.2.2 j)) (go : ∀ (S : XS) (J : XI) (k2 : Nat × Nat), xSh S → Rel S J → k2.1 ≤ k.1 + 43 → k2.2 ≤ k.2 + 2860 → L_k1582 G S k2 J v3 QL) : L_k1447 G S k I v3 QL := by
  have i1 : inb (v3 + 1) G.2.2.2.2.2.2.1 = True := eq_true (hb 1 (by decide) (by decide))
  refine b_L_k1447 hS ⟨by omega, by omega⟩ ?_
  simp only [i1, true_and]
  exact t_giver hS hI (hv _) (fun r J hJ => ⟨fun _ => go S J k hS hJ (by omega) (by omega), fun ne => absurd rfl ne⟩)
theorem u_L1470 {S : XS} {I : XI} {k : Nat × Nat} {v3 : Int} (hS : xSh S) (hk : k.1 + 43 ≤ 73020 ∧ k.2 + 2860 ≤ 8883190) (hI : Rel S I) (hb : ∀ d : Int, 1 ≤ d → d ≤ 5 → inb (v3 + d) G.2.2.2.2.2.2.1) (hv : ∀ j, InR (G.2.2.2.2.2.2.2 j)) (go : ∀ (S : XS) (J : XI) (k2 : Nat × Nat), xSh S → Rel S J → k2.1 ≤ k.1 + 43 → k2.2 ≤ k.2 + 2860 → L_k1582 G S k2 J v3 QL) : L_k1470 G S k I v3 QL := by
  have i1 : inb (v3 + 1) G.2.2.2.2.2.2.1 = True := eq_true (hb 1 (by decide) (by decide))
  have i2 : inb (v3 + 2) G.2.2.2.2.2.2.1 = True := eq_true (hb 2 (by decide) (by decide))
  have i3 : inb (v3 + 3) G.2.2.2.2.2.2.1 = True := eq_true (hb 3 (by decide) (by decide))
  refine b_L_k1470 hS ⟨by omega, by omega⟩ ?_
  simp only [i1, i2, i3, true_and]
  exact t_house hS hI (hv _) (hv _) (hv _) (fun r J hJ => ⟨fun _ => go S J k hS hJ (by omega) (by omega), fun ne => absurd rfl ne⟩)
theorem u_L1513 {S : XS} {I : XI} {k : Nat × Nat} {v3 : Int} (hS : xSh S) (hk : k.1 + 43 ≤ 73020 ∧ k.2 + 2860 ≤ 8883190) (hI : Rel S I) (hb : ∀ d : Int, 1 ≤ d → d ≤ 5 → inb (v3 + d) G.2.2.2.2.2.2.1) (hv : ∀ j, InR (G.2.2.2.2.2.2.2 j)) (go : ∀ (S : XS) (J : XI) (k2 : Nat × Nat), xSh S → Rel S J → k2.1 ≤ k.1 + 43 → k2.2 ≤ k.2 + 2860 → L_k1582 G S k2 J v3 QL) : L_k1513 G S k I v3 QL := by
  have i1 : inb (v3 + 1) G.2.2.2.2.2.2.1 = True := eq_true (hb 1 (by decide) (by decide))
  refine b_L_k1513 hS ⟨by omega, by omega⟩ ?_
  simp only [i1, true_and]
  exact t_count hS hI (hv _) (fun r J hJ => ⟨fun _ => go S J k hS hJ (by omega) (by omega), fun ne => absurd rfl ne⟩)
theorem u_L1536 {S : XS} {I : XI} {k : Nat × Nat} {v3 : Int} (hS : xSh S) (hk : k.1 + 43 ≤ 73020 ∧ k.2 + 2860 ≤ 8883190) (hI : Rel S I) (hb : ∀ d : Int, 1 ≤ d → d ≤ 5 → inb (v3 + d) G.2.2.2.2.2.2.1) (hv : ∀ j, InR (G.2.2.2.2.2.2.2 j)) (go : ∀ (S : XS) (J : XI) (k2 : Nat × Nat), xSh S → Rel S J → k2.1 ≤ k.1 + 43 → k2.2 ≤ k.2 + 2860 → L_k1582 G S k2 J v3 QL) : L_k1536 G S k I v3 QL := by
  have i1 : inb (v3 + 1) G.2.2.2.2.2.2.1 = True := eq_true (hb 1 (by decide) (by decide))
  refine b_L_k1536 hS hk ?_
  simp only [i1, true_and]
  exact t_image hS hI (hv _) (fun r S1 J hS1 hJ => ⟨fun _ => go S1 J _ hS1 hJ (Nat.le_refl _) (Nat.le_refl _), fun ne => absurd rfl ne⟩)
theorem u_L1559 {S : XS} {I : XI} {k : Nat × Nat} {v3 : Int} (hS : xSh S) (hk : k.1 + 43 ≤ 73020 ∧ k.2 + 2860 ≤ 8883190) (hI : Rel S I) (hb : ∀ d : Int, 1 ≤ d → d ≤ 5 → inb (v3 + d) G.2.2.2.2.2.2.1) (hv : ∀ j, InR (G.2.2.2.2.2.2.2 j)) (go : ∀ (S : XS) (J : XI) (k2 : Nat × Nat), xSh S → Rel S J → k2.1 ≤ k.1 + 43 → k2.2 ≤ k.2 + 2860 → L_k1582 G S k2 J v3 QL) : L_k1559 G S k I v3 QL := by
  have i1 : inb (v3 + 1) G.2.2.2.2.2.2.1 = True := eq_true (hb 1 (by decide) (by decide))
  refine b_L_k1559 hS ⟨by omega, by omega⟩ ?_
  simp only [i1, true_and]
  exact t_again hS hI (hv _) (fun r J hJ => ⟨fun _ => go S J k hS hJ (by omega) (by omega), fun ne => absurd rfl ne⟩)
set_option maxRecDepth 100000 in
theorem law_loop (hL : G.2.2.2.2.2.2.1 ≤ 3072) (hv : ∀ j, InR (G.2.2.2.2.2.2.2 j)) : ∀ (m n : Nat) (S : XS) (I : XI) (k : Nat × Nat), G.2.2.2.2.2.2.1 < 6 * (n + m) + 6 → xSh S → Rel S I → k.1 ≤ 147 + 43 * n → k.2 ≤ 38740 + 2860 * n → n ≤ 513 → L_k18 G S k I ((6 * n : Nat) : Int) QL := by
  intro m
  induction m with
  | zero =>
    intro n S I k hm hS hI k1 k2 hn
    refine b_L_k18 hS ⟨by omega, by omega⟩ ?_
    rw [w32_id (z := ((G.2.2.2.2.2.2.1 : Nat) : Int) - 6) (by omega) (by omega), w32_nat (k := 6 * n) (by omega)]
    exact ⟨fun _ => rfl, fun x => absurd x (by omega)⟩
  | succ m ih =>
    intro n S I k hm hS hI k1 k2 hn
    refine b_L_k18 hS ⟨by omega, by omega⟩ ?_
    rw [w32_id (z := ((G.2.2.2.2.2.2.1 : Nat) : Int) - 6) (by omega) (by omega), w32_nat (k := 6 * n) (by omega)]
    refine ⟨fun _ => rfl, fun x => ?_⟩
    have hb : ∀ d : Int, 1 ≤ d → d ≤ 5 → inb (((6 * n : Nat) : Int) + d) G.2.2.2.2.2.2.1 := fun d h1 h2 => inb_b (by omega) (by omega) (by omega)
    have go : ∀ (S : XS) (J : XI) (k2 : Nat × Nat), xSh S → Rel S J → k2.1 ≤ k.1 + 43 → k2.2 ≤ k.2 + 2860 → L_k1582 G S k2 J ((6 * n : Nat) : Int) QL := fun S J k2 hS hJ h1 h2 => by
      refine b_L_k1582 hS ⟨by omega, by omega⟩ ?_
      rw [show ((6 * n : Nat) : Int) + 6 = ((6 * (n + 1) : Nat) : Int) by omega]
      exact ih (n + 1) S J k2 (by omega) hS hJ (by omega) (by omega) (by omega)
    have hk : k.1 + 43 ≤ 73020 ∧ k.2 + 2860 ≤ 8883190 := ⟨by omega, by omega⟩
    refine ⟨inb_b (by omega) (by omega) (by omega), fun _ => u_L200 hS hk hI hb hv go, fun _ => u_L239 hS hk hI hb hv go, fun _ => u_L282 hS hk hI hb hv go, fun _ => u_L315 hS hk hI hb hv go, fun _ => u_L358 hS hk hI hb hv go, fun _ => u_L407 hS hk hI hb hv go, fun _ => u_L430 hS hk hI hb hv go, fun _ => u_L453 hS hk hI hb hv go, fun _ => u_L522 hS hk hI hb hv go, fun _ => u_L565 hS hk hI hb hv go, fun _ => u_L598 hS hk hI hb hv go, fun _ => u_L631 hS hk hI hb hv go, fun _ => u_L694 hS hk hI hb hv go, fun _ => u_L727 hS hk hI hb hv go, fun _ => u_L770 hS hk hI hb hv go, fun _ => u_L793 hS hk hI hb hv go, fun _ => u_L836 hS hk hI hb hv go, fun _ => u_L869 hS hk hI hb hv go, fun _ => u_L902 hS hk hI hb hv go, fun _ => u_L935 hS hk hI hb hv go, fun _ => u_L968 hS hk hI hb hv go, fun _ => u_L1011 hS hk hI hb hv go, fun _ => u_L1074 hS hk hI hb hv go, fun _ => u_L1097 hS hk hI hb hv go, fun _ => u_L1110 hS hk hI hb hv go, fun _ => u_L1133 hS hk hI hb hv go, fun _ => u_L1186 hS hk hI hb hv go, fun _ => u_L1229 hS hk hI hb hv go, fun _ => u_L1272 hS hk hI hb hv go, fun _ => u_L1315 hS hk hI hb hv go, fun _ => u_L1358 hS hk hI hb hv go, fun _ => u_L1381 hS hk hI hb hv go, fun _ => u_L1414 hS hk hI hb hv go, fun _ => u_L1447 hS hk hI hb hv go, fun _ => u_L1470 hS hk hI hb hv go, fun _ => u_L1513 hS hk hI hb hv go, fun _ => u_L1536 hS hk hI hb hv go, fun _ => u_L1559 hS hk hI hb hv go, fun _ => go S I k hS hI (by omega) (by omega)⟩
end LL
