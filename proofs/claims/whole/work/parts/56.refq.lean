/-! ===== the reference: NEWS, PARTS found ===== -/
def fmP (I I' : XI) : Prop := ∀ a, a ≠ 77 → (a < 129 ∨ 133 < a) → I' a = I a
theorem fmP.refl (I : XI) : fmP I I := fun _ _ _ => rfl
theorem fmP.trans {I J K : XI} (h1 : fmP I J) (h2 : fmP J K) : fmP I K := fun a ha hb => (h2 a ha hb).trans (h1 a ha hb)
theorem fmP.up {I J : XI} {i j : Nat} {z : Int} (h : fmP I J) (hi : i = 77 ∨ (129 ≤ i ∧ i ≤ 133)) : fmP I (up J i j z) := fun a a1 a2 => (up_row (by omega)).trans (h a a1 a2)
theorem XR.fm {I I' : XI} {X : Nat → Nat → Int} {ng nn : Nat} (hR : XR I X ng nn) (h : fmP I I') : XR I' X ng nn := by
  obtain ⟨h1, h2, h3, h4⟩ := hR
  refine ⟨?_, ?_, ?_, h4⟩
  · rw [h r_ways (by decide) (by decide)]; exact h1
  · rw [h r_grassCell (by decide) (by decide), h r_grassWeek (by decide) (by decide), h r_grassIs (by decide) (by decide), h r_grassTold (by decide) (by decide)]; exact h2
  · rw [h r_newsCamp (by decide) (by decide), h r_newsCell (by decide) (by decide), h r_newsWeek (by decide) (by decide), h r_newsSeen (by decide) (by decide), h r_newsTold (by decide) (by decide)]; exact h3
/-- NEWS i is a QUARREL in WEEK w -/
abbrev qP (X : Nat → Nat → Int) (nc ng nn : Nat) (cp lm : Int) (fc f : Nat) (w i : Nat) : Prop := X 5 i = cp ∧ X 7 i = (w : Int) ∧ X 9 i ≤ lm ∧ quA X nc ng nn cp lm fc f (w - f) i = 1
/-- the QUARRELS found so far, and what is asked of them at the end -/
def qSt (I : XI) (nn : Nat) (A : Int → Int) (C : Int → Int → Int) (B : Nat → Prop) : Prop := ∃ (N : Nat) (d : Nat → Int), I r_obj 56 = (N : Int) ∧ (∀ i, 0 ≤ d i ∧ d i ≤ 1) ∧ (N : Int) = sumA d nn ∧ (∀ i, i < nn → B i → d i = 0) ∧ ∀ κ : Int, (if 0 ≤ κ ∧ κ < (N : Int) then I r_quarrel κ.toNat else C κ (N : Int)) = A κ
theorem sumA_le1 {f : Nat → Int} : ∀ {n : Nat}, (∀ j, j < n → f j ≤ 1) → sumA f n ≤ n
  | 0, _ => by simp [sumA]
  | n + 1, h => by
    simp only [sumA]
    have := sumA_le1 (n := n) (fun j hj => h j (by omega))
    have := h n (by omega)
    omega
theorem qSt_cap {I : XI} {nn : Nat} {A : Int → Int} {C : Int → Int → Int} {B : Nat → Prop} (h : qSt I nn A C B) : ∃ N : Nat, I r_obj 56 = (N : Int) ∧ N ≤ nn ∧ ∀ k, k < nn → B k → N < nn := by
  obtain ⟨N, d, h1, h2, h3, h4, -⟩ := h
  have h5 := sumA_le1 (f := d) (n := nn) (fun j _ => (h2 j).2)
  refine ⟨N, h1, by omega, fun k hk hb => ?_⟩
  have h6 := sumA_le1 (f := ud d k 1) (n := nn) (fun j _ => by unfold ud; split; exact Int.le_refl _; exact (h2 j).2)
  rw [sumA_ud, if_pos hk, h4 k hk hb] at h6
  omega
theorem qSt_same {I I' : XI} {nn : Nat} {A : Int → Int} {C C' : Int → Int → Int} {B B' : Nat → Prop} (h : qSt I nn A C B) (e1 : I' r_obj 56 = I r_obj 56) (e2 : I' r_quarrel = I r_quarrel) (hC : ∀ κ N, C κ N = C' κ N) (hB : ∀ i, i < nn → B' i → B i) : qSt I' nn A C' B' := by
  obtain ⟨N, d, h1, h2, h3, h4, h5⟩ := h
  refine ⟨N, d, by rw [e1]; exact h1, h2, h3, fun i hi hb => h4 i hi (hB i hi hb), fun κ => ?_⟩
  rw [e2, ← hC]; exact h5 κ
theorem qSt_add {I I' : XI} {nn k N : Nat} {A : Int → Int} {C C' : Int → Int → Int} {B B' : Nat → Prop} (h : qSt I nn A C B) (hk : k < nn) (hbk : B k) (hN : I r_obj 56 = (N : Int)) (e1 : I' r_obj 56 = (N : Int) + 1) (e2 : I' r_quarrel N = (k : Int)) (e3 : ∀ j, j ≠ N → I' r_quarrel j = I r_quarrel j) (hC : ∀ κ M : Int, C κ M = if M = κ then (k : Int) else C' κ (M + 1)) (hB : ∀ i, i < nn → B' i → B i ∧ i ≠ k) : qSt I' nn A C' B' := by
  obtain ⟨N', d, h1, h2, h3, h4, h5⟩ := h
  have hNN : N' = N := by omega
  subst hNN
  refine ⟨N' + 1, ud d k 1, by rw [e1]; rfl, fun i => ?_, ?_, fun i hi hb => ?_, fun κ => ?_⟩
  · have := h2 i
    unfold ud; split <;> omega
  · rw [sumA_ud, if_pos hk, h4 k hk hbk]; omega
  · obtain ⟨b1, b2⟩ := hB i hi hb
    unfold ud; rw [if_neg b2]; exact h4 i hi b1
  · have h6 := h5 κ
    rw [hC] at h6
    by_cases c1 : 0 ≤ κ ∧ κ < (N' : Int)
    · rw [if_pos c1] at h6
      rw [if_pos (by omega), e3 _ (by omega)]; exact h6
    · rw [if_neg c1] at h6
      by_cases c2 : (N' : Int) = κ
      · rw [if_pos c2] at h6
        rw [if_pos (by omega), ← h6, ← c2, Int.toNat_natCast]; exact e2
      · rw [if_neg c2] at h6
        rw [if_neg (by omega)]; exact h6
section PR2
variable {G : XG} {S : XS}
theorem s_R_hear {I : XI} {nc ng nn k N : Nat} {X : Nat → Nat → Int} {p : Nat → Int} {kv : Int} {R : XI → Prop} (hS : xSh S) (hkv : kv = (k : Int)) (hk : k < nn) (hcell : I r_cells 0 = (nc : Int)) (hX : PtOk X nc ng nn) (hR : XR I X ng nn) (hp : ∀ j, j < 10 → I r_parts j = p j) (hok : rowOk p) (hz : rowZ nc p) (hN : I r_obj 56 = (N : Int)) (hN2 : N < 60)
    (h : ∀ I', (∀ j, j < 10 → I' r_parts j = (heS p (X 6 k).toNat (X 8 k)).1 j) → fmP I I' → (((heS p (X 6 k).toNat (X 8 k)).2 = 1 ∧ I' r_obj 56 = (N : Int) + 1 ∧ I' r_quarrel N = (k : Int) ∧ ∀ j, j ≠ N → I' r_quarrel j = I r_quarrel j) ∨ ((heS p (X 6 k).toNat (X 8 k)).2 ≠ 1 ∧ I' r_obj 56 = (N : Int) ∧ I' r_quarrel = I r_quarrel)) → R I') : R_hear G S I kv R := by
  subst hkv
  obtain ⟨x1, x2, x3, x4, x5, x6, x7, x8, x9, x10, x11⟩ := hX
  obtain ⟨c5, c6, c7, c8, c9⟩ := hR.2.2.1 k hk
  have s8 := hR.2.2.2 k hk
  have hc := x11 k hk
  obtain ⟨cl, hcl⟩ : ∃ cl : Nat, X 6 k = (cl : Int) := ⟨(X 6 k).toNat, by omega⟩
  rw [hcl, Int.toNat_natCast] at h
  rw [hcl] at c6
  have hcl2 : cl < nc := by omega
  have hpc := hp cl (by omega)
  have hle := hok.le (j := cl) (by omega)
  have h0 := hok.1 cl (by omega)
  have kq : heS p cl (X 8 k) = (p, 1) → R_hear_k40 G S I (k : Int) R := fun e => by
    rw [e] at h
    refine b_R_hear_k40 hS ?_
    rw [hN, ix_nat (k := N) (by omega)]
    refine ⟨inb_b (by omega) (by omega) (by decide), fun I1 e1 I2 e2 => ?_⟩
    have e3 : I1 r_obj 56 = (N : Int) := by rw [e1, up_1 _ (by decide)]; exact hN
    rw [e3] at e2
    subst e2; subst e1
    refine h _ (fun j hj => ?_) (((fmP.refl I).up (by decide)).up (by decide)) (Or.inl ⟨rfl, up_s _ _ _ _, ?_, fun j hj => ?_⟩)
    · rw [up_1 _ (by decide), up_1 _ (by decide)]; exact hp j hj
    · rw [up_1 _ (by decide), up_s]
    · rw [up_1 _ (by decide), up_2 _ hj]
  have fin : ∀ I1 : XI, (∀ j, j < 10 → I1 r_next j = (heS p cl (X 8 k)).1 j) → fmP I I1 → I1 r_obj = I r_obj → I1 r_quarrel = I r_quarrel → (heS p cl (X 8 k)).2 ≠ 1 → R_hear_k221 G S I1 0 R := by
    intro I1 n1 f1 g1 g2 hne
    refine down (n := 10) (P := fun i => ∀ I2 : XI, (∀ j, j < i → I2 r_parts j = (heS p cl (X 8 k)).1 j) → (∀ a, a ≠ r_parts → I2 a = I1 a) → R_hear_k221 G S I2 (i : Int) R) ?_ ?_ 0 (Nat.zero_le _) I1 (fun j hj => absurd hj (by omega)) (fun _ _ => rfl)
    · intro I2 q1 q2
      refine b_R_hear_k221 hS ⟨fun _ => h I2 q1 (fun a a1 a2 => (q2 a (show a ≠ 129 by omega)).trans (f1 a a1 a2)) (Or.inr ⟨hne, ?_, ?_⟩), fun e => absurd (by decide) e⟩
      · rw [q2 _ (by decide), g1]; exact hN
      · rw [q2 _ (by decide), g2]
    · intro i hi ih I2 q1 q2
      refine b_R_hear_k221 hS ?_
      rw [show w32 10 = 10 from rfl, w32_nat (k := i) (by omega), ix_nat (k := i) (by omega)]
      refine ⟨fun e => absurd e (by omega), fun _ => ⟨inb_b (by omega) (by omega) (by decide), inb_b (by omega) (by omega) (by decide), fun I3 e3 => ?_⟩⟩
      rw [q2 r_next (by decide), n1 i hi] at e3
      subst e3
      refine ih _ (fun j hj => ?_) (fun a a1 => (up_row a1).trans (q2 a a1))
      by_cases ej : j = i
      · rw [ej, up_s]
      · rw [up_2 _ ej]; exact q1 j (by omega)
  have k61s : X 8 k = 1 → p cl ≠ 0 → R_hear_k61 G S I (k : Int) (cl : Int) R := fun e8 hp0 => by
    have eh : heS p cl (X 8 k) = (ud (fun _ => 0) cl 1000000, 0) := by unfold heS; rw [if_pos e8, if_neg hp0]
    rw [eh] at fin
    refine b_R_hear_k61 hS ⟨inb_b (by omega) (by omega) (by decide), ?_⟩
    refine down (n := 10) (P := fun d => ∀ (I1 : XI) (v4 : Int), (∀ j, j < d → I1 r_next j = ud (fun _ => 0) cl 1000000 j) → (∀ a, a ≠ r_next → I1 a = I a) → (d = 0 ∨ v4 = 0) → R_hear_k80 G S I1 (k : Int) (cl : Int) (1000000 - I r_parts (ix (cl : Int))) v4 (d : Int) R) ?_ ?_ 0 (Nat.zero_le _) I _ (fun j hj => absurd hj (by omega)) (fun _ _ => rfl) (Or.inl rfl)
    · intro I1 v4 q1 q2 hv
      have hv : v4 = 0 := by omega
      subst hv
      refine b_R_hear_k80 hS ⟨fun _ => b_R_share hS (b_R_share_k2 hS ⟨fun _ => fin I1 q1 (fun a _ a2 => q2 a (show a ≠ 130 by omega)) (q2 _ (by decide)) (q2 _ (by decide)) (show (0 : Int) ≠ 1 by decide), fun e => absurd (Int.le_refl _) e⟩), fun e => absurd (by decide) e⟩
    · intro d hd ih I1 v4 q1 q2 hv
      have e9 : I1 r_newsSeen k = 1 := by rw [q2 _ (by decide), c8, e8]
      refine b_R_hear_k80 hS ?_
      rw [show w32 10 = 10 from rfl, w32_nat (k := d) (by omega), w32_nat (k := cl) (by omega), ix_nat (k := d) (by omega), ix_nat (k := k) (by omega), e9]
      refine ⟨fun e => absurd e (by omega), fun _ => ⟨inb_b (by omega) (by omega) (by decide), br1 ⟨fun e => ⟨inb_b (by omega) (by omega) (by decide), fun I3 e3 => ?_⟩, fun e => ⟨inb_b (by omega) (by omega) (by decide), fun I3 e3 => ?_⟩⟩⟩⟩
      · subst e3
        refine ih _ _ (fun j hj => ?_) (fun a a1 => (up_row a1).trans (q2 a a1)) (Or.inr rfl)
        by_cases ej : j = d
        · rw [ej, up_s]; exact (if_pos (by omega) : (if d = cl then (1000000 : Int) else 0) = 1000000).symm
        · rw [up_2 _ ej]; exact q1 j (by omega)
      · subst e3
        refine ih _ _ (fun j hj => ?_) (fun a a1 => (up_row a1).trans (q2 a a1)) (Or.inr rfl)
        by_cases ej : j = d
        · rw [ej, up_s]; exact (if_neg (by omega) : (if d = cl then (1000000 : Int) else 0) = 0).symm
        · rw [up_2 _ ej]; exact q1 j (by omega)
  have k61n : X 8 k = 0 → p cl ≠ 1000000 → R_hear_k61 G S I (k : Int) (cl : Int) R := fun e8 hp0 => by
    have eh : heS p cl (X 8 k) = (shareRow (fun _ => 0) 1000000 (ud p cl 0) (1000000 - p cl), 0) := by unfold heS; rw [if_neg (by omega), if_neg hp0]
    rw [eh] at fin
    have hw0 : ∀ j, j < 10 → 0 ≤ ud p cl 0 j ∧ ud p cl 0 j ≤ 1000000 := fun j hj => by
      have := hok.1 j hj
      have := hok.le hj
      unfold ud; split <;> omega
    have hall : 1000000 - p cl = sumA (ud p cl 0) 10 := by rw [sumA_ud, if_pos (by omega), hok.2]; omega
    have hwz : ∀ j, nc ≤ j → j < 10 → ud p cl 0 j = 0 := fun j h1 h2 => by
      unfold ud; split
      · rfl
      · exact hz j h1 h2
    have hwc : ud p cl 0 cl = 0 := if_pos rfl
    have hwd : ∀ j, j ≠ cl → ud p cl 0 j = p j := fun j hj => if_neg hj
    obtain ⟨l0, l1, -⟩ := sh_left (p := 1000000) (w := ud p cl 0) (all := 1000000 - p cl) (by decide) (fun j hj => (hw0 j hj).1) hall (by omega)
    have hpk := sh_pik (p := 1000000) (w := ud p cl 0) (all := 1000000 - p cl) (by decide) (fun j hj => (hw0 j hj).1) hall (by omega) (fun j => (fun _ => 0) j + 1000000 * ud p cl 0 j / (1000000 - p cl))
    refine b_R_hear_k61 hS ⟨inb_b (by omega) (by omega) (by decide), ?_⟩
    rw [ix_nat (k := cl) (by omega), hpc]
    unfold shareRow at fin
    generalize hA : 1000000 - p cl = all at hall l0 l1 hpk fin ⊢
    have ha0 : 0 < all := by omega
    have ha1 : all ≤ 1000000 := by omega
    generalize ud p cl 0 = w at hw0 hwz hwc hwd hall l0 l1 hpk fin
    have hd : ∀ j, j < 10 → 0 ≤ 1000000 * w j ∧ 1000000 * w j ≤ 1000000 * 1000000 := fun j hj => by have := hw0 j hj; omega
    have key := down (n := 10) (P := fun d => ∀ I1 : XI, (∀ j, j < d → I1 r_next j = 1000000 * w j / all) → (∀ j, j < d → j < nc → InR (I1 r_rest j) ∧ (I1 r_rest j = 1000000 * w j % all ∨ (I1 r_rest j ≤ 0 ∧ 1000000 * w j % all ≤ 0))) → (∀ a, a ≠ r_next → a ≠ r_rest → I1 a = I a) → R_hear_k80 G S I1 (k : Int) (cl : Int) all (1000000 - sumA (fun j => 1000000 * w j / all) d) (d : Int) R) ?_ ?_ 0 (Nat.zero_le _) I (fun j hj => absurd hj (by omega)) (fun j hj => absurd hj (by omega)) (fun _ _ _ => rfl)
    · have e0 : 1000000 - sumA (fun j => 1000000 * w j / all) 0 = 1000000 := by simp [sumA]
      rw [e0] at key; exact key
    · intro I1 q1 q2 q3
      refine b_R_hear_k80 hS ⟨fun _ => ?_, fun e => absurd (by decide) e⟩
      refine s_R_share (m := (1000000 - sumA (fun j => 1000000 * w j / all) 10).toNat) (e := fun j => (fun _ => 0) j + 1000000 * w j / all) (r := fun j => 1000000 * w j % all) hS (by omega) x1 (by omega) (by omega) (by rw [q3 _ (by decide) (by decide)]; exact hcell) (fun j hj => ?_) (fun j hj => q2 j (by omega) hj) (fun j h1 h2 => ?_) hpk (fun I' g1 g2 => fin I' g1 (fun a _ a2 => (g2 a (show a ≠ 130 by omega) (show a ≠ 132 by omega)).trans (q3 a (show a ≠ 130 by omega) (show a ≠ 132 by omega))) ((g2 _ (by decide) (by decide)).trans (q3 _ (by decide) (by decide))) ((g2 _ (by decide) (by decide)).trans (q3 _ (by decide) (by decide))) (show (0 : Int) ≠ 1 by decide))
      · rw [q1 j hj]; show _ = 0 + 1000000 * w j / all; omega
      · show 1000000 * w j % all ≤ 0
        rw [hwz j h1 h2]; simp
    · intro d hdn ih I1 q1 q2 q3
      have hdd := hd d hdn
      have hmod : InR (1000000 * w d % all) := by
        have a1 := Int.emod_nonneg (1000000 * w d) (show all ≠ 0 by omega)
        have a2 := Int.emod_lt_of_pos (1000000 * w d) ha0
        exact ⟨by omega, by omega⟩
      have esum : 1000000 - sumA (fun j => 1000000 * w j / all) (d + 1) = 1000000 - sumA (fun j => 1000000 * w j / all) d - 1000000 * w d / all := by simp only [sumA]; omega
      have e9 : I1 r_newsSeen k = 0 := by rw [q3 _ (by decide) (by decide), c8, e8]
      have hnx : ∀ v : Int, ∀ j, j < d + 1 → up (up I1 r_next d (1000000 * w d / all)) r_rest d v r_next j = 1000000 * w j / all := fun v j hj => by
        rw [up_1 _ (by decide)]
        by_cases ej : j = d
        · rw [ej, up_s]
        · rw [up_2 _ ej]; exact q1 j (by omega)
      have hfr : ∀ v : Int, ∀ a, a ≠ r_next → a ≠ r_rest → up (up I1 r_next d (1000000 * w d / all)) r_rest d v a = I a := fun v a a1 a2 => by rw [up_row a2, up_row a1]; exact q3 a a1 a2
      have k144 : ∀ s0 : Int, s0 = 1000000 * w d → R_hear_k144 G S I1 (k : Int) (cl : Int) all (1000000 - sumA (fun j => 1000000 * w j / all) d) (d : Int) s0 R := by
        intro s0 hs0
        subst hs0
        refine b_R_hear_k144 hS ?_
        rw [w32_b (z := all) (by omega) (by omega), w64_id (z := all) (by omega) (by omega), ix_nat (k := d) (by omega), ldiv_pos hdd.1 hdd.2 ha0 (by omega), lrem_pos hdd.1 hdd.2 ha0 (by omega), w32_nat (k := d) (by omega), w32_nat (k := cl) (by omega)]
        refine ⟨by omega, inb_b (by omega) (by omega) (by decide), fun I7 e7 => ?_⟩
        have e71 : I7 r_next d = 1000000 * w d / all := by rw [e7, up_s]
        have e72 : I7 r_cells 0 = (nc : Int) := by rw [e7, up_1 _ (by decide), q3 _ (by decide) (by decide)]; exact hcell
        rw [e71, e72, ← esum, w32_nat (k := nc) (by omega)]
        subst e7
        refine ⟨inb_b (by omega) (by omega) (by decide), fun e => ⟨inb_b (by omega) (by omega) (by decide), fun I8 e8' => ?_⟩, fun e => ⟨fun e2 => ⟨by omega, inb_b (by omega) (by omega) (by decide), fun I8 e8' => ?_⟩, fun e2 => ⟨inb_b (by omega) (by omega) (by decide), fun I8 e8' => ?_⟩⟩⟩
        · subst e8'
          refine ih _ (hnx _) (fun j hj hj2 => ?_) (hfr _)
          by_cases ej : j = d
          · rw [ej, up_s, show d = cl by omega, hwc]; exact ⟨⟨by decide, by decide⟩, Or.inr ⟨by decide, by simp⟩⟩
          · rw [up_2 _ ej, up_1 _ (by decide)]; exact q2 j (by omega) hj2
        · subst e8'
          refine ih _ (hnx _) (fun j hj hj2 => ?_) (hfr _)
          by_cases ej : j = d
          · rw [ej, up_s]; exact ⟨hmod, Or.inl rfl⟩
          · rw [up_2 _ ej, up_1 _ (by decide)]; exact q2 j (by omega) hj2
        · subst e8'
          refine ih _ (hnx _) (fun j hj hj2 => ?_) (hfr _)
          rw [up_2 _ (by omega), up_1 _ (by decide)]; exact q2 j (by omega) hj2
      refine b_R_hear_k80 hS ?_
      have hpd : I1 r_parts d = p d := by rw [q3 _ (by decide) (by decide)]; exact hp d hdn
      have hpd2 := hok.le hdn
      have hpd3 := hok.1 d hdn
      rw [show w32 10 = 10 from rfl, w32_nat (k := d) (by omega), w32_nat (k := cl) (by omega), ix_nat (k := d) (by omega), ix_nat (k := k) (by omega), e9, hpd, w32_b (z := p d) (by omega) (by omega)]
      refine ⟨fun e => absurd e (by omega), fun _ => ⟨inb_b (by omega) (by omega) (by decide), br0 ⟨fun e => k144 _ ?_, fun e => ⟨inb_b (by omega) (by omega) (by decide), k144 _ ?_⟩⟩⟩⟩
      · rw [show d = cl by omega, hwc]; rfl
      · rw [hwd d (by omega)]
  refine b_R_hear hS ?_
  rw [ix_nat (k := k) (by omega), c6, c8, ix_nat (k := cl) (by omega), hpc, w32_b (z := p cl) (by omega) (by omega), show w32 1000000 = 1000000 from rfl, w32_b (z := X 8 k) (by omega) (by omega)]
  refine ⟨inb_b (by omega) (by omega) (by decide), inb_b (by omega) (by omega) (by decide), fun e8 => ⟨inb_b (by omega) (by omega) (by decide), fun e => kq ?_, fun e => k61n e8 e⟩, fun e8 => ⟨inb_b (by omega) (by omega) (by decide), fun e => kq ?_, fun e => k61s (by omega) e⟩⟩
  · unfold heS; rw [if_neg (by omega), if_pos e]
  · unfold heS; rw [if_pos (by omega), if_pos e]
theorem s_R_hearAll {I : XI} {c nc ng nn fc f w : Nat} {X : Nat → Nat → Int} {cp wp lm : Int} {A : Int → Int} {R : XI → Prop} (hS : xSh S) (hcp : cp = (c : Int)) (hc : c < 24) (hwp : wp = (w : Int)) (hw : w ≤ 99) (hfw : f ≤ w) (hlm : InR lm) (hcell : I r_cells 0 = (nc : Int)) (hnn : I r_newsMany 0 = (nn : Int)) (hX : PtOk X nc ng nn) (hR : XR I X ng nn) (hfc : fc < nc) (hp : ∀ j, j < 10 → I r_parts j = pt0 X nc ng nn c lm fc f (w - f) j) (hq : qSt I nn A (fun κ N => qW (fun w i => qP X nc ng nn c lm fc f w i) κ nn 100 (100 - w) N) (fun i => ¬ X 7 i < (w : Int)))
    (h : ∀ I', (∀ j, j < 10 → I' r_parts j = ptA X nc ng nn c lm fc f (w - f) j) → fmP I I' → qSt I' nn A (fun κ N => qW (fun w i => qP X nc ng nn c lm fc f w i) κ nn 100 (99 - w) N) (fun i => ¬ X 7 i < (w : Int) + 1) → R I') : R_hearAll G S I cp wp lm R := by
  subst hcp; subst hwp
  have hX' := hX
  obtain ⟨x1, x2, x3, x4, x5, x6, x7, x8, x9, x10, x11⟩ := hX
  have hpt := (pt_ok (cp := c) (lm := lm) (f := f) hX' hfc (w - f)).1
  have ew : ((f + (w - f) : Nat) : Int) = (w : Int) := by omega
  have e100 : 100 - w = (99 - w) + 1 := by omega
  have e100w : 100 - ((99 - w) + 1) = w := by omega
  refine b_R_hearAll hS ?_
  refine down (n := nn) (P := fun k => ∀ I1 : XI, (∀ j, j < 10 → I1 r_parts j = nwS (X 5) (X 6) (X 7) (X 8) (X 9) c w lm (pt0 X nc ng nn c lm fc f (w - f)) k j) → fmP I I1 → qSt I1 nn A (fun κ N => qI (fun i => qP X nc ng nn c lm fc f w i) κ nn (qW (fun w i => qP X nc ng nn c lm fc f w i) κ nn 100 (99 - w)) (nn - k) N) (fun i => ¬ (X 7 i < (w : Int) ∨ (X 7 i = (w : Int) ∧ i < k))) → R_hearAll_k3 G S I1 (c : Int) (w : Int) lm (k : Int) R) ?_ ?_ 0 (Nat.zero_le _) I hp (fmP.refl I) (qSt_same hq rfl rfl (fun κ N => ?_) (fun i _ hb => by omega))
  · intro I1 q1 q2 q3
    refine b_R_hearAll_k3 hS ⟨fun _ => h I1 (fun j hj => ?_) q2 (qSt_same q3 rfl rfl (fun κ N => ?_) (fun i hi hb => by omega)), fun e => absurd ?_ e⟩
    · rw [q1 j hj]; unfold ptA; rw [ew]
    · show qI _ _ _ _ (nn - nn) N = _
      rw [Nat.sub_self]; rfl
    · rw [q2 _ (by decide) (by decide), hnn]; exact Int.le_refl _
  · intro k hk ih I1 q1 q2 q3
    have hR1 := hR.fm q2
    obtain ⟨c5, c6, c7, c8, c9⟩ := hR1.2.2.1 k hk
    have hx := x10 k hk
    have io := nwS_ok (NC := X 5) (NL := X 6) (NW := X 7) (NS := X 8) (NT := X 9) (cp := c) (wk := w) (lm := lm) hpt.1 k (fun j hj => by have := x11 j (by omega); omega)
    have iz := nwS_z (NC := X 5) (NL := X 6) (NW := X 7) (NS := X 8) (NT := X 9) (cp := c) (wk := w) (lm := lm) x1 hpt.1 hpt.2 k (fun j hj => x11 j (by omega))
    have enk : nn - k = (nn - (k + 1)) + 1 := by omega
    have enk2 : nn - ((nn - (k + 1)) + 1) = k := by omega
    have skip : ¬ (X 5 k = (c : Int) ∧ X 7 k = (w : Int) ∧ X 9 k ≤ lm) → R_hearAll_k3 G S I1 (c : Int) (w : Int) lm ((k : Int) + 1) R := fun hno => by
      refine ih I1 (fun j hj => ?_) q2 (qSt_same q3 rfl rfl (fun κ N => ?_) (fun i hi hb => by omega))
      · rw [q1 j hj, nwS, if_neg hno]
      · show qI _ _ _ _ (nn - k) N = qI _ _ _ _ (nn - (k + 1)) N
        rw [enk, qI, enk2, if_neg (fun q => hno ⟨q.1, q.2.1, q.2.2.1⟩)]
    refine b_R_hearAll_k3 hS ?_
    rw [q2 r_newsMany (by decide) (by decide), hnn, w32_nat (k := nn) (by omega), w32_nat (k := k) (by omega), ix_nat (k := k) (by omega), c5, c7, c9, w32_r hx.1, w32_r hx.2.1, w32_r hx.2.2.2, w32_r hlm, w32_nat (k := c) (by omega), w32_nat (k := w) (by omega)]
    refine ⟨fun e => absurd e (by omega), fun _ => ⟨inb_b (by omega) (by omega) (by decide), fun f1 => ⟨inb_b (by omega) (by omega) (by decide), fun f2 => ⟨inb_b (by omega) (by omega) (by decide), fun f3 => skip (fun q => by omega), fun f3 => ?_⟩, fun f2 => skip (fun q => f2 q.2.1)⟩, fun f1 => skip (fun q => f1 q.1)⟩⟩
    obtain ⟨N, hN, hN1, hN2⟩ := qSt_cap q3
    have hNlt := hN2 k hk (by omega)
    refine s_R_hear (N := N) hS rfl hk (by rw [q2 _ (by decide) (by decide)]; exact hcell) hX' hR1 q1 io iz hN (by omega) (fun I' g1 g2 g3 => ?_)
    have hqu : quA X nc ng nn c lm fc f (w - f) k = (heS (nwS (X 5) (X 6) (X 7) (X 8) (X 9) c w lm (pt0 X nc ng nn c lm fc f (w - f)) k) (X 6 k).toNat (X 8 k)).2 := by unfold quA; rw [ew]
    rw [← hqu] at g3
    have hall : X 5 k = (c : Int) ∧ X 7 k = (w : Int) ∧ X 9 k ≤ lm := ⟨f1, f2, by omega⟩
    refine ih I' (fun j hj => ?_) (q2.trans g2) ?_
    · rw [g1 j hj, nwS, if_pos hall]
    · rcases g3 with ⟨y1, y2, y3, y4⟩ | ⟨y1, y2, y3⟩
      · refine qSt_add q3 hk (by omega) hN y2 y3 y4 (fun κ M => ?_) (fun i hi hb => ⟨by omega, fun e => by subst e; omega⟩)
        show qI _ _ _ _ (nn - k) M = if M = κ then (k : Int) else qI _ _ _ _ (nn - (k + 1)) (M + 1)
        rw [enk, qI, enk2, if_pos ⟨hall.1, hall.2.1, hall.2.2, y1⟩]
      · refine qSt_same q3 (y2.trans hN.symm) y3 (fun κ M => ?_) (fun i hi hb => by omega)
        show qI _ _ _ _ (nn - k) M = qI _ _ _ _ (nn - (k + 1)) M
        rw [enk, qI, enk2, if_neg (fun q => y1 q.2.2.2)]
  · show qW _ _ _ _ (100 - w) N = qI _ _ _ _ (nn - 0) N
    rw [e100, qW, e100w, Nat.sub_zero]
end PR2
