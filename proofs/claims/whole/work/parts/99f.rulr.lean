/-! ===== RULES: the reference's side ===== -/
theorem cq_cong {J J' Z : XI} {n t a : Nat} (h : J a = J' a) : cqR J Z n t a = cqR J' Z n t a := by
  funext j
  unfold cqR
  rw [h]
section TB
variable {T : Nat → Int} {N : Nat}
def plR (lp : Int) : Prop := -1 ≤ lp ∧ lp ≤ 500
theorem ntP_r {c : Bool} {s lf lp : Int} (h : plR lp) (hs : 0 ≤ s ∧ s ≤ 500) : plR (ntP c s lf lp) := by
  unfold plR at h ⊢
  unfold ntP
  split <;> omega
theorem tS_r {p : Nat} (hN : N ≤ 500) (hp : p ≤ N) : 0 ≤ (tS T N p : Int) ∧ (tS T N p : Int) ≤ 500 := by
  have := tS_top (T := T) hp
  omega
theorem tS_pl {p : Nat} (hN : N ≤ 500) (hp : p ≤ N) : plR (tS T N p : Int) := by
  have := tS_r (T := T) hN hp
  unfold plR
  omega
theorem tsP_r {l : Nat} (hN : N ≤ 500) : ∀ (fu i p : Nat) (lf lp : Int) (Y : XI), p ≤ N → plR lp → plR (tsP T N l fu i p lf lp Y).2.2.2.2.1 ∧ (tsP T N l fu i p lf lp Y).2.2.1 ≤ N := by
  intro fu
  induction fu with
  | zero => intro i p lf lp Y hp h; exact ⟨h, hp⟩
  | succ fu ih =>
    intro i p lf lp Y hp h
    have hp1 := tE_top (T := T) hp
    have tp := teP_p (T := T) (l := l) (i := i) (Y := Y) hN hp1
    have h1 : plR (ntP (i == 4) (tS T N (tE T N p)) lf lp) := ntP_r h (tS_r hN hp1)
    rw [tsP_eq]
    split
    · exact ⟨tS_pl hN tp.1, tp.1⟩
    split
    · exact ih _ _ _ _ _ tp.1 h1
    · exact ⟨h1, tp.1⟩
theorem deP_r {l p : Nat} {lf lp : Int} {Y : XI} (hN : N ≤ 500) (hp : p ≤ N) (h : plR lp) : plR (deP T N l p lf lp Y).2.2.2.1 := by
  have hp1 := tE_top (T := T) hp
  have hp2 := tE_top (T := T) hp1
  have en : ∀ (p : Nat) (f q : Int) (Y : XI), p ≤ N → plR q → plR (enP T N p f q Y).2.2.2.1 := fun p f q Y hp hq => by
    unfold enP
    split
    · exact hq
    · exact tS_pl hN hp
  unfold deP
  split
  · exact en _ _ _ _ hp1 h
  split
  · split
    · exact en _ _ _ _ hp2 (ntP_r h (tS_r hN hp1))
    · exact tS_pl hN hp1
  split
  · split
    · exact en _ _ _ _ hp2 h
    · exact tS_pl hN hp1
  · exact tS_pl hN hp
theorem liP_r {l p : Nat} {lf lp : Int} {Y : XI} (hN : N ≤ 500) (hp : p ≤ N) (h : plR lp) : plR (liP T N l p lf lp Y).2.2.2.1 := by
  have h1 : plR (ntP (l == 16) (tS T N p) lf lp) := ntP_r h (tS_r hN hp)
  have ts := tsP_r (T := T) (l := l) hN 501 0 p (ntF (l == 16) 3 lf) (ntP (l == 16) (tS T N p) lf lp) Y hp h1
  unfold liP
  split
  · generalize tsP T N l 501 0 p (ntF (l == 16) 3 lf) (ntP (l == 16) (tS T N p) lf lp) Y = r at ts ⊢
    split
    · exact ts.1
    split
    · exact deP_r hN (tE_top ts.2) ts.1
    · exact tS_pl hN ts.2
  · exact deP_r hN hp h1
theorem ruP_r (hN : N ≤ 500) : ∀ (fu l p : Nat) (lf lp : Int) (Y : XI), p ≤ N → fok lf → plR lp → plR (ruP T N fu l p lf lp Y).2.2.2.2.1 := by
  intro fu
  induction fu with
  | zero => intro l p lf lp Y _ _ h; exact h
  | succ fu ih =>
    intro l p lf lp Y hp hf h
    have lo := liP_ok (T := T) (l := l) (lp := lp) (Y := Y) hN hp hf
    have lr := liP_r (T := T) (l := l) (lf := lf) (Y := Y) hN hp h
    unfold LnOk at lo
    rw [ruP_eq]
    split
    · exact h
    split
    · exact lr
    next c =>
    have c : (liP T N l p lf lp Y).1 = true := by
      cases e : (liP T N l p lf lp Y).1
      · exact absurd e c
      · rfl
    exact ih _ _ _ _ _ lo.1 (lo.2.2.1 c).2 lr
end TB
section TD
variable {G : XG} {S : XS} {T : Nat → Int} {N : Nat}
theorem s_k145 {J Z : XI} {L : Nat} {R : Int → XI → Prop} (hS : xSh S) (hL : L ≤ 16) (h68 : J r_obj 68 = (L : Int)) (hZ : ∀ r, r < 7 → J (135 + r) = Z r) (hz : okZ Z) (k : R (L : Int) (cqR J Z L (4 * L))) : R_rules_k145 G S J 0 R := by
  have key : ∀ m l, l + m = L → R_rules_k145 G S (cqR J Z l (4 * l)) (l : Int) R := by
    intro m
    induction m with
    | zero =>
      intro l e
      have e : l = L := by omega
      subst e
      refine b_R_rules_k145 hS ?_
      rw [cq_off (a := r_obj) (by decide), h68, w32_nat (k := l) (by omega)]
      exact ⟨fun _ => k, fun x => absurd (Int.le_refl _) x⟩
    | succ m ih =>
      intro l e
      have inner : ∀ q t, t + q = 4 * l + 4 → 4 * l ≤ t → R_rules_k193 G S (cqR J Z (l + 1) t) (l : Int) (t : Int) R := by
        intro q
        induction q with
        | zero =>
          intro t et ht
          have et : t = 4 * (l + 1) := by omega
          subst et
          refine b_R_rules_k193 hS ?_
          rw [w32_id (z := 4 * (l : Int) + 4) (by omega) (by omega), w32_nat (k := 4 * (l + 1)) (by omega)]
          refine ⟨fun _ => ?_, fun x => absurd x (by omega)⟩
          rw [show (l : Int) + 1 = ((l + 1 : Nat) : Int) by omega]
          exact ih (l + 1) (by omega)
        | succ q ih2 =>
          intro t et ht
          refine b_R_rules_k193 hS ?_
          rw [w32_id (z := 4 * (l : Int) + 4) (by omega) (by omega), w32_nat (k := t) (by omega), ix_nat (k := t) (by omega)]
          have i1 : inb (t : Int) 69 := inb_b (by omega) (by omega) (by decide)
          have i2 : inb (t : Int) 256 := inb_b (by omega) (by omega) (by decide)
          have rd : ∀ r, r < 7 → cqR J Z (l + 1) t (135 + r) = Z r := fun r hr => (cq_off (by omega)).trans (hZ r hr)
          refine ⟨fun x => absurd x (by omega), fun _ => ⟨i1, i2, fun I20 e20 => ⟨i1, i2, fun I21 e21 => ⟨i1, i2, fun I22 e22 => ⟨i1, ?_, i2, fun I23 e23 => ?_⟩⟩⟩⟩⟩
          · have : I22 r_newNot = Z 6 := by
              rw [e22, up_row (by decide), e21, up_row (by decide), e20, up_row (by decide)]; exact rd 6 (by decide)
            rw [this]; exact hz.2 t
          · have a20 : I20 = up (cqR J Z (l + 1) t) 121 t (Z 3 t) := by rw [e20, show cqR J Z (l + 1) t r_newWhat = Z 3 from rd 3 (by decide)]
            have a21 : I21 = up I20 122 t (Z 4 t) := by
              have : I20 r_newSign = Z 4 := by rw [a20]; exact (up_row (by decide)).trans (rd 4 (by decide))
              rw [e21, this]
            have a22 : I22 = up I21 123 t (Z 5 t) := by
              have : I21 r_newThan = Z 5 := by rw [a21, up_row (by decide), a20]; exact (up_row (by decide)).trans (rd 5 (by decide))
              rw [e22, this]
            have a23 : I23 = up I22 124 t (Z 6 t) := by
              have : I22 r_newNot = Z 6 := by rw [a22, up_row (by decide), a21, up_row (by decide), a20]; exact (up_row (by decide)).trans (rd 6 (by decide))
              rw [e23, this]
            rw [a23, a22, a21, a20, cq_test, show (t : Int) + 1 = ((t + 1 : Nat) : Int) by omega]
            exact ih2 (t + 1) (by omega) (by omega)
      refine b_R_rules_k145 hS ?_
      have rd : ∀ r, r < 7 → cqR J Z l (4 * l) (135 + r) = Z r := fun r hr => (cq_off (by omega)).trans (hZ r hr)
      rw [cq_off (a := r_obj) (by decide), h68, w32_nat (k := l) (by omega), w32_nat (k := L) (by omega), ix_nat (k := l) (by omega)]
      have i1 : inb (l : Int) 17 := inb_b (by omega) (by omega) (by decide)
      have i2 : inb (l : Int) 64 := inb_b (by omega) (by omega) (by decide)
      refine ⟨fun x => absurd x (by omega), fun _ => ⟨i1, i2, fun I14 e14 => ⟨i1, i2, fun I15 e15 => ⟨i1, i2, fun I16 e16 => ?_⟩⟩⟩⟩
      have a14 : I14 = up (cqR J Z l (4 * l)) 118 l (Z 0 l) := by rw [e14, show cqR J Z l (4 * l) r_newAct = Z 0 from rd 0 (by decide)]
      have a15 : I15 = up I14 119 l (Z 1 l) := by
        have : I14 r_newNumber = Z 1 := by rw [a14]; exact (up_row (by decide)).trans (rd 1 (by decide))
        rw [e15, this]
      have a16 : I16 = up I15 120 l (Z 2 l) := by
        have : I15 r_newTests = Z 2 := by rw [a15, up_row (by decide), a14]; exact (up_row (by decide)).trans (rd 2 (by decide))
        rw [e16, this]
      rw [a16, a15, a14, cq_line, show 4 * (l : Int) = ((4 * l : Nat) : Int) by omega]
      exact inner 4 (4 * l) (by omega) (Nat.le_refl _)
  have k0 := key L 0 (by omega)
  rw [show 4 * 0 = 0 from rfl, cq_0] at k0
  exact k0
theorem s_Rrules {A Y : XI} {R : Int → XI → Prop} (hS : xSh S) (hN : N ≤ 500) (hsz : A r_size 0 = (N : Int)) (hT : byt T) (hB : ∀ j, j < N → iand (A r_tape j) 255 = T j) (hz : okZ (fun r => A (135 + r))) (kf : ∀ K b l' p' lf' lp' Y' Z', ruP T N 500 0 0 0 (-1) Y = (b, l', p', lf', lp', Y') → lf' ≠ 0 → (∀ a, a ≠ 77 → (a < 135 ∨ 141 < a) → K a = up (up (up A r_size 0 0) r_fault 0 lf') r_faultPlace 0 lp' a) → (∀ r, r < 7 → K (135 + r) = Z' r) → okZ Z' → R (-1) K) (ks : ∀ K l' p' lp' Y' Z', ruP T N 500 0 0 0 (-1) Y = (true, l', p', 0, lp', Y') → l' ≤ 16 → LsR Y' Z' 0 l' → okZ Z' → (∀ a, a ≠ 77 → (a < 135 ∨ 141 < a) → K a = cqR (up (up (up (up A r_size 0 0) r_fault 0 0) r_faultPlace 0 (-1)) r_lines 0 (l' : Int)) Z' l' (4 * l') a) → (∀ r, r < 7 → K (135 + r) = Z' r) → R (l' : Int) K) : R_rules G S A R := by
  refine b_R_rules hS (fun I1 e1 I2 e2 I3 e3 I4 e4 I5 e5 I6 e6 I7 e7 I8 e8 I9 e9 => ?_)
  have s1 : I1 r_size 0 = (N : Int) := by rw [e1, up_1 _ (by decide)]; exact hsz
  rw [s1] at e2
  have E9 : I9 = up (up (up (up (up (up (up (up (up A r_obj 0 0) r_obj 60 (N : Int)) r_size 0 0) r_fault 0 0) r_faultPlace 0 (-1)) r_obj 59 0) r_obj 65 (-1)) r_obj 66 0) r_obj 68 0 := by rw [e9, e8, e7, e6, e5, e4, e3, e2, e1]
  have row : ∀ a, a ≠ 77 → I9 a = up (up (up A r_size 0 0) r_fault 0 0) r_faultPlace 0 (-1) a := fun a ha => by
    rw [E9, up_row ha, up_row ha, up_row ha, up_row ha]
    exact up_cong (up_cong (up_cong ((up_row ha).trans (up_row ha))))
  have far : ∀ a, a ≠ 77 → (a < 79 ∨ 81 < a) → I9 a = A a := fun a ha h2 => by
    rw [row a ha, up_row (show a ≠ 81 by omega), up_row (show a ≠ 80 by omega), up_row (show a ≠ 79 by omega)]
  have qv : QV N I9 (fun r => A (135 + r)) I9 0 (I9 r_obj 61) (I9 r_obj 62) (I9 r_obj 63) (I9 r_obj 64) (-1) 0 (I9 r_obj 67) 0 := by
    refine ⟨⟨?_, ?_, rfl, rfl, rfl, rfl, ?_, ?_, rfl, ?_⟩, fun r hr => far _ (by omega) (by omega), fun a _ _ => rfl⟩
    · rw [E9, up_2 _ (by decide), up_2 _ (by decide), up_2 _ (by decide), up_2 _ (by decide), up_1 _ (by decide), up_1 _ (by decide), up_1 _ (by decide), up_s]
    · rw [E9, up_2 _ (by decide), up_2 _ (by decide), up_2 _ (by decide), up_s]; rfl
    · rw [E9, up_2 _ (by decide), up_2 _ (by decide), up_s]
    · rw [E9, up_2 _ (by decide), up_s]
    · rw [E9, up_s]
  have hB9 : tpe T N I9 := fun j hj => by rw [far r_tape (by decide) (by decide)]; exact hB j hj
  have ow : ∀ (D : XI) (f pl : Int) (a : Nat), D a = up (up (up A r_size 0 0) r_fault 0 0) r_faultPlace 0 (-1) a → up (up D r_fault 0 f) r_faultPlace 0 pl a = up (up (up A r_size 0 0) r_fault 0 f) r_faultPlace 0 pl a := fun D f pl a hD => by
    funext j
    have hDj := congrFun hD j
    rw [up_ite, up_ite] at hDj
    rw [up_ite, up_ite, up_ite (up (up A r_size 0 0) r_fault 0 f), up_ite (up A r_size 0 0)]
    by_cases c1 : a = r_faultPlace ∧ j = 0
    · rw [if_pos c1, if_pos c1]
    · rw [if_neg c1, if_neg c1]
      by_cases c2 : a = r_fault ∧ j = 0
      · rw [if_pos c2, if_pos c2]
      · rw [if_neg c2, if_neg c2, hDj, if_neg c1, if_neg c2]
  have i0 : inb (0 : Int) 4 := inb_b (by decide) (by decide) (by decide)
  refine s_tok hS hN hT hB9 (Nat.zero_le _) qv (fun J hJ => s_RruP hS hN hT hB9 500 0 0 J 0 (-1) _ Y _ (Nat.le_refl _) (Nat.zero_le _) (by omega) (Or.inl rfl) (fun x => absurd rfl x) hJ hz (fun l hl => absurd hl (by omega)) (fun _ => Nat.zero_le _) (fun K l' p' lf' lpC' lpR' Y' Z' e q1 q2 q3 q4 q5 q6 => ?_) (fun K l' p' lf' lpC' Y' a b c Z' e q1 q2 => ?_))
  · obtain ⟨v, w, qv1, -⟩ := q1
    have fk := q6
    unfold fok at fk
    have hK : ∀ a, a ≠ 77 → (a < 135 ∨ 141 < a) → K a = up (up (up A r_size 0 0) r_fault 0 0) r_faultPlace 0 (-1) a := fun a h1 h2 => (qv1.2.2 a h1 h2).trans (row a h1)
    refine b_R_rules_k81 hS (br1 ?_)
    rw [qv1.f66, qv1.f68, w32_id (z := lf') (by omega) (by omega)]
    refine ⟨fun x I13 e13 => ?_, fun x => ?_⟩
    · have l0 : lf' = 0 := by omega
      subst l0
      have l16 := q5 rfl
      have r13 : ∀ r, r < 7 → I13 (135 + r) = Z' r := fun r hr => by rw [e13]; exact (up_row (by show 135 + r ≠ 117; omega)).trans (qv1.2.1 r hr)
      refine s_k145 (L := l') hS l16 (by rw [e13, up_1 _ (by decide)]; exact qv1.f68) r13 q3 (ks _ l' p' lpC' Y' Z' e l16 q4 q3 (fun a h1 h2 => ?_) (fun r hr => (cq_off (by omega)).trans (r13 r hr)))
      refine cq_cong ?_
      rw [e13]
      exact up_cong (hK a h1 h2)
    · refine b_R_rules_k92 hS (br1 (b_R_rules_k109 hS ⟨i0, fun I17 e17 => br1 (fun I19 e19 => kf I19 true l' p' lf' lpC' Y' Z' e (by omega) (fun a h1 h2 => ?_) (fun r hr => ?_) q3)⟩))
      · rw [show ix 0 = 0 from rfl, qv1.f66] at e17
        have f67 : I17 r_obj 67 = lpC' := by
          rw [e17, up_1 _ (by decide), ← q2 (by omega)]
          exact qv1.1.2.2.2.2.2.2.2.2.1
        rw [e19, f67, e17]
        exact ow K lf' lpC' a (hK a h1 h2)
      · rw [e19, up_row (by show 135 + r ≠ 81; omega), e17, up_row (by show 135 + r ≠ 80; omega)]
        exact qv1.2.1 r hr
  · obtain ⟨v, w, qv1, -⟩ := q1
    have hK : ∀ a, a ≠ 77 → (a < 135 ∨ 141 < a) → K a = up (up (up A r_size 0 0) r_fault 0 0) r_faultPlace 0 (-1) a := fun a h1 h2 => (qv1.2.2 a h1 h2).trans (row a h1)
    have hf := (ruP_f (T := T) hN 500 0 0 0 (-1) Y (Nat.zero_le _) (Or.inl rfl)).1
    rw [e] at hf
    have f1 : lf' = 1 := (hf rfl).1
    have f2 : lpC' = (tS T N p' : Int) := (hf rfl).2
    refine b_R_rules_k81 hS (br0 (b_R_rules_k92 hS (br0 (b_R_rules_k109 hS ⟨i0, fun I17 e17 => br0 (fun I18 e18 => kf I18 false l' p' lf' lpC' Y' Z' e (by omega) (fun a h1 h2 => ?_) (fun r hr => ?_) q2)⟩))))
    · rw [show ix 0 = 0 from rfl] at e17
      have f65 : I17 r_obj 65 = lpC' := by
        rw [e17, up_1 _ (by decide), f2]
        exact qv1.1.2.2.2.2.2.2.1
      rw [e18, f65, e17, f1]
      exact ow K 1 lpC' a (hK a h1 h2)
    · rw [e18, up_row (by show 135 + r ≠ 81; omega), e17, up_row (by show 135 + r ≠ 80; omega)]
      exact qv1.2.1 r hr
end TD
