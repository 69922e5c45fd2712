/-! ===== RULES: the class reads the text ===== -/
section TQ
variable {T : Nat → Int} {N : Nat}
theorem tsP_ok {l : Nat} (hN : N ≤ 500) : ∀ (fu i p : Nat) (lf lp : Int) (Y : XI), tK T N p = 1 → p ≤ N → N ≤ p + fu → fok lf → (tsP T N l fu i p lf lp Y).2.2.1 ≤ N ∧ p < (tsP T N l fu i p lf lp Y).2.2.1 ∧ ((tsP T N l fu i p lf lp Y).1 = true → fok (tsP T N l fu i p lf lp Y).2.2.2.1) ∧ ((tsP T N l fu i p lf lp Y).1 = false → (tsP T N l fu i p lf lp Y).2.2.2.1 = 1 ∧ (tsP T N l fu i p lf lp Y).2.2.2.2.1 = tS T N (tsP T N l fu i p lf lp Y).2.2.1) := by
  intro fu
  induction fu with
  | zero =>
    intro i p lf lp Y hk hp hf _
    have := (tK_1 hk).1
    have := tS_ge (T := T) (N := N) (p := p)
    omega
  | succ fu ih =>
    intro i p lf lp Y hk hp hf hfl
    have hp1 := tE_top (T := T) hp
    have hp2 := tE_lt (T := T) hN (p := p) (by omega)
    have tp := teP_p (T := T) (l := l) (i := i) (Y := Y) hN hp1
    have fl1 : fok (ntF (i == 4) 3 lf) := ntF_ok hfl (Or.inr rfl)
    rw [tsP_eq]
    by_cases c : (teP T N l i (tE T N p) Y).1 = false
    · rw [if_pos c]
      exact ⟨tp.1, by show p < (teP T N l i (tE T N p) Y).2.1; omega, fun x => (by cases x), fun _ => ⟨rfl, rfl⟩⟩
    · rw [if_neg c]
      by_cases d : isW T N (teP T N l i (tE T N p) Y).2.1 12 = true
      · rw [if_pos d]
        have := ih (i + 1) (teP T N l i (tE T N p) Y).2.1 (ntF (i == 4) 3 lf) (ntP (i == 4) (tS T N (tE T N p)) lf lp) (teP T N l i (tE T N p) Y).2.2 (isW_1 d) tp.1 (by omega) fl1
        exact ⟨this.1, by omega, this.2.2.1, this.2.2.2⟩
      · rw [if_neg d]
        exact ⟨tp.1, by show p < (teP T N l i (tE T N p) Y).2.1; omega, fun _ => fl1, fun x => (by cases x)⟩
def LnOk (T : Nat → Int) (N p : Nat) (r : Bool × Nat × Int × Int × XI) : Prop := r.2.1 ≤ N ∧ p ≤ r.2.1 ∧ (r.1 = true → p < r.2.1 ∧ fok r.2.2.1) ∧ (r.1 = false → r.2.2.1 = 1 ∧ r.2.2.2.1 = tS T N r.2.1)
theorem enP_ok {p p0 : Nat} {lf lp : Int} {Y : XI} (hN : N ≤ 500) (hp : p ≤ N) (h0 : p0 < p) (hf : fok lf) : LnOk T N p0 (enP T N p lf lp Y) := by
  have a1 := tE_top (T := T) hp
  have b1 := tE_le (T := T) hN p
  unfold enP LnOk
  split
  · exact ⟨a1, by show p0 ≤ tE T N p; omega, fun _ => ⟨by show p0 < tE T N p; omega, hf⟩, fun x => (by cases x)⟩
  · exact ⟨hp, by show p0 ≤ p; omega, fun x => (by cases x), fun _ => ⟨rfl, rfl⟩⟩
theorem deP_ok {l p : Nat} {lf lp : Int} {Y : XI} (hN : N ≤ 500) (hp : p ≤ N) (hf : fok lf) : LnOk T N p (deP T N l p lf lp Y) := by
  have a1 := tE_top (T := T) hp
  have a2 := tE_top (T := T) a1
  have b1 := tE_le (T := T) hN p
  have b2 := tE_le (T := T) hN (tE T N p)
  unfold deP
  split
  · next c =>
    have b0 := tE_lt (T := T) hN (p := p) (by rw [isW_1 c]; decide)
    exact enP_ok hN a1 b0 hf
  split
  · next c =>
    have b0 := tE_lt (T := T) hN (p := p) (by rw [isW_1 c]; decide)
    split
    · exact enP_ok hN a2 (by omega) (ntF_ok hf (Or.inl rfl))
    · exact ⟨a1, b1, fun x => (by cases x), fun _ => ⟨rfl, rfl⟩⟩
  split
  · next c =>
    have b0 := tE_lt (T := T) hN (p := p) (by rw [isW_1 c]; decide)
    split
    · exact enP_ok hN a2 (by omega) hf
    · exact ⟨a1, b1, fun x => (by cases x), fun _ => ⟨rfl, rfl⟩⟩
  · exact ⟨hp, Nat.le_refl _, fun x => (by cases x), fun _ => ⟨rfl, rfl⟩⟩
theorem LnOk.up {p p0 : Nat} {r : Bool × Nat × Int × Int × XI} (h : LnOk T N p r) (h0 : p0 ≤ p) : LnOk T N p0 r := by
  unfold LnOk at h ⊢
  exact ⟨h.1, by omega, fun x => ⟨by have := h.2.2.1 x; omega, (h.2.2.1 x).2⟩, h.2.2.2⟩
theorem liP_ok {l p : Nat} {lf lp : Int} {Y : XI} (hN : N ≤ 500) (hp : p ≤ N) (hf : fok lf) : LnOk T N p (liP T N l p lf lp Y) := by
  have fl1 : fok (ntF (l == 16) 3 lf) := ntF_ok hf (Or.inr rfl)
  unfold liP
  split
  · next c =>
    have ts := tsP_ok (T := T) (l := l) hN 501 0 p (ntF (l == 16) 3 lf) (ntP (l == 16) (tS T N p) lf lp) Y (isW_1 c) hp (by omega) fl1
    generalize tsP T N l 501 0 p (ntF (l == 16) 3 lf) (ntP (l == 16) (tS T N p) lf lp) Y = r at ts ⊢
    split
    · next d => exact ⟨ts.1, by show p ≤ r.2.2.1; omega, fun x => (by cases x), fun _ => ts.2.2.2 d⟩
    · next d =>
      have d : r.1 = true := by
        cases e : r.1
        · exact absurd e d
        · rfl
      split
      · have b1 := tE_le (T := T) hN r.2.2.1
        exact (deP_ok hN (tE_top ts.1) (ts.2.2.1 d)).up (by omega)
      · exact ⟨ts.1, by show p ≤ r.2.2.1; omega, fun x => (by cases x), fun _ => ⟨rfl, rfl⟩⟩
  · exact deP_ok hN hp fl1
theorem ruP_eq {fu l p : Nat} {lf lp : Int} {Y : XI} : ruP T N (fu + 1) l p lf lp Y = if tK T N p = 0 then (true, l, p, lf, lp, Y)
    else if (liP T N l p lf lp Y).1 = false then (false, l, (liP T N l p lf lp Y).2)
    else ruP T N fu (l + 1) (liP T N l p lf lp Y).2.1 (liP T N l p lf lp Y).2.2.1 (liP T N l p lf lp Y).2.2.2.1 (liP T N l p lf lp Y).2.2.2.2 := rfl
end TQ
section TX
variable {G : XG} {S : XS} {T : Nat → Int} {N : Nat} {I0 : XI}
theorem s_ruP {R : XI → Prop} (hS : xSh S) (hN : N ≤ 500) (hT : byt T) : ∀ (fu l p : Nat) (I : XI) (lf lp : Int) (Y : XI), l ≤ p → p ≤ N → N ≤ p + fu → fok lf → PS T N I0 Y I p lf lp → (∀ J z b l' p' lf' lp' Y', ruP T N fu l p lf lp Y = (b, l', p', lf', lp', Y') → (b = true → l' ≤ 500 ∧ z = if 16 < l' then 16 else (l' : Int)) → PS T N I0 Y' J p' lf' lp' → R (up J c_draft 0 z)) → Pa_parse_k34 G S I (l : Int) R := by
  intro fu
  have fin : ∀ (l p : Nat) (I : XI) (lf lp : Int) (Y : XI), l ≤ 501 → (tK T N p = 0 ∨ lf = 1) → (lf = 1 ∨ fok lf) → PS T N I0 Y I p lf lp → (∀ z, z = (if 16 < l then 16 else (l : Int)) → R (up I c_draft 0 z)) → Pa_parse_k34 G S I (l : Int) R := by
    intro l p I lf lp Y hl he hf h k
    refine b_Pa_parse_k34 hS ?_
    have kl := tK_le (T := T) (N := N) (p := p)
    unfold fok at hf
    rw [h.tok, h.flt.1, w32_nat (k := l) (by omega), w32_nat (k := tK T N p) (by omega), w32_id (z := lf) (by omega) (by omega), show w32 500 = 500 from rfl, show w32 16 = 16 from rfl, show w32 1 = 1 from rfl]
    have kz : ∀ J : XI, J = up I c_draft 0 (if (16 : Int) < (l : Int) then 16 else (l : Int)) → R J := fun J e => by
      rw [e]
      refine k _ ?_
      by_cases c : 16 < l
      · rw [if_pos c, if_pos (by omega)]
      · rw [if_neg c, if_neg (by omega)]
    exact ⟨fun _ => kz, fun _ => ⟨fun _ => kz, fun x => ⟨fun _ => kz, fun y => absurd he (by omega)⟩⟩⟩
  induction fu with
  | zero =>
    intro l p I lf lp Y hl hp hf hfl h k
    have e0 : tK T N p = 0 := tK_0.mpr (by have := tS_ge (T := T) (N := N) (p := p); omega)
    exact fin l p I lf lp Y (by omega) (Or.inl e0) (Or.inr hfl) h (fun z ez => k I z true l p lf lp Y rfl (fun _ => ⟨by omega, ez⟩) h)
  | succ fu ih =>
    intro l p I lf lp Y hl hp hf hfl h k
    by_cases e0 : tK T N p = 0
    · exact fin l p I lf lp Y (by omega) (Or.inl e0) (Or.inr hfl) h (fun z ez => k I z true l p lf lp Y (by rw [ruP_eq, if_pos e0]) (fun _ => ⟨by omega, ez⟩) h)
    refine b_Pa_parse_k34 hS ?_
    have kl := tK_le (T := T) (N := N) (p := p)
    have hfl2 := hfl
    unfold fok at hfl2
    rw [h.tok, h.flt.1, w32_nat (k := l) (by omega), w32_nat (k := tK T N p) (by omega), w32_id (z := lf) (by omega) (by omega), show w32 500 = 500 from rfl, show w32 1 = 1 from rfl]
    refine ⟨fun x => absurd x (by omega), fun _ => ⟨fun x => absurd x (by omega), fun _ => ⟨fun x => absurd x (by omega), fun _ => ?_⟩⟩⟩
    have lo := liP_ok (T := T) (l := l) (lp := lp) (Y := Y) hN hp hfl
    refine s_liP h hS hN hT hp (by omega) hfl (fun J b p' lf' lp' Y' e hJ => ?_)
    rw [e] at lo
    unfold LnOk at lo
    have c1 : (l : Int) + 1 = ((l + 1 : Nat) : Int) := by omega
    rw [c1]
    cases b with
    | false =>
      have l1 : lf' = 1 := (lo.2.2.2 rfl).1
      exact fin (l + 1) p' J lf' lp' Y' (by omega) (Or.inr l1) (Or.inl l1) hJ (fun z _ => k J z false l p' lf' lp' Y' (by rw [ruP_eq, if_neg e0, e, if_pos rfl]) (fun x => (by cases x)) hJ)
    | true =>
      have l1 : p < p' ∧ fok lf' := lo.2.2.1 rfl
      have l0 : p' ≤ N := lo.1
      refine ih (l + 1) p' J lf' lp' Y' (by omega) l0 (by omega) l1.2 hJ (fun K z b2 l2 p2 f2 q2 Y2 e2 => k K z b2 l2 p2 f2 q2 Y2 ?_)
      rw [ruP_eq, if_neg e0, e, if_neg (fun x => (by cases x))]; exact e2
end TX
