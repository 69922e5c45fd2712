/-! ===== RULES: the reference reads the text ===== -/
section TV
variable {G : XG} {S : XS} {T : Nat → Int} {N : Nat} {J0 : XI} {wr : Int}
theorem s_RliP {l p : Nat} {J Y Z : XI} {lf lpC lpR : Int} {R : Int → XI → Prop} (hS : xSh S) (hN : N ≤ 500) (hT : byt T) (hB : tpe T N J0) (hp : p ≤ N) (hl : l ≤ 500) (hfl : fok lf) (hrel : lf ≠ 0 → lpR = lpC) (h : QS T N J0 Z J p wr lf lpR (l : Int)) (hz : okZ Z) (hls : LsR Y Z lf l) (ok : ∀ K p' lf' lpC' lpR' Y' Z', liP T N l p lf lpC Y = (true, p', lf', lpC', Y') → QS T N J0 Z' K p' wr lf' lpR' ((l + 1 : Nat) : Int) → (lf' ≠ 0 → lpR' = lpC') → okZ Z' → LsR Y' Z' lf' (l + 1) → (lf' = 0 → ntF (l == 16) 3 lf = 0) → R 1 K) (bad : ∀ K p' lf' lpC' Y' a b c Z', liP T N l p lf lpC Y = (false, p', lf', lpC', Y') → QS T N J0 Z' K p' (tS T N p') a b c → okZ Z' → R 0 K) : R_oneLine G S J R := by
  have fl1 : fok (ntF (l == 16) 3 lf) := ntF_ok hfl (Or.inr rfl)
  obtain ⟨l', hl'⟩ : ∃ l' : Nat, l' = if l < 16 then l else 16 := ⟨_, rfl⟩
  have ls1 : LsR Y Z (ntF (l == 16) 3 lf) l := hls.mono (LoF.rf Y l) (LoF.rf Z l) (fun x => ntF_0 (by decide) x)
  have k33 : ∀ J1, QS T N J0 Z J1 p wr (ntF (l == 16) 3 lf) (ntP (l == 16) (tS T N p) lf lpR) (l : Int) → R_oneLine_k33 G S J1 (l' : Int) R := fun J1 h1 => by
    refine b_R_oneLine_k33 hS (s_RisW hS hN hp (x := 0) (by decide) cod_ok.1.symm h1 (fun c => br1 ?_) (fun c => br0 ?_))
    · have ts := tsP_ok (T := T) (l := l) hN 501 0 p (ntF (l == 16) 3 lf) (ntP (l == 16) (tS T N p) lf lpC) Y (isW_1 c) hp (by omega) fl1
      have mo := tsP_mono (T := T) (N := N) (l := l) 501 0 p (ntF (l == 16) 3 lf) (ntP (l == 16) (tS T N p) lf lpC) Y
      refine s_RtsP (l := l) hl' hS hN hT hB 501 0 p J1 _ (ntP (l == 16) (tS T N p) lf lpC) _ Y Z (isW_1 c) (by omega) hp (by omega) fl1 (nt_rel hrel) h1 hz (fun i hi => absurd hi (by omega)) (fun K m p' lf' lpC' lpR' Y' Z' e q1 q2 q3 q4 q5 q6 q7 q8 => ?_) (fun K m p' lf' lpC' Y' a b Z' e q1 q2 => bad K p' lf' lpC' Y' a b _ Z' ?_ q1 q2)
      · rw [e] at ts mo
        have flt : fok lf' := ts.2.2.1 rfl
        have mo : lf' = 0 → ntF (l == 16) 3 lf = 0 := mo rfl
        refine b_R_oneLine_k47 hS (br0 (q1.need hS hN hT hB q8 (by decide) (fun K2 c2 h2 => br1 ?_) (fun K2 c2 h2 => br0 (bad K2 p' 1 ((tS T N p' : Nat) : Int) Y' _ _ _ Z' ?_ h2 q3))))
        · refine s_Rk91 (Y := Y') hl' hS hN hT hB (tE_top q8) q7 hl flt q2 h2 q3 (ls1.mono q4 q5 mo) q6 (fun K3 p3 f3 c3 r3 Y3 Z3 e3 u1 u2 u3 u4 u5 => ok K3 p3 f3 c3 r3 Y3 Z3 ?_ u1 u2 u3 u4 (fun x => mo (u5 x))) (fun K3 p3 f3 c3 Y3 a b d Z3 e3 u1 u2 => bad K3 p3 f3 c3 Y3 a b d Z3 ?_ u1 u2)
          · unfold liP
            rw [if_pos c, e, if_neg (fun x => (by cases x)), if_pos c2]; exact e3
          · unfold liP
            rw [if_pos c, e, if_neg (fun x => (by cases x)), if_pos c2]; exact e3
        · unfold liP
          rw [if_pos c, e, if_neg (fun x => (by cases x)), if_neg c2]
      · unfold liP
        rw [if_pos c, e, if_pos rfl]
    · refine s_Rk91 (Y := Y) (m := 0) hl' hS hN hT hB hp (by omega) hl fl1 (nt_rel hrel) h1 hz ls1 (fun i hi => absurd hi (by omega)) (fun K3 p3 f3 c3 r3 Y3 Z3 e3 u1 u2 u3 u4 u5 => ok K3 p3 f3 c3 r3 Y3 Z3 ?_ u1 u2 u3 u4 u5) (fun K3 p3 f3 c3 Y3 a b d Z3 e3 u1 u2 => bad K3 p3 f3 c3 Y3 a b d Z3 ?_ u1 u2)
      · unfold liP
        rw [if_neg (by rw [c]; decide)]; exact e3
      · unfold liP
        rw [if_neg (by rw [c]; decide)]; exact e3
  have k18 : R_oneLine_k18 G S J (l' : Int) R := by
    refine b_R_oneLine_k18 hS ?_
    rw [h.num, w32_nat (k := l) (by omega), show w32 16 = 16 from rfl]
    refine ⟨fun e => h.later hS hfl (fun J2 h2 => k33 J2 ?_), fun e => k33 J ?_⟩
    · have e : l = 16 := by omega
      rw [e] at h2 ⊢; exact h2
    · have e : (l == 16) = false := beq_eq_false_iff_ne.mpr (by omega)
      rw [e, ntF_f, ntP_f]; exact h
  refine b_R_oneLine hS ?_
  rw [h.num, w32_nat (k := l) (by omega), show w32 16 = 16 from rfl]
  have k2 : ∀ z : Int, z = (l' : Int) → R_oneLine_k18 G S J z R := fun z ez => by rw [ez]; exact k18
  refine ⟨fun x => k2 16 ?_, fun x => k2 (l : Int) ?_⟩
  · rw [hl', if_neg (by omega)]; rfl
  · rw [hl', if_pos (by omega)]
theorem s_RruP {R : Int → XI → Prop} (hS : xSh S) (hN : N ≤ 500) (hT : byt T) (hB : tpe T N J0) : ∀ (fu l p : Nat) (J : XI) (lf lpC lpR : Int) (Y Z : XI), l ≤ p → p ≤ N → N ≤ p + fu → fok lf → (lf ≠ 0 → lpR = lpC) → QS T N J0 Z J p wr lf lpR (l : Int) → okZ Z → LsR Y Z lf l → (lf = 0 → l ≤ 16) → (∀ K l' p' lf' lpC' lpR' Y' Z', ruP T N fu l p lf lpC Y = (true, l', p', lf', lpC', Y') → QS T N J0 Z' K p' wr lf' lpR' (l' : Int) → (lf' ≠ 0 → lpR' = lpC') → okZ Z' → LsR Y' Z' lf' l' → (lf' = 0 → l' ≤ 16) → fok lf' → R_rules_k81 G S K 1 R) → (∀ K l' p' lf' lpC' Y' a b c Z', ruP T N fu l p lf lpC Y = (false, l', p', lf', lpC', Y') → QS T N J0 Z' K p' (tS T N p') a b c → okZ Z' → R_rules_k81 G S K 0 R) → R_rules_k62 G S J 1 R := by
  intro fu
  induction fu with
  | zero =>
    intro l p J lf lpC lpR Y Z hl hp hf hfl hrel h hz hls h16 ok bad
    have e0 : tK T N p = 0 := tK_0.mpr (by have := tS_ge (T := T) (N := N) (p := p); omega)
    refine b_R_rules_k62 hS (br1 ?_)
    rw [h.sort, e0, show w32 (kR 0) = 0 from rfl]
    exact ⟨fun _ => ok J l p lf lpC lpR Y Z rfl h hrel hz hls h16 hfl, fun x => absurd rfl x⟩
  | succ fu ih =>
    intro l p J lf lpC lpR Y Z hl hp hf hfl hrel h hz hls h16 ok bad
    have kl := tK_le (T := T) (N := N) (p := p)
    have kc := kR_c (tK T N p) (by omega)
    refine b_R_rules_k62 hS (br1 ?_)
    rw [h.sort, kc.2.2]
    refine ⟨fun e0 => ok J l p lf lpC lpR Y Z (by rw [ruP_eq, if_pos e0]) h hrel hz hls h16 hfl, fun e0 => ?_⟩
    have lo := liP_ok (T := T) (l := l) (lp := lpC) (Y := Y) hN hp hfl
    refine s_RliP (Y := Y) hS hN hT hB hp (by omega) hfl hrel h hz hls (fun K p' lf' lpC' lpR' Y' Z' e q1 q2 q3 q4 q5 => ?_) (fun K p' lf' lpC' Y' a b c Z' e q1 q2 => b_R_rules_k62 hS (br0 (bad K l p' lf' lpC' Y' a b c Z' ?_ q1 q2)))
    · rw [e] at lo
      unfold LnOk at lo
      have l1 : p < p' ∧ fok lf' := lo.2.2.1 rfl
      have l0 : p' ≤ N := lo.1
      refine ih (l + 1) p' K lf' lpC' lpR' Y' Z' (by omega) l0 (by omega) l1.2 q2 q1 q3 q4 (fun x => ?_) (fun K2 l2 p2 f2 c2 r2 Y2 Z2 e2 u1 u2 u3 u4 u5 u6 => ok K2 l2 p2 f2 c2 r2 Y2 Z2 ?_ u1 u2 u3 u4 u5 u6) (fun K2 l2 p2 f2 c2 Y2 a b c Z2 e2 u1 u2 => bad K2 l2 p2 f2 c2 Y2 a b c Z2 ?_ u1 u2)
      · have y := q5 x
        have z := ntF_0 (by decide) y
        have := h16 z
        by_cases e16 : l = 16
        · exfalso
          rw [e16] at y
          unfold ntF at y
          rw [if_pos ⟨rfl, z⟩] at y
          exact absurd y (by decide)
        · omega
      · rw [ruP_eq, if_neg e0, e, if_neg (fun x => (by cases x))]; exact e2
      · rw [ruP_eq, if_neg e0, e, if_neg (fun x => (by cases x))]; exact e2
    · rw [ruP_eq, if_neg e0, e, if_pos rfl]
end TV
/-! the class' rows stay in range; a text that breaks off -/
def okY (Y : XI) : Prop := ∀ r j, r < 7 → InR (Y r j)
theorem okY.wr {Y : XI} (h : okY Y) (r j : Nat) {z : Int} (hz : InR z) : okY (up Y r j z) := fun a b ha => by
  by_cases e : a = r
  · subst e
    by_cases f : b = j
    · rw [f, up_s]; exact hz
    · rw [up_2 _ f]; exact h a b ha
  · rw [up_1 _ e]; exact h a b ha
section TY
variable {T : Nat → Int} {N : Nat}
theorem okY.pT {Y : XI} (h : okY Y) {l i : Nat} {a b c d : Int} (h1 : InR a) (h2 : InR b) (h3 : InR c) (h4 : InR d) : okY (keT Y l i a b c d) := by
  unfold keT
  split
  · exact (((h.wr 3 _ h1).wr 4 _ h2).wr 5 _ h3).wr 6 _ h4
  · exact h
theorem okY.pL {Y : XI} (h : okY Y) {l : Nat} {a b : Int} (h1 : InR a) (h2 : InR b) : okY (keL Y l a b) := by
  unfold keL
  split
  · exact (h.wr 0 _ h1).wr 1 _ h2
  · exact h
theorem okY.pN {Y : XI} (h : okY Y) {l m : Nat} : okY (keN Y l (mi4 m)) := by
  have m4 : InR (mi4 m) := by unfold mi4; split <;> exact ⟨by omega, by omega⟩
  unfold keN
  split
  · exact h.wr 2 _ m4
  · exact h
theorem teQ_y {Y : XI} {l i p : Nat} {nt : Int} (hN : N ≤ 500) (hn : InR nt) (h : okY Y) : okY (teQ T N l i nt p Y).2.2 := by
  have sb := sbj_in (T := T) (N := N) (p := p)
  unfold teQ
  split
  · exact h
  split
  · exact h.pT hn ⟨by omega, by omega⟩ ⟨by decide, by decide⟩ ⟨by decide, by decide⟩
  split
  · exact h
  next c =>
  split
  · exact h
  next d =>
  have c1 : tK T N (tE T N p) = 3 := by
    by_cases x : tK T N (tE T N p) = 3
    · exact x
    · exact absurd (fun y => x y.1) c
  have d1 : tK T N (tE T N (tE T N p)) = 2 := Classical.byContradiction d
  have sg := tV_sign c1
  have vn := tV_num hN d1
  exact h.pT hn ⟨by omega, by omega⟩ ⟨by omega, by omega⟩ ⟨by omega, by omega⟩
theorem teP_y {Y : XI} {l i p : Nat} (hN : N ≤ 500) (h : okY Y) : okY (teP T N l i p Y).2.2 := by
  unfold teP
  split
  · exact teQ_y hN ⟨by decide, by decide⟩ h
  · exact teQ_y hN ⟨by decide, by decide⟩ h
theorem tsP_y {l : Nat} (hN : N ≤ 500) : ∀ (fu i p : Nat) (lf lp : Int) (Y : XI), okY Y → okY (tsP T N l fu i p lf lp Y).2.2.2.2.2 := by
  intro fu
  induction fu with
  | zero => intro i p lf lp Y h; exact h
  | succ fu ih =>
    intro i p lf lp Y h
    have ht := teP_y (T := T) (l := l) (i := i) (p := tE T N p) hN h
    rw [tsP_eq]
    split
    · exact ht
    split
    · exact ih _ _ _ _ _ ht
    · exact ht
theorem enP_y {p : Nat} {lf lp : Int} {Y : XI} (h : okY Y) : okY (enP T N p lf lp Y).2.2.2.2 := by
  unfold enP
  split <;> exact h
theorem deP_y {l p : Nat} {lf lp : Int} {Y : XI} (hN : N ≤ 500) (h : okY Y) : okY (deP T N l p lf lp Y).2.2.2.2 := by
  unfold deP
  split
  · exact enP_y (h.pL ⟨by decide, by decide⟩ ⟨by decide, by decide⟩)
  split
  · split
    · next e =>
      have vn := tV_num hN e
      exact enP_y (h.pL ⟨by decide, by decide⟩ ⟨by omega, by omega⟩)
    · exact h
  split
  · split
    · next e =>
      have vn := tV_num hN e
      exact enP_y (h.pL ⟨by decide, by decide⟩ ⟨by omega, by omega⟩)
    · exact h
  · exact h
theorem liP_y {l p : Nat} {lf lp : Int} {Y : XI} (hN : N ≤ 500) (h : okY Y) : okY (liP T N l p lf lp Y).2.2.2.2 := by
  have ts := tsP_y (T := T) (l := l) hN 501 0 p (ntF (l == 16) 3 lf) (ntP (l == 16) (tS T N p) lf lp) Y h
  unfold liP
  split
  · generalize tsP T N l 501 0 p (ntF (l == 16) 3 lf) (ntP (l == 16) (tS T N p) lf lp) Y = r at ts ⊢
    split
    · exact ts
    split
    · exact deP_y hN ts.pN
    · exact ts
  · exact deP_y hN (h.pN (m := 0))
theorem ruP_y (hN : N ≤ 500) : ∀ (fu l p : Nat) (lf lp : Int) (Y : XI), okY Y → okY (ruP T N fu l p lf lp Y).2.2.2.2.2 := by
  intro fu
  induction fu with
  | zero => intro l p lf lp Y h; exact h
  | succ fu ih =>
    intro l p lf lp Y h
    have hl := liP_y (T := T) (l := l) (p := p) (lf := lf) (lp := lp) hN h
    rw [ruP_eq]
    split
    · exact h
    split
    · exact hl
    · exact ih _ _ _ _ _ hl
theorem ruP_f (hN : N ≤ 500) : ∀ (fu l p : Nat) (lf lp : Int) (Y : XI), p ≤ N → fok lf → ((ruP T N fu l p lf lp Y).1 = false → (ruP T N fu l p lf lp Y).2.2.2.1 = 1 ∧ (ruP T N fu l p lf lp Y).2.2.2.2.1 = tS T N (ruP T N fu l p lf lp Y).2.2.1) ∧ (ruP T N fu l p lf lp Y).2.2.1 ≤ N ∧ ((ruP T N fu l p lf lp Y).1 = true → fok (ruP T N fu l p lf lp Y).2.2.2.1) := by
  intro fu
  induction fu with
  | zero => intro l p lf lp Y hp hf; exact ⟨fun h => (by cases h), hp, fun _ => hf⟩
  | succ fu ih =>
    intro l p lf lp Y hp hf
    have lo := liP_ok (T := T) (l := l) (lp := lp) (Y := Y) hN hp hf
    unfold LnOk at lo
    rw [ruP_eq]
    split
    · exact ⟨fun h => (by cases h), hp, fun _ => hf⟩
    split
    · next c => exact ⟨fun _ => lo.2.2.2 c, lo.1, fun h => (by cases h)⟩
    · next c =>
      have c : (liP T N l p lf lp Y).1 = true := by
        cases e : (liP T N l p lf lp Y).1
        · exact absurd e c
        · rfl
      exact ih _ _ _ _ _ lo.1 (lo.2.2.1 c).2
end TY
