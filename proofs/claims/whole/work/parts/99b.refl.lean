/-! ===== RULES: the reference reads tests ===== -/
def okZ (Z : XI) : Prop := (∀ r j, r < 7 → InR (Z r j)) ∧ ∀ j, Z 6 j = 0 ∨ Z 6 j = 1
theorem okZ.wr {Z : XI} (h : okZ Z) {r j : Nat} {z : Int} (hr : r ≠ 6) (hz : InR z) : okZ (up Z r j z) := by
  refine ⟨fun a b ha => ?_, fun b => ?_⟩
  · by_cases e : a = r
    · subst e
      by_cases f : b = j
      · rw [f, up_s]; exact hz
      · rw [up_2 _ f]; exact h.1 a b ha
    · rw [up_1 _ e]; exact h.1 a b ha
  · rw [up_1 _ (fun e => hr e.symm)]; exact h.2 b
theorem okZ.wr6 {Z : XI} (h : okZ Z) {j : Nat} {z : Int} (hz : z = 0 ∨ z = 1) : okZ (up Z 6 j z) := by
  refine ⟨fun a b ha => ?_, fun b => ?_⟩
  · by_cases e : a = 6
    · subst e
      by_cases f : b = j
      · rw [f, up_s]; rcases hz with q | q <;> (rw [q]; exact ⟨by decide, by decide⟩)
      · rw [up_2 _ f]; exact h.1 6 b ha
    · rw [up_1 _ e]; exact h.1 a b ha
  · by_cases f : b = j
    · rw [f, up_s]; exact hz
    · rw [up_2 _ f]; exact h.2 b
/-- rows of tests have changed at k alone -/
def FZ (Z Z' : XI) (k : Nat) : Prop := ∀ r j, (r < 3 ∨ j ≠ k) → Z' r j = Z r j
theorem FZ.rf (Z : XI) (k : Nat) : FZ Z Z k := fun _ _ _ => rfl
theorem FZ.wr {Z Z' : XI} {k : Nat} (h : FZ Z Z' k) {r : Nat} (z : Int) (hr : ¬ r < 3) : FZ Z (up Z' r k z) k := fun a j ha => by
  by_cases e : a = r
  · subst e; rw [up_2 _ (by omega)]; exact h a j ha
  · rw [up_1 _ e]; exact h a j ha
section TS
variable {G : XG} {S : XS} {T : Nat → Int} {N : Nat} {J0 Z J Y : XI} {p : Nat} {wr lf lp n : Int}
theorem QS.row (h : QS T N J0 Z J p wr lf lp n) {r : Nat} (j : Nat) (z : Int) (hr : r < 7) : QS T N J0 (up Z r j z) (up J (135 + r) j z) p wr lf lp n := by
  obtain ⟨v, w, h, hv⟩ := h
  refine ⟨v, w, ⟨?_, fun x hx => ?_, fun a h1 h2 => (up_row (by omega)).trans (h.2.2 a h1 h2)⟩, hv⟩
  · have e : up J (135 + r) j z r_obj = J r_obj := up_row (by show 77 ≠ 135 + r; omega)
    rw [e]; exact h.1
  · by_cases e : x = r
    · rw [e]
      funext y
      unfold up
      rw [if_pos rfl, if_pos rfl, h.2.1 r hr]
    · exact (up_row (by omega)).trans ((h.2.1 x hx).trans (up_row e).symm)
theorem QS.rw' (h : QS T N J0 Z J p wr lf lp n) {r : Nat} (hr : r < 7) : J (135 + r) = Z r := by obtain ⟨v, w, h, hv⟩ := h; exact h.2.1 r hr
theorem QS.take {R : XI → Prop} (h : QS T N J0 Z J p wr lf lp n) (hS : xSh S) (hN : N ≤ 500) (hT : byt T) (hB : tpe T N J0) (hp : p ≤ N) (k : ∀ K, QS T N J0 Z K (tE T N p) wr lf lp n → R K) : R_token G S J R := by
  obtain ⟨v, w, h, hv⟩ := h
  exact s_tok hS hN hT hB (tE_top hp) h k
theorem QS.later {x : Int} {R : XI → Prop} (h : QS T N J0 Z J p wr lf lp n) (hS : xSh S) (hf : fok lf) (k : ∀ K, QS T N J0 Z K p wr (ntF true x lf) (ntP true (tS T N p) lf lp) n → R K) : R_later G S J x R := by
  refine b_R_later hS ?_
  obtain ⟨v, w, h, hv⟩ := h
  unfold fok at hf
  rw [h.f66, w32_id (z := lf) (by omega) (by omega)]
  unfold ntF ntP at k
  refine ⟨fun e I1 e1 I2 e2 => k I2 ?_, fun e => k J ?_⟩
  · rw [if_pos ⟨rfl, e⟩, if_pos ⟨rfl, e⟩]
    have h1 := h.w66 x
    rw [← e1] at h1
    rw [e2, h1.f61]
    exact ⟨v, w, h1.w67 _, hv⟩
  · rw [if_neg (fun q => e q.2), if_neg (fun q => e q.2)]
    exact ⟨v, w, h, hv⟩
theorem QS.wrong {R : Int → XI → Prop} (h : QS T N J0 Z J p wr lf lp n) (hS : xSh S) (k : ∀ K, QS T N J0 Z K p (tS T N p) lf lp n → R 0 K) : R_wrong G S J (fun r K => (r = 0 ∨ r = 1) ∧ R r K) := by
  refine b_R_wrong hS (fun I1 e1 => ⟨Or.inl rfl, k I1 ?_⟩)
  obtain ⟨v, w, h, hv⟩ := h
  rw [e1, h.f61]
  exact ⟨v, w, h.w65 _, hv⟩
theorem kR_c : ∀ k, k < 5 → (w32 (kR k) = 4 ↔ k = 3) ∧ (w32 (kR k) = 3 ↔ k = 2) ∧ (w32 (kR k) = 0 ↔ k = 0) := by decide
theorem QS.sort (h : QS T N J0 Z J p wr lf lp n) : J r_obj 62 = kR (tK T N p) := by obtain ⟨v, w, h, hv⟩ := h; exact h.f62
theorem QS.val (h : QS T N J0 Z J p wr lf lp n) (e : tK T N p = 2 ∨ tK T N p = 3) : J r_obj 63 = tV T N p := by obtain ⟨v, w, h, hv⟩ := h; rw [h.f63]; exact hv.1 e
theorem QS.num (h : QS T N J0 Z J p wr lf lp n) : J r_obj 68 = n := by obtain ⟨v, w, h, hv⟩ := h; exact h.f68
theorem QS.need {x : Int} {R : Int → XI → Prop} (h : QS T N J0 Z J p wr lf lp n) (hS : xSh S) (hN : N ≤ 500) (hT : byt T) (hB : tpe T N J0) (hp : p ≤ N) (hx : 0 ≤ x ∧ x ≤ 255) (k1 : ∀ K, tK T N p = 3 ∧ tV T N p = x → QS T N J0 Z K (tE T N p) wr lf lp n → R 1 K) (k0 : ∀ K, ¬ (tK T N p = 3 ∧ tV T N p = x) → QS T N J0 Z K p (tS T N p) lf lp n → R 0 K) : R_need G S J x R := by
  refine b_R_need hS ?_
  have kl := tK_le (T := T) (N := N) (p := p)
  have kc := kR_c (tK T N p) (by omega)
  rw [h.sort, show w32 4 = 4 from rfl, kc.1]
  refine ⟨fun e => ?_, fun e => h.wrong hS (fun K hK => k0 K (fun q => e q.1) hK)⟩
  have sg := tV_sign e
  rw [h.val (Or.inr e), w32_id (z := tV T N p) (by omega) (by omega), w32_id (z := x) (by omega) (by omega)]
  exact ⟨fun y => h.take hS hN hT hB hp (fun K hK => k1 K ⟨e, y⟩ hK), fun y => h.wrong hS (fun K hK => k0 K (fun q => y q.2) hK)⟩
theorem cod_ok : pkw (xsC 0) (xsL.getD 0 0) = 26982 ∧ pkw (xsC 1) (xsL.getD 1 0) = 7237492 ∧ pkw (xsC 12) (xsL.getD 12 0) = 6385252 ∧ pkw (xsC 13) (xsL.getD 13 0) = 6447474 ∧ pkw (xsC 14) (xsL.getD 14 0) = 512802253683 ∧ pkw (xsC 15) (xsL.getD 15 0) = 1668248436 := by decide +kernel
theorem cod_f : pkw (xsC 5) (xsL.getD 5 0) = 1751477348 ∧ pkw (xsC 6) (xsL.getD 6 0) = 1818326117 ∧ pkw (xsC 7) (xsL.getD 7 0) = 1802071652 ∧ pkw (xsC 8) (xsL.getD 8 0) = 465558725996 ∧ pkw (xsC 9) (xsL.getD 9 0) = 1818584692 ∧ pkw (xsC 10) (xsL.getD 10 0) = 1953460846 ∧ pkw (xsC 11) (xsL.getD 11 0) = 2003133803 ∧ pkw (xsC 2) (xsL.getD 2 0) = 128021942465893 ∧ pkw (xsC 3) (xsL.getD 3 0) = 6582905 ∧ pkw (xsC 4) (xsL.getD 4 0) = 2003135596 := by decide +kernel
theorem cod_inj : ((List.range 16).all fun a => (List.range 16).all fun b => decide (pkw (xsC a) (xsL.getD a 0) = pkw (xsC b) (xsL.getD b 0) → a = b)) = true := by decide +kernel
theorem isW_inj {a b : Nat} (ha : a < 16) (hb : b < 16) (h1 : isW T N p a = true) (h2 : isW T N p b = true) : a = b := by
  obtain ⟨_, x1, x2⟩ := of_decide_eq_true h1
  obtain ⟨_, y1, y2⟩ := of_decide_eq_true h2
  refine of_decide_eq_true (allR (allR cod_inj ha) hb) ?_
  have e1 : pkw (fun i => T (tS T N p + i)) (xsL.getD a 0) = pkw (xsC a) (xsL.getD a 0) := pkw_cong _ x2
  have e2 : pkw (fun i => T (tS T N p + i)) (xsL.getD b 0) = pkw (xsC b) (xsL.getD b 0) := pkw_cong _ y2
  rw [← e1, ← e2, ← x1, ← y1]
theorem sbj_of {f : Nat} (hf : f < 10) (h : isW T N p (2 + f) = true) : sbj T N p = (f : Int) := by
  rcases sbj_c (T := T) (N := N) (p := p) with ⟨g, h1, h2, h3⟩ | ⟨h1, _⟩
  · have := isW_inj (by omega) (by omega) h h2
    rw [h3]; omega
  · rw [h1 f hf] at h; cases h
def whR (z : Int) : Int := if z = -1 then -1 else subR z
theorem QS.fact {R : Int → XI → Prop} (h : QS T N J0 Z J p wr lf lp n) (hS : xSh S) (hN : N ≤ 500) (hp : p ≤ N) (k : R (whR (sbj T N p)) J) : R_whatIs G S J R := by
  obtain ⟨d1, d2, d3, d4, d5, d6, d7, d8, d9, d10⟩ := cod_f
  have fin : ∀ f : Nat, f < 10 → ∀ r : Int, r = subR (f : Int) → isW T N p (2 + f) = true → R r J := fun f hf r er c => by
    rw [sbj_of hf c] at k
    unfold whR at k
    rw [if_neg (by omega)] at k
    rw [er]; exact k
  refine b_R_whatIs hS ?_
  refine s_RisW hS hN hp (x := 5) (by decide) d1.symm h (fun c => br1 (fin 3 (by decide) 0 (by decide) c)) (fun c1 => br0 ?_)
  refine s_RisW hS hN hp (x := 6) (by decide) d2.symm h (fun c => br1 (fin 4 (by decide) 1 (by decide) c)) (fun c2 => br0 ?_)
  refine s_RisW hS hN hp (x := 7) (by decide) d3.symm h (fun c => br1 (fin 5 (by decide) 2 (by decide) c)) (fun c3 => br0 ?_)
  refine s_RisW hS hN hp (x := 8) (by decide) d4.symm h (fun c => br1 (fin 6 (by decide) 3 (by decide) c)) (fun c4 => br0 ?_)
  refine s_RisW hS hN hp (x := 9) (by decide) d5.symm h (fun c => br1 (fin 7 (by decide) 4 (by decide) c)) (fun c5 => br0 ?_)
  refine s_RisW hS hN hp (x := 10) (by decide) d6.symm h (fun c => br1 (fin 8 (by decide) 5 (by decide) c)) (fun c6 => br0 ?_)
  refine s_RisW hS hN hp (x := 11) (by decide) d7.symm h (fun c => br1 (fin 9 (by decide) 6 (by decide) c)) (fun c7 => br0 ?_)
  refine s_RisW hS hN hp (x := 2) (by decide) d8.symm h (fun c => br1 (fin 0 (by decide) 7 (by decide) c)) (fun c8 => br0 ?_)
  refine s_RisW hS hN hp (x := 3) (by decide) d9.symm h (fun c => br1 (fin 1 (by decide) 8 (by decide) c)) (fun c9 => br0 ?_)
  refine s_RisW hS hN hp (x := 4) (by decide) d10.symm h (fun c => br1 (fin 2 (by decide) 9 (by decide) c)) (fun c10 => br0 ?_)
  have e : sbj T N p = -1 := by
    rcases sbj_c (T := T) (N := N) (p := p) with ⟨g, h1, h2, h3⟩ | ⟨_, h2⟩
    · exfalso
      match g, h1, h2 with
      | 0, _, h2 => rw [c8] at h2; cases h2
      | 1, _, h2 => rw [c9] at h2; cases h2
      | 2, _, h2 => rw [c10] at h2; cases h2
      | 3, _, h2 => rw [c1] at h2; cases h2
      | 4, _, h2 => rw [c2] at h2; cases h2
      | 5, _, h2 => rw [c3] at h2; cases h2
      | 6, _, h2 => rw [c4] at h2; cases h2
      | 7, _, h2 => rw [c5] at h2; cases h2
      | 8, _, h2 => rw [c6] at h2; cases h2
      | 9, _, h2 => rw [c7] at h2; cases h2
    · exact h2
  rw [e] at k
  exact k
/-- what a test leaves in the rows of both -/
def TOut (Y Y' Z' : XI) (l i kx : Nat) (nt : Int) : Prop := ∃ a b c : Int, Y' = keT Y l i nt a b c ∧ (0 ≤ a ∧ a ≤ 9) ∧ (InR b ∧ InR c) ∧ Z' 6 kx = nt ∧ Z' 3 kx = subR a ∧ Z' 4 kx = b ∧ Z' 5 kx = c
theorem s_RteQ {l i kx : Nat} {nt : Int} {R : Int → XI → Prop} (h : QS T N J0 Z J p wr lf lp n) (hS : xSh S) (hN : N ≤ 500) (hT : byt T) (hB : tpe T N J0) (hp : p ≤ N) (hkx : kx < 69) (hz : okZ Z) (h6 : Z 6 kx = nt) (ok : ∀ K p' Y' Z', teQ T N l i nt p Y = (true, p', Y') → QS T N J0 Z' K p' wr lf lp n → FZ Z Z' kx → okZ Z' → TOut Y Y' Z' l i kx nt → R 1 K) (bad : ∀ K p' Y' Z', teQ T N l i nt p Y = (false, p', Y') → QS T N J0 Z' K p' (tS T N p') lf lp n → okZ Z' → R 0 K) : R_oneTest_k52 G S J (kx : Int) R := by
  have sb := sbj_in (T := T) (N := N) (p := p)
  have hp1 := tE_top (T := T) hp
  have hp2 := tE_top (T := T) hp1
  have kl := tK_le (T := T) (N := N) (p := tE T N p)
  have kl2 := tK_le (T := T) (N := N) (p := tE T N (tE T N p))
  have kc := kR_c (tK T N (tE T N p)) (by omega)
  have kc2 := kR_c (tK T N (tE T N (tE T N p))) (by omega)
  have ib : inb (kx : Int) 69 := inb_b (by omega) (by omega) (by decide)
  have wi : InR (whR (sbj T N p)) ∧ (sbj T N p = -1 ↔ whR (sbj T N p) = -1) ∧ (¬ sbj T N p = -1 → (7 ≤ whR (sbj T N p) ↔ sbj T N p < 3)) := by
    unfold whR subR InR
    split
    · omega
    · split <;> omega
  refine b_R_oneTest_k52 hS (h.fact hS hN hp ?_)
  rw [ix_nat (k := kx) (by omega)]
  refine ⟨ib, fun I9 e9 => ⟨ib, fun I10 e10 => ⟨ib, fun I11 e11 => ⟨ib, ?_⟩⟩⟩⟩
  have h11 := ((h.row (r := 3) kx (whR (sbj T N p)) (by decide)).row (r := 4) kx 61 (by decide)).row (r := 5) kx 1 (by decide)
  have E11 : I11 = up (up (up J (135 + 3) kx (whR (sbj T N p))) (135 + 4) kx 61) (135 + 5) kx 1 := by rw [e11, e10, e9]
  rw [← E11] at h11
  have hz1 : okZ (up (up (up Z 3 kx (whR (sbj T N p))) 4 kx 61) 5 kx 1) := ((hz.wr (by decide) wi.1).wr (by decide) ⟨by decide, by decide⟩).wr (by decide) ⟨by decide, by decide⟩
  have fz1 : FZ Z (up (up (up Z 3 kx (whR (sbj T N p))) 4 kx 61) 5 kx 1) kx := (((FZ.rf Z kx).wr _ (by decide)).wr _ (by decide)).wr _ (by decide)
  have g3 : up (up (up Z 3 kx (whR (sbj T N p))) 4 kx 61) 5 kx 1 3 kx = whR (sbj T N p) := by rw [up_1 _ (by decide), up_1 _ (by decide), up_s]
  have g4 : up (up (up Z 3 kx (whR (sbj T N p))) 4 kx 61) 5 kx 1 4 kx = 61 := by rw [up_1 _ (by decide), up_s]
  have g5 : up (up (up Z 3 kx (whR (sbj T N p))) 4 kx 61) 5 kx 1 5 kx = 1 := up_s _ _ _ _
  have g6 : up (up (up Z 3 kx (whR (sbj T N p))) 4 kx 61) 5 kx 1 6 kx = nt := by rw [up_1 _ (by decide), up_1 _ (by decide), up_1 _ (by decide)]; exact h6
  generalize up (up (up Z 3 kx (whR (sbj T N p))) 4 kx 61) 5 kx 1 = Z1 at h11 hz1 fz1 g3 g4 g5 g6
  have r3 : I11 r_newWhat kx = whR (sbj T N p) := (congrFun (h11.rw' (r := 3) (by decide)) kx).trans g3
  rw [r3, w32_id (z := whR (sbj T N p)) wi.1.1 wi.1.2, show w32 (-1) = -1 from rfl]
  refine ⟨fun e => h11.wrong hS (fun K hK => bad K p Y Z1 (by unfold teQ; rw [if_pos (wi.2.1.mpr e)]) hK hz1), fun e => h11.take hS hN hT hB hp (fun I14 h14 => ⟨ib, ?_⟩)⟩
  have e : ¬ sbj T N p = -1 := fun x => e (wi.2.1.mp x)
  have hsr : whR (sbj T N p) = subR (sbj T N p) := by unfold whR; rw [if_neg e]
  have r14 : I14 r_newWhat kx = whR (sbj T N p) := (congrFun (h14.rw' (r := 3) (by decide)) kx).trans g3
  rw [r14, w32_id (z := whR (sbj T N p)) wi.1.1 wi.1.2, show w32 7 = 7 from rfl, wi.2.2 e, h14.sort, show w32 4 = 4 from rfl, kc.1]
  refine ⟨fun e2 => ok I14 _ _ Z1 (by unfold teQ; rw [if_neg e, if_pos e2]) h14 fz1 hz1 ⟨_, _, _, rfl, by omega, ⟨⟨by decide, by decide⟩, ⟨by decide, by decide⟩⟩, g6, by rw [g3, hsr], g4, g5⟩, fun e2 => ⟨fun e3 => ?_, fun e3 => h14.wrong hS (fun K hK => bad K _ Y Z1 (by unfold teQ; rw [if_neg e, if_neg e2, if_pos (fun x => e3 x.1)]) hK hz1)⟩⟩
  have sg := tV_sign e3
  rw [h14.val (Or.inr e3), w32_id (z := tV T N (tE T N p)) (by omega) (by omega), show w32 60 = 60 from rfl, show w32 62 = 62 from rfl, show w32 61 = 61 from rfl]
  have k147 : (tV T N (tE T N p) = 60 ∨ tV T N (tE T N p) = 62 ∨ tV T N (tE T N p) = 61) → R_oneTest_k147 G S I14 (kx : Int) R := fun c => by
    refine b_R_oneTest_k147 hS ?_
    rw [ix_nat (k := kx) (by omega), h14.val (Or.inr e3)]
    refine ⟨ib, fun I19 e19 => ?_⟩
    have h19 := h14.row (r := 4) kx (tV T N (tE T N p)) (by decide)
    rw [show up I14 (135 + 4) kx (tV T N (tE T N p)) = I19 from e19.symm] at h19
    refine h19.take hS hN hT hB hp1 (fun I20 h20 => ?_)
    rw [h20.sort, show w32 3 = 3 from rfl, kc2.2.1]
    have hz2 : okZ (up Z1 4 kx (tV T N (tE T N p))) := hz1.wr (by decide) ⟨by omega, by omega⟩
    refine ⟨fun e4 => ⟨ib, fun I21 e21 => ?_⟩, fun e4 => h20.wrong hS (fun K hK => bad K _ Y _ (by unfold teQ; rw [if_neg e, if_neg e2, if_neg (fun x => x ⟨e3, c⟩), if_pos e4]) hK hz2)⟩
    have vn := tV_num hN e4
    have h21 := h20.row (r := 5) kx (tV T N (tE T N (tE T N p))) (by decide)
    rw [h20.val (Or.inl e4)] at e21
    rw [show up I20 (135 + 5) kx (tV T N (tE T N (tE T N p))) = I21 from e21.symm] at h21
    refine h21.take hS hN hT hB hp2 (fun I22 h22 => ok I22 _ _ _ (by unfold teQ; rw [if_neg e, if_neg e2, if_neg (fun x => x ⟨e3, c⟩), if_neg (fun x => x e4)]) h22 ((fz1.wr _ (by decide)).wr _ (by decide)) (hz2.wr (by decide) ⟨by omega, by omega⟩) ⟨_, _, _, rfl, by omega, ⟨⟨by omega, by omega⟩, ⟨by omega, by omega⟩⟩, ?_, ?_, ?_, ?_⟩)
    · rw [up_1 _ (by decide), up_1 _ (by decide)]; exact g6
    · rw [up_1 _ (by decide), up_1 _ (by decide), g3, hsr]
    · rw [up_1 _ (by decide), up_s]
    · rw [up_s]
  refine ⟨fun y => k147 (by omega), fun y1 => ⟨fun y => k147 (by omega), fun y2 => ⟨fun y => k147 (by omega), fun y3 => h14.wrong hS (fun K hK => bad K _ Y Z1 (by unfold teQ; rw [if_neg e, if_neg e2, if_pos (fun x => by omega)]) hK hz1)⟩⟩⟩
theorem s_RteP {l i kx : Nat} {R : Int → XI → Prop} (h : QS T N J0 Z J p wr lf lp n) (hS : xSh S) (hN : N ≤ 500) (hT : byt T) (hB : tpe T N J0) (hp : p ≤ N) (hkx : kx < 69) (hz : okZ Z) (ok : ∀ K p' Y' Z' nt, teP T N l i p Y = (true, p', Y') → QS T N J0 Z' K p' wr lf lp n → FZ Z Z' kx → okZ Z' → (nt = 0 ∨ nt = 1) → TOut Y Y' Z' l i kx nt → R 1 K) (bad : ∀ K p' Y' Z', teP T N l i p Y = (false, p', Y') → QS T N J0 Z' K p' (tS T N p') lf lp n → okZ Z' → R 0 K) : R_oneTest_k26 G S J (kx : Int) R := by
  have ib : inb (kx : Int) 69 := inb_b (by omega) (by omega) (by decide)
  refine b_R_oneTest_k26 hS ?_
  rw [ix_nat (k := kx) (by omega)]
  refine s_RisW hS hN hp (x := 1) (by decide) cod_ok.2.1.symm h (fun c => ⟨Or.inr rfl, ib, fun I5 e5 => ⟨ib, ?_⟩⟩) (fun c => ⟨Or.inl rfl, ib, fun I5 e5 => ⟨ib, ?_⟩⟩)
  · have h5 := h.row (r := 6) kx 1 (by decide)
    rw [show up J (135 + 6) kx 1 = I5 from e5.symm] at h5
    have r6 : I5 r_newNot kx = 1 := (congrFun (h5.rw' (r := 6) (by decide)) kx).trans (up_s _ _ _ _)
    rw [r6]
    refine br1 (h5.take hS hN hT hB hp (fun I6 h6 => s_RteQ h6 hS hN hT hB (tE_top hp) hkx (hz.wr6 (Or.inr rfl)) (up_s _ _ _ _) (fun K p' Y' Z' e hK f z t => ok K p' Y' Z' 1 ?_ hK (fun r j hr => (f r j hr).trans (((FZ.rf Z kx).wr (r := 6) 1 (by decide)) r j hr)) z (Or.inr rfl) t) (fun K p' Y' Z' e hK z => bad K p' Y' Z' ?_ hK z)))
    · unfold teP; rw [if_pos c]; exact e
    · unfold teP; rw [if_pos c]; exact e
  · have h5 := h.row (r := 6) kx 0 (by decide)
    rw [show up J (135 + 6) kx 0 = I5 from e5.symm] at h5
    have r6 : I5 r_newNot kx = 0 := (congrFun (h5.rw' (r := 6) (by decide)) kx).trans (up_s _ _ _ _)
    rw [r6]
    refine br0 (s_RteQ h5 hS hN hT hB hp hkx (hz.wr6 (Or.inl rfl)) (up_s _ _ _ _) (fun K p' Y' Z' e hK f z t => ok K p' Y' Z' 0 ?_ hK (fun r j hr => (f r j hr).trans (((FZ.rf Z kx).wr (r := 6) 0 (by decide)) r j hr)) z (Or.inl rfl) t) (fun K p' Y' Z' e hK z => bad K p' Y' Z' ?_ hK z))
    · unfold teP; rw [if_neg (by rw [c]; decide)]; exact e
    · unfold teP; rw [if_neg (by rw [c]; decide)]; exact e
end TS
