/-! ===== RULES: the class reads tests, LINES, the text ===== -/
section TM
variable {G : XG} {S : XS} {T : Nat → Int} {N : Nat} {I0 Y I : XI} {p : Nat} {f pl : Int}
theorem PS.tok (h : PS T N I0 Y I p f pl) : I c_parser 6 = (tK T N p : Int) := by obtain ⟨v, h, hv⟩ := h; exact h.1.2.2.2.2.2.1
theorem PS.val (h : PS T N I0 Y I p f pl) (e : tK T N p = 2 ∨ tK T N p = 3) : I c_parser 8 = tV T N p := by obtain ⟨v, h, hv⟩ := h; rw [h.1.2.2.2.2.2.2]; exact hv e
theorem PS.flt (h : PS T N I0 Y I p f pl) : I c_parser 1 = f ∧ I c_parser 2 = pl := by obtain ⟨v, h, hv⟩ := h; exact ⟨h.1.2.2.1, h.1.2.2.2.1⟩
theorem s_teQ {l i : Nat} {nt : Int} {R : Int → XI → Prop} (h : PS T N I0 Y I p f pl) (hS : xSh S) (hN : N ≤ 500) (hT : byt T) (hp : p ≤ N) (hl : l ≤ 500) (hi : i ≤ 500) (ok : ∀ J p' Y', teQ T N l i nt p Y = (true, p', Y') → PS T N I0 Y' J p' f pl → R 1 J) (bad : ∀ J p' Y', teQ T N l i nt p Y = (false, p', Y') → PS T N I0 Y' J p' 1 (tS T N p') → R 0 J) : Pa_parseTest_k17 G S I (l : Int) (i : Int) nt R := by
  have sb := sbj_in (T := T) (N := N) (p := p)
  have hp1 := tE_top (T := T) hp
  have hp2 := tE_top (T := T) hp1
  refine b_Pa_parseTest_k17 hS (h.fact hS hN hT hp ?_)
  rw [w32_id (z := sbj T N p) (by omega) (by omega), show w32 (-1) = -1 from rfl, show w32 3 = 3 from rfl]
  refine ⟨fun e => h.brk hS (fun J hJ => bad J p Y (by unfold teQ; rw [if_pos e]) hJ), fun e => h.take hS hN hT hp (fun J2 h2 => ⟨fun e2 => ?_, fun e2 => ?_⟩)⟩
  · exact b_Pa_parseTest_k116 hS (h2.putT hS hl hi (fun J hJ => ok J _ _ (by unfold teQ; rw [if_neg e, if_pos e2]) hJ))
  · have k83 : (tK T N (tE T N p) = 3 ∧ (tV T N (tE T N p) = 60 ∨ tV T N (tE T N p) = 62 ∨ tV T N (tE T N p) = 61)) → Pa_parseTest_k83 G S J2 (l : Int) (i : Int) nt (sbj T N p) R := fun c => by
      refine b_Pa_parseTest_k83 hS (h2.take hS hN hT hp1 (fun J3 h3 => ?_))
      have kl := tK_le (T := T) (N := N) (p := tE T N (tE T N p))
      rw [h3.tok, w32_nat (k := tK T N (tE T N (tE T N p))) (by omega), show w32 2 = 2 from rfl, h2.val (Or.inr c.1)]
      refine ⟨fun e3 => ?_, fun e3 => ?_⟩
      · have e3 : tK T N (tE T N (tE T N p)) = 2 := by omega
        rw [h3.val (Or.inl e3)]
        exact h3.take hS hN hT hp2 (fun J4 h4 => b_Pa_parseTest_k116 hS (h4.putT hS hl hi (fun J hJ => ok J _ _ (by unfold teQ; rw [if_neg e, if_neg e2, if_neg (fun x => x c), if_neg (fun x => x e3)]) hJ)))
      · have e3 : ¬ tK T N (tE T N (tE T N p)) = 2 := by omega
        exact h3.brk hS (fun J hJ => bad J _ _ (by unfold teQ; rw [if_neg e, if_neg e2, if_neg (fun x => x c), if_pos e3]) hJ)
    refine h2.sign hS (by decide) (fun c => br1 (k83 ⟨c.1, by omega⟩)) (fun c1 => br0 ?_)
    refine h2.sign hS (by decide) (fun c => br1 (k83 ⟨c.1, by omega⟩)) (fun c2 => br0 ?_)
    refine h2.sign hS (by decide) (fun c => br1 (k83 ⟨c.1, by omega⟩)) (fun c3 => br0 ?_)
    exact h2.brk hS (fun J hJ => bad J _ _ (by unfold teQ; rw [if_neg e, if_neg e2, if_pos (fun x => by omega)]) hJ)
theorem s_teP {l i : Nat} {R : Int → XI → Prop} (h : PS T N I0 Y I p f pl) (hS : xSh S) (hN : N ≤ 500) (hT : byt T) (hp : p ≤ N) (hl : l ≤ 500) (hi : i ≤ 500) (ok : ∀ J p' Y', teP T N l i p Y = (true, p', Y') → PS T N I0 Y' J p' f pl → R 1 J) (bad : ∀ J p' Y', teP T N l i p Y = (false, p', Y') → PS T N I0 Y' J p' 1 (tS T N p') → R 0 J) : Pa_parseTest G S I (l : Int) (i : Int) R := by
  refine b_Pa_parseTest hS (s_isW hS hN hT hp (by decide) h (fun c => br1 ?_) (fun c => br0 ?_))
  · refine h.take hS hN hT hp (fun J1 h1 => s_teQ h1 hS hN hT (tE_top hp) hl hi (fun J p' Y' e hJ => ok J p' Y' ?_ hJ) (fun J p' Y' e hJ => bad J p' Y' ?_ hJ))
    · unfold teP; rw [if_pos c]; exact e
    · unfold teP; rw [if_pos c]; exact e
  · refine s_teQ h hS hN hT hp hl hi (fun J p' Y' e hJ => ok J p' Y' ?_ hJ) (fun J p' Y' e hJ => bad J p' Y' ?_ hJ)
    · unfold teP; rw [if_neg (by rw [c]; decide)]; exact e
    · unfold teP; rw [if_neg (by rw [c]; decide)]; exact e
theorem tsP_eq {l fu i p : Nat} {lf lp : Int} {Y : XI} : tsP T N l (fu + 1) i p lf lp Y = if (teP T N l i (tE T N p) Y).1 = false then (false, i, (teP T N l i (tE T N p) Y).2.1, 1, ((tS T N (teP T N l i (tE T N p) Y).2.1 : Nat) : Int), (teP T N l i (tE T N p) Y).2.2)
    else if isW T N (teP T N l i (tE T N p) Y).2.1 12 = true then tsP T N l fu (i + 1) (teP T N l i (tE T N p) Y).2.1 (ntF (i == 4) 3 lf) (ntP (i == 4) (tS T N (tE T N p)) lf lp) (teP T N l i (tE T N p) Y).2.2
    else (true, i + 1, (teP T N l i (tE T N p) Y).2.1, ntF (i == 4) 3 lf, ntP (i == 4) (tS T N (tE T N p)) lf lp, (teP T N l i (tE T N p) Y).2.2) := rfl
theorem ntF_f {x lf : Int} : ntF false x lf = lf := by unfold ntF; rw [if_neg (fun q => absurd q.1 (by decide))]
theorem ntP_f {x lf lp : Int} : ntP false x lf lp = lp := by unfold ntP; rw [if_neg (fun q => absurd q.1 (by decide))]
theorem s_tsP {l : Nat} {R : Int → XI → Prop} (hS : xSh S) (hN : N ≤ 500) (hT : byt T) (hl : l ≤ 500) : ∀ (fu i p : Nat) (I : XI) (lf lp : Int) (Y : XI), tK T N p = 1 → i ≤ p → p ≤ N → N ≤ p + fu → fok lf → PS T N I0 Y I p lf lp → (∀ J n p' lf' lp' Y', tsP T N l fu i p lf lp Y = (true, n, p', lf', lp', Y') → n ≤ 500 → p' ≤ N → fok lf' → PS T N I0 Y' J p' lf' lp' → R (n : Int) J) → (∀ J n p' lf' lp' Y', tsP T N l fu i p lf lp Y = (false, n, p', lf', lp', Y') → PS T N I0 Y' J p' lf' lp' → R (-1) J) → Pa_parseTests_k2 G S I (l : Int) (i : Int) R := by
  intro fu
  induction fu with
  | zero =>
    intro i p I lf lp Y hk hi hp hf _ h ok bad
    have := (tK_1 hk).1
    have := tS_ge (T := T) (N := N) (p := p)
    omega
  | succ fu ih =>
    intro i p I lf lp Y hk hi hp hf hfl h ok bad
    have hp1 := tE_top (T := T) hp
    have hp2 := tE_lt (T := T) hN (p := p) (by omega)
    have tp := teP_p (T := T) (l := l) (i := i) (Y := Y) hN hp1
    have fl1 : fok (ntF (i == 4) 3 lf) := ntF_ok hfl (Or.inr rfl)
    have k16 : ∀ J2, PS T N I0 Y J2 (tE T N p) (ntF (i == 4) 3 lf) (ntP (i == 4) (tS T N (tE T N p)) lf lp) → Pa_parseTests_k16 G S J2 (l : Int) (i : Int) R := fun J2 h2 => by
      refine b_Pa_parseTests_k16 hS (s_teP h2 hS hN hT hp1 hl (by omega) (fun J p' Y' e hJ => br1 ?_) (fun J p' Y' e hJ => br0 (bad J i p' 1 (tS T N p') Y' (by rw [tsP_eq, e, if_pos rfl]) hJ)))
      rw [e] at tp
      have tp : p' ≤ N ∧ tE T N p ≤ p' := tp
      have c1 : (i : Int) + 1 = ((i + 1 : Nat) : Int) := by omega
      rw [c1, w32_nat (k := i + 1) (by omega), show w32 500 = 500 from rfl]
      refine ⟨fun x => absurd x (by omega), fun _ => s_isW hS hN hT tp.1 (by decide) hJ (fun c => br1 ?_) (fun c => br0 ?_)⟩
      · refine ih (i + 1) p' J _ _ Y' (isW_1 c) (by omega) tp.1 (by omega) fl1 hJ (fun K n p2 a b Y2 e2 => ok K n p2 a b Y2 ?_) (fun K n p2 a b Y2 e2 => bad K n p2 a b Y2 ?_)
        · rw [tsP_eq, e, if_neg (fun x => by cases x), if_pos c]; exact e2
        · rw [tsP_eq, e, if_neg (fun x => by cases x), if_pos c]; exact e2
      · exact ok J (i + 1) p' _ _ Y' (by rw [tsP_eq, e, if_neg (fun x => by cases x), if_neg (by rw [c]; decide)]) (by omega) tp.1 fl1 hJ
    refine b_Pa_parseTests_k2 hS (h.take hS hN hT hp (fun J1 h1 => ?_))
    rw [w32_nat (k := i) (by omega), show w32 4 = 4 from rfl]
    refine ⟨fun e4 => h1.note hS hfl (fun J2 h2 => k16 J2 ?_), fun e4 => k16 J1 ?_⟩
    · have e4 : i = 4 := by omega
      rw [e4]; exact h2
    · have e4 : (i == 4) = false := beq_eq_false_iff_ne.mpr (by omega)
      rw [e4, ntF_f, ntP_f]; exact h1
theorem s_deP {l : Nat} {R : Int → XI → Prop} (h : PS T N I0 Y I p f pl) (hS : xSh S) (hN : N ≤ 500) (hT : byt T) (hp : p ≤ N) (hl : l ≤ 500) (hf : fok f) (ok : ∀ J p' lf' lp' Y', deP T N l p f pl Y = enP T N p' lf' lp' Y' → p' ≤ N → fok lf' → PS T N I0 Y' J p' lf' lp' → R 1 J) (bad : ∀ J p' Y', deP T N l p f pl Y = (false, p', 1, ((tS T N p' : Nat) : Int), Y') → PS T N I0 Y' J p' 1 (tS T N p') → R 0 J) : Pa_parseDeed G S I (l : Int) R := by
  have hp1 := tE_top (T := T) hp
  have hp2 := tE_top (T := T) hp1
  have kl := tK_le (T := T) (N := N) (p := tE T N p)
  refine b_Pa_parseDeed hS (s_isW hS hN hT hp (by decide) h (fun c => br1 ?_) (fun c13 => br0 ?_))
  · exact h.putL hS hl (fun J1 h1 => h1.take hS hN hT hp (fun J hJ => ok J _ _ _ _ (by unfold deP; rw [if_pos c]) hp1 hf hJ))
  have n13 : ¬ isW T N p 13 = true := by rw [c13]; decide
  refine s_isW hS hN hT hp (by decide) h (fun c14 => br1 ?_) (fun c14 => br0 ?_)
  · refine b_Pa_parseDeed_k50 hS (h.take hS hN hT hp (fun J1 h1 => ?_))
    rw [h1.tok, w32_nat (k := tK T N (tE T N p)) (by omega), show w32 2 = 2 from rfl]
    refine ⟨fun e => br1 ?_, fun e => h1.brk hS (fun J hJ => bad J _ _ (by unfold deP; rw [if_neg n13, if_pos c14, if_neg (by omega)]) hJ)⟩
    have e : tK T N (tE T N p) = 2 := by omega
    have vn := tV_num hN e
    have k93 : ∀ J2, PS T N I0 Y J2 (tE T N p) (ntF (bdW (tV T N (tE T N p))) 2 f) (ntP (bdW (tV T N (tE T N p))) (tS T N (tE T N p)) f pl) → Pa_parseDeed_k93 G S J2 (l : Int) 1 R := fun J2 h2 => by
      refine b_Pa_parseDeed_k93 hS (br1 ?_)
      rw [h2.val (Or.inl e)]
      exact h2.putL hS hl (fun J3 h3 => h3.take hS hN hT hp1 (fun J hJ => ok J _ _ _ _ (by unfold deP; rw [if_neg n13, if_pos c14, if_pos e]) hp2 (ntF_ok hf (Or.inl rfl)) hJ))
    rw [h1.val (Or.inl e), w32_id (z := tV T N (tE T N p)) (by omega) (by omega), show w32 1 = 1 from rfl, show w32 99 = 99 from rfl]
    have bt : ¬ (1 ≤ tV T N (tE T N p) ∧ tV T N (tE T N p) ≤ 99) → bdW (tV T N (tE T N p)) = true := fun x => decide_eq_true x
    have bf : 1 ≤ tV T N (tE T N p) ∧ tV T N (tE T N p) ≤ 99 → bdW (tV T N (tE T N p)) = false := fun x => decide_eq_false (fun y => y x)
    refine ⟨fun x => h1.note hS hf (fun J2 h2 => k93 J2 ?_), fun x => ⟨fun y => k93 J1 ?_, fun y => h1.note hS hf (fun J2 h2 => k93 J2 ?_)⟩⟩
    · rw [bt (by omega)]; exact h2
    · rw [bf (by omega), ntF_f, ntP_f]; exact h1
    · rw [bt (by omega)]; exact h2
  have n14 : ¬ isW T N p 14 = true := by rw [c14]; decide
  refine s_isW hS hN hT hp (by decide) h (fun c15 => br1 ?_) (fun c15 => br0 ?_)
  · refine b_Pa_parseDeed_k50 hS (h.take hS hN hT hp (fun J1 h1 => ?_))
    rw [h1.tok, w32_nat (k := tK T N (tE T N p)) (by omega), show w32 2 = 2 from rfl]
    refine ⟨fun e => br0 ?_, fun e => h1.brk hS (fun J hJ => bad J _ _ (by unfold deP; rw [if_neg n13, if_neg n14, if_pos c15, if_neg (by omega)]) hJ)⟩
    have e : tK T N (tE T N p) = 2 := by omega
    refine b_Pa_parseDeed_k93 hS (br0 ?_)
    rw [h1.val (Or.inl e)]
    exact h1.putL hS hl (fun J3 h3 => h3.take hS hN hT hp1 (fun J hJ => ok J _ _ _ _ (by unfold deP; rw [if_neg n13, if_neg n14, if_pos c15, if_pos e]) hp2 hf hJ))
  · have n15 : ¬ isW T N p 15 = true := by rw [c15]; decide
    exact h.brk hS (fun J hJ => bad J _ _ (by unfold deP; rw [if_neg n13, if_neg n14, if_neg n15]) hJ)
theorem s_k43 {l n : Nat} {R : XI → Prop} (h : PS T N I0 Y I p f pl) (hS : xSh S) (hN : N ≤ 500) (hT : byt T) (hp : p ≤ N) (hl : l ≤ 500) (hn : n ≤ 501) (hf : fok f) (k : ∀ J b p' lf' lp' Y', deP T N l p f pl (keN Y l (mi4 n)) = (b, p', lf', lp', Y') → PS T N I0 Y' J p' lf' lp' → R J) : Pa_parseLine_k43 G S I (l : Int) (n : Int) R := by
  refine b_Pa_parseLine_k43 hS (h.putN hS hl hn (fun J1 h1 => s_deP h1 hS hN hT hp hl hf (fun J2 p' lf' lp' Y' e hp' hf' h2 => br1 ?_) (fun J2 p' Y' e h2 => br0 (k J2 _ _ _ _ _ e h2))))
  refine h2.tsign hS hN hT hp' (by decide) (fun J c hJ => k J true _ _ _ _ (e.trans ?_) hJ) (fun J c hJ => k J false _ _ _ _ (e.trans ?_) hJ)
  · unfold enP; rw [if_pos c]
  · unfold enP; rw [if_neg c]
theorem s_liP {l : Nat} {R : XI → Prop} (h : PS T N I0 Y I p f pl) (hS : xSh S) (hN : N ≤ 500) (hT : byt T) (hp : p ≤ N) (hl : l ≤ 500) (hf : fok f) (k : ∀ J b p' lf' lp' Y', liP T N l p f pl Y = (b, p', lf', lp', Y') → PS T N I0 Y' J p' lf' lp' → R J) : Pa_parseLine G S I (l : Int) R := by
  have fl1 : fok (ntF (l == 16) 3 f) := ntF_ok hf (Or.inr rfl)
  have k11 : ∀ J1, PS T N I0 Y J1 p (ntF (l == 16) 3 f) (ntP (l == 16) (tS T N p) f pl) → Pa_parseLine_k11 G S J1 (l : Int) R := fun J1 h1 => by
    refine b_Pa_parseLine_k11 hS (s_isW hS hN hT hp (by decide) h1 (fun c => br1 ?_) (fun c => br0 ?_))
    · refine b_Pa_parseTests hS (s_tsP (I0 := I0) hS hN hT hl 501 0 p J1 _ _ Y (isW_1 c) (by omega) hp (by omega) fl1 h1 (fun J n p' lf' lp' Y' e hn hp' hf' hJ => ?_) (fun J n p' lf' lp' Y' e hJ => ?_))
      · rw [w32_nat (k := n) (by omega), show w32 (-1) = -1 from rfl]
        refine ⟨fun x => absurd x (by omega), fun _ => hJ.tsign hS hN hT hp' (by decide) (fun K cc hK => br1 ?_) (fun K cc hK => br0 (k K false _ _ _ _ ?_ hK))⟩
        · refine s_k43 hK hS hN hT (tE_top hp') hl (by omega) hf' (fun K2 b p2 a2 b2 Y2 e2 h2 => k K2 b _ _ _ _ ?_ h2)
          unfold liP
          rw [if_pos c, e, if_neg (fun x => by cases x), if_pos cc]; exact e2
        · unfold liP
          rw [if_pos c, e, if_neg (fun x => by cases x), if_neg cc]
      · rw [show w32 (-1) = -1 from rfl]
        refine ⟨fun _ => k J false _ _ _ _ ?_ hJ, fun x => absurd rfl x⟩
        unfold liP
        rw [if_pos c, e, if_pos rfl]
    · refine s_k43 (n := 0) h1 hS hN hT hp hl (by omega) fl1 (fun K2 b p2 a2 b2 Y2 e2 h2 => k K2 b _ _ _ _ ?_ h2)
      unfold liP
      rw [if_neg (by rw [c]; decide)]; exact e2
  refine b_Pa_parseLine hS ?_
  rw [w32_nat (k := l) (by omega), show w32 16 = 16 from rfl]
  refine ⟨fun e => h.note hS hf (fun J2 h2 => k11 J2 ?_), fun e => k11 I ?_⟩
  · have e : l = 16 := by omega
    rw [e]; exact h2
  · have e : (l == 16) = false := beq_eq_false_iff_ne.mpr (by omega)
    rw [e, ntF_f, ntP_f]; exact h
end TM
