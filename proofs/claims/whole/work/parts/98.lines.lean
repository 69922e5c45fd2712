/-! ===== RULES: tests and LINES, and how the class reads them ===== -/
def sbjR (T : Nat → Int) (N p : Nat) : Nat → Int
  | 0 => -1
  | n + 1 => if isW T N p (2 + (9 - n)) = true then ((9 - n : Nat) : Int) else sbjR T N p n
/-- the FACT that the word at p names, by the class' numbers -/
def sbj (T : Nat → Int) (N p : Nat) : Int := sbjR T N p 10
def keT (Y : XI) (l i : Nat) (a b c d : Int) : XI := if l < 16 ∧ i < 4 then up (up (up (up Y 3 (l * 4 + i) a) 4 (l * 4 + i) b) 5 (l * 4 + i) c) 6 (l * 4 + i) d else Y
def keL (Y : XI) (l : Nat) (a b : Int) : XI := if l < 16 then up (up Y 0 l a) 1 l b else Y
def keN (Y : XI) (l : Nat) (a : Int) : XI := if l < 16 then up Y 2 l a else Y
def teQ (T : Nat → Int) (N l i : Nat) (nt : Int) (p : Nat) (Y : XI) : Bool × Nat × XI :=
  if sbj T N p = -1 then (false, p, Y)
  else if sbj T N p < 3 then (true, tE T N p, keT Y l i nt (sbj T N p) 61 1)
  else if ¬ (tK T N (tE T N p) = 3 ∧ (tV T N (tE T N p) = 60 ∨ tV T N (tE T N p) = 62 ∨ tV T N (tE T N p) = 61)) then (false, tE T N p, Y)
  else if ¬ tK T N (tE T N (tE T N p)) = 2 then (false, tE T N (tE T N p), Y)
  else (true, tE T N (tE T N (tE T N p)), keT Y l i nt (sbj T N p) (tV T N (tE T N p)) (tV T N (tE T N (tE T N p))))
def teP (T : Nat → Int) (N l i p : Nat) (Y : XI) : Bool × Nat × XI := if isW T N p 1 = true then teQ T N l i 1 (tE T N p) Y else teQ T N l i 0 p Y
def ntF (c : Bool) (x lf : Int) : Int := if c = true ∧ lf = 0 then x else lf
def ntP (c : Bool) (s lf lp : Int) : Int := if c = true ∧ lf = 0 then s else lp
def tsP (T : Nat → Int) (N l : Nat) : Nat → Nat → Nat → Int → Int → XI → Bool × Nat × Nat × Int × Int × XI
  | 0, i, p, lf, lp, Y => (false, i, p, lf, lp, Y)
  | f + 1, i, p, lf, lp, Y => if (teP T N l i (tE T N p) Y).1 = false then (false, i, (teP T N l i (tE T N p) Y).2.1, 1, tS T N (teP T N l i (tE T N p) Y).2.1, (teP T N l i (tE T N p) Y).2.2)
    else if isW T N (teP T N l i (tE T N p) Y).2.1 12 = true then tsP T N l f (i + 1) (teP T N l i (tE T N p) Y).2.1 (ntF (i == 4) 3 lf) (ntP (i == 4) (tS T N (tE T N p)) lf lp) (teP T N l i (tE T N p) Y).2.2
    else (true, i + 1, (teP T N l i (tE T N p) Y).2.1, ntF (i == 4) 3 lf, ntP (i == 4) (tS T N (tE T N p)) lf lp, (teP T N l i (tE T N p) Y).2.2)
def enP (T : Nat → Int) (N p : Nat) (lf lp : Int) (Y : XI) : Bool × Nat × Int × Int × XI := if tK T N p = 3 ∧ tV T N p = 59 then (true, tE T N p, lf, lp, Y) else (false, p, 1, tS T N p, Y)
/-- a number of weeks that is none -/
def bdW (z : Int) : Bool := decide (¬ (1 ≤ z ∧ z ≤ 99))
def deP (T : Nat → Int) (N l p : Nat) (lf lp : Int) (Y : XI) : Bool × Nat × Int × Int × XI :=
  if isW T N p 13 = true then enP T N (tE T N p) lf lp (keL Y l 0 0)
  else if isW T N p 14 = true then (if tK T N (tE T N p) = 2 then enP T N (tE T N (tE T N p)) (ntF (bdW (tV T N (tE T N p))) 2 lf) (ntP (bdW (tV T N (tE T N p))) (tS T N (tE T N p)) lf lp) (keL Y l 1 (tV T N (tE T N p))) else (false, tE T N p, 1, tS T N (tE T N p), Y))
  else if isW T N p 15 = true then (if tK T N (tE T N p) = 2 then enP T N (tE T N (tE T N p)) lf lp (keL Y l 2 (tV T N (tE T N p))) else (false, tE T N p, 1, tS T N (tE T N p), Y))
  else (false, p, 1, tS T N p, Y)
def mi4 (n : Nat) : Int := if n < 4 then (n : Int) else 4
def liP (T : Nat → Int) (N l p : Nat) (lf lp : Int) (Y : XI) : Bool × Nat × Int × Int × XI :=
  if isW T N p 0 = true then
    if (tsP T N l 501 0 p (ntF (l == 16) 3 lf) (ntP (l == 16) (tS T N p) lf lp) Y).1 = false then (false, (tsP T N l 501 0 p (ntF (l == 16) 3 lf) (ntP (l == 16) (tS T N p) lf lp) Y).2.2)
    else if tK T N (tsP T N l 501 0 p (ntF (l == 16) 3 lf) (ntP (l == 16) (tS T N p) lf lp) Y).2.2.1 = 3 ∧ tV T N (tsP T N l 501 0 p (ntF (l == 16) 3 lf) (ntP (l == 16) (tS T N p) lf lp) Y).2.2.1 = 58 then
      deP T N l (tE T N (tsP T N l 501 0 p (ntF (l == 16) 3 lf) (ntP (l == 16) (tS T N p) lf lp) Y).2.2.1) (tsP T N l 501 0 p (ntF (l == 16) 3 lf) (ntP (l == 16) (tS T N p) lf lp) Y).2.2.2.1 (tsP T N l 501 0 p (ntF (l == 16) 3 lf) (ntP (l == 16) (tS T N p) lf lp) Y).2.2.2.2.1 (keN (tsP T N l 501 0 p (ntF (l == 16) 3 lf) (ntP (l == 16) (tS T N p) lf lp) Y).2.2.2.2.2 l (mi4 (tsP T N l 501 0 p (ntF (l == 16) 3 lf) (ntP (l == 16) (tS T N p) lf lp) Y).2.1))
    else (false, (tsP T N l 501 0 p (ntF (l == 16) 3 lf) (ntP (l == 16) (tS T N p) lf lp) Y).2.2.1, 1, tS T N (tsP T N l 501 0 p (ntF (l == 16) 3 lf) (ntP (l == 16) (tS T N p) lf lp) Y).2.2.1, (tsP T N l 501 0 p (ntF (l == 16) 3 lf) (ntP (l == 16) (tS T N p) lf lp) Y).2.2.2.2.2)
  else deP T N l p (ntF (l == 16) 3 lf) (ntP (l == 16) (tS T N p) lf lp) (keN Y l 0)
def ruP (T : Nat → Int) (N : Nat) : Nat → Nat → Nat → Int → Int → XI → Bool × Nat × Nat × Int × Int × XI
  | 0, l, p, lf, lp, Y => (true, l, p, lf, lp, Y)
  | f + 1, l, p, lf, lp, Y => if tK T N p = 0 then (true, l, p, lf, lp, Y)
    else if (liP T N l p lf lp Y).1 = false then (false, l, (liP T N l p lf lp Y).2)
    else ruP T N f (l + 1) (liP T N l p lf lp Y).2.1 (liP T N l p lf lp Y).2.2.1 (liP T N l p lf lp Y).2.2.2.1 (liP T N l p lf lp Y).2.2.2.2
/-! where the reading stands, and the faults -/
def fok (lf : Int) : Prop := lf = 0 ∨ lf = 2 ∨ lf = 3
theorem ntF_ok {c : Bool} {x lf : Int} (h : fok lf) (hx : x = 2 ∨ x = 3) : fok (ntF c x lf) := by
  unfold fok at h ⊢
  unfold ntF
  split <;> omega
section TP
variable {T : Nat → Int} {N : Nat}
theorem tE_le (hN : N ≤ 500) (p : Nat) : p ≤ tE T N p := Nat.le_trans tS_ge (tE_ge hN)
theorem tE_lt (hN : N ≤ 500) {p : Nat} (h : tK T N p ≠ 0) : p < tE T N p := by
  have h1 := tS_ge (T := T) (N := N) (p := p)
  have h2 := tE_gt (T := T) (p := p) hN (fun x => h (tK_0.mpr x))
  omega
theorem isW_1 {p w : Nat} (h : isW T N p w = true) : tK T N p = 1 := (of_decide_eq_true h).1
theorem sbj_c {p : Nat} : (∃ f, f < 10 ∧ isW T N p (2 + f) = true ∧ sbj T N p = (f : Int)) ∨ ((∀ f, f < 10 → isW T N p (2 + f) = false) ∧ sbj T N p = -1) := by
  have key : ∀ n, n ≤ 10 → (∃ f, f < 10 ∧ isW T N p (2 + f) = true ∧ sbjR T N p n = (f : Int)) ∨ ((∀ f, 10 - n ≤ f → f < 10 → isW T N p (2 + f) = false) ∧ sbjR T N p n = -1) := by
    intro n
    induction n with
    | zero => intro _; right; exact ⟨fun f h1 h2 => absurd h2 (by omega), rfl⟩
    | succ n ih =>
      intro hn
      unfold sbjR
      by_cases c : isW T N p (2 + (9 - n)) = true
      · rw [if_pos c]; left; exact ⟨9 - n, by omega, c, rfl⟩
      · rw [if_neg c]
        rcases ih (by omega) with q | ⟨q1, q2⟩
        · exact Or.inl q
        · right
          refine ⟨fun f h1 h2 => ?_, q2⟩
          by_cases e : f = 9 - n
          · rw [e]; exact Bool.eq_false_iff.mpr c
          · exact q1 f (by omega) h2
  rcases key 10 (Nat.le_refl _) with q | ⟨q1, q2⟩
  · exact Or.inl q
  · exact Or.inr ⟨fun f hf => q1 f (by omega) hf, q2⟩
theorem sbj_in {p : Nat} : -1 ≤ sbj T N p ∧ sbj T N p ≤ 9 := by
  rcases sbj_c (T := T) (N := N) (p := p) with ⟨f, h1, _, h2⟩ | ⟨_, h2⟩ <;> (rw [h2]; omega)
theorem sbj_ne {p : Nat} (h : sbj T N p ≠ -1) : tK T N p = 1 := by
  rcases sbj_c (T := T) (N := N) (p := p) with ⟨f, _, h1, _⟩ | ⟨_, h2⟩
  · exact isW_1 h1
  · exact absurd h2 h
theorem teQ_p {l i p : Nat} {nt : Int} {Y : XI} (hN : N ≤ 500) (hp : p ≤ N) : (teQ T N l i nt p Y).2.1 ≤ N ∧ p ≤ (teQ T N l i nt p Y).2.1 := by
  have a1 := tE_top (T := T) hp
  have a2 := tE_top (T := T) a1
  have a3 := tE_top (T := T) a2
  have b1 := tE_le (T := T) hN p
  have b2 := tE_le (T := T) hN (tE T N p)
  have b3 := tE_le (T := T) hN (tE T N (tE T N p))
  unfold teQ
  split
  · exact ⟨hp, Nat.le_refl _⟩
  split
  · exact ⟨a1, b1⟩
  split
  · exact ⟨a1, b1⟩
  split
  · exact ⟨a2, by show p ≤ tE T N (tE T N p); omega⟩
  · exact ⟨a3, by show p ≤ tE T N (tE T N (tE T N p)); omega⟩
theorem teP_p {l i p : Nat} {Y : XI} (hN : N ≤ 500) (hp : p ≤ N) : (teP T N l i p Y).2.1 ≤ N ∧ p ≤ (teP T N l i p Y).2.1 := by
  unfold teP
  split
  · have := teQ_p (T := T) (l := l) (i := i) (nt := 1) (Y := Y) hN (tE_top (T := T) hp)
    have b1 := tE_le (T := T) hN p
    omega
  · exact teQ_p hN hp
end TP
section TL
variable {G : XG} {S : XS} {T : Nat → Int} {N : Nat} {I0 Y I : XI} {p : Nat} {f pl : Int}
theorem PS.row (h : PS T N I0 Y I p f pl) {r : Nat} (j : Nat) (z : Int) (hr : r < 7) : PS T N I0 (up Y r j z) (up I (65 + r) j z) p f pl := by
  obtain ⟨v, h, hv⟩ := h
  refine ⟨v, ⟨?_, (up_row (by show 72 ≠ 65 + r; omega)).trans h.2.1, fun x hx => ?_, fun a ha => (up_row (by omega)).trans (h.2.2.2 a ha)⟩, hv⟩
  · have e : up I (65 + r) j z c_parser = I c_parser := up_row (by show 63 ≠ 65 + r; omega)
    rw [e]; exact h.1
  · by_cases e : x = r
    · rw [e]
      funext y
      unfold up
      rw [if_pos rfl, if_pos rfl, h.2.2.1 r hr]
    · exact (up_row (by omega)).trans ((h.2.2.1 x hx).trans (up_row e).symm)
theorem PS.take {R : XI → Prop} (h : PS T N I0 Y I p f pl) (hS : xSh S) (hN : N ≤ 500) (hT : byt T) (hp : p ≤ N) (k : ∀ J, PS T N I0 Y J (tE T N p) f pl → R J) : Pa_takeToken G S I R := by
  obtain ⟨v, h, hv⟩ := h
  exact s_take hS hN hT (tE_top hp) h k
theorem PS.note {x : Int} {R : XI → Prop} (h : PS T N I0 Y I p f pl) (hS : xSh S) (hf : fok f) (k : ∀ J, PS T N I0 Y J p (ntF true x f) (ntP true (tS T N p) f pl) → R J) : Pa_note G S I x R := by
  refine b_Pa_note hS ?_
  obtain ⟨v, h, hv⟩ := h
  unfold fok at hf
  rw [h.1.2.2.1, w32_id (z := f) (by omega) (by omega)]
  unfold ntF ntP at k
  refine ⟨fun e I1 e1 I2 e2 => k I2 ?_, fun e => k I ?_⟩
  · rw [if_pos ⟨rfl, e⟩, if_pos ⟨rfl, e⟩]
    have h1 := h.w1 x
    rw [← e1] at h1
    rw [e2, h1.1.2.2.2.2.1]
    exact ⟨v, h1.w2 _, hv⟩
  · rw [if_neg (fun q => e q.2), if_neg (fun q => e q.2)]
    exact ⟨v, h, hv⟩
theorem PS.brk {R : Int → XI → Prop} (h : PS T N I0 Y I p f pl) (hS : xSh S) (k : ∀ J, PS T N I0 Y J p 1 (tS T N p) → R 0 J) : Pa_breakHere G S I (fun r J => (r = 0 ∨ r = 1) ∧ R r J) := by
  refine b_Pa_breakHere hS (fun I1 e1 I2 e2 => ⟨Or.inl rfl, k I2 ?_⟩)
  obtain ⟨v, h, hv⟩ := h
  have h1 := h.w1 1
  rw [← e1] at h1
  rw [e2, h1.1.2.2.2.2.1]
  exact ⟨v, h1.w2 _, hv⟩
theorem PS.sign {x : Int} {R : Int → XI → Prop} (h : PS T N I0 Y I p f pl) (hS : xSh S) (hx : 0 ≤ x ∧ x ≤ 255) (k1 : tK T N p = 3 ∧ tV T N p = x → R 1 I) (k0 : ¬ (tK T N p = 3 ∧ tV T N p = x) → R 0 I) : Pa_isSign G S I x R := by
  refine b_Pa_isSign hS ?_
  obtain ⟨v, h, hv⟩ := h
  have kl := tK_le (T := T) (N := N) (p := p)
  rw [h.1.2.2.2.2.2.1, h.1.2.2.2.2.2.2, w32_nat (k := tK T N p) (by omega), show w32 3 = 3 from rfl]
  refine ⟨fun e => ?_, fun e => k0 (fun q => by omega)⟩
  have e3 : tK T N p = 3 := by omega
  have sg := tV_sign e3
  rw [hv (Or.inr e3), w32_id (z := tV T N p) (by omega) (by omega), w32_id (z := x) (by omega) (by omega)]
  exact ⟨fun y => k1 ⟨e3, y⟩, fun y => k0 (fun q => y q.2)⟩
theorem PS.tsign {x : Int} {R : Int → XI → Prop} (h : PS T N I0 Y I p f pl) (hS : xSh S) (hN : N ≤ 500) (hT : byt T) (hp : p ≤ N) (hx : 0 ≤ x ∧ x ≤ 255) (k1 : ∀ J, tK T N p = 3 ∧ tV T N p = x → PS T N I0 Y J (tE T N p) f pl → R 1 J) (k0 : ∀ J, ¬ (tK T N p = 3 ∧ tV T N p = x) → PS T N I0 Y J p 1 (tS T N p) → R 0 J) : Pa_takeSign G S I x R := by
  refine b_Pa_takeSign hS ?_
  exact h.sign hS hx (fun e => br1 (h.take hS hN hT hp (fun J hJ => k1 J e hJ))) (fun e => br0 (h.brk hS (fun J hJ => k0 J e hJ)))
theorem PS.putT {l i : Nat} {a b c d : Int} {R : XI → Prop} (h : PS T N I0 Y I p f pl) (hS : xSh S) (hl : l ≤ 500) (hi : i ≤ 500) (k : ∀ J, PS T N I0 (keT Y l i a b c d) J p f pl → R J) : Dr_keepTest G S I (l : Int) (i : Int) a b c d R := by
  refine b_Dr_keepTest hS ?_
  have c0 : (l : Int) * 4 + (i : Int) = ((l * 4 + i : Nat) : Int) := by omega
  rw [c0, w32_nat (k := l) (by omega), w32_nat (k := i) (by omega), show w32 16 = 16 from rfl, show w32 4 = 4 from rfl, ix_nat (k := l * 4 + i) (by omega)]
  unfold keT at k
  refine ⟨fun x => k I ?_, fun x => ⟨fun y => k I ?_, fun y => ?_⟩⟩
  · rw [if_neg (by omega)]; exact h
  · rw [if_neg (by omega)]; exact h
  · have ib : inb ((l * 4 + i : Nat) : Int) 64 := inb_b (by omega) (by omega) (by decide)
    refine ⟨ib, fun I1 e1 => ⟨ib, fun I2 e2 => ⟨ib, fun I3 e3 => ⟨ib, fun I4 e4 => k I4 ?_⟩⟩⟩⟩
    rw [if_pos (by omega), e4, e3, e2, e1]
    exact (((h.row (r := 3) _ a (by decide)).row (r := 4) _ b (by decide)).row (r := 5) _ c (by decide)).row (r := 6) _ d (by decide)
theorem PS.putL {l : Nat} {a b : Int} {R : XI → Prop} (h : PS T N I0 Y I p f pl) (hS : xSh S) (hl : l ≤ 500) (k : ∀ J, PS T N I0 (keL Y l a b) J p f pl → R J) : Dr_keepLine G S I (l : Int) a b R := by
  refine b_Dr_keepLine hS ?_
  rw [w32_nat (k := l) (by omega), show w32 16 = 16 from rfl, ix_nat (k := l) (by omega)]
  unfold keL at k
  refine ⟨fun x => k I ?_, fun x => ?_⟩
  · rw [if_neg (by omega)]; exact h
  · have ib : inb (l : Int) 16 := inb_b (by omega) (by omega) (by decide)
    refine ⟨ib, fun I1 e1 => ⟨ib, fun I2 e2 => k I2 ?_⟩⟩
    rw [if_pos (by omega), e2, e1]
    exact (h.row (r := 0) _ a (by decide)).row (r := 1) _ b (by decide)
theorem PS.putN {l n : Nat} {R : XI → Prop} (h : PS T N I0 Y I p f pl) (hS : xSh S) (hl : l ≤ 500) (hn : n ≤ 501) (k : ∀ J, PS T N I0 (keN Y l (mi4 n)) J p f pl → R J) : Dr_keepTests G S I (l : Int) (n : Int) R := by
  refine b_Dr_keepTests hS ?_
  rw [w32_nat (k := l) (by omega), w32_nat (k := n) (by omega), show w32 16 = 16 from rfl, show w32 4 = 4 from rfl, ix_nat (k := l) (by omega)]
  unfold keN at k
  refine ⟨fun x => k I ?_, fun x => ⟨inb_b (by omega) (by omega) (by decide), fun I1 e1 => k I1 ?_⟩⟩
  · rw [if_neg (by omega)]; exact h
  · rw [if_pos (by omega), e1]
    have : (if (4 : Int) < (n : Int) then 4 else (n : Int)) = mi4 n := by unfold mi4; split <;> split <;> omega
    rw [this]
    exact h.row (r := 2) _ _ (by decide)
theorem PS.fact {R : Int → XI → Prop} (h : PS T N I0 Y I p f pl) (hS : xSh S) (hN : N ≤ 500) (hT : byt T) (hp : p ≤ N) (k : R (sbj T N p) I) : Pa_subjectOfWord G S I R := by
  refine b_Pa_subjectOfWord hS ?_
  have key : ∀ n, n ≤ 10 → sbjR T N p n = sbj T N p → Pa_subjectOfWord_k2 G S I ((10 - n : Nat) : Int) R := by
    intro n
    induction n with
    | zero =>
      intro _ e
      refine b_Pa_subjectOfWord_k2 hS ?_
      rw [w32_nat (k := 10 - 0) (by omega), show w32 10 = 10 from rfl]
      refine ⟨fun _ => ?_, fun x => absurd x (by omega)⟩
      rw [← e] at k; exact k
    | succ n ih =>
      intro hn e
      refine b_Pa_subjectOfWord_k2 hS ?_
      have c0 : 10 - (n + 1) = 9 - n := by omega
      rw [c0, w32_nat (k := 9 - n) (by omega), show w32 10 = 10 from rfl]
      refine ⟨fun x => absurd x (by omega), fun _ => b_Pa_wordOf hS ?_⟩
      unfold sbjR at e
      have go : ∀ w, w = 2 + (9 - n) → Pa_isWord G S I w (fun r4 I3 => (w32 r4 = 0 → Pa_subjectOfWord_k2 G S I3 (((9 - n : Nat) : Int) + 1) R) ∧ (¬ (w32 r4 = 0) → R ((9 - n : Nat) : Int) I3)) := fun w ew => by
        subst ew
        refine s_isW hS hN hT hp (by omega) h (fun c => br1 ?_) (fun c => br0 ?_)
        · rw [if_pos c] at e
          rw [e]; exact k
        · rw [if_neg (by rw [c]; decide)] at e
          have := ih (by omega) e
          rw [show ((9 - n : Nat) : Int) + 1 = ((10 - n : Nat) : Int) by omega]
          exact this
      rw [w32_nat (k := 9 - n) (by omega)]
      exact ⟨fun x => go 2 (by omega), fun x => go 3 (by omega), fun x => go 4 (by omega), fun x => go 5 (by omega), fun x => go 6 (by omega), fun x => go 7 (by omega), fun x => go 8 (by omega), fun x => go 9 (by omega), fun x => go 10 (by omega), fun x => go 11 (by omega)⟩
  exact key 10 (Nat.le_refl _) rfl
end TL
