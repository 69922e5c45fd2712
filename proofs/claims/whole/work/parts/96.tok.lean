/-! ===== RULES: tokens ===== -/
def scan (P : Nat → Bool) : Nat → Nat → Nat
  | 0, p => p
  | f + 1, p => if P p = true then scan P f (p + 1) else p
theorem scan_more {P : Nat → Bool} {N : Nat} (hP : ∀ q, N ≤ q → P q = false) : ∀ f p, N ≤ p + f → scan P f p = scan P (f + 1) p
  | 0, p, h => by
    show p = if P p = true then scan P 0 (p + 1) else p
    rw [if_neg (by rw [hP p (by omega)]; decide)]
  | f + 1, p, h => by
    show (if P p = true then scan P f (p + 1) else p) = if P p = true then scan P (f + 1) (p + 1) else p
    rw [scan_more hP f (p + 1) (by omega)]
theorem scan_le {P : Nat → Bool} : ∀ f p, p ≤ scan P f p
  | 0, p => Nat.le_refl _
  | f + 1, p => by
    show p ≤ if P p = true then scan P f (p + 1) else p
    split
    · have := scan_le (P := P) f (p + 1); omega
    · exact Nat.le_refl _
theorem scan_all {P : Nat → Bool} : ∀ f p i, p ≤ i → i < scan P f p → P i = true
  | 0, p, i, h1, h2 => by have h2 : i < p := h2; omega
  | f + 1, p, i, h1, h2 => by
    have h2 : i < if P p = true then scan P f (p + 1) else p := h2
    split at h2
    · next c =>
      by_cases e : i = p
      · rw [e]; exact c
      · exact scan_all f (p + 1) i (by omega) h2
    · omega
theorem scan_top {P : Nat → Bool} {N : Nat} (hP : ∀ q, N ≤ q → P q = false) : ∀ f p, p ≤ N → scan P f p ≤ N
  | 0, p, h => h
  | f + 1, p, h => by
    show (if P p = true then scan P f (p + 1) else p) ≤ N
    split
    · next c =>
      have : ¬ N ≤ p := fun x => by rw [hP p x] at c; exact absurd c (by decide)
      exact scan_top hP f (p + 1) (by omega)
    · exact h
def sc (P : Nat → Bool) (p : Nat) : Nat := scan P 600 p
theorem scn_eq {P : Nat → Bool} {N : Nat} (hP : ∀ q, N ≤ q → P q = false) (hN : N ≤ 500) (p : Nat) : sc P p = if P p = true then sc P (p + 1) else p := by
  unfold sc
  have e : scan P (599 + 1) p = if P p = true then scan P 599 (p + 1) else p := rfl
  rw [show (600 : Nat) = 599 + 1 from rfl, e, ← scan_more hP 599 (p + 1) (by omega)]
theorem sc_ge {P : Nat → Bool} (p : Nat) : p ≤ sc P p := scan_le 600 p
theorem sc_all {P : Nat → Bool} {p i : Nat} (h1 : p ≤ i) (h2 : i < sc P p) : P i = true := scan_all 600 p i h1 h2
theorem sc_top {P : Nat → Bool} {N p : Nat} (hP : ∀ q, N ≤ q → P q = false) (h : p ≤ N) : sc P p ≤ N := scan_top hP 600 p h
def blk (T : Nat → Int) (N q : Nat) : Bool := decide (q < N ∧ (T q = 10 ∨ T q = 32))
def rng (T : Nat → Int) (N : Nat) (lo hi : Int) (q : Nat) : Bool := decide (q < N ∧ lo ≤ T q ∧ T q ≤ hi)
theorem blk_out {T : Nat → Int} {N : Nat} : ∀ q, N ≤ q → blk T N q = false := fun q h => decide_eq_false (fun x => by omega)
theorem rng_out {T : Nat → Int} {N : Nat} {lo hi : Int} : ∀ q, N ≤ q → rng T N lo hi q = false := fun q h => decide_eq_false (fun x => by omega)
def dg (T : Nat → Int) (s : Nat) : Nat → Int
  | 0 => 0
  | n + 1 => dg T s n * 10 + T (s + n) - 48
/-- the token that is taken at p: where it starts, where it ends, its kind (0 end, 1 word, 2 number, 3 sign, 4 none), its value -/
def tS (T : Nat → Int) (N p : Nat) : Nat := sc (blk T N) p
def tE (T : Nat → Int) (N p : Nat) : Nat := if N ≤ tS T N p then tS T N p else if 97 ≤ T (tS T N p) ∧ T (tS T N p) ≤ 122 then sc (rng T N 97 122) (tS T N p) else if 48 ≤ T (tS T N p) ∧ T (tS T N p) ≤ 57 then sc (rng T N 48 57) (tS T N p) else tS T N p + 1
def tK (T : Nat → Int) (N p : Nat) : Nat := if N ≤ tS T N p then 0 else if 97 ≤ T (tS T N p) ∧ T (tS T N p) ≤ 122 then 1 else if 48 ≤ T (tS T N p) ∧ T (tS T N p) ≤ 57 then (if tE T N p - tS T N p ≤ 4 then 2 else 4) else if 58 ≤ T (tS T N p) ∧ T (tS T N p) ≤ 62 then 3 else 4
def tV (T : Nat → Int) (N p : Nat) : Int := if 48 ≤ T (tS T N p) ∧ T (tS T N p) ≤ 57 then dg T (tS T N p) (tE T N p - tS T N p) else T (tS T N p)
section TK
variable {T : Nat → Int} {N p : Nat}
theorem tS_ge : p ≤ tS T N p := sc_ge p
theorem tS_top (h : p ≤ N) : tS T N p ≤ N := sc_top blk_out h
theorem k_end (h : N ≤ tS T N p) : tE T N p = tS T N p ∧ tK T N p = 0 := by
  unfold tE tK
  rw [if_pos h, if_pos h]; exact ⟨rfl, rfl⟩
theorem k_word (h : ¬ N ≤ tS T N p) (c : 97 ≤ T (tS T N p) ∧ T (tS T N p) ≤ 122) : tE T N p = sc (rng T N 97 122) (tS T N p) ∧ tK T N p = 1 := by
  unfold tK
  rw [if_neg h, if_pos c]
  unfold tE
  rw [if_neg h, if_pos c]; exact ⟨rfl, rfl⟩
theorem k_num (h : ¬ N ≤ tS T N p) (c : 48 ≤ T (tS T N p) ∧ T (tS T N p) ≤ 57) : tE T N p = sc (rng T N 48 57) (tS T N p) ∧ tK T N p = (if tE T N p - tS T N p ≤ 4 then 2 else 4) ∧ tV T N p = dg T (tS T N p) (tE T N p - tS T N p) := by
  have n : ¬ (97 ≤ T (tS T N p) ∧ T (tS T N p) ≤ 122) := by omega
  refine ⟨?_, ?_, ?_⟩
  · unfold tE; rw [if_neg h, if_neg n, if_pos c]
  · unfold tK; rw [if_neg h, if_neg n, if_pos c]
  · unfold tV; rw [if_pos c]
theorem k_oth (h : ¬ N ≤ tS T N p) (c1 : ¬ (97 ≤ T (tS T N p) ∧ T (tS T N p) ≤ 122)) (c2 : ¬ (48 ≤ T (tS T N p) ∧ T (tS T N p) ≤ 57)) : tE T N p = tS T N p + 1 ∧ tK T N p = (if 58 ≤ T (tS T N p) ∧ T (tS T N p) ≤ 62 then 3 else 4) ∧ tV T N p = T (tS T N p) := by
  refine ⟨?_, ?_, ?_⟩
  · unfold tE; rw [if_neg h, if_neg c1, if_neg c2]
  · unfold tK; rw [if_neg h, if_neg c1, if_neg c2]
  · unfold tV; rw [if_neg c2]
theorem sc_gt {lo hi : Int} {s : Nat} (hN : N ≤ 500) (h : ¬ N ≤ s) (c : lo ≤ T s ∧ T s ≤ hi) : s < sc (rng T N lo hi) s := by
  rw [scn_eq rng_out hN, if_pos (show rng T N lo hi s = true from decide_eq_true ⟨by omega, c⟩)]
  exact sc_ge _
theorem tE_gt (hN : N ≤ 500) (h : ¬ N ≤ tS T N p) : tS T N p < tE T N p := by
  by_cases c1 : 97 ≤ T (tS T N p) ∧ T (tS T N p) ≤ 122
  · rw [(k_word h c1).1]; exact sc_gt hN h c1
  by_cases c2 : 48 ≤ T (tS T N p) ∧ T (tS T N p) ≤ 57
  · rw [(k_num h c2).1]; exact sc_gt hN h c2
  · rw [(k_oth h c1 c2).1]; omega
theorem tE_ge (hN : N ≤ 500) : tS T N p ≤ tE T N p := by
  by_cases h : N ≤ tS T N p
  · rw [(k_end h).1]; exact Nat.le_refl _
  · have := tE_gt hN h; omega
theorem tE_top (h : p ≤ N) : tE T N p ≤ N := by
  have s := tS_top (T := T) h
  by_cases e : N ≤ tS T N p
  · rw [(k_end e).1]; exact s
  by_cases c1 : 97 ≤ T (tS T N p) ∧ T (tS T N p) ≤ 122
  · rw [(k_word e c1).1]; exact sc_top rng_out s
  by_cases c2 : 48 ≤ T (tS T N p) ∧ T (tS T N p) ≤ 57
  · rw [(k_num e c2).1]; exact sc_top rng_out s
  · rw [(k_oth e c1 c2).1]; omega
theorem tK_0 : tK T N p = 0 ↔ N ≤ tS T N p := by
  constructor
  · intro h
    by_cases e : N ≤ tS T N p
    · exact e
    by_cases c1 : 97 ≤ T (tS T N p) ∧ T (tS T N p) ≤ 122
    · rw [(k_word e c1).2] at h; omega
    by_cases c2 : 48 ≤ T (tS T N p) ∧ T (tS T N p) ≤ 57
    · rw [(k_num e c2).2.1] at h; split at h <;> omega
    · rw [(k_oth e c1 c2).2.1] at h; split at h <;> omega
  · exact fun h => (k_end h).2
theorem tK_1 (h : tK T N p = 1) : ¬ N ≤ tS T N p ∧ (97 ≤ T (tS T N p) ∧ T (tS T N p) ≤ 122) ∧ tE T N p = sc (rng T N 97 122) (tS T N p) := by
  have e : ¬ N ≤ tS T N p := fun x => by rw [(k_end x).2] at h; omega
  by_cases c1 : 97 ≤ T (tS T N p) ∧ T (tS T N p) ≤ 122
  · exact ⟨e, c1, (k_word e c1).1⟩
  by_cases c2 : 48 ≤ T (tS T N p) ∧ T (tS T N p) ≤ 57
  · rw [(k_num e c2).2.1] at h; split at h <;> omega
  · rw [(k_oth e c1 c2).2.1] at h; split at h <;> omega
theorem tK_le : tK T N p ≤ 4 := by
  by_cases e : N ≤ tS T N p
  · rw [(k_end e).2]; omega
  by_cases c1 : 97 ≤ T (tS T N p) ∧ T (tS T N p) ≤ 122
  · rw [(k_word e c1).2]; omega
  by_cases c2 : 48 ≤ T (tS T N p) ∧ T (tS T N p) ≤ 57
  · rw [(k_num e c2).2.1]; split <;> omega
  · rw [(k_oth e c1 c2).2.1]; split <;> omega
theorem dg_in {s : Nat} : ∀ n, (∀ i, i < n → 48 ≤ T (s + i) ∧ T (s + i) ≤ 57) → 0 ≤ dg T s n ∧ dg T s n < 10 ^ n
  | 0, _ => by unfold dg; decide
  | n + 1, h => by
    have h1 := dg_in n (fun i hi => h i (by omega))
    have h2 := h n (by omega)
    have e : (10 : Int) ^ (n + 1) = 10 ^ n * 10 := Int.pow_succ 10 n
    unfold dg
    omega
/-- a number's value -/
theorem tV_num (hN : N ≤ 500) (h : tK T N p = 2) : 0 ≤ tV T N p ∧ tV T N p ≤ 9999 := by
  have e : ¬ N ≤ tS T N p := fun x => by rw [(k_end x).2] at h; omega
  have c1 : ¬ (97 ≤ T (tS T N p) ∧ T (tS T N p) ≤ 122) := fun c => by rw [(k_word e c).2] at h; omega
  by_cases c2 : 48 ≤ T (tS T N p) ∧ T (tS T N p) ≤ 57
  · obtain ⟨q1, q2, q3⟩ := k_num e c2
    rw [q2] at h
    split at h
    · next le =>
      rw [q3]
      have al : ∀ i, i < tE T N p - tS T N p → 48 ≤ T (tS T N p + i) ∧ T (tS T N p + i) ≤ 57 := fun i hi => by
        have := sc_all (P := rng T N 48 57) (p := tS T N p) (i := tS T N p + i) (by omega) (by rw [← q1]; omega)
        exact (of_decide_eq_true this).2
      have d := dg_in (s := tS T N p) (tE T N p - tS T N p) al
      have b : (10 : Int) ^ (tE T N p - tS T N p) ≤ 10000 := by
        generalize tE T N p - tS T N p = x at le
        match x, le with
        | 0, _ => decide
        | 1, _ => decide
        | 2, _ => decide
        | 3, _ => decide
        | 4, _ => decide
      omega
    · omega
  · rw [(k_oth e c1 c2).2.1] at h; split at h <;> omega
theorem tV_sign (h : tK T N p = 3) : 58 ≤ tV T N p ∧ tV T N p ≤ 62 := by
  have e : ¬ N ≤ tS T N p := fun x => by rw [(k_end x).2] at h; omega
  have c1 : ¬ (97 ≤ T (tS T N p) ∧ T (tS T N p) ≤ 122) := fun c => by rw [(k_word e c).2] at h; omega
  by_cases c2 : 48 ≤ T (tS T N p) ∧ T (tS T N p) ≤ 57
  · rw [(k_num e c2).2.1] at h; split at h <;> omega
  · obtain ⟨q1, q2, q3⟩ := k_oth e c1 c2
    rw [q2] at h
    split at h
    · next c => rw [q3]; exact c
    · omega
end TK
/-! the class takes a token -/
def PV (T : Nat → Int) (N : Nat) (I0 Y I : XI) (q : Nat) (f pl st tk v : Int) : Prop := (I c_parser 4 = (N : Int) ∧ I c_parser 5 = (q : Int) ∧ I c_parser 1 = f ∧ I c_parser 2 = pl ∧ I c_parser 7 = st ∧ I c_parser 6 = tk ∧ I c_parser 8 = v) ∧ I c_parser_bytes = T ∧ (∀ r, r < 7 → I (65 + r) = Y r) ∧ ∀ a, (a < 63 ∨ 72 < a) → I a = I0 a
section TC
variable {G : XG} {S : XS} {T : Nat → Int} {N : Nat} {I0 Y I : XI} {q : Nat} {f pl st tk v : Int}
theorem PV.oth (h : PV T N I0 Y I q f pl st tk v) (j : Nat) (z : Int) : up I c_parser j z c_parser_bytes = T ∧ (∀ r, r < 7 → up I c_parser j z (65 + r) = Y r) ∧ ∀ a, (a < 63 ∨ 72 < a) → up I c_parser j z a = I0 a :=
  ⟨(up_row (by decide)).trans h.2.1, fun r hr => (up_row (by show 65 + r ≠ 63; omega)).trans (h.2.2.1 r hr), fun a ha => (up_row (by show a ≠ 63; omega)).trans (h.2.2.2 a ha)⟩
theorem PV.w5 (h : PV T N I0 Y I q f pl st tk v) {z : Int} {q' : Nat} (hz : z = (q' : Int)) : PV T N I0 Y (up I c_parser 5 z) q' f pl st tk v := by
  obtain ⟨a1, a2, a3, a4, a5, a6, a7⟩ := h.1
  exact ⟨⟨(up_2 _ (by decide)).trans a1, (up_s _ _ _ _).trans hz, (up_2 _ (by decide)).trans a3, (up_2 _ (by decide)).trans a4, (up_2 _ (by decide)).trans a5, (up_2 _ (by decide)).trans a6, (up_2 _ (by decide)).trans a7⟩, h.oth 5 z⟩
theorem PV.w7 (h : PV T N I0 Y I q f pl st tk v) (z : Int) : PV T N I0 Y (up I c_parser 7 z) q f pl z tk v := by
  obtain ⟨a1, a2, a3, a4, a5, a6, a7⟩ := h.1
  exact ⟨⟨(up_2 _ (by decide)).trans a1, (up_2 _ (by decide)).trans a2, (up_2 _ (by decide)).trans a3, (up_2 _ (by decide)).trans a4, up_s _ _ _ _, (up_2 _ (by decide)).trans a6, (up_2 _ (by decide)).trans a7⟩, h.oth 7 z⟩
theorem PV.w6 (h : PV T N I0 Y I q f pl st tk v) (z : Int) : PV T N I0 Y (up I c_parser 6 z) q f pl st z v := by
  obtain ⟨a1, a2, a3, a4, a5, a6, a7⟩ := h.1
  exact ⟨⟨(up_2 _ (by decide)).trans a1, (up_2 _ (by decide)).trans a2, (up_2 _ (by decide)).trans a3, (up_2 _ (by decide)).trans a4, (up_2 _ (by decide)).trans a5, up_s _ _ _ _, (up_2 _ (by decide)).trans a7⟩, h.oth 6 z⟩
theorem PV.w8 (h : PV T N I0 Y I q f pl st tk v) (z : Int) : PV T N I0 Y (up I c_parser 8 z) q f pl st tk z := by
  obtain ⟨a1, a2, a3, a4, a5, a6, a7⟩ := h.1
  exact ⟨⟨(up_2 _ (by decide)).trans a1, (up_2 _ (by decide)).trans a2, (up_2 _ (by decide)).trans a3, (up_2 _ (by decide)).trans a4, (up_2 _ (by decide)).trans a5, (up_2 _ (by decide)).trans a6, up_s _ _ _ _⟩, h.oth 8 z⟩
theorem PV.w1 (h : PV T N I0 Y I q f pl st tk v) (z : Int) : PV T N I0 Y (up I c_parser 1 z) q z pl st tk v := by
  obtain ⟨a1, a2, a3, a4, a5, a6, a7⟩ := h.1
  exact ⟨⟨(up_2 _ (by decide)).trans a1, (up_2 _ (by decide)).trans a2, up_s _ _ _ _, (up_2 _ (by decide)).trans a4, (up_2 _ (by decide)).trans a5, (up_2 _ (by decide)).trans a6, (up_2 _ (by decide)).trans a7⟩, h.oth 1 z⟩
theorem PV.w2 (h : PV T N I0 Y I q f pl st tk v) (z : Int) : PV T N I0 Y (up I c_parser 2 z) q f z st tk v := by
  obtain ⟨a1, a2, a3, a4, a5, a6, a7⟩ := h.1
  exact ⟨⟨(up_2 _ (by decide)).trans a1, (up_2 _ (by decide)).trans a2, (up_2 _ (by decide)).trans a3, up_s _ _ _ _, (up_2 _ (by decide)).trans a5, (up_2 _ (by decide)).trans a6, (up_2 _ (by decide)).trans a7⟩, h.oth 2 z⟩
/-- the token taken at p stands there -/
def PS (T : Nat → Int) (N : Nat) (I0 Y I : XI) (p : Nat) (f pl : Int) : Prop := ∃ v, PV T N I0 Y I (tE T N p) f pl (tS T N p) (tK T N p) v ∧ (tK T N p = 2 ∨ tK T N p = 3 → v = tV T N p)
def byt (T : Nat → Int) : Prop := ∀ j, j < 500 → 0 ≤ T j ∧ T j ≤ 255
theorem s_pass {lo hi : Nat} {R : XI → Prop} (hS : xSh S) (hN : N ≤ 500) (hT : byt T) (hh : lo ≤ 255 ∧ hi ≤ 255) (hq : q ≤ N) (h : PV T N I0 Y I q f pl st tk v) (k : ∀ J, PV T N I0 Y J (sc (rng T N lo hi) q) f pl st tk v → R J) : Pa_passRow G S I (lo : Int) (hi : Int) R := by
  refine b_Pa_passRow hS ?_
  have key : ∀ m q I, N ≤ q + m → PV T N I0 Y I q f pl st tk v → (∀ J, PV T N I0 Y J (sc (rng T N lo hi) q) f pl st tk v → R J) → q ≤ N → Pa_passRow_k0 G S I (lo : Int) (hi : Int) R := by
    intro m
    induction m with
    | zero =>
      intro q I hm h k hq
      refine b_Pa_passRow_k0 hS ?_
      rw [h.1.1, h.1.2.1, w32_nat (k := N) (by omega), w32_nat (k := q) (by omega)]
      refine ⟨fun _ => k I ?_, fun x => absurd x (by omega)⟩
      rw [scn_eq rng_out hN, if_neg (by rw [rng_out q (by omega)]; decide)]; exact h
    | succ m ih =>
      intro q I hm h k hq
      refine b_Pa_passRow_k0 hS ?_
      rw [h.1.1, h.1.2.1, w32_nat (k := N) (by omega), w32_nat (k := q) (by omega), ix_nat (k := q) (by omega), h.2.1, w32_nat (k := lo) (by omega), w32_nat (k := hi) (by omega)]
      by_cases c : N ≤ q
      · refine ⟨fun _ => k I ?_, fun x => absurd x (by omega)⟩
        rw [scn_eq rng_out hN, if_neg (by rw [rng_out q c]; decide)]; exact h
      have hb := hT q (by omega)
      rw [w32_id (z := T q) (by omega) (by omega)]
      have i0 : inb (q : Int) 500 := inb_b (by omega) (by omega) (by decide)
      refine ⟨fun x => absurd x (by omega), fun _ => ⟨i0, fun x => k I ?_, fun x => ⟨i0, fun y => k I ?_, fun y I1 e1 => ?_⟩⟩⟩
      · rw [scn_eq rng_out hN, if_neg (by rw [show rng T N lo hi q = false from decide_eq_false (fun z => by omega)]; decide)]; exact h
      · rw [scn_eq rng_out hN, if_neg (by rw [show rng T N lo hi q = false from decide_eq_false (fun z => by omega)]; decide)]; exact h
      · rw [e1]
        refine ih (q + 1) _ (by omega) (h.w5 (q' := q + 1) (by omega)) (fun J hJ => k J ?_) (by omega)
        rw [scn_eq rng_out hN, if_pos (show rng T N lo hi q = true from decide_eq_true ⟨by omega, by omega, by omega⟩)]; exact hJ
  exact key (N - q) q I (by omega) h k hq
theorem s_digs {s : Nat} {R : Int → XI → Prop} (hS : xSh S) (hq : q ≤ 500) (hs : s ≤ q) (h : PV T N I0 Y I q f pl (s : Int) tk v) (k : R (dg T s (q - s)) I) : Pa_readDigits G S I R := by
  refine b_Pa_readDigits hS ?_
  rw [h.1.2.2.2.2.1]
  have key : ∀ m i, i + m = q - s → Pa_readDigits_k7 G S I (dg T s i) ((s : Int) + (i : Int)) R := by
    intro m
    induction m with
    | zero =>
      intro i e
      refine b_Pa_readDigits_k7 hS ?_
      rw [h.1.2.1, w32_nat (k := q) (by omega), w32_id (z := (s : Int) + (i : Int)) (by omega) (by omega)]
      refine ⟨fun _ => ?_, fun x => absurd x (by omega)⟩
      rw [show i = q - s by omega]; exact k
    | succ m ih =>
      intro i e
      refine b_Pa_readDigits_k7 hS ?_
      have c0 : (s : Int) + (i : Int) = ((s + i : Nat) : Int) := by omega
      rw [c0, h.1.2.1, w32_nat (k := q) (by omega), w32_nat (k := s + i) (by omega), ix_nat (k := s + i) (by omega), h.2.1]
      refine ⟨fun x => absurd x (by omega), fun _ => ⟨inb_b (by omega) (by omega) (by decide), ?_⟩⟩
      have := ih (i + 1) (by omega)
      have c1 : ((s + i : Nat) : Int) + 1 = (s : Int) + ((i + 1 : Nat) : Int) := by omega
      rw [c1]
      exact this
  have k0 := key (q - s) 0 (by omega)
  rw [show (s : Int) + ((0 : Nat) : Int) = (s : Int) by omega] at k0
  exact k0
theorem s_take {R : XI → Prop} (hS : xSh S) (hN : N ≤ 500) (hT : byt T) (hq : q ≤ N) (h : PV T N I0 Y I q f pl st tk v) (k : ∀ J, PS T N I0 Y J q f pl → R J) : Pa_takeToken G S I R := by
  refine b_Pa_takeToken hS ?_
  have k52 : ∀ I, PV T N I0 Y I (tS T N q) f pl st tk v → Pa_takeToken_k52 G S I R := by
    intro I h
    have st1 := tS_top (T := T) hq
    have hp : PV T N I0 Y (up I c_parser 7 (I c_parser 5)) (tS T N q) f pl (tS T N q : Int) tk v := by
      rw [h.1.2.1]; exact h.w7 _
    refine b_Pa_takeToken_k52 hS (fun I3 e3 => ?_)
    rw [← e3] at hp
    rw [hp.1.1, hp.1.2.1, w32_nat (k := N) (by omega), w32_nat (k := tS T N q) (by omega), ix_nat (k := tS T N q) (by omega), hp.2.1]
    by_cases c : N ≤ tS T N q
    · refine ⟨fun x => absurd x (by omega), fun _ I7 e7 => k I7 ?_⟩
      rw [e7]
      obtain ⟨z1, z2⟩ := k_end c
      refine ⟨v, ?_, fun x => ?_⟩
      · rw [z1, z2]; exact hp.w6 _
      · rw [z2] at x; omega
    have hb := hT (tS T N q) (by omega)
    refine ⟨fun _ => ⟨inb_b (by omega) (by omega) (by decide), fun I4 e4 => ?_⟩, fun x => absurd (show (tS T N q : Int) < (N : Int) by omega) x⟩
    have h4 : PV T N I0 Y I4 (tS T N q) f pl (tS T N q : Int) tk (T (tS T N q)) := by rw [e4]; exact hp.w8 _
    rw [h4.1.2.2.2.2.2.2, w32_id (z := T (tS T N q)) (by omega) (by omega), show w32 97 = 97 from rfl, show w32 122 = 122 from rfl]
    have k183 : ¬ (97 ≤ T (tS T N q) ∧ T (tS T N q) ≤ 122) → ¬ (48 ≤ T (tS T N q) ∧ T (tS T N q) ≤ 57) → Pa_takeToken_k183 G S I4 R := fun n1 n2 => by
      refine b_Pa_takeToken_k183 hS (fun I5 e5 => ?_)
      have h5 : PV T N I0 Y I5 (tS T N q + 1) f pl (tS T N q : Int) tk (T (tS T N q)) := by rw [e5, h4.1.2.1]; exact h4.w5 (by omega)
      rw [h5.1.2.2.2.2.2.2, w32_id (z := T (tS T N q)) (by omega) (by omega), show w32 58 = 58 from rfl, show w32 62 = 62 from rfl]
      obtain ⟨z1, z2, z3⟩ := k_oth c n1 n2
      have fin : ∀ J (z : Nat), (z = if 58 ≤ T (tS T N q) ∧ T (tS T N q) ≤ 62 then 3 else 4) → J = up I5 c_parser 6 (z : Int) → R J := fun J z ez eJ => by
        refine k J ⟨T (tS T N q), ?_, fun _ => z3.symm⟩
        rw [eJ, z1, z2, ← ez]; exact h5.w6 _
      exact ⟨fun x J e => fin J 4 (by rw [if_neg (by omega)]) e, fun x => ⟨fun y J e => fin J 4 (by rw [if_neg (by omega)]) e, fun y J e => fin J 3 (by rw [if_pos (by omega)]) e⟩⟩
    have k124 : ¬ (97 ≤ T (tS T N q) ∧ T (tS T N q) ≤ 122) → Pa_takeToken_k124 G S I4 R := fun n1 => by
      refine b_Pa_takeToken_k124 hS ?_
      rw [h4.1.2.2.2.2.2.2, w32_id (z := T (tS T N q)) (by omega) (by omega), show w32 48 = 48 from rfl, show w32 57 = 57 from rfl]
      refine ⟨fun x => k183 n1 (by omega), fun x => ⟨fun y => k183 n1 (by omega), fun y => ?_⟩⟩
      have n2 : 48 ≤ T (tS T N q) ∧ T (tS T N q) ≤ 57 := by omega
      obtain ⟨z1, z2, z3⟩ := k_num c n2
      refine s_pass (lo := 48) (hi := 57) hS hN hT (by decide) (by omega) h4 (fun I8 h8 => ?_)
      have tp := tE_top (T := T) hq
      have gt := tE_gt hN c
      have h8 : PV T N I0 Y I8 (tE T N q) f pl (tS T N q : Int) tk (T (tS T N q)) := by rw [z1]; exact h8
      rw [h8.1.2.1, h8.1.2.2.2.2.1, show w32 4 = 4 from rfl, w32_id (z := (tE T N q : Int) - (tS T N q : Int)) (by omega) (by omega)]
      have fin : ∀ J (z : Nat), (z = if tE T N q - tS T N q ≤ 4 then 2 else 4) → J = up I8 c_parser 6 (z : Int) → Pa_readDigits G S J (fun r I10 => ∀ I12 : XI, I12 = up I10 c_parser 8 r → R I12) := fun J z ez eJ => by
        have hJ : PV T N I0 Y J (tE T N q) f pl (tS T N q : Int) (z : Int) (T (tS T N q)) := by rw [eJ]; exact h8.w6 _
        refine s_digs hS (by omega) (by omega) hJ (fun I12 e12 => k I12 ⟨tV T N q, ?_, fun _ => rfl⟩)
        rw [e12, z2, ← ez, z3]; exact hJ.w8 _
      exact ⟨fun x J e => fin J 4 (by rw [if_neg (by omega)]) e, fun x J e => fin J 2 (by rw [if_pos (by omega)]) e⟩
    refine ⟨fun x => k124 (by omega), fun x => ⟨fun y => k124 (by omega), fun y => ?_⟩⟩
    obtain ⟨z1, z2⟩ := k_word (T := T) c ⟨by omega, by omega⟩
    refine s_pass (lo := 97) (hi := 122) hS hN hT (by decide) (by omega) h4 (fun I5 h5 I6 e6 => k I6 ⟨T (tS T N q), ?_, fun x => ?_⟩)
    · rw [e6, z1, z2]; exact h5.w6 _
    · rw [z2] at x; omega
  have key : ∀ m q' I, N ≤ q' + m → sc (blk T N) q' = tS T N q → PV T N I0 Y I q' f pl st tk v → q' ≤ N → Pa_takeToken_k0 G S I R := by
    intro m
    induction m with
    | zero =>
      intro q' I hm hs h hq'
      refine b_Pa_takeToken_k0 hS ?_
      rw [h.1.1, h.1.2.1, w32_nat (k := N) (by omega), w32_nat (k := q') (by omega)]
      refine ⟨fun _ => k52 I ?_, fun x => absurd x (by omega)⟩
      rw [← hs, scn_eq blk_out hN, if_neg (by rw [blk_out q' (by omega)]; decide)]; exact h
    | succ m ih =>
      intro q' I hm hs h hq'
      refine b_Pa_takeToken_k0 hS ?_
      rw [h.1.1, h.1.2.1, w32_nat (k := N) (by omega), w32_nat (k := q') (by omega), ix_nat (k := q') (by omega), h.2.1, show w32 10 = 10 from rfl, show w32 32 = 32 from rfl]
      by_cases c : N ≤ q'
      · refine ⟨fun _ => k52 I ?_, fun x => absurd x (by omega)⟩
        rw [← hs, scn_eq blk_out hN, if_neg (by rw [blk_out q' c]; decide)]; exact h
      have hb := hT q' (by omega)
      rw [w32_id (z := T q') (by omega) (by omega)]
      have i0 : inb (q' : Int) 500 := inb_b (by omega) (by omega) (by decide)
      have go : (T q' = 10 ∨ T q' = 32) → ∀ I1 : XI, I1 = up I c_parser 5 ((q' : Int) + 1) → Pa_takeToken_k0 G S I1 R := fun x I1 e1 => by
        rw [e1]
        refine ih (q' + 1) _ (by omega) ?_ (h.w5 (q' := q' + 1) (by omega)) (by omega)
        rw [← hs, scn_eq blk_out hN q', if_pos (show blk T N q' = true from decide_eq_true ⟨by omega, x⟩)]
      refine ⟨fun x => absurd x (by omega), fun _ => ⟨i0, fun x => go (Or.inl x), fun x => ⟨i0, fun y => go (Or.inr y), fun y => k52 I ?_⟩⟩⟩
      rw [← hs, scn_eq blk_out hN, if_neg (by rw [show blk T N q' = false from decide_eq_false (fun z => by omega)]; decide)]; exact h
  exact key (N - q) q I (by omega) rfl h hq
/-- the token at p is the word w -/
def isW (T : Nat → Int) (N p w : Nat) : Bool := decide (tK T N p = 1 ∧ tE T N p - tS T N p = xsL.getD w 0 ∧ ∀ i, i < xsL.getD w 0 → T (tS T N p + i) = xsC w i)
theorem s_isW {p w : Nat} {R : Int → XI → Prop} (hS : xSh S) (hN : N ≤ 500) (hT : byt T) (hp : p ≤ N) (hw : w < 16) (h : PS T N I0 Y I p f pl) (k1 : isW T N p w = true → R 1 I) (k0 : isW T N p w = false → R 0 I) : Pa_isWord G S I w R := by
  obtain ⟨v, h, -⟩ := h
  have le := tE_ge (T := T) (p := p) hN
  have tp := tE_top (T := T) hp
  have kl := tK_le (T := T) (N := N) (p := p)
  have xl := xsL_in w hw
  refine b_Pa_isWord hS ?_
  rw [h.1.2.2.2.2.2.1, h.1.2.1, h.1.2.2.2.2.1, w32_nat (k := tK T N p) (by omega), show w32 1 = 1 from rfl, w32_id (z := (tE T N p : Int) - (tS T N p : Int)) (by omega) (by omega), w32_nat (k := xsL.getD w 0) (by omega)]
  refine ⟨fun x => ⟨hw, fun y => ?_, fun y => k0 (decide_eq_false (fun z => by omega))⟩, fun x => k0 (decide_eq_false (fun z => by omega))⟩
  have gt := (tK_1 (T := T) (N := N) (p := p) (by omega)).1
  have key : ∀ m i, i + m = xsL.getD w 0 → (∀ j, j < i → T (tS T N p + j) = xsC w j) → Pa_isWord_k28 G S I w (i : Int) R := by
    intro m
    induction m with
    | zero =>
      intro i e hi
      refine b_Pa_isWord_k28 hS ⟨hw, ?_⟩
      rw [w32_nat (k := xsL.getD w 0) (by omega), w32_nat (k := i) (by omega)]
      exact ⟨fun _ => k1 (decide_eq_true ⟨by omega, by omega, fun j hj => hi j (by omega)⟩), fun z => absurd z (by omega)⟩
    | succ m ih =>
      intro i e hi
      refine b_Pa_isWord_k28 hS ⟨hw, ?_⟩
      have xb := xsC_in w hw i (by omega)
      have hb := hT (tS T N p + i) (by omega)
      have c0 : (tS T N p : Int) + (i : Int) = ((tS T N p + i : Nat) : Int) := by omega
      rw [w32_nat (k := xsL.getD w 0) (by omega), w32_nat (k := i) (by omega), h.1.2.2.2.2.1, c0, ix_nat (k := tS T N p + i) (by omega), ix_nat (k := i) (by omega), h.2.1, w32_id (z := T (tS T N p + i)) (by omega) (by omega), w32_id (z := xsC w i) (by omega) (by omega)]
      refine ⟨fun z => absurd z (by omega), fun _ => ⟨inb_b (by omega) (by omega) (by decide), hw, inb_b (by omega) (by omega) (by omega), fun z => ?_, fun z => k0 (decide_eq_false (fun u => z (u.2.2 i (by omega))))⟩⟩
      have c1 : (i : Int) + 1 = ((i + 1 : Nat) : Int) := by omega
      rw [c1]
      exact ih (i + 1) (by omega) (fun j hj => by
        by_cases ej : j = i
        · rw [ej]; exact z
        · exact hi j (by omega))
  exact key (xsL.getD w 0) 0 (by omega) (fun j hj => absurd hj (by omega))
end TC
