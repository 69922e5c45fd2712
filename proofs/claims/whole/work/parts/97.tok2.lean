/-! ===== printed by wip/gen97.py: RULES, the reference's tokens ===== -/
theorem scan_stop {P : Nat → Bool} {N : Nat} (hP : ∀ q, N ≤ q → P q = false) : ∀ f p, N ≤ p + f → P (scan P f p) = false
  | 0, p, h => hP p (by omega)
  | f + 1, p, h => by
    show P (if P p = true then scan P f (p + 1) else p) = false
    by_cases c : P p = true
    · rw [if_pos c]; exact scan_stop hP f (p + 1) (by omega)
    · rw [if_neg c]; exact Bool.eq_false_iff.mpr c
theorem sc_stop {P : Nat → Bool} {N : Nat} (hP : ∀ q, N ≤ q → P q = false) (hN : N ≤ 500) (p : Nat) : P (sc P p) = false := scan_stop hP 600 p (by omega)
def pkw (f : Nat → Int) : Nat → Int
  | 0 => 0
  | n + 1 => pkw f n * 256 + f n
theorem pkw_in {f : Nat → Int} : ∀ n, (∀ i, i < n → 1 ≤ f i ∧ f i ≤ 127) → 0 ≤ pkw f n ∧ 2 * pkw f n < 256 ^ n
  | 0, _ => by unfold pkw; decide
  | n + 1, h => by
    have h1 := pkw_in n (fun i hi => h i (by omega))
    have h2 := h n (by omega)
    have e : (256 : Int) ^ (n + 1) = 256 ^ n * 256 := Int.pow_succ 256 n
    unfold pkw
    omega
theorem pkw_cong {f g : Nat → Int} : ∀ n, (∀ i, i < n → f i = g i) → pkw f n = pkw g n
  | 0, _ => rfl
  | n + 1, h => by
    unfold pkw
    rw [pkw_cong n (fun i hi => h i (by omega)), h n (by omega)]
theorem pkw_inj {f g : Nat → Int} : ∀ n m, (∀ i, i < n → 1 ≤ f i ∧ f i ≤ 127) → (∀ i, i < m → 1 ≤ g i ∧ g i ≤ 127) → pkw f n = pkw g m → n = m ∧ ∀ i, i < n → f i = g i
  | 0, 0, _, _, _ => ⟨rfl, fun i hi => absurd hi (by omega)⟩
  | 0, m + 1, _, hg, e => by
    have h1 := pkw_in m (fun i hi => hg i (by omega))
    have h2 := hg m (by omega)
    have e : 0 = pkw g m * 256 + g m := e
    omega
  | n + 1, 0, hf, _, e => by
    have h1 := pkw_in n (fun i hi => hf i (by omega))
    have h2 := hf n (by omega)
    have e : pkw f n * 256 + f n = 0 := e
    omega
  | n + 1, m + 1, hf, hg, e => by
    have h2 := hf n (by omega)
    have h3 := hg m (by omega)
    have e : pkw f n * 256 + f n = pkw g m * 256 + g m := e
    obtain ⟨r1, r2⟩ := pkw_inj n m (fun i hi => hf i (by omega)) (fun i hi => hg i (by omega)) (show pkw f n = pkw g m by omega)
    refine ⟨by omega, fun i hi => ?_⟩
    by_cases c : i = n
    · rw [c]
      have : f n = g m := by omega
      rw [this, r1]
    · exact r2 i (by omega)
theorem llshl8 {x : Int} (h0 : 0 ≤ x) (h1 : x < 36028797018963968) : llshl x 8 = x * 256 := by
  unfold llshl
  have e : (Int64.ofInt x <<< ((Int32.ofInt 8).toInt64 &&& 63)).toInt = (BitVec.ofInt 64 x <<< 8).toInt := rfl
  rw [e]
  have h2 : (BitVec.ofInt 64 x <<< 8).toNat = (x * 256).toNat := by
    rw [BitVec.toNat_shiftLeft, BitVec.toNat_ofInt, Nat.shiftLeft_eq]
    omega
  rw [BitVec.toInt_eq_toNat_of_lt (by rw [h2]; omega), h2]
  omega
theorem llorB {x c : Int} (h0 : 0 ≤ x) (h1 : x < 36028797018963968) (c0 : 0 ≤ c) (c1 : c < 256) : llor (x * 256) c = x * 256 + c := by
  unfold llor
  have e : (Int64.ofInt (x * 256) ||| Int64.ofInt c).toInt = (BitVec.ofInt 64 (x * 256) ||| BitVec.ofInt 64 c).toInt := rfl
  rw [e]
  have n1 : (BitVec.ofInt 64 (x * 256)).toNat = 2 ^ 8 * x.toNat := by rw [BitVec.toNat_ofInt]; omega
  have n2 : (BitVec.ofInt 64 c).toNat = c.toNat := by rw [BitVec.toNat_ofInt]; omega
  have h2 : (BitVec.ofInt 64 (x * 256) ||| BitVec.ofInt 64 c).toNat = 2 ^ 8 * x.toNat + c.toNat := by
    rw [BitVec.toNat_or, n1, n2, ← Nat.two_pow_add_eq_or_of_lt (by omega)]
  rw [BitVec.toInt_eq_toNat_of_lt (by rw [h2]; omega), h2]
  omega
theorem llcmp_0 {a b : Int} (a0 : -9223372036854775808 ≤ a) (a1 : a < 9223372036854775808) (b0 : -9223372036854775808 ≤ b) (b1 : b < 9223372036854775808) : w32 (llcmp a b) = 0 ↔ a = b := by
  unfold llcmp
  rw [w64_id a0 a1, w64_id b0 b1]
  by_cases c : a < b
  · rw [if_pos c]; exact ⟨fun x => absurd x (by decide), fun x => by omega⟩
  · rw [if_neg c]
    by_cases d : a = b
    · rw [if_pos d]; exact ⟨fun _ => d, fun _ => rfl⟩
    · rw [if_neg d]; exact ⟨fun x => absurd x (by decide), fun x => absurd x d⟩
def QV (N : Nat) (J0 Z J : XI) (q : Nat) (s k v w wr lf lp n : Int) : Prop := (J r_obj 60 = (N : Int) ∧ J r_obj 59 = (q : Int) ∧ J r_obj 61 = s ∧ J r_obj 62 = k ∧ J r_obj 63 = v ∧ J r_obj 64 = w ∧ J r_obj 65 = wr ∧ J r_obj 66 = lf ∧ J r_obj 67 = lp ∧ J r_obj 68 = n) ∧ (∀ r, r < 7 → J (135 + r) = Z r) ∧ ∀ a, a ≠ 77 → (a < 135 ∨ 141 < a) → J a = J0 a
def kR (k : Nat) : Int := if k = 0 then 0 else if k = 4 then 1 else (k : Int) + 1
def QS (T : Nat → Int) (N : Nat) (J0 Z J : XI) (p : Nat) (wr lf lp n : Int) : Prop := ∃ v w, QV N J0 Z J (tE T N p) (tS T N p) (kR (tK T N p)) v w wr lf lp n ∧ (tK T N p = 2 ∨ tK T N p = 3 → v = tV T N p) ∧ (tK T N p = 1 → w = if tE T N p - tS T N p ≤ 8 then pkw (fun i => T (tS T N p + i)) (tE T N p - tS T N p) else 0)
section TR
variable {G : XG} {S : XS} {T : Nat → Int} {N : Nat} {J0 Z J : XI} {q : Nat} {s k v w wr lf lp n : Int}
theorem QV.oth (h : QV N J0 Z J q s k v w wr lf lp n) (j : Nat) (z : Int) : (∀ r, r < 7 → up J r_obj j z (135 + r) = Z r) ∧ ∀ a, a ≠ 77 → (a < 135 ∨ 141 < a) → up J r_obj j z a = J0 a :=
  ⟨fun r hr => (up_row (by show 135 + r ≠ 77; omega)).trans (h.2.1 r hr), fun a h1 h2 => (up_row (by show a ≠ 77; omega)).trans (h.2.2 a h1 h2)⟩
theorem QV.w59 (h : QV N J0 Z J q s k v w wr lf lp n) {z : Int} {q' : Nat} (hz : z = (q' : Int)) : QV N J0 Z (up J r_obj 59 z) q' s k v w wr lf lp n := by
  obtain ⟨a0, a1, a2, a3, a4, a5, a6, a7, a8, a9⟩ := h.1
  exact ⟨⟨(up_2 _ (by decide)).trans a0, (up_s _ _ _ _).trans hz, (up_2 _ (by decide)).trans a2, (up_2 _ (by decide)).trans a3, (up_2 _ (by decide)).trans a4, (up_2 _ (by decide)).trans a5, (up_2 _ (by decide)).trans a6, (up_2 _ (by decide)).trans a7, (up_2 _ (by decide)).trans a8, (up_2 _ (by decide)).trans a9⟩, h.oth 59 z⟩
theorem QV.w61 (h : QV N J0 Z J q s k v w wr lf lp n) (z : Int) : QV N J0 Z (up J r_obj 61 z) q z k v w wr lf lp n := by
  obtain ⟨a0, a1, a2, a3, a4, a5, a6, a7, a8, a9⟩ := h.1
  exact ⟨⟨(up_2 _ (by decide)).trans a0, (up_2 _ (by decide)).trans a1, up_s _ _ _ _, (up_2 _ (by decide)).trans a3, (up_2 _ (by decide)).trans a4, (up_2 _ (by decide)).trans a5, (up_2 _ (by decide)).trans a6, (up_2 _ (by decide)).trans a7, (up_2 _ (by decide)).trans a8, (up_2 _ (by decide)).trans a9⟩, h.oth 61 z⟩
theorem QV.w62 (h : QV N J0 Z J q s k v w wr lf lp n) (z : Int) : QV N J0 Z (up J r_obj 62 z) q s z v w wr lf lp n := by
  obtain ⟨a0, a1, a2, a3, a4, a5, a6, a7, a8, a9⟩ := h.1
  exact ⟨⟨(up_2 _ (by decide)).trans a0, (up_2 _ (by decide)).trans a1, (up_2 _ (by decide)).trans a2, up_s _ _ _ _, (up_2 _ (by decide)).trans a4, (up_2 _ (by decide)).trans a5, (up_2 _ (by decide)).trans a6, (up_2 _ (by decide)).trans a7, (up_2 _ (by decide)).trans a8, (up_2 _ (by decide)).trans a9⟩, h.oth 62 z⟩
theorem QV.w63 (h : QV N J0 Z J q s k v w wr lf lp n) (z : Int) : QV N J0 Z (up J r_obj 63 z) q s k z w wr lf lp n := by
  obtain ⟨a0, a1, a2, a3, a4, a5, a6, a7, a8, a9⟩ := h.1
  exact ⟨⟨(up_2 _ (by decide)).trans a0, (up_2 _ (by decide)).trans a1, (up_2 _ (by decide)).trans a2, (up_2 _ (by decide)).trans a3, up_s _ _ _ _, (up_2 _ (by decide)).trans a5, (up_2 _ (by decide)).trans a6, (up_2 _ (by decide)).trans a7, (up_2 _ (by decide)).trans a8, (up_2 _ (by decide)).trans a9⟩, h.oth 63 z⟩
theorem QV.w64 (h : QV N J0 Z J q s k v w wr lf lp n) (z : Int) : QV N J0 Z (up J r_obj 64 z) q s k v z wr lf lp n := by
  obtain ⟨a0, a1, a2, a3, a4, a5, a6, a7, a8, a9⟩ := h.1
  exact ⟨⟨(up_2 _ (by decide)).trans a0, (up_2 _ (by decide)).trans a1, (up_2 _ (by decide)).trans a2, (up_2 _ (by decide)).trans a3, (up_2 _ (by decide)).trans a4, up_s _ _ _ _, (up_2 _ (by decide)).trans a6, (up_2 _ (by decide)).trans a7, (up_2 _ (by decide)).trans a8, (up_2 _ (by decide)).trans a9⟩, h.oth 64 z⟩
theorem QV.w65 (h : QV N J0 Z J q s k v w wr lf lp n) (z : Int) : QV N J0 Z (up J r_obj 65 z) q s k v w z lf lp n := by
  obtain ⟨a0, a1, a2, a3, a4, a5, a6, a7, a8, a9⟩ := h.1
  exact ⟨⟨(up_2 _ (by decide)).trans a0, (up_2 _ (by decide)).trans a1, (up_2 _ (by decide)).trans a2, (up_2 _ (by decide)).trans a3, (up_2 _ (by decide)).trans a4, (up_2 _ (by decide)).trans a5, up_s _ _ _ _, (up_2 _ (by decide)).trans a7, (up_2 _ (by decide)).trans a8, (up_2 _ (by decide)).trans a9⟩, h.oth 65 z⟩
theorem QV.w66 (h : QV N J0 Z J q s k v w wr lf lp n) (z : Int) : QV N J0 Z (up J r_obj 66 z) q s k v w wr z lp n := by
  obtain ⟨a0, a1, a2, a3, a4, a5, a6, a7, a8, a9⟩ := h.1
  exact ⟨⟨(up_2 _ (by decide)).trans a0, (up_2 _ (by decide)).trans a1, (up_2 _ (by decide)).trans a2, (up_2 _ (by decide)).trans a3, (up_2 _ (by decide)).trans a4, (up_2 _ (by decide)).trans a5, (up_2 _ (by decide)).trans a6, up_s _ _ _ _, (up_2 _ (by decide)).trans a8, (up_2 _ (by decide)).trans a9⟩, h.oth 66 z⟩
theorem QV.w67 (h : QV N J0 Z J q s k v w wr lf lp n) (z : Int) : QV N J0 Z (up J r_obj 67 z) q s k v w wr lf z n := by
  obtain ⟨a0, a1, a2, a3, a4, a5, a6, a7, a8, a9⟩ := h.1
  exact ⟨⟨(up_2 _ (by decide)).trans a0, (up_2 _ (by decide)).trans a1, (up_2 _ (by decide)).trans a2, (up_2 _ (by decide)).trans a3, (up_2 _ (by decide)).trans a4, (up_2 _ (by decide)).trans a5, (up_2 _ (by decide)).trans a6, (up_2 _ (by decide)).trans a7, up_s _ _ _ _, (up_2 _ (by decide)).trans a9⟩, h.oth 67 z⟩
theorem QV.w68 (h : QV N J0 Z J q s k v w wr lf lp n) (z : Int) : QV N J0 Z (up J r_obj 68 z) q s k v w wr lf lp z := by
  obtain ⟨a0, a1, a2, a3, a4, a5, a6, a7, a8, a9⟩ := h.1
  exact ⟨⟨(up_2 _ (by decide)).trans a0, (up_2 _ (by decide)).trans a1, (up_2 _ (by decide)).trans a2, (up_2 _ (by decide)).trans a3, (up_2 _ (by decide)).trans a4, (up_2 _ (by decide)).trans a5, (up_2 _ (by decide)).trans a6, (up_2 _ (by decide)).trans a7, (up_2 _ (by decide)).trans a8, up_s _ _ _ _⟩, h.oth 68 z⟩
theorem QV.f59 (h : QV N J0 Z J q s k v w wr lf lp n) : J r_obj 59 = (q : Int) := h.1.2.1
theorem QV.f61 (h : QV N J0 Z J q s k v w wr lf lp n) : J r_obj 61 = s := h.1.2.2.1
theorem QV.f62 (h : QV N J0 Z J q s k v w wr lf lp n) : J r_obj 62 = k := h.1.2.2.2.1
theorem QV.f63 (h : QV N J0 Z J q s k v w wr lf lp n) : J r_obj 63 = v := h.1.2.2.2.2.1
theorem QV.f64 (h : QV N J0 Z J q s k v w wr lf lp n) : J r_obj 64 = w := h.1.2.2.2.2.2.1
theorem QV.f66 (h : QV N J0 Z J q s k v w wr lf lp n) : J r_obj 66 = lf := h.1.2.2.2.2.2.2.2.1
theorem QV.f68 (h : QV N J0 Z J q s k v w wr lf lp n) : J r_obj 68 = n := h.1.2.2.2.2.2.2.2.2.2
def tpe (T : Nat → Int) (N : Nat) (J0 : XI) : Prop := ∀ j, j < N → iand (J0 r_tape j) 255 = T j
theorem s_see {R : Int → XI → Prop} (hS : xSh S) (hN : N ≤ 500) (hB : tpe T N J0) (hq : q ≤ N) (h : QV N J0 Z J q s k v w wr lf lp n) (k1 : q < N → R (T q) J) (k0 : N ≤ q → R (-1) J) : R_see G S J R := by
  refine b_R_see hS ?_
  rw [h.1.1, h.1.2.1, w32_nat (k := N) (by omega), w32_nat (k := q) (by omega), ix_nat (k := q) (by omega), h.2.2 r_tape (by decide) (by decide)]
  refine ⟨fun x => k0 (by omega), fun x => ⟨inb_b (by omega) (by omega) (by decide), ?_⟩⟩
  rw [hB q (by omega)]
  exact k1 (by omega)
theorem s_tok {R : XI → Prop} (hS : xSh S) (hN : N ≤ 500) (hT : byt T) (hB : tpe T N J0) (hq : q ≤ N) (h : QV N J0 Z J q s k v w wr lf lp n) (kk : ∀ J, QS T N J0 Z J q wr lf lp n → R J) : R_token G S J R := by
  refine b_R_token hS ?_
  have st1 := tS_top (T := T) hq
  have hin : ∀ x, x < N → InR (T x) := fun x hx => by have := hT x (by omega); exact ⟨by omega, by omega⟩
  -- letters
  have k79 : ∀ (c : ¬ N ≤ tS T N q) (c1 : 97 ≤ T (tS T N q) ∧ T (tS T N q) ≤ 122) (v : Int) (m i : Nat) (J : XI) (w : Int), tS T N q + i + m = tE T N q → QV N J0 Z J (tS T N q + i) (tS T N q) k v w wr lf lp n → (i ≤ 8 → w = pkw (fun i => T (tS T N q + i)) i) → R_token_k79 G S J (i : Int) R := by
    intro c c1 v m
    obtain ⟨z1, z2⟩ := k_word c c1
    have al : ∀ i, tS T N q + i < tE T N q → tS T N q + i < N ∧ 97 ≤ T (tS T N q + i) ∧ T (tS T N q + i) ≤ 122 := fun i hi => by
      have := sc_all (P := rng T N 97 122) (p := tS T N q) (i := tS T N q + i) (by omega) (by rw [← z1]; exact hi)
      exact of_decide_eq_true this
    have sp : ¬ (tE T N q < N ∧ 97 ≤ T (tE T N q) ∧ T (tE T N q) ≤ 122) := by
      have := sc_stop (P := rng T N 97 122) rng_out hN (tS T N q)
      rw [← z1] at this
      exact of_decide_eq_false this
    have tp := tE_top (T := T) hq
    induction m with
    | zero =>
      intro i J w e h hw
      refine b_R_token_k79 hS ?_
      have fin : (w32 (i : Int) ≤ w32 8 → ∀ I37 : XI, I37 = up J r_obj 64 (J r_obj 64) → ∀ I38 : XI, I38 = up I37 r_obj 62 2 → R I38) ∧ (¬ (w32 (i : Int) ≤ w32 8) → ∀ I39 : XI, I39 = up J r_obj 64 0 → ∀ I40 : XI, I40 = up I39 r_obj 62 2 → R I40) := by
        rw [w32_nat (k := i) (by omega), show w32 8 = 8 from rfl]
        have ei : tE T N q - tS T N q = i := by omega
        have eE : tS T N q + i = tE T N q := by omega
        rw [eE] at h
        refine ⟨fun x I37 e37 I38 e38 => kk I38 ⟨v, w, ?_, fun y => ?_, fun _ => ?_⟩, fun x I39 e39 I40 e40 => kk I40 ⟨v, 0, ?_, fun y => ?_, fun _ => ?_⟩⟩
        · rw [e38, e37, h.f64, z2]; exact (h.w64 w).w62 2
        · rw [z2] at y; omega
        · rw [ei, if_pos (by omega)]; exact hw (by omega)
        · rw [e40, e39, z2]; exact (h.w64 0).w62 2
        · rw [z2] at y; omega
        · rw [ei, if_neg (by omega)]
      have eE : tS T N q + i = tE T N q := by omega
      refine s_see hS hN hB (by omega) h (fun x => ?_) (fun x => ?_)
      · exact s_Rin hS (hin _ x) ⟨by decide, by decide⟩ ⟨by decide, by decide⟩ (fun y1 y2 => absurd ⟨by omega, by rw [← eE]; exact y1, by rw [← eE]; exact y2⟩ sp) (fun _ => br0 fin)
      · exact s_Rin hS ⟨by decide, by decide⟩ ⟨by decide, by decide⟩ ⟨by decide, by decide⟩ (fun y1 y2 => absurd y1 (by decide)) (fun _ => br0 fin)
    | succ m ih =>
      intro i J w e h hw
      refine b_R_token_k79 hS ?_
      obtain ⟨x, l1, l2⟩ := al i (by omega)
      refine s_see hS hN hB (by omega) h (fun _ => ?_) (fun y => absurd y (by omega))
      refine s_Rin hS (hin _ x) ⟨by decide, by decide⟩ ⟨by decide, by decide⟩ (fun _ _ => br1 ?_) (fun y => absurd ⟨l1, l2⟩ y)
      refine s_see hS hN hB (by omega) h (fun _ => ?_) (fun y => absurd y (by omega))
      intro I43 e43 I44 e44
      have h43 := h.w64 (llor (llshl (J r_obj 64) 8) (w32 (T (tS T N q + i))))
      rw [← e43] at h43
      have h44 : QV N J0 Z I44 (tS T N q + (i + 1)) (tS T N q) k v (llor (llshl (J r_obj 64) 8) (w32 (T (tS T N q + i)))) wr lf lp n := by
        rw [e44, h43.f59]; exact h43.w59 (by omega)
      have c1 : (i : Int) + 1 = ((i + 1 : Nat) : Int) := by omega
      rw [c1]
      refine ih (i + 1) I44 _ (by omega) h44 (fun y => ?_)
      have hwi := hw (by omega)
      have pin := pkw_in (f := fun i => T (tS T N q + i)) i (fun j hj => by have := al j (by omega); show 1 ≤ T (tS T N q + j) ∧ T (tS T N q + j) ≤ 127; omega)
      have p7 : (256 : Int) ^ i ≤ 72057594037927936 := by
        match i, y with
        | 0, _ => decide
        | 1, _ => decide
        | 2, _ => decide
        | 3, _ => decide
        | 4, _ => decide
        | 5, _ => decide
        | 6, _ => decide
        | 7, _ => decide
      rw [h.f64, hwi, w32_id (z := T (tS T N q + i)) (by omega) (by omega), llshl8 pin.1 (by omega), llorB pin.1 (by omega) (by omega) (by omega)]
      rfl
  -- digits
  have k168 : ∀ (c : ¬ N ≤ tS T N q) (c2 : 48 ≤ T (tS T N q) ∧ T (tS T N q) ≤ 57) (w : Int) (m i : Nat) (J : XI), tS T N q + i + m = tE T N q → QV N J0 Z J (tS T N q + i) (tS T N q) k (dg T (tS T N q) (if i ≤ 4 then i else 4)) w wr lf lp n → R_token_k168 G S J (i : Int) R := by
    intro c c2 w m
    obtain ⟨z1, z2, z3⟩ := k_num c c2
    have al : ∀ i, tS T N q + i < tE T N q → tS T N q + i < N ∧ 48 ≤ T (tS T N q + i) ∧ T (tS T N q + i) ≤ 57 := fun i hi => by
      have := sc_all (P := rng T N 48 57) (p := tS T N q) (i := tS T N q + i) (by omega) (by rw [← z1]; exact hi)
      exact of_decide_eq_true this
    have sp : ¬ (tE T N q < N ∧ 48 ≤ T (tE T N q) ∧ T (tE T N q) ≤ 57) := by
      have := sc_stop (P := rng T N 48 57) rng_out hN (tS T N q)
      rw [← z1] at this
      exact of_decide_eq_false this
    have tp := tE_top (T := T) hq
    induction m with
    | zero =>
      intro i J e h
      refine b_R_token_k168 hS ?_
      have fin : (w32 (i : Int) ≤ w32 4 → ∀ I29 : XI, I29 = up J r_obj 62 3 → R I29) ∧ (¬ (w32 (i : Int) ≤ w32 4) → ∀ I30 : XI, I30 = up J r_obj 62 1 → R I30) := by
        rw [w32_nat (k := i) (by omega), show w32 4 = 4 from rfl]
        have ei : tE T N q - tS T N q = i := by omega
        have eE : tS T N q + i = tE T N q := by omega
        rw [eE] at h
        constructor
        · intro x I29 e29
          have t2 : tK T N q = 2 := by rw [z2, ei, if_pos (show i ≤ 4 by omega)]
          refine kk I29 ⟨dg T (tS T N q) (if i ≤ 4 then i else 4), w, ?_, fun _ => ?_, fun y => ?_⟩
          · rw [e29, t2]; exact h.w62 3
          · rw [z3, ei, if_pos (show i ≤ 4 by omega)]
          · rw [t2] at y; omega
        · intro x I30 e30
          have t4 : tK T N q = 4 := by rw [z2, ei, if_neg (show ¬ i ≤ 4 by omega)]
          refine kk I30 ⟨dg T (tS T N q) (if i ≤ 4 then i else 4), w, ?_, fun y => ?_, fun y => ?_⟩
          · rw [e30, t4]; exact h.w62 1
          · rw [t4] at y; omega
          · rw [t4] at y; omega
      have eE : tS T N q + i = tE T N q := by omega
      refine s_see hS hN hB (by omega) h (fun x => ?_) (fun x => ?_)
      · exact s_Rin hS (hin _ x) ⟨by decide, by decide⟩ ⟨by decide, by decide⟩ (fun y1 y2 => absurd ⟨by omega, by rw [← eE]; exact y1, by rw [← eE]; exact y2⟩ sp) (fun _ => br0 fin)
      · exact s_Rin hS ⟨by decide, by decide⟩ ⟨by decide, by decide⟩ ⟨by decide, by decide⟩ (fun y1 y2 => absurd y1 (by decide)) (fun _ => br0 fin)
    | succ m ih =>
      intro i J e h
      refine b_R_token_k168 hS ?_
      obtain ⟨x, l1, l2⟩ := al i (by omega)
      refine s_see hS hN hB (by omega) h (fun _ => ?_) (fun y => absurd y (by omega))
      refine s_Rin hS (hin _ x) ⟨by decide, by decide⟩ ⟨by decide, by decide⟩ (fun _ _ => br1 ?_) (fun y => absurd ⟨l1, l2⟩ y)
      have k210 : ∀ s0 : Int, s0 = dg T (tS T N q) (if i + 1 ≤ 4 then i + 1 else 4) → R_token_k210 G S J (i : Int) s0 R := fun s0 e0 => by
        refine b_R_token_k210 hS (fun I45 e45 I46 e46 => ?_)
        have h45 := h.w63 s0
        rw [← e45] at h45
        have h46 : QV N J0 Z I46 (tS T N q + (i + 1)) (tS T N q) k s0 w wr lf lp n := by
          rw [e46, h45.f59]; exact h45.w59 (by omega)
        rw [e0] at h46
        have c1 : (i : Int) + 1 = ((i + 1 : Nat) : Int) := by omega
        rw [c1]
        exact ih (i + 1) I46 (by omega) h46
      rw [w32_nat (k := i) (by omega), show w32 4 = 4 from rfl, h.f63]
      refine ⟨fun y => k210 _ ?_, fun y => s_see hS hN hB (by omega) h (fun _ => k210 _ ?_) (fun y => absurd y (by omega))⟩
      · by_cases c4 : i ≤ 4
        · rw [if_pos c4, if_neg (by omega), show i = 4 by omega]
        · rw [if_neg c4, if_neg (by omega)]
      · rw [if_pos (by omega), if_pos (by omega)]
        show _ = dg T (tS T N q) i * 10 + T (tS T N q + i) - 48
        omega
  have tail : ∀ J, QV N J0 Z J (tS T N q) s k v w wr lf lp n → (∀ I7 : XI, I7 = up J r_obj 61 (J r_obj 59) → R_see G S I7 (fun r9 I8 => (∀ I10 : XI, I10 = up I8 r_obj 63 (r9) → (∀ I11 : XI, I11 = up I10 r_obj 64 (0) → ((0 ≤ w32 (r9) → R_in G S I11 (r9) (97) (122) (fun r13 I12 => ((w32 (r13) = 0 → R_in G S I12 (r9) (48) (57) (fun r15 I14 => ((w32 (r15) = 0 → (∀ I16 : XI, I16 = up I14 r_obj 59 ((I14 r_obj 59) + (1)) → ((w32 (r9) = w32 (58) → (∀ I17 : XI, I17 = up I16 r_obj 62 (4) → R I17)) ∧ (¬ (w32 (r9) = w32 (58)) → ((w32 (r9) = w32 (59) → (∀ I18 : XI, I18 = up I16 r_obj 62 (4) → R I18)) ∧ (¬ (w32 (r9) = w32 (59)) → ((w32 (r9) = w32 (60) → (∀ I19 : XI, I19 = up I16 r_obj 62 (4) → R I19)) ∧ (¬ (w32 (r9) = w32 (60)) → ((w32 (r9) = w32 (62) → (∀ I20 : XI, I20 = up I16 r_obj 62 (4) → R I20)) ∧ (¬ (w32 (r9) = w32 (62)) → ((w32 (r9) = w32 (61) → (∀ I21 : XI, I21 = up I16 r_obj 62 (4) → R I21)) ∧ (¬ (w32 (r9) = w32 (61)) → (∀ I22 : XI, I22 = up I16 r_obj 62 (1) → R I22))))))))))))) ∧ (¬ (w32 (r15) = 0) → (∀ I23 : XI, I23 = up I14 r_obj 63 (0) → R_token_k168 G S I23 (0) R))))) ∧ (¬ (w32 (r13) = 0) → R_token_k79 G S I12 (0) R)))) ∧ (¬ (0 ≤ w32 (r9)) → (∀ I24 : XI, I24 = up I11 r_obj 62 (0) → R I24))))))) := by
    intro J h I7 e7
    have h7 : QV N J0 Z I7 (tS T N q) (tS T N q : Int) k v w wr lf lp n := by rw [e7, h.f59]; exact h.w61 _
    refine s_see hS hN hB st1 h7 (fun x => ?_) (fun x => ?_)
    · intro I10 e10 I11 e11
      have h11 : QV N J0 Z I11 (tS T N q) (tS T N q : Int) k (T (tS T N q)) 0 wr lf lp n := by rw [e11, e10]; exact (h7.w63 _).w64 0
      have hb := hT (tS T N q) (by omega)
      have c : ¬ N ≤ tS T N q := by omega
      rw [w32_id (z := T (tS T N q)) (by omega) (by omega)]
      refine ⟨fun _ => ?_, fun y => absurd hb.1 y⟩
      refine s_Rin hS (hin _ x) ⟨by decide, by decide⟩ ⟨by decide, by decide⟩ (fun y1 y2 => br1 ?_) (fun n1 => br0 ?_)
      · have ge := tE_ge (T := T) (p := q) hN
        exact k79 c ⟨y1, y2⟩ _ (tE T N q - tS T N q) 0 I11 0 (by omega) h11 (fun _ => rfl)
      refine s_Rin hS (hin _ x) ⟨by decide, by decide⟩ ⟨by decide, by decide⟩ (fun y1 y2 => br1 (fun I23 e23 => ?_)) (fun n2 => br0 (fun I16 e16 => ?_))
      · have ge := tE_ge (T := T) (p := q) hN
        refine k168 c ⟨y1, y2⟩ 0 (tE T N q - tS T N q) 0 I23 (by omega) ?_
        rw [e23]; exact h11.w63 0
      obtain ⟨z1, z2, z3⟩ := k_oth c n1 n2
      have h16 : QV N J0 Z I16 (tE T N q) (tS T N q : Int) k (T (tS T N q)) 0 wr lf lp n := by rw [e16, h11.f59, z1]; exact h11.w59 (by omega)
      have fin : ∀ K (z : Int), (z = kR (if 58 ≤ T (tS T N q) ∧ T (tS T N q) ≤ 62 then 3 else 4)) → K = up I16 r_obj 62 z → R K := fun K z ez eK => by
        refine kk K ⟨T (tS T N q), 0, ?_, fun _ => z3.symm, fun y => ?_⟩
        · rw [eK, z2, ← ez]; exact h16.w62 z
        · rw [z2] at y; split at y <;> omega
      have f4 : 58 ≤ T (tS T N q) ∧ T (tS T N q) ≤ 62 → ∀ K : XI, K = up I16 r_obj 62 4 → R K := fun y K eK => fin K 4 (by rw [if_pos y]; rfl) eK
      rw [show w32 58 = 58 from rfl, show w32 59 = 59 from rfl, show w32 60 = 60 from rfl, show w32 61 = 61 from rfl, show w32 62 = 62 from rfl]
      exact ⟨fun y => f4 (by omega), fun y1 => ⟨fun y => f4 (by omega), fun y2 => ⟨fun y => f4 (by omega), fun y3 => ⟨fun y => f4 (by omega), fun y4 => ⟨fun y => f4 (by omega), fun y5 K eK => fin K 1 (by rw [if_neg (by omega)]; rfl) eK⟩⟩⟩⟩⟩
    · intro I10 e10 I11 e11
      refine ⟨fun y => absurd y (by decide), fun _ I24 e24 => kk I24 ?_⟩
      obtain ⟨z1, z2⟩ := k_end x
      refine ⟨-1, 0, ?_, fun y => ?_, fun y => ?_⟩
      · rw [e24, e11, e10, z1, z2]; exact ((h7.w63 (-1)).w64 0).w62 0
      · rw [z2] at y; omega
      · rw [z2] at y; omega
  have key : ∀ m q' J, N ≤ q' + m → sc (blk T N) q' = tS T N q → QV N J0 Z J q' s k v w wr lf lp n → q' ≤ N → R_token_k0 G S J R := by
    intro m
    induction m with
    | zero =>
      intro q' J hm hs h hq'
      refine b_R_token_k0 hS ?_
      have eq : q' = tS T N q := by rw [← hs, scn_eq blk_out hN, if_neg (by rw [blk_out q' (by omega)]; decide)]
      refine s_see hS hN hB hq' h (fun x => absurd x (by omega)) (fun x => ⟨fun y => absurd y (by decide), fun _ => s_see hS hN hB hq' h (fun y => absurd y (by omega)) (fun _ => ⟨fun y => absurd y (by decide), fun _ => ?_⟩)⟩)
      rw [eq] at h
      exact tail J h
    | succ m ih =>
      intro q' J hm hs h hq'
      by_cases c : N ≤ q'
      · refine b_R_token_k0 hS ?_
        have eq : q' = tS T N q := by rw [← hs, scn_eq blk_out hN, if_neg (by rw [blk_out q' (by omega)]; decide)]
        refine s_see hS hN hB hq' h (fun x => absurd x (by omega)) (fun x => ⟨fun y => absurd y (by decide), fun _ => s_see hS hN hB hq' h (fun y => absurd y (by omega)) (fun _ => ⟨fun y => absurd y (by decide), fun _ => ?_⟩)⟩)
        rw [eq] at h
        exact tail J h
      refine b_R_token_k0 hS ?_
      have hb := hT q' (by omega)
      have go : (T q' = 10 ∨ T q' = 32) → ∀ I1 : XI, I1 = up J r_obj 59 ((J r_obj 59) + 1) → R_token_k0 G S I1 R := fun x I1 e1 => by
        rw [e1, h.f59]
        refine ih (q' + 1) _ (by omega) ?_ (h.w59 (q' := q' + 1) (by omega)) (by omega)
        rw [← hs, scn_eq blk_out hN q', if_pos (show blk T N q' = true from decide_eq_true ⟨by omega, x⟩)]
      refine s_see hS hN hB hq' h (fun _ => ?_) (fun y => absurd y c)
      rw [w32_id (z := T q') (by omega) (by omega), show w32 10 = 10 from rfl]
      refine ⟨fun x => go (Or.inl x), fun x => s_see hS hN hB hq' h (fun _ => ?_) (fun y => absurd y c)⟩
      rw [w32_id (z := T q') (by omega) (by omega), show w32 32 = 32 from rfl]
      refine ⟨fun y => go (Or.inr y), fun y => ?_⟩
      have eq : q' = tS T N q := by rw [← hs, scn_eq blk_out hN, if_neg (by rw [show blk T N q' = false from decide_eq_false (fun z => by omega)]; decide)]
      rw [eq] at h
      exact tail J h
  exact key (N - q) q J (by omega) rfl h hq
theorem s_RisW {p x : Nat} {v1 : Int} {R : Int → XI → Prop} (hS : xSh S) (hN : N ≤ 500) (hp : p ≤ N) (hx : x < 16) (hv : v1 = pkw (xsC x) (xsL.getD x 0)) (h : QS T N J0 Z J p wr lf lp n) (k1 : isW T N p x = true → R 1 J) (k0 : isW T N p x = false → R 0 J) : R_isWord G S J v1 R := by
  obtain ⟨v, w, h, -, hw⟩ := h
  have kl := tK_le (T := T) (N := N) (p := p)
  have xl := xsL_in x hx
  have xc : ∀ i, i < xsL.getD x 0 → 1 ≤ xsC x i ∧ xsC x i ≤ 127 := fun i hi => by have := xsC_in x hx i hi; omega
  have pin := pkw_in (f := xsC x) (xsL.getD x 0) xc
  have p6 : ∀ i, i < 9 → (256 : Int) ^ i ≤ 18446744073709551616 := by decide +kernel
  have x1 : ∀ q, q < 16 → 1 ≤ xsL.getD q 0 := by decide +kernel
  refine b_R_isWord hS ?_
  rw [h.f62, h.f64]
  by_cases c : tK T N p = 1
  · have hw := hw c
    obtain ⟨g1, g2, g3⟩ := tK_1 c
    have al : ∀ i, i < tE T N p - tS T N p → 97 ≤ T (tS T N p + i) ∧ T (tS T N p + i) ≤ 122 := fun i hi => by
      have := sc_all (P := rng T N 97 122) (p := tS T N p) (i := tS T N p + i) (by omega) (by rw [← g3]; omega)
      exact (of_decide_eq_true this).2
    rw [c, show w32 (kR 1) = 2 from rfl, show w32 2 = 2 from rfl]
    refine ⟨fun _ => ?_, fun y => absurd rfl y⟩
    have b := p6 (xsL.getD x 0) (by omega)
    by_cases l8 : tE T N p - tS T N p ≤ 8
    · rw [if_pos l8] at hw
      have pin2 := pkw_in (f := fun i => T (tS T N p + i)) (tE T N p - tS T N p) (fun i hi => by have := al i hi; show 1 ≤ T (tS T N p + i) ∧ T (tS T N p + i) ≤ 127; omega)
      have b2 := p6 (tE T N p - tS T N p) (by omega)
      rw [llcmp_0 (by omega) (by omega) (by omega) (by omega), hw, hv]
      refine ⟨fun y => k1 ?_, fun y => k0 (decide_eq_false (fun z => y ?_))⟩
      · obtain ⟨r1, r2⟩ := pkw_inj _ _ (fun i hi => by have := al i hi; show 1 ≤ T (tS T N p + i) ∧ T (tS T N p + i) ≤ 127; omega) xc y
        exact decide_eq_true ⟨c, r1, fun i hi => r2 i (by omega)⟩
      · rw [z.2.1]; exact pkw_cong _ z.2.2
    · rw [if_neg l8] at hw
      rw [llcmp_0 (by omega) (by omega) (by omega) (by omega), hw, hv]
      refine ⟨fun y => ?_, fun y => k0 (decide_eq_false (fun z => by have := z.2.1; omega))⟩
      exfalso
      have := x1 x hx
      obtain ⟨r1, _⟩ := pkw_inj (f := xsC x) (g := xsC x) 0 (xsL.getD x 0) (fun i hi => absurd hi (by omega)) xc y
      omega
  · have : ¬ w32 (kR (tK T N p)) = w32 2 := by
      have l : tK T N p = 0 ∨ tK T N p = 2 ∨ tK T N p = 3 ∨ tK T N p = 4 := by omega
      rcases l with e | e | e | e <;> (rw [e]; decide)
    exact ⟨fun y => absurd y this, fun _ => k0 (decide_eq_false (fun z => c z.1))⟩
end TR
