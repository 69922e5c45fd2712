/-! ===== bits ===== -/
theorem nI_cst (n : Nat) : Int32.ofInt (n : Int) = nI n := by
  apply Int32.toBitVec_inj.1
  show BitVec.ofInt 32 (n : Int) = BitVec.ofNat 32 n
  simp
theorem sh_cnt : ∀ n, n < 32 → ((nI n &&& 31).toBitVec.smod 32).toNat = n := by decide +kernel
theorem ishrN {n k : Nat} (hn : n < 2147483648) (hk : k < 32) : ishr (n : Int) (k : Int) = ((n / 2 ^ k : Nat) : Int) := by
  unfold ishr
  have h2 : n / 2 ^ k ≤ n := Nat.div_le_self _ _
  rw [nI_cst, nI_cst, pk_shrN hn _ k (sh_cnt k hk), nI_toInt (by omega)]
theorem ishlN {n k : Nat} (hk : k < 32) (h : n * 2 ^ k < 2147483648) : ishl (n : Int) (k : Int) = ((n * 2 ^ k : Nat) : Int) := by
  unfold ishl
  rw [nI_cst, nI_cst, pk_shlN _ k (sh_cnt k hk) (by omega), nI_toInt h]
theorem nI_anD (a b : Nat) : nI a &&& nI b = nI (a &&& b) := by
  apply Int32.toBitVec_inj.1
  show BitVec.ofNat 32 a &&& BitVec.ofNat 32 b = BitVec.ofNat 32 (a &&& b)
  apply BitVec.eq_of_getLsbD_eq
  intro i hi
  simp [hi]
theorem nI_oR (a b : Nat) : nI a ||| nI b = nI (a ||| b) := by
  apply Int32.toBitVec_inj.1
  show BitVec.ofNat 32 a ||| BitVec.ofNat 32 b = BitVec.ofNat 32 (a ||| b)
  apply BitVec.eq_of_getLsbD_eq
  intro i hi
  simp [hi]
theorem nI_xoR (a b : Nat) : nI a ^^^ nI b = nI (a ^^^ b) := by
  apply Int32.toBitVec_inj.1
  show BitVec.ofNat 32 a ^^^ BitVec.ofNat 32 b = BitVec.ofNat 32 (a ^^^ b)
  apply BitVec.eq_of_getLsbD_eq
  intro i hi
  simp [hi]
theorem iandN {a b : Nat} (ha : a < 2147483648) : iand (a : Int) (b : Int) = ((a &&& b : Nat) : Int) := by
  unfold iand
  have := Nat.and_le_left (n := a) (m := b)
  rw [nI_cst, nI_cst, nI_anD, nI_toInt (by omega)]
theorem iorN {a b : Nat} (ha : a < 2147483648) (hb : b < 2147483648) : ior (a : Int) (b : Int) = ((a ||| b : Nat) : Int) := by
  unfold ior
  have := Nat.or_lt_two_pow (n := 31) (x := a) (y := b) ha hb
  rw [nI_cst, nI_cst, nI_oR, nI_toInt this]
theorem ixorN {a b : Nat} (ha : a < 2147483648) (hb : b < 2147483648) : ixor (a : Int) (b : Int) = ((a ^^^ b : Nat) : Int) := by
  unfold ixor
  have := Nat.xor_lt_two_pow (n := 31) (x := a) (y := b) ha hb
  rw [nI_cst, nI_cst, nI_xoR, nI_toInt this]
def bitN (n k : Nat) : Nat := n / 2 ^ k % 2
theorem bitN_01 (n k : Nat) : bitN n k = 0 ∨ bitN n k = 1 := by unfold bitN; omega
theorem bitI_N (n k : Nat) : bitI (n : Int) k = ((bitN n k : Nat) : Int) := by
  unfold bitI bitN
  have e : (2 : Int) ^ k = ((2 ^ k : Nat) : Int) := by simp
  rw [e]
  rfl
theorem bitN_tb (n k : Nat) : n.testBit k = true ↔ bitN n k = 1 := by
  unfold bitN
  rw [Nat.testBit_eq_decide_div_mod_eq]; simp
theorem bitN_or (n b k : Nat) : bitN (n ||| 2 ^ b) k = 1 ↔ (bitN n k = 1 ∨ k = b) := by
  rw [← bitN_tb, ← bitN_tb, Nat.testBit_or, Nat.testBit_two_pow]
  rw [Bool.or_eq_true, decide_eq_true_iff]
  constructor <;> (intro h; rcases h with h | h; exact Or.inl h; exact Or.inr h.symm)
theorem bitN_and (n m k : Nat) : bitN (n &&& m) k = 1 ↔ (bitN n k = 1 ∧ bitN m k = 1) := by
  rw [← bitN_tb, ← bitN_tb, ← bitN_tb, Nat.testBit_and]
  simp
theorem bitN_0 (k : Nat) : bitN 0 k = 0 := by unfold bitN; simp
theorem bitN_ext {n m : Nat} (h : ∀ k, bitN n k = 1 ↔ bitN m k = 1) : n = m := by
  apply Nat.eq_of_testBit_eq
  intro k
  have := h k
  rw [← bitN_tb, ← bitN_tb] at this
  cases hn : n.testBit k <;> cases hm : m.testBit k <;> simp_all
theorem bitN_big {n k : Nat} (h : n < 2 ^ k) : bitN n k = 0 := by
  unfold bitN
  rw [Nat.div_eq_of_lt h]
/-- a bit, read as the code does -/
theorem bit_read {w : Int} {k : Nat} (h0 : 0 ≤ w) (h1 : w < 2147483648) (hk : k < 32) : iand (ishr w (k : Int)) 1 = bitI w k ∧ (bitI w k = 0 ∨ bitI w k = 1) := by
  obtain ⟨n, rfl⟩ : ∃ n : Nat, w = (n : Int) := ⟨w.toNat, by omega⟩
  have hn : n < 2147483648 := by omega
  have h2 : n / 2 ^ k ≤ n := Nat.div_le_self _ _
  have e1 : (1 : Int) = ((1 : Nat) : Int) := rfl
  rw [ishrN hn hk, e1, iandN (by omega), Nat.and_one_is_mod, bitI_N]
  refine ⟨rfl, ?_⟩
  have := bitN_01 n k
  omega
/-- a bit, set as the code does -/
theorem bit_set {w : Int} {b : Nat} (h0 : 0 ≤ w) (h1 : w < 16777216) (hb : b < 24) : (0 ≤ ior w (ishl 1 (b : Int)) ∧ ior w (ishl 1 (b : Int)) < 16777216) ∧ ∀ k, bitI (ior w (ishl 1 (b : Int))) k = if k = b then 1 else bitI w k := by
  obtain ⟨n, rfl⟩ : ∃ n : Nat, w = (n : Int) := ⟨w.toNat, by omega⟩
  have hn : n < 16777216 := by omega
  have e1 : (1 : Int) = ((1 : Nat) : Int) := rfl
  have hp : 2 ^ b < 16777216 := Nat.pow_lt_pow_right (n := 24) (by decide) hb
  have hor := Nat.or_lt_two_pow (n := 24) (x := n) (y := 2 ^ b) hn hp
  rw [e1, ishlN (by omega) (by omega), Nat.one_mul, iorN (by omega) (by omega)]
  refine ⟨by omega, fun k => ?_⟩
  rw [bitI_N, bitI_N]
  have h := bitN_or n b k
  have := bitN_01 n k
  have := bitN_01 (n ||| 2 ^ b) k
  split
  · next e => have := h.mpr (Or.inr e); omega
  · next e =>
    by_cases c : bitN n k = 1
    · have := h.mpr (Or.inl c); omega
    · have : ¬ bitN (n ||| 2 ^ b) k = 1 := fun q => by rcases h.mp q with q | q; exact c q; exact e q
      omega
