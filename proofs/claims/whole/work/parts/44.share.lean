/-! ===== sharing out: the greatest rests ===== -/
def ud (f : Nat → Int) (b : Nat) (v : Int) : Nat → Int := fun j => if j = b then v else f j
/-- the first place of the greatest of r 0 .. r n -/
def amx (r : Nat → Int) : Nat → Nat
  | 0 => 0
  | n + 1 => if r (amx r n) < r (n + 1) then n + 1 else amx r n
theorem amx_le (r : Nat → Int) : ∀ n, amx r n ≤ n
  | 0 => Nat.le_refl _
  | n + 1 => by
    have := amx_le r n
    unfold amx; split <;> omega
theorem amx_max (r : Nat → Int) : ∀ n j, j ≤ n → r j ≤ r (amx r n)
  | 0, j, h => by rw [show j = 0 by omega]; exact Int.le_refl _
  | n + 1, j, h => by
    unfold amx
    by_cases e : j = n + 1
    · subst e; split <;> omega
    · have := amx_max r n j (by omega)
      split <;> omega
theorem amx_first (r : Nat → Int) : ∀ n j, j < amx r n → r j < r (amx r n)
  | 0, j, h => by simp [amx] at h
  | n + 1, j, h => by
    unfold amx at h ⊢
    split at h
    next hc => rw [if_pos hc]; have := amx_max r n j (by omega); omega
    next hc => rw [if_neg hc]; exact amx_first r n j h
theorem amx_is {r : Nat → Int} {n b : Nat} (hb : b ≤ n) (h1 : ∀ j, j ≤ n → r j ≤ r b) (h2 : ∀ j, j < b → r j < r b) : amx r n = b := by
  have a1 := amx_max r n b hb
  have a2 := h1 (amx r n) (amx_le r n)
  by_cases hlt : amx r n < b
  · have := h2 _ hlt; omega
  · by_cases hgt : b < amx r n
    · have := amx_first r n b hgt; omega
    · omega
/-- two rows of rests of which the greatest is above 0 have it at one place, if they differ only where both aren't above 0 -/
theorem amx_same {r q : Nat → Int} {m n : Nat} (hmn : m ≤ n) (h : ∀ j, j ≤ m → r j = q j ∨ (r j ≤ 0 ∧ q j ≤ 0)) (h0 : ∀ j, m < j → j ≤ n → r j ≤ 0) (hp : 0 < r (amx r n)) : amx q m = amx r n := by
  have hle : amx r n ≤ m := by
    apply Nat.le_of_not_lt
    intro hc
    have := h0 _ hc (amx_le r n); omega
  have hb := h _ hle
  refine amx_is hle (fun j hj => ?_) (fun j hj => ?_)
  · have := amx_max r n j (by omega)
    have := h j hj
    omega
  · have := amx_first r n j hj
    have := h j (by omega)
    omega
/-- k picks: what has been added, and the rests -/
def pik (e r : Nat → Int) : Nat → (Nat → Int) × (Nat → Int)
  | 0 => (e, r)
  | k + 1 => (ud (pik e r k).1 (amx (pik e r k).2 9) ((pik e r k).1 (amx (pik e r k).2 9) + 1), ud (pik e r k).2 (amx (pik e r k).2 9) (-1))
/-- what is above 0 of a row -/
def posS (r : Nat → Int) (n : Nat) : Int := sumA (fun j => if 0 < r j then r j else 0) n
theorem posS_ud {r : Nat → Int} {b : Nat} (hb : 0 < r b) : ∀ n, posS (ud r b (-1)) n = if b < n then posS r n - r b else posS r n
  | 0 => by simp [posS, sumA]
  | n + 1 => by
    have ih := posS_ud hb n
    have s1 : posS (ud r b (-1)) (n + 1) = posS (ud r b (-1)) n + (if 0 < ud r b (-1) n then ud r b (-1) n else 0) := rfl
    have s2 : posS r (n + 1) = posS r n + (if 0 < r n then r n else 0) := rfl
    rw [s1, s2, ih]
    by_cases e : n = b
    · subst e
      have u : ud r n (-1) n = -1 := if_pos rfl
      have t1 : (if n < n then posS r n - r n else posS r n) = posS r n := if_neg (Nat.lt_irrefl n)
      have t3 : (if (0 : Int) < -1 then (-1 : Int) else 0) = 0 := rfl
      have t4 : (if 0 < r n then r n else 0) = r n := if_pos hb
      rw [u, t1, t3, t4]
      have t2 : (if n < n + 1 then posS r n + r n - r n else posS r n + r n) = posS r n + r n - r n := if_pos (Nat.lt_succ_self n)
      rw [t2]; omega
    · have u : ud r b (-1) n = r n := if_neg e
      rw [u]
      generalize (if 0 < r n then r n else 0) = x
      by_cases hlt : b < n
      · have t1 : (if b < n then posS r n - r b else posS r n) = posS r n - r b := if_pos hlt
        have t2 : (if b < n + 1 then posS r n + x - r b else posS r n + x) = posS r n + x - r b := if_pos (by omega)
        rw [t1, t2]; omega
      · have t1 : (if b < n then posS r n - r b else posS r n) = posS r n := if_neg hlt
        have t2 : (if b < n + 1 then posS r n + x - r b else posS r n + x) = posS r n + x := if_neg (by omega)
        rw [t1, t2]
theorem posS_pos {r : Nat → Int} : ∀ n, 0 < posS r (n + 1) → 0 < r (amx r n)
  | 0, h => by
    simp [posS, sumA] at h
    simp [amx]
    by_cases h0 : 0 < r 0
    · exact h0
    · rw [if_neg h0] at h; omega
  | n + 1, h => by
    unfold posS at h
    rw [sumA] at h
    by_cases hn : 0 < r (n + 1)
    · have := amx_max r (n + 1) (n + 1) (Nat.le_refl _); omega
    · simp only [hn, if_false] at h
      have h' : 0 < posS r (n + 1) := by unfold posS; omega
      have := posS_pos n h'
      have := amx_max r (n + 1) (amx r n) (Nat.le_succ_of_le (amx_le r n))
      omega
/-- as long as there is something left, the greatest rest is above 0 -/
theorem pik_pos {e r : Nat → Int} {all left : Int} (ha : 0 < all) (hr : ∀ j, r j < all) (hs : left * all ≤ posS r 10) : ∀ k : Nat, (k : Int) < left → (∀ j, (pik e r k).2 j < all) ∧ (left - k) * all ≤ posS (pik e r k).2 10 ∧ 0 < (pik e r k).2 (amx (pik e r k).2 9)
  | 0, hk => by
    refine ⟨hr, ?_, posS_pos 9 ?_⟩
    · simpa [pik] using hs
    · have : all ≤ left * all := by
        have h1 : 1 ≤ left := by omega
        have := Int.mul_le_mul_of_nonneg_right h1 (Int.le_of_lt ha)
        omega
      show 0 < posS r 10
      omega
  | k + 1, hk => by
    obtain ⟨i1, i2, i3⟩ := pik_pos (e := e) ha hr hs k (by omega)
    have hb := amx_le (pik e r k).2 9
    have hlt : amx (pik e r k).2 9 < 10 := by omega
    have hall := i1 (amx (pik e r k).2 9)
    have hp := posS_ud (r := (pik e r k).2) i3 10
    rw [if_pos hlt] at hp
    have e1 : (left - ((k + 1 : Nat) : Int)) * all = (left - k) * all - all := by
      rw [show (left - ((k + 1 : Nat) : Int)) = (left - k) - 1 by omega, Int.sub_mul, Int.one_mul]
    have hs' : (left - ((k + 1 : Nat) : Int)) * all ≤ posS (pik e r (k + 1)).2 10 := by
      show _ ≤ posS (ud (pik e r k).2 (amx (pik e r k).2 9) (-1)) 10
      rw [hp, e1]; omega
    refine ⟨fun j => ?_, hs', posS_pos 9 ?_⟩
    · show ud (pik e r k).2 (amx (pik e r k).2 9) (-1) j < all
      unfold ud; split
      · omega
      · exact i1 j
    · have h1 : 1 ≤ left - ((k + 1 : Nat) : Int) := by omega
      have := Int.mul_le_mul_of_nonneg_right h1 (Int.le_of_lt ha)
      show 0 < posS (pik e r (k + 1)).2 (9 + 1)
      have h2 : (9 : Nat) + 1 = 10 := rfl
      rw [h2]; omega
