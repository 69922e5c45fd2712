/-! ===== rows of PARTS: what sharing out keeps ===== -/
def shareRow (e : Nat → Int) (p : Int) (w : Nat → Int) (all : Int) : Nat → Int := (pik (fun j => e j + p * w j / all) (fun j => p * w j % all) (p - sumA (fun j => p * w j / all) 10).toNat).1
theorem sumA_mul (p : Int) (w : Nat → Int) : ∀ n, sumA (fun j => p * w j) n = p * sumA w n
  | 0 => by simp [sumA]
  | n + 1 => by simp only [sumA]; rw [sumA_mul p w n, Int.mul_add]
theorem sumA_dm (p all : Int) (w : Nat → Int) : ∀ n, sumA (fun j => p * w j) n = all * sumA (fun j => p * w j / all) n + sumA (fun j => p * w j % all) n
  | 0 => by simp [sumA]
  | n + 1 => by
    simp only [sumA]
    rw [sumA_dm p all w n, Int.mul_add]
    have := Int.mul_ediv_add_emod (p * w n) all
    omega
theorem sumA_add (f g : Nat → Int) : ∀ n, sumA (fun j => f j + g j) n = sumA f n + sumA g n
  | 0 => by simp [sumA]
  | n + 1 => by simp only [sumA]; rw [sumA_add f g n]; omega
theorem sumA_0 {f : Nat → Int} : ∀ {n : Nat}, (∀ j, j < n → f j = 0) → sumA f n = 0
  | 0, _ => rfl
  | n + 1, h => by simp only [sumA]; rw [sumA_0 (n := n) (fun j hj => h j (by omega)), h n (by omega)]; rfl
theorem sumA_nn {f : Nat → Int} : ∀ {n : Nat}, (∀ j, j < n → 0 ≤ f j) → 0 ≤ sumA f n
  | 0, _ => by simp [sumA]
  | n + 1, h => by simp only [sumA]; have := sumA_nn (n := n) (fun j hj => h j (by omega)); have := h n (by omega); omega
theorem sumA_lt {f : Nat → Int} {a : Int} : ∀ {n : Nat}, (∀ j, j < n → f j < a) → sumA f n ≤ n * a
  | 0, _ => by simp [sumA]
  | n + 1, h => by
    simp only [sumA]
    have := sumA_lt (n := n) (fun j hj => h j (by omega)); have := h n (by omega)
    have e : ((n + 1 : Nat) : Int) * a = n * a + a := by rw [show ((n + 1 : Nat) : Int) = (n : Int) + 1 from rfl, Int.add_mul, Int.one_mul]
    omega
theorem sumA_ge {f : Nat → Int} : ∀ {n : Nat}, (∀ j, j < n → 0 ≤ f j) → ∀ k, k < n → f k ≤ sumA f n
  | 0, _, k, hk => absurd hk (by omega)
  | n + 1, h, k, hk => by
    simp only [sumA]
    have h0 := h n (by omega)
    by_cases e : k = n
    · subst e; have := sumA_nn (n := k) (fun j hj => h j (by omega)); omega
    · have := sumA_ge (n := n) (fun j hj => h j (by omega)) k (by omega); omega
theorem posS_eq {r : Nat → Int} : ∀ n, (∀ j, j < n → 0 ≤ r j) → posS r n = sumA r n
  | 0, _ => rfl
  | n + 1, h => by
    have e1 : posS r (n + 1) = posS r n + (if 0 < r n then r n else 0) := rfl
    have e2 : sumA r (n + 1) = sumA r n + r n := rfl
    have h0 := h n (by omega)
    rw [e1, e2, posS_eq n (fun j hj => h j (by omega))]
    split <;> omega
theorem sumA_ud (f : Nat → Int) (b : Nat) (v : Int) : ∀ n, sumA (ud f b v) n = if b < n then sumA f n - f b + v else sumA f n
  | 0 => by simp [sumA]
  | n + 1 => by
    have ih := sumA_ud f b v n
    simp only [sumA]
    rw [ih]
    by_cases e : n = b
    · subst e
      have u : ud f n v n = v := if_pos rfl
      have t1 : (if n < n then sumA f n - f n + v else sumA f n) = sumA f n := if_neg (Nat.lt_irrefl n)
      have t2 : (if n < n + 1 then sumA f n + f n - f n + v else sumA f n + f n) = sumA f n + f n - f n + v := if_pos (Nat.lt_succ_self n)
      rw [u, t1, t2]; omega
    · have u : ud f b v n = f n := if_neg e
      rw [u]
      by_cases hlt : b < n
      · have t1 : (if b < n then sumA f n - f b + v else sumA f n) = sumA f n - f b + v := if_pos hlt
        have t2 : (if b < n + 1 then sumA f n + f n - f b + v else sumA f n + f n) = sumA f n + f n - f b + v := if_pos (by omega)
        rw [t1, t2]; omega
      · have t1 : (if b < n then sumA f n - f b + v else sumA f n) = sumA f n := if_neg hlt
        have t2 : (if b < n + 1 then sumA f n + f n - f b + v else sumA f n + f n) = sumA f n + f n := if_neg (by omega)
        rw [t1, t2]
theorem pik_sum (e r : Nat → Int) : ∀ k, sumA (pik e r k).1 10 = sumA e 10 + k
  | 0 => by simp [pik]
  | k + 1 => by
    have ih := pik_sum e r k
    have hb := amx_le (pik e r k).2 9
    show sumA (ud (pik e r k).1 (amx (pik e r k).2 9) _) 10 = _
    rw [sumA_ud, if_pos (by omega), ih]
    omega
theorem pik_ge (e r : Nat → Int) : ∀ k j, e j ≤ (pik e r k).1 j
  | 0, j => Int.le_refl _
  | k + 1, j => by
    have ih := pik_ge e r k j
    show _ ≤ ud (pik e r k).1 (amx (pik e r k).2 9) _ j
    unfold ud; split
    next h => subst h; omega
    next => exact ih
/-- where the rest isn't above 0 nothing is added, as long as the picks find something -/
theorem pik_out {e r : Nat → Int} {j : Nat} (hj : r j ≤ 0) : ∀ k, (∀ i, i < k → 0 < (pik e r i).2 (amx (pik e r i).2 9)) → (pik e r k).1 j = e j ∧ (pik e r k).2 j ≤ 0
  | 0, _ => ⟨rfl, hj⟩
  | k + 1, h => by
    obtain ⟨h1, h2⟩ := pik_out hj k (fun i hi => h i (by omega))
    have hp := h k (by omega)
    have hne : j ≠ amx (pik e r k).2 9 := fun c => by rw [← c] at hp; omega
    refine ⟨?_, ?_⟩
    · show ud (pik e r k).1 (amx (pik e r k).2 9) _ j = e j
      unfold ud; rw [if_neg hne]; exact h1
    · show ud (pik e r k).2 (amx (pik e r k).2 9) (-1) j ≤ 0
      unfold ud; rw [if_neg hne]; exact h2
section SR
variable {e w : Nat → Int} {p all : Int}
theorem sh_left (hp : 0 ≤ p) (hw : ∀ j, j < 10 → 0 ≤ w j) (hall : all = sumA w 10) (ha : 0 < all) : 0 ≤ p - sumA (fun j => p * w j / all) 10 ∧ p - sumA (fun j => p * w j / all) 10 ≤ 10 ∧ (p - sumA (fun j => p * w j / all) 10) * all = sumA (fun j => p * w j % all) 10 := by
  have h1 := sumA_dm p all w 10
  rw [sumA_mul, ← hall] at h1
  have hr0 : 0 ≤ sumA (fun j => p * w j % all) 10 := sumA_nn (fun j _ => Int.emod_nonneg _ (by omega))
  have hr1 : sumA (fun j => p * w j % all) 10 ≤ (10 : Nat) * all := sumA_lt (fun j _ => Int.emod_lt_of_pos _ ha)
  have e1 : (p - sumA (fun j => p * w j / all) 10) * all = sumA (fun j => p * w j % all) 10 := by
    rw [Int.sub_mul, Int.mul_comm (sumA (fun j => p * w j / all) 10) all]; omega
  generalize p - sumA (fun j => p * w j / all) 10 = l at e1 ⊢
  refine ⟨?_, ?_, e1⟩
  · apply Int.le_of_not_gt
    intro hc
    have : l * all < 0 := Int.mul_neg_of_neg_of_pos hc ha
    omega
  · apply Int.le_of_not_gt
    intro hc
    have h11 : 11 ≤ l := by omega
    have := Int.mul_le_mul_of_nonneg_right h11 (Int.le_of_lt ha)
    omega
theorem sh_pik (hp : 0 ≤ p) (hw : ∀ j, j < 10 → 0 ≤ w j) (hall : all = sumA w 10) (ha : 0 < all) (e0 : Nat → Int) : ∀ i : Nat, i < (p - sumA (fun j => p * w j / all) 10).toNat → 0 < (pik e0 (fun j => p * w j % all) i).2 (amx (pik e0 (fun j => p * w j % all) i).2 9) := by
  intro i hi
  obtain ⟨l0, l1, l2⟩ := sh_left hp hw hall ha
  refine (pik_pos (e := e0) (left := p - sumA (fun j => p * w j / all) 10) ha (fun j => Int.emod_lt_of_pos _ ha) ?_ i (by omega)).2.2
  rw [posS_eq 10 (fun j _ => Int.emod_nonneg _ (by omega)), l2]
  exact Int.le_refl _
theorem shareRow_sum (hp : 0 ≤ p) (hw : ∀ j, j < 10 → 0 ≤ w j) (hall : all = sumA w 10) (ha : 0 < all) : sumA (shareRow e p w all) 10 = sumA e 10 + p := by
  obtain ⟨l0, l1, -⟩ := sh_left hp hw hall ha
  unfold shareRow
  rw [pik_sum, sumA_add]
  omega
theorem shareRow_out (hp : 0 ≤ p) (hw : ∀ j, j < 10 → 0 ≤ w j) (hall : all = sumA w 10) (ha : 0 < all) {j : Nat} (hj : w j = 0) : shareRow e p w all j = e j := by
  have h0 : p * w j % all = 0 := by rw [hj]; simp
  have h1 : p * w j / all = 0 := by rw [hj]; simp
  unfold shareRow
  rw [(pik_out (by show p * w j % all ≤ 0; omega) _ (sh_pik hp hw hall ha _)).1]
  show e j + p * w j / all = e j
  omega
theorem shareRow_ge (hp : 0 ≤ p) (ha : 0 < all) {j : Nat} (hj : 0 ≤ w j) : e j ≤ shareRow e p w all j := by
  unfold shareRow
  refine Int.le_trans ?_ (pik_ge _ _ _ j)
  show e j ≤ e j + p * w j / all
  have := Int.ediv_nonneg (Int.mul_nonneg hp hj) (Int.le_of_lt ha)
  omega
end SR
