/-! ===== printed by wip/gen93.py: what constructors make ===== -/
/-- references that are laid: (cell, place, cell), the last one first; 0 none, o + 1 the cell o -/
def mkR (R : List (Nat × Nat × Nat)) : Nat → Nat → Nat → Nat
  | 0, _, _ => 0
  | m + 1, d, j => if (R.getD m (0, 0, 0)).1 = d ∧ (R.getD m (0, 0, 0)).2.1 = j then (R.getD m (0, 0, 0)).2.2 + 1 else mkR R m d j
def mkV (W : List (Nat × Nat × Int)) : Nat → Nat → Nat → Int
  | 0, _, _ => 0
  | m + 1, d, j => if (W.getD m (0, 0, 0)).1 = d ∧ (W.getD m (0, 0, 0)).2.1 = j then (W.getD m (0, 0, 0)).2.2 else mkV W m d j
/-- n cells of the table L are made behind S, m references of R are laid -/
def mkS (S : XS) (L : List (Nat × Nat)) (n : Nat) (R : List (Nat × Nat × Nat)) (m : Nat) : XS :=
  (S.1 + n, fun i => if S.1 ≤ i ∧ i < S.1 + n then L.getD (i - S.1) (0, 0) else S.2.1 i, fun i j => if S.1 ≤ i ∧ i < S.1 + n then (if mkR R m (i - S.1) j = 0 then 0 else S.1 + mkR R m (i - S.1) j) else S.2.2 i j)
def mkI (I : XI) (b n : Nat) (W : List (Nat × Nat × Int)) (m : Nat) : XI := fun i j => if b ≤ i ∧ i < b + n then mkV W m (i - b) j else I i j
theorem mkR_none {R : List (Nat × Nat × Nat)} {d : Nat} (j : Nat) : ∀ m, (∀ q, q < m → (R.getD q (0, 0, 0)).1 ≠ d) → mkR R m d j = 0
  | 0, _ => rfl
  | m + 1, h => by
    unfold mkR
    rw [if_neg (fun q => h m (by omega) q.1)]
    exact mkR_none j m (fun q hq => h q (by omega))
theorem mkV_none {W : List (Nat × Nat × Int)} {d : Nat} (j : Nat) : ∀ m, (∀ q, q < m → (W.getD q (0, 0, 0)).1 ≠ d) → mkV W m d j = 0
  | 0, _ => rfl
  | m + 1, h => by
    unfold mkV
    rw [if_neg (fun q => h m (by omega) q.1)]
    exact mkV_none j m (fun q hq => h q (by omega))
theorem mkS_0 (S : XS) (L : List (Nat × Nat)) (R : List (Nat × Nat × Nat)) : mkS S L 0 R 0 = S := by
  have h : ∀ i, ¬ (S.1 ≤ i ∧ i < S.1 + 0) := fun i => by omega
  exact Prod.ext rfl (Prod.ext (funext fun i => if_neg (h i)) (funext fun i => funext fun j => if_neg (h i)))
theorem mkI_0 (I : XI) (b : Nat) (W : List (Nat × Nat × Int)) : mkI I b 0 W 0 = I := by
  have h : ∀ i, ¬ (b ≤ i ∧ i < b + 0) := fun i => by omega
  exact funext fun i => funext fun j => if_neg (h i)
section MK
variable {S : XS} {I : XI} {L : List (Nat × Nat)} {R : List (Nat × Nat × Nat)} {W : List (Nat × Nat × Int)} {n m w b : Nat}
theorem mkS_new {t k : Nat} (h : L.getD n (0, 0) = (t, k)) (hr : ∀ q, q < m → (R.getD q (0, 0, 0)).1 ≠ n) : xnew (mkS S L n R m) t k = mkS S L (n + 1) R m := by
  refine Prod.ext rfl (Prod.ext (funext fun i => ?_) (funext fun i => funext fun j => ?_))
  · show (if i = S.1 + n then (t, k) else if S.1 ≤ i ∧ i < S.1 + n then L.getD (i - S.1) (0, 0) else S.2.1 i) = if S.1 ≤ i ∧ i < S.1 + (n + 1) then L.getD (i - S.1) (0, 0) else S.2.1 i
    by_cases e : i = S.1 + n
    · rw [if_pos e, if_pos (by omega), show i - S.1 = n by omega, h]
    · rw [if_neg e]
      by_cases g : S.1 ≤ i ∧ i < S.1 + n
      · rw [if_pos g, if_pos (by omega)]
      · rw [if_neg g, if_neg (by omega)]
  · show (if i = S.1 + n then 0 else if S.1 ≤ i ∧ i < S.1 + n then (if mkR R m (i - S.1) j = 0 then 0 else S.1 + mkR R m (i - S.1) j) else S.2.2 i j) = if S.1 ≤ i ∧ i < S.1 + (n + 1) then (if mkR R m (i - S.1) j = 0 then 0 else S.1 + mkR R m (i - S.1) j) else S.2.2 i j
    by_cases e : i = S.1 + n
    · rw [if_pos e, if_pos (by omega), show i - S.1 = n by omega, mkR_none j m hr, if_pos rfl]
    · rw [if_neg e]
      by_cases g : S.1 ≤ i ∧ i < S.1 + n
      · rw [if_pos g, if_pos (show S.1 ≤ i ∧ i < S.1 + (n + 1) by omega)]
      · rw [if_neg g, if_neg (show ¬ (S.1 ≤ i ∧ i < S.1 + (n + 1)) by omega)]
theorem mkI_new (hr : ∀ q, q < w → (W.getD q (0, 0, 0)).1 ≠ n) : xzer (mkI I b n W w) (b + n) = mkI I b (n + 1) W w := by
  refine funext fun i => funext fun j => ?_
  show (if i = b + n then 0 else if b ≤ i ∧ i < b + n then mkV W w (i - b) j else I i j) = if b ≤ i ∧ i < b + (n + 1) then mkV W w (i - b) j else I i j
  by_cases e : i = b + n
  · rw [if_pos e, if_pos (by omega), show i - b = n by omega, mkV_none j w hr]
  · rw [if_neg e]
    by_cases g : b ≤ i ∧ i < b + n
    · rw [if_pos g, if_pos (by omega)]
    · rw [if_neg g, if_neg (by omega)]
theorem mkS_ref {d j o : Nat} (h : R.getD m (0, 0, 0) = (d, j, o)) (hd : d < n) : upR (mkS S L n R m) (S.1 + d) j (S.1 + o + 1) = mkS S L n R (m + 1) := by
  refine Prod.ext rfl (Prod.ext rfl (funext fun x => funext fun y => ?_))
  show (if x = S.1 + d then (if y = j then S.1 + o + 1 else if S.1 ≤ x ∧ x < S.1 + n then (if mkR R m (x - S.1) y = 0 then 0 else S.1 + mkR R m (x - S.1) y) else S.2.2 x y) else if S.1 ≤ x ∧ x < S.1 + n then (if mkR R m (x - S.1) y = 0 then 0 else S.1 + mkR R m (x - S.1) y) else S.2.2 x y) = if S.1 ≤ x ∧ x < S.1 + n then (if mkR R (m + 1) (x - S.1) y = 0 then 0 else S.1 + mkR R (m + 1) (x - S.1) y) else S.2.2 x y
  by_cases e : x = S.1 + d
  · have g : S.1 ≤ x ∧ x < S.1 + n := by omega
    have ed : x - S.1 = d := by omega
    rw [if_pos e, if_pos g, if_pos g, ed]
    by_cases f : y = j
    · have v : mkR R (m + 1) d y = o + 1 := by
        unfold mkR
        rw [h, if_pos ⟨rfl, f.symm⟩]
      rw [if_pos f, v, if_neg (by omega)]; omega
    · have v : mkR R (m + 1) d y = mkR R m d y := by
        conv => lhs; unfold mkR
        rw [h, if_neg (fun q => f q.2.symm)]
      rw [if_neg f, v]
  · rw [if_neg e]
    by_cases g : S.1 ≤ x ∧ x < S.1 + n
    · have v : mkR R (m + 1) (x - S.1) y = mkR R m (x - S.1) y := by
        conv => lhs; unfold mkR
        rw [h, if_neg (fun q => e (by have : d = x - S.1 := q.1; omega))]
      rw [if_pos g, if_pos g, v]
    · rw [if_neg g, if_neg g]
theorem mkI_up {d j : Nat} {z : Int} (h : W.getD w (0, 0, 0) = (d, j, z)) (hd : d < n) : up (mkI I b n W w) (b + d) j z = mkI I b n W (w + 1) := by
  refine funext fun x => funext fun y => ?_
  show (if x = b + d then (if y = j then z else if b ≤ x ∧ x < b + n then mkV W w (x - b) y else I x y) else if b ≤ x ∧ x < b + n then mkV W w (x - b) y else I x y) = if b ≤ x ∧ x < b + n then mkV W (w + 1) (x - b) y else I x y
  by_cases e : x = b + d
  · have g : b ≤ x ∧ x < b + n := by omega
    have ed : x - b = d := by omega
    rw [if_pos e, if_pos g, if_pos g, ed]
    by_cases f : y = j
    · have v : mkV W (w + 1) d y = z := by
        unfold mkV
        rw [h, if_pos ⟨rfl, f.symm⟩]
      rw [if_pos f, v]
    · have v : mkV W (w + 1) d y = mkV W w d y := by
        conv => lhs; unfold mkV
        rw [h, if_neg (fun q => f q.2.symm)]
      rw [if_neg f, v]
  · rw [if_neg e]
    by_cases g : b ≤ x ∧ x < b + n
    · have v : mkV W (w + 1) (x - b) y = mkV W w (x - b) y := by
        conv => lhs; unfold mkV
        rw [h, if_neg (fun q => e (by have : d = x - b := q.1; omega))]
      rw [if_pos g, if_pos g, v]
    · rw [if_neg g, if_neg g]
theorem mkS_at {d : Nat} {q : Nat × Nat} (h : L.getD d (0, 0) = q) (hd : d < n) : (mkS S L n R m).2.1 (S.1 + d) = q := by
  show (if S.1 ≤ S.1 + d ∧ S.1 + d < S.1 + n then L.getD (S.1 + d - S.1) (0, 0) else S.2.1 (S.1 + d)) = q
  rw [if_pos (by omega), show S.1 + d - S.1 = d by omega, h]
theorem mkS_rat {d j o : Nat} (h : mkR R m d j = o + 1) (hd : d < n) : xref (mkS S L n R m) (S.1 + d) j = S.1 + o + 1 := by
  show (if S.1 ≤ S.1 + d ∧ S.1 + d < S.1 + n then (if mkR R m (S.1 + d - S.1) j = 0 then 0 else S.1 + mkR R m (S.1 + d - S.1) j) else S.2.2 (S.1 + d) j) = S.1 + o + 1
  rw [if_pos (by omega), show S.1 + d - S.1 = d by omega, h, if_neg (by omega)]; omega
end MK
/-! tables inside tables -/
def inT (L : List (Nat × Nat)) (R : List (Nat × Nat × Nat)) (W : List (Nat × Nat × Int)) (n m w : Nat) (L' : List (Nat × Nat)) (R' : List (Nat × Nat × Nat)) (W' : List (Nat × Nat × Int)) (n' m' w' : Nat) : Bool :=
  (List.range n').all (fun i => L.getD (n + i) (0, 0) == L'.getD i (0, 0)) && ((List.range m').all (fun q => R.getD (m + q) (0, 0, 0) == (n + (R'.getD q (0, 0, 0)).1, (R'.getD q (0, 0, 0)).2.1, n + (R'.getD q (0, 0, 0)).2.2)) && ((List.range m).all (fun q => decide ((R.getD q (0, 0, 0)).1 < n)) && ((List.range w').all (fun q => W.getD (w + q) (0, 0, 0) == (n + (W'.getD q (0, 0, 0)).1, (W'.getD q (0, 0, 0)).2.1, (W'.getD q (0, 0, 0)).2.2)) && (List.range w).all (fun q => decide ((W.getD q (0, 0, 0)).1 < n)))))
def InT (L : List (Nat × Nat)) (R : List (Nat × Nat × Nat)) (W : List (Nat × Nat × Int)) (n m w : Nat) (L' : List (Nat × Nat)) (R' : List (Nat × Nat × Nat)) (W' : List (Nat × Nat × Int)) (n' m' w' : Nat) : Prop :=
  (∀ i, i < n' → L.getD (n + i) (0, 0) = L'.getD i (0, 0)) ∧ (∀ q, q < m' → R.getD (m + q) (0, 0, 0) = (n + (R'.getD q (0, 0, 0)).1, (R'.getD q (0, 0, 0)).2.1, n + (R'.getD q (0, 0, 0)).2.2)) ∧ (∀ q, q < m → (R.getD q (0, 0, 0)).1 < n) ∧ (∀ q, q < w' → W.getD (w + q) (0, 0, 0) = (n + (W'.getD q (0, 0, 0)).1, (W'.getD q (0, 0, 0)).2.1, (W'.getD q (0, 0, 0)).2.2)) ∧ ∀ q, q < w → (W.getD q (0, 0, 0)).1 < n
theorem allR {p : Nat → Bool} {n : Nat} (h : (List.range n).all p = true) {i : Nat} (hi : i < n) : p i = true := List.all_eq_true.mp h i (List.mem_range.mpr hi)
theorem InT.of {L : List (Nat × Nat)} {R : List (Nat × Nat × Nat)} {W : List (Nat × Nat × Int)} {n m w : Nat} {L' : List (Nat × Nat)} {R' : List (Nat × Nat × Nat)} {W' : List (Nat × Nat × Int)} {n' m' w' : Nat} (h : inT L R W n m w L' R' W' n' m' w' = true) : InT L R W n m w L' R' W' n' m' w' := by
  unfold inT at h
  obtain ⟨h1, h⟩ := Bool.and_eq_true_iff.mp h
  obtain ⟨h2, h⟩ := Bool.and_eq_true_iff.mp h
  obtain ⟨h3, h⟩ := Bool.and_eq_true_iff.mp h
  obtain ⟨h4, h5⟩ := Bool.and_eq_true_iff.mp h
  exact ⟨fun i hi => eq_of_beq (allR h1 hi), fun i hi => eq_of_beq (allR h2 hi), fun i hi => of_decide_eq_true (allR h3 hi), fun i hi => eq_of_beq (allR h4 hi), fun i hi => of_decide_eq_true (allR h5 hi)⟩
section MA
variable {S : XS} {I : XI} {L : List (Nat × Nat)} {R : List (Nat × Nat × Nat)} {W : List (Nat × Nat × Int)} {n m w b : Nat} {L' : List (Nat × Nat)} {R' : List (Nat × Nat × Nat)} {W' : List (Nat × Nat × Int)} {n' m' w' : Nat}
theorem mkR_lo {d j : Nat} (h2 : ∀ q, q < m' → R.getD (m + q) (0, 0, 0) = (n + (R'.getD q (0, 0, 0)).1, (R'.getD q (0, 0, 0)).2.1, n + (R'.getD q (0, 0, 0)).2.2)) (hd : d < n) : mkR R (m + m') d j = mkR R m d j := by
  induction m' with
  | zero => rfl
  | succ q ih =>
    show (if (R.getD (m + q) (0, 0, 0)).1 = d ∧ (R.getD (m + q) (0, 0, 0)).2.1 = j then (R.getD (m + q) (0, 0, 0)).2.2 + 1 else mkR R (m + q) d j) = mkR R m d j
    rw [if_neg (fun e => by rw [h2 q (by omega)] at e; have := e.1; dsimp only at this; omega)]
    exact ih (fun x hx => h2 x (by omega))
theorem mkV_lo {d j : Nat} (h2 : ∀ q, q < w' → W.getD (w + q) (0, 0, 0) = (n + (W'.getD q (0, 0, 0)).1, (W'.getD q (0, 0, 0)).2.1, (W'.getD q (0, 0, 0)).2.2)) (hd : d < n) : mkV W (w + w') d j = mkV W w d j := by
  induction w' with
  | zero => rfl
  | succ q ih =>
    show (if (W.getD (w + q) (0, 0, 0)).1 = d ∧ (W.getD (w + q) (0, 0, 0)).2.1 = j then (W.getD (w + q) (0, 0, 0)).2.2 else mkV W (w + q) d j) = mkV W w d j
    rw [if_neg (fun e => by rw [h2 q (by omega)] at e; have := e.1; dsimp only at this; omega)]
    exact ih (fun x hx => h2 x (by omega))
theorem mkR_hi {d j : Nat} (h2 : ∀ q, q < m' → R.getD (m + q) (0, 0, 0) = (n + (R'.getD q (0, 0, 0)).1, (R'.getD q (0, 0, 0)).2.1, n + (R'.getD q (0, 0, 0)).2.2)) (h3 : ∀ q, q < m → (R.getD q (0, 0, 0)).1 < n) : mkR R (m + m') (n + d) j = if mkR R' m' d j = 0 then 0 else n + mkR R' m' d j := by
  induction m' with
  | zero =>
    rw [show mkR R' 0 d j = 0 from rfl, if_pos rfl]
    exact mkR_none j m (fun q hq => by have := h3 q hq; omega)
  | succ q ih =>
    show (if (R.getD (m + q) (0, 0, 0)).1 = n + d ∧ (R.getD (m + q) (0, 0, 0)).2.1 = j then (R.getD (m + q) (0, 0, 0)).2.2 + 1 else mkR R (m + q) (n + d) j) = if (if (R'.getD q (0, 0, 0)).1 = d ∧ (R'.getD q (0, 0, 0)).2.1 = j then (R'.getD q (0, 0, 0)).2.2 + 1 else mkR R' q d j) = 0 then 0 else n + (if (R'.getD q (0, 0, 0)).1 = d ∧ (R'.getD q (0, 0, 0)).2.1 = j then (R'.getD q (0, 0, 0)).2.2 + 1 else mkR R' q d j)
    rw [h2 q (by omega), ih (fun x hx => h2 x (by omega))]
    dsimp only
    by_cases e : (R'.getD q (0, 0, 0)).1 = d ∧ (R'.getD q (0, 0, 0)).2.1 = j
    · rw [if_pos (show n + (R'.getD q (0, 0, 0)).1 = n + d ∧ (R'.getD q (0, 0, 0)).2.1 = j from ⟨by omega, e.2⟩), if_pos e, if_neg (by omega)]; omega
    · rw [if_neg (show ¬ (n + (R'.getD q (0, 0, 0)).1 = n + d ∧ (R'.getD q (0, 0, 0)).2.1 = j) from fun x => e ⟨by omega, x.2⟩), if_neg e]
theorem mkV_hi {d j : Nat} (h2 : ∀ q, q < w' → W.getD (w + q) (0, 0, 0) = (n + (W'.getD q (0, 0, 0)).1, (W'.getD q (0, 0, 0)).2.1, (W'.getD q (0, 0, 0)).2.2)) (h3 : ∀ q, q < w → (W.getD q (0, 0, 0)).1 < n) : mkV W (w + w') (n + d) j = mkV W' w' d j := by
  induction w' with
  | zero => exact mkV_none j w (fun q hq => by have := h3 q hq; omega)
  | succ q ih =>
    show (if (W.getD (w + q) (0, 0, 0)).1 = n + d ∧ (W.getD (w + q) (0, 0, 0)).2.1 = j then (W.getD (w + q) (0, 0, 0)).2.2 else mkV W (w + q) (n + d) j) = if (W'.getD q (0, 0, 0)).1 = d ∧ (W'.getD q (0, 0, 0)).2.1 = j then (W'.getD q (0, 0, 0)).2.2 else mkV W' q d j
    rw [h2 q (by omega), ih (fun x hx => h2 x (by omega))]
    dsimp only
    by_cases e : (W'.getD q (0, 0, 0)).1 = d ∧ (W'.getD q (0, 0, 0)).2.1 = j
    · rw [if_pos (show n + (W'.getD q (0, 0, 0)).1 = n + d ∧ (W'.getD q (0, 0, 0)).2.1 = j from ⟨by omega, e.2⟩), if_pos e]
    · rw [if_neg (show ¬ (n + (W'.getD q (0, 0, 0)).1 = n + d ∧ (W'.getD q (0, 0, 0)).2.1 = j) from fun x => e ⟨by omega, x.2⟩), if_neg e]
theorem mkS_app (h1 : ∀ i, i < n' → L.getD (n + i) (0, 0) = L'.getD i (0, 0)) (h2 : ∀ q, q < m' → R.getD (m + q) (0, 0, 0) = (n + (R'.getD q (0, 0, 0)).1, (R'.getD q (0, 0, 0)).2.1, n + (R'.getD q (0, 0, 0)).2.2)) (h3 : ∀ q, q < m → (R.getD q (0, 0, 0)).1 < n) : mkS (mkS S L n R m) L' n' R' m' = mkS S L (n + n') R (m + m') := by
  refine Prod.ext (Nat.add_assoc _ _ _) (Prod.ext (funext fun i => ?_) (funext fun i => funext fun j => ?_))
  · show (if S.1 + n ≤ i ∧ i < S.1 + n + n' then L'.getD (i - (S.1 + n)) (0, 0) else if S.1 ≤ i ∧ i < S.1 + n then L.getD (i - S.1) (0, 0) else S.2.1 i) = if S.1 ≤ i ∧ i < S.1 + (n + n') then L.getD (i - S.1) (0, 0) else S.2.1 i
    by_cases e : S.1 + n ≤ i ∧ i < S.1 + n + n'
    · rw [if_pos e, if_pos (by omega), ← h1 _ (by omega), show n + (i - (S.1 + n)) = i - S.1 by omega]
    · rw [if_neg e]
      by_cases g : S.1 ≤ i ∧ i < S.1 + n
      · rw [if_pos g, if_pos (by omega)]
      · rw [if_neg g, if_neg (by omega)]
  · show (if S.1 + n ≤ i ∧ i < S.1 + n + n' then (if mkR R' m' (i - (S.1 + n)) j = 0 then 0 else S.1 + n + mkR R' m' (i - (S.1 + n)) j) else if S.1 ≤ i ∧ i < S.1 + n then (if mkR R m (i - S.1) j = 0 then 0 else S.1 + mkR R m (i - S.1) j) else S.2.2 i j) = if S.1 ≤ i ∧ i < S.1 + (n + n') then (if mkR R (m + m') (i - S.1) j = 0 then 0 else S.1 + mkR R (m + m') (i - S.1) j) else S.2.2 i j
    by_cases e : S.1 + n ≤ i ∧ i < S.1 + n + n'
    · have hh := mkR_hi (d := i - (S.1 + n)) (j := j) h2 h3
      rw [show n + (i - (S.1 + n)) = i - S.1 by omega] at hh
      rw [if_pos e, if_pos (show S.1 ≤ i ∧ i < S.1 + (n + n') by omega), hh]
      by_cases z : mkR R' m' (i - (S.1 + n)) j = 0
      · rw [if_pos z, if_pos z, if_pos rfl]
      · rw [if_neg z, if_neg z, if_neg (by omega)]; omega
    · rw [if_neg e]
      by_cases g : S.1 ≤ i ∧ i < S.1 + n
      · rw [if_pos g, if_pos (show S.1 ≤ i ∧ i < S.1 + (n + n') by omega), mkR_lo h2 (show i - S.1 < n by omega)]
      · rw [if_neg g, if_neg (by omega)]
theorem mkI_app (h4 : ∀ q, q < w' → W.getD (w + q) (0, 0, 0) = (n + (W'.getD q (0, 0, 0)).1, (W'.getD q (0, 0, 0)).2.1, (W'.getD q (0, 0, 0)).2.2)) (h5 : ∀ q, q < w → (W.getD q (0, 0, 0)).1 < n) : mkI (mkI I b n W w) (b + n) n' W' w' = mkI I b (n + n') W (w + w') := by
  refine funext fun i => funext fun j => ?_
  show (if b + n ≤ i ∧ i < b + n + n' then mkV W' w' (i - (b + n)) j else if b ≤ i ∧ i < b + n then mkV W w (i - b) j else I i j) = if b ≤ i ∧ i < b + (n + n') then mkV W (w + w') (i - b) j else I i j
  by_cases e : b + n ≤ i ∧ i < b + n + n'
  · have hh := mkV_hi (d := i - (b + n)) (j := j) h4 h5
    rw [show n + (i - (b + n)) = i - b by omega] at hh
    rw [if_pos e, if_pos (by omega), hh]
  · rw [if_neg e]
    by_cases g : b ≤ i ∧ i < b + n
    · rw [if_pos g, if_pos (show b ≤ i ∧ i < b + (n + n') by omega), mkV_lo h4 (show i - b < n by omega)]
    · rw [if_neg g, if_neg (by omega)]
end MA
/-! rows of a constructor -/
section MC
variable {G : XG} {μ : XMeth} {k k' : Nat × Nat} {pc : Nat} {Lo : List (Option Value)} {st : List Value} {S : XS} {I : XI} {Q : Option Value → XS → XI → Prop} {L : List (Nat × Nat)} {R : List (Nat × Nat × Nat)} {W : List (Nat × Nat × Int)} {n m w n2 m2 w2 : Nat}
/-- nothing laid so far concerns cell n -/
def frT (R : List (Nat × Nat × Nat)) (W : List (Nat × Nat × Int)) (n m w : Nat) : Bool := (List.range m).all (fun q => (R.getD q (0, 0, 0)).1 != n) && (List.range w).all (fun q => (W.getD q (0, 0, 0)).1 != n)
theorem frT_of (h : frT R W n m w = true) : (∀ q, q < m → (R.getD q (0, 0, 0)).1 ≠ n) ∧ ∀ q, q < w → (W.getD q (0, 0, 0)).1 ≠ n := by
  unfold frT at h
  obtain ⟨h1, h2⟩ := Bool.and_eq_true_iff.mp h
  exact ⟨fun q hq => bne_iff_ne.mp (allR h1 hq), fun q hq => bne_iff_ne.mp (allR h2 hq)⟩
theorem m_new {ci idx N : Nat} {Cn : String} {T : u_T} {ty : Nat → FieldType} (hc : xCls ci Cn T N ty) (hdf : ∀ j, j < N → defaultValue (ty j) = xdef ci j) (hw : Cond.classLink μ.1.cls idx Cn ∈ lw_gd) (hwi : Cond.instantiable Cn N ∈ lw_gd) (hwn : Cond.initialized Cn ∈ lw_gd) (hd : decode μ.2.1 pc = .ok (.new idx, 3)) (hk : k.1 + 1 ≤ μ.2.2.2.2.2.2.1 ∧ k.2 + N ≤ μ.2.2.2.2.2.2.2) (hk' : (k.1 + 1, k.2 + N) = k') (hn2 : n + 1 = n2) (hl : L.getD n (0, 0) = (ci, 0)) (hf : frT R W n m w = true)
    (kk : Xw G μ k' (pc + 3) Lo (vr G (S.1 + n) :: st) (mkS S L n2 R m) (mkI I S.1 n2 W w) Q) : Xw G μ k pc Lo st (mkS S L n R m) (mkI I S.1 n W w) Q := by
  obtain ⟨f1, f2⟩ := frT_of hf
  refine x_new hc hdf hw hwi hwn hd hk ?_
  rw [mkS_new hl f1]
  show Xw G μ (k.1 + 1, k.2 + N) (pc + 3) Lo (vr G (S.1 + n) :: st) (mkS S L (n + 1) R m) (xzer (mkI I S.1 n W w) (S.1 + n)) Q
  rw [mkI_new f2, hk', hn2]
  exact kk
theorem m_newa {t t0 N : Nat} {at_ : ArrayType} {fty : FieldType} {z : Int} (hw : Cond.arrayClass fty ∈ lw_gd) (hty : newarray.typeOf at_ = fty) (htt : (xtys G)[t0]? = some (G.2.2.1 t, fty)) (hra : ∀ U, va_RA U (G.2.2.1 t) fty → U.vm.findClass ("[" ++ fty.toString) = some (G.2.2.1 t)) (ht : ¬ t < 12) (hdf : ∀ j, defaultValue fty = xdef t j) (hz : z = (N : Int)) (hN : N < 100000) (hcb : componentBytes fty ≤ 8) (hd : decode μ.2.1 pc = .ok (.newarray at_, 2)) (hk : k.1 + 1 ≤ μ.2.2.2.2.2.2.1 ∧ k.2 + N ≤ μ.2.2.2.2.2.2.2) (hk' : (k.1 + 1, k.2 + N) = k') (hn2 : n + 1 = n2) (hl : L.getD n (0, 0) = (t, N)) (hf : frT R W n m w = true)
    (kk : Xw G μ k' (pc + 2) Lo (vr G (S.1 + n) :: st) (mkS S L n2 R m) (mkI I S.1 n2 W w) Q) : Xw G μ k pc Lo (vi z :: st) (mkS S L n R m) (mkI I S.1 n W w) Q := by
  obtain ⟨f1, f2⟩ := frT_of hf
  refine x_newa hw hty htt hra ht hdf hz hN hcb hd hk ?_
  rw [mkS_new hl f1]
  show Xw G μ (k.1 + 1, k.2 + N) (pc + 2) Lo (vr G (S.1 + n) :: st) (mkS S L (n + 1) R m) (xzer (mkI I S.1 n W w) (S.1 + n)) Q
  rw [mkI_new f2, hk', hn2]
  exact kk
theorem m_anew {idx N : Nat} {z : Int} (hw : Cond.classLink μ.1.cls idx RX7 ∈ lw_gd) (hz : z = (N : Int)) (hN : N < 100000) (hd : decode μ.2.1 pc = .ok (.anewarray idx, 3)) (hk : k.1 + 1 ≤ μ.2.2.2.2.2.2.1 ∧ k.2 + N ≤ μ.2.2.2.2.2.2.2) (hk' : (k.1 + 1, k.2 + N) = k') (hn2 : n + 1 = n2) (hl : L.getD n (0, 0) = (16, N)) (hf : frT R W n m w = true)
    (kk : Xw G μ k' (pc + 3) Lo (vr G (S.1 + n) :: st) (mkS S L n2 R m) (mkI I S.1 n2 W w) Q) : Xw G μ k pc Lo (vi z :: st) (mkS S L n R m) (mkI I S.1 n W w) Q := by
  obtain ⟨f1, f2⟩ := frT_of hf
  refine x_anew hw hz hN hd hk ?_
  rw [mkS_new hl f1]
  show Xw G μ (k.1 + 1, k.2 + N) (pc + 3) Lo (vr G (S.1 + n) :: st) (mkS S L (n + 1) R m) (xzer (mkI I S.1 n W w) (S.1 + n)) Q
  rw [mkI_new f2, hk', hn2]
  exact kk
theorem m_putI {d ci j idx : Nat} {z : Int} (hf : xFld μ.1.cls idx ci j false .int) (hd : decode μ.2.1 pc = .ok (.putfield idx, 3)) (hdn : d < n) (hl : L.getD d (0, 0) = (ci, 0)) (hk : xk ci j = 0) (hw : W.getD w (0, 0, 0) = (d, j, z)) (hw2 : w + 1 = w2) (kk : Xw G μ k (pc + 3) Lo st (mkS S L n R m) (mkI I S.1 n W w2) Q) : Xw G μ k pc Lo (vi z :: vr G (S.1 + d) :: st) (mkS S L n R m) (mkI I S.1 n W w) Q := by
  refine x_putI hf hd (show S.1 + d < S.1 + n by omega) (by show ((mkS S L n R m).2.1 (S.1 + d)).1 = ci; rw [mkS_at hl hdn]) hk ?_
  rw [mkI_up hw hdn, hw2]
  exact kk
theorem m_putZ {d ci j idx : Nat} {z : Int} (hf : xFld μ.1.cls idx ci j false .boolean) (hd : decode μ.2.1 pc = .ok (.putfield idx, 3)) (hdn : d < n) (hl : L.getD d (0, 0) = (ci, 0)) (hk : xk ci j = 0) (hz : z = 0 ∨ z = 1) (hw : W.getD w (0, 0, 0) = (d, j, z)) (hw2 : w + 1 = w2) (kk : Xw G μ k (pc + 3) Lo st (mkS S L n R m) (mkI I S.1 n W w2) Q) : Xw G μ k pc Lo (vi z :: vr G (S.1 + d) :: st) (mkS S L n R m) (mkI I S.1 n W w) Q := by
  refine x_putZ hf hd (show S.1 + d < S.1 + n by omega) (by show ((mkS S L n R m).2.1 (S.1 + d)).1 = ci; rw [mkS_at hl hdn]) hk hz ?_
  rw [mkI_up hw hdn, hw2]
  exact kk
theorem m_putF {d ci j idx o : Nat} {fty : FieldType} (hf : xFld μ.1.cls idx ci j true fty) (hown : (vwCl[ci]?).map (fun q => q.1) = some μ.1.cls) (hin : μ.1.name = "<init>") (hkk : xk ci j = 2) (hd : decode μ.2.1 pc = .ok (.putfield idx, 3)) (hdn : d < n) (hl : L.getD d (0, 0) = (ci, 0)) (hr : R.getD m (0, 0, 0) = (d, j, o)) (hnar : ∀ a, narrow fty (.ref a) = .ref a) (hfit : ∀ a, fits fty (.ref a) = true) (hm2 : m + 1 = m2) (kk : Xw G μ k (pc + 3) Lo st (mkS S L n R m2) (mkI I S.1 n W w) Q) : Xw G μ k pc Lo (vr G (S.1 + o) :: vr G (S.1 + d) :: st) (mkS S L n R m) (mkI I S.1 n W w) Q := by
  obtain ⟨C, T, N, ty, hc, hj, hw, hfin, hty, -⟩ := hf
  have hC : μ.1.cls = C := by
    rw [hc.1] at hown
    exact (Option.some.inj hown).symm
  refine x_putF (a := S.1 + o) hc hj hw hfin hC hin hkk hd (show S.1 + d < S.1 + n by omega) (by show ((mkS S L n R m).2.1 (S.1 + d)).1 = ci; rw [mkS_at hl hdn]) (by rw [hty]; exact hnar _) (by rw [hty]; exact hfit _) ?_
  rw [mkS_ref hr hdn, hm2]
  exact kk
theorem m_getR {d ci j idx o : Nat} {fin : Bool} {fty : FieldType} (hf : xFld μ.1.cls idx ci j fin fty) (hd : decode μ.2.1 pc = .ok (.getfield idx, 3)) (hdn : d < n) (hl : L.getD d (0, 0) = (ci, 0)) (hk : xk ci j = 2) (hr : mkR R m d j = o + 1) (kk : Xw G μ k (pc + 3) Lo (vr G (S.1 + o) :: st) (mkS S L n R m) (mkI I S.1 n W w) Q) : Xw G μ k pc Lo (vr G (S.1 + d) :: st) (mkS S L n R m) (mkI I S.1 n W w) Q :=
  x_getR hf hd (show S.1 + d < S.1 + n by omega) (by show ((mkS S L n R m).2.1 (S.1 + d)).1 = ci; rw [mkS_at hl hdn]) hk (mkS_rat hr hdn) kk
theorem m_iast {d j N : Nat} {x z : Int} (hd : decode μ.2.1 pc = .ok (.iastore, 1)) (hdn : d < n) (hl : L.getD d (0, 0) = (13, N)) (hb : inb x N) (hx : ix x = j) (hw : W.getD w (0, 0, 0) = (d, j, z)) (hw2 : w + 1 = w2) (kk : Xw G μ k (pc + 1) Lo st (mkS S L n R m) (mkI I S.1 n W w2) Q) : Xw G μ k pc Lo (vi z :: vi x :: vr G (S.1 + d) :: st) (mkS S L n R m) (mkI I S.1 n W w) Q := by
  refine y_iast (n := N) hd (show S.1 + d < S.1 + n by omega) (by show ((mkS S L n R m).2.1 (S.1 + d)).1 = 13; rw [mkS_at hl hdn]) (by show ((mkS S L n R m).2.1 (S.1 + d)).2 = N; rw [mkS_at hl hdn]) hb ?_
  rw [hx, mkI_up hw hdn, hw2]
  exact kk
/-- what a constructor makes, its own cell first -/
def Mks (G : XG) (μ' : XMeth) (As : List Value) (L' : List (Nat × Nat)) (R' : List (Nat × Nat × Nat)) (W' : List (Nat × Nat × Int)) (n' m' w' : Nat) : Prop := ∀ (S : XS) (I : XI), Mw G μ' (vr G (S.1 + 0) :: As) (mkS S L' 1 R' 0) (mkI I S.1 1 W' 0) (fun v S1 I1 => v = none ∧ S1 = mkS S L' n' R' m' ∧ I1 = mkI I S.1 n' W' w')
theorem m_first {ci : Nat} {L' : List (Nat × Nat)} {R' : List (Nat × Nat × Nat)} {W' : List (Nat × Nat × Int)} (h : L.getD n (0, 0) = L'.getD 0 (0, 0)) (h3 : ∀ q, q < m → (R.getD q (0, 0, 0)).1 < n) (h5 : ∀ q, q < w → (W.getD q (0, 0, 0)).1 < n) : mkS S L (n + 1) R m = mkS (mkS S L n R m) L' 1 R' 0 ∧ mkI I S.1 (n + 1) W w = mkI (mkI I S.1 n W w) (S.1 + n) 1 W' 0 :=
  ⟨(mkS_app (m' := 0) (fun i hi => by rw [show i = 0 by omega]; exact h) (fun q hq => absurd hq (by omega)) h3).symm, (mkI_app (w' := 0) (fun q hq => absurd hq (by omega)) h5).symm⟩
theorem m_callN {μ' : XMeth} {idx a : Nat} {As rest : List Value} {L' : List (Nat × Nat)} {R' : List (Nat × Nat × Nat)} {W' : List (Nat × Nat × Int)} {n' m' w' n1 : Nat} (hm : xMokI μ' a) (hw : (μ.1.cls, idx, μ'.1) ∈ xnest) (hd : decode μ.2.1 pc = .ok (.invokespecial idx, 3)) (hn : As.length = a) (hf : xfit μ μ' k) (hcat : (rest.map fun v => v.category).sum ≤ 8) (hst : st = As.reverse ++ vr G (S.1 + n) :: rest) (hM : Mks G μ' As L' R' W' n' m' w') (hn' : 0 < n') (hT : inT L R W n m w L' R' W' n' m' w' = true) (e0 : n + 1 = n1) (e1 : n + n' = n2) (e2 : m + m' = m2) (e3 : w + w' = w2) (hk' : (k.1 + μ'.2.2.2.2.2.2.1, k.2 + μ'.2.2.2.2.2.2.2) = k')
    (kk : Xw G μ k' (pc + 3) Lo rest (mkS S L n2 R m2) (mkI I S.1 n2 W w2) Q) : Xw G μ k pc Lo st (mkS S L n1 R m) (mkI I S.1 n1 W w) Q := by
  obtain ⟨t1, t2, t3, t4, t5⟩ := InT.of hT
  have f := m_first (S := S) (I := I) (ci := 0) (L' := L') (R' := R') (W' := W') (t1 0 hn') t3 t5
  rw [← e0, f.1, f.2]
  refine x_callN hm hw hd hn hf hcat hst (hM (mkS S L n R m) (mkI I S.1 n W w)) (fun v S' I' h => ?_)
  obtain ⟨rfl, rfl, rfl⟩ := h
  rw [hk', mkS_app t1 t2 t3]
  show Xw G μ k' (pc + 3) Lo rest (mkS S L (n + n') R (m + m')) (mkI (mkI I S.1 n W w) (S.1 + n) n' W' w') Q
  rw [mkI_app t4 t5, e1, e2, e3]
  exact kk
theorem m_callI {μ' : XMeth} {idx a : Nat} {As rest : List Value} {L' : List (Nat × Nat)} {R' : List (Nat × Nat × Nat)} {W' : List (Nat × Nat × Int)} {n' m' w' n1 : Nat} (hm : xMokI μ' a) (hw : Cond.methodLink μ.1.cls idx μ'.1 ∈ lw_gd) (hd : decode μ.2.1 pc = .ok (.invokespecial idx, 3)) (hn : As.length = a) (hf : xfit μ μ' k) (hcat : (rest.map fun v => v.category).sum ≤ 8) (hst : st = As.reverse ++ vr G (S.1 + n) :: rest) (hM : Mks G μ' As L' R' W' n' m' w') (hn' : 0 < n') (hT : inT L R W n m w L' R' W' n' m' w' = true) (e0 : n + 1 = n1) (e1 : n + n' = n2) (e2 : m + m' = m2) (e3 : w + w' = w2) (hk' : (k.1 + μ'.2.2.2.2.2.2.1, k.2 + μ'.2.2.2.2.2.2.2) = k')
    (kk : Xw G μ k' (pc + 3) Lo rest (mkS S L n2 R m2) (mkI I S.1 n2 W w2) Q) : Xw G μ k pc Lo st (mkS S L n1 R m) (mkI I S.1 n1 W w) Q := by
  obtain ⟨t1, t2, t3, t4, t5⟩ := InT.of hT
  have f := m_first (S := S) (I := I) (ci := 0) (L' := L') (R' := R') (W' := W') (t1 0 hn') t3 t5
  rw [← e0, f.1, f.2]
  refine x_callI hm hw hd hn hf hcat hst (hM (mkS S L n R m) (mkI I S.1 n W w)) (fun v S' I' h => ?_)
  obtain ⟨rfl, rfl, rfl⟩ := h
  rw [hk', mkS_app t1 t2 t3]
  show Xw G μ k' (pc + 3) Lo rest (mkS S L (n + n') R (m + m')) (mkI (mkI I S.1 n W w) (S.1 + n) n' W' w') Q
  rw [mkI_app t4 t5, e1, e2, e3]
  exact kk
end MC
theorem w_ai : Cond.arrayClass .int ∈ lw_gd := gdT 74 (by decide +kernel) rfl
theorem w_ab : Cond.arrayClass .byte ∈ lw_gd := gdT 918 (by decide +kernel) rfl
theorem w_az : Cond.arrayClass .boolean ∈ lw_gd := gdT 1383 (by decide +kernel) rfl
theorem w_aj : Cond.arrayClass .long ∈ lw_gd := gdT 1384 (by decide +kernel) rfl
/-- Arrays.fill of six places with -1, ahead of the shape -/
theorem n_fill_k5 {G : XG} {S : XS}  {I : XI} {v0 : Nat} {v1 : Int} {v2 : Int} {v3 : Int} {R : XI → Prop} (hN_v0 : v0 < S.1) (hT_v0 : xtag S v0 = 13) (h : ((w32 (v3) ≤ w32 (v2) → R I) ∧ (¬ (w32 (v3) ≤ w32 (v2)) → (inb (v2) (xlen S v0) ∧ (∀ I1 : XI, I1 = up I v0 (ix (v2)) (v1) → Ja_fill_k5 G S I1 (v0) (v1) (v2 + 1) (v3) R))))) : Ja_fill_k5 G S  I v0 v1 v2 v3 R := by
  unfold Ja_fill_k5
  refine x_iload_n (pc := 5) dJ7_fill_53178_5 rfl rfl ?_
  refine x_iload_n (pc := 6) dJ7_fill_53178_6 rfl rfl ?_
  refine x_icmp_ge (pc := 7) (t := 20) dJ7_fill_53178_7 (by decide) (fun e => ?_) (fun e => ?_)
  · have h := h.1 e
    exact y_vret (pc := 20) dJ7_fill_53178_20 rfl ⟨Nat.le_refl _, Nat.le_refl _⟩ h
  · have h := h.2 e
    refine x_aload_n (pc := 10) dJ7_fill_53178_10 rfl rfl ?_
    refine x_iload_n (pc := 11) dJ7_fill_53178_11 rfl rfl ?_
    refine x_iload_n (pc := 12) dJ7_fill_53178_12 rfl rfl ?_
    refine y_iast (pc := 13) (i := v0) (n := (xlen S v0)) dJ7_fill_53178_13 hN_v0 hT_v0 rfl h.1 ?_
    have h := h.2
    have h := h _ rfl
    generalize up I v0 (ix (v2)) (v1) = I1 at h ⊢
    refine x_iinc (pc := 14) (L' := [some (vr G v0), some (vi (v1)), some (vi (v2 + 1)), some (vi (v3))]) dJ7_fill_53178_14 rfl (by decide) (xst1 rfl rfl rfl) ?_
    refine x_goto (pc := 17) (t := 5) dJ7_fill_53178_17 (by decide) ?_
    exact h
theorem n_fill {G : XG} {S : XS} {I : XI} {v0 : Nat} {v1 : Int} {R : XI → Prop} (hN_v0 : v0 < S.1) (hT_v0 : xtag S v0 = 13) (h : Ja_fill_k5 G S I (v0) (v1) (0) ((((xlen S v0) : Nat) : Int)) R) : Ja_fill G S I v0 v1 R := by
  refine x_start [some (vr G v0), some (vi (v1)), none, none] (by decide) (Nat.le_of_ble_eq_true rfl) rfl ?_
  refine x_iconst (pc := 0) dJ7_fill_53178_0 ?_
  refine x_istore_n (pc := 1) (L' := [some (vr G v0), some (vi (v1)), some (vi (0)), none]) dJ7_fill_53178_1 rfl (by decide) (xst1 rfl rfl rfl) ?_
  refine x_aload_n (pc := 2) dJ7_fill_53178_2 rfl rfl ?_
  refine y_alen (pc := 3) (i := v0) (n := (xlen S v0)) dJ7_fill_53178_3 hN_v0 hT_v0 rfl ?_
  refine x_istore_n (pc := 4) (L' := [some (vr G v0), some (vi (v1)), some (vi (0)), some (vi ((((xlen S v0) : Nat) : Int)))]) dJ7_fill_53178_4 rfl (by decide) (xst1 rfl rfl rfl) ?_
  exact h
theorem n_fill6 {G : XG} {S : XS} {I : XI} {L : List (Nat × Nat)} {R : List (Nat × Nat × Nat)} {W : List (Nat × Nat × Int)} {n m w d : Nat} {Q : XI → Prop} (hdn : d < n) (hl : L.getD d (0, 0) = (13, 6)) (hw : ∀ i, i < 6 → W.getD (w + i) (0, 0, 0) = (d, i, -1)) (h : Q (mkI I S.1 n W (w + 6))) : Ja_fill G (mkS S L n R m) (mkI I S.1 n W w) (S.1 + d) (-1) Q := by
  have hN : S.1 + d < (mkS S L n R m).1 := by show S.1 + d < S.1 + n; omega
  have hT : xtag (mkS S L n R m) (S.1 + d) = 13 := by show ((mkS S L n R m).2.1 (S.1 + d)).1 = 13; rw [mkS_at hl hdn]
  have hL : xlen (mkS S L n R m) (S.1 + d) = 6 := by show ((mkS S L n R m).2.1 (S.1 + d)).2 = 6; rw [mkS_at hl hdn]
  have key : ∀ q i, i + q = 6 → Ja_fill_k5 G (mkS S L n R m) (mkI I S.1 n W (w + i)) (S.1 + d) (-1) (i : Int) ((6 : Nat) : Int) Q := by
    intro q
    induction q with
    | zero =>
      intro i e
      have e' : i = 6 := by omega
      subst e'
      exact n_fill_k5 hN hT ⟨fun _ => h, fun x => absurd (Int.le_refl _) x⟩
    | succ q ih =>
      intro i e
      refine n_fill_k5 hN hT ?_
      rw [w32_nat (k := i) (by omega), w32_nat (k := 6) (by omega), ix_nat (k := i) (by omega), mkI_up (hw i (by omega)) hdn, hL]
      exact ⟨fun x => absurd x (by omega), fun _ => ⟨inb_b (by omega) (by omega) (by omega), fun I1 e1 => by rw [e1]; exact ih (i + 1) (by omega)⟩⟩
  refine n_fill hN hT ?_
  rw [hL]
  exact key 6 0 (by omega)

def lt_X0 : List (Nat × Nat) := [(0, 0), (13, 8)]
def rt_X0 : List (Nat × Nat × Nat) := [(0, 3, 1)]
def wt_X0 : List (Nat × Nat × Int) := [(0, 0, 0), (0, 1, 0), (0, 2, 0)]
set_option maxHeartbeats 4000000 in
set_option maxRecDepth 100000 in
theorem i_X0 {G : XG} : Mks G mX0_init [] lt_X0 rt_X0 wt_X0 2 1 3 := by
  intro S I
  refine x_start [some (vr G (S.1 + 0))] (by decide) (Nat.le_of_ble_eq_true rfl) rfl ?_
  refine x_aload_n (pc := 0) dX0_init_0 rfl rfl ?_
  refine x_objInit (pc := 1) ml_X0_3 w_oi w_oc dX0_init_1 ⟨by decide, by decide⟩ ?_
  refine x_aload_n (pc := 4) dX0_init_4 rfl rfl ?_
  refine x_iconst (pc := 5) dX0_init_5 ?_
  refine m_putI (pc := 6) (d := 0) (w2 := 1) fl_X0_9 dX0_init_6 (by decide) rfl rfl rfl rfl ?_
  refine x_aload_n (pc := 9) dX0_init_9 rfl rfl ?_
  refine x_iconst (pc := 10) dX0_init_10 ?_
  refine m_putI (pc := 11) (d := 0) (w2 := 2) fl_X0_15 dX0_init_11 (by decide) rfl rfl rfl rfl ?_
  refine x_aload_n (pc := 14) dX0_init_14 rfl rfl ?_
  refine x_iconst (pc := 15) dX0_init_15 ?_
  refine m_putI (pc := 16) (d := 0) (w2 := 3) fl_X0_18 dX0_init_16 (by decide) rfl rfl rfl rfl ?_
  refine x_aload_n (pc := 19) dX0_init_19 rfl rfl ?_
  refine x_bipush (pc := 20) dX0_init_20 rfl ?_
  refine m_newa (pc := 22) (k' := (1, 8)) (t := 13) (t0 := 1) (N := 8) (n := 1) (n2 := 2) w_ai rfl rfl (fun U h => h) (by decide) (fun _ => rfl) rfl (by decide) (by decide) dX0_init_22 ⟨Nat.le_of_ble_eq_true rfl, Nat.le_of_ble_eq_true rfl⟩ rfl rfl rfl rfl ?_
  refine m_putF (pc := 24) (d := 0) (o := 1) (m2 := 1) fl_X0_21 rfl rfl rfl dX0_init_24 (by decide) rfl rfl (fun _ => rfl) (fun _ => rfl) rfl ?_
  exact x_vret (pc := 27) dX0_init_27 rfl ⟨Nat.le_of_ble_eq_true rfl, Nat.le_of_ble_eq_true rfl⟩ ⟨rfl, rfl, rfl⟩
def lt_X1 : List (Nat × Nat) := [(1, 0), (13, 6), (13, 6), (13, 6), (13, 48), (13, 60), (13, 60), (13, 60), (13, 60), (13, 60)]
def rt_X1 : List (Nat × Nat × Nat) := [(0, 1, 1), (0, 2, 2), (0, 3, 3), (0, 4, 4), (0, 6, 5), (0, 7, 6), (0, 8, 7), (0, 9, 8), (0, 10, 9)]
def wt_X1 : List (Nat × Nat × Int) := [(0, 0, 0), (0, 5, 0)]
set_option maxHeartbeats 4000000 in
set_option maxRecDepth 100000 in
theorem i_X1 {G : XG} : Mks G mX1_init [] lt_X1 rt_X1 wt_X1 10 9 2 := by
  intro S I
  refine x_start [some (vr G (S.1 + 0))] (by decide) (Nat.le_of_ble_eq_true rfl) rfl ?_
  refine x_aload_n (pc := 0) dX1_init_0 rfl rfl ?_
  refine x_objInit (pc := 1) ml_X1_3 w_oi w_oc dX1_init_1 ⟨by decide, by decide⟩ ?_
  refine x_aload_n (pc := 4) dX1_init_4 rfl rfl ?_
  refine x_iconst (pc := 5) dX1_init_5 ?_
  refine m_putI (pc := 6) (d := 0) (w2 := 1) fl_X1_9 dX1_init_6 (by decide) rfl rfl rfl rfl ?_
  refine x_aload_n (pc := 9) dX1_init_9 rfl rfl ?_
  refine x_bipush (pc := 10) dX1_init_10 rfl ?_
  refine m_newa (pc := 12) (k' := (1, 6)) (t := 13) (t0 := 1) (N := 6) (n := 1) (n2 := 2) w_ai rfl rfl (fun U h => h) (by decide) (fun _ => rfl) rfl (by decide) (by decide) dX1_init_12 ⟨Nat.le_of_ble_eq_true rfl, Nat.le_of_ble_eq_true rfl⟩ rfl rfl rfl rfl ?_
  refine m_putF (pc := 14) (d := 0) (o := 1) (m2 := 1) fl_X1_15 rfl rfl rfl dX1_init_14 (by decide) rfl rfl (fun _ => rfl) (fun _ => rfl) rfl ?_
  refine x_aload_n (pc := 17) dX1_init_17 rfl rfl ?_
  refine x_bipush (pc := 18) dX1_init_18 rfl ?_
  refine m_newa (pc := 20) (k' := (2, 12)) (t := 13) (t0 := 1) (N := 6) (n := 2) (n2 := 3) w_ai rfl rfl (fun U h => h) (by decide) (fun _ => rfl) rfl (by decide) (by decide) dX1_init_20 ⟨Nat.le_of_ble_eq_true rfl, Nat.le_of_ble_eq_true rfl⟩ rfl rfl rfl rfl ?_
  refine m_putF (pc := 22) (d := 0) (o := 2) (m2 := 2) fl_X1_19 rfl rfl rfl dX1_init_22 (by decide) rfl rfl (fun _ => rfl) (fun _ => rfl) rfl ?_
  refine x_aload_n (pc := 25) dX1_init_25 rfl rfl ?_
  refine x_bipush (pc := 26) dX1_init_26 rfl ?_
  refine m_newa (pc := 28) (k' := (3, 18)) (t := 13) (t0 := 1) (N := 6) (n := 3) (n2 := 4) w_ai rfl rfl (fun U h => h) (by decide) (fun _ => rfl) rfl (by decide) (by decide) dX1_init_28 ⟨Nat.le_of_ble_eq_true rfl, Nat.le_of_ble_eq_true rfl⟩ rfl rfl rfl rfl ?_
  refine m_putF (pc := 30) (d := 0) (o := 3) (m2 := 3) fl_X1_22 rfl rfl rfl dX1_init_30 (by decide) rfl rfl (fun _ => rfl) (fun _ => rfl) rfl ?_
  refine x_aload_n (pc := 33) dX1_init_33 rfl rfl ?_
  refine x_bipush (pc := 34) dX1_init_34 rfl ?_
  refine m_newa (pc := 36) (k' := (4, 66)) (t := 13) (t0 := 1) (N := 48) (n := 4) (n2 := 5) w_ai rfl rfl (fun U h => h) (by decide) (fun _ => rfl) rfl (by decide) (by decide) dX1_init_36 ⟨Nat.le_of_ble_eq_true rfl, Nat.le_of_ble_eq_true rfl⟩ rfl rfl rfl rfl ?_
  refine m_putF (pc := 38) (d := 0) (o := 4) (m2 := 4) fl_X1_25 rfl rfl rfl dX1_init_38 (by decide) rfl rfl (fun _ => rfl) (fun _ => rfl) rfl ?_
  refine x_aload_n (pc := 41) dX1_init_41 rfl rfl ?_
  refine x_iconst (pc := 42) dX1_init_42 ?_
  refine m_putI (pc := 43) (d := 0) (w2 := 2) fl_X1_28 dX1_init_43 (by decide) rfl rfl rfl rfl ?_
  refine x_aload_n (pc := 46) dX1_init_46 rfl rfl ?_
  refine x_bipush (pc := 47) dX1_init_47 rfl ?_
  refine m_newa (pc := 49) (k' := (5, 126)) (t := 13) (t0 := 1) (N := 60) (n := 5) (n2 := 6) w_ai rfl rfl (fun U h => h) (by decide) (fun _ => rfl) rfl (by decide) (by decide) dX1_init_49 ⟨Nat.le_of_ble_eq_true rfl, Nat.le_of_ble_eq_true rfl⟩ rfl rfl rfl rfl ?_
  refine m_putF (pc := 51) (d := 0) (o := 5) (m2 := 5) fl_X1_31 rfl rfl rfl dX1_init_51 (by decide) rfl rfl (fun _ => rfl) (fun _ => rfl) rfl ?_
  refine x_aload_n (pc := 54) dX1_init_54 rfl rfl ?_
  refine x_bipush (pc := 55) dX1_init_55 rfl ?_
  refine m_newa (pc := 57) (k' := (6, 186)) (t := 13) (t0 := 1) (N := 60) (n := 6) (n2 := 7) w_ai rfl rfl (fun U h => h) (by decide) (fun _ => rfl) rfl (by decide) (by decide) dX1_init_57 ⟨Nat.le_of_ble_eq_true rfl, Nat.le_of_ble_eq_true rfl⟩ rfl rfl rfl rfl ?_
  refine m_putF (pc := 59) (d := 0) (o := 6) (m2 := 6) fl_X1_34 rfl rfl rfl dX1_init_59 (by decide) rfl rfl (fun _ => rfl) (fun _ => rfl) rfl ?_
  refine x_aload_n (pc := 62) dX1_init_62 rfl rfl ?_
  refine x_bipush (pc := 63) dX1_init_63 rfl ?_
  refine m_newa (pc := 65) (k' := (7, 246)) (t := 13) (t0 := 1) (N := 60) (n := 7) (n2 := 8) w_ai rfl rfl (fun U h => h) (by decide) (fun _ => rfl) rfl (by decide) (by decide) dX1_init_65 ⟨Nat.le_of_ble_eq_true rfl, Nat.le_of_ble_eq_true rfl⟩ rfl rfl rfl rfl ?_
  refine m_putF (pc := 67) (d := 0) (o := 7) (m2 := 7) fl_X1_37 rfl rfl rfl dX1_init_67 (by decide) rfl rfl (fun _ => rfl) (fun _ => rfl) rfl ?_
  refine x_aload_n (pc := 70) dX1_init_70 rfl rfl ?_
  refine x_bipush (pc := 71) dX1_init_71 rfl ?_
  refine m_newa (pc := 73) (k' := (8, 306)) (t := 13) (t0 := 1) (N := 60) (n := 8) (n2 := 9) w_ai rfl rfl (fun U h => h) (by decide) (fun _ => rfl) rfl (by decide) (by decide) dX1_init_73 ⟨Nat.le_of_ble_eq_true rfl, Nat.le_of_ble_eq_true rfl⟩ rfl rfl rfl rfl ?_
  refine m_putF (pc := 75) (d := 0) (o := 8) (m2 := 8) fl_X1_40 rfl rfl rfl dX1_init_75 (by decide) rfl rfl (fun _ => rfl) (fun _ => rfl) rfl ?_
  refine x_aload_n (pc := 78) dX1_init_78 rfl rfl ?_
  refine x_bipush (pc := 79) dX1_init_79 rfl ?_
  refine m_newa (pc := 81) (k' := (9, 366)) (t := 13) (t0 := 1) (N := 60) (n := 9) (n2 := 10) w_ai rfl rfl (fun U h => h) (by decide) (fun _ => rfl) rfl (by decide) (by decide) dX1_init_81 ⟨Nat.le_of_ble_eq_true rfl, Nat.le_of_ble_eq_true rfl⟩ rfl rfl rfl rfl ?_
  refine m_putF (pc := 83) (d := 0) (o := 9) (m2 := 9) fl_X1_43 rfl rfl rfl dX1_init_83 (by decide) rfl rfl (fun _ => rfl) (fun _ => rfl) rfl ?_
  exact x_vret (pc := 86) dX1_init_86 rfl ⟨Nat.le_of_ble_eq_true rfl, Nat.le_of_ble_eq_true rfl⟩ ⟨rfl, rfl, rfl⟩
def lt_X2 : List (Nat × Nat) := [(2, 0), (13, 100), (13, 60), (13, 60), (13, 60), (13, 60), (13, 100)]
def rt_X2 : List (Nat × Nat × Nat) := [(0, 2, 1), (0, 4, 2), (0, 5, 3), (0, 6, 4), (0, 7, 5), (0, 8, 6)]
def wt_X2 : List (Nat × Nat × Int) := [(0, 0, 0), (0, 1, 0), (0, 3, 0)]
set_option maxHeartbeats 4000000 in
set_option maxRecDepth 100000 in
theorem i_X2 {G : XG} : Mks G mX2_init [] lt_X2 rt_X2 wt_X2 7 6 3 := by
  intro S I
  refine x_start [some (vr G (S.1 + 0))] (by decide) (Nat.le_of_ble_eq_true rfl) rfl ?_
  refine x_aload_n (pc := 0) dX2_init_0 rfl rfl ?_
  refine x_objInit (pc := 1) ml_X2_3 w_oi w_oc dX2_init_1 ⟨by decide, by decide⟩ ?_
  refine x_aload_n (pc := 4) dX2_init_4 rfl rfl ?_
  refine x_iconst (pc := 5) dX2_init_5 ?_
  refine m_putI (pc := 6) (d := 0) (w2 := 1) fl_X2_9 dX2_init_6 (by decide) rfl rfl rfl rfl ?_
  refine x_aload_n (pc := 9) dX2_init_9 rfl rfl ?_
  refine x_iconst (pc := 10) dX2_init_10 ?_
  refine m_putI (pc := 11) (d := 0) (w2 := 2) fl_X2_15 dX2_init_11 (by decide) rfl rfl rfl rfl ?_
  refine x_aload_n (pc := 14) dX2_init_14 rfl rfl ?_
  refine x_bipush (pc := 15) dX2_init_15 rfl ?_
  refine m_newa (pc := 17) (k' := (1, 100)) (t := 13) (t0 := 1) (N := 100) (n := 1) (n2 := 2) w_ai rfl rfl (fun U h => h) (by decide) (fun _ => rfl) rfl (by decide) (by decide) dX2_init_17 ⟨Nat.le_of_ble_eq_true rfl, Nat.le_of_ble_eq_true rfl⟩ rfl rfl rfl rfl ?_
  refine m_putF (pc := 19) (d := 0) (o := 1) (m2 := 1) fl_X2_18 rfl rfl rfl dX2_init_19 (by decide) rfl rfl (fun _ => rfl) (fun _ => rfl) rfl ?_
  refine x_aload_n (pc := 22) dX2_init_22 rfl rfl ?_
  refine x_iconst (pc := 23) dX2_init_23 ?_
  refine m_putI (pc := 24) (d := 0) (w2 := 3) fl_X2_22 dX2_init_24 (by decide) rfl rfl rfl rfl ?_
  refine x_aload_n (pc := 27) dX2_init_27 rfl rfl ?_
  refine x_bipush (pc := 28) dX2_init_28 rfl ?_
  refine m_newa (pc := 30) (k' := (2, 160)) (t := 13) (t0 := 1) (N := 60) (n := 2) (n2 := 3) w_ai rfl rfl (fun U h => h) (by decide) (fun _ => rfl) rfl (by decide) (by decide) dX2_init_30 ⟨Nat.le_of_ble_eq_true rfl, Nat.le_of_ble_eq_true rfl⟩ rfl rfl rfl rfl ?_
  refine m_putF (pc := 32) (d := 0) (o := 2) (m2 := 2) fl_X2_25 rfl rfl rfl dX2_init_32 (by decide) rfl rfl (fun _ => rfl) (fun _ => rfl) rfl ?_
  refine x_aload_n (pc := 35) dX2_init_35 rfl rfl ?_
  refine x_bipush (pc := 36) dX2_init_36 rfl ?_
  refine m_newa (pc := 38) (k' := (3, 220)) (t := 13) (t0 := 1) (N := 60) (n := 3) (n2 := 4) w_ai rfl rfl (fun U h => h) (by decide) (fun _ => rfl) rfl (by decide) (by decide) dX2_init_38 ⟨Nat.le_of_ble_eq_true rfl, Nat.le_of_ble_eq_true rfl⟩ rfl rfl rfl rfl ?_
  refine m_putF (pc := 40) (d := 0) (o := 3) (m2 := 3) fl_X2_28 rfl rfl rfl dX2_init_40 (by decide) rfl rfl (fun _ => rfl) (fun _ => rfl) rfl ?_
  refine x_aload_n (pc := 43) dX2_init_43 rfl rfl ?_
  refine x_bipush (pc := 44) dX2_init_44 rfl ?_
  refine m_newa (pc := 46) (k' := (4, 280)) (t := 13) (t0 := 1) (N := 60) (n := 4) (n2 := 5) w_ai rfl rfl (fun U h => h) (by decide) (fun _ => rfl) rfl (by decide) (by decide) dX2_init_46 ⟨Nat.le_of_ble_eq_true rfl, Nat.le_of_ble_eq_true rfl⟩ rfl rfl rfl rfl ?_
  refine m_putF (pc := 48) (d := 0) (o := 4) (m2 := 4) fl_X2_31 rfl rfl rfl dX2_init_48 (by decide) rfl rfl (fun _ => rfl) (fun _ => rfl) rfl ?_
  refine x_aload_n (pc := 51) dX2_init_51 rfl rfl ?_
  refine x_bipush (pc := 52) dX2_init_52 rfl ?_
  refine m_newa (pc := 54) (k' := (5, 340)) (t := 13) (t0 := 1) (N := 60) (n := 5) (n2 := 6) w_ai rfl rfl (fun U h => h) (by decide) (fun _ => rfl) rfl (by decide) (by decide) dX2_init_54 ⟨Nat.le_of_ble_eq_true rfl, Nat.le_of_ble_eq_true rfl⟩ rfl rfl rfl rfl ?_
  refine m_putF (pc := 56) (d := 0) (o := 5) (m2 := 5) fl_X2_34 rfl rfl rfl dX2_init_56 (by decide) rfl rfl (fun _ => rfl) (fun _ => rfl) rfl ?_
  refine x_aload_n (pc := 59) dX2_init_59 rfl rfl ?_
  refine x_bipush (pc := 60) dX2_init_60 rfl ?_
  refine m_newa (pc := 62) (k' := (6, 440)) (t := 13) (t0 := 1) (N := 100) (n := 6) (n2 := 7) w_ai rfl rfl (fun U h => h) (by decide) (fun _ => rfl) rfl (by decide) (by decide) dX2_init_62 ⟨Nat.le_of_ble_eq_true rfl, Nat.le_of_ble_eq_true rfl⟩ rfl rfl rfl rfl ?_
  refine m_putF (pc := 64) (d := 0) (o := 6) (m2 := 6) fl_X2_37 rfl rfl rfl dX2_init_64 (by decide) rfl rfl (fun _ => rfl) (fun _ => rfl) rfl ?_
  exact x_vret (pc := 67) dX2_init_67 rfl ⟨Nat.le_of_ble_eq_true rfl, Nat.le_of_ble_eq_true rfl⟩ ⟨rfl, rfl, rfl⟩
def lt_X4 : List (Nat × Nat) := [(4, 0), (13, 12), (13, 12)]
def rt_X4 : List (Nat × Nat × Nat) := [(0, 1, 1), (0, 2, 2)]
def wt_X4 : List (Nat × Nat × Int) := [(0, 0, 0)]
set_option maxHeartbeats 4000000 in
set_option maxRecDepth 100000 in
theorem i_X4 {G : XG} : Mks G mX4_init [] lt_X4 rt_X4 wt_X4 3 2 1 := by
  intro S I
  refine x_start [some (vr G (S.1 + 0))] (by decide) (Nat.le_of_ble_eq_true rfl) rfl ?_
  refine x_aload_n (pc := 0) dX4_init_0 rfl rfl ?_
  refine x_objInit (pc := 1) ml_X4_3 w_oi w_oc dX4_init_1 ⟨by decide, by decide⟩ ?_
  refine x_aload_n (pc := 4) dX4_init_4 rfl rfl ?_
  refine x_iconst (pc := 5) dX4_init_5 ?_
  refine m_putI (pc := 6) (d := 0) (w2 := 1) fl_X4_9 dX4_init_6 (by decide) rfl rfl rfl rfl ?_
  refine x_aload_n (pc := 9) dX4_init_9 rfl rfl ?_
  refine x_bipush (pc := 10) dX4_init_10 rfl ?_
  refine m_newa (pc := 12) (k' := (1, 12)) (t := 13) (t0 := 1) (N := 12) (n := 1) (n2 := 2) w_ai rfl rfl (fun U h => h) (by decide) (fun _ => rfl) rfl (by decide) (by decide) dX4_init_12 ⟨Nat.le_of_ble_eq_true rfl, Nat.le_of_ble_eq_true rfl⟩ rfl rfl rfl rfl ?_
  refine m_putF (pc := 14) (d := 0) (o := 1) (m2 := 1) fl_X4_15 rfl rfl rfl dX4_init_14 (by decide) rfl rfl (fun _ => rfl) (fun _ => rfl) rfl ?_
  refine x_aload_n (pc := 17) dX4_init_17 rfl rfl ?_
  refine x_bipush (pc := 18) dX4_init_18 rfl ?_
  refine m_newa (pc := 20) (k' := (2, 24)) (t := 13) (t0 := 1) (N := 12) (n := 2) (n2 := 3) w_ai rfl rfl (fun U h => h) (by decide) (fun _ => rfl) rfl (by decide) (by decide) dX4_init_20 ⟨Nat.le_of_ble_eq_true rfl, Nat.le_of_ble_eq_true rfl⟩ rfl rfl rfl rfl ?_
  refine m_putF (pc := 22) (d := 0) (o := 2) (m2 := 2) fl_X4_19 rfl rfl rfl dX4_init_22 (by decide) rfl rfl (fun _ => rfl) (fun _ => rfl) rfl ?_
  exact x_vret (pc := 25) dX4_init_25 rfl ⟨Nat.le_of_ble_eq_true rfl, Nat.le_of_ble_eq_true rfl⟩ ⟨rfl, rfl, rfl⟩
def lt_X5 : List (Nat × Nat) := [(5, 0), (13, 16), (13, 16), (13, 16), (13, 64), (13, 64), (13, 64), (13, 64)]
def rt_X5 : List (Nat × Nat × Nat) := [(0, 1, 1), (0, 2, 2), (0, 3, 3), (0, 4, 4), (0, 5, 5), (0, 6, 6), (0, 7, 7)]
def wt_X5 : List (Nat × Nat × Int) := [(0, 0, 0)]
set_option maxHeartbeats 4000000 in
set_option maxRecDepth 100000 in
theorem i_X5 {G : XG} : Mks G mX5_init [] lt_X5 rt_X5 wt_X5 8 7 1 := by
  intro S I
  refine x_start [some (vr G (S.1 + 0))] (by decide) (Nat.le_of_ble_eq_true rfl) rfl ?_
  refine x_aload_n (pc := 0) dX5_init_0 rfl rfl ?_
  refine x_objInit (pc := 1) ml_X5_3 w_oi w_oc dX5_init_1 ⟨by decide, by decide⟩ ?_
  refine x_aload_n (pc := 4) dX5_init_4 rfl rfl ?_
  refine x_iconst (pc := 5) dX5_init_5 ?_
  refine m_putI (pc := 6) (d := 0) (w2 := 1) fl_X5_9 dX5_init_6 (by decide) rfl rfl rfl rfl ?_
  refine x_aload_n (pc := 9) dX5_init_9 rfl rfl ?_
  refine x_bipush (pc := 10) dX5_init_10 rfl ?_
  refine m_newa (pc := 12) (k' := (1, 16)) (t := 13) (t0 := 1) (N := 16) (n := 1) (n2 := 2) w_ai rfl rfl (fun U h => h) (by decide) (fun _ => rfl) rfl (by decide) (by decide) dX5_init_12 ⟨Nat.le_of_ble_eq_true rfl, Nat.le_of_ble_eq_true rfl⟩ rfl rfl rfl rfl ?_
  refine m_putF (pc := 14) (d := 0) (o := 1) (m2 := 1) fl_X5_15 rfl rfl rfl dX5_init_14 (by decide) rfl rfl (fun _ => rfl) (fun _ => rfl) rfl ?_
  refine x_aload_n (pc := 17) dX5_init_17 rfl rfl ?_
  refine x_bipush (pc := 18) dX5_init_18 rfl ?_
  refine m_newa (pc := 20) (k' := (2, 32)) (t := 13) (t0 := 1) (N := 16) (n := 2) (n2 := 3) w_ai rfl rfl (fun U h => h) (by decide) (fun _ => rfl) rfl (by decide) (by decide) dX5_init_20 ⟨Nat.le_of_ble_eq_true rfl, Nat.le_of_ble_eq_true rfl⟩ rfl rfl rfl rfl ?_
  refine m_putF (pc := 22) (d := 0) (o := 2) (m2 := 2) fl_X5_19 rfl rfl rfl dX5_init_22 (by decide) rfl rfl (fun _ => rfl) (fun _ => rfl) rfl ?_
  refine x_aload_n (pc := 25) dX5_init_25 rfl rfl ?_
  refine x_bipush (pc := 26) dX5_init_26 rfl ?_
  refine m_newa (pc := 28) (k' := (3, 48)) (t := 13) (t0 := 1) (N := 16) (n := 3) (n2 := 4) w_ai rfl rfl (fun U h => h) (by decide) (fun _ => rfl) rfl (by decide) (by decide) dX5_init_28 ⟨Nat.le_of_ble_eq_true rfl, Nat.le_of_ble_eq_true rfl⟩ rfl rfl rfl rfl ?_
  refine m_putF (pc := 30) (d := 0) (o := 3) (m2 := 3) fl_X5_22 rfl rfl rfl dX5_init_30 (by decide) rfl rfl (fun _ => rfl) (fun _ => rfl) rfl ?_
  refine x_aload_n (pc := 33) dX5_init_33 rfl rfl ?_
  refine x_bipush (pc := 34) dX5_init_34 rfl ?_
  refine m_newa (pc := 36) (k' := (4, 112)) (t := 13) (t0 := 1) (N := 64) (n := 4) (n2 := 5) w_ai rfl rfl (fun U h => h) (by decide) (fun _ => rfl) rfl (by decide) (by decide) dX5_init_36 ⟨Nat.le_of_ble_eq_true rfl, Nat.le_of_ble_eq_true rfl⟩ rfl rfl rfl rfl ?_
  refine m_putF (pc := 38) (d := 0) (o := 4) (m2 := 4) fl_X5_25 rfl rfl rfl dX5_init_38 (by decide) rfl rfl (fun _ => rfl) (fun _ => rfl) rfl ?_
  refine x_aload_n (pc := 41) dX5_init_41 rfl rfl ?_
  refine x_bipush (pc := 42) dX5_init_42 rfl ?_
  refine m_newa (pc := 44) (k' := (5, 176)) (t := 13) (t0 := 1) (N := 64) (n := 5) (n2 := 6) w_ai rfl rfl (fun U h => h) (by decide) (fun _ => rfl) rfl (by decide) (by decide) dX5_init_44 ⟨Nat.le_of_ble_eq_true rfl, Nat.le_of_ble_eq_true rfl⟩ rfl rfl rfl rfl ?_
  refine m_putF (pc := 46) (d := 0) (o := 5) (m2 := 5) fl_X5_28 rfl rfl rfl dX5_init_46 (by decide) rfl rfl (fun _ => rfl) (fun _ => rfl) rfl ?_
  refine x_aload_n (pc := 49) dX5_init_49 rfl rfl ?_
  refine x_bipush (pc := 50) dX5_init_50 rfl ?_
  refine m_newa (pc := 52) (k' := (6, 240)) (t := 13) (t0 := 1) (N := 64) (n := 6) (n2 := 7) w_ai rfl rfl (fun U h => h) (by decide) (fun _ => rfl) rfl (by decide) (by decide) dX5_init_52 ⟨Nat.le_of_ble_eq_true rfl, Nat.le_of_ble_eq_true rfl⟩ rfl rfl rfl rfl ?_
  refine m_putF (pc := 54) (d := 0) (o := 6) (m2 := 6) fl_X5_31 rfl rfl rfl dX5_init_54 (by decide) rfl rfl (fun _ => rfl) (fun _ => rfl) rfl ?_
  refine x_aload_n (pc := 57) dX5_init_57 rfl rfl ?_
  refine x_bipush (pc := 58) dX5_init_58 rfl ?_
  refine m_newa (pc := 60) (k' := (7, 304)) (t := 13) (t0 := 1) (N := 64) (n := 7) (n2 := 8) w_ai rfl rfl (fun U h => h) (by decide) (fun _ => rfl) rfl (by decide) (by decide) dX5_init_60 ⟨Nat.le_of_ble_eq_true rfl, Nat.le_of_ble_eq_true rfl⟩ rfl rfl rfl rfl ?_
  refine m_putF (pc := 62) (d := 0) (o := 7) (m2 := 7) fl_X5_34 rfl rfl rfl dX5_init_62 (by decide) rfl rfl (fun _ => rfl) (fun _ => rfl) rfl ?_
  exact x_vret (pc := 65) dX5_init_65 rfl ⟨Nat.le_of_ble_eq_true rfl, Nat.le_of_ble_eq_true rfl⟩ ⟨rfl, rfl, rfl⟩
def lt_X6 : List (Nat × Nat) := [(6, 0), (13, 24), (13, 24), (13, 24), (13, 24), (13, 24), (13, 150), (13, 150), (13, 150), (13, 150), (13, 150), (13, 150), (13, 150)]
def rt_X6 : List (Nat × Nat × Nat) := [(0, 1, 1), (0, 2, 2), (0, 3, 3), (0, 4, 4), (0, 5, 5), (0, 7, 6), (0, 8, 7), (0, 9, 8), (0, 10, 9), (0, 11, 10), (0, 12, 11), (0, 13, 12)]
def wt_X6 : List (Nat × Nat × Int) := [(0, 0, 0), (0, 6, 0)]
set_option maxHeartbeats 4000000 in
set_option maxRecDepth 100000 in
theorem i_X6 {G : XG} : Mks G mX6_init [] lt_X6 rt_X6 wt_X6 13 12 2 := by
  intro S I
  refine x_start [some (vr G (S.1 + 0))] (by decide) (Nat.le_of_ble_eq_true rfl) rfl ?_
  refine x_aload_n (pc := 0) dX6_init_0 rfl rfl ?_
  refine x_objInit (pc := 1) ml_X6_3 w_oi w_oc dX6_init_1 ⟨by decide, by decide⟩ ?_
  refine x_aload_n (pc := 4) dX6_init_4 rfl rfl ?_
  refine x_iconst (pc := 5) dX6_init_5 ?_
  refine m_putI (pc := 6) (d := 0) (w2 := 1) fl_X6_9 dX6_init_6 (by decide) rfl rfl rfl rfl ?_
  refine x_aload_n (pc := 9) dX6_init_9 rfl rfl ?_
  refine x_bipush (pc := 10) dX6_init_10 rfl ?_
  refine m_newa (pc := 12) (k' := (1, 24)) (t := 13) (t0 := 1) (N := 24) (n := 1) (n2 := 2) w_ai rfl rfl (fun U h => h) (by decide) (fun _ => rfl) rfl (by decide) (by decide) dX6_init_12 ⟨Nat.le_of_ble_eq_true rfl, Nat.le_of_ble_eq_true rfl⟩ rfl rfl rfl rfl ?_
  refine m_putF (pc := 14) (d := 0) (o := 1) (m2 := 1) fl_X6_15 rfl rfl rfl dX6_init_14 (by decide) rfl rfl (fun _ => rfl) (fun _ => rfl) rfl ?_
  refine x_aload_n (pc := 17) dX6_init_17 rfl rfl ?_
  refine x_bipush (pc := 18) dX6_init_18 rfl ?_
  refine m_newa (pc := 20) (k' := (2, 48)) (t := 13) (t0 := 1) (N := 24) (n := 2) (n2 := 3) w_ai rfl rfl (fun U h => h) (by decide) (fun _ => rfl) rfl (by decide) (by decide) dX6_init_20 ⟨Nat.le_of_ble_eq_true rfl, Nat.le_of_ble_eq_true rfl⟩ rfl rfl rfl rfl ?_
  refine m_putF (pc := 22) (d := 0) (o := 2) (m2 := 2) fl_X6_19 rfl rfl rfl dX6_init_22 (by decide) rfl rfl (fun _ => rfl) (fun _ => rfl) rfl ?_
  refine x_aload_n (pc := 25) dX6_init_25 rfl rfl ?_
  refine x_bipush (pc := 26) dX6_init_26 rfl ?_
  refine m_newa (pc := 28) (k' := (3, 72)) (t := 13) (t0 := 1) (N := 24) (n := 3) (n2 := 4) w_ai rfl rfl (fun U h => h) (by decide) (fun _ => rfl) rfl (by decide) (by decide) dX6_init_28 ⟨Nat.le_of_ble_eq_true rfl, Nat.le_of_ble_eq_true rfl⟩ rfl rfl rfl rfl ?_
  refine m_putF (pc := 30) (d := 0) (o := 3) (m2 := 3) fl_X6_22 rfl rfl rfl dX6_init_30 (by decide) rfl rfl (fun _ => rfl) (fun _ => rfl) rfl ?_
  refine x_aload_n (pc := 33) dX6_init_33 rfl rfl ?_
  refine x_bipush (pc := 34) dX6_init_34 rfl ?_
  refine m_newa (pc := 36) (k' := (4, 96)) (t := 13) (t0 := 1) (N := 24) (n := 4) (n2 := 5) w_ai rfl rfl (fun U h => h) (by decide) (fun _ => rfl) rfl (by decide) (by decide) dX6_init_36 ⟨Nat.le_of_ble_eq_true rfl, Nat.le_of_ble_eq_true rfl⟩ rfl rfl rfl rfl ?_
  refine m_putF (pc := 38) (d := 0) (o := 4) (m2 := 4) fl_X6_25 rfl rfl rfl dX6_init_38 (by decide) rfl rfl (fun _ => rfl) (fun _ => rfl) rfl ?_
  refine x_aload_n (pc := 41) dX6_init_41 rfl rfl ?_
  refine x_bipush (pc := 42) dX6_init_42 rfl ?_
  refine m_newa (pc := 44) (k' := (5, 120)) (t := 13) (t0 := 1) (N := 24) (n := 5) (n2 := 6) w_ai rfl rfl (fun U h => h) (by decide) (fun _ => rfl) rfl (by decide) (by decide) dX6_init_44 ⟨Nat.le_of_ble_eq_true rfl, Nat.le_of_ble_eq_true rfl⟩ rfl rfl rfl rfl ?_
  refine m_putF (pc := 46) (d := 0) (o := 5) (m2 := 5) fl_X6_28 rfl rfl rfl dX6_init_46 (by decide) rfl rfl (fun _ => rfl) (fun _ => rfl) rfl ?_
  refine x_aload_n (pc := 49) dX6_init_49 rfl rfl ?_
  refine x_iconst (pc := 50) dX6_init_50 ?_
  refine m_putI (pc := 51) (d := 0) (w2 := 2) fl_X6_31 dX6_init_51 (by decide) rfl rfl rfl rfl ?_
  refine x_aload_n (pc := 54) dX6_init_54 rfl rfl ?_
  refine x_sipush (pc := 55) dX6_init_55 rfl ?_
  refine m_newa (pc := 58) (k' := (6, 270)) (t := 13) (t0 := 1) (N := 150) (n := 6) (n2 := 7) w_ai rfl rfl (fun U h => h) (by decide) (fun _ => rfl) rfl (by decide) (by decide) dX6_init_58 ⟨Nat.le_of_ble_eq_true rfl, Nat.le_of_ble_eq_true rfl⟩ rfl rfl rfl rfl ?_
  refine m_putF (pc := 60) (d := 0) (o := 6) (m2 := 6) fl_X6_34 rfl rfl rfl dX6_init_60 (by decide) rfl rfl (fun _ => rfl) (fun _ => rfl) rfl ?_
  refine x_aload_n (pc := 63) dX6_init_63 rfl rfl ?_
  refine x_sipush (pc := 64) dX6_init_64 rfl ?_
  refine m_newa (pc := 67) (k' := (7, 420)) (t := 13) (t0 := 1) (N := 150) (n := 7) (n2 := 8) w_ai rfl rfl (fun U h => h) (by decide) (fun _ => rfl) rfl (by decide) (by decide) dX6_init_67 ⟨Nat.le_of_ble_eq_true rfl, Nat.le_of_ble_eq_true rfl⟩ rfl rfl rfl rfl ?_
  refine m_putF (pc := 69) (d := 0) (o := 7) (m2 := 7) fl_X6_37 rfl rfl rfl dX6_init_69 (by decide) rfl rfl (fun _ => rfl) (fun _ => rfl) rfl ?_
  refine x_aload_n (pc := 72) dX6_init_72 rfl rfl ?_
  refine x_sipush (pc := 73) dX6_init_73 rfl ?_
  refine m_newa (pc := 76) (k' := (8, 570)) (t := 13) (t0 := 1) (N := 150) (n := 8) (n2 := 9) w_ai rfl rfl (fun U h => h) (by decide) (fun _ => rfl) rfl (by decide) (by decide) dX6_init_76 ⟨Nat.le_of_ble_eq_true rfl, Nat.le_of_ble_eq_true rfl⟩ rfl rfl rfl rfl ?_
  refine m_putF (pc := 78) (d := 0) (o := 8) (m2 := 8) fl_X6_40 rfl rfl rfl dX6_init_78 (by decide) rfl rfl (fun _ => rfl) (fun _ => rfl) rfl ?_
  refine x_aload_n (pc := 81) dX6_init_81 rfl rfl ?_
  refine x_sipush (pc := 82) dX6_init_82 rfl ?_
  refine m_newa (pc := 85) (k' := (9, 720)) (t := 13) (t0 := 1) (N := 150) (n := 9) (n2 := 10) w_ai rfl rfl (fun U h => h) (by decide) (fun _ => rfl) rfl (by decide) (by decide) dX6_init_85 ⟨Nat.le_of_ble_eq_true rfl, Nat.le_of_ble_eq_true rfl⟩ rfl rfl rfl rfl ?_
  refine m_putF (pc := 87) (d := 0) (o := 9) (m2 := 9) fl_X6_43 rfl rfl rfl dX6_init_87 (by decide) rfl rfl (fun _ => rfl) (fun _ => rfl) rfl ?_
  refine x_aload_n (pc := 90) dX6_init_90 rfl rfl ?_
  refine x_sipush (pc := 91) dX6_init_91 rfl ?_
  refine m_newa (pc := 94) (k' := (10, 870)) (t := 13) (t0 := 1) (N := 150) (n := 10) (n2 := 11) w_ai rfl rfl (fun U h => h) (by decide) (fun _ => rfl) rfl (by decide) (by decide) dX6_init_94 ⟨Nat.le_of_ble_eq_true rfl, Nat.le_of_ble_eq_true rfl⟩ rfl rfl rfl rfl ?_
  refine m_putF (pc := 96) (d := 0) (o := 10) (m2 := 10) fl_X6_46 rfl rfl rfl dX6_init_96 (by decide) rfl rfl (fun _ => rfl) (fun _ => rfl) rfl ?_
  refine x_aload_n (pc := 99) dX6_init_99 rfl rfl ?_
  refine x_sipush (pc := 100) dX6_init_100 rfl ?_
  refine m_newa (pc := 103) (k' := (11, 1020)) (t := 13) (t0 := 1) (N := 150) (n := 11) (n2 := 12) w_ai rfl rfl (fun U h => h) (by decide) (fun _ => rfl) rfl (by decide) (by decide) dX6_init_103 ⟨Nat.le_of_ble_eq_true rfl, Nat.le_of_ble_eq_true rfl⟩ rfl rfl rfl rfl ?_
  refine m_putF (pc := 105) (d := 0) (o := 11) (m2 := 11) fl_X6_49 rfl rfl rfl dX6_init_105 (by decide) rfl rfl (fun _ => rfl) (fun _ => rfl) rfl ?_
  refine x_aload_n (pc := 108) dX6_init_108 rfl rfl ?_
  refine x_sipush (pc := 109) dX6_init_109 rfl ?_
  refine m_newa (pc := 112) (k' := (12, 1170)) (t := 13) (t0 := 1) (N := 150) (n := 12) (n2 := 13) w_ai rfl rfl (fun U h => h) (by decide) (fun _ => rfl) rfl (by decide) (by decide) dX6_init_112 ⟨Nat.le_of_ble_eq_true rfl, Nat.le_of_ble_eq_true rfl⟩ rfl rfl rfl rfl ?_
  refine m_putF (pc := 114) (d := 0) (o := 12) (m2 := 12) fl_X6_52 rfl rfl rfl dX6_init_114 (by decide) rfl rfl (fun _ => rfl) (fun _ => rfl) rfl ?_
  exact x_vret (pc := 117) dX6_init_117 rfl ⟨Nat.le_of_ble_eq_true rfl, Nat.le_of_ble_eq_true rfl⟩ ⟨rfl, rfl, rfl⟩
def lt_X8 : List (Nat × Nat) := [(8, 0), (13, 100), (13, 5120), (13, 512)]
def rt_X8 : List (Nat × Nat × Nat) := [(0, 3, 1), (0, 4, 2), (0, 5, 3)]
def wt_X8 : List (Nat × Nat × Int) := [(0, 0, 0), (0, 1, 0), (0, 2, 0), (0, 6, 0)]
set_option maxHeartbeats 4000000 in
set_option maxRecDepth 100000 in
theorem i_X8 {G : XG} : Mks G mX8_init [] lt_X8 rt_X8 wt_X8 4 3 4 := by
  intro S I
  refine x_start [some (vr G (S.1 + 0))] (by decide) (Nat.le_of_ble_eq_true rfl) rfl ?_
  refine x_aload_n (pc := 0) dX8_init_0 rfl rfl ?_
  refine x_objInit (pc := 1) ml_X8_3 w_oi w_oc dX8_init_1 ⟨by decide, by decide⟩ ?_
  refine x_aload_n (pc := 4) dX8_init_4 rfl rfl ?_
  refine x_iconst (pc := 5) dX8_init_5 ?_
  refine m_putI (pc := 6) (d := 0) (w2 := 1) fl_X8_9 dX8_init_6 (by decide) rfl rfl rfl rfl ?_
  refine x_aload_n (pc := 9) dX8_init_9 rfl rfl ?_
  refine x_iconst (pc := 10) dX8_init_10 ?_
  refine m_putI (pc := 11) (d := 0) (w2 := 2) fl_X8_15 dX8_init_11 (by decide) rfl rfl rfl rfl ?_
  refine x_aload_n (pc := 14) dX8_init_14 rfl rfl ?_
  refine x_iconst (pc := 15) dX8_init_15 ?_
  refine m_putI (pc := 16) (d := 0) (w2 := 3) fl_X8_18 dX8_init_16 (by decide) rfl rfl rfl rfl ?_
  refine x_aload_n (pc := 19) dX8_init_19 rfl rfl ?_
  refine x_bipush (pc := 20) dX8_init_20 rfl ?_
  refine m_newa (pc := 22) (k' := (1, 100)) (t := 13) (t0 := 1) (N := 100) (n := 1) (n2 := 2) w_ai rfl rfl (fun U h => h) (by decide) (fun _ => rfl) rfl (by decide) (by decide) dX8_init_22 ⟨Nat.le_of_ble_eq_true rfl, Nat.le_of_ble_eq_true rfl⟩ rfl rfl rfl rfl ?_
  refine m_putF (pc := 24) (d := 0) (o := 1) (m2 := 1) fl_X8_21 rfl rfl rfl dX8_init_24 (by decide) rfl rfl (fun _ => rfl) (fun _ => rfl) rfl ?_
  refine x_aload_n (pc := 27) dX8_init_27 rfl rfl ?_
  refine x_sipush (pc := 28) dX8_init_28 rfl ?_
  refine m_newa (pc := 31) (k' := (2, 5220)) (t := 13) (t0 := 1) (N := 5120) (n := 2) (n2 := 3) w_ai rfl rfl (fun U h => h) (by decide) (fun _ => rfl) rfl (by decide) (by decide) dX8_init_31 ⟨Nat.le_of_ble_eq_true rfl, Nat.le_of_ble_eq_true rfl⟩ rfl rfl rfl rfl ?_
  refine m_putF (pc := 33) (d := 0) (o := 2) (m2 := 2) fl_X8_25 rfl rfl rfl dX8_init_33 (by decide) rfl rfl (fun _ => rfl) (fun _ => rfl) rfl ?_
  refine x_aload_n (pc := 36) dX8_init_36 rfl rfl ?_
  refine x_sipush (pc := 37) dX8_init_37 rfl ?_
  refine m_newa (pc := 40) (k' := (3, 5732)) (t := 13) (t0 := 1) (N := 512) (n := 3) (n2 := 4) w_ai rfl rfl (fun U h => h) (by decide) (fun _ => rfl) rfl (by decide) (by decide) dX8_init_40 ⟨Nat.le_of_ble_eq_true rfl, Nat.le_of_ble_eq_true rfl⟩ rfl rfl rfl rfl ?_
  refine m_putF (pc := 42) (d := 0) (o := 3) (m2 := 3) fl_X8_28 rfl rfl rfl dX8_init_42 (by decide) rfl rfl (fun _ => rfl) (fun _ => rfl) rfl ?_
  refine x_aload_n (pc := 45) dX8_init_45 rfl rfl ?_
  refine x_iconst (pc := 46) dX8_init_46 ?_
  refine m_putZ (pc := 47) (d := 0) (w2 := 4) fl_X8_31 dX8_init_47 (by decide) rfl rfl (Or.inl rfl) rfl rfl ?_
  exact x_vret (pc := 50) dX8_init_50 rfl ⟨Nat.le_of_ble_eq_true rfl, Nat.le_of_ble_eq_true rfl⟩ ⟨rfl, rfl, rfl⟩
def lt_X9 : List (Nat × Nat) := [(9, 0), (13, 6000), (13, 6), (13, 60), (13, 10), (13, 10), (13, 10)]
def rt_X9 : List (Nat × Nat × Nat) := [(0, 0, 1), (0, 1, 2), (0, 2, 3), (0, 3, 4), (0, 4, 5), (0, 5, 6)]
def wt_X9 (z : Int) : List (Nat × Nat × Int) := [(0, 6, z), (2, 0, -1), (2, 1, -1), (2, 2, -1), (2, 3, -1), (2, 4, -1), (2, 5, -1)]
set_option maxHeartbeats 4000000 in
set_option maxRecDepth 100000 in
theorem i_X9 {G : XG} (z : Int) : Mks G mX9_init [vi z] lt_X9 rt_X9 (wt_X9 z) 7 6 7 := by
  intro S I
  refine x_start [some (vr G (S.1 + 0)), some (vi z)] (by decide) (Nat.le_of_ble_eq_true rfl) rfl ?_
  refine x_aload_n (pc := 0) dX9_init_0 rfl rfl ?_
  refine x_objInit (pc := 1) ml_X9_3 w_oi w_oc dX9_init_1 ⟨by decide, by decide⟩ ?_
  refine x_aload_n (pc := 4) dX9_init_4 rfl rfl ?_
  refine x_sipush (pc := 5) dX9_init_5 rfl ?_
  refine m_newa (pc := 8) (k' := (1, 6000)) (t := 13) (t0 := 1) (N := 6000) (n := 1) (n2 := 2) w_ai rfl rfl (fun U h => h) (by decide) (fun _ => rfl) rfl (by decide) (by decide) dX9_init_8 ⟨Nat.le_of_ble_eq_true rfl, Nat.le_of_ble_eq_true rfl⟩ rfl rfl rfl rfl ?_
  refine m_putF (pc := 10) (d := 0) (o := 1) (m2 := 1) fl_X9_9 rfl rfl rfl dX9_init_10 (by decide) rfl rfl (fun _ => rfl) (fun _ => rfl) rfl ?_
  refine x_aload_n (pc := 13) dX9_init_13 rfl rfl ?_
  refine x_bipush (pc := 14) dX9_init_14 rfl ?_
  refine m_newa (pc := 16) (k' := (2, 6006)) (t := 13) (t0 := 1) (N := 6) (n := 2) (n2 := 3) w_ai rfl rfl (fun U h => h) (by decide) (fun _ => rfl) rfl (by decide) (by decide) dX9_init_16 ⟨Nat.le_of_ble_eq_true rfl, Nat.le_of_ble_eq_true rfl⟩ rfl rfl rfl rfl ?_
  refine m_putF (pc := 18) (d := 0) (o := 2) (m2 := 2) fl_X9_15 rfl rfl rfl dX9_init_18 (by decide) rfl rfl (fun _ => rfl) (fun _ => rfl) rfl ?_
  refine x_aload_n (pc := 21) dX9_init_21 rfl rfl ?_
  refine x_bipush (pc := 22) dX9_init_22 rfl ?_
  refine m_newa (pc := 24) (k' := (3, 6066)) (t := 13) (t0 := 1) (N := 60) (n := 3) (n2 := 4) w_ai rfl rfl (fun U h => h) (by decide) (fun _ => rfl) rfl (by decide) (by decide) dX9_init_24 ⟨Nat.le_of_ble_eq_true rfl, Nat.le_of_ble_eq_true rfl⟩ rfl rfl rfl rfl ?_
  refine m_putF (pc := 26) (d := 0) (o := 3) (m2 := 3) fl_X9_18 rfl rfl rfl dX9_init_26 (by decide) rfl rfl (fun _ => rfl) (fun _ => rfl) rfl ?_
  refine x_aload_n (pc := 29) dX9_init_29 rfl rfl ?_
  refine x_bipush (pc := 30) dX9_init_30 rfl ?_
  refine m_newa (pc := 32) (k' := (4, 6076)) (t := 13) (t0 := 1) (N := 10) (n := 4) (n2 := 5) w_ai rfl rfl (fun U h => h) (by decide) (fun _ => rfl) rfl (by decide) (by decide) dX9_init_32 ⟨Nat.le_of_ble_eq_true rfl, Nat.le_of_ble_eq_true rfl⟩ rfl rfl rfl rfl ?_
  refine m_putF (pc := 34) (d := 0) (o := 4) (m2 := 4) fl_X9_21 rfl rfl rfl dX9_init_34 (by decide) rfl rfl (fun _ => rfl) (fun _ => rfl) rfl ?_
  refine x_aload_n (pc := 37) dX9_init_37 rfl rfl ?_
  refine x_bipush (pc := 38) dX9_init_38 rfl ?_
  refine m_newa (pc := 40) (k' := (5, 6086)) (t := 13) (t0 := 1) (N := 10) (n := 5) (n2 := 6) w_ai rfl rfl (fun U h => h) (by decide) (fun _ => rfl) rfl (by decide) (by decide) dX9_init_40 ⟨Nat.le_of_ble_eq_true rfl, Nat.le_of_ble_eq_true rfl⟩ rfl rfl rfl rfl ?_
  refine m_putF (pc := 42) (d := 0) (o := 5) (m2 := 5) fl_X9_24 rfl rfl rfl dX9_init_42 (by decide) rfl rfl (fun _ => rfl) (fun _ => rfl) rfl ?_
  refine x_aload_n (pc := 45) dX9_init_45 rfl rfl ?_
  refine x_bipush (pc := 46) dX9_init_46 rfl ?_
  refine m_newa (pc := 48) (k' := (6, 6096)) (t := 13) (t0 := 1) (N := 10) (n := 6) (n2 := 7) w_ai rfl rfl (fun U h => h) (by decide) (fun _ => rfl) rfl (by decide) (by decide) dX9_init_48 ⟨Nat.le_of_ble_eq_true rfl, Nat.le_of_ble_eq_true rfl⟩ rfl rfl rfl rfl ?_
  refine m_putF (pc := 50) (d := 0) (o := 6) (m2 := 6) fl_X9_27 rfl rfl rfl dX9_init_50 (by decide) rfl rfl (fun _ => rfl) (fun _ => rfl) rfl ?_
  refine x_aload_n (pc := 53) dX9_init_53 rfl rfl ?_
  refine x_iload_n (pc := 54) dX9_init_54 rfl rfl ?_
  refine m_putI (pc := 55) (d := 0) (w2 := 1) fl_X9_30 dX9_init_55 (by decide) rfl rfl rfl rfl ?_
  refine x_aload_n (pc := 58) dX9_init_58 rfl rfl ?_
  refine m_getR (pc := 59) (d := 0) (o := 2) fl_X9_15 dX9_init_59 (by decide) rfl rfl rfl ?_
  refine x_iconst (pc := 62) dX9_init_62 ?_
  refine y_Sv (pc := 63) (As := [vr G (S.1 + 2), vi (-1)]) (rest := []) (R := fun I1 => I1 = mkI I S.1 7 (wt_X9 z) 7) ok_J7_fill_53178 ml_X9_34 dX9_init_63 rfl ⟨rfl, rfl⟩ ⟨by decide, by decide⟩ ⟨Nat.le_of_ble_eq_true rfl, Nat.le_of_ble_eq_true rfl⟩ (Nat.le_of_ble_eq_true rfl) rfl (n_fill6 (d := 2) (by decide) rfl (fun i hi => by match i, hi with | 0, _ => rfl | 1, _ => rfl | 2, _ => rfl | 3, _ => rfl | 4, _ => rfl | 5, _ => rfl) rfl) (fun I1 h => ?_)
  subst h
  exact x_vret (pc := 66) dX9_init_66 rfl ⟨Nat.le_of_ble_eq_true rfl, Nat.le_of_ble_eq_true rfl⟩ ⟨rfl, rfl, rfl⟩
def lt_X3 : List (Nat × Nat) := [(3, 0), (5, 0), (13, 16), (13, 16), (13, 16), (13, 64), (13, 64), (13, 64), (13, 64), (13, 500)]
def rt_X3 : List (Nat × Nat × Nat) := [(1, 1, 2), (1, 2, 3), (1, 3, 4), (1, 4, 5), (1, 5, 6), (1, 6, 7), (1, 7, 8), (0, 0, 1), (0, 3, 9)]
def wt_X3 : List (Nat × Nat × Int) := [(1, 0, 0), (0, 1, 0), (0, 2, -1), (0, 4, 0), (0, 5, 0), (0, 6, 0), (0, 7, 0), (0, 8, 0)]
set_option maxHeartbeats 4000000 in
set_option maxRecDepth 100000 in
theorem i_X3 {G : XG} : Mks G mX3_init [] lt_X3 rt_X3 wt_X3 10 9 8 := by
  intro S I
  refine x_start [some (vr G (S.1 + 0))] (by decide) (Nat.le_of_ble_eq_true rfl) rfl ?_
  refine x_aload_n (pc := 0) dX3_init_0 rfl rfl ?_
  refine x_objInit (pc := 1) ml_X3_3 w_oi w_oc dX3_init_1 ⟨by decide, by decide⟩ ?_
  refine x_aload_n (pc := 4) dX3_init_4 rfl rfl ?_
  refine m_new (pc := 5) (k' := (1, 8)) (n := 1) (n2 := 2) xc5 xd5 cl_X3_9 wi_5 wn_5 dX3_init_5 ⟨Nat.le_of_ble_eq_true rfl, Nat.le_of_ble_eq_true rfl⟩ rfl rfl rfl rfl ?_
  refine x_dup (pc := 8) dX3_init_8 rfl ?_
  refine m_callN (pc := 9) (k' := (8, 312)) (n := 1) (As := []) (rest := [vr G (S.1 + 1), vr G (S.1 + 0)]) (L' := lt_X5) (R' := rt_X5) (W' := wt_X5) (n' := 8) (m' := 7) (w' := 1) (n1 := 2) (n2 := 9) (m2 := 7) (w2 := 1) ok_X5_init (List.mem_of_getElem? (i := 8) rfl) dX3_init_9 rfl ⟨⟨by decide, by decide⟩, Nat.le_of_ble_eq_true rfl, Nat.le_of_ble_eq_true rfl⟩ (Nat.le_of_ble_eq_true rfl) rfl (i_X5) (by decide) (by decide +kernel) rfl rfl rfl rfl rfl ?_
  refine m_putF (pc := 12) (d := 0) (o := 1) (m2 := 8) fl_X3_12 rfl rfl rfl dX3_init_12 (by decide) rfl rfl (fun _ => rfl) (fun _ => rfl) rfl ?_
  refine x_aload_n (pc := 15) dX3_init_15 rfl rfl ?_
  refine x_iconst (pc := 16) dX3_init_16 ?_
  refine m_putI (pc := 17) (d := 0) (w2 := 2) fl_X3_18 dX3_init_17 (by decide) rfl rfl rfl rfl ?_
  refine x_aload_n (pc := 20) dX3_init_20 rfl rfl ?_
  refine x_iconst (pc := 21) dX3_init_21 ?_
  refine m_putI (pc := 22) (d := 0) (w2 := 3) fl_X3_22 dX3_init_22 (by decide) rfl rfl rfl rfl ?_
  refine x_aload_n (pc := 25) dX3_init_25 rfl rfl ?_
  refine x_sipush (pc := 26) dX3_init_26 rfl ?_
  refine m_newa (pc := 29) (k' := (9, 812)) (t := 13) (t0 := 1) (N := 500) (n := 9) (n2 := 10) w_ai rfl rfl (fun U h => h) (by decide) (fun _ => rfl) rfl (by decide) (by decide) dX3_init_29 ⟨Nat.le_of_ble_eq_true rfl, Nat.le_of_ble_eq_true rfl⟩ rfl rfl rfl rfl ?_
  refine m_putF (pc := 31) (d := 0) (o := 9) (m2 := 9) fl_X3_25 rfl rfl rfl dX3_init_31 (by decide) rfl rfl (fun _ => rfl) (fun _ => rfl) rfl ?_
  refine x_aload_n (pc := 34) dX3_init_34 rfl rfl ?_
  refine x_iconst (pc := 35) dX3_init_35 ?_
  refine m_putI (pc := 36) (d := 0) (w2 := 4) fl_X3_29 dX3_init_36 (by decide) rfl rfl rfl rfl ?_
  refine x_aload_n (pc := 39) dX3_init_39 rfl rfl ?_
  refine x_iconst (pc := 40) dX3_init_40 ?_
  refine m_putI (pc := 41) (d := 0) (w2 := 5) fl_X3_32 dX3_init_41 (by decide) rfl rfl rfl rfl ?_
  refine x_aload_n (pc := 44) dX3_init_44 rfl rfl ?_
  refine x_iconst (pc := 45) dX3_init_45 ?_
  refine m_putI (pc := 46) (d := 0) (w2 := 6) fl_X3_35 dX3_init_46 (by decide) rfl rfl rfl rfl ?_
  refine x_aload_n (pc := 49) dX3_init_49 rfl rfl ?_
  refine x_iconst (pc := 50) dX3_init_50 ?_
  refine m_putI (pc := 51) (d := 0) (w2 := 7) fl_X3_38 dX3_init_51 (by decide) rfl rfl rfl rfl ?_
  refine x_aload_n (pc := 54) dX3_init_54 rfl rfl ?_
  refine x_iconst (pc := 55) dX3_init_55 ?_
  refine m_putI (pc := 56) (d := 0) (w2 := 8) fl_X3_41 dX3_init_56 (by decide) rfl rfl rfl rfl ?_
  exact x_vret (pc := 59) dX3_init_59 rfl ⟨Nat.le_of_ble_eq_true rfl, Nat.le_of_ble_eq_true rfl⟩ ⟨rfl, rfl, rfl⟩
def lt_X7 : List (Nat × Nat) := [(7, 0), (2, 0), (13, 100), (13, 60), (13, 60), (13, 60), (13, 60), (13, 100), (1, 0), (13, 6), (13, 6), (13, 6), (13, 48), (13, 60), (13, 60), (13, 60), (13, 60), (13, 60), (6, 0), (13, 24), (13, 24), (13, 24), (13, 24), (13, 24), (13, 150), (13, 150), (13, 150), (13, 150), (13, 150), (13, 150), (13, 150), (5, 0), (13, 16), (13, 16), (13, 16), (13, 64), (13, 64), (13, 64), (13, 64), (4, 0), (13, 12), (13, 12), (13, 500)]
def rt_X7 : List (Nat × Nat × Nat) := [(1, 2, 2), (1, 4, 3), (1, 5, 4), (1, 6, 5), (1, 7, 6), (1, 8, 7), (0, 0, 1), (8, 1, 9), (8, 2, 10), (8, 3, 11), (8, 4, 12), (8, 6, 13), (8, 7, 14), (8, 8, 15), (8, 9, 16), (8, 10, 17), (0, 1, 8), (18, 1, 19), (18, 2, 20), (18, 3, 21), (18, 4, 22), (18, 5, 23), (18, 7, 24), (18, 8, 25), (18, 9, 26), (18, 10, 27), (18, 11, 28), (18, 12, 29), (18, 13, 30), (0, 2, 18), (31, 1, 32), (31, 2, 33), (31, 3, 34), (31, 4, 35), (31, 5, 36), (31, 6, 37), (31, 7, 38), (0, 3, 31), (39, 1, 40), (39, 2, 41), (0, 4, 39), (0, 5, 42)]
def wt_X7 : List (Nat × Nat × Int) := [(1, 0, 0), (1, 1, 0), (1, 3, 0), (8, 0, 0), (8, 5, 0), (18, 0, 0), (18, 6, 0), (31, 0, 0), (39, 0, 0), (0, 6, 0), (0, 7, 0), (0, 8, -1), (0, 9, 0), (0, 10, -1)]
set_option maxHeartbeats 4000000 in
set_option maxRecDepth 100000 in
theorem i_X7 {G : XG} : Mks G mX7_init [] lt_X7 rt_X7 wt_X7 43 42 14 := by
  intro S I
  refine x_start [some (vr G (S.1 + 0))] (by decide) (Nat.le_of_ble_eq_true rfl) rfl ?_
  refine x_aload_n (pc := 0) dX7_init_0 rfl rfl ?_
  refine x_objInit (pc := 1) ml_X7_3 w_oi w_oc dX7_init_1 ⟨by decide, by decide⟩ ?_
  refine x_aload_n (pc := 4) dX7_init_4 rfl rfl ?_
  refine m_new (pc := 5) (k' := (1, 9)) (n := 1) (n2 := 2) xc2 xd2 cl_X7_9 wi_2 wn_2 dX7_init_5 ⟨Nat.le_of_ble_eq_true rfl, Nat.le_of_ble_eq_true rfl⟩ rfl rfl rfl rfl ?_
  refine x_dup (pc := 8) dX7_init_8 rfl ?_
  refine m_callN (pc := 9) (k' := (7, 449)) (n := 1) (As := []) (rest := [vr G (S.1 + 1), vr G (S.1 + 0)]) (L' := lt_X2) (R' := rt_X2) (W' := wt_X2) (n' := 7) (m' := 6) (w' := 3) (n1 := 2) (n2 := 8) (m2 := 6) (w2 := 3) ok_X2_init (List.mem_of_getElem? (i := 1) rfl) dX7_init_9 rfl ⟨⟨by decide, by decide⟩, Nat.le_of_ble_eq_true rfl, Nat.le_of_ble_eq_true rfl⟩ (Nat.le_of_ble_eq_true rfl) rfl (i_X2) (by decide) (by decide +kernel) rfl rfl rfl rfl rfl ?_
  refine m_putF (pc := 12) (d := 0) (o := 1) (m2 := 7) fl_X7_12 rfl rfl rfl dX7_init_12 (by decide) rfl rfl (fun _ => rfl) (fun _ => rfl) rfl ?_
  refine x_aload_n (pc := 15) dX7_init_15 rfl rfl ?_
  refine m_new (pc := 16) (k' := (8, 460)) (n := 8) (n2 := 9) xc1 xd1 cl_X7_18 wi_1 wn_1 dX7_init_16 ⟨Nat.le_of_ble_eq_true rfl, Nat.le_of_ble_eq_true rfl⟩ rfl rfl rfl rfl ?_
  refine x_dup (pc := 19) dX7_init_19 rfl ?_
  refine m_callN (pc := 20) (k' := (17, 826)) (n := 8) (As := []) (rest := [vr G (S.1 + 8), vr G (S.1 + 0)]) (L' := lt_X1) (R' := rt_X1) (W' := wt_X1) (n' := 10) (m' := 9) (w' := 2) (n1 := 9) (n2 := 18) (m2 := 16) (w2 := 5) ok_X1_init (List.mem_of_getElem? (i := 2) rfl) dX7_init_20 rfl ⟨⟨by decide, by decide⟩, Nat.le_of_ble_eq_true rfl, Nat.le_of_ble_eq_true rfl⟩ (Nat.le_of_ble_eq_true rfl) rfl (i_X1) (by decide) (by decide +kernel) rfl rfl rfl rfl rfl ?_
  refine m_putF (pc := 23) (d := 0) (o := 8) (m2 := 17) fl_X7_21 rfl rfl rfl dX7_init_23 (by decide) rfl rfl (fun _ => rfl) (fun _ => rfl) rfl ?_
  refine x_aload_n (pc := 26) dX7_init_26 rfl rfl ?_
  refine m_new (pc := 27) (k' := (18, 840)) (n := 18) (n2 := 19) xc6 xd6 cl_X7_25 wi_6 wn_6 dX7_init_27 ⟨Nat.le_of_ble_eq_true rfl, Nat.le_of_ble_eq_true rfl⟩ rfl rfl rfl rfl ?_
  refine x_dup (pc := 30) dX7_init_30 rfl ?_
  refine m_callN (pc := 31) (k' := (30, 2010)) (n := 18) (As := []) (rest := [vr G (S.1 + 18), vr G (S.1 + 0)]) (L' := lt_X6) (R' := rt_X6) (W' := wt_X6) (n' := 13) (m' := 12) (w' := 2) (n1 := 19) (n2 := 31) (m2 := 29) (w2 := 7) ok_X6_init (List.mem_of_getElem? (i := 3) rfl) dX7_init_31 rfl ⟨⟨by decide, by decide⟩, Nat.le_of_ble_eq_true rfl, Nat.le_of_ble_eq_true rfl⟩ (Nat.le_of_ble_eq_true rfl) rfl (i_X6) (by decide) (by decide +kernel) rfl rfl rfl rfl rfl ?_
  refine m_putF (pc := 34) (d := 0) (o := 18) (m2 := 30) fl_X7_28 rfl rfl rfl dX7_init_34 (by decide) rfl rfl (fun _ => rfl) (fun _ => rfl) rfl ?_
  refine x_aload_n (pc := 37) dX7_init_37 rfl rfl ?_
  refine m_new (pc := 38) (k' := (31, 2018)) (n := 31) (n2 := 32) xc5 xd5 cl_X7_32 wi_5 wn_5 dX7_init_38 ⟨Nat.le_of_ble_eq_true rfl, Nat.le_of_ble_eq_true rfl⟩ rfl rfl rfl rfl ?_
  refine x_dup (pc := 41) dX7_init_41 rfl ?_
  refine m_callN (pc := 42) (k' := (38, 2322)) (n := 31) (As := []) (rest := [vr G (S.1 + 31), vr G (S.1 + 0)]) (L' := lt_X5) (R' := rt_X5) (W' := wt_X5) (n' := 8) (m' := 7) (w' := 1) (n1 := 32) (n2 := 39) (m2 := 37) (w2 := 8) ok_X5_init (List.mem_of_getElem? (i := 4) rfl) dX7_init_42 rfl ⟨⟨by decide, by decide⟩, Nat.le_of_ble_eq_true rfl, Nat.le_of_ble_eq_true rfl⟩ (Nat.le_of_ble_eq_true rfl) rfl (i_X5) (by decide) (by decide +kernel) rfl rfl rfl rfl rfl ?_
  refine m_putF (pc := 45) (d := 0) (o := 31) (m2 := 38) fl_X7_35 rfl rfl rfl dX7_init_45 (by decide) rfl rfl (fun _ => rfl) (fun _ => rfl) rfl ?_
  refine x_aload_n (pc := 48) dX7_init_48 rfl rfl ?_
  refine m_new (pc := 49) (k' := (39, 2325)) (n := 39) (n2 := 40) xc4 xd4 cl_X7_39 wi_4 wn_4 dX7_init_49 ⟨Nat.le_of_ble_eq_true rfl, Nat.le_of_ble_eq_true rfl⟩ rfl rfl rfl rfl ?_
  refine x_dup (pc := 52) dX7_init_52 rfl ?_
  refine m_callN (pc := 53) (k' := (41, 2349)) (n := 39) (As := []) (rest := [vr G (S.1 + 39), vr G (S.1 + 0)]) (L' := lt_X4) (R' := rt_X4) (W' := wt_X4) (n' := 3) (m' := 2) (w' := 1) (n1 := 40) (n2 := 42) (m2 := 40) (w2 := 9) ok_X4_init (List.mem_of_getElem? (i := 5) rfl) dX7_init_53 rfl ⟨⟨by decide, by decide⟩, Nat.le_of_ble_eq_true rfl, Nat.le_of_ble_eq_true rfl⟩ (Nat.le_of_ble_eq_true rfl) rfl (i_X4) (by decide) (by decide +kernel) rfl rfl rfl rfl rfl ?_
  refine m_putF (pc := 56) (d := 0) (o := 39) (m2 := 41) fl_X7_42 rfl rfl rfl dX7_init_56 (by decide) rfl rfl (fun _ => rfl) (fun _ => rfl) rfl ?_
  refine x_aload_n (pc := 59) dX7_init_59 rfl rfl ?_
  refine x_sipush (pc := 60) dX7_init_60 rfl ?_
  refine m_newa (pc := 63) (k' := (42, 2849)) (t := 13) (t0 := 1) (N := 500) (n := 42) (n2 := 43) w_ai rfl rfl (fun U h => h) (by decide) (fun _ => rfl) rfl (by decide) (by decide) dX7_init_63 ⟨Nat.le_of_ble_eq_true rfl, Nat.le_of_ble_eq_true rfl⟩ rfl rfl rfl rfl ?_
  refine m_putF (pc := 65) (d := 0) (o := 42) (m2 := 42) fl_X7_46 rfl rfl rfl dX7_init_65 (by decide) rfl rfl (fun _ => rfl) (fun _ => rfl) rfl ?_
  refine x_aload_n (pc := 68) dX7_init_68 rfl rfl ?_
  refine x_iconst (pc := 69) dX7_init_69 ?_
  refine m_putI (pc := 70) (d := 0) (w2 := 10) fl_X7_50 dX7_init_70 (by decide) rfl rfl rfl rfl ?_
  refine x_aload_n (pc := 73) dX7_init_73 rfl rfl ?_
  refine x_iconst (pc := 74) dX7_init_74 ?_
  refine m_putI (pc := 75) (d := 0) (w2 := 11) fl_X7_54 dX7_init_75 (by decide) rfl rfl rfl rfl ?_
  refine x_aload_n (pc := 78) dX7_init_78 rfl rfl ?_
  refine x_iconst (pc := 79) dX7_init_79 ?_
  refine m_putI (pc := 80) (d := 0) (w2 := 12) fl_X7_57 dX7_init_80 (by decide) rfl rfl rfl rfl ?_
  refine x_aload_n (pc := 83) dX7_init_83 rfl rfl ?_
  refine x_iconst (pc := 84) dX7_init_84 ?_
  refine m_putI (pc := 85) (d := 0) (w2 := 13) fl_X7_60 dX7_init_85 (by decide) rfl rfl rfl rfl ?_
  refine x_aload_n (pc := 88) dX7_init_88 rfl rfl ?_
  refine x_iconst (pc := 89) dX7_init_89 ?_
  refine m_putI (pc := 90) (d := 0) (w2 := 14) fl_X7_63 dX7_init_90 (by decide) rfl rfl rfl rfl ?_
  exact x_vret (pc := 93) dX7_init_93 rfl ⟨Nat.le_of_ble_eq_true rfl, Nat.le_of_ble_eq_true rfl⟩ ⟨rfl, rfl, rfl⟩
def lt_X10 : List (Nat × Nat) := [(10, 0), (7, 0), (2, 0), (13, 100), (13, 60), (13, 60), (13, 60), (13, 60), (13, 100), (1, 0), (13, 6), (13, 6), (13, 6), (13, 48), (13, 60), (13, 60), (13, 60), (13, 60), (13, 60), (6, 0), (13, 24), (13, 24), (13, 24), (13, 24), (13, 24), (13, 150), (13, 150), (13, 150), (13, 150), (13, 150), (13, 150), (13, 150), (5, 0), (13, 16), (13, 16), (13, 16), (13, 64), (13, 64), (13, 64), (13, 64), (4, 0), (13, 12), (13, 12), (13, 500), (16, 3), (9, 0), (13, 6000), (13, 6), (13, 60), (13, 10), (13, 10), (13, 10), (9, 0), (13, 6000), (13, 6), (13, 60), (13, 10), (13, 10), (13, 10), (8, 0), (13, 100), (13, 5120), (13, 512), (3, 0), (5, 0), (13, 16), (13, 16), (13, 16), (13, 64), (13, 64), (13, 64), (13, 64), (13, 500), (0, 0), (13, 8), (13, 10), (13, 10)]
def rt_X10 : List (Nat × Nat × Nat) := [(2, 2, 3), (2, 4, 4), (2, 5, 5), (2, 6, 6), (2, 7, 7), (2, 8, 8), (1, 0, 2), (9, 1, 10), (9, 2, 11), (9, 3, 12), (9, 4, 13), (9, 6, 14), (9, 7, 15), (9, 8, 16), (9, 9, 17), (9, 10, 18), (1, 1, 9), (19, 1, 20), (19, 2, 21), (19, 3, 22), (19, 4, 23), (19, 5, 24), (19, 7, 25), (19, 8, 26), (19, 9, 27), (19, 10, 28), (19, 11, 29), (19, 12, 30), (19, 13, 31), (1, 2, 19), (32, 1, 33), (32, 2, 34), (32, 3, 35), (32, 4, 36), (32, 5, 37), (32, 6, 38), (32, 7, 39), (1, 3, 32), (40, 1, 41), (40, 2, 42), (1, 4, 40), (1, 5, 43), (0, 0, 1), (0, 1, 44), (45, 0, 46), (45, 1, 47), (45, 2, 48), (45, 3, 49), (45, 4, 50), (45, 5, 51), (0, 2, 45), (52, 0, 53), (52, 1, 54), (52, 2, 55), (52, 3, 56), (52, 4, 57), (52, 5, 58), (0, 3, 52), (59, 3, 60), (59, 4, 61), (59, 5, 62), (0, 4, 59), (64, 1, 65), (64, 2, 66), (64, 3, 67), (64, 4, 68), (64, 5, 69), (64, 6, 70), (64, 7, 71), (63, 0, 64), (63, 3, 72), (0, 5, 63), (73, 3, 74), (0, 6, 73), (0, 7, 75), (0, 8, 76)]
def wt_X10 : List (Nat × Nat × Int) := [(2, 0, 0), (2, 1, 0), (2, 3, 0), (9, 0, 0), (9, 5, 0), (19, 0, 0), (19, 6, 0), (32, 0, 0), (40, 0, 0), (1, 6, 0), (1, 7, 0), (1, 8, -1), (1, 9, 0), (1, 10, -1), (45, 6, 99), (47, 0, -1), (47, 1, -1), (47, 2, -1), (47, 3, -1), (47, 4, -1), (47, 5, -1), (52, 6, -1), (54, 0, -1), (54, 1, -1), (54, 2, -1), (54, 3, -1), (54, 4, -1), (54, 5, -1), (59, 0, 0), (59, 1, 0), (59, 2, 0), (59, 6, 0), (64, 0, 0), (63, 1, 0), (63, 2, -1), (63, 4, 0), (63, 5, 0), (63, 6, 0), (63, 7, 0), (63, 8, 0), (73, 0, 0), (73, 1, 0), (73, 2, 0)]
set_option maxHeartbeats 4000000 in
set_option maxRecDepth 100000 in
theorem i_X10 {G : XG} : Mks G mX10_init [] lt_X10 rt_X10 wt_X10 77 76 43 := by
  intro S I
  refine x_start [some (vr G (S.1 + 0))] (by decide) (Nat.le_of_ble_eq_true rfl) rfl ?_
  refine x_aload_n (pc := 0) dX10_init_0 rfl rfl ?_
  refine x_objInit (pc := 1) ml_X10_3 w_oi w_oc dX10_init_1 ⟨by decide, by decide⟩ ?_
  refine x_aload_n (pc := 4) dX10_init_4 rfl rfl ?_
  refine m_new (pc := 5) (k' := (1, 11)) (n := 1) (n2 := 2) xc7 xd7 cl_X10_9 wi_7 wn_7 dX10_init_5 ⟨Nat.le_of_ble_eq_true rfl, Nat.le_of_ble_eq_true rfl⟩ rfl rfl rfl rfl ?_
  refine x_dup (pc := 8) dX10_init_8 rfl ?_
  refine m_callN (pc := 9) (k' := (43, 2860)) (n := 1) (As := []) (rest := [vr G (S.1 + 1), vr G (S.1 + 0)]) (L' := lt_X7) (R' := rt_X7) (W' := wt_X7) (n' := 43) (m' := 42) (w' := 14) (n1 := 2) (n2 := 44) (m2 := 42) (w2 := 14) ok_X7_init (List.mem_of_getElem? (i := 0) rfl) dX10_init_9 rfl ⟨⟨by decide, by decide⟩, Nat.le_of_ble_eq_true rfl, Nat.le_of_ble_eq_true rfl⟩ (Nat.le_of_ble_eq_true rfl) rfl (i_X7) (by decide) (by decide +kernel) rfl rfl rfl rfl rfl ?_
  refine m_putF (pc := 12) (d := 0) (o := 1) (m2 := 43) fl_X10_12 rfl rfl rfl dX10_init_12 (by decide) rfl rfl (fun _ => rfl) (fun _ => rfl) rfl ?_
  refine x_aload_n (pc := 15) dX10_init_15 rfl rfl ?_
  refine x_iconst (pc := 16) dX10_init_16 ?_
  refine m_anew (pc := 17) (k' := (44, 2863)) (N := 3) (n := 44) (n2 := 45) cl_X10_9 rfl (by decide) dX10_init_17 ⟨Nat.le_of_ble_eq_true rfl, Nat.le_of_ble_eq_true rfl⟩ rfl rfl rfl rfl ?_
  refine m_putF (pc := 20) (d := 0) (o := 44) (m2 := 44) fl_X10_16 rfl rfl rfl dX10_init_20 (by decide) rfl rfl (fun _ => rfl) (fun _ => rfl) rfl ?_
  refine x_aload_n (pc := 23) dX10_init_23 rfl rfl ?_
  refine m_new (pc := 24) (k' := (45, 2870)) (n := 45) (n2 := 46) xc9 xd9 cl_X10_20 wi_9 wn_9 dX10_init_24 ⟨Nat.le_of_ble_eq_true rfl, Nat.le_of_ble_eq_true rfl⟩ rfl rfl rfl rfl ?_
  refine x_dup (pc := 27) dX10_init_27 rfl ?_
  refine x_bipush (pc := 28) dX10_init_28 rfl ?_
  refine m_callI (pc := 30) (k' := (51, 8966)) (n := 45) (As := [vi (99)]) (rest := [vr G (S.1 + 45), vr G (S.1 + 0)]) (L' := lt_X9) (R' := rt_X9) (W' := (wt_X9 (99))) (n' := 7) (m' := 6) (w' := 7) (n1 := 46) (n2 := 52) (m2 := 50) (w2 := 21) ok_X9_init ml_X10_22 dX10_init_30 rfl ⟨⟨by decide, by decide⟩, Nat.le_of_ble_eq_true rfl, Nat.le_of_ble_eq_true rfl⟩ (Nat.le_of_ble_eq_true rfl) rfl (i_X9 (99)) (by decide) (by decide +kernel) rfl rfl rfl rfl rfl ?_
  refine m_putF (pc := 33) (d := 0) (o := 45) (m2 := 51) fl_X10_25 rfl rfl rfl dX10_init_33 (by decide) rfl rfl (fun _ => rfl) (fun _ => rfl) rfl ?_
  refine x_aload_n (pc := 36) dX10_init_36 rfl rfl ?_
  refine m_new (pc := 37) (k' := (52, 8973)) (n := 52) (n2 := 53) xc9 xd9 cl_X10_20 wi_9 wn_9 dX10_init_37 ⟨Nat.le_of_ble_eq_true rfl, Nat.le_of_ble_eq_true rfl⟩ rfl rfl rfl rfl ?_
  refine x_dup (pc := 40) dX10_init_40 rfl ?_
  refine x_iconst (pc := 41) dX10_init_41 ?_
  refine m_callI (pc := 42) (k' := (58, 15069)) (n := 52) (As := [vi (-1)]) (rest := [vr G (S.1 + 52), vr G (S.1 + 0)]) (L' := lt_X9) (R' := rt_X9) (W' := (wt_X9 (-1))) (n' := 7) (m' := 6) (w' := 7) (n1 := 53) (n2 := 59) (m2 := 57) (w2 := 28) ok_X9_init ml_X10_22 dX10_init_42 rfl ⟨⟨by decide, by decide⟩, Nat.le_of_ble_eq_true rfl, Nat.le_of_ble_eq_true rfl⟩ (Nat.le_of_ble_eq_true rfl) rfl (i_X9 (-1)) (by decide) (by decide +kernel) rfl rfl rfl rfl rfl ?_
  refine m_putF (pc := 45) (d := 0) (o := 52) (m2 := 58) fl_X10_29 rfl rfl rfl dX10_init_45 (by decide) rfl rfl (fun _ => rfl) (fun _ => rfl) rfl ?_
  refine x_aload_n (pc := 48) dX10_init_48 rfl rfl ?_
  refine m_new (pc := 49) (k' := (59, 15076)) (n := 59) (n2 := 60) xc8 xd8 cl_X10_32 wi_8 wn_8 dX10_init_49 ⟨Nat.le_of_ble_eq_true rfl, Nat.le_of_ble_eq_true rfl⟩ rfl rfl rfl rfl ?_
  refine x_dup (pc := 52) dX10_init_52 rfl ?_
  refine m_callN (pc := 53) (k' := (62, 20808)) (n := 59) (As := []) (rest := [vr G (S.1 + 59), vr G (S.1 + 0)]) (L' := lt_X8) (R' := rt_X8) (W' := wt_X8) (n' := 4) (m' := 3) (w' := 4) (n1 := 60) (n2 := 63) (m2 := 61) (w2 := 32) ok_X8_init (List.mem_of_getElem? (i := 6) rfl) dX10_init_53 rfl ⟨⟨by decide, by decide⟩, Nat.le_of_ble_eq_true rfl, Nat.le_of_ble_eq_true rfl⟩ (Nat.le_of_ble_eq_true rfl) rfl (i_X8) (by decide) (by decide +kernel) rfl rfl rfl rfl rfl ?_
  refine m_putF (pc := 56) (d := 0) (o := 59) (m2 := 62) fl_X10_35 rfl rfl rfl dX10_init_56 (by decide) rfl rfl (fun _ => rfl) (fun _ => rfl) rfl ?_
  refine x_aload_n (pc := 59) dX10_init_59 rfl rfl ?_
  refine m_new (pc := 60) (k' := (63, 20817)) (n := 63) (n2 := 64) xc3 xd3 cl_X10_39 wi_3 wn_3 dX10_init_60 ⟨Nat.le_of_ble_eq_true rfl, Nat.le_of_ble_eq_true rfl⟩ rfl rfl rfl rfl ?_
  refine x_dup (pc := 63) dX10_init_63 rfl ?_
  refine m_callN (pc := 64) (k' := (72, 21629)) (n := 63) (As := []) (rest := [vr G (S.1 + 63), vr G (S.1 + 0)]) (L' := lt_X3) (R' := rt_X3) (W' := wt_X3) (n' := 10) (m' := 9) (w' := 8) (n1 := 64) (n2 := 73) (m2 := 71) (w2 := 40) ok_X3_init (List.mem_of_getElem? (i := 7) rfl) dX10_init_64 rfl ⟨⟨by decide, by decide⟩, Nat.le_of_ble_eq_true rfl, Nat.le_of_ble_eq_true rfl⟩ (Nat.le_of_ble_eq_true rfl) rfl (i_X3) (by decide) (by decide +kernel) rfl rfl rfl rfl rfl ?_
  refine m_putF (pc := 67) (d := 0) (o := 63) (m2 := 72) fl_X10_42 rfl rfl rfl dX10_init_67 (by decide) rfl rfl (fun _ => rfl) (fun _ => rfl) rfl ?_
  refine x_aload_n (pc := 70) dX10_init_70 rfl rfl ?_
  refine m_new (pc := 71) (k' := (73, 21633)) (n := 73) (n2 := 74) xc0 xd0 cl_X10_46 wi_0 wn_0 dX10_init_71 ⟨Nat.le_of_ble_eq_true rfl, Nat.le_of_ble_eq_true rfl⟩ rfl rfl rfl rfl ?_
  refine x_dup (pc := 74) dX10_init_74 rfl ?_
  refine m_callN (pc := 75) (k' := (74, 21641)) (n := 73) (As := []) (rest := [vr G (S.1 + 73), vr G (S.1 + 0)]) (L' := lt_X0) (R' := rt_X0) (W' := wt_X0) (n' := 2) (m' := 1) (w' := 3) (n1 := 74) (n2 := 75) (m2 := 73) (w2 := 43) ok_X0_init (List.mem_of_getElem? (i := 9) rfl) dX10_init_75 rfl ⟨⟨by decide, by decide⟩, Nat.le_of_ble_eq_true rfl, Nat.le_of_ble_eq_true rfl⟩ (Nat.le_of_ble_eq_true rfl) rfl (i_X0) (by decide) (by decide +kernel) rfl rfl rfl rfl rfl ?_
  refine m_putF (pc := 78) (d := 0) (o := 73) (m2 := 74) fl_X10_49 rfl rfl rfl dX10_init_78 (by decide) rfl rfl (fun _ => rfl) (fun _ => rfl) rfl ?_
  refine x_aload_n (pc := 81) dX10_init_81 rfl rfl ?_
  refine x_bipush (pc := 82) dX10_init_82 rfl ?_
  refine m_newa (pc := 84) (k' := (75, 21651)) (t := 13) (t0 := 1) (N := 10) (n := 75) (n2 := 76) w_ai rfl rfl (fun U h => h) (by decide) (fun _ => rfl) rfl (by decide) (by decide) dX10_init_84 ⟨Nat.le_of_ble_eq_true rfl, Nat.le_of_ble_eq_true rfl⟩ rfl rfl rfl rfl ?_
  refine m_putF (pc := 86) (d := 0) (o := 75) (m2 := 75) fl_X10_53 rfl rfl rfl dX10_init_86 (by decide) rfl rfl (fun _ => rfl) (fun _ => rfl) rfl ?_
  refine x_aload_n (pc := 89) dX10_init_89 rfl rfl ?_
  refine x_bipush (pc := 90) dX10_init_90 rfl ?_
  refine m_newa (pc := 92) (k' := (76, 21661)) (t := 13) (t0 := 1) (N := 10) (n := 76) (n2 := 77) w_ai rfl rfl (fun U h => h) (by decide) (fun _ => rfl) rfl (by decide) (by decide) dX10_init_92 ⟨Nat.le_of_ble_eq_true rfl, Nat.le_of_ble_eq_true rfl⟩ rfl rfl rfl rfl ?_
  refine m_putF (pc := 94) (d := 0) (o := 76) (m2 := 76) fl_X10_57 rfl rfl rfl dX10_init_94 (by decide) rfl rfl (fun _ => rfl) (fun _ => rfl) rfl ?_
  exact x_vret (pc := 97) dX10_init_97 rfl ⟨Nat.le_of_ble_eq_true rfl, Nat.le_of_ble_eq_true rfl⟩ ⟨rfl, rfl, rfl⟩
def lt_X11 : List (Nat × Nat) := [(11, 0), (12, 2000), (13, 4), (13, 4), (13, 4), (13, 4), (13, 4), (13, 4), (15, 40), (13, 400), (13, 4), (13, 24), (13, 24), (13, 24), (13, 4), (13, 240), (13, 240), (13, 240), (13, 240), (15, 400), (13, 4), (13, 240), (13, 240), (13, 240), (15, 240), (13, 240), (13, 4), (13, 96), (13, 96), (13, 96), (13, 96), (13, 96), (13, 4), (13, 600), (13, 600), (13, 600), (13, 600), (13, 600), (13, 600), (13, 600), (13, 4), (13, 64), (13, 64), (13, 64), (13, 256), (13, 256), (13, 256), (15, 256), (13, 192), (13, 4), (13, 48), (13, 48), (13, 10), (13, 10), (13, 10), (14, 10), (13, 60), (13, 10), (13, 17), (13, 17), (13, 17), (13, 69), (13, 69), (13, 69), (15, 69), (13, 100), (13, 5120), (13, 10), (13, 8), (15, 3)]
def rt_X11 : List (Nat × Nat × Nat) := [(0, 1, 1), (0, 2, 2), (0, 3, 3), (0, 4, 4), (0, 5, 5), (0, 6, 6), (0, 7, 7), (0, 8, 8), (0, 9, 9), (0, 10, 10), (0, 11, 11), (0, 12, 12), (0, 13, 13), (0, 14, 14), (0, 15, 15), (0, 16, 16), (0, 17, 17), (0, 18, 18), (0, 19, 19), (0, 20, 20), (0, 21, 21), (0, 22, 22), (0, 23, 23), (0, 24, 24), (0, 25, 25), (0, 26, 26), (0, 27, 27), (0, 28, 28), (0, 29, 29), (0, 30, 30), (0, 31, 31), (0, 32, 32), (0, 33, 33), (0, 34, 34), (0, 35, 35), (0, 36, 36), (0, 37, 37), (0, 38, 38), (0, 39, 39), (0, 40, 40), (0, 41, 41), (0, 42, 42), (0, 43, 43), (0, 44, 44), (0, 45, 45), (0, 46, 46), (0, 47, 47), (0, 48, 48), (0, 49, 49), (0, 50, 50), (0, 51, 51), (0, 52, 52), (0, 53, 53), (0, 54, 54), (0, 55, 55), (0, 57, 56), (0, 58, 57), (0, 69, 58), (0, 70, 59), (0, 71, 60), (0, 72, 61), (0, 73, 62), (0, 74, 63), (0, 75, 64), (0, 76, 65), (0, 77, 66), (0, 78, 67), (0, 82, 68), (0, 83, 69)]
def wt_X11 : List (Nat × Nat × Int) := [(4, 0, -1), (6, 0, -1)]
set_option maxHeartbeats 4000000 in
set_option maxRecDepth 100000 in
theorem i_X11 {G : XG} : Mks G mX11_init [] lt_X11 rt_X11 wt_X11 70 69 2 := by
  intro S I
  refine x_start [some (vr G (S.1 + 0))] (by decide) (Nat.le_of_ble_eq_true rfl) rfl ?_
  refine x_aload_n (pc := 0) dX11_init_0 rfl rfl ?_
  refine x_objInit (pc := 1) ml_X11_1 w_oi w_oc dX11_init_1 ⟨by decide, by decide⟩ ?_
  refine x_aload_n (pc := 4) dX11_init_4 rfl rfl ?_
  refine x_sipush (pc := 5) dX11_init_5 rfl ?_
  refine m_newa (pc := 8) (k' := (1, 2000)) (t := 12) (t0 := 0) (N := 2000) (n := 1) (n2 := 2) w_ab rfl rfl (fun U h => h) (by decide) (fun _ => rfl) rfl (by decide) (by decide) dX11_init_8 ⟨Nat.le_of_ble_eq_true rfl, Nat.le_of_ble_eq_true rfl⟩ rfl rfl rfl rfl ?_
  refine m_putF (pc := 10) (d := 0) (o := 1) (m2 := 1) fl_X11_7 rfl rfl rfl dX11_init_10 (by decide) rfl rfl (fun _ => rfl) (fun _ => rfl) rfl ?_
  refine x_aload_n (pc := 13) dX11_init_13 rfl rfl ?_
  refine x_iconst (pc := 14) dX11_init_14 ?_
  refine m_newa (pc := 15) (k' := (2, 2004)) (t := 13) (t0 := 1) (N := 4) (n := 2) (n2 := 3) w_ai rfl rfl (fun U h => h) (by decide) (fun _ => rfl) rfl (by decide) (by decide) dX11_init_15 ⟨Nat.le_of_ble_eq_true rfl, Nat.le_of_ble_eq_true rfl⟩ rfl rfl rfl rfl ?_
  refine m_putF (pc := 17) (d := 0) (o := 2) (m2 := 2) fl_X11_13 rfl rfl rfl dX11_init_17 (by decide) rfl rfl (fun _ => rfl) (fun _ => rfl) rfl ?_
  refine x_aload_n (pc := 20) dX11_init_20 rfl rfl ?_
  refine x_iconst (pc := 21) dX11_init_21 ?_
  refine m_newa (pc := 22) (k' := (3, 2008)) (t := 13) (t0 := 1) (N := 4) (n := 3) (n2 := 4) w_ai rfl rfl (fun U h => h) (by decide) (fun _ => rfl) rfl (by decide) (by decide) dX11_init_22 ⟨Nat.le_of_ble_eq_true rfl, Nat.le_of_ble_eq_true rfl⟩ rfl rfl rfl rfl ?_
  refine m_putF (pc := 24) (d := 0) (o := 3) (m2 := 3) fl_X11_17 rfl rfl rfl dX11_init_24 (by decide) rfl rfl (fun _ => rfl) (fun _ => rfl) rfl ?_
  refine x_aload_n (pc := 27) dX11_init_27 rfl rfl ?_
  refine x_iconst (pc := 28) dX11_init_28 ?_
  refine m_newa (pc := 29) (k' := (4, 2012)) (t := 13) (t0 := 1) (N := 4) (n := 4) (n2 := 5) w_ai rfl rfl (fun U h => h) (by decide) (fun _ => rfl) rfl (by decide) (by decide) dX11_init_29 ⟨Nat.le_of_ble_eq_true rfl, Nat.le_of_ble_eq_true rfl⟩ rfl rfl rfl rfl ?_
  refine m_putF (pc := 31) (d := 0) (o := 4) (m2 := 4) fl_X11_20 rfl rfl rfl dX11_init_31 (by decide) rfl rfl (fun _ => rfl) (fun _ => rfl) rfl ?_
  refine x_aload_n (pc := 34) dX11_init_34 rfl rfl ?_
  refine x_iconst (pc := 35) dX11_init_35 ?_
  refine m_newa (pc := 36) (k' := (5, 2016)) (t := 13) (t0 := 1) (N := 4) (n := 5) (n2 := 6) w_ai rfl rfl (fun U h => h) (by decide) (fun _ => rfl) rfl (by decide) (by decide) dX11_init_36 ⟨Nat.le_of_ble_eq_true rfl, Nat.le_of_ble_eq_true rfl⟩ rfl rfl rfl rfl ?_
  refine m_putF (pc := 38) (d := 0) (o := 5) (m2 := 5) fl_X11_23 rfl rfl rfl dX11_init_38 (by decide) rfl rfl (fun _ => rfl) (fun _ => rfl) rfl ?_
  refine x_aload_n (pc := 41) dX11_init_41 rfl rfl ?_
  refine x_iconst (pc := 42) dX11_init_42 ?_
  refine m_newa (pc := 43) (k' := (6, 2020)) (t := 13) (t0 := 1) (N := 4) (n := 6) (n2 := 7) w_ai rfl rfl (fun U h => h) (by decide) (fun _ => rfl) rfl (by decide) (by decide) dX11_init_43 ⟨Nat.le_of_ble_eq_true rfl, Nat.le_of_ble_eq_true rfl⟩ rfl rfl rfl rfl ?_
  refine m_putF (pc := 45) (d := 0) (o := 6) (m2 := 6) fl_X11_26 rfl rfl rfl dX11_init_45 (by decide) rfl rfl (fun _ => rfl) (fun _ => rfl) rfl ?_
  refine x_aload_n (pc := 48) dX11_init_48 rfl rfl ?_
  refine x_iconst (pc := 49) dX11_init_49 ?_
  refine m_newa (pc := 50) (k' := (7, 2024)) (t := 13) (t0 := 1) (N := 4) (n := 7) (n2 := 8) w_ai rfl rfl (fun U h => h) (by decide) (fun _ => rfl) rfl (by decide) (by decide) dX11_init_50 ⟨Nat.le_of_ble_eq_true rfl, Nat.le_of_ble_eq_true rfl⟩ rfl rfl rfl rfl ?_
  refine m_putF (pc := 52) (d := 0) (o := 7) (m2 := 7) fl_X11_29 rfl rfl rfl dX11_init_52 (by decide) rfl rfl (fun _ => rfl) (fun _ => rfl) rfl ?_
  refine x_aload_n (pc := 55) dX11_init_55 rfl rfl ?_
  refine x_bipush (pc := 56) dX11_init_56 rfl ?_
  refine m_newa (pc := 58) (k' := (8, 2064)) (t := 15) (t0 := 3) (N := 40) (n := 8) (n2 := 9) w_az rfl rfl (fun U h => h) (by decide) (fun _ => rfl) rfl (by decide) (by decide) dX11_init_58 ⟨Nat.le_of_ble_eq_true rfl, Nat.le_of_ble_eq_true rfl⟩ rfl rfl rfl rfl ?_
  refine m_putF (pc := 60) (d := 0) (o := 8) (m2 := 8) fl_X11_32 rfl rfl rfl dX11_init_60 (by decide) rfl rfl (fun _ => rfl) (fun _ => rfl) rfl ?_
  refine x_aload_n (pc := 63) dX11_init_63 rfl rfl ?_
  refine x_sipush (pc := 64) dX11_init_64 rfl ?_
  refine m_newa (pc := 67) (k' := (9, 2464)) (t := 13) (t0 := 1) (N := 400) (n := 9) (n2 := 10) w_ai rfl rfl (fun U h => h) (by decide) (fun _ => rfl) rfl (by decide) (by decide) dX11_init_67 ⟨Nat.le_of_ble_eq_true rfl, Nat.le_of_ble_eq_true rfl⟩ rfl rfl rfl rfl ?_
  refine m_putF (pc := 69) (d := 0) (o := 9) (m2 := 9) fl_X11_36 rfl rfl rfl dX11_init_69 (by decide) rfl rfl (fun _ => rfl) (fun _ => rfl) rfl ?_
  refine x_aload_n (pc := 72) dX11_init_72 rfl rfl ?_
  refine x_iconst (pc := 73) dX11_init_73 ?_
  refine m_newa (pc := 74) (k' := (10, 2468)) (t := 13) (t0 := 1) (N := 4) (n := 10) (n2 := 11) w_ai rfl rfl (fun U h => h) (by decide) (fun _ => rfl) rfl (by decide) (by decide) dX11_init_74 ⟨Nat.le_of_ble_eq_true rfl, Nat.le_of_ble_eq_true rfl⟩ rfl rfl rfl rfl ?_
  refine m_putF (pc := 76) (d := 0) (o := 10) (m2 := 10) fl_X11_39 rfl rfl rfl dX11_init_76 (by decide) rfl rfl (fun _ => rfl) (fun _ => rfl) rfl ?_
  refine x_aload_n (pc := 79) dX11_init_79 rfl rfl ?_
  refine x_bipush (pc := 80) dX11_init_80 rfl ?_
  refine m_newa (pc := 82) (k' := (11, 2492)) (t := 13) (t0 := 1) (N := 24) (n := 11) (n2 := 12) w_ai rfl rfl (fun U h => h) (by decide) (fun _ => rfl) rfl (by decide) (by decide) dX11_init_82 ⟨Nat.le_of_ble_eq_true rfl, Nat.le_of_ble_eq_true rfl⟩ rfl rfl rfl rfl ?_
  refine m_putF (pc := 84) (d := 0) (o := 11) (m2 := 11) fl_X11_42 rfl rfl rfl dX11_init_84 (by decide) rfl rfl (fun _ => rfl) (fun _ => rfl) rfl ?_
  refine x_aload_n (pc := 87) dX11_init_87 rfl rfl ?_
  refine x_bipush (pc := 88) dX11_init_88 rfl ?_
  refine m_newa (pc := 90) (k' := (12, 2516)) (t := 13) (t0 := 1) (N := 24) (n := 12) (n2 := 13) w_ai rfl rfl (fun U h => h) (by decide) (fun _ => rfl) rfl (by decide) (by decide) dX11_init_90 ⟨Nat.le_of_ble_eq_true rfl, Nat.le_of_ble_eq_true rfl⟩ rfl rfl rfl rfl ?_
  refine m_putF (pc := 92) (d := 0) (o := 12) (m2 := 12) fl_X11_45 rfl rfl rfl dX11_init_92 (by decide) rfl rfl (fun _ => rfl) (fun _ => rfl) rfl ?_
  refine x_aload_n (pc := 95) dX11_init_95 rfl rfl ?_
  refine x_bipush (pc := 96) dX11_init_96 rfl ?_
  refine m_newa (pc := 98) (k' := (13, 2540)) (t := 13) (t0 := 1) (N := 24) (n := 13) (n2 := 14) w_ai rfl rfl (fun U h => h) (by decide) (fun _ => rfl) rfl (by decide) (by decide) dX11_init_98 ⟨Nat.le_of_ble_eq_true rfl, Nat.le_of_ble_eq_true rfl⟩ rfl rfl rfl rfl ?_
  refine m_putF (pc := 100) (d := 0) (o := 13) (m2 := 13) fl_X11_48 rfl rfl rfl dX11_init_100 (by decide) rfl rfl (fun _ => rfl) (fun _ => rfl) rfl ?_
  refine x_aload_n (pc := 103) dX11_init_103 rfl rfl ?_
  refine x_iconst (pc := 104) dX11_init_104 ?_
  refine m_newa (pc := 105) (k' := (14, 2544)) (t := 13) (t0 := 1) (N := 4) (n := 14) (n2 := 15) w_ai rfl rfl (fun U h => h) (by decide) (fun _ => rfl) rfl (by decide) (by decide) dX11_init_105 ⟨Nat.le_of_ble_eq_true rfl, Nat.le_of_ble_eq_true rfl⟩ rfl rfl rfl rfl ?_
  refine m_putF (pc := 107) (d := 0) (o := 14) (m2 := 14) fl_X11_51 rfl rfl rfl dX11_init_107 (by decide) rfl rfl (fun _ => rfl) (fun _ => rfl) rfl ?_
  refine x_aload_n (pc := 110) dX11_init_110 rfl rfl ?_
  refine x_sipush (pc := 111) dX11_init_111 rfl ?_
  refine m_newa (pc := 114) (k' := (15, 2784)) (t := 13) (t0 := 1) (N := 240) (n := 15) (n2 := 16) w_ai rfl rfl (fun U h => h) (by decide) (fun _ => rfl) rfl (by decide) (by decide) dX11_init_114 ⟨Nat.le_of_ble_eq_true rfl, Nat.le_of_ble_eq_true rfl⟩ rfl rfl rfl rfl ?_
  refine m_putF (pc := 116) (d := 0) (o := 15) (m2 := 15) fl_X11_54 rfl rfl rfl dX11_init_116 (by decide) rfl rfl (fun _ => rfl) (fun _ => rfl) rfl ?_
  refine x_aload_n (pc := 119) dX11_init_119 rfl rfl ?_
  refine x_sipush (pc := 120) dX11_init_120 rfl ?_
  refine m_newa (pc := 123) (k' := (16, 3024)) (t := 13) (t0 := 1) (N := 240) (n := 16) (n2 := 17) w_ai rfl rfl (fun U h => h) (by decide) (fun _ => rfl) rfl (by decide) (by decide) dX11_init_123 ⟨Nat.le_of_ble_eq_true rfl, Nat.le_of_ble_eq_true rfl⟩ rfl rfl rfl rfl ?_
  refine m_putF (pc := 125) (d := 0) (o := 16) (m2 := 16) fl_X11_57 rfl rfl rfl dX11_init_125 (by decide) rfl rfl (fun _ => rfl) (fun _ => rfl) rfl ?_
  refine x_aload_n (pc := 128) dX11_init_128 rfl rfl ?_
  refine x_sipush (pc := 129) dX11_init_129 rfl ?_
  refine m_newa (pc := 132) (k' := (17, 3264)) (t := 13) (t0 := 1) (N := 240) (n := 17) (n2 := 18) w_ai rfl rfl (fun U h => h) (by decide) (fun _ => rfl) rfl (by decide) (by decide) dX11_init_132 ⟨Nat.le_of_ble_eq_true rfl, Nat.le_of_ble_eq_true rfl⟩ rfl rfl rfl rfl ?_
  refine m_putF (pc := 134) (d := 0) (o := 17) (m2 := 17) fl_X11_60 rfl rfl rfl dX11_init_134 (by decide) rfl rfl (fun _ => rfl) (fun _ => rfl) rfl ?_
  refine x_aload_n (pc := 137) dX11_init_137 rfl rfl ?_
  refine x_sipush (pc := 138) dX11_init_138 rfl ?_
  refine m_newa (pc := 141) (k' := (18, 3504)) (t := 13) (t0 := 1) (N := 240) (n := 18) (n2 := 19) w_ai rfl rfl (fun U h => h) (by decide) (fun _ => rfl) rfl (by decide) (by decide) dX11_init_141 ⟨Nat.le_of_ble_eq_true rfl, Nat.le_of_ble_eq_true rfl⟩ rfl rfl rfl rfl ?_
  refine m_putF (pc := 143) (d := 0) (o := 18) (m2 := 18) fl_X11_63 rfl rfl rfl dX11_init_143 (by decide) rfl rfl (fun _ => rfl) (fun _ => rfl) rfl ?_
  refine x_aload_n (pc := 146) dX11_init_146 rfl rfl ?_
  refine x_sipush (pc := 147) dX11_init_147 rfl ?_
  refine m_newa (pc := 150) (k' := (19, 3904)) (t := 15) (t0 := 3) (N := 400) (n := 19) (n2 := 20) w_az rfl rfl (fun U h => h) (by decide) (fun _ => rfl) rfl (by decide) (by decide) dX11_init_150 ⟨Nat.le_of_ble_eq_true rfl, Nat.le_of_ble_eq_true rfl⟩ rfl rfl rfl rfl ?_
  refine m_putF (pc := 152) (d := 0) (o := 19) (m2 := 19) fl_X11_66 rfl rfl rfl dX11_init_152 (by decide) rfl rfl (fun _ => rfl) (fun _ => rfl) rfl ?_
  refine x_aload_n (pc := 155) dX11_init_155 rfl rfl ?_
  refine x_iconst (pc := 156) dX11_init_156 ?_
  refine m_newa (pc := 157) (k' := (20, 3908)) (t := 13) (t0 := 1) (N := 4) (n := 20) (n2 := 21) w_ai rfl rfl (fun U h => h) (by decide) (fun _ => rfl) rfl (by decide) (by decide) dX11_init_157 ⟨Nat.le_of_ble_eq_true rfl, Nat.le_of_ble_eq_true rfl⟩ rfl rfl rfl rfl ?_
  refine m_putF (pc := 159) (d := 0) (o := 20) (m2 := 20) fl_X11_69 rfl rfl rfl dX11_init_159 (by decide) rfl rfl (fun _ => rfl) (fun _ => rfl) rfl ?_
  refine x_aload_n (pc := 162) dX11_init_162 rfl rfl ?_
  refine x_sipush (pc := 163) dX11_init_163 rfl ?_
  refine m_newa (pc := 166) (k' := (21, 4148)) (t := 13) (t0 := 1) (N := 240) (n := 21) (n2 := 22) w_ai rfl rfl (fun U h => h) (by decide) (fun _ => rfl) rfl (by decide) (by decide) dX11_init_166 ⟨Nat.le_of_ble_eq_true rfl, Nat.le_of_ble_eq_true rfl⟩ rfl rfl rfl rfl ?_
  refine m_putF (pc := 168) (d := 0) (o := 21) (m2 := 21) fl_X11_72 rfl rfl rfl dX11_init_168 (by decide) rfl rfl (fun _ => rfl) (fun _ => rfl) rfl ?_
  refine x_aload_n (pc := 171) dX11_init_171 rfl rfl ?_
  refine x_sipush (pc := 172) dX11_init_172 rfl ?_
  refine m_newa (pc := 175) (k' := (22, 4388)) (t := 13) (t0 := 1) (N := 240) (n := 22) (n2 := 23) w_ai rfl rfl (fun U h => h) (by decide) (fun _ => rfl) rfl (by decide) (by decide) dX11_init_175 ⟨Nat.le_of_ble_eq_true rfl, Nat.le_of_ble_eq_true rfl⟩ rfl rfl rfl rfl ?_
  refine m_putF (pc := 177) (d := 0) (o := 22) (m2 := 22) fl_X11_75 rfl rfl rfl dX11_init_177 (by decide) rfl rfl (fun _ => rfl) (fun _ => rfl) rfl ?_
  refine x_aload_n (pc := 180) dX11_init_180 rfl rfl ?_
  refine x_sipush (pc := 181) dX11_init_181 rfl ?_
  refine m_newa (pc := 184) (k' := (23, 4628)) (t := 13) (t0 := 1) (N := 240) (n := 23) (n2 := 24) w_ai rfl rfl (fun U h => h) (by decide) (fun _ => rfl) rfl (by decide) (by decide) dX11_init_184 ⟨Nat.le_of_ble_eq_true rfl, Nat.le_of_ble_eq_true rfl⟩ rfl rfl rfl rfl ?_
  refine m_putF (pc := 186) (d := 0) (o := 23) (m2 := 23) fl_X11_78 rfl rfl rfl dX11_init_186 (by decide) rfl rfl (fun _ => rfl) (fun _ => rfl) rfl ?_
  refine x_aload_n (pc := 189) dX11_init_189 rfl rfl ?_
  refine x_sipush (pc := 190) dX11_init_190 rfl ?_
  refine m_newa (pc := 193) (k' := (24, 4868)) (t := 15) (t0 := 3) (N := 240) (n := 24) (n2 := 25) w_az rfl rfl (fun U h => h) (by decide) (fun _ => rfl) rfl (by decide) (by decide) dX11_init_193 ⟨Nat.le_of_ble_eq_true rfl, Nat.le_of_ble_eq_true rfl⟩ rfl rfl rfl rfl ?_
  refine m_putF (pc := 195) (d := 0) (o := 24) (m2 := 24) fl_X11_81 rfl rfl rfl dX11_init_195 (by decide) rfl rfl (fun _ => rfl) (fun _ => rfl) rfl ?_
  refine x_aload_n (pc := 198) dX11_init_198 rfl rfl ?_
  refine x_sipush (pc := 199) dX11_init_199 rfl ?_
  refine m_newa (pc := 202) (k' := (25, 5108)) (t := 13) (t0 := 1) (N := 240) (n := 25) (n2 := 26) w_ai rfl rfl (fun U h => h) (by decide) (fun _ => rfl) rfl (by decide) (by decide) dX11_init_202 ⟨Nat.le_of_ble_eq_true rfl, Nat.le_of_ble_eq_true rfl⟩ rfl rfl rfl rfl ?_
  refine m_putF (pc := 204) (d := 0) (o := 25) (m2 := 25) fl_X11_84 rfl rfl rfl dX11_init_204 (by decide) rfl rfl (fun _ => rfl) (fun _ => rfl) rfl ?_
  refine x_aload_n (pc := 207) dX11_init_207 rfl rfl ?_
  refine x_iconst (pc := 208) dX11_init_208 ?_
  refine m_newa (pc := 209) (k' := (26, 5112)) (t := 13) (t0 := 1) (N := 4) (n := 26) (n2 := 27) w_ai rfl rfl (fun U h => h) (by decide) (fun _ => rfl) rfl (by decide) (by decide) dX11_init_209 ⟨Nat.le_of_ble_eq_true rfl, Nat.le_of_ble_eq_true rfl⟩ rfl rfl rfl rfl ?_
  refine m_putF (pc := 211) (d := 0) (o := 26) (m2 := 26) fl_X11_87 rfl rfl rfl dX11_init_211 (by decide) rfl rfl (fun _ => rfl) (fun _ => rfl) rfl ?_
  refine x_aload_n (pc := 214) dX11_init_214 rfl rfl ?_
  refine x_bipush (pc := 215) dX11_init_215 rfl ?_
  refine m_newa (pc := 217) (k' := (27, 5208)) (t := 13) (t0 := 1) (N := 96) (n := 27) (n2 := 28) w_ai rfl rfl (fun U h => h) (by decide) (fun _ => rfl) rfl (by decide) (by decide) dX11_init_217 ⟨Nat.le_of_ble_eq_true rfl, Nat.le_of_ble_eq_true rfl⟩ rfl rfl rfl rfl ?_
  refine m_putF (pc := 219) (d := 0) (o := 27) (m2 := 27) fl_X11_90 rfl rfl rfl dX11_init_219 (by decide) rfl rfl (fun _ => rfl) (fun _ => rfl) rfl ?_
  refine x_aload_n (pc := 222) dX11_init_222 rfl rfl ?_
  refine x_bipush (pc := 223) dX11_init_223 rfl ?_
  refine m_newa (pc := 225) (k' := (28, 5304)) (t := 13) (t0 := 1) (N := 96) (n := 28) (n2 := 29) w_ai rfl rfl (fun U h => h) (by decide) (fun _ => rfl) rfl (by decide) (by decide) dX11_init_225 ⟨Nat.le_of_ble_eq_true rfl, Nat.le_of_ble_eq_true rfl⟩ rfl rfl rfl rfl ?_
  refine m_putF (pc := 227) (d := 0) (o := 28) (m2 := 28) fl_X11_93 rfl rfl rfl dX11_init_227 (by decide) rfl rfl (fun _ => rfl) (fun _ => rfl) rfl ?_
  refine x_aload_n (pc := 230) dX11_init_230 rfl rfl ?_
  refine x_bipush (pc := 231) dX11_init_231 rfl ?_
  refine m_newa (pc := 233) (k' := (29, 5400)) (t := 13) (t0 := 1) (N := 96) (n := 29) (n2 := 30) w_ai rfl rfl (fun U h => h) (by decide) (fun _ => rfl) rfl (by decide) (by decide) dX11_init_233 ⟨Nat.le_of_ble_eq_true rfl, Nat.le_of_ble_eq_true rfl⟩ rfl rfl rfl rfl ?_
  refine m_putF (pc := 235) (d := 0) (o := 29) (m2 := 29) fl_X11_96 rfl rfl rfl dX11_init_235 (by decide) rfl rfl (fun _ => rfl) (fun _ => rfl) rfl ?_
  refine x_aload_n (pc := 238) dX11_init_238 rfl rfl ?_
  refine x_bipush (pc := 239) dX11_init_239 rfl ?_
  refine m_newa (pc := 241) (k' := (30, 5496)) (t := 13) (t0 := 1) (N := 96) (n := 30) (n2 := 31) w_ai rfl rfl (fun U h => h) (by decide) (fun _ => rfl) rfl (by decide) (by decide) dX11_init_241 ⟨Nat.le_of_ble_eq_true rfl, Nat.le_of_ble_eq_true rfl⟩ rfl rfl rfl rfl ?_
  refine m_putF (pc := 243) (d := 0) (o := 30) (m2 := 30) fl_X11_99 rfl rfl rfl dX11_init_243 (by decide) rfl rfl (fun _ => rfl) (fun _ => rfl) rfl ?_
  refine x_aload_n (pc := 246) dX11_init_246 rfl rfl ?_
  refine x_bipush (pc := 247) dX11_init_247 rfl ?_
  refine m_newa (pc := 249) (k' := (31, 5592)) (t := 13) (t0 := 1) (N := 96) (n := 31) (n2 := 32) w_ai rfl rfl (fun U h => h) (by decide) (fun _ => rfl) rfl (by decide) (by decide) dX11_init_249 ⟨Nat.le_of_ble_eq_true rfl, Nat.le_of_ble_eq_true rfl⟩ rfl rfl rfl rfl ?_
  refine m_putF (pc := 251) (d := 0) (o := 31) (m2 := 31) fl_X11_102 rfl rfl rfl dX11_init_251 (by decide) rfl rfl (fun _ => rfl) (fun _ => rfl) rfl ?_
  refine x_aload_n (pc := 254) dX11_init_254 rfl rfl ?_
  refine x_iconst (pc := 255) dX11_init_255 ?_
  refine m_newa (pc := 256) (k' := (32, 5596)) (t := 13) (t0 := 1) (N := 4) (n := 32) (n2 := 33) w_ai rfl rfl (fun U h => h) (by decide) (fun _ => rfl) rfl (by decide) (by decide) dX11_init_256 ⟨Nat.le_of_ble_eq_true rfl, Nat.le_of_ble_eq_true rfl⟩ rfl rfl rfl rfl ?_
  refine m_putF (pc := 258) (d := 0) (o := 32) (m2 := 32) fl_X11_105 rfl rfl rfl dX11_init_258 (by decide) rfl rfl (fun _ => rfl) (fun _ => rfl) rfl ?_
  refine x_aload_n (pc := 261) dX11_init_261 rfl rfl ?_
  refine x_sipush (pc := 262) dX11_init_262 rfl ?_
  refine m_newa (pc := 265) (k' := (33, 6196)) (t := 13) (t0 := 1) (N := 600) (n := 33) (n2 := 34) w_ai rfl rfl (fun U h => h) (by decide) (fun _ => rfl) rfl (by decide) (by decide) dX11_init_265 ⟨Nat.le_of_ble_eq_true rfl, Nat.le_of_ble_eq_true rfl⟩ rfl rfl rfl rfl ?_
  refine m_putF (pc := 267) (d := 0) (o := 33) (m2 := 33) fl_X11_108 rfl rfl rfl dX11_init_267 (by decide) rfl rfl (fun _ => rfl) (fun _ => rfl) rfl ?_
  refine x_aload_n (pc := 270) dX11_init_270 rfl rfl ?_
  refine x_sipush (pc := 271) dX11_init_271 rfl ?_
  refine m_newa (pc := 274) (k' := (34, 6796)) (t := 13) (t0 := 1) (N := 600) (n := 34) (n2 := 35) w_ai rfl rfl (fun U h => h) (by decide) (fun _ => rfl) rfl (by decide) (by decide) dX11_init_274 ⟨Nat.le_of_ble_eq_true rfl, Nat.le_of_ble_eq_true rfl⟩ rfl rfl rfl rfl ?_
  refine m_putF (pc := 276) (d := 0) (o := 34) (m2 := 34) fl_X11_111 rfl rfl rfl dX11_init_276 (by decide) rfl rfl (fun _ => rfl) (fun _ => rfl) rfl ?_
  refine x_aload_n (pc := 279) dX11_init_279 rfl rfl ?_
  refine x_sipush (pc := 280) dX11_init_280 rfl ?_
  refine m_newa (pc := 283) (k' := (35, 7396)) (t := 13) (t0 := 1) (N := 600) (n := 35) (n2 := 36) w_ai rfl rfl (fun U h => h) (by decide) (fun _ => rfl) rfl (by decide) (by decide) dX11_init_283 ⟨Nat.le_of_ble_eq_true rfl, Nat.le_of_ble_eq_true rfl⟩ rfl rfl rfl rfl ?_
  refine m_putF (pc := 285) (d := 0) (o := 35) (m2 := 35) fl_X11_114 rfl rfl rfl dX11_init_285 (by decide) rfl rfl (fun _ => rfl) (fun _ => rfl) rfl ?_
  refine x_aload_n (pc := 288) dX11_init_288 rfl rfl ?_
  refine x_sipush (pc := 289) dX11_init_289 rfl ?_
  refine m_newa (pc := 292) (k' := (36, 7996)) (t := 13) (t0 := 1) (N := 600) (n := 36) (n2 := 37) w_ai rfl rfl (fun U h => h) (by decide) (fun _ => rfl) rfl (by decide) (by decide) dX11_init_292 ⟨Nat.le_of_ble_eq_true rfl, Nat.le_of_ble_eq_true rfl⟩ rfl rfl rfl rfl ?_
  refine m_putF (pc := 294) (d := 0) (o := 36) (m2 := 36) fl_X11_117 rfl rfl rfl dX11_init_294 (by decide) rfl rfl (fun _ => rfl) (fun _ => rfl) rfl ?_
  refine x_aload_n (pc := 297) dX11_init_297 rfl rfl ?_
  refine x_sipush (pc := 298) dX11_init_298 rfl ?_
  refine m_newa (pc := 301) (k' := (37, 8596)) (t := 13) (t0 := 1) (N := 600) (n := 37) (n2 := 38) w_ai rfl rfl (fun U h => h) (by decide) (fun _ => rfl) rfl (by decide) (by decide) dX11_init_301 ⟨Nat.le_of_ble_eq_true rfl, Nat.le_of_ble_eq_true rfl⟩ rfl rfl rfl rfl ?_
  refine m_putF (pc := 303) (d := 0) (o := 37) (m2 := 37) fl_X11_120 rfl rfl rfl dX11_init_303 (by decide) rfl rfl (fun _ => rfl) (fun _ => rfl) rfl ?_
  refine x_aload_n (pc := 306) dX11_init_306 rfl rfl ?_
  refine x_sipush (pc := 307) dX11_init_307 rfl ?_
  refine m_newa (pc := 310) (k' := (38, 9196)) (t := 13) (t0 := 1) (N := 600) (n := 38) (n2 := 39) w_ai rfl rfl (fun U h => h) (by decide) (fun _ => rfl) rfl (by decide) (by decide) dX11_init_310 ⟨Nat.le_of_ble_eq_true rfl, Nat.le_of_ble_eq_true rfl⟩ rfl rfl rfl rfl ?_
  refine m_putF (pc := 312) (d := 0) (o := 38) (m2 := 38) fl_X11_123 rfl rfl rfl dX11_init_312 (by decide) rfl rfl (fun _ => rfl) (fun _ => rfl) rfl ?_
  refine x_aload_n (pc := 315) dX11_init_315 rfl rfl ?_
  refine x_sipush (pc := 316) dX11_init_316 rfl ?_
  refine m_newa (pc := 319) (k' := (39, 9796)) (t := 13) (t0 := 1) (N := 600) (n := 39) (n2 := 40) w_ai rfl rfl (fun U h => h) (by decide) (fun _ => rfl) rfl (by decide) (by decide) dX11_init_319 ⟨Nat.le_of_ble_eq_true rfl, Nat.le_of_ble_eq_true rfl⟩ rfl rfl rfl rfl ?_
  refine m_putF (pc := 321) (d := 0) (o := 39) (m2 := 39) fl_X11_126 rfl rfl rfl dX11_init_321 (by decide) rfl rfl (fun _ => rfl) (fun _ => rfl) rfl ?_
  refine x_aload_n (pc := 324) dX11_init_324 rfl rfl ?_
  refine x_iconst (pc := 325) dX11_init_325 ?_
  refine m_newa (pc := 326) (k' := (40, 9800)) (t := 13) (t0 := 1) (N := 4) (n := 40) (n2 := 41) w_ai rfl rfl (fun U h => h) (by decide) (fun _ => rfl) rfl (by decide) (by decide) dX11_init_326 ⟨Nat.le_of_ble_eq_true rfl, Nat.le_of_ble_eq_true rfl⟩ rfl rfl rfl rfl ?_
  refine m_putF (pc := 328) (d := 0) (o := 40) (m2 := 40) fl_X11_129 rfl rfl rfl dX11_init_328 (by decide) rfl rfl (fun _ => rfl) (fun _ => rfl) rfl ?_
  refine x_aload_n (pc := 331) dX11_init_331 rfl rfl ?_
  refine x_bipush (pc := 332) dX11_init_332 rfl ?_
  refine m_newa (pc := 334) (k' := (41, 9864)) (t := 13) (t0 := 1) (N := 64) (n := 41) (n2 := 42) w_ai rfl rfl (fun U h => h) (by decide) (fun _ => rfl) rfl (by decide) (by decide) dX11_init_334 ⟨Nat.le_of_ble_eq_true rfl, Nat.le_of_ble_eq_true rfl⟩ rfl rfl rfl rfl ?_
  refine m_putF (pc := 336) (d := 0) (o := 41) (m2 := 41) fl_X11_132 rfl rfl rfl dX11_init_336 (by decide) rfl rfl (fun _ => rfl) (fun _ => rfl) rfl ?_
  refine x_aload_n (pc := 339) dX11_init_339 rfl rfl ?_
  refine x_bipush (pc := 340) dX11_init_340 rfl ?_
  refine m_newa (pc := 342) (k' := (42, 9928)) (t := 13) (t0 := 1) (N := 64) (n := 42) (n2 := 43) w_ai rfl rfl (fun U h => h) (by decide) (fun _ => rfl) rfl (by decide) (by decide) dX11_init_342 ⟨Nat.le_of_ble_eq_true rfl, Nat.le_of_ble_eq_true rfl⟩ rfl rfl rfl rfl ?_
  refine m_putF (pc := 344) (d := 0) (o := 42) (m2 := 42) fl_X11_135 rfl rfl rfl dX11_init_344 (by decide) rfl rfl (fun _ => rfl) (fun _ => rfl) rfl ?_
  refine x_aload_n (pc := 347) dX11_init_347 rfl rfl ?_
  refine x_bipush (pc := 348) dX11_init_348 rfl ?_
  refine m_newa (pc := 350) (k' := (43, 9992)) (t := 13) (t0 := 1) (N := 64) (n := 43) (n2 := 44) w_ai rfl rfl (fun U h => h) (by decide) (fun _ => rfl) rfl (by decide) (by decide) dX11_init_350 ⟨Nat.le_of_ble_eq_true rfl, Nat.le_of_ble_eq_true rfl⟩ rfl rfl rfl rfl ?_
  refine m_putF (pc := 352) (d := 0) (o := 43) (m2 := 43) fl_X11_138 rfl rfl rfl dX11_init_352 (by decide) rfl rfl (fun _ => rfl) (fun _ => rfl) rfl ?_
  refine x_aload_n (pc := 355) dX11_init_355 rfl rfl ?_
  refine x_sipush (pc := 356) dX11_init_356 rfl ?_
  refine m_newa (pc := 359) (k' := (44, 10248)) (t := 13) (t0 := 1) (N := 256) (n := 44) (n2 := 45) w_ai rfl rfl (fun U h => h) (by decide) (fun _ => rfl) rfl (by decide) (by decide) dX11_init_359 ⟨Nat.le_of_ble_eq_true rfl, Nat.le_of_ble_eq_true rfl⟩ rfl rfl rfl rfl ?_
  refine m_putF (pc := 361) (d := 0) (o := 44) (m2 := 44) fl_X11_141 rfl rfl rfl dX11_init_361 (by decide) rfl rfl (fun _ => rfl) (fun _ => rfl) rfl ?_
  refine x_aload_n (pc := 364) dX11_init_364 rfl rfl ?_
  refine x_sipush (pc := 365) dX11_init_365 rfl ?_
  refine m_newa (pc := 368) (k' := (45, 10504)) (t := 13) (t0 := 1) (N := 256) (n := 45) (n2 := 46) w_ai rfl rfl (fun U h => h) (by decide) (fun _ => rfl) rfl (by decide) (by decide) dX11_init_368 ⟨Nat.le_of_ble_eq_true rfl, Nat.le_of_ble_eq_true rfl⟩ rfl rfl rfl rfl ?_
  refine m_putF (pc := 370) (d := 0) (o := 45) (m2 := 45) fl_X11_144 rfl rfl rfl dX11_init_370 (by decide) rfl rfl (fun _ => rfl) (fun _ => rfl) rfl ?_
  refine x_aload_n (pc := 373) dX11_init_373 rfl rfl ?_
  refine x_sipush (pc := 374) dX11_init_374 rfl ?_
  refine m_newa (pc := 377) (k' := (46, 10760)) (t := 13) (t0 := 1) (N := 256) (n := 46) (n2 := 47) w_ai rfl rfl (fun U h => h) (by decide) (fun _ => rfl) rfl (by decide) (by decide) dX11_init_377 ⟨Nat.le_of_ble_eq_true rfl, Nat.le_of_ble_eq_true rfl⟩ rfl rfl rfl rfl ?_
  refine m_putF (pc := 379) (d := 0) (o := 46) (m2 := 46) fl_X11_147 rfl rfl rfl dX11_init_379 (by decide) rfl rfl (fun _ => rfl) (fun _ => rfl) rfl ?_
  refine x_aload_n (pc := 382) dX11_init_382 rfl rfl ?_
  refine x_sipush (pc := 383) dX11_init_383 rfl ?_
  refine m_newa (pc := 386) (k' := (47, 11016)) (t := 15) (t0 := 3) (N := 256) (n := 47) (n2 := 48) w_az rfl rfl (fun U h => h) (by decide) (fun _ => rfl) rfl (by decide) (by decide) dX11_init_386 ⟨Nat.le_of_ble_eq_true rfl, Nat.le_of_ble_eq_true rfl⟩ rfl rfl rfl rfl ?_
  refine m_putF (pc := 388) (d := 0) (o := 47) (m2 := 47) fl_X11_150 rfl rfl rfl dX11_init_388 (by decide) rfl rfl (fun _ => rfl) (fun _ => rfl) rfl ?_
  refine x_aload_n (pc := 391) dX11_init_391 rfl rfl ?_
  refine x_sipush (pc := 392) dX11_init_392 rfl ?_
  refine m_newa (pc := 395) (k' := (48, 11208)) (t := 13) (t0 := 1) (N := 192) (n := 48) (n2 := 49) w_ai rfl rfl (fun U h => h) (by decide) (fun _ => rfl) rfl (by decide) (by decide) dX11_init_395 ⟨Nat.le_of_ble_eq_true rfl, Nat.le_of_ble_eq_true rfl⟩ rfl rfl rfl rfl ?_
  refine m_putF (pc := 397) (d := 0) (o := 48) (m2 := 48) fl_X11_153 rfl rfl rfl dX11_init_397 (by decide) rfl rfl (fun _ => rfl) (fun _ => rfl) rfl ?_
  refine x_aload_n (pc := 400) dX11_init_400 rfl rfl ?_
  refine x_iconst (pc := 401) dX11_init_401 ?_
  refine m_newa (pc := 402) (k' := (49, 11212)) (t := 13) (t0 := 1) (N := 4) (n := 49) (n2 := 50) w_ai rfl rfl (fun U h => h) (by decide) (fun _ => rfl) rfl (by decide) (by decide) dX11_init_402 ⟨Nat.le_of_ble_eq_true rfl, Nat.le_of_ble_eq_true rfl⟩ rfl rfl rfl rfl ?_
  refine m_putF (pc := 404) (d := 0) (o := 49) (m2 := 49) fl_X11_156 rfl rfl rfl dX11_init_404 (by decide) rfl rfl (fun _ => rfl) (fun _ => rfl) rfl ?_
  refine x_aload_n (pc := 407) dX11_init_407 rfl rfl ?_
  refine x_bipush (pc := 408) dX11_init_408 rfl ?_
  refine m_newa (pc := 410) (k' := (50, 11260)) (t := 13) (t0 := 1) (N := 48) (n := 50) (n2 := 51) w_ai rfl rfl (fun U h => h) (by decide) (fun _ => rfl) rfl (by decide) (by decide) dX11_init_410 ⟨Nat.le_of_ble_eq_true rfl, Nat.le_of_ble_eq_true rfl⟩ rfl rfl rfl rfl ?_
  refine m_putF (pc := 412) (d := 0) (o := 50) (m2 := 50) fl_X11_159 rfl rfl rfl dX11_init_412 (by decide) rfl rfl (fun _ => rfl) (fun _ => rfl) rfl ?_
  refine x_aload_n (pc := 415) dX11_init_415 rfl rfl ?_
  refine x_bipush (pc := 416) dX11_init_416 rfl ?_
  refine m_newa (pc := 418) (k' := (51, 11308)) (t := 13) (t0 := 1) (N := 48) (n := 51) (n2 := 52) w_ai rfl rfl (fun U h => h) (by decide) (fun _ => rfl) rfl (by decide) (by decide) dX11_init_418 ⟨Nat.le_of_ble_eq_true rfl, Nat.le_of_ble_eq_true rfl⟩ rfl rfl rfl rfl ?_
  refine m_putF (pc := 420) (d := 0) (o := 51) (m2 := 51) fl_X11_162 rfl rfl rfl dX11_init_420 (by decide) rfl rfl (fun _ => rfl) (fun _ => rfl) rfl ?_
  refine x_aload_n (pc := 423) dX11_init_423 rfl rfl ?_
  refine x_bipush (pc := 424) dX11_init_424 rfl ?_
  refine m_newa (pc := 426) (k' := (52, 11318)) (t := 13) (t0 := 1) (N := 10) (n := 52) (n2 := 53) w_ai rfl rfl (fun U h => h) (by decide) (fun _ => rfl) rfl (by decide) (by decide) dX11_init_426 ⟨Nat.le_of_ble_eq_true rfl, Nat.le_of_ble_eq_true rfl⟩ rfl rfl rfl rfl ?_
  refine m_putF (pc := 428) (d := 0) (o := 52) (m2 := 52) fl_X11_165 rfl rfl rfl dX11_init_428 (by decide) rfl rfl (fun _ => rfl) (fun _ => rfl) rfl ?_
  refine x_aload_n (pc := 431) dX11_init_431 rfl rfl ?_
  refine x_bipush (pc := 432) dX11_init_432 rfl ?_
  refine m_newa (pc := 434) (k' := (53, 11328)) (t := 13) (t0 := 1) (N := 10) (n := 53) (n2 := 54) w_ai rfl rfl (fun U h => h) (by decide) (fun _ => rfl) rfl (by decide) (by decide) dX11_init_434 ⟨Nat.le_of_ble_eq_true rfl, Nat.le_of_ble_eq_true rfl⟩ rfl rfl rfl rfl ?_
  refine m_putF (pc := 436) (d := 0) (o := 53) (m2 := 53) fl_X11_168 rfl rfl rfl dX11_init_436 (by decide) rfl rfl (fun _ => rfl) (fun _ => rfl) rfl ?_
  refine x_aload_n (pc := 439) dX11_init_439 rfl rfl ?_
  refine x_bipush (pc := 440) dX11_init_440 rfl ?_
  refine m_newa (pc := 442) (k' := (54, 11338)) (t := 13) (t0 := 1) (N := 10) (n := 54) (n2 := 55) w_ai rfl rfl (fun U h => h) (by decide) (fun _ => rfl) rfl (by decide) (by decide) dX11_init_442 ⟨Nat.le_of_ble_eq_true rfl, Nat.le_of_ble_eq_true rfl⟩ rfl rfl rfl rfl ?_
  refine m_putF (pc := 444) (d := 0) (o := 54) (m2 := 54) fl_X11_171 rfl rfl rfl dX11_init_444 (by decide) rfl rfl (fun _ => rfl) (fun _ => rfl) rfl ?_
  refine x_aload_n (pc := 447) dX11_init_447 rfl rfl ?_
  refine x_bipush (pc := 448) dX11_init_448 rfl ?_
  refine m_newa (pc := 450) (k' := (55, 11348)) (t := 14) (t0 := 2) (N := 10) (n := 55) (n2 := 56) w_aj rfl rfl (fun U h => h) (by decide) (fun _ => rfl) rfl (by decide) (by decide) dX11_init_450 ⟨Nat.le_of_ble_eq_true rfl, Nat.le_of_ble_eq_true rfl⟩ rfl rfl rfl rfl ?_
  refine m_putF (pc := 452) (d := 0) (o := 55) (m2 := 55) fl_X11_174 rfl rfl rfl dX11_init_452 (by decide) rfl rfl (fun _ => rfl) (fun _ => rfl) rfl ?_
  refine x_aload_n (pc := 455) dX11_init_455 rfl rfl ?_
  refine x_bipush (pc := 456) dX11_init_456 rfl ?_
  refine m_newa (pc := 458) (k' := (56, 11408)) (t := 13) (t0 := 1) (N := 60) (n := 56) (n2 := 57) w_ai rfl rfl (fun U h => h) (by decide) (fun _ => rfl) rfl (by decide) (by decide) dX11_init_458 ⟨Nat.le_of_ble_eq_true rfl, Nat.le_of_ble_eq_true rfl⟩ rfl rfl rfl rfl ?_
  refine m_putF (pc := 460) (d := 0) (o := 56) (m2 := 56) fl_X11_178 rfl rfl rfl dX11_init_460 (by decide) rfl rfl (fun _ => rfl) (fun _ => rfl) rfl ?_
  refine x_aload_n (pc := 463) dX11_init_463 rfl rfl ?_
  refine x_bipush (pc := 464) dX11_init_464 rfl ?_
  refine m_newa (pc := 466) (k' := (57, 11418)) (t := 13) (t0 := 1) (N := 10) (n := 57) (n2 := 58) w_ai rfl rfl (fun U h => h) (by decide) (fun _ => rfl) rfl (by decide) (by decide) dX11_init_466 ⟨Nat.le_of_ble_eq_true rfl, Nat.le_of_ble_eq_true rfl⟩ rfl rfl rfl rfl ?_
  refine m_putF (pc := 468) (d := 0) (o := 57) (m2 := 57) fl_X11_181 rfl rfl rfl dX11_init_468 (by decide) rfl rfl (fun _ => rfl) (fun _ => rfl) rfl ?_
  refine x_aload_n (pc := 471) dX11_init_471 rfl rfl ?_
  refine x_bipush (pc := 472) dX11_init_472 rfl ?_
  refine m_newa (pc := 474) (k' := (58, 11435)) (t := 13) (t0 := 1) (N := 17) (n := 58) (n2 := 59) w_ai rfl rfl (fun U h => h) (by decide) (fun _ => rfl) rfl (by decide) (by decide) dX11_init_474 ⟨Nat.le_of_ble_eq_true rfl, Nat.le_of_ble_eq_true rfl⟩ rfl rfl rfl rfl ?_
  refine m_putF (pc := 476) (d := 0) (o := 58) (m2 := 58) fl_X11_184 rfl rfl rfl dX11_init_476 (by decide) rfl rfl (fun _ => rfl) (fun _ => rfl) rfl ?_
  refine x_aload_n (pc := 479) dX11_init_479 rfl rfl ?_
  refine x_bipush (pc := 480) dX11_init_480 rfl ?_
  refine m_newa (pc := 482) (k' := (59, 11452)) (t := 13) (t0 := 1) (N := 17) (n := 59) (n2 := 60) w_ai rfl rfl (fun U h => h) (by decide) (fun _ => rfl) rfl (by decide) (by decide) dX11_init_482 ⟨Nat.le_of_ble_eq_true rfl, Nat.le_of_ble_eq_true rfl⟩ rfl rfl rfl rfl ?_
  refine m_putF (pc := 484) (d := 0) (o := 59) (m2 := 59) fl_X11_187 rfl rfl rfl dX11_init_484 (by decide) rfl rfl (fun _ => rfl) (fun _ => rfl) rfl ?_
  refine x_aload_n (pc := 487) dX11_init_487 rfl rfl ?_
  refine x_bipush (pc := 488) dX11_init_488 rfl ?_
  refine m_newa (pc := 490) (k' := (60, 11469)) (t := 13) (t0 := 1) (N := 17) (n := 60) (n2 := 61) w_ai rfl rfl (fun U h => h) (by decide) (fun _ => rfl) rfl (by decide) (by decide) dX11_init_490 ⟨Nat.le_of_ble_eq_true rfl, Nat.le_of_ble_eq_true rfl⟩ rfl rfl rfl rfl ?_
  refine m_putF (pc := 492) (d := 0) (o := 60) (m2 := 60) fl_X11_190 rfl rfl rfl dX11_init_492 (by decide) rfl rfl (fun _ => rfl) (fun _ => rfl) rfl ?_
  refine x_aload_n (pc := 495) dX11_init_495 rfl rfl ?_
  refine x_bipush (pc := 496) dX11_init_496 rfl ?_
  refine m_newa (pc := 498) (k' := (61, 11538)) (t := 13) (t0 := 1) (N := 69) (n := 61) (n2 := 62) w_ai rfl rfl (fun U h => h) (by decide) (fun _ => rfl) rfl (by decide) (by decide) dX11_init_498 ⟨Nat.le_of_ble_eq_true rfl, Nat.le_of_ble_eq_true rfl⟩ rfl rfl rfl rfl ?_
  refine m_putF (pc := 500) (d := 0) (o := 61) (m2 := 61) fl_X11_193 rfl rfl rfl dX11_init_500 (by decide) rfl rfl (fun _ => rfl) (fun _ => rfl) rfl ?_
  refine x_aload_n (pc := 503) dX11_init_503 rfl rfl ?_
  refine x_bipush (pc := 504) dX11_init_504 rfl ?_
  refine m_newa (pc := 506) (k' := (62, 11607)) (t := 13) (t0 := 1) (N := 69) (n := 62) (n2 := 63) w_ai rfl rfl (fun U h => h) (by decide) (fun _ => rfl) rfl (by decide) (by decide) dX11_init_506 ⟨Nat.le_of_ble_eq_true rfl, Nat.le_of_ble_eq_true rfl⟩ rfl rfl rfl rfl ?_
  refine m_putF (pc := 508) (d := 0) (o := 62) (m2 := 62) fl_X11_196 rfl rfl rfl dX11_init_508 (by decide) rfl rfl (fun _ => rfl) (fun _ => rfl) rfl ?_
  refine x_aload_n (pc := 511) dX11_init_511 rfl rfl ?_
  refine x_bipush (pc := 512) dX11_init_512 rfl ?_
  refine m_newa (pc := 514) (k' := (63, 11676)) (t := 13) (t0 := 1) (N := 69) (n := 63) (n2 := 64) w_ai rfl rfl (fun U h => h) (by decide) (fun _ => rfl) rfl (by decide) (by decide) dX11_init_514 ⟨Nat.le_of_ble_eq_true rfl, Nat.le_of_ble_eq_true rfl⟩ rfl rfl rfl rfl ?_
  refine m_putF (pc := 516) (d := 0) (o := 63) (m2 := 63) fl_X11_199 rfl rfl rfl dX11_init_516 (by decide) rfl rfl (fun _ => rfl) (fun _ => rfl) rfl ?_
  refine x_aload_n (pc := 519) dX11_init_519 rfl rfl ?_
  refine x_bipush (pc := 520) dX11_init_520 rfl ?_
  refine m_newa (pc := 522) (k' := (64, 11745)) (t := 15) (t0 := 3) (N := 69) (n := 64) (n2 := 65) w_az rfl rfl (fun U h => h) (by decide) (fun _ => rfl) rfl (by decide) (by decide) dX11_init_522 ⟨Nat.le_of_ble_eq_true rfl, Nat.le_of_ble_eq_true rfl⟩ rfl rfl rfl rfl ?_
  refine m_putF (pc := 524) (d := 0) (o := 64) (m2 := 64) fl_X11_202 rfl rfl rfl dX11_init_524 (by decide) rfl rfl (fun _ => rfl) (fun _ => rfl) rfl ?_
  refine x_aload_n (pc := 527) dX11_init_527 rfl rfl ?_
  refine x_bipush (pc := 528) dX11_init_528 rfl ?_
  refine m_newa (pc := 530) (k' := (65, 11845)) (t := 13) (t0 := 1) (N := 100) (n := 65) (n2 := 66) w_ai rfl rfl (fun U h => h) (by decide) (fun _ => rfl) rfl (by decide) (by decide) dX11_init_530 ⟨Nat.le_of_ble_eq_true rfl, Nat.le_of_ble_eq_true rfl⟩ rfl rfl rfl rfl ?_
  refine m_putF (pc := 532) (d := 0) (o := 65) (m2 := 65) fl_X11_205 rfl rfl rfl dX11_init_532 (by decide) rfl rfl (fun _ => rfl) (fun _ => rfl) rfl ?_
  refine x_aload_n (pc := 535) dX11_init_535 rfl rfl ?_
  refine x_sipush (pc := 536) dX11_init_536 rfl ?_
  refine m_newa (pc := 539) (k' := (66, 16965)) (t := 13) (t0 := 1) (N := 5120) (n := 66) (n2 := 67) w_ai rfl rfl (fun U h => h) (by decide) (fun _ => rfl) rfl (by decide) (by decide) dX11_init_539 ⟨Nat.le_of_ble_eq_true rfl, Nat.le_of_ble_eq_true rfl⟩ rfl rfl rfl rfl ?_
  refine m_putF (pc := 541) (d := 0) (o := 66) (m2 := 66) fl_X11_208 rfl rfl rfl dX11_init_541 (by decide) rfl rfl (fun _ => rfl) (fun _ => rfl) rfl ?_
  refine x_aload_n (pc := 544) dX11_init_544 rfl rfl ?_
  refine x_bipush (pc := 545) dX11_init_545 rfl ?_
  refine m_newa (pc := 547) (k' := (67, 16975)) (t := 13) (t0 := 1) (N := 10) (n := 67) (n2 := 68) w_ai rfl rfl (fun U h => h) (by decide) (fun _ => rfl) rfl (by decide) (by decide) dX11_init_547 ⟨Nat.le_of_ble_eq_true rfl, Nat.le_of_ble_eq_true rfl⟩ rfl rfl rfl rfl ?_
  refine m_putF (pc := 549) (d := 0) (o := 67) (m2 := 67) fl_X11_211 rfl rfl rfl dX11_init_549 (by decide) rfl rfl (fun _ => rfl) (fun _ => rfl) rfl ?_
  refine x_aload_n (pc := 552) dX11_init_552 rfl rfl ?_
  refine x_bipush (pc := 553) dX11_init_553 rfl ?_
  refine m_newa (pc := 555) (k' := (68, 16983)) (t := 13) (t0 := 1) (N := 8) (n := 68) (n2 := 69) w_ai rfl rfl (fun U h => h) (by decide) (fun _ => rfl) rfl (by decide) (by decide) dX11_init_555 ⟨Nat.le_of_ble_eq_true rfl, Nat.le_of_ble_eq_true rfl⟩ rfl rfl rfl rfl ?_
  refine m_putF (pc := 557) (d := 0) (o := 68) (m2 := 68) fl_X11_214 rfl rfl rfl dX11_init_557 (by decide) rfl rfl (fun _ => rfl) (fun _ => rfl) rfl ?_
  refine x_aload_n (pc := 560) dX11_init_560 rfl rfl ?_
  refine x_iconst (pc := 561) dX11_init_561 ?_
  refine m_newa (pc := 562) (k' := (69, 16986)) (t := 15) (t0 := 3) (N := 3) (n := 69) (n2 := 70) w_az rfl rfl (fun U h => h) (by decide) (fun _ => rfl) rfl (by decide) (by decide) dX11_init_562 ⟨Nat.le_of_ble_eq_true rfl, Nat.le_of_ble_eq_true rfl⟩ rfl rfl rfl rfl ?_
  refine m_putF (pc := 564) (d := 0) (o := 69) (m2 := 69) fl_X11_217 rfl rfl rfl dX11_init_564 (by decide) rfl rfl (fun _ => rfl) (fun _ => rfl) rfl ?_
  refine x_aload_n (pc := 567) dX11_init_567 rfl rfl ?_
  refine m_getR (pc := 568) (d := 0) (o := 4) fl_X11_20 dX11_init_568 (by decide) rfl rfl rfl ?_
  refine x_iconst (pc := 571) dX11_init_571 ?_
  refine x_iconst (pc := 572) dX11_init_572 ?_
  refine m_iast (pc := 573) (d := 4) (w2 := 1) dX11_init_573 (by decide) rfl (inb_b (by decide) (by decide) (by decide)) rfl rfl rfl ?_
  refine x_aload_n (pc := 574) dX11_init_574 rfl rfl ?_
  refine m_getR (pc := 575) (d := 0) (o := 6) fl_X11_26 dX11_init_575 (by decide) rfl rfl rfl ?_
  refine x_iconst (pc := 578) dX11_init_578 ?_
  refine x_iconst (pc := 579) dX11_init_579 ?_
  refine m_iast (pc := 580) (d := 6) (w2 := 2) dX11_init_580 (by decide) rfl (inb_b (by decide) (by decide) (by decide)) rfl rfl rfl ?_
  exact x_vret (pc := 581) dX11_init_581 rfl ⟨Nat.le_of_ble_eq_true rfl, Nat.le_of_ble_eq_true rfl⟩ ⟨rfl, rfl, rfl⟩
