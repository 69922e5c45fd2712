/-! ===== had: the k-th by WEEKS and numbers ===== -/
/-- how many that hold lie ahead of (w, i) -/
def rkC (P : Nat → Prop) [DecidablePred P] (W : Nat → Int) (w : Int) (i n : Nat) : Int := sumA (fun y => if P y ∧ (W y < w ∨ (W y = w ∧ y < i)) then 1 else 0) n
theorem rkC_step {P : Nat → Prop} [DecidablePred P] {W : Nat → Int} {n : Nat} {w : Int} {i : Nat} (hi : i < n) : rkC P W w (i + 1) n = rkC P W w i n + (if W i = w ∧ P i then 1 else 0) := by
  have e : (fun y => if P y ∧ (W y < w ∨ (W y = w ∧ y < i + 1)) then (1 : Int) else 0) = ud (fun y => if P y ∧ (W y < w ∨ (W y = w ∧ y < i)) then (1 : Int) else 0) i (if P i ∧ (W i < w ∨ W i = w) then 1 else 0) := by
    funext y
    unfold ud
    by_cases ey : y = i
    · rw [if_pos ey, ey]
      by_cases c : P i ∧ (W i < w ∨ W i = w)
      · rw [if_pos c, if_pos ⟨c.1, by rcases c.2 with c | c; exact Or.inl c; exact Or.inr ⟨c, by omega⟩⟩]
      · rw [if_neg c, if_neg (fun q => c ⟨q.1, by rcases q.2 with q | q; exact Or.inl q; exact Or.inr q.1⟩)]
    · rw [if_neg ey]
      show _ = (if P y ∧ (W y < w ∨ (W y = w ∧ y < i)) then (1 : Int) else 0)
      by_cases c : P y ∧ (W y < w ∨ (W y = w ∧ y < i))
      · rw [if_pos c, if_pos ⟨c.1, by rcases c.2 with c | c; exact Or.inl c; exact Or.inr ⟨c.1, by omega⟩⟩]
      · rw [if_neg c, if_neg (fun q => c ⟨q.1, by rcases q.2 with q | q; exact Or.inl q; exact Or.inr ⟨q.1, by omega⟩⟩)]
  unfold rkC
  rw [e, sumA_ud, if_pos hi]
  by_cases p : P i
  · by_cases c1 : W i < w
    · rw [if_pos ⟨p, Or.inl c1⟩, if_pos ⟨p, Or.inl c1⟩, if_neg (fun q => by omega)]; omega
    · by_cases c2 : W i = w
      · rw [if_neg (fun q => by omega), if_pos ⟨p, Or.inr c2⟩, if_pos ⟨c2, p⟩]; omega
      · rw [if_neg (fun q => by omega), if_neg (fun q => by omega), if_neg (fun q => c2 q.1)]; omega
  · rw [if_neg (fun q => p q.1), if_neg (fun q => p q.1), if_neg (fun q => p q.2)]; omega
theorem rkC_next {P : Nat → Prop} [DecidablePred P] {W : Nat → Int} {n : Nat} {w : Int} : rkC P W w n n = rkC P W (w + 1) 0 n := by
  unfold rkC
  refine sumA_congr (fun j hj => ?_)
  by_cases c : P j ∧ (W j < w ∨ (W j = w ∧ j < n))
  · rw [if_pos c, if_pos ⟨c.1, by omega⟩]
  · rw [if_neg c, if_neg (fun q => c ⟨q.1, by omega⟩)]
theorem rkC_0 {P : Nat → Prop} [DecidablePred P] {W : Nat → Int} {n : Nat} (h : ∀ j, j < n → 0 ≤ W j) : rkC P W 0 0 n = 0 := by
  unfold rkC
  exact sumA_0 (fun j hj => if_neg (fun q => by have := h j hj; omega))
theorem sumA_le2 {f g : Nat → Int} : ∀ {n : Nat}, (∀ j, j < n → f j ≤ g j) → sumA f n ≤ sumA g n
  | 0, _ => Int.le_refl _
  | n + 1, h => by
    have := sumA_le2 (n := n) (fun j hj => h j (by omega))
    have := h n (by omega)
    simp only [sumA]; omega
theorem sumA_strict {f g : Nat → Int} {x : Nat} : ∀ {n : Nat}, x < n → (∀ j, j < n → f j ≤ g j) → f x + 1 ≤ g x → sumA f n + 1 ≤ sumA g n
  | 0, hx, _, _ => absurd hx (by omega)
  | n + 1, hx, h, hs => by
    simp only [sumA]
    by_cases e : x = n
    · subst e
      have := sumA_le2 (n := x) (fun j hj => h j (by omega))
      omega
    · have := sumA_strict (n := n) (by omega) (fun j hj => h j (by omega)) hs
      have := h n (by omega)
      omega
theorem rk_lt {P : Nat → Prop} [DecidablePred P] {W : Nat → Int} {n : Nat} {x y : Nat} (hx : x < n) (p : P x) (h : W x < W y ∨ (W x = W y ∧ x < y)) : rkC P W (W x) x n + 1 ≤ rkC P W (W y) y n := by
  unfold rkC
  refine sumA_strict hx (fun j hj => ?_) ?_
  · by_cases c : P j ∧ (W j < W x ∨ (W j = W x ∧ j < x))
    · rw [if_pos c, if_pos ⟨c.1, by omega⟩]; exact Int.le_refl _
    · rw [if_neg c]; split <;> decide
  · rw [if_neg (fun q => by omega), if_pos ⟨p, h⟩]; decide
theorem rk_uniq {P : Nat → Prop} [DecidablePred P] {W : Nat → Int} {n : Nat} {x y : Nat} (hx : x < n) (hy : y < n) (px : P x) (py : P y) (h : rkC P W (W x) x n = rkC P W (W y) y n) : x = y := by
  apply Decidable.byContradiction
  intro e
  by_cases c : W x < W y ∨ (W x = W y ∧ x < y)
  · have := rk_lt hx px c; omega
  · have := rk_lt (P := P) (W := W) (y := x) hy py (by omega); omega
theorem qI_rk {P : Nat → Prop} [DecidablePred P] {W : Nat → Int} {n : Nat} {k w : Int} {C : Int → Int} : ∀ n', n' ≤ n → (∃ i, i < n ∧ qI (fun i => W i = w ∧ P i) k n C n' (rkC P W w (n - n') n) = (i : Int) ∧ P i ∧ rkC P W (W i) i n = k) ∨ (qI (fun i => W i = w ∧ P i) k n C n' (rkC P W w (n - n') n) = C (rkC P W (w + 1) 0 n) ∧ ∀ i, n - n' ≤ i → i < n → P i → W i = w → rkC P W (W i) i n ≠ k)
  | 0, _ => by
    right
    rw [Nat.sub_zero, rkC_next]
    exact ⟨rfl, fun i h1 h2 => absurd h2 (by omega)⟩
  | n' + 1, hn => by
    have ih := qI_rk (P := P) (W := W) (n := n) (k := k) (w := w) (C := C) n' (by omega)
    have hs := rkC_step (P := P) (W := W) (w := w) (i := n - (n' + 1)) (n := n) (by omega)
    rw [show n - (n' + 1) + 1 = n - n' by omega] at hs
    have hlt : n - (n' + 1) < n := by omega
    rw [qI]
    by_cases q : W (n - (n' + 1)) = w ∧ P (n - (n' + 1))
    · rw [if_pos q] at hs
      rw [if_pos q]
      by_cases e : rkC P W w (n - (n' + 1)) n = k
      · left
        rw [if_pos e]
        exact ⟨_, hlt, rfl, q.2, by rw [q.1]; exact e⟩
      · rw [if_neg e, ← hs]
        rcases ih with ih | ⟨ih1, ih2⟩
        · exact Or.inl ih
        · refine Or.inr ⟨ih1, fun i h1 h2 h3 h4 => ?_⟩
          by_cases ei : i = n - (n' + 1)
          · rw [ei, q.1]; exact e
          · exact ih2 i (by omega) h2 h3 h4
    · rw [if_neg q] at hs
      rw [if_neg q]
      rw [Int.add_zero] at hs
      rw [← hs]
      rcases ih with ih | ⟨ih1, ih2⟩
      · exact Or.inl ih
      · refine Or.inr ⟨ih1, fun i h1 h2 h3 h4 => ?_⟩
        by_cases ei : i = n - (n' + 1)
        · rw [ei] at h3 h4; exact absurd ⟨h4, h3⟩ q
        · exact ih2 i (by omega) h2 h3 h4
theorem qW_rk {P : Nat → Prop} [DecidablePred P] {W : Nat → Int} {n : Nat} {k : Int} : ∀ m, m ≤ 100 → (∃ i, i < n ∧ qW (fun w i => W i = (w : Int) ∧ P i) k n 100 m (rkC P W ((100 - m : Nat) : Int) 0 n) = (i : Int) ∧ P i ∧ rkC P W (W i) i n = k) ∨ (qW (fun w i => W i = (w : Int) ∧ P i) k n 100 m (rkC P W ((100 - m : Nat) : Int) 0 n) = -1 ∧ ∀ i, i < n → P i → ((100 - m : Nat) : Int) ≤ W i → W i ≤ 99 → rkC P W (W i) i n ≠ k)
  | 0, _ => Or.inr ⟨rfl, fun i _ _ h1 h2 => by omega⟩
  | m + 1, hm => by
    have ih := qW_rk (P := P) (W := W) (n := n) (k := k) m (by omega)
    have hi := qI_rk (P := P) (W := W) (n := n) (k := k) (w := ((100 - (m + 1) : Nat) : Int)) (C := qW (fun w i => W i = (w : Int) ∧ P i) k n 100 m) n (Nat.le_refl _)
    rw [Nat.sub_self] at hi
    rw [qW]
    rcases hi with hi | ⟨hi1, hi2⟩
    · exact Or.inl hi
    · rw [hi1, show ((100 - (m + 1) : Nat) : Int) + 1 = ((100 - m : Nat) : Int) by omega]
      rcases ih with ih | ⟨ih1, ih2⟩
      · exact Or.inl ih
      · refine Or.inr ⟨ih1, fun i h1 h2 h3 h4 => ?_⟩
        by_cases e : W i = ((100 - (m + 1) : Nat) : Int)
        · exact hi2 i (by omega) h1 h2 e
        · exact ih2 i h1 h2 (by omega) h4
section PH
variable {G : XG} {S : XS} {I : XI}
theorem s_Sh_holderInRow {bk k lm : Int} {n : Nat} {R : Int → XI → Prop} (hS : xSh S) (hI : okC I) (hn : I c_shelf 6 = (n : Int)) (hn2 : n ≤ 150) (h1 : InR bk) (h2 : InR k) (h4 : InR lm)
    (h : R (if qW (fun w i => I c_shelf_actWeeks i = (w : Int) ∧ (I c_shelf_actBooks i = bk ∧ I c_shelf_actKinds i ≤ 1 ∧ I c_shelf_actTold i ≤ lm)) k n 100 100 0 = -1 then -1 else I c_shelf_actCamps (qW (fun w i => I c_shelf_actWeeks i = (w : Int) ∧ (I c_shelf_actBooks i = bk ∧ I c_shelf_actKinds i ≤ 1 ∧ I c_shelf_actTold i ≤ lm)) k n 100 100 0).toNat) I) : Sh_holderInRow G S I bk k lm R := by
  refine b_Sh_holderInRow hS ?_
  have key : ∀ m, m ≤ 100 → ∀ fd : Int, 0 ≤ fd → fd ≤ ((100 - m : Nat) : Int) * 150 → R (if qW (fun w i => I c_shelf_actWeeks i = (w : Int) ∧ (I c_shelf_actBooks i = bk ∧ I c_shelf_actKinds i ≤ 1 ∧ I c_shelf_actTold i ≤ lm)) k n 100 m fd = -1 then -1 else I c_shelf_actCamps (qW (fun w i => I c_shelf_actWeeks i = (w : Int) ∧ (I c_shelf_actBooks i = bk ∧ I c_shelf_actKinds i ≤ 1 ∧ I c_shelf_actTold i ≤ lm)) k n 100 m fd).toNat) I → Sh_holderInRow_k6 G S I bk k lm fd ((100 - m : Nat) : Int) R := by
    intro m
    induction m with
    | zero =>
      intro _ fd _ _ hr
      exact b_Sh_holderInRow_k6 hS ⟨fun _ => hr, fun e => absurd (by decide) e⟩
    | succ m ih =>
      intro hm fd f1 f2 hr
      refine b_Sh_holderInRow_k6 hS ⟨fun e => absurd e ?_, fun _ => ?_⟩
      · rw [show w32 100 = 100 from rfl, w32_nat (by omega)]; omega
      · rw [qW] at hr
        generalize hw : 100 - (m + 1) = w at f2 hr ⊢
        have inner : ∀ n', n' ≤ n → ∀ fd : Int, 0 ≤ fd → fd ≤ (w : Int) * 150 + ((n - n' : Nat) : Int) → R (if qI (fun i => I c_shelf_actWeeks i = (w : Int) ∧ (I c_shelf_actBooks i = bk ∧ I c_shelf_actKinds i ≤ 1 ∧ I c_shelf_actTold i ≤ lm)) k n (qW (fun w i => I c_shelf_actWeeks i = (w : Int) ∧ (I c_shelf_actBooks i = bk ∧ I c_shelf_actKinds i ≤ 1 ∧ I c_shelf_actTold i ≤ lm)) k n 100 m) n' fd = -1 then -1 else I c_shelf_actCamps (qI (fun i => I c_shelf_actWeeks i = (w : Int) ∧ (I c_shelf_actBooks i = bk ∧ I c_shelf_actKinds i ≤ 1 ∧ I c_shelf_actTold i ≤ lm)) k n (qW (fun w i => I c_shelf_actWeeks i = (w : Int) ∧ (I c_shelf_actBooks i = bk ∧ I c_shelf_actKinds i ≤ 1 ∧ I c_shelf_actTold i ≤ lm)) k n 100 m) n' fd).toNat) I → Sh_holderInRow_k16 G S I bk k lm fd (w : Int) ((n - n' : Nat) : Int) R := by
          intro n'
          induction n' with
          | zero =>
            intro _ fd g1 g2 hr
            refine b_Sh_holderInRow_k16 hS ⟨fun _ => ?_, fun e => absurd (by rw [hn]; exact Int.le_refl _) e⟩
            have := ih (by omega) fd g1 (by omega) hr
            rw [show ((100 - m : Nat) : Int) = (w : Int) + 1 by omega] at this
            exact this
          | succ n' ih2 =>
            intro hn' fd g1 g2 hr
            rw [qI] at hr
            generalize hi : n - (n' + 1) = i at g2 hr ⊢
            have e1 : ((n - n' : Nat) : Int) = (i : Int) + 1 := by omega
            have skip : ¬ (I c_shelf_actWeeks i = (w : Int) ∧ (I c_shelf_actBooks i = bk ∧ I c_shelf_actKinds i ≤ 1 ∧ I c_shelf_actTold i ≤ lm)) → Sh_holderInRow_k16 G S I bk k lm fd (w : Int) ((i : Int) + 1) R := fun hz => by
              rw [if_neg hz] at hr
              rw [← e1]
              exact ih2 (by omega) fd g1 (by omega) hr
            refine b_Sh_holderInRow_k16 hS ?_
            rw [hn, w32_nat (k := n) (by omega), w32_nat (k := i) (by omega), ix_nat (k := i) (by omega), hI.w _ (by decide), hI.w _ (by decide), hI.w _ (by decide), hI.w _ (by decide), w32_r h1, w32_r h2, w32_r h4, w32_nat (k := w) (by omega), show w32 1 = 1 from rfl, w32_b (z := fd) (by omega) (by omega)]
            refine ⟨fun e => absurd e (by omega), fun _ => ⟨inb_b (by omega) (by omega) (by decide), fun c1 => ⟨inb_b (by omega) (by omega) (by decide), fun c2 => ⟨inb_b (by omega) (by omega) (by decide), fun c3 => skip (fun q => by omega), fun c3 => ⟨inb_b (by omega) (by omega) (by decide), fun c4 => skip (fun q => by omega), fun c4 => ?_⟩⟩, fun c2 => skip (fun q => c2 q.2.1)⟩, fun c1 => skip (fun q => c1 q.1)⟩⟩
            have hz : I c_shelf_actWeeks i = (w : Int) ∧ (I c_shelf_actBooks i = bk ∧ I c_shelf_actKinds i ≤ 1 ∧ I c_shelf_actTold i ≤ lm) := ⟨c1, c2, by omega, by omega⟩
            rw [if_pos hz] at hr
            refine ⟨fun c5 => ⟨inb_b (by omega) (by omega) (by decide), ?_⟩, fun c5 => ?_⟩
            · rw [if_pos c5, if_neg (by omega), Int.toNat_natCast] at hr; exact hr
            · rw [if_neg c5] at hr
              rw [← e1]
              exact ih2 (by omega) (fd + 1) (by omega) (by omega) hr
        have := inner n (Nat.le_refl _) fd f1 (by omega) hr
        rw [Nat.sub_self] at this
        exact this
  exact key 100 (Nat.le_refl _) 0 (Int.le_refl _) (by decide) h
theorem s_R_had {bk k : Int} {R : Int → XI → Prop} (hS : xSh S) (hI : Rel S I) (h1 : InR bk) (h2 : InR k)
    (ht : ∀ x, x < nA I → (I r_actBook x = bk ∧ I r_actKind x ≤ 1 ∧ I r_actTold x ≤ viewR I) → rkC (fun i => I r_actBook i = bk ∧ I r_actKind i ≤ 1 ∧ I r_actTold i ≤ viewR I) (I r_actWeek) (I r_actWeek x) x (nA I) = k → R (I r_actCamp x) I)
    (hf : (∀ x, x < nA I → (I r_actBook x = bk ∧ I r_actKind x ≤ 1 ∧ I r_actTold x ≤ viewR I) → rkC (fun i => I r_actBook i = bk ∧ I r_actKind i ≤ 1 ∧ I r_actTold i ≤ viewR I) (I r_actWeek) (I r_actWeek x) x (nA I) ≠ k) → R (-1) I) : R_had_k17 G S I bk k 0 R := by
  have ca := nA_c hI.good
  refine down (n := nA I) (P := fun x => (∀ j, j < x → (I r_actBook j = bk ∧ I r_actKind j ≤ 1 ∧ I r_actTold j ≤ viewR I) → rkC (fun i => I r_actBook i = bk ∧ I r_actKind i ≤ 1 ∧ I r_actTold i ≤ viewR I) (I r_actWeek) (I r_actWeek j) j (nA I) ≠ k) → R_had_k17 G S I bk k (x : Int) R) ?_ ?_ 0 (Nat.zero_le _) (fun j hj => absurd hj (by omega))
  · intro hno
    exact b_R_had_k17 hS ⟨fun _ => hf hno, fun e => absurd (by rw [ca.1]; exact Int.le_refl _) e⟩
  · intro x hx ih hno
    have nxt : ((I r_actBook x = bk ∧ I r_actKind x ≤ 1 ∧ I r_actTold x ≤ viewR I) → rkC (fun i => I r_actBook i = bk ∧ I r_actKind i ≤ 1 ∧ I r_actTold i ≤ viewR I) (I r_actWeek) (I r_actWeek x) x (nA I) ≠ k) → R_had_k17 G S I bk k ((x : Int) + 1) R := fun q => ih (fun j hj => by
      by_cases e : j = x
      · subst e; exact q
      · exact hno j (by omega))
    refine b_R_had_k17 hS ?_
    rw [ca.1, w32_nat (k := nA I) (by omega), w32_nat (k := x) (by omega)]
    refine ⟨fun e => absurd e (by omega), fun _ => s_R_gives hS hI.okR rfl (by omega) h1 (fun g => br1 ?_) (fun g => br0 (nxt (fun q => absurd q g)))⟩
    have key : ∀ y, y ≤ nA I → R_had_k45 G S I bk k (x : Int) (sumA (fun y => if (I r_actBook y = bk ∧ I r_actKind y ≤ 1 ∧ I r_actTold y ≤ viewR I) ∧ (I r_actWeek y < I r_actWeek x ∨ (I r_actWeek y = I r_actWeek x ∧ y < x)) then 1 else 0) y) (y : Int) R := by
      refine down (n := nA I) (P := fun y => R_had_k45 G S I bk k (x : Int) (sumA (fun y => if (I r_actBook y = bk ∧ I r_actKind y ≤ 1 ∧ I r_actTold y ≤ viewR I) ∧ (I r_actWeek y < I r_actWeek x ∨ (I r_actWeek y = I r_actWeek x ∧ y < x)) then 1 else 0) y) (y : Int) R) ?_ ?_
      · refine b_R_had_k45 hS ⟨fun _ => ?_, fun e => absurd (by rw [ca.1]; exact Int.le_refl _) e⟩
        have b1 := sumA_le1 (f := fun y => if (I r_actBook y = bk ∧ I r_actKind y ≤ 1 ∧ I r_actTold y ≤ viewR I) ∧ (I r_actWeek y < I r_actWeek x ∨ (I r_actWeek y = I r_actWeek x ∧ y < x)) then (1 : Int) else 0) (n := nA I) (fun j _ => by show (if _ then (1 : Int) else 0) ≤ 1; split <;> decide)
        have b2 := sumA_nn (f := fun y => if (I r_actBook y = bk ∧ I r_actKind y ≤ 1 ∧ I r_actTold y ≤ viewR I) ∧ (I r_actWeek y < I r_actWeek x ∨ (I r_actWeek y = I r_actWeek x ∧ y < x)) then (1 : Int) else 0) (n := nA I) (fun j _ => by show (0 : Int) ≤ (if _ then (1 : Int) else 0); split <;> decide)
        rw [w32_b (by omega) (by omega), w32_r h2, ix_nat (k := x) (by omega)]
        exact ⟨fun e => ⟨inb_b (by omega) (by omega) (by decide), ht x hx g e⟩, fun e => nxt (fun _ => e)⟩
      · intro y hy ihy
        have hs : sumA (fun y => if (I r_actBook y = bk ∧ I r_actKind y ≤ 1 ∧ I r_actTold y ≤ viewR I) ∧ (I r_actWeek y < I r_actWeek x ∨ (I r_actWeek y = I r_actWeek x ∧ y < x)) then (1 : Int) else 0) (y + 1) = sumA (fun y => if (I r_actBook y = bk ∧ I r_actKind y ≤ 1 ∧ I r_actTold y ≤ viewR I) ∧ (I r_actWeek y < I r_actWeek x ∨ (I r_actWeek y = I r_actWeek x ∧ y < x)) then (1 : Int) else 0) y + (if (I r_actBook y = bk ∧ I r_actKind y ≤ 1 ∧ I r_actTold y ≤ viewR I) ∧ (I r_actWeek y < I r_actWeek x ∨ (I r_actWeek y = I r_actWeek x ∧ y < x)) then (1 : Int) else 0) := rfl
        rw [hs] at ihy
        generalize sumA (fun y => if (I r_actBook y = bk ∧ I r_actKind y ≤ 1 ∧ I r_actTold y ≤ viewR I) ∧ (I r_actWeek y < I r_actWeek x ∨ (I r_actWeek y = I r_actWeek x ∧ y < x)) then (1 : Int) else 0) y = a at ihy ⊢
        have yes : (I r_actBook y = bk ∧ I r_actKind y ≤ 1 ∧ I r_actTold y ≤ viewR I) ∧ (I r_actWeek y < I r_actWeek x ∨ (I r_actWeek y = I r_actWeek x ∧ y < x)) → R_had_k45 G S I bk k (x : Int) (a + 1) ((y : Int) + 1) R := fun q => by rw [if_pos q] at ihy; exact ihy
        have no : ¬ ((I r_actBook y = bk ∧ I r_actKind y ≤ 1 ∧ I r_actTold y ≤ viewR I) ∧ (I r_actWeek y < I r_actWeek x ∨ (I r_actWeek y = I r_actWeek x ∧ y < x))) → R_had_k45 G S I bk k (x : Int) (a + 0) ((y : Int) + 1) R := fun q => by rw [if_neg q] at ihy; exact ihy
        refine b_R_had_k45 hS ?_
        rw [ca.1, w32_nat (k := nA I) (by omega), w32_nat (k := y) (by omega)]
        refine ⟨fun e => absurd e (by omega), fun _ => s_R_gives hS hI.okR rfl (by omega) h1 (fun gy => br1 ?_) (fun gy => br0 (no (fun q => gy q.1)))⟩
        rw [ix_nat (k := y) (by omega), ix_nat (k := x) (by omega), hI.okR.w _ (by decide) (by decide), hI.okR.w _ (by decide) (by decide), w32_nat (k := x) (by omega)]
        exact ⟨inb_b (by omega) (by omega) (by decide), inb_b (by omega) (by omega) (by decide), fun e => yes ⟨gy, Or.inl e⟩, fun e => ⟨inb_b (by omega) (by omega) (by decide), inb_b (by omega) (by omega) (by decide), fun e2 => ⟨fun e3 => no (fun q => by omega), fun e3 => yes ⟨gy, Or.inr ⟨e2, by omega⟩⟩⟩, fun e2 => no (fun q => by omega)⟩⟩
    exact key 0 (Nat.zero_le _)
theorem t_had {v1 v2 : Int} {R : Int → Int → XI → Prop} (hS : xSh S) (hI : Rel S I) (a1 : InR v1) (a2 : InR v2) (h : ∀ r J, Rel S J → R r r J) : H_had G S I v1 v2 (fun r I1 => R_had G S I1 v1 v2 (fun r' J => R r r' J)) := by
  have cb := nB_c hI.good
  have ca := nA_c hI.good
  have hl := limC_in hI.good
  have p := hI.pl
  refine b_H_had hS (s_Sh_hasBook hS hI a1 (fun b1 b2 => br1 (s_H_limit hS hI.1 (s_Sh_holderInRow hS hI.okC ((pl_acts p).trans ca.1) ca.2 a1 a2 ⟨by omega, by omega⟩ ?_))) (fun n => br0 ?_))
  · refine b_R_had hS (fun J e => ?_)
    obtain ⟨hJ, ht, -⟩ := hI.code e
    refine s_R_isBook hS (ht r_books (by decide) (by decide) ▸ rfl) (by omega) a1 (fun _ _ => br1 ?_) (fun n => absurd ⟨b1, b2⟩ n)
    have ew : qW (fun w i => I c_shelf_actWeeks i = (w : Int) ∧ (I c_shelf_actBooks i = v1 ∧ I c_shelf_actKinds i ≤ 1 ∧ I c_shelf_actTold i ≤ limC I)) v2 (nA I) 100 100 0 = qW (fun w i => J r_actWeek i = (w : Int) ∧ (J r_actBook i = v1 ∧ J r_actKind i ≤ 1 ∧ J r_actTold i ≤ viewR J)) v2 (nA J) 100 100 0 := by
      rw [tf_nA ht]
      refine qW_cong (fun w i hi => ?_) _ _
      show (_ ∧ _) ↔ (_ ∧ _)
      rw [tf_view ht, ht r_actWeek (by decide) (by decide), ht r_actBook (by decide) (by decide), ht r_actKind (by decide) (by decide), ht r_actTold (by decide) (by decide), pl_actWeek p i (by omega), pl_actBook p i (by omega), pl_actKind p i (by omega), pl_actTold p i (by omega), hI.1.le i hi]
    rw [ew]
    have gJ := hJ.good.2.2.2.2.2.2.1.2
    have caJ := nA_c hJ.good
    have hnow := hJ.good.1.1
    have hw : ∀ j, j < nA J → 0 ≤ J r_actWeek j ∧ J r_actWeek j ≤ 99 := fun j hj => by have := (gJ j (by omega)).2.2.2.2.1; omega
    have hr := qW_rk (P := fun i => J r_actBook i = v1 ∧ J r_actKind i ≤ 1 ∧ J r_actTold i ≤ viewR J) (W := J r_actWeek) (n := nA J) (k := v2) 100 (Nat.le_refl _)
    rw [show ((100 - 100 : Nat) : Int) = 0 from rfl, rkC_0 (fun j hj => (hw j hj).1)] at hr
    generalize qW (fun w i => J r_actWeek i = (w : Int) ∧ (J r_actBook i = v1 ∧ J r_actKind i ≤ 1 ∧ J r_actTold i ≤ viewR J)) v2 (nA J) 100 100 0 = z at hr
    refine s_R_had hS hJ a1 a2 (fun x hx px hk => ?_) (fun hno => ?_)
    · rcases hr with ⟨i, hi, hz, pi, hki⟩ | ⟨hz, hno⟩
      · have : i = x := rk_uniq (P := fun i => J r_actBook i = v1 ∧ J r_actKind i ≤ 1 ∧ J r_actTold i ≤ viewR J) hi hx pi px (hki.trans hk.symm)
        subst this
        have hx' : i < nA I := by rw [← tf_nA ht]; exact hi
        rw [hz, if_neg (by omega), Int.toNat_natCast, pl_actCamp p i (by omega), ht r_actCamp (by decide) (by decide)]
        exact h _ _ hJ
      · exact absurd hk (hno x hx px (hw x hx).1 (hw x hx).2)
    · rcases hr with ⟨i, hi, hz, pi, hki⟩ | ⟨hz, -⟩
      · exact absurd hki (hno i hi pi)
      · rw [if_pos hz]; exact h _ _ hJ
  · refine b_R_had hS (fun J e => ?_)
    obtain ⟨hJ, ht, -⟩ := hI.code e
    exact s_R_isBook hS (ht r_books (by decide) (by decide) ▸ rfl) (by omega) a1 (fun b1 b2 => absurd ⟨b1, b2⟩ n) (fun _ => br0 (h _ _ hJ))
end PH
