/-! ===== who has a BOOK, held, due, late, torn: class and reference against one number ===== -/
def whoA (B K C W T : Nat → Int) (bk wk lm : Int) (n : Nat) : Int := if (lastA B K W T bk 2 wk lm n).1 = -1 then -1 else C (lastA B K W T bk 2 wk lm n).1.toNat
/-- how many of the first n numbers are c -/
def cntA (f : Nat → Int) (c : Int) : Nat → Int
  | 0 => 0
  | n + 1 => if f n = c then cntA f c n + 1 else cntA f c n
/-- the WEEK in which l WEEKS that are not dry have gone by, from w on -/
def dueN (D : Nat → Int) : Nat → Int → Nat → Int
  | 0, _, _ => 100
  | f + 1, l, w => if l - (1 - D w) = 0 then (w : Int) else dueN D f (l - (1 - D w)) (w + 1)
theorem lastA_in {B K W T : Nat → Int} {bk lk wk lm : Int} : ∀ n : Nat, -1 ≤ (lastA B K W T bk lk wk lm n).1 ∧ (lastA B K W T bk lk wk lm n).1 < n
  | 0 => by simp [lastA]
  | n + 1 => by
    have := lastA_in (B := B) (K := K) (W := W) (T := T) (bk := bk) (lk := lk) (wk := wk) (lm := lm) n
    unfold lastA
    split
    · simp; omega
    · omega
theorem lastA_wk {B K W T : Nat → Int} {bk lk wk lm : Int} : ∀ n : Nat, (lastA B K W T bk lk wk lm n).2 = if (lastA B K W T bk lk wk lm n).1 = -1 then 0 else W (lastA B K W T bk lk wk lm n).1.toNat
  | 0 => by simp [lastA]
  | n + 1 => by
    have ih := lastA_wk (B := B) (K := K) (W := W) (T := T) (bk := bk) (lk := lk) (wk := wk) (lm := lm) n
    by_cases h : B n = bk ∧ K n ≤ lk ∧ T n ≤ lm ∧ W n ≤ wk ∧ (lastA B K W T bk lk wk lm n).2 ≤ W n
    · have e : lastA B K W T bk lk wk lm (n + 1) = ((n : Int), W n) := by rw [lastA, if_pos h]
      rw [e]
      simp only [Int.toNat_natCast]
      rw [if_neg (by omega)]
    · have e : lastA B K W T bk lk wk lm (n + 1) = lastA B K W T bk lk wk lm n := by rw [lastA, if_neg h]
      rw [e]; exact ih
/-- what is asked of the last ACT depends on the first n ACTS alone -/
theorem lastA_congr {B K W T B' K' W' T' : Nat → Int} {bk lk wk lm : Int} : ∀ {n : Nat}, (∀ j, j < n → B j = B' j ∧ K j = K' j ∧ W j = W' j ∧ T j = T' j) → lastA B K W T bk lk wk lm n = lastA B' K' W' T' bk lk wk lm n
  | 0, _ => rfl
  | n + 1, h => by
    have ih := lastA_congr (bk := bk) (lk := lk) (wk := wk) (lm := lm) (n := n) (fun j hj => h j (by omega))
    obtain ⟨e1, e2, e3, e4⟩ := h n (by omega)
    unfold lastA
    rw [ih, e1, e2, e3, e4]
theorem cntA_congr {f g : Nat → Int} {c : Int} : ∀ {n : Nat}, (∀ j, j < n → f j = g j) → cntA f c n = cntA g c n
  | 0, _ => rfl
  | n + 1, h => by
    unfold cntA
    rw [cntA_congr (n := n) (fun j hj => h j (by omega)), h n (by omega)]
section P2
variable {G : XG} {S : XS} {I : XI} {n : Nat}
/-! the class -/
theorem s_Sh_holder {bk wk lm : Int} {R : Int → XI → Prop} (hS : xSh S) (hI : okC I) (hn : I c_shelf 6 = (n : Int)) (hn2 : n ≤ 150) (h1 : InR bk) (h3 : InR wk) (h4 : InR lm)
    (h : R (whoA (I c_shelf_actBooks) (I c_shelf_actKinds) (I c_shelf_actCamps) (I c_shelf_actWeeks) (I c_shelf_actTold) bk wk lm n) I) : Sh_holder G S I bk wk lm R := by
  refine b_Sh_holder hS (s_Sh_lastAct hS hI hn hn2 h1 ⟨by decide, by decide⟩ h3 h4 ?_)
  unfold whoA at h
  have hin := lastA_in (B := I c_shelf_actBooks) (K := I c_shelf_actKinds) (W := I c_shelf_actWeeks) (T := I c_shelf_actTold) (bk := bk) (lk := 2) (wk := wk) (lm := lm) n
  generalize (lastA (I c_shelf_actBooks) (I c_shelf_actKinds) (I c_shelf_actWeeks) (I c_shelf_actTold) bk 2 wk lm n).1 = z at h hin ⊢
  rw [w32_b (z := z) (by omega) (by omega), show w32 (-1) = -1 from rfl]
  refine ⟨fun e => ?_, fun e => ⟨inb_b (by omega) (by omega) (by decide), ?_⟩⟩
  · rw [if_pos e] at h; exact h
  · rw [if_neg e] at h; rw [ix_b (by omega) (by omega)]; exact h
theorem whoA_InR {B K C W T : Nat → Int} {bk wk lm : Int} (hC : ∀ j, InR (C j)) : InR (whoA B K C W T bk wk lm n) := by
  unfold whoA; split
  · exact ⟨by decide, by decide⟩
  · exact hC _
theorem s_Sh_heldBy {cp wk lm : Int} {b : Nat} {R : Int → XI → Prop} (hS : xSh S) (hI : okC I) (hn : I c_shelf 6 = (n : Int)) (hn2 : n ≤ 150) (hb : I c_shelf 0 = (b : Int)) (hb2 : b ≤ 24) (h1 : InR cp) (h3 : InR wk) (h4 : InR lm)
    (h : R (cntA (fun q => whoA (I c_shelf_actBooks) (I c_shelf_actKinds) (I c_shelf_actCamps) (I c_shelf_actWeeks) (I c_shelf_actTold) q wk lm n) cp b) I) : Sh_heldBy G S I cp wk lm R := by
  refine b_Sh_heldBy hS ?_
  refine down (n := b) (P := fun k => Sh_heldBy_k6 G S I cp wk lm (cntA (fun q => whoA (I c_shelf_actBooks) (I c_shelf_actKinds) (I c_shelf_actCamps) (I c_shelf_actWeeks) (I c_shelf_actTold) q wk lm n) cp k) (k : Int) R) ?_ ?_ 0 (Nat.zero_le _)
  · exact b_Sh_heldBy_k6 hS ⟨fun _ => h, fun e => absurd (Int.le_refl _) (by rw [hb] at e; exact e)⟩
  · intro k hk ih
    refine b_Sh_heldBy_k6 hS ?_
    rw [hb, w32_nat (by omega), w32_nat (by omega)]
    refine ⟨fun e => absurd e (by omega), fun _ => s_Sh_holder hS hI hn hn2 ⟨by omega, by omega⟩ h3 h4 ?_⟩
    rw [w32_r (whoA_InR fun j => hI _ j (by decide)), w32_r h1]
    unfold cntA at ih
    exact ⟨fun e => by rw [if_pos e] at ih; exact ih, fun e => by rw [if_neg e] at ih; exact ih⟩
theorem s_Sh_dueWeek_k {l : Int} {w : Nat} {R : Int → XI → Prop} (hS : xSh S) (hd : ∀ j, j < 100 → I c_land_dry j = 0 ∨ I c_land_dry j = 1) (hl : 1 ≤ l) (hl2 : l ≤ 1000000) (hw : w ≤ 100) (h : R (dueN (I c_land_dry) (100 - w) l w) I) : Sh_dueWeek_k38 G S I l (w : Int) R := by
  obtain ⟨f, hf⟩ : ∃ f, f = 100 - w := ⟨_, rfl⟩
  rw [← hf] at h
  induction f generalizing w l with
  | zero =>
    refine b_Sh_dueWeek_k38 hS ?_
    rw [show w32 100 = 100 from rfl, w32_nat (by omega)]
    exact ⟨fun _ => h, fun e => absurd e (by omega)⟩
  | succ f ih =>
    refine b_Sh_dueWeek_k38 hS ?_
    have hd1 := hd w (by omega)
    rw [show w32 100 = 100 from rfl, w32_nat (by omega), ix_nat (by omega), w32_b (z := l - (1 - I c_land_dry w)) (by omega) (by omega)]
    unfold dueN at h
    refine ⟨fun e => absurd e (by omega), fun _ => ⟨inb_nat (by omega) (by omega), fun e => ?_, fun e => ?_⟩⟩
    · rw [if_pos e] at h; exact h
    · rw [if_neg e] at h
      exact ih (w := w + 1) (by omega) (by omega) (by omega) h (by omega)
theorem s_R_dueOf_k {l : Int} {w : Nat} {R : Int → XI → Prop} (hS : xSh S) (hd : ∀ j, j < 100 → I r_dryWeek j = 0 ∨ I r_dryWeek j = 1) (hl : 1 ≤ l) (hl2 : l ≤ 1000000) (hw : w < 100) (h : R (dueN (I r_dryWeek) (99 - w) l (w + 1)) I) : R_dueOf_k50 G S I l (w : Int) R := by
  obtain ⟨f, hf⟩ : ∃ f, f = 99 - w := ⟨_, rfl⟩
  rw [← hf] at h
  induction f generalizing w l with
  | zero =>
    have e99 : w = 99 := by omega
    subst e99
    refine b_R_dueOf_k50 hS ?_
    rw [w32_b (z := l) (by omega) (by omega)]
    refine ⟨fun e => absurd e (by omega), fun _ => ⟨fun e => absurd e (by decide), fun _ => ⟨fun _ => ?_, fun e => absurd (by decide) e⟩⟩⟩
    refine b_R_dueOf_k50 hS ?_
    rw [w32_b (z := l - 0) (by omega) (by omega)]
    exact ⟨fun e => absurd e (by omega), fun _ => ⟨fun _ => h, fun e => absurd (by decide) e⟩⟩
  | succ f ih =>
    have hd1 := hd (w + 1) (by omega)
    refine b_R_dueOf_k50 hS ?_
    have e1 : ((w : Int) + 1) = ((w + 1 : Nat) : Int) := rfl
    rw [e1, show w32 100 = 100 from rfl, w32_nat (k := w) (by omega), w32_nat (k := w + 1) (by omega), ix_nat (k := w + 1) (by omega), w32_b (z := l) (by omega) (by omega), w32_b (z := I r_dryWeek (w + 1)) (by omega) (by omega)]
    unfold dueN at h
    refine ⟨fun e => absurd e (by omega), fun _ => ⟨fun e => absurd e (by omega), fun _ => ⟨fun e => absurd e (by omega), fun _ => ⟨inb_nat (by omega) (by omega), fun e => ?_, fun e => ?_⟩⟩⟩⟩
    · rw [e] at h
      by_cases hz : l - 1 = 0
      · rw [if_pos (by omega)] at h
        refine b_R_dueOf_k50 hS ?_
        rw [w32_b (z := l - 1) (by omega) (by omega)]
        exact ⟨fun _ => h, fun e2 => absurd e2 (by omega)⟩
      · rw [if_neg (by omega)] at h
        have h' : R (dueN (I r_dryWeek) f (l - 1) (w + 1 + 1)) I := by rw [show l - 1 = l - (1 - 0) by omega]; exact h
        exact ih (w := w + 1) (l := l - 1) (by omega) (by omega) (by omega) h' (by omega)
    · have e2 : I r_dryWeek (w + 1) = 1 := by omega
      rw [e2, if_neg (by omega)] at h
      have h' : R (dueN (I r_dryWeek) f (l - 0) (w + 1 + 1)) I := by rw [show l - 0 = l - (1 - 1) by omega]; exact h
      exact ih (w := w + 1) (l := l - 0) (by omega) (by omega) (by omega) h' (by omega)
/-! the reference: kinds are 0 .. 3, WEEKS are not below 0 -/
theorem s_R_lastAct {bk wk lm q : Int} {lk : Int} {R : Int → XI → Prop} (hS : xSh S) (hI : okR I) (hn : I r_acts 0 = (n : Int)) (hn2 : n ≤ 150) (hk : ∀ j, j < n → 0 ≤ I r_actKind j ∧ I r_actKind j ≤ 3) (hw : ∀ j, j < n → 0 ≤ I r_actWeek j) (h1 : InR bk) (h3 : InR wk) (h4 : InR lm) (hq : (q = 0 ∧ lk = 2) ∨ (q = 1 ∧ lk = 0))
    (h : R (lastA (I r_actBook) (I r_actKind) (I r_actWeek) (I r_actTold) bk lk wk lm n).1 I) : R_lastAct G S I bk wk lm q R := by
  refine b_R_lastAct hS ?_
  refine down (n := n) (P := fun k => R_lastAct_k6 G S I bk wk lm q (lastA (I r_actBook) (I r_actKind) (I r_actWeek) (I r_actTold) bk lk wk lm k).1 (k : Int) R) ?_ ?_ 0 (Nat.zero_le _)
  · exact b_R_lastAct_k6 hS ⟨fun _ => h, fun e => absurd (Int.le_refl _) (by rw [hn] at e; exact e)⟩
  · intro k hkn ih
    have hin := lastA_in (B := I r_actBook) (K := I r_actKind) (W := I r_actWeek) (T := I r_actTold) (bk := bk) (lk := lk) (wk := wk) (lm := lm) k
    have hwk := lastA_wk (B := I r_actBook) (K := I r_actKind) (W := I r_actWeek) (T := I r_actTold) (bk := bk) (lk := lk) (wk := wk) (lm := lm) k
    have hk1 := hk k hkn
    have hw1 := hw k hkn
    unfold lastA at ih
    generalize hz : (lastA (I r_actBook) (I r_actKind) (I r_actWeek) (I r_actTold) bk lk wk lm k) = z at ih hin hwk ⊢
    have step : ∀ s0 : Int, (s0 = 0 ∧ ¬ I r_actKind k ≤ lk) ∨ (s0 = 1 ∧ I r_actKind k ≤ lk) → R_lastAct_k56 G S I bk wk lm q z.1 (k : Int) s0 R := by
      intro s0 hs0
      refine b_R_lastAct_k56 hS ?_
      simp (disch := first | decide | omega) only [w32_nat, ix_nat, hI.w, w32_r h1, w32_r h3, w32_r h4]
      rw [w32_b (z := z.1) (by omega) (by omega), show w32 (-1) = -1 from rfl, w32_b (z := s0) (by omega) (by omega)]
      by_cases hz1 : z.1 = -1
      · rw [if_pos hz1] at hwk
        repeat' (with_reducible first | apply And.intro | intro _)
        all_goals first | omega | exact inb_nat (by omega) (by omega) | (rw [if_pos (by omega)] at ih; exact ih) | (rw [if_neg (by omega)] at ih; exact ih)
      · rw [if_neg hz1] at hwk
        rw [ix_b (z := z.1) (by omega) (by omega)]
        repeat' (with_reducible first | apply And.intro | intro _)
        all_goals first | omega | exact inb_b (by omega) (by omega) (by omega) | (rw [if_pos (by omega)] at ih; exact ih) | (rw [if_neg (by omega)] at ih; exact ih)
    refine b_R_lastAct_k6 hS ?_
    simp (disch := first | decide | omega) only [hn, w32_nat, ix_nat, hI.w]
    rw [show w32 3 = 3 from rfl]
    rcases hq with ⟨rfl, rfl⟩ | ⟨rfl, rfl⟩
    · exact ⟨fun e => absurd e (by omega), fun _ => ⟨fun _ => ⟨inb_nat (by omega) (by omega), fun e => step 0 (by omega), fun e => step 1 (by omega)⟩, fun e => absurd rfl e⟩⟩
    · exact ⟨fun e => absurd e (by omega), fun _ => ⟨fun e => absurd e (by decide), fun _ => ⟨inb_nat (by omega) (by omega), fun e => step 1 (by omega), fun e => step 0 (by omega)⟩⟩⟩
theorem s_R_whoHas {bk wk lm : Int} {R : Int → XI → Prop} (hS : xSh S) (hI : okR I) (hn : I r_acts 0 = (n : Int)) (hn2 : n ≤ 150) (hk : ∀ j, j < n → 0 ≤ I r_actKind j ∧ I r_actKind j ≤ 3) (hw : ∀ j, j < n → 0 ≤ I r_actWeek j) (hc : ∀ j, j < n → I r_actKind j = 2 → I r_actCamp j = -1) (h1 : InR bk) (h3 : InR wk) (h4 : InR lm)
    (h : R (whoA (I r_actBook) (I r_actKind) (I r_actCamp) (I r_actWeek) (I r_actTold) bk wk lm n) I) : R_whoHas G S I bk wk lm R := by
  refine b_R_whoHas hS (s_R_lastAct (lk := 2) hS hI hn hn2 hk hw h1 h3 h4 (Or.inl ⟨rfl, rfl⟩) ?_)
  unfold whoA at h
  have hin := lastA_in (B := I r_actBook) (K := I r_actKind) (W := I r_actWeek) (T := I r_actTold) (bk := bk) (lk := 2) (wk := wk) (lm := lm) n
  generalize (lastA (I r_actBook) (I r_actKind) (I r_actWeek) (I r_actTold) bk 2 wk lm n).1 = z at h hin ⊢
  rw [w32_b (z := z) (by omega) (by omega), show w32 (-1) = -1 from rfl]
  refine ⟨fun e => ?_, fun e => ⟨inb_b (by omega) (by omega) (by decide), ?_⟩⟩
  · rw [if_pos e] at h; exact h
  · rw [if_neg e] at h
    rw [ix_b (by omega) (by omega), hI.w _ (by decide) (by decide), show w32 2 = 2 from rfl]
    refine ⟨fun e2 => ?_, fun e2 => ⟨inb_b (by omega) (by omega) (by decide), h⟩⟩
    rw [hc z.toNat (by omega) e2] at h; exact h
end P2
