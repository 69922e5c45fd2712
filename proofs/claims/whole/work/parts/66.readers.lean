/-! ===== READERS, GIVER ===== -/
def anyK (P : Nat → Prop) [DecidablePred P] : Nat → Int
  | 0 => 0
  | n + 1 => if anyK P n = 1 then 1 else if P n then 1 else 0
theorem anyK_01 {P : Nat → Prop} [DecidablePred P] : ∀ n, anyK P n = 0 ∨ anyK P n = 1
  | 0 => Or.inl rfl
  | n + 1 => by
    rw [anyK]; split
    · exact Or.inr rfl
    · split
      · exact Or.inr rfl
      · exact Or.inl rfl
theorem anyK_ex {P : Nat → Prop} [DecidablePred P] : ∀ n, anyK P n = 1 ↔ ∃ b, b < n ∧ P b
  | 0 => ⟨fun e => absurd e (show ¬ (0 : Int) = 1 by decide), fun ⟨b, hb, _⟩ => absurd hb (by omega)⟩
  | n + 1 => by
    have ih := anyK_ex (P := P) n
    rw [anyK]
    by_cases c : anyK P n = 1
    · rw [if_pos c]
      obtain ⟨b, h1, h2⟩ := ih.mp c
      exact ⟨fun _ => ⟨b, by omega, h2⟩, fun _ => rfl⟩
    · rw [if_neg c]
      by_cases p : P n
      · rw [if_pos p]; exact ⟨fun _ => ⟨n, by omega, p⟩, fun _ => rfl⟩
      · rw [if_neg p]
        refine ⟨fun e => absurd e (by decide), fun ⟨b, h1, h2⟩ => ?_⟩
        by_cases e : b = n
        · subst e; exact absurd h2 p
        · exact absurd (ih.mpr ⟨b, by omega, h2⟩) c
/-- how many BOOKS of LEVEL l or more a READER read -/
abbrev bkF (I : XI) (x : Nat) (l : Int) : Nat → Int := fun b => if bitI (I r_readerBooks x) b = 1 ∧ l ≤ I r_bookLevel b then 1 else 0
def lvS (c : Int → Int) : Nat → Int
  | 0 => 0
  | l + 1 => if ((l + 1 : Nat) : Int) ≤ c ((l + 1 : Nat) : Int) then ((l + 1 : Nat) : Int) else lvS c l
theorem lvS_in (c : Int → Int) : ∀ l : Nat, 0 ≤ lvS c l ∧ lvS c l ≤ l
  | 0 => ⟨Int.le_refl _, Int.le_refl _⟩
  | l + 1 => by
    have := lvS_in c l
    rw [lvS]; split <;> omega
abbrev lvR (I : XI) (x : Nat) : Int := lvS (fun l => sumA (bkF I x l) (nB I)) 9
abbrev rdK (I : XI) (kd : Int) : Int := sumA (fun r => anyK (fun b => bitI (I r_readerBooks r) b = 1 ∧ I r_bookKind b = kd) (nB I)) (nR I)
/-- NEXT, and how far from what is wanted -/
def nxS (cand : Nat → Prop) [DecidablePred cand] (ap : Nat → Int) : Nat → Int × Int
  | 0 => (-1, 11)
  | k + 1 => if cand k ∧ ap k < (nxS cand ap k).2 then ((k : Int), ap k) else nxS cand ap k
theorem nxS_in {cand : Nat → Prop} [DecidablePred cand] {ap : Nat → Int} : ∀ k : Nat, (∀ j, j < k → 0 ≤ ap j ∧ ap j ≤ 10) → (-1 ≤ (nxS cand ap k).1 ∧ (nxS cand ap k).1 < k) ∧ (0 ≤ (nxS cand ap k).2 ∧ (nxS cand ap k).2 ≤ 11) ∧ ((nxS cand ap k).1 = -1 → (nxS cand ap k).2 = 11)
  | 0, _ => by show (-1 ≤ (-1 : Int) ∧ (-1 : Int) < ((0 : Nat) : Int)) ∧ (0 ≤ (11 : Int) ∧ (11 : Int) ≤ 11) ∧ ((-1 : Int) = -1 → (11 : Int) = 11); decide
  | k + 1, h => by
    have ih := nxS_in (cand := cand) k (fun j hj => h j (by omega))
    have hk := h k (by omega)
    rw [nxS]; split
    · exact ⟨⟨by show (-1 : Int) ≤ k; omega, by show (k : Int) < (k + 1 : Nat); omega⟩, ⟨by show 0 ≤ ap k; omega, by show ap k ≤ 11; omega⟩, fun e => by have e' : (k : Int) = -1 := e; omega⟩
    · exact ⟨by omega, by omega, ih.2.2⟩
def gvS (f : Nat → Int) : Nat → Int × Int
  | 0 => (0, -1)
  | k + 1 => if f k = 1 ∨ f k = 2 then ((gvS f k).1 + 1, (gvS f k).2) else if 2 < f k ∧ ((gvS f k).2 = -1 ∨ f k < f (gvS f k).2.toNat) then ((gvS f k).1, (k : Int)) else gvS f k
theorem gvS_in (f : Nat → Int) : ∀ k : Nat, (0 ≤ (gvS f k).1 ∧ (gvS f k).1 ≤ k) ∧ -1 ≤ (gvS f k).2 ∧ (gvS f k).2 < k
  | 0 => by show (0 ≤ (0 : Int) ∧ (0 : Int) ≤ ((0 : Nat) : Int)) ∧ -1 ≤ (-1 : Int) ∧ (-1 : Int) < ((0 : Nat) : Int); decide
  | k + 1 => by
    have ih := gvS_in f k
    rw [gvS]; split
    · exact ⟨⟨by show 0 ≤ (gvS f k).1 + 1; omega, by show (gvS f k).1 + 1 ≤ (k + 1 : Nat); omega⟩, by show -1 ≤ (gvS f k).2; omega, by show (gvS f k).2 < (k + 1 : Nat); omega⟩
    · split
      · exact ⟨⟨by show 0 ≤ (gvS f k).1; omega, by show (gvS f k).1 ≤ (k + 1 : Nat); omega⟩, by show (-1 : Int) ≤ k; omega, by show (k : Int) < (k + 1 : Nat); omega⟩
      · omega
section PRe
variable {G : XG} {S : XS} {I : XI}
theorem Rel.rb (h : Rel S I) {x : Nat} (hx : x < nR I) : (0 ≤ I r_readerBooks x ∧ I r_readerBooks x < 16777216) ∧ I c_readers_books x = I r_readerBooks x := by
  have c := nR_c h.good
  exact ⟨(h.good.2.2.2.2.2.2.2.2.2 x (by omega)).2, pl_readerBooks h.pl x (by omega)⟩
theorem s_Re_hasRead {v1 v2 : Int} {x b : Nat} {R : Int → XI → Prop} (hS : xSh S) (h : Rel S I) (h1 : v1 = (x : Int)) (hx : x < nR I) (h2 : v2 = (b : Int)) (hb : b < 24) (ht : bitI (I r_readerBooks x) b = 1 → R 1 I) (hf : bitI (I r_readerBooks x) b = 0 → R 0 I) : Re_hasRead G S I v1 v2 R := by
  subst h1; subst h2
  have c := nR_c h.good
  obtain ⟨r1, r2⟩ := h.rb hx
  obtain ⟨e1, e2⟩ := bit_read (w := I r_readerBooks x) (k := b) r1.1 (by omega) (by omega)
  refine b_Re_hasRead hS ⟨inb_b (by omega) (by omega) (by decide), ?_⟩
  rw [ix_nat (by omega), r2, e1, show w32 1 = 1 from rfl, w32_b (by omega) (by omega)]
  exact ⟨ht, fun n => hf (by omega)⟩
theorem s_R_hasRead {v1 v2 : Int} {x b : Nat} {R : Int → XI → Prop} (hS : xSh S) (h : Rel S I) (h1 : v1 = (x : Int)) (hx : x < nR I) (h2 : v2 = (b : Int)) (hb : b < 24) (ht : bitI (I r_readerBooks x) b = 1 → R 1 I) (hf : bitI (I r_readerBooks x) b = 0 → R 0 I) : R_hasRead G S I v1 v2 R := by
  subst h1; subst h2
  have c := nR_c h.good
  obtain ⟨r1, r2⟩ := h.rb hx
  obtain ⟨e1, e2⟩ := bit_read (w := I r_readerBooks x) (k := b) r1.1 (by omega) (by omega)
  refine b_R_hasRead hS ⟨inb_b (by omega) (by omega) (by decide), ?_⟩
  rw [ix_nat (by omega), e1, w32_b (by omega) (by omega)]
  exact ⟨hf, fun n => ht (by omega)⟩
theorem bk_in (I : XI) (x : Nat) (l : Int) (n : Nat) : 0 ≤ sumA (bkF I x l) n ∧ sumA (bkF I x l) n ≤ n :=
  ⟨sumA_nn (fun j _ => by show (0 : Int) ≤ (if _ then (1 : Int) else 0); split <;> decide), sumA_le1 (fun j _ => by show (if _ then (1 : Int) else 0) ≤ (1 : Int); split <;> decide)⟩
theorem s_Re_booksFrom {v1 v3 : Int} {x : Nat} {R : Int → XI → Prop} (hS : xSh S) (h : Rel S I) (h1 : v1 = (x : Int)) (hx : x < nR I) (h3 : 0 ≤ v3 ∧ v3 ≤ 9) (hk : R (sumA (bkF I x v3) (nB I)) I) : Re_booksFrom G S I v1 v3 R := by
  subst h1
  have cb := nB_c h.good
  refine b_Re_booksFrom hS ?_
  refine down (n := nB I) (P := fun k => Re_booksFrom_k6 G S I (x : Int) v3 (sumA (bkF I x v3) k) (k : Int) R) ?_ ?_ 0 (Nat.zero_le _)
  · exact b_Re_booksFrom_k6 hS ⟨fun _ => hk, fun e => absurd (by rw [pl_books h.pl, cb.1]; exact Int.le_refl _) e⟩
  · intro k hk' ih
    have hs : sumA (bkF I x v3) (k + 1) = sumA (bkF I x v3) k + (if bitI (I r_readerBooks x) k = 1 ∧ v3 ≤ I r_bookLevel k then 1 else 0) := rfl
    rw [hs] at ih
    have gl := (h.good.2.2.2.2.2.1.2 k (by omega)).2.2.1
    refine b_Re_booksFrom_k6 hS ?_
    rw [pl_books h.pl, cb.1, w32_nat (k := nB I) (by omega), w32_nat (k := k) (by omega)]
    refine ⟨fun e => absurd e (by omega), fun _ => s_Re_hasRead hS h rfl hx rfl (by omega) (fun b => br1 ⟨inb_b (by omega) (by omega) (by decide), ?_⟩) (fun b => br0 ?_)⟩
    · rw [ix_nat (by omega), pl_bookLevel h.pl k (by omega), w32_b (by omega) (by omega), w32_b (z := v3) (by omega) (by omega)]
      refine ⟨fun e => ?_, fun e => ?_⟩
      · rw [if_neg (by omega), Int.add_zero] at ih; exact ih
      · rw [if_pos (by omega)] at ih; exact ih
    · rw [if_neg (by omega), Int.add_zero] at ih; exact ih
theorem s_Re_levelOf {v1 : Int} {x : Nat} {R : Int → XI → Prop} (hS : xSh S) (h : Rel S I) (h1 : v1 = (x : Int)) (hx : x < nR I) (hk : R (lvR I x) I) : Re_levelOf G S I v1 R := by
  subst h1
  have cb := nB_c h.good
  refine b_Re_levelOf hS ?_
  have key : ∀ l : Nat, l ≤ 9 → R (lvS (fun l => sumA (bkF I x l) (nB I)) l) I → Re_levelOf_k3 G S I (x : Int) (l : Int) R := by
    intro l
    induction l with
    | zero => intro _ hr; exact b_Re_levelOf_k3 hS ⟨fun _ => hr, fun e => absurd (by decide) e⟩
    | succ l ih =>
      intro hl hr
      rw [lvS] at hr
      refine b_Re_levelOf_k3 hS ⟨fun e => absurd e (by rw [w32_nat (by omega)]; omega), fun _ => s_Re_booksFrom hS h rfl hx (by omega) ?_⟩
      have bi := bk_in I x ((l + 1 : Nat) : Int) (nB I)
      rw [w32_b (z := sumA (bkF I x ((l + 1 : Nat) : Int)) (nB I)) (by omega) (by omega), w32_nat (by omega)]
      refine ⟨fun e => ?_, fun e => ?_⟩
      · rw [if_neg (by omega)] at hr
        have := ih (by omega) hr
        rw [show ((l + 1 : Nat) : Int) + -1 = (l : Int) by omega]; exact this
      · rw [if_pos (by omega)] at hr; exact hr
  exact key 9 (Nat.le_refl _) hk
theorem s_R_levelOf {v1 : Int} {x : Nat} {R : Int → XI → Prop} (hS : xSh S) (h : Rel S I) (h1 : v1 = (x : Int)) (hx : x < nR I) (hk : R (lvR I x) I) : R_levelOf G S I v1 R := by
  subst h1
  have cb := nB_c h.good
  refine b_R_levelOf hS ?_
  refine down (n := 9) (P := fun l => R_levelOf_k4 G S I (x : Int) (lvS (fun l => sumA (bkF I x l) (nB I)) l) ((l : Int) + 1) R) ?_ ?_ 0 (Nat.zero_le _)
  · exact b_R_levelOf_k4 hS ⟨fun _ => hk, fun e => absurd (by decide) e⟩
  · intro l hl ih
    rw [lvS] at ih
    have el : ((l : Int) + 1) = ((l + 1 : Nat) : Int) := rfl
    refine b_R_levelOf_k4 hS ⟨fun e => absurd e (by rw [el, w32_nat (by omega), show w32 9 = 9 from rfl]; omega), fun _ => ?_⟩
    rw [el]
    refine down (n := nB I) (P := fun k => R_levelOf_k16 G S I (x : Int) (lvS (fun l => sumA (bkF I x l) (nB I)) l) ((l + 1 : Nat) : Int) (sumA (bkF I x ((l + 1 : Nat) : Int)) k) (k : Int) R) ?_ ?_ 0 (Nat.zero_le _)
    · refine b_R_levelOf_k16 hS ⟨fun _ => ?_, fun e => absurd (by rw [cb.1]; exact Int.le_refl _) e⟩
      have bi := bk_in I x ((l + 1 : Nat) : Int) (nB I)
      rw [w32_b (z := sumA (bkF I x ((l + 1 : Nat) : Int)) (nB I)) (by omega) (by omega), w32_nat (k := l + 1) (by omega)]
      refine ⟨fun e => ?_, fun e => ?_⟩
      · rw [if_neg (by omega)] at ih; exact ih
      · rw [if_pos (by omega)] at ih; exact ih
    · intro k hk' ihk
      have hs : sumA (bkF I x ((l + 1 : Nat) : Int)) (k + 1) = sumA (bkF I x ((l + 1 : Nat) : Int)) k + (if bitI (I r_readerBooks x) k = 1 ∧ ((l + 1 : Nat) : Int) ≤ I r_bookLevel k then 1 else 0) := rfl
      rw [hs] at ihk
      have gl := (h.good.2.2.2.2.2.1.2 k (by omega)).2.2.1
      refine b_R_levelOf_k16 hS ?_
      rw [cb.1, w32_nat (k := nB I) (by omega), w32_nat (k := k) (by omega)]
      refine ⟨fun e => absurd e (by omega), fun _ => s_R_hasRead hS h rfl hx rfl (by omega) (fun b => br1 ⟨inb_b (by omega) (by omega) (by decide), ?_⟩) (fun b => br0 ?_)⟩
      · rw [ix_nat (by omega), w32_b (by omega) (by omega), w32_nat (k := l + 1) (by omega)]
        refine ⟨fun e => ?_, fun e => ?_⟩
        · rw [if_neg (by omega)] at ihk; exact ihk
        · rw [if_pos (by omega)] at ihk; exact ihk
      · rw [if_neg (by omega)] at ihk; exact ihk
abbrev ndC (I : XI) (x : Nat) : Nat → Prop := fun b => I r_bookTongue b = I r_campTongue (I r_readerCamp x).toNat ∧ ¬ bitI (I r_readerBooks x) b = 1 ∧ whoR I (nA I) b (I r_now 0) (viewR I) = -1
abbrev ndA (I : XI) (x : Nat) : Nat → Int := fun b => if I r_bookLevel b < lvR I x + 1 then lvR I x + 1 - I r_bookLevel b else I r_bookLevel b - (lvR I x + 1)
theorem ndA_in (h : Rel S I) (x : Nat) {b : Nat} (hb : b < nB I) : 0 ≤ ndA I x b ∧ ndA I x b ≤ 10 := by
  have cb := nB_c h.good
  have gl := (h.good.2.2.2.2.2.1.2 b (by omega)).2.2.1
  have lv : 0 ≤ lvR I x ∧ lvR I x ≤ 9 := lvS_in (fun l => sumA (bkF I x l) (nB I)) 9
  unfold ndA
  split <;> omega
end PRe
