/-! ===== printed by wip/gen92.py: the reference's copy ===== -/
/-- the first k places of row s of cell a stand in its row t -/
def cpK (I : XI) (a w s t k : Nat) : XI := fun b j => if b = a ∧ w * t ≤ j ∧ j < w * t + k then I a (w * s + (j - w * t)) else I b j
theorem cpK_0 (I : XI) (a w s t : Nat) : cpK I a w s t 0 = I := by
  funext b j
  unfold cpK
  rw [if_neg (fun q => by have := q.2; omega)]
theorem row_apart {w s t : Nat} (h : s ≠ t) : w * s + w ≤ w * t ∨ w * t + w ≤ w * s := by
  rcases Nat.lt_or_gt_of_ne h with q | q
  · left; exact Nat.mul_le_mul_left w q
  · right; exact Nat.mul_le_mul_left w q
theorem cpK_src {I : XI} {a w s t k j : Nat} (h : s ≠ t) (hk : k ≤ w) (hj : j < w) : cpK I a w s t k a (w * s + j) = I a (w * s + j) := by
  unfold cpK
  have x := row_apart (w := w) h
  rw [if_neg (fun q => by have := q.2; omega)]
theorem cpK_up (I : XI) (a w s t k : Nat) : up (cpK I a w s t k) a (w * t + k) (I a (w * s + k)) = cpK I a w s t (k + 1) := by
  funext b j
  unfold up cpK
  by_cases e : b = a
  · subst e
    by_cases f : j = w * t + k
    · subst f
      rw [if_pos rfl, if_pos rfl, if_pos ⟨rfl, by omega, by omega⟩, show w * t + k - w * t = k by omega]
    · rw [if_pos rfl, if_neg f]
      by_cases g : w * t ≤ j ∧ j < w * t + k
      · rw [if_pos ⟨rfl, g.1, g.2⟩, if_pos ⟨rfl, g.1, by omega⟩]
      · rw [if_neg (fun q => g ⟨q.2.1, q.2.2⟩), if_neg (fun q => g ⟨q.2.1, by have := q.2.2; omega⟩)]
  · rw [if_neg e, if_neg (fun q => e q.1), if_neg (fun q => e q.1)]
/-- the rows ahead of r are copied -/
def cpU (I : XI) (s t r : Nat) : XI := fun b j => if (77 < b ∧ b < r) ∧ wid b * t ≤ j ∧ j < wid b * t + wid b then I b (wid b * s + (j - wid b * t)) else I b j
theorem cpU_step {I : XI} {s t a : Nat} (h : 77 < a) : cpK (cpU I s t a) a (wid a) s t (wid a) = cpU I s t (a + 1) := by
  have e0 : ∀ j, cpU I s t a a j = I a j := fun j => by unfold cpU; rw [if_neg (fun q => by have := q.1.2; omega)]
  funext b j
  unfold cpK
  by_cases e : b = a
  · subst e
    by_cases g : wid b * t ≤ j ∧ j < wid b * t + wid b
    · rw [if_pos ⟨rfl, g.1, g.2⟩, e0]
      unfold cpU
      rw [if_pos ⟨⟨h, by omega⟩, g.1, g.2⟩]
    · rw [if_neg (fun q => g q.2), e0]
      unfold cpU
      rw [if_neg (fun q => g q.2)]
  · rw [if_neg (fun q => e q.1)]
    unfold cpU
    by_cases g : (77 < b ∧ b < a) ∧ wid b * t ≤ j ∧ j < wid b * t + wid b
    · rw [if_pos g, if_pos ⟨⟨g.1.1, by omega⟩, g.2⟩]
    · rw [if_neg g, if_neg (fun q => g ⟨⟨q.1.1, by have := q.1.2; omega⟩, q.2⟩)]
section PCo
variable {G : XG} {S : XS} {I : XI}
theorem s_R_move {a w s t n : Nat} {wi si ti : Int} {R : XI → Prop} (hS : xSh S) (hN : a < S.1) (hT : xtag S a = 13) (hl : xlen S a = n) (hw : wi = (w : Int)) (hs : si = (s : Int)) (ht : ti = (t : Int)) (hst : s ≠ t) (h1 : w * s + w ≤ n) (h2 : w * t + w ≤ n) (hn : n < 100000) (h : R (cpK I a w s t w)) : R_move G S I a wi si ti R := by
  subst hw; subst hs; subst ht
  have key : ∀ m k, k + m = w → R_move_k3 G S (cpK I a w s t k) a (w : Int) (s : Int) (t : Int) (k : Int) R := by
    intro m
    induction m with
    | zero =>
      intro k e
      have e' : k = w := by omega
      subst e'
      refine b_R_move_k3 hS hN hT ⟨fun _ => h, fun q => absurd (Int.le_refl _) q⟩
    | succ m ih =>
      intro k e
      have c1 : (w : Int) * (s : Int) + (k : Int) = ((w * s + k : Nat) : Int) := by rw [Int.natCast_add, Int.natCast_mul]
      have c2 : (w : Int) * (t : Int) + (k : Int) = ((w * t + k : Nat) : Int) := by rw [Int.natCast_add, Int.natCast_mul]
      refine b_R_move_k3 hS hN hT ?_
      rw [c1, c2, hl, w32_nat (k := w) (by omega), w32_nat (k := k) (by omega), ix_nat (k := w * s + k) (by omega), ix_nat (k := w * t + k) (by omega), cpK_src hst (by omega) (by omega), cpK_up]
      exact ⟨fun q => absurd q (by omega), fun _ => ⟨inb_b (by omega) (by omega) (by omega), inb_b (by omega) (by omega) (by omega), fun I1 e1 => by rw [e1]; exact ih (k + 1) (by omega)⟩⟩
  have k0 := key w 0 (by omega)
  rw [cpK_0] at k0
  exact b_R_move hS hN hT k0
theorem s_R_moveFlags {a w s t n : Nat} {wi si ti : Int} {R : XI → Prop} (hS : xSh S) (hN : a < S.1) (hT : xtag S a = 15) (hl : xlen S a = n) (hw : wi = (w : Int)) (hs : si = (s : Int)) (ht : ti = (t : Int)) (hst : s ≠ t) (h1 : w * s + w ≤ n) (h2 : w * t + w ≤ n) (hn : n < 100000) (hf : ∀ j, j < w → I a (w * s + j) = 0 ∨ I a (w * s + j) = 1) (h : R (cpK I a w s t w)) : R_moveFlags G S I a wi si ti R := by
  subst hw; subst hs; subst ht
  have key : ∀ m k, k + m = w → R_moveFlags_k3 G S (cpK I a w s t k) a (w : Int) (s : Int) (t : Int) (k : Int) R := by
    intro m
    induction m with
    | zero =>
      intro k e
      have e' : k = w := by omega
      subst e'
      refine b_R_moveFlags_k3 hS hN hT ⟨fun _ => h, fun q => absurd (Int.le_refl _) q⟩
    | succ m ih =>
      intro k e
      have c1 : (w : Int) * (s : Int) + (k : Int) = ((w * s + k : Nat) : Int) := by rw [Int.natCast_add, Int.natCast_mul]
      have c2 : (w : Int) * (t : Int) + (k : Int) = ((w * t + k : Nat) : Int) := by rw [Int.natCast_add, Int.natCast_mul]
      refine b_R_moveFlags_k3 hS hN hT ?_
      rw [c1, c2, hl, w32_nat (k := w) (by omega), w32_nat (k := k) (by omega), ix_nat (k := w * s + k) (by omega), ix_nat (k := w * t + k) (by omega), cpK_src hst (by omega) (by omega), cpK_up]
      exact ⟨fun q => absurd q (by omega), fun _ => ⟨inb_b (by omega) (by omega) (by omega), hf k (by omega), inb_b (by omega) (by omega) (by omega), fun I1 e1 => by rw [e1]; exact ih (k + 1) (by omega)⟩⟩
  have k0 := key w 0 (by omega)
  rw [cpK_0] at k0
  exact b_R_moveFlags hS hN hT k0
theorem row_in {w s : Nat} (h : s ≤ 3) : w * s + w ≤ 4 * w := by
  have : w * s ≤ w * 3 := Nat.mul_le_mul_left w h
  omega
theorem s_mvU {a s t : Nat} {wi si ti : Int} {R : XI → Prop} (hS : xSh S) (h77 : 77 < a) (hN : a < S.1) (hT : xtag S a = 13) (hl : xlen S a = 4 * wid a) (hw : wi = (wid a : Int)) (hs : si = (s : Int)) (ht : ti = (t : Int)) (hst : s ≠ t) (s3 : s ≤ 3) (t3 : t ≤ 3) (hn : wid a < 20000) (h : R (cpU I s t (a + 1))) : R_move G S (cpU I s t a) a wi si ti R :=
  s_R_move hS hN hT hl hw hs ht hst (row_in s3) (row_in t3) (by omega) (by rw [cpU_step h77]; exact h)
theorem s_mfU {a s t : Nat} {wi si ti : Int} {R : XI → Prop} (hS : xSh S) (h77 : 77 < a) (hN : a < S.1) (hT : xtag S a = 15) (hl : xlen S a = 4 * wid a) (hw : wi = (wid a : Int)) (hs : si = (s : Int)) (ht : ti = (t : Int)) (hst : s ≠ t) (s3 : s ≤ 3) (t3 : t ≤ 3) (hn : wid a < 20000) (hf : ∀ j, j < wid a → I a (wid a * s + j) = 0 ∨ I a (wid a * s + j) = 1) (h : R (cpU I s t (a + 1))) : R_moveFlags G S (cpU I s t a) a wi si ti R :=
  s_R_moveFlags hS hN hT hl hw hs ht hst (row_in s3) (row_in t3) (by omega) (fun j hj => by
    have e0 : ∀ j, cpU I s t a a j = I a j := fun j => by unfold cpU; rw [if_neg (fun q => by have := q.1.2; omega)]
    rw [e0]; exact hf j hj) (by rw [cpU_step h77]; exact h)

theorem s_R_copy {s t : Nat} {si ti : Int} {R : XI → Prop} (hS : xSh S) (hs : si = (s : Int)) (ht : ti = (t : Int)) (hst : s ≠ t) (s3 : s ≤ 3) (t3 : t ≤ 3) (hb : ∀ j, j < 500 → (I r_tape (500 * s + j)).bmod 256 = I r_tape (500 * s + j)) (f85 : ∀ j, j < wid r_wells → I r_wells (wid r_wells * s + j) = 0 ∨ I r_wells (wid r_wells * s + j) = 1) (f96 : ∀ j, j < wid r_dryWeek → I r_dryWeek (wid r_dryWeek * s + j) = 0 ∨ I r_dryWeek (wid r_dryWeek * s + j) = 1) (f101 : ∀ j, j < wid r_newsSeen → I r_newsSeen (wid r_newsSeen * s + j) = 0 ∨ I r_newsSeen (wid r_newsSeen * s + j) = 1) (f124 : ∀ j, j < wid r_testNot → I r_testNot (wid r_testNot * s + j) = 0 ∨ I r_testNot (wid r_testNot * s + j) = 1) (h : R (cpU I s t 129)) : R_copy G S I si ti R := by
  have all : ∀ J : XI, J = cpU I s t 79 → R_copy_k2 G S J si ti 500 R := fun J e => by
    subst e
    refine b_R_copy_k2 hS ⟨fun _ => ?_, fun q => absurd (Int.le_refl _) q⟩
    exact (s_mvU (a := r_size) hS (by decide) (sN_r_size hS) (sT_r_size hS) (sL_r_size hS) rfl hs ht hst s3 t3 (by decide)
    (s_mvU (a := r_fault) hS (by decide) (sN_r_fault hS) (sT_r_fault hS) (sL_r_fault hS) rfl hs ht hst s3 t3 (by decide)
    (s_mvU (a := r_faultPlace) hS (by decide) (sN_r_faultPlace hS) (sT_r_faultPlace hS) (sL_r_faultPlace hS) rfl hs ht hst s3 t3 (by decide)
    (s_mvU (a := r_now) hS (by decide) (sN_r_now hS) (sT_r_now hS) (sL_r_now hS) rfl hs ht hst s3 t3 (by decide)
    (s_mvU (a := r_viewed) hS (by decide) (sN_r_viewed hS) (sT_r_viewed hS) (sL_r_viewed hS) rfl hs ht hst s3 t3 (by decide)
    (s_mvU (a := r_cells) hS (by decide) (sN_r_cells hS) (sT_r_cells hS) (sL_r_cells hS) rfl hs ht hst s3 t3 (by decide)
    (s_mfU (a := r_wells) hS (by decide) (sN_r_wells hS) (sT_r_wells hS) (sL_r_wells hS) rfl hs ht hst s3 t3 (by decide) f85
    (s_mvU (a := r_ways) hS (by decide) (sN_r_ways hS) (sT_r_ways hS) (sL_r_ways hS) rfl hs ht hst s3 t3 (by decide)
    (s_mvU (a := r_camps) hS (by decide) (sN_r_camps hS) (sT_r_camps hS) (sL_r_camps hS) rfl hs ht hst s3 t3 (by decide)
    (s_mvU (a := r_campTongue) hS (by decide) (sN_r_campTongue hS) (sT_r_campTongue hS) (sL_r_campTongue hS) rfl hs ht hst s3 t3 (by decide)
    (s_mvU (a := r_campCell) hS (by decide) (sN_r_campCell hS) (sT_r_campCell hS) (sL_r_campCell hS) rfl hs ht hst s3 t3 (by decide)
    (s_mvU (a := r_campWeek) hS (by decide) (sN_r_campWeek hS) (sT_r_campWeek hS) (sL_r_campWeek hS) rfl hs ht hst s3 t3 (by decide)
    (s_mvU (a := r_grasses) hS (by decide) (sN_r_grasses hS) (sT_r_grasses hS) (sL_r_grasses hS) rfl hs ht hst s3 t3 (by decide)
    (s_mvU (a := r_grassCell) hS (by decide) (sN_r_grassCell hS) (sT_r_grassCell hS) (sL_r_grassCell hS) rfl hs ht hst s3 t3 (by decide)
    (s_mvU (a := r_grassWeek) hS (by decide) (sN_r_grassWeek hS) (sT_r_grassWeek hS) (sL_r_grassWeek hS) rfl hs ht hst s3 t3 (by decide)
    (s_mvU (a := r_grassIs) hS (by decide) (sN_r_grassIs hS) (sT_r_grassIs hS) (sL_r_grassIs hS) rfl hs ht hst s3 t3 (by decide)
    (s_mvU (a := r_grassTold) hS (by decide) (sN_r_grassTold hS) (sT_r_grassTold hS) (sL_r_grassTold hS) rfl hs ht hst s3 t3 (by decide)
    (s_mfU (a := r_dryWeek) hS (by decide) (sN_r_dryWeek hS) (sT_r_dryWeek hS) (sL_r_dryWeek hS) rfl hs ht hst s3 t3 (by decide) f96
    (s_mvU (a := r_newsMany) hS (by decide) (sN_r_newsMany hS) (sT_r_newsMany hS) (sL_r_newsMany hS) rfl hs ht hst s3 t3 (by decide)
    (s_mvU (a := r_newsCamp) hS (by decide) (sN_r_newsCamp hS) (sT_r_newsCamp hS) (sL_r_newsCamp hS) rfl hs ht hst s3 t3 (by decide)
    (s_mvU (a := r_newsCell) hS (by decide) (sN_r_newsCell hS) (sT_r_newsCell hS) (sL_r_newsCell hS) rfl hs ht hst s3 t3 (by decide)
    (s_mvU (a := r_newsWeek) hS (by decide) (sN_r_newsWeek hS) (sT_r_newsWeek hS) (sL_r_newsWeek hS) rfl hs ht hst s3 t3 (by decide)
    (s_mfU (a := r_newsSeen) hS (by decide) (sN_r_newsSeen hS) (sT_r_newsSeen hS) (sL_r_newsSeen hS) rfl hs ht hst s3 t3 (by decide) f101
    (s_mvU (a := r_newsTold) hS (by decide) (sN_r_newsTold hS) (sT_r_newsTold hS) (sL_r_newsTold hS) rfl hs ht hst s3 t3 (by decide)
    (s_mvU (a := r_books) hS (by decide) (sN_r_books hS) (sT_r_books hS) (sL_r_books hS) rfl hs ht hst s3 t3 (by decide)
    (s_mvU (a := r_bookKind) hS (by decide) (sN_r_bookKind hS) (sT_r_bookKind hS) (sL_r_bookKind hS) rfl hs ht hst s3 t3 (by decide)
    (s_mvU (a := r_bookTongue) hS (by decide) (sN_r_bookTongue hS) (sT_r_bookTongue hS) (sL_r_bookTongue hS) rfl hs ht hst s3 t3 (by decide)
    (s_mvU (a := r_bookLevel) hS (by decide) (sN_r_bookLevel hS) (sT_r_bookLevel hS) (sL_r_bookLevel hS) rfl hs ht hst s3 t3 (by decide)
    (s_mvU (a := r_bookPages) hS (by decide) (sN_r_bookPages hS) (sT_r_bookPages hS) (sL_r_bookPages hS) rfl hs ht hst s3 t3 (by decide)
    (s_mvU (a := r_bookGrams) hS (by decide) (sN_r_bookGrams hS) (sT_r_bookGrams hS) (sL_r_bookGrams hS) rfl hs ht hst s3 t3 (by decide)
    (s_mvU (a := r_acts) hS (by decide) (sN_r_acts hS) (sT_r_acts hS) (sL_r_acts hS) rfl hs ht hst s3 t3 (by decide)
    (s_mvU (a := r_actBook) hS (by decide) (sN_r_actBook hS) (sT_r_actBook hS) (sL_r_actBook hS) rfl hs ht hst s3 t3 (by decide)
    (s_mvU (a := r_actKind) hS (by decide) (sN_r_actKind hS) (sT_r_actKind hS) (sL_r_actKind hS) rfl hs ht hst s3 t3 (by decide)
    (s_mvU (a := r_actCamp) hS (by decide) (sN_r_actCamp hS) (sT_r_actCamp hS) (sL_r_actCamp hS) rfl hs ht hst s3 t3 (by decide)
    (s_mvU (a := r_actWeek) hS (by decide) (sN_r_actWeek hS) (sT_r_actWeek hS) (sL_r_actWeek hS) rfl hs ht hst s3 t3 (by decide)
    (s_mvU (a := r_actTold) hS (by decide) (sN_r_actTold hS) (sT_r_actTold hS) (sL_r_actTold hS) rfl hs ht hst s3 t3 (by decide)
    (s_mvU (a := r_actMany) hS (by decide) (sN_r_actMany hS) (sT_r_actMany hS) (sL_r_actMany hS) rfl hs ht hst s3 t3 (by decide)
    (s_mvU (a := r_actCost) hS (by decide) (sN_r_actCost hS) (sT_r_actCost hS) (sL_r_actCost hS) rfl hs ht hst s3 t3 (by decide)
    (s_mvU (a := r_lines) hS (by decide) (sN_r_lines hS) (sT_r_lines hS) (sL_r_lines hS) rfl hs ht hst s3 t3 (by decide)
    (s_mvU (a := r_lineAct) hS (by decide) (sN_r_lineAct hS) (sT_r_lineAct hS) (sL_r_lineAct hS) rfl hs ht hst s3 t3 (by decide)
    (s_mvU (a := r_lineNumber) hS (by decide) (sN_r_lineNumber hS) (sT_r_lineNumber hS) (sL_r_lineNumber hS) rfl hs ht hst s3 t3 (by decide)
    (s_mvU (a := r_lineTests) hS (by decide) (sN_r_lineTests hS) (sT_r_lineTests hS) (sL_r_lineTests hS) rfl hs ht hst s3 t3 (by decide)
    (s_mvU (a := r_testWhat) hS (by decide) (sN_r_testWhat hS) (sT_r_testWhat hS) (sL_r_testWhat hS) rfl hs ht hst s3 t3 (by decide)
    (s_mvU (a := r_testSign) hS (by decide) (sN_r_testSign hS) (sT_r_testSign hS) (sL_r_testSign hS) rfl hs ht hst s3 t3 (by decide)
    (s_mvU (a := r_testThan) hS (by decide) (sN_r_testThan hS) (sT_r_testThan hS) (sL_r_testThan hS) rfl hs ht hst s3 t3 (by decide)
    (s_mfU (a := r_testNot) hS (by decide) (sN_r_testNot hS) (sT_r_testNot hS) (sL_r_testNot hS) rfl hs ht hst s3 t3 (by decide) f124
    (s_mvU (a := r_wishes) hS (by decide) (sN_r_wishes hS) (sT_r_wishes hS) (sL_r_wishes hS) rfl hs ht hst s3 t3 (by decide)
    (s_mvU (a := r_readers) hS (by decide) (sN_r_readers hS) (sT_r_readers hS) (sL_r_readers hS) rfl hs ht hst s3 t3 (by decide)
    (s_mvU (a := r_readerCamp) hS (by decide) (sN_r_readerCamp hS) (sT_r_readerCamp hS) (sL_r_readerCamp hS) rfl hs ht hst s3 t3 (by decide)
    (s_mvU (a := r_readerBooks) hS (by decide) (sN_r_readerBooks hS) (sT_r_readerBooks hS) (sL_r_readerBooks hS) rfl hs ht hst s3 t3 (by decide)
    h))))))))))))))))))))))))))))))))))))))))))))))))))
  subst hs; subst ht
  have x := row_apart (w := 500) hst
  have key : ∀ m k, k + m = 500 → R_copy_k2 G S (cpK I r_tape 500 s t k) (s : Int) (t : Int) (k : Int) R := by
    intro m
    induction m with
    | zero =>
      intro k e
      have e' : k = 500 := by omega
      subst e'
      refine all _ ?_
      have st := cpU_step (I := I) (s := s) (t := t) (a := 78) (by decide)
      have c0 : cpU I s t 78 = I := by
        funext b j
        unfold cpU
        rw [if_neg (fun q => by have := q.1; omega)]
      rw [c0] at st
      exact st
    | succ m ih =>
      intro k e
      have c1 : 500 * (s : Int) + (k : Int) = ((500 * s + k : Nat) : Int) := by omega
      have c2 : 500 * (t : Int) + (k : Int) = ((500 * t + k : Nat) : Int) := by omega
      refine b_R_copy_k2 hS ?_
      rw [w32_nat (k := k) (by omega), show w32 500 = 500 from rfl, c1, c2, ix_nat (k := 500 * s + k) (by omega), ix_nat (k := 500 * t + k) (by omega), cpK_src hst (by omega) (by omega), hb k (by omega), cpK_up]
      exact ⟨fun q => absurd q (by omega), fun _ => ⟨inb_b (by omega) (by omega) (by decide), inb_b (by omega) (by omega) (by decide), fun I1 e1 => by rw [e1]; exact ih (k + 1) (by omega)⟩⟩
  have k0 := key 500 0 (by omega)
  rw [cpK_0] at k0
  exact b_R_copy hS k0
end PCo
