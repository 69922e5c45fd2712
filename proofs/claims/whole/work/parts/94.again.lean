/-! ===== printed by wip/gen94.py: the copy of a Told; again, image ===== -/
def pce (I : XI) (a b lo n : Nat) : XI := fun x y => if x = a then (if lo ≤ y ∧ y < lo + n then I b y else I x y) else I x y
theorem up_pce (I : XI) (a b j : Nat) : up I a j (I b j) = pce I a b j 1 := by
  funext x y
  unfold up pce
  by_cases e : x = a
  · rw [if_pos e, if_pos e]
    by_cases f : y = j
    · rw [if_pos f, if_pos (by omega), f]
    · rw [if_neg f, if_neg (by omega)]
  · rw [if_neg e, if_neg e]
theorem xcpy_pce (I : XI) (a b n : Nat) : xcpy I b a 0 0 n = pce I a b 0 n := by
  funext x y
  unfold xcpy pce
  rw [show 0 + (y - 0) = y by omega]
def cpL : List (Nat × Nat × Nat) := [(1, 0, 1), (1, 1, 1), (1, 3, 1), (2, 0, 100), (3, 0, 60), (4, 0, 60), (5, 0, 60), (6, 0, 60), (7, 0, 100), (8, 0, 1), (8, 5, 1), (9, 0, 6), (10, 0, 6), (11, 0, 6), (12, 0, 48), (13, 0, 60), (14, 0, 60), (15, 0, 60), (16, 0, 60), (17, 0, 60), (18, 0, 1), (18, 6, 1), (19, 0, 24), (20, 0, 24), (21, 0, 24), (22, 0, 24), (23, 0, 24), (24, 0, 150), (25, 0, 150), (26, 0, 150), (27, 0, 150), (28, 0, 150), (29, 0, 150), (30, 0, 150), (31, 0, 1), (32, 0, 16), (33, 0, 16), (34, 0, 16), (35, 0, 64), (36, 0, 64), (37, 0, 64), (38, 0, 64), (39, 0, 1), (40, 0, 12), (41, 0, 12), (42, 0, 500), (0, 6, 1), (0, 7, 1), (0, 8, 1), (0, 9, 1), (0, 10, 1)]
/-- the first m pieces of the Told at s are laid into the Told at d -/
def cpD (I : XI) (d s : Nat) : Nat → XI
  | 0 => I
  | m + 1 => pce (cpD I d s m) (d + (cpL.getD m (0, 0, 0)).1) (s + (cpL.getD m (0, 0, 0)).1) (cpL.getD m (0, 0, 0)).2.1 (cpL.getD m (0, 0, 0)).2.2
theorem cp_f {I J J' : XI} {d s m o j : Nat} (h : J = cpD I d s m) (hm : cpL.getD m (0, 0, 0) = (o, j, 1)) (e : J' = up J (d + o) j (J (s + o) j)) : J' = cpD I d s (m + 1) := by
  rw [e, up_pce, h]
  show _ = pce (cpD I d s m) (d + (cpL.getD m (0, 0, 0)).1) (s + (cpL.getD m (0, 0, 0)).1) (cpL.getD m (0, 0, 0)).2.1 (cpL.getD m (0, 0, 0)).2.2
  rw [hm]
theorem cp_r {I J : XI} {d s m o n : Nat} (h : J = cpD I d s m) (hm : cpL.getD m (0, 0, 0) = (o, 0, n)) : pce J (d + o) (s + o) 0 n = cpD I d s (m + 1) := by
  rw [h]
  show _ = pce (cpD I d s m) (d + (cpL.getD m (0, 0, 0)).1) (s + (cpL.getD m (0, 0, 0)).1) (cpL.getD m (0, 0, 0)).2.1 (cpL.getD m (0, 0, 0)).2.2
  rw [hm]
def cov : Nat → Nat → Nat → Bool
  | 0, _, _ => false
  | m + 1, o, j => decide ((cpL.getD m (0, 0, 0)).1 = o ∧ (cpL.getD m (0, 0, 0)).2.1 ≤ j ∧ j < (cpL.getD m (0, 0, 0)).2.1 + (cpL.getD m (0, 0, 0)).2.2) || cov m o j
theorem cov_of {i o j lo n : Nat} : ∀ m, i < m → cpL.getD i (0, 0, 0) = (o, lo, n) → lo ≤ j → j < lo + n → cov m o j = true
  | 0, h, _, _, _ => absurd h (by omega)
  | m + 1, h, e, h1, h2 => by
    unfold cov
    rw [Bool.or_eq_true]
    by_cases x : i = m
    · left
      rw [← x, e]
      exact decide_eq_true ⟨rfl, h1, h2⟩
    · right
      exact cov_of m (by omega) e h1 h2
theorem cpL_lt : ∀ m, m < 51 → (cpL.getD m (0, 0, 0)).1 < 43 := by decide +kernel
theorem cpD_out {I : XI} {d s a : Nat} (h : a < d ∨ d + 43 ≤ a) : ∀ m, m ≤ 51 → cpD I d s m a = I a
  | 0, _ => rfl
  | m + 1, hm => by
    have hl := cpL_lt m (by omega)
    funext y
    show (if a = d + (cpL.getD m (0, 0, 0)).1 then _ else cpD I d s m a y) = I a y
    rw [if_neg (by omega), cpD_out h m (by omega)]
theorem cpD_in {I : XI} {d s o j : Nat} (hd : s + 43 ≤ d ∨ d + 43 ≤ s) (ho : o < 43) : ∀ m, m ≤ 51 → cov m o j = true → cpD I d s m (d + o) j = I (s + o) j
  | 0, _, h => absurd h (by unfold cov; decide)
  | m + 1, hm, h => by
    have hl := cpL_lt m (by omega)
    unfold cov at h
    show (if d + o = d + (cpL.getD m (0, 0, 0)).1 then (if (cpL.getD m (0, 0, 0)).2.1 ≤ j ∧ j < (cpL.getD m (0, 0, 0)).2.1 + (cpL.getD m (0, 0, 0)).2.2 then cpD I d s m (s + (cpL.getD m (0, 0, 0)).1) j else cpD I d s m (d + o) j) else cpD I d s m (d + o) j) = I (s + o) j
    by_cases e : (cpL.getD m (0, 0, 0)).1 = o ∧ (cpL.getD m (0, 0, 0)).2.1 ≤ j ∧ j < (cpL.getD m (0, 0, 0)).2.1 + (cpL.getD m (0, 0, 0)).2.2
    · rw [if_pos (by omega), if_pos e.2, e.1, cpD_out (by omega) m (by omega)]
    · rw [Bool.or_eq_true] at h
      have hc : cov m o j = true := by
        rcases h with h | h
        · exact absurd (of_decide_eq_true h) e
        · exact h
      have ih := cpD_in (I := I) hd ho m (by omega) hc
      by_cases f : d + o = d + (cpL.getD m (0, 0, 0)).1
      · rw [if_pos f, if_neg (fun q => e ⟨by omega, q⟩), ih]
      · rw [if_neg f, ih]
theorem cpD_or {I : XI} {d s : Nat} (hd : s + 43 ≤ d ∨ d + 43 ≤ s) : ∀ m, m ≤ 51 → ∀ o j, o < 43 → cpD I d s m (d + o) j = I (d + o) j ∨ cpD I d s m (d + o) j = I (s + o) j
  | 0, _, o, j, _ => Or.inl rfl
  | m + 1, hm, o, j, ho => by
    have hl := cpL_lt m (by omega)
    have ih := cpD_or (I := I) hd m (by omega) o j ho
    show (if d + o = d + (cpL.getD m (0, 0, 0)).1 then (if (cpL.getD m (0, 0, 0)).2.1 ≤ j ∧ j < (cpL.getD m (0, 0, 0)).2.1 + (cpL.getD m (0, 0, 0)).2.2 then cpD I d s m (s + (cpL.getD m (0, 0, 0)).1) j else cpD I d s m (d + o) j) else cpD I d s m (d + o) j) = I (d + o) j ∨ (if d + o = d + (cpL.getD m (0, 0, 0)).1 then (if (cpL.getD m (0, 0, 0)).2.1 ≤ j ∧ j < (cpL.getD m (0, 0, 0)).2.1 + (cpL.getD m (0, 0, 0)).2.2 then cpD I d s m (s + (cpL.getD m (0, 0, 0)).1) j else cpD I d s m (d + o) j) else cpD I d s m (d + o) j) = I (s + o) j
    by_cases f : d + o = d + (cpL.getD m (0, 0, 0)).1
    · rw [if_pos f]
      by_cases g : (cpL.getD m (0, 0, 0)).2.1 ≤ j ∧ j < (cpL.getD m (0, 0, 0)).2.1 + (cpL.getD m (0, 0, 0)).2.2
      · rw [if_pos g, cpD_out (by omega) m (by omega), show s + (cpL.getD m (0, 0, 0)).1 = s + o by omega]
        exact Or.inr rfl
      · rw [if_neg g]; exact ih
    · rw [if_neg f]; exact ih
theorem pl_cov : (plT.all (fun q => (List.range 51).any (fun i => decide ((cpL.getD i (0, 0, 0)).1 = q.1 ∧ (cpL.getD i (0, 0, 0)).2.1 ≤ q.2.1 ∧ q.2.1 + q.2.2.2 ≤ (cpL.getD i (0, 0, 0)).2.1 + (cpL.getD i (0, 0, 0)).2.2)))) = true := by decide +kernel
theorem cov_pl {q : Nat × Nat × Nat × Nat} (hq : q ∈ plT) {j : Nat} (hj : j < q.2.2.2) : cov 51 q.1 (j + q.2.1) = true := by
  obtain ⟨i, hi, h⟩ := List.any_eq_true.mp (List.all_eq_true.mp pl_cov q hq)
  obtain ⟨h1, h2, h3⟩ := of_decide_eq_true h
  exact cov_of (lo := (cpL.getD i (0, 0, 0)).2.1) (n := (cpL.getD i (0, 0, 0)).2.2) 51 (List.mem_range.mp hi) (Prod.ext h1 rfl) (Nat.le_trans h2 (Nat.le_add_left _ _)) (by omega)
theorem Pl.copy {I s : XI} {t d : Nat} (h : Pl I t s) (hd : t + 43 ≤ d ∨ d + 43 ≤ t) : Pl (cpD I d t 51) d s := by
  intro q hq j hj
  rw [cpD_in hd (plT_ok q hq).1 51 (Nat.le_refl _) (cov_pl hq hj)]
  exact h q hq j hj
theorem CT.copy {I s : XI} {t d : Nat} (h : CT I t s) (g : gRu s) (hd : t + 43 ≤ d ∨ d + 43 ≤ t) (hr : ∀ o j, o < 43 → InR (I (d + o) j)) : CT (cpD I d t 51) d s := by
  obtain ⟨h1, h2, h3, h4, h5⟩ := h
  refine ⟨h1.copy hd, ?_, ?_, ?_, fun o j ho => ?_⟩
  · rw [cpD_in hd (o := 1) (by decide) 51 (Nat.le_refl _) (cov_of 51 (i := 1) (by decide) rfl (by decide) (by decide))]; exact h2
  · intro j hj
    rw [cpD_in hd (o := 42) (by decide) 51 (Nat.le_refl _) (cov_of 51 (i := 45) (by decide) rfl (by omega) (by omega))]; exact h3 j hj
  · intro l hl
    have hl' : l < 16 := by have := g.1; omega
    obtain ⟨a1, a2, a3, a4⟩ := h4 l hl
    rw [cpD_in hd (o := 32) (by decide) 51 (Nat.le_refl _) (cov_of 51 (i := 35) (by decide) rfl (by omega) (by omega)), cpD_in hd (o := 33) (by decide) 51 (Nat.le_refl _) (cov_of 51 (i := 36) (by decide) rfl (by omega) (by omega)), cpD_in hd (o := 34) (by decide) 51 (Nat.le_refl _) (cov_of 51 (i := 37) (by decide) rfl (by omega) (by omega))]
    refine ⟨a1, a2, a3, fun i hi => ?_⟩
    have hi' : i < 4 := by have := (g.2 l hl).2.2.2.1; omega
    rw [cpD_in hd (o := 35) (by decide) 51 (Nat.le_refl _) (cov_of 51 (i := 38) (by decide) rfl (by omega) (by omega)), cpD_in hd (o := 36) (by decide) 51 (Nat.le_refl _) (cov_of 51 (i := 39) (by decide) rfl (by omega) (by omega)), cpD_in hd (o := 37) (by decide) 51 (Nat.le_refl _) (cov_of 51 (i := 40) (by decide) rfl (by omega) (by omega)), cpD_in hd (o := 38) (by decide) 51 (Nat.le_refl _) (cov_of 51 (i := 41) (by decide) rfl (by omega) (by omega))]
    exact a4 i hi
  · rcases cpD_or (I := I) hd 51 (Nat.le_refl _) o j ho with e | e
    · rw [e]; exact hr o j ho
    · rw [e]; exact h5 o j ho
/-! rows that agree as far as they are wide -/
def agr (s s' : XI) : Prop := ∀ a, 77 < a → a < 129 → ∀ j, j < wid a → s' a j = s a j

theorem CT.cong {I s s' : XI} {t : Nat} (h : CT I t s) (g : gRu s) (e : agr s s') : CT I t s' := by
  obtain ⟨h1, h2, h3, h4, h5⟩ := h
  have e0 := e r_lines (by decide) (by decide) 0 (by decide)
  refine ⟨fun q hq j hj => ?_, ⟨h2.1, fun c hc => ?_⟩, fun j hj => ?_, fun l hl => ?_, h5⟩
  · obtain ⟨o1, o2, o3, o4⟩ := plT_ok q hq
    rw [e _ o2 o3 j (by rw [← o4]; exact hj)]; exact h1 q hq j hj
  · rw [e r_wells (by decide) (by decide) c hc]; exact h2.2 c hc
  · rw [e r_tape (by decide) (by decide) j hj]; exact h3 j hj
  · rw [e0] at hl
    have hl' : l < 16 := by have := g.1; omega
    obtain ⟨a1, a2, a3, a4⟩ := h4 l hl
    rw [e r_lineAct (by decide) (by decide) l hl', e r_lineNumber (by decide) (by decide) l hl', e r_lineTests (by decide) (by decide) l hl']
    refine ⟨a1, a2, a3, fun i hi => ?_⟩
    have hi' : l * 4 + i < 64 := by have := (g.2 l hl).2.2.2.1; omega
    rw [e r_testNot (by decide) (by decide) _ hi', e r_testWhat (by decide) (by decide) _ hi', e r_testSign (by decide) (by decide) _ hi', e r_testThan (by decide) (by decide) _ hi']
    exact a4 i hi
theorem Good.cong {s s' : XI} (h : Good s) (e : agr s s') : Good s' := by
  obtain ⟨g1, g2, g3, g4, g5, g6, g7, g8, g9⟩ := h
  have z : ∀ a, 77 < a → a < 129 → 0 < wid a → s' a 0 = s a 0 := fun a h1 h2 h3 => e a h1 h2 0 h3
  have e82 := z r_now (by decide) (by decide) (by decide)
  have e84 := z r_cells (by decide) (by decide) (by decide)
  have e87 := z r_camps (by decide) (by decide) (by decide)
  have e103 := z r_books (by decide) (by decide) (by decide)
  refine ⟨?_, ?_, ?_, ?_, ?_, ?_, ?_, ?_, ?_⟩
  · unfold gSc at g1 ⊢
    rw [e82, z r_viewed (by decide) (by decide) (by decide), z r_size (by decide) (by decide) (by decide)]; exact g1
  · unfold gLa at g2 ⊢
    obtain ⟨a1, a2, a3, a4, a5, a6, a7⟩ := g2
    rw [e84]
    refine ⟨a1, fun j hj => ?_, fun a b ha hb => ?_, fun a b ha hb hc => ?_, fun c hc => ?_, fun c h1 h2 => ?_, fun j hj => ?_⟩
    · rw [e r_ways (by decide) (by decide) j hj]; exact a2 j hj
    · rw [e r_ways (by decide) (by decide) (a * 10 + b) (show a * 10 + b < 100 by omega), e r_ways (by decide) (by decide) (b * 10 + a) (show b * 10 + a < 100 by omega)]; exact a3 a b ha hb
    · rw [e r_ways (by decide) (by decide) (a * 10 + b) (show a * 10 + b < 100 by omega)]; exact a4 a b ha hb hc
    · rw [e r_wells (by decide) (by decide) c hc]; exact a5 c hc
    · rw [e r_wells (by decide) (by decide) c h2]; exact a6 c h1 h2
    · rw [e r_dryWeek (by decide) (by decide) j hj]; exact a7 j hj

  · unfold gGr at g3 ⊢
    rw [z r_grasses (by decide) (by decide) (by decide), e84, e82]
    refine ⟨g3.1, fun j hj => ?_⟩
    have hb : j < 60 := by have := g3.1; omega
    rw [e r_grassCell (by decide) (by decide) j hb, e r_grassWeek (by decide) (by decide) j hb, e r_grassIs (by decide) (by decide) j hb, e r_grassTold (by decide) (by decide) j hb]
    exact g3.2 j hj
  · unfold gCa at g4 ⊢
    obtain ⟨a1, a2, a3⟩ := g4
    rw [e87, e84, e82]
    refine ⟨a1, fun j hj => ?_, fun j hj => ?_⟩
    · have hb : j < 6 := by omega
      rw [e r_campTongue (by decide) (by decide) j hb, e r_campCell (by decide) (by decide) j hb, e r_campWeek (by decide) (by decide) j hb]; exact a2 j hj
    · rw [e r_wishes (by decide) (by decide) j hj]; exact a3 j hj
  · unfold gNe at g5 ⊢
    rw [z r_newsMany (by decide) (by decide) (by decide), e87, e84, e82]
    refine ⟨g5.1, fun j hj => ?_⟩
    have hb : j < 60 := by have := g5.1; omega
    rw [e r_newsCamp (by decide) (by decide) j hb, e r_newsCell (by decide) (by decide) j hb, e r_newsWeek (by decide) (by decide) j hb, e r_newsSeen (by decide) (by decide) j hb, e r_newsTold (by decide) (by decide) j hb]
    exact g5.2 j hj
  · unfold gBo at g6 ⊢
    rw [z r_books (by decide) (by decide) (by decide)]
    refine ⟨g6.1, fun j hj => ?_⟩
    have hb : j < 24 := by have := g6.1; omega
    rw [e r_bookKind (by decide) (by decide) j hb, e r_bookTongue (by decide) (by decide) j hb, e r_bookLevel (by decide) (by decide) j hb, e r_bookPages (by decide) (by decide) j hb, e r_bookGrams (by decide) (by decide) j hb]
    exact g6.2 j hj
  · unfold gAc at g7 ⊢
    rw [z r_acts (by decide) (by decide) (by decide), e103, e87, e82]
    refine ⟨g7.1, fun j hj => ?_⟩
    have hb : j < 150 := by have := g7.1; omega
    have ek : ∀ i, i ≤ j → s' r_actKind i = s r_actKind i := fun i hi => e r_actKind (by decide) (by decide) i (show i < 150 by omega)
    have eb : ∀ i, i ≤ j → s' r_actBook i = s r_actBook i := fun i hi => e r_actBook (by decide) (by decide) i (show i < 150 by omega)
    have ew : ∀ i, i ≤ j → s' r_actWeek i = s r_actWeek i := fun i hi => e r_actWeek (by decide) (by decide) i (show i < 150 by omega)
    have et : ∀ i, i ≤ j → s' r_actTold i = s r_actTold i := fun i hi => e r_actTold (by decide) (by decide) i (show i < 150 by omega)
    rw [ek j (Nat.le_refl _), eb j (Nat.le_refl _), ew j (Nat.le_refl _), et j (Nat.le_refl _), e r_actCamp (by decide) (by decide) j hb, e r_actMany (by decide) (by decide) j hb]
    obtain ⟨b1, b2, b3, b4, b5, b6, b7, b8, b9⟩ := g7.2 j hj
    refine ⟨b1, b2, b3, b4, b5, b6, b7, b8, fun q => ?_⟩
    obtain ⟨i, hi, c1, c2, c3, c4⟩ := b9 q
    exact ⟨i, hi, by rw [ek i (by omega)]; exact c1, by rw [eb i (by omega)]; exact c2, by rw [ew i (by omega)]; exact c3, by rw [et i (by omega)]; exact c4⟩
  · unfold gRu at g8 ⊢
    rw [z r_lines (by decide) (by decide) (by decide)]
    refine ⟨g8.1, fun l hl => ?_⟩
    have hb : l < 16 := by have := g8.1; omega
    rw [e r_lineAct (by decide) (by decide) l hb, e r_lineNumber (by decide) (by decide) l hb, e r_lineTests (by decide) (by decide) l hb]
    obtain ⟨b1, b2, b3, b4, b5⟩ := g8.2 l hl
    refine ⟨b1, b2, b3, b4, fun i hi => ?_⟩
    rw [e r_testNot (by decide) (by decide) _ (show l * 4 + i < 64 by omega)]; exact b5 i hi
  · unfold gRe at g9 ⊢
    rw [z r_readers (by decide) (by decide) (by decide), e87]
    refine ⟨g9.1, fun j hj => ?_⟩
    have hb : j < 12 := by have := g9.1; omega
    rw [e r_readerCamp (by decide) (by decide) j hb, e r_readerBooks (by decide) (by decide) j hb]
    exact g9.2 j hj
theorem FlR.cong {s s' : XI} (h : FlR s) (e : agr s s') : FlR s' :=
  ⟨fun j hj => by rw [e r_newsSeen (by decide) (by decide) j hj]; exact h.1 j hj, fun j hj => by rw [e r_testNot (by decide) (by decide) j hj]; exact h.2 j hj⟩
theorem cpU_row {I : XI} {s t a j : Nat} (h1 : 77 < a) (h2 : a < 129) : cpU I s t 129 a j = if wid a * t ≤ j ∧ j < wid a * t + wid a then I a (wid a * s + (j - wid a * t)) else I a j := by
  unfold cpU
  by_cases e : wid a * t ≤ j ∧ j < wid a * t + wid a
  · rw [if_pos e, if_pos ⟨⟨h1, h2⟩, e⟩]
  · rw [if_neg e, if_neg (fun q => e q.2)]
theorem cpU_off {I : XI} {s t a : Nat} (h : ¬ (77 < a ∧ a < 129)) : cpU I s t 129 a = I a := by
  funext j
  unfold cpU
  rw [if_neg (fun q => h q.1)]
theorem cpU_in {I : XI} {s t a : Nat} (h1 : 77 < a) (h2 : a < 129) (j : Nat) : ∃ i, cpU I s t 129 a j = I a i := by
  rw [cpU_row h1 h2]
  split
  · exact ⟨_, rfl⟩
  · exact ⟨_, rfl⟩
section PIm
variable {G : XG} {S : XS} {I : XI}
theorem s_copyRow {a b n : Nat} {R : XI → Prop} (hS : xSh S) (a1 : a < S.1) (a2 : xtag S a = 13) (a3 : xlen S a = n) (b1 : b < S.1) (b2 : xtag S b = 13) (b3 : xlen S b = n) (hn : n < 100000) (h : R (pce I b a 0 n)) : To_copyRow G S I a b R := by
  refine b_To_copyRow hS a1 a2 b1 b2 ?_
  rw [a3, b3, if_neg (Int.lt_irrefl _), w32_nat (k := n) (by omega), ix_nat (k := n) (by omega)]
  exact ⟨by omega, Nat.le_refl _, Nat.le_refl _, fun I1 e => by rw [e, xcpy_pce]; exact h⟩

theorem s_Tc_land {v0 v1 : Nat} {R : XI → Prop} (hS : xSh S) (h0 : ToldAt S v0) (h1 : ToldAt S v1) (h : R (cpD I v0 v1 9)) : Tc_land G S (cpD I v0 v1 0) v0 v1 R := by
    refine b_Tc_land h0 h1 ?_
    intro I1 e1 I2 e2 I3 e3
    have s1 := cp_f (I := I) (d := v0) (s := v1) (m := 0) (o := 1) (j := 0) rfl rfl e1
    have s2 := cp_f (I := I) (d := v0) (s := v1) (m := 1) (o := 1) (j := 1) s1 rfl e2
    have s3 := cp_f (I := I) (d := v0) (s := v1) (m := 2) (o := 1) (j := 3) s2 rfl e3
    rw [s3]
    refine s_copyRow (n := 100) hS (tN h1 (d := 2) (by decide)) (tT h1 2 (by decide) rfl) (tL h1 2 (by decide) rfl) (tN h0 (d := 2) (by decide)) (tT h0 2 (by decide) rfl) (tL h0 2 (by decide) rfl) (by decide) ?_
    rw [cp_r (I := I) (d := v0) (s := v1) (m := 3) (o := 2) (n := 100) rfl rfl]
    refine s_copyRow (n := 60) hS (tN h1 (d := 3) (by decide)) (tT h1 3 (by decide) rfl) (tL h1 3 (by decide) rfl) (tN h0 (d := 3) (by decide)) (tT h0 3 (by decide) rfl) (tL h0 3 (by decide) rfl) (by decide) ?_
    rw [cp_r (I := I) (d := v0) (s := v1) (m := 4) (o := 3) (n := 60) rfl rfl]
    refine s_copyRow (n := 60) hS (tN h1 (d := 4) (by decide)) (tT h1 4 (by decide) rfl) (tL h1 4 (by decide) rfl) (tN h0 (d := 4) (by decide)) (tT h0 4 (by decide) rfl) (tL h0 4 (by decide) rfl) (by decide) ?_
    rw [cp_r (I := I) (d := v0) (s := v1) (m := 5) (o := 4) (n := 60) rfl rfl]
    refine s_copyRow (n := 60) hS (tN h1 (d := 5) (by decide)) (tT h1 5 (by decide) rfl) (tL h1 5 (by decide) rfl) (tN h0 (d := 5) (by decide)) (tT h0 5 (by decide) rfl) (tL h0 5 (by decide) rfl) (by decide) ?_
    rw [cp_r (I := I) (d := v0) (s := v1) (m := 6) (o := 5) (n := 60) rfl rfl]
    refine s_copyRow (n := 60) hS (tN h1 (d := 6) (by decide)) (tT h1 6 (by decide) rfl) (tL h1 6 (by decide) rfl) (tN h0 (d := 6) (by decide)) (tT h0 6 (by decide) rfl) (tL h0 6 (by decide) rfl) (by decide) ?_
    rw [cp_r (I := I) (d := v0) (s := v1) (m := 7) (o := 6) (n := 60) rfl rfl]
    refine s_copyRow (n := 100) hS (tN h1 (d := 7) (by decide)) (tT h1 7 (by decide) rfl) (tL h1 7 (by decide) rfl) (tN h0 (d := 7) (by decide)) (tT h0 7 (by decide) rfl) (tL h0 7 (by decide) rfl) (by decide) ?_
    rw [cp_r (I := I) (d := v0) (s := v1) (m := 8) (o := 7) (n := 100) rfl rfl]
    exact h
theorem s_Tc_herds {v0 v1 : Nat} {R : XI → Prop} (hS : xSh S) (h0 : ToldAt S v0) (h1 : ToldAt S v1) (h : R (cpD I v0 v1 20)) : Tc_herds G S (cpD I v0 v1 9) v0 v1 R := by
    refine b_Tc_herds h0 h1 ?_
    intro I1 e1 I2 e2
    have s1 := cp_f (I := I) (d := v0) (s := v1) (m := 9) (o := 8) (j := 0) rfl rfl e1
    have s2 := cp_f (I := I) (d := v0) (s := v1) (m := 10) (o := 8) (j := 5) s1 rfl e2
    rw [s2]
    refine s_copyRow (n := 6) hS (tN h1 (d := 9) (by decide)) (tT h1 9 (by decide) rfl) (tL h1 9 (by decide) rfl) (tN h0 (d := 9) (by decide)) (tT h0 9 (by decide) rfl) (tL h0 9 (by decide) rfl) (by decide) ?_
    rw [cp_r (I := I) (d := v0) (s := v1) (m := 11) (o := 9) (n := 6) rfl rfl]
    refine s_copyRow (n := 6) hS (tN h1 (d := 10) (by decide)) (tT h1 10 (by decide) rfl) (tL h1 10 (by decide) rfl) (tN h0 (d := 10) (by decide)) (tT h0 10 (by decide) rfl) (tL h0 10 (by decide) rfl) (by decide) ?_
    rw [cp_r (I := I) (d := v0) (s := v1) (m := 12) (o := 10) (n := 6) rfl rfl]
    refine s_copyRow (n := 6) hS (tN h1 (d := 11) (by decide)) (tT h1 11 (by decide) rfl) (tL h1 11 (by decide) rfl) (tN h0 (d := 11) (by decide)) (tT h0 11 (by decide) rfl) (tL h0 11 (by decide) rfl) (by decide) ?_
    rw [cp_r (I := I) (d := v0) (s := v1) (m := 13) (o := 11) (n := 6) rfl rfl]
    refine s_copyRow (n := 48) hS (tN h1 (d := 12) (by decide)) (tT h1 12 (by decide) rfl) (tL h1 12 (by decide) rfl) (tN h0 (d := 12) (by decide)) (tT h0 12 (by decide) rfl) (tL h0 12 (by decide) rfl) (by decide) ?_
    rw [cp_r (I := I) (d := v0) (s := v1) (m := 14) (o := 12) (n := 48) rfl rfl]
    refine s_copyRow (n := 60) hS (tN h1 (d := 13) (by decide)) (tT h1 13 (by decide) rfl) (tL h1 13 (by decide) rfl) (tN h0 (d := 13) (by decide)) (tT h0 13 (by decide) rfl) (tL h0 13 (by decide) rfl) (by decide) ?_
    rw [cp_r (I := I) (d := v0) (s := v1) (m := 15) (o := 13) (n := 60) rfl rfl]
    refine s_copyRow (n := 60) hS (tN h1 (d := 14) (by decide)) (tT h1 14 (by decide) rfl) (tL h1 14 (by decide) rfl) (tN h0 (d := 14) (by decide)) (tT h0 14 (by decide) rfl) (tL h0 14 (by decide) rfl) (by decide) ?_
    rw [cp_r (I := I) (d := v0) (s := v1) (m := 16) (o := 14) (n := 60) rfl rfl]
    refine s_copyRow (n := 60) hS (tN h1 (d := 15) (by decide)) (tT h1 15 (by decide) rfl) (tL h1 15 (by decide) rfl) (tN h0 (d := 15) (by decide)) (tT h0 15 (by decide) rfl) (tL h0 15 (by decide) rfl) (by decide) ?_
    rw [cp_r (I := I) (d := v0) (s := v1) (m := 17) (o := 15) (n := 60) rfl rfl]
    refine s_copyRow (n := 60) hS (tN h1 (d := 16) (by decide)) (tT h1 16 (by decide) rfl) (tL h1 16 (by decide) rfl) (tN h0 (d := 16) (by decide)) (tT h0 16 (by decide) rfl) (tL h0 16 (by decide) rfl) (by decide) ?_
    rw [cp_r (I := I) (d := v0) (s := v1) (m := 18) (o := 16) (n := 60) rfl rfl]
    refine s_copyRow (n := 60) hS (tN h1 (d := 17) (by decide)) (tT h1 17 (by decide) rfl) (tL h1 17 (by decide) rfl) (tN h0 (d := 17) (by decide)) (tT h0 17 (by decide) rfl) (tL h0 17 (by decide) rfl) (by decide) ?_
    rw [cp_r (I := I) (d := v0) (s := v1) (m := 19) (o := 17) (n := 60) rfl rfl]
    exact h
theorem s_Tc_shelf {v0 v1 : Nat} {R : XI → Prop} (hS : xSh S) (h0 : ToldAt S v0) (h1 : ToldAt S v1) (h : R (cpD I v0 v1 34)) : Tc_shelf G S (cpD I v0 v1 20) v0 v1 R := by
    refine b_Tc_shelf h0 h1 ?_
    intro I1 e1 I2 e2
    have s1 := cp_f (I := I) (d := v0) (s := v1) (m := 20) (o := 18) (j := 0) rfl rfl e1
    have s2 := cp_f (I := I) (d := v0) (s := v1) (m := 21) (o := 18) (j := 6) s1 rfl e2
    rw [s2]
    refine s_copyRow (n := 24) hS (tN h1 (d := 19) (by decide)) (tT h1 19 (by decide) rfl) (tL h1 19 (by decide) rfl) (tN h0 (d := 19) (by decide)) (tT h0 19 (by decide) rfl) (tL h0 19 (by decide) rfl) (by decide) ?_
    rw [cp_r (I := I) (d := v0) (s := v1) (m := 22) (o := 19) (n := 24) rfl rfl]
    refine s_copyRow (n := 24) hS (tN h1 (d := 20) (by decide)) (tT h1 20 (by decide) rfl) (tL h1 20 (by decide) rfl) (tN h0 (d := 20) (by decide)) (tT h0 20 (by decide) rfl) (tL h0 20 (by decide) rfl) (by decide) ?_
    rw [cp_r (I := I) (d := v0) (s := v1) (m := 23) (o := 20) (n := 24) rfl rfl]
    refine s_copyRow (n := 24) hS (tN h1 (d := 21) (by decide)) (tT h1 21 (by decide) rfl) (tL h1 21 (by decide) rfl) (tN h0 (d := 21) (by decide)) (tT h0 21 (by decide) rfl) (tL h0 21 (by decide) rfl) (by decide) ?_
    rw [cp_r (I := I) (d := v0) (s := v1) (m := 24) (o := 21) (n := 24) rfl rfl]
    refine s_copyRow (n := 24) hS (tN h1 (d := 22) (by decide)) (tT h1 22 (by decide) rfl) (tL h1 22 (by decide) rfl) (tN h0 (d := 22) (by decide)) (tT h0 22 (by decide) rfl) (tL h0 22 (by decide) rfl) (by decide) ?_
    rw [cp_r (I := I) (d := v0) (s := v1) (m := 25) (o := 22) (n := 24) rfl rfl]
    refine s_copyRow (n := 24) hS (tN h1 (d := 23) (by decide)) (tT h1 23 (by decide) rfl) (tL h1 23 (by decide) rfl) (tN h0 (d := 23) (by decide)) (tT h0 23 (by decide) rfl) (tL h0 23 (by decide) rfl) (by decide) ?_
    rw [cp_r (I := I) (d := v0) (s := v1) (m := 26) (o := 23) (n := 24) rfl rfl]
    refine s_copyRow (n := 150) hS (tN h1 (d := 24) (by decide)) (tT h1 24 (by decide) rfl) (tL h1 24 (by decide) rfl) (tN h0 (d := 24) (by decide)) (tT h0 24 (by decide) rfl) (tL h0 24 (by decide) rfl) (by decide) ?_
    rw [cp_r (I := I) (d := v0) (s := v1) (m := 27) (o := 24) (n := 150) rfl rfl]
    refine s_copyRow (n := 150) hS (tN h1 (d := 25) (by decide)) (tT h1 25 (by decide) rfl) (tL h1 25 (by decide) rfl) (tN h0 (d := 25) (by decide)) (tT h0 25 (by decide) rfl) (tL h0 25 (by decide) rfl) (by decide) ?_
    rw [cp_r (I := I) (d := v0) (s := v1) (m := 28) (o := 25) (n := 150) rfl rfl]
    refine s_copyRow (n := 150) hS (tN h1 (d := 26) (by decide)) (tT h1 26 (by decide) rfl) (tL h1 26 (by decide) rfl) (tN h0 (d := 26) (by decide)) (tT h0 26 (by decide) rfl) (tL h0 26 (by decide) rfl) (by decide) ?_
    rw [cp_r (I := I) (d := v0) (s := v1) (m := 29) (o := 26) (n := 150) rfl rfl]
    refine s_copyRow (n := 150) hS (tN h1 (d := 27) (by decide)) (tT h1 27 (by decide) rfl) (tL h1 27 (by decide) rfl) (tN h0 (d := 27) (by decide)) (tT h0 27 (by decide) rfl) (tL h0 27 (by decide) rfl) (by decide) ?_
    rw [cp_r (I := I) (d := v0) (s := v1) (m := 30) (o := 27) (n := 150) rfl rfl]
    refine s_copyRow (n := 150) hS (tN h1 (d := 28) (by decide)) (tT h1 28 (by decide) rfl) (tL h1 28 (by decide) rfl) (tN h0 (d := 28) (by decide)) (tT h0 28 (by decide) rfl) (tL h0 28 (by decide) rfl) (by decide) ?_
    rw [cp_r (I := I) (d := v0) (s := v1) (m := 31) (o := 28) (n := 150) rfl rfl]
    refine s_copyRow (n := 150) hS (tN h1 (d := 29) (by decide)) (tT h1 29 (by decide) rfl) (tL h1 29 (by decide) rfl) (tN h0 (d := 29) (by decide)) (tT h0 29 (by decide) rfl) (tL h0 29 (by decide) rfl) (by decide) ?_
    rw [cp_r (I := I) (d := v0) (s := v1) (m := 32) (o := 29) (n := 150) rfl rfl]
    refine s_copyRow (n := 150) hS (tN h1 (d := 30) (by decide)) (tT h1 30 (by decide) rfl) (tL h1 30 (by decide) rfl) (tN h0 (d := 30) (by decide)) (tT h0 30 (by decide) rfl) (tL h0 30 (by decide) rfl) (by decide) ?_
    rw [cp_r (I := I) (d := v0) (s := v1) (m := 33) (o := 30) (n := 150) rfl rfl]
    exact h
theorem s_Tc_rules {v0 v1 : Nat} {R : XI → Prop} (hS : xSh S) (h0 : ToldAt S v0) (h1 : ToldAt S v1) (h : R (cpD I v0 v1 42)) : Tc_rules G S (cpD I v0 v1 34) v0 v1 R := by
    refine b_Tc_rules h0 h1 ?_
    intro I1 e1
    have s1 := cp_f (I := I) (d := v0) (s := v1) (m := 34) (o := 31) (j := 0) rfl rfl e1
    rw [s1]
    refine s_copyRow (n := 16) hS (tN h1 (d := 32) (by decide)) (tT h1 32 (by decide) rfl) (tL h1 32 (by decide) rfl) (tN h0 (d := 32) (by decide)) (tT h0 32 (by decide) rfl) (tL h0 32 (by decide) rfl) (by decide) ?_
    rw [cp_r (I := I) (d := v0) (s := v1) (m := 35) (o := 32) (n := 16) rfl rfl]
    refine s_copyRow (n := 16) hS (tN h1 (d := 33) (by decide)) (tT h1 33 (by decide) rfl) (tL h1 33 (by decide) rfl) (tN h0 (d := 33) (by decide)) (tT h0 33 (by decide) rfl) (tL h0 33 (by decide) rfl) (by decide) ?_
    rw [cp_r (I := I) (d := v0) (s := v1) (m := 36) (o := 33) (n := 16) rfl rfl]
    refine s_copyRow (n := 16) hS (tN h1 (d := 34) (by decide)) (tT h1 34 (by decide) rfl) (tL h1 34 (by decide) rfl) (tN h0 (d := 34) (by decide)) (tT h0 34 (by decide) rfl) (tL h0 34 (by decide) rfl) (by decide) ?_
    rw [cp_r (I := I) (d := v0) (s := v1) (m := 37) (o := 34) (n := 16) rfl rfl]
    refine s_copyRow (n := 64) hS (tN h1 (d := 35) (by decide)) (tT h1 35 (by decide) rfl) (tL h1 35 (by decide) rfl) (tN h0 (d := 35) (by decide)) (tT h0 35 (by decide) rfl) (tL h0 35 (by decide) rfl) (by decide) ?_
    rw [cp_r (I := I) (d := v0) (s := v1) (m := 38) (o := 35) (n := 64) rfl rfl]
    refine s_copyRow (n := 64) hS (tN h1 (d := 36) (by decide)) (tT h1 36 (by decide) rfl) (tL h1 36 (by decide) rfl) (tN h0 (d := 36) (by decide)) (tT h0 36 (by decide) rfl) (tL h0 36 (by decide) rfl) (by decide) ?_
    rw [cp_r (I := I) (d := v0) (s := v1) (m := 39) (o := 36) (n := 64) rfl rfl]
    refine s_copyRow (n := 64) hS (tN h1 (d := 37) (by decide)) (tT h1 37 (by decide) rfl) (tL h1 37 (by decide) rfl) (tN h0 (d := 37) (by decide)) (tT h0 37 (by decide) rfl) (tL h0 37 (by decide) rfl) (by decide) ?_
    rw [cp_r (I := I) (d := v0) (s := v1) (m := 40) (o := 37) (n := 64) rfl rfl]
    refine s_copyRow (n := 64) hS (tN h1 (d := 38) (by decide)) (tT h1 38 (by decide) rfl) (tL h1 38 (by decide) rfl) (tN h0 (d := 38) (by decide)) (tT h0 38 (by decide) rfl) (tL h0 38 (by decide) rfl) (by decide) ?_
    rw [cp_r (I := I) (d := v0) (s := v1) (m := 41) (o := 38) (n := 64) rfl rfl]
    exact h
theorem s_Tc_readers {v0 v1 : Nat} {R : XI → Prop} (hS : xSh S) (h0 : ToldAt S v0) (h1 : ToldAt S v1) (h : R (cpD I v0 v1 45)) : Tc_readers G S (cpD I v0 v1 42) v0 v1 R := by
    refine b_Tc_readers h0 h1 ?_
    intro I1 e1
    have s1 := cp_f (I := I) (d := v0) (s := v1) (m := 42) (o := 39) (j := 0) rfl rfl e1
    rw [s1]
    refine s_copyRow (n := 12) hS (tN h1 (d := 40) (by decide)) (tT h1 40 (by decide) rfl) (tL h1 40 (by decide) rfl) (tN h0 (d := 40) (by decide)) (tT h0 40 (by decide) rfl) (tL h0 40 (by decide) rfl) (by decide) ?_
    rw [cp_r (I := I) (d := v0) (s := v1) (m := 43) (o := 40) (n := 12) rfl rfl]
    refine s_copyRow (n := 12) hS (tN h1 (d := 41) (by decide)) (tT h1 41 (by decide) rfl) (tL h1 41 (by decide) rfl) (tN h0 (d := 41) (by decide)) (tT h0 41 (by decide) rfl) (tL h0 41 (by decide) rfl) (by decide) ?_
    rw [cp_r (I := I) (d := v0) (s := v1) (m := 44) (o := 41) (n := 12) rfl rfl]
    exact h
theorem s_Tc_told {v0 v1 : Nat} {R : XI → Prop} (hS : xSh S) (h0 : ToldAt S v0) (h1 : ToldAt S v1) (h : R (cpD I v0 v1 51)) : Tc_told G S I v0 v1 R := by
  refine b_Tc_told h0 h1 (s_Tc_land (I := I) hS h0 h1 (s_Tc_herds hS h0 h1 (s_Tc_shelf hS h0 h1 (s_Tc_rules hS h0 h1 (s_Tc_readers hS h0 h1 ?_)))))
  refine s_copyRow (n := 500) hS (tN h1 (d := 42) (by decide)) (tT h1 42 (by decide) rfl) (tL h1 42 (by decide) rfl) (tN h0 (d := 42) (by decide)) (tT h0 42 (by decide) rfl) (tL h0 42 (by decide) rfl) (by decide) ?_
  rw [cp_r (I := I) (d := v0) (s := v1) (m := 45) (o := 42) (n := 500) rfl rfl]
  intro I7 e7 I8 e8 I9 e9 I10 e10 I11 e11
  have s7 := cp_f (I := I) (d := v0) (s := v1) (m := 46) (o := 0) (j := 6) rfl rfl e7
  have s8 := cp_f (I := I) (d := v0) (s := v1) (m := 47) (o := 0) (j := 7) s7 rfl e8
  have s9 := cp_f (I := I) (d := v0) (s := v1) (m := 48) (o := 0) (j := 8) s8 rfl e9
  have s10 := cp_f (I := I) (d := v0) (s := v1) (m := 49) (o := 0) (j := 9) s9 rfl e10
  have s11 := cp_f (I := I) (d := v0) (s := v1) (m := 50) (o := 0) (j := 10) s10 rfl e11
  rw [s11]
  exact h
theorem b_H_again {v1 : Int} {R : Int → XI → Prop} (hS : xSh S) (h : H_isIn G S I v1 0 2 (fun r I1 => (w32 r = 0 → R 0 I1) ∧ (¬ (w32 r = 0) → inb v1 3 ∧ (xref S c_images (ix v1) = 0 → R 0 I1) ∧ ∀ T, xref S c_images (ix v1) = T + 1 → ToldAt S T ∧ Tc_told G S I1 c_told T (fun I2 => H_forgetWays G S I2 (fun I3 => R 1 I3))))) : H_again G S I v1 R := by
  refine x_start [some (vr G c_obj), some (vi (v1))] (by decide) (Nat.le_of_ble_eq_true rfl) rfl ?_
  refine x_iload_n (pc := 0) dX10_again_0 rfl rfl ?_
  refine x_iconst (pc := 1) dX10_again_1 ?_
  refine x_iconst (pc := 2) dX10_again_2 ?_
  refine y_Si (pc := 3) (As := [vi (v1), vi (0), vi (2)]) (rest := []) ok_X10_isIn ml_X10_77 dX10_again_3 rfl ⟨rfl, rfl⟩ ⟨by decide, by decide⟩ ⟨Nat.le_refl _, Nat.le_refl _⟩ (Nat.le_of_ble_eq_true rfl) rfl h (fun r I1 h => ?_)
  refine x_if_eq (pc := 6) (t := 18) dX10_again_6 (by decide) (fun e => ?_) (fun e => ?_)
  · have h := h.1 e
    refine x_iconst (pc := 18) dX10_again_18 ?_
    exact y_zret (pc := 19) dX10_again_19 rfl ⟨Nat.le_refl _, Nat.le_refl _⟩ (Or.inl rfl) h
  · obtain ⟨hb, h0, h1⟩ := h.2 e
    refine x_aload_n (pc := 9) dX10_again_9 rfl rfl ?_
    refine x_getR (pc := 10) (i := c_obj) (a := c_images) fl_X10_16 dX10_again_10 (sN_c_obj hS) (sT_c_obj hS) rfl (sR_c_obj_1 hS) ?_
    refine x_iload_n (pc := 13) dX10_again_13 rfl rfl ?_
    refine x_aald (pc := 14) (i := c_images) dX10_again_14 (sN_c_images hS) (sT_c_images hS) (by rw [sL_c_images hS]; exact hb) ?_
    cases hx : xref S c_images (ix v1) with
    | zero =>
      refine x_nonnullN (pc := 15) dX10_again_15 ?_
      refine x_iconst (pc := 18) dX10_again_18 ?_
      exact y_zret (pc := 19) dX10_again_19 rfl ⟨Nat.le_refl _, Nat.le_refl _⟩ (Or.inl rfl) (h0 hx)
    | succ T =>
      obtain ⟨hT, h2⟩ := h1 T hx
      refine x_nonnull (pc := 15) (t := 20) dX10_again_15 (by decide) ?_
      refine x_aload_n (pc := 20) dX10_again_20 rfl rfl ?_
      refine x_getR (pc := 21) (i := c_obj) (a := c_told) fl_X10_12 dX10_again_21 (sN_c_obj hS) (sT_c_obj hS) rfl (sR_c_obj_0 hS) ?_
      refine x_aload_n (pc := 24) dX10_again_24 rfl rfl ?_
      refine x_getR (pc := 25) (i := c_obj) (a := c_images) fl_X10_16 dX10_again_25 (sN_c_obj hS) (sT_c_obj hS) rfl (sR_c_obj_1 hS) ?_
      refine x_iload_n (pc := 28) dX10_again_28 rfl rfl ?_
      refine x_aald (pc := 29) (i := c_images) dX10_again_29 (sN_c_images hS) (sT_c_images hS) (by rw [sL_c_images hS]; exact hb) ?_
      rw [hx]
      refine y_Vv (pc := 30) (i := c_told) (As := [vr G T]) (rest := []) ok_X7_copyFrom ml_X10_374 dX10_again_30 (sN_c_told hS) (sT_c_told hS) (by decide) rfl rfl rfl ⟨rfl, rfl⟩ ⟨by decide, by decide⟩ ⟨Nat.le_refl _, Nat.le_refl _⟩ (Nat.le_of_ble_eq_true rfl) rfl h2 (fun I2 h2 => ?_)
      refine x_aload_n (pc := 33) dX10_again_33 rfl rfl ?_
      refine y_Vv (pc := 34) (i := c_obj) (As := []) (rest := []) ok_X10_forgetWays ml_X10_70 dX10_again_34 (sN_c_obj hS) (sT_c_obj hS) (by decide) rfl rfl rfl ⟨rfl, rfl⟩ ⟨by decide, by decide⟩ ⟨Nat.le_refl _, Nat.le_refl _⟩ (Nat.le_of_ble_eq_true rfl) rfl h2 (fun I3 h3 => ?_)
      refine x_iconst (pc := 37) dX10_again_37 ?_
      exact y_zret (pc := 38) dX10_again_38 rfl ⟨Nat.le_refl _, Nat.le_refl _⟩ (Or.inr rfl) h3
theorem H_again_def : True := trivial
/-- what R_copy asks of a row -/
theorem copy_ok {K s : XI} {r t : Nat} (h : CT K t s) (g : Good s) (f : FlR s) (e : ∀ a, 77 < a → a < 129 → ∀ j, j < wid a → I a (wid a * r + j) = s a j) : (∀ j, j < 500 → (I r_tape (500 * r + j)).bmod 256 = I r_tape (500 * r + j)) ∧ (∀ j, j < wid r_wells → I r_wells (wid r_wells * r + j) = 0 ∨ I r_wells (wid r_wells * r + j) = 1) ∧ (∀ j, j < wid r_dryWeek → I r_dryWeek (wid r_dryWeek * r + j) = 0 ∨ I r_dryWeek (wid r_dryWeek * r + j) = 1) ∧ (∀ j, j < wid r_newsSeen → I r_newsSeen (wid r_newsSeen * r + j) = 0 ∨ I r_newsSeen (wid r_newsSeen * r + j) = 1) ∧ ∀ j, j < wid r_testNot → I r_testNot (wid r_testNot * r + j) = 0 ∨ I r_testNot (wid r_testNot * r + j) = 1 := by
  refine ⟨fun j hj => ?_, fun j hj => ?_, fun j hj => ?_, fun j hj => ?_, fun j hj => ?_⟩
  · have e1 : I r_tape (500 * r + j) = s r_tape j := e r_tape (by decide) (by decide) j hj
    rw [e1, (h.2.2.1 j hj).2, Int.bmod_bmod]
  · rw [e r_wells (by decide) (by decide) j hj]; exact g.2.1.2.2.2.2.1 j hj
  · rw [e r_dryWeek (by decide) (by decide) j hj]; exact g.2.1.2.2.2.2.2.2 j hj
  · rw [e r_newsSeen (by decide) (by decide) j hj]; exact f.1 j hj
  · rw [e r_testNot (by decide) (by decide) j hj]; exact f.2 j hj
theorem t_again {v1 : Int} {R : Int → Int → XI → Prop} (hS : xSh S) (hI : Rel S I) (a1 : InR v1) (h : ∀ r J, Rel S J → R r r J) : H_again G S I v1 (fun r I1 => R_again G S I1 v1 (fun r' J => R r r' J)) := by
  obtain ⟨T, im, ap⟩ := hI.2.2.2.1.2
  refine b_H_again hS ?_
  refine s_isIn hS a1 ⟨by decide, by decide⟩ ⟨by decide, by decide⟩ (fun x1 x2 => br1 ?_) (fun n => br0 ?_)
  rotate_left
  · refine b_R_again hS (fun J e => ?_)
    exact s_Rin hS a1 ⟨by decide, by decide⟩ ⟨by decide, by decide⟩ (fun y1 y2 => absurd ⟨y1, y2⟩ n) (fun _ => br0 (h _ _ (hI.code e).1))
  obtain ⟨k, rfl⟩ : ∃ k : Nat, v1 = (k : Int) := ⟨v1.toNat, by omega⟩
  have hk : k < 3 := by omega
  rw [ix_nat (k := k) (by omega)]
  refine ⟨inb_b (by omega) (by omega) (by decide), fun e0 => ?_, fun t et => ?_⟩
  · have kp : I r_kept k = 0 := by
      rcases im k hk with q | q
      · exact q.1
      · rw [q.2.2.1] at e0; omega
    refine b_R_again hS (fun J e => ?_)
    refine s_Rin hS a1 ⟨by decide, by decide⟩ ⟨by decide, by decide⟩ (fun y1 y2 => br1 ?_) (fun n => absurd ⟨x1, x2⟩ n)
    rw [ix_nat (k := k) (by omega), (hI.code e).2.2 r_kept (by decide), kp, show w32 0 = 0 from rfl]
    exact ⟨inb_b (by omega) (by omega) (by decide), fun _ => h _ _ (hI.code e).1, fun q => absurd rfl q⟩
  · rcases im k hk with q | ⟨q1, q2, q3, q4, q5, q6, q7⟩
    · rw [q.2] at et; omega
    have tT : T k = t := by omega
    rw [tT] at q2 q3 q4 q5
    refine ⟨q4, s_Tc_told hS (told_main hS) q4 (s_H_forgetWays hS ?_)⟩
    have hK : ∀ a, (a < 1 ∨ 44 ≤ a) → a ≠ 47 → a ≠ 54 → a ≠ 59 → fgw (cpD I c_told t 51) a = I a := fun a ha h1 h2 h3 => (fgw_row h1 h2 h3).trans (cpD_out (by show a < 1 ∨ 1 + 43 ≤ a; omega) 51 (Nat.le_refl _))
    refine b_R_again hS (fun J e => ?_)
    have hJ : ∀ a, a ≠ 77 → J a = fgw (cpD I c_told t 51) a := fun a ha => by rw [e]; exact up_row ha
    have hJr : ∀ a, 77 < a → a < 129 → J a = I a := fun a h1 h2 => (hJ a (by omega)).trans (hK a (by omega) (by omega) (by omega) (by omega))
    refine s_Rin hS a1 ⟨by decide, by decide⟩ ⟨by decide, by decide⟩ (fun y1 y2 => br1 ?_) (fun n => absurd ⟨x1, x2⟩ n)
    rw [ix_nat (k := k) (by omega), hJ r_kept (by decide), hK r_kept (by decide) (by decide) (by decide) (by decide), q1, show w32 1 = 1 from rfl]
    refine ⟨inb_b (by omega) (by omega) (by decide), fun x => absurd x (by decide), fun _ => ?_⟩
    have er : ∀ a, 77 < a → a < 129 → ∀ j, j < wid a → J a (wid a * (k + 1) + j) = rv I (k + 1) a j := fun a h1 h2 j _ => by rw [hJr a h1 h2]; rfl
    obtain ⟨c1, c2, c3, c4, c5⟩ := copy_ok q5 q6 q7 er
    refine s_R_copy (s := k + 1) (t := 0) hS (by omega) rfl (by omega) (by omega) (by omega) c1 c2 c3 c4 c5 ?_
    obtain ⟨F, eF⟩ : ∃ F, F = cpU J (k + 1) 0 129 := ⟨_, rfl⟩
    rw [← eF]
    have hF : ∀ a, ¬ (77 < a ∧ a < 129) → F a = J a := fun a ha => by rw [eF]; exact cpU_off ha
    have hFr : ∀ a, 77 < a → a < 129 → ∀ j, F a j = if j < wid a then I a (wid a * (k + 1) + j) else I a j := fun a h1 h2 j => by
      rw [eF, cpU_row h1 h2, hJr a h1 h2, Nat.mul_zero]
      by_cases c : j < wid a
      · rw [if_pos c, if_pos (by omega), show j - 0 = j by omega]
      · rw [if_neg c, if_neg (by omega)]
    have ag : agr (rv I (k + 1)) F := fun a h1 h2 j hj => by rw [hFr a h1 h2, if_pos hj]; rfl
    have hF1 : ∀ d, d < 43 → F (1 + d) = cpD I c_told t 51 (1 + d) := fun d hd => (hF _ (by omega)).trans ((hJ _ (by omega)).trans (fgw_row (by omega) (by omega) (by omega)))
    have ct : CT F 1 (rv I (k + 1)) := (q5.copy (d := c_told) q6.2.2.2.2.2.2.2.1 (by show t + 43 ≤ 1 ∨ 1 + 43 ≤ t; omega) (fun o j ho => hI.1.2.2.2.2.2.2 o j ho)).eq hF1 (fun _ _ _ => rfl)
    have hN : Now F := ⟨fun a j h1 h2 => by
      rw [hFr a h1 h2]
      split
      · exact hI.1.1 a _ h1 h2
      · exact hI.1.1 a _ h1 h2, q6.cong ag, ct.cong q6.2.2.2.2.2.2.2.1 ag⟩
    have h44 : ∀ a, 43 < a → a < 77 → F a = fgw (cpD I c_told t 51) a := fun a h1 h2 => (hF a (by omega)).trans (hJ a (by omega))
    have hc : ∀ a, 43 < a → a < 77 → cpD I c_told t 51 a = I a := fun a h1 h2 => cpD_out (by show a < 1 ∨ 1 + 43 ≤ a; omega) 51 (Nat.le_refl _)
    refine h _ _ (rel_new hI hN (fun c hc => ?_) (fun c hc => ?_) ?_ ?_ (Or.inl ?_) (q7.cong ag) (fun a ha => (hF a (by omega)).trans ((hJ a (by omega)).trans (hK a (by omega) (by omega) (by omega) (by omega)))) (fun a h1 h2 j hj => by rw [hFr a h1 h2, if_neg (by omega)]))
    · rw [h44 _ (by decide) (by decide)]; exact (congrFun (up_row (show c_now_knownTo ≠ c_walks by decide)) c).trans (fgt_1 hc)
    · rw [h44 _ (by decide) (by decide)]; exact (congrFun (up_row (show c_then_knownTo ≠ c_walks by decide)) c).trans (fgt_2 hc)
    · rw [h44 _ (by decide) (by decide), fgw_row (by decide) (by decide) (by decide), hc _ (by decide) (by decide)]
    · rw [h44 _ (by decide) (by decide), fgw_row (by decide) (by decide) (by decide), hc _ (by decide) (by decide)]
    · rw [h44 _ (by decide) (by decide)]; exact up_s _ _ _ _
end PIm
