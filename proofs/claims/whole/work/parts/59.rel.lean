/-! ===== printed by wip/gen59.py: what holds between the calls ===== -/
/-- what both sides hold alike: cell of a Told, place in it, row of the reference, how many -/
def plT : List (Nat × Nat × Nat × Nat) := [(0, 6, 79, 1), (0, 7, 80, 1), (0, 8, 81, 1), (0, 9, 82, 1), (0, 10, 83, 1), (1, 0, 84, 1), (2, 0, 86, 100), (8, 0, 87, 1), (9, 0, 88, 6), (10, 0, 89, 6), (11, 0, 90, 6), (1, 3, 91, 1), (3, 0, 92, 60), (4, 0, 93, 60), (5, 0, 94, 60), (6, 0, 95, 60), (7, 0, 96, 100), (8, 5, 97, 1), (13, 0, 98, 60), (14, 0, 99, 60), (15, 0, 100, 60), (16, 0, 101, 60), (17, 0, 102, 60), (18, 0, 103, 1), (19, 0, 104, 24), (20, 0, 105, 24), (21, 0, 106, 24), (22, 0, 107, 24), (23, 0, 108, 24), (18, 6, 109, 1), (24, 0, 110, 150), (25, 0, 111, 150), (26, 0, 112, 150), (27, 0, 113, 150), (28, 0, 114, 150), (29, 0, 115, 150), (30, 0, 116, 150), (31, 0, 117, 1), (12, 0, 125, 48), (39, 0, 126, 1), (40, 0, 127, 12), (41, 0, 128, 12)]
def Pl (I : XI) (t : Nat) (s : XI) : Prop := ∀ q ∈ plT, ∀ j, j < q.2.2.2 → I (t + q.1) (j + q.2.1) = s q.2.2.1 j
theorem pl_size {I s : XI} (h : Pl I 1 s) : I c_told 6 = s r_size 0 := h (0, 6, 79, 1) (by decide) 0 (by decide)
theorem pl_fault {I s : XI} (h : Pl I 1 s) : I c_told 7 = s r_fault 0 := h (0, 7, 80, 1) (by decide) 0 (by decide)
theorem pl_faultPlace {I s : XI} (h : Pl I 1 s) : I c_told 8 = s r_faultPlace 0 := h (0, 8, 81, 1) (by decide) 0 (by decide)
theorem pl_now {I s : XI} (h : Pl I 1 s) : I c_told 9 = s r_now 0 := h (0, 9, 82, 1) (by decide) 0 (by decide)
theorem pl_viewed {I s : XI} (h : Pl I 1 s) : I c_told 10 = s r_viewed 0 := h (0, 10, 83, 1) (by decide) 0 (by decide)
theorem pl_cells {I s : XI} (h : Pl I 1 s) : I c_land 0 = s r_cells 0 := h (1, 0, 84, 1) (by decide) 0 (by decide)
theorem pl_ways {I s : XI} (h : Pl I 1 s) : ∀ j, j < 100 → I c_land_ways j = s r_ways j := h (2, 0, 86, 100) (by decide)
theorem pl_camps {I s : XI} (h : Pl I 1 s) : I c_herds 0 = s r_camps 0 := h (8, 0, 87, 1) (by decide) 0 (by decide)
theorem pl_campTongue {I s : XI} (h : Pl I 1 s) : ∀ j, j < 6 → I c_herds_tongues j = s r_campTongue j := h (9, 0, 88, 6) (by decide)
theorem pl_campCell {I s : XI} (h : Pl I 1 s) : ∀ j, j < 6 → I c_herds_firstCells j = s r_campCell j := h (10, 0, 89, 6) (by decide)
theorem pl_campWeek {I s : XI} (h : Pl I 1 s) : ∀ j, j < 6 → I c_herds_firstWeeks j = s r_campWeek j := h (11, 0, 90, 6) (by decide)
theorem pl_grasses {I s : XI} (h : Pl I 1 s) : I c_land 3 = s r_grasses 0 := h (1, 3, 91, 1) (by decide) 0 (by decide)
theorem pl_grassCell {I s : XI} (h : Pl I 1 s) : ∀ j, j < 60 → I c_land_grassCells j = s r_grassCell j := h (3, 0, 92, 60) (by decide)
theorem pl_grassWeek {I s : XI} (h : Pl I 1 s) : ∀ j, j < 60 → I c_land_grassWeeks j = s r_grassWeek j := h (4, 0, 93, 60) (by decide)
theorem pl_grassIs {I s : XI} (h : Pl I 1 s) : ∀ j, j < 60 → I c_land_grassNumbers j = s r_grassIs j := h (5, 0, 94, 60) (by decide)
theorem pl_grassTold {I s : XI} (h : Pl I 1 s) : ∀ j, j < 60 → I c_land_grassTold j = s r_grassTold j := h (6, 0, 95, 60) (by decide)
theorem pl_dryWeek {I s : XI} (h : Pl I 1 s) : ∀ j, j < 100 → I c_land_dry j = s r_dryWeek j := h (7, 0, 96, 100) (by decide)
theorem pl_newsMany {I s : XI} (h : Pl I 1 s) : I c_herds 5 = s r_newsMany 0 := h (8, 5, 97, 1) (by decide) 0 (by decide)
theorem pl_newsCamp {I s : XI} (h : Pl I 1 s) : ∀ j, j < 60 → I c_herds_newsCamps j = s r_newsCamp j := h (13, 0, 98, 60) (by decide)
theorem pl_newsCell {I s : XI} (h : Pl I 1 s) : ∀ j, j < 60 → I c_herds_newsCells j = s r_newsCell j := h (14, 0, 99, 60) (by decide)
theorem pl_newsWeek {I s : XI} (h : Pl I 1 s) : ∀ j, j < 60 → I c_herds_newsWeeks j = s r_newsWeek j := h (15, 0, 100, 60) (by decide)
theorem pl_newsSeen {I s : XI} (h : Pl I 1 s) : ∀ j, j < 60 → I c_herds_newsSeen j = s r_newsSeen j := h (16, 0, 101, 60) (by decide)
theorem pl_newsTold {I s : XI} (h : Pl I 1 s) : ∀ j, j < 60 → I c_herds_newsTold j = s r_newsTold j := h (17, 0, 102, 60) (by decide)
theorem pl_books {I s : XI} (h : Pl I 1 s) : I c_shelf 0 = s r_books 0 := h (18, 0, 103, 1) (by decide) 0 (by decide)
theorem pl_bookKind {I s : XI} (h : Pl I 1 s) : ∀ j, j < 24 → I c_shelf_kinds j = s r_bookKind j := h (19, 0, 104, 24) (by decide)
theorem pl_bookTongue {I s : XI} (h : Pl I 1 s) : ∀ j, j < 24 → I c_shelf_tongues j = s r_bookTongue j := h (20, 0, 105, 24) (by decide)
theorem pl_bookLevel {I s : XI} (h : Pl I 1 s) : ∀ j, j < 24 → I c_shelf_levels j = s r_bookLevel j := h (21, 0, 106, 24) (by decide)
theorem pl_bookPages {I s : XI} (h : Pl I 1 s) : ∀ j, j < 24 → I c_shelf_pages j = s r_bookPages j := h (22, 0, 107, 24) (by decide)
theorem pl_bookGrams {I s : XI} (h : Pl I 1 s) : ∀ j, j < 24 → I c_shelf_grams j = s r_bookGrams j := h (23, 0, 108, 24) (by decide)
theorem pl_acts {I s : XI} (h : Pl I 1 s) : I c_shelf 6 = s r_acts 0 := h (18, 6, 109, 1) (by decide) 0 (by decide)
theorem pl_actBook {I s : XI} (h : Pl I 1 s) : ∀ j, j < 150 → I c_shelf_actBooks j = s r_actBook j := h (24, 0, 110, 150) (by decide)
theorem pl_actKind {I s : XI} (h : Pl I 1 s) : ∀ j, j < 150 → I c_shelf_actKinds j = s r_actKind j := h (25, 0, 111, 150) (by decide)
theorem pl_actCamp {I s : XI} (h : Pl I 1 s) : ∀ j, j < 150 → I c_shelf_actCamps j = s r_actCamp j := h (26, 0, 112, 150) (by decide)
theorem pl_actWeek {I s : XI} (h : Pl I 1 s) : ∀ j, j < 150 → I c_shelf_actWeeks j = s r_actWeek j := h (27, 0, 113, 150) (by decide)
theorem pl_actTold {I s : XI} (h : Pl I 1 s) : ∀ j, j < 150 → I c_shelf_actTold j = s r_actTold j := h (28, 0, 114, 150) (by decide)
theorem pl_actMany {I s : XI} (h : Pl I 1 s) : ∀ j, j < 150 → I c_shelf_actAmounts j = s r_actMany j := h (29, 0, 115, 150) (by decide)
theorem pl_actCost {I s : XI} (h : Pl I 1 s) : ∀ j, j < 150 → I c_shelf_actCosts j = s r_actCost j := h (30, 0, 116, 150) (by decide)
theorem pl_lines {I s : XI} (h : Pl I 1 s) : I c_rules 0 = s r_lines 0 := h (31, 0, 117, 1) (by decide) 0 (by decide)
theorem pl_wishes {I s : XI} (h : Pl I 1 s) : ∀ j, j < 48 → I c_herds_wishes j = s r_wishes j := h (12, 0, 125, 48) (by decide)
theorem pl_readers {I s : XI} (h : Pl I 1 s) : I c_readers 0 = s r_readers 0 := h (39, 0, 126, 1) (by decide) 0 (by decide)
theorem pl_readerCamp {I s : XI} (h : Pl I 1 s) : ∀ j, j < 12 → I c_readers_camps j = s r_readerCamp j := h (40, 0, 127, 12) (by decide)
theorem pl_readerBooks {I s : XI} (h : Pl I 1 s) : ∀ j, j < 12 → I c_readers_books j = s r_readerBooks j := h (41, 0, 128, 12) (by decide)
def bitI (w : Int) (c : Nat) : Int := w / 2 ^ c % 2
/-- the reference's number of a FACT -/
def subR (s : Int) : Int := if s < 3 then s + 7 else s - 3
/-- the class' Told at t, and the reference's rows s -/
def CT (I : XI) (t : Nat) (s : XI) : Prop := Pl I t s ∧ ((0 ≤ I (t + 1) 1 ∧ I (t + 1) 1 < 1024) ∧ ∀ c, c < 10 → bitI (I (t + 1) 1) c = s r_wells c) ∧ (∀ j, j < 500 → (0 ≤ I (t + 42) j ∧ I (t + 42) j ≤ 255) ∧ s r_tape j = (I (t + 42) j).bmod 256) ∧ (∀ l : Nat, (l : Int) < s r_lines 0 → I (t + 32) l = s r_lineAct l ∧ I (t + 33) l = s r_lineNumber l ∧ I (t + 34) l = s r_lineTests l ∧ ∀ i : Nat, (i : Int) < s r_lineTests l → I (t + 35) (l * 4 + i) = s r_testNot (l * 4 + i) ∧ s r_testWhat (l * 4 + i) = subR (I (t + 36) (l * 4 + i)) ∧ (0 ≤ I (t + 36) (l * 4 + i) ∧ I (t + 36) (l * 4 + i) ≤ 9) ∧ I (t + 37) (l * 4 + i) = s r_testSign (l * 4 + i) ∧ I (t + 38) (l * 4 + i) = s r_testThan (l * 4 + i)) ∧ ∀ d j, d < 43 → InR (I (t + d) j)
/-! what the reference's rows keep to -/
def gSc (s : XI) : Prop := (0 ≤ s r_now 0 ∧ s r_now 0 ≤ 99) ∧ (-1 ≤ s r_viewed 0 ∧ s r_viewed 0 ≤ s r_now 0) ∧ 0 ≤ s r_size 0 ∧ s r_size 0 ≤ 500
def gLa (s : XI) : Prop := (0 ≤ s r_cells 0 ∧ s r_cells 0 ≤ 10) ∧ (∀ j, j < 100 → 0 ≤ s r_ways j ∧ s r_ways j ≤ 9) ∧ (∀ a b, a < 10 → b < 10 → s r_ways (a * 10 + b) = s r_ways (b * 10 + a)) ∧ (∀ a b : Nat, a < 10 → b < 10 → (s r_cells 0 ≤ a ∨ s r_cells 0 ≤ b) → s r_ways (a * 10 + b) = 0) ∧ (∀ c, c < 10 → s r_wells c = 0 ∨ s r_wells c = 1) ∧ (∀ c : Nat, s r_cells 0 ≤ c → c < 10 → s r_wells c = 0) ∧ ∀ j, j < 100 → s r_dryWeek j = 0 ∨ s r_dryWeek j = 1
def gGr (s : XI) : Prop := (0 ≤ s r_grasses 0 ∧ s r_grasses 0 ≤ 60) ∧ ∀ j : Nat, (j : Int) < s r_grasses 0 → (0 ≤ s r_grassCell j ∧ s r_grassCell j < s r_cells 0) ∧ (0 ≤ s r_grassWeek j ∧ s r_grassWeek j ≤ 99) ∧ (0 ≤ s r_grassIs j ∧ s r_grassIs j ≤ 99) ∧ 0 ≤ s r_grassTold j ∧ s r_grassTold j ≤ s r_now 0
def gCa (s : XI) : Prop := (0 ≤ s r_camps 0 ∧ s r_camps 0 ≤ 6) ∧ (∀ j : Nat, (j : Int) < s r_camps 0 → (0 ≤ s r_campTongue j ∧ s r_campTongue j ≤ 3) ∧ (0 ≤ s r_campCell j ∧ s r_campCell j < s r_cells 0) ∧ 0 ≤ s r_campWeek j ∧ s r_campWeek j ≤ s r_now 0) ∧ ∀ j, j < 48 → 0 ≤ s r_wishes j ∧ s r_wishes j ≤ 99
def gNe (s : XI) : Prop := (0 ≤ s r_newsMany 0 ∧ s r_newsMany 0 ≤ 60) ∧ ∀ j : Nat, (j : Int) < s r_newsMany 0 → (0 ≤ s r_newsCamp j ∧ s r_newsCamp j < s r_camps 0) ∧ (0 ≤ s r_newsCell j ∧ s r_newsCell j < s r_cells 0) ∧ (0 ≤ s r_newsWeek j ∧ s r_newsWeek j ≤ s r_now 0) ∧ (s r_newsSeen j = 0 ∨ s r_newsSeen j = 1) ∧ 0 ≤ s r_newsTold j ∧ s r_newsTold j ≤ s r_now 0
def gBo (s : XI) : Prop := (0 ≤ s r_books 0 ∧ s r_books 0 ≤ 24) ∧ ∀ j : Nat, (j : Int) < s r_books 0 → (0 ≤ s r_bookKind j ∧ s r_bookKind j ≤ 7) ∧ (0 ≤ s r_bookTongue j ∧ s r_bookTongue j ≤ 3) ∧ (0 ≤ s r_bookLevel j ∧ s r_bookLevel j ≤ 9) ∧ (1 ≤ s r_bookPages j ∧ s r_bookPages j ≤ 400) ∧ 1 ≤ s r_bookGrams j ∧ s r_bookGrams j ≤ 2000
def gAc (s : XI) : Prop := (0 ≤ s r_acts 0 ∧ s r_acts 0 ≤ 150) ∧ ∀ j : Nat, (j : Int) < s r_acts 0 → (0 ≤ s r_actBook j ∧ s r_actBook j < s r_books 0) ∧ (0 ≤ s r_actKind j ∧ s r_actKind j ≤ 3) ∧ (s r_actKind j = 2 → s r_actCamp j = -1) ∧ (s r_actKind j ≠ 2 → 0 ≤ s r_actCamp j ∧ s r_actCamp j < s r_camps 0) ∧ (0 ≤ s r_actWeek j ∧ s r_actWeek j ≤ s r_now 0) ∧ (0 ≤ s r_actTold j ∧ s r_actTold j ≤ s r_now 0) ∧ (s r_actKind j = 0 → 1 ≤ s r_actMany j ∧ s r_actMany j ≤ 99) ∧ (s r_actKind j = 3 → 1 ≤ s r_actMany j ∧ s r_actMany j ≤ 400) ∧ (s r_actKind j = 1 → ∃ i, i < j ∧ s r_actKind i = 0 ∧ s r_actBook i = s r_actBook j ∧ s r_actWeek i ≤ s r_actWeek j ∧ s r_actTold i ≤ s r_actTold j)
def gRu (s : XI) : Prop := (0 ≤ s r_lines 0 ∧ s r_lines 0 ≤ 16) ∧ ∀ l : Nat, (l : Int) < s r_lines 0 → (0 ≤ s r_lineAct l ∧ s r_lineAct l ≤ 2) ∧ (s r_lineAct l = 1 → 1 ≤ s r_lineNumber l ∧ s r_lineNumber l ≤ 99) ∧ (0 ≤ s r_lineNumber l ∧ s r_lineNumber l ≤ 9999) ∧ (0 ≤ s r_lineTests l ∧ s r_lineTests l ≤ 4) ∧ ∀ i : Nat, (i : Int) < s r_lineTests l → s r_testNot (l * 4 + i) = 0 ∨ s r_testNot (l * 4 + i) = 1
def gRe (s : XI) : Prop := (0 ≤ s r_readers 0 ∧ s r_readers 0 ≤ 12) ∧ ∀ j : Nat, (j : Int) < s r_readers 0 → (0 ≤ s r_readerCamp j ∧ s r_readerCamp j < s r_camps 0) ∧ 0 ≤ s r_readerBooks j ∧ s r_readerBooks j < 16777216
def Good (s : XI) : Prop := gSc s ∧ gLa s ∧ gGr s ∧ gCa s ∧ gNe s ∧ gBo s ∧ gAc s ∧ gRu s ∧ gRe s
abbrev nC (I : XI) : Nat := (I r_cells 0).toNat
abbrev nG (I : XI) : Nat := (I r_grasses 0).toNat
abbrev nN (I : XI) : Nat := (I r_newsMany 0).toNat
abbrev nM (I : XI) : Nat := (I r_camps 0).toNat
abbrev nB (I : XI) : Nat := (I r_books 0).toNat
abbrev nA (I : XI) : Nat := (I r_acts 0).toNat
abbrev nR (I : XI) : Nat := (I r_readers 0).toNat
abbrev nL (I : XI) : Nat := (I r_lines 0).toNat
/-- the class' main Told against the reference's first row -/
def Now (I : XI) : Prop := okR I ∧ Good I ∧ CT I 1 I
theorem Now.okC {I : XI} (h : Now I) (h0 : ∀ j, InR (I 0 j)) : okC I := fun a j ha => by
  by_cases e : a = 0
  · subst e; exact h0 j
  · have := h.2.2.2.2.2.2 (a - 1) j (by omega)
    rw [show 1 + (a - 1) = a by omega] at this; exact this
theorem nC_c {I : XI} (h : Good I) : I r_cells 0 = ((nC I : Nat) : Int) ∧ nC I ≤ 10 := by have := h.2.1.1; exact ⟨(Int.toNat_of_nonneg this.1).symm, by show (I r_cells 0).toNat ≤ 10; omega⟩
theorem nG_c {I : XI} (h : Good I) : I r_grasses 0 = ((nG I : Nat) : Int) ∧ nG I ≤ 60 := by have := h.2.2.1.1; exact ⟨(Int.toNat_of_nonneg this.1).symm, by show (I r_grasses 0).toNat ≤ 60; omega⟩
theorem nM_c {I : XI} (h : Good I) : I r_camps 0 = ((nM I : Nat) : Int) ∧ nM I ≤ 6 := by have := h.2.2.2.1.1; exact ⟨(Int.toNat_of_nonneg this.1).symm, by show (I r_camps 0).toNat ≤ 6; omega⟩
theorem nN_c {I : XI} (h : Good I) : I r_newsMany 0 = ((nN I : Nat) : Int) ∧ nN I ≤ 60 := by have := h.2.2.2.2.1.1; exact ⟨(Int.toNat_of_nonneg this.1).symm, by show (I r_newsMany 0).toNat ≤ 60; omega⟩
theorem nB_c {I : XI} (h : Good I) : I r_books 0 = ((nB I : Nat) : Int) ∧ nB I ≤ 24 := by have := h.2.2.2.2.2.1.1; exact ⟨(Int.toNat_of_nonneg this.1).symm, by show (I r_books 0).toNat ≤ 24; omega⟩
theorem nA_c {I : XI} (h : Good I) : I r_acts 0 = ((nA I : Nat) : Int) ∧ nA I ≤ 150 := by have := h.2.2.2.2.2.2.1.1; exact ⟨(Int.toNat_of_nonneg this.1).symm, by show (I r_acts 0).toNat ≤ 150; omega⟩
theorem nL_c {I : XI} (h : Good I) : I r_lines 0 = ((nL I : Nat) : Int) ∧ nL I ≤ 16 := by have := h.2.2.2.2.2.2.2.1.1; exact ⟨(Int.toNat_of_nonneg this.1).symm, by show (I r_lines 0).toNat ≤ 16; omega⟩
theorem nR_c {I : XI} (h : Good I) : I r_readers 0 = ((nR I : Nat) : Int) ∧ nR I ≤ 12 := by have := h.2.2.2.2.2.2.2.2.1; exact ⟨(Int.toNat_of_nonneg this.1).symm, by show (I r_readers 0).toNat ≤ 12; omega⟩
theorem Now.PtOk {I : XI} (h : Now I) : PtOk (Xof I) (nC I) (nG I) (nN I) := by
  obtain ⟨hR, hG, hP, hrest⟩ := h
  have c1 := nC_c hG
  have c2 := nG_c hG
  have c3 := nN_c hG
  obtain ⟨g1, g2, g3, g4, g5, g6⟩ := hG
  have hw : ∀ j, j < 100 → Xof I 0 j = I r_ways j := pl_ways hP
  have b1 : ∀ j, j < 60 → Xof I 1 j = I r_grassCell j := pl_grassCell hP
  have b2 : ∀ j, j < 60 → Xof I 2 j = I r_grassWeek j := pl_grassWeek hP
  have b3 : ∀ j, j < 60 → Xof I 3 j = I r_grassIs j := pl_grassIs hP
  have b4 : ∀ j, j < 60 → Xof I 4 j = I r_grassTold j := pl_grassTold hP
  have b5 : ∀ j, j < 60 → Xof I 5 j = I r_newsCamp j := pl_newsCamp hP
  have b6 : ∀ j, j < 60 → Xof I 6 j = I r_newsCell j := pl_newsCell hP
  have b7 : ∀ j, j < 60 → Xof I 7 j = I r_newsWeek j := pl_newsWeek hP
  have b8 : ∀ j, j < 60 → Xof I 8 j = I r_newsSeen j := pl_newsSeen hP
  have b9 : ∀ j, j < 60 → Xof I 9 j = I r_newsTold j := pl_newsTold hP
  refine ⟨c1.2, c2.2, c3.2, fun j hj => ?_, fun c j h1 h2 h3 => ?_, fun j hj => ?_, fun j hj => ?_, fun j hj => ?_, fun j hj => ?_, fun j hj => ?_, fun j hj => ?_⟩
  · rw [hw j hj]; exact hR _ _ (by decide) (by decide)
  · rw [hw _ (by omega), g2.2.2.2.1 c j h1 h3 (by omega)]; exact Int.le_refl _
  · rw [b1 j (by omega)]; have := g3.2 j (by omega); have := g2.1; omega
  · rw [b2 j (by omega)]; have := g3.2 j (by omega); omega
  · rw [b3 j (by omega)]; have := g3.2 j (by omega); omega
  · rw [b4 j (by omega)]; exact hR _ _ (by decide) (by decide)
  · rw [b5 j (by omega), b7 j (by omega), b8 j (by omega), b9 j (by omega)]
    exact ⟨hR _ _ (by decide) (by decide), hR _ _ (by decide) (by decide), hR _ _ (by decide) (by decide), hR _ _ (by decide) (by decide)⟩
  · rw [b6 j (by omega)]; have := g5.2 j (by omega); omega
theorem Now.XR {I : XI} (h : Now I) : XR I (Xof I) (nG I) (nN I) := by
  obtain ⟨hR, hG, hP, hrest⟩ := h
  have c2 := nG_c hG
  have c3 := nN_c hG
  refine ⟨fun j hj => (pl_ways hP j hj).symm, fun j hj => ⟨(pl_grassCell hP j (by omega)).symm, (pl_grassWeek hP j (by omega)).symm, (pl_grassIs hP j (by omega)).symm, (pl_grassTold hP j (by omega)).symm⟩, fun j hj => ⟨(pl_newsCamp hP j (by omega)).symm, (pl_newsCell hP j (by omega)).symm, (pl_newsWeek hP j (by omega)).symm, (pl_newsSeen hP j (by omega)).symm, (pl_newsTold hP j (by omega)).symm⟩, fun j hj => ?_⟩
  have e : Xof I 8 j = I r_newsSeen j := pl_newsSeen hP j (by omega)
  rw [e]; exact (hG.2.2.2.2.1.2 j (by omega)).2.2.2.1
theorem Now.CP {I : XI} (h : Now I) : CP I (nC I) (nG I) (nN I) (nM I) := by
  have hP := h.2.2.1
  have hG := h.2.1
  have c1 := nC_c hG
  have c2 := nG_c hG
  have c3 := nN_c hG
  have c4 := nM_c hG
  refine ⟨(pl_cells hP).trans c1.1, (pl_grasses hP).trans c2.1, (pl_newsMany hP).trans c3.1, (pl_camps hP).trans c4.1, c4.2, h.PtOk, fun c hc => ?_⟩
  rw [pl_campCell hP c (by omega), pl_campWeek hP c (by omega)]
  have := hG.2.2.2.1.2.1 c (by omega)
  have := hG.1.1
  omega
theorem Now.lims {I : XI} (h : Now I) {a b : Int} (ha : I r_now 0 ≤ a) (hb : I r_now 0 ≤ b) : (∀ j, j < nG I → Xof I 4 j ≤ a ∧ Xof I 4 j ≤ b) ∧ ∀ j, j < nN I → Xof I 9 j ≤ a ∧ Xof I 9 j ≤ b := by
  have hP := h.2.2.1
  have hG := h.2.1
  have c2 := nG_c hG
  have c3 := nN_c hG
  refine ⟨fun j hj => ?_, fun j hj => ?_⟩
  · have e : Xof I 4 j = I r_grassTold j := pl_grassTold hP j (by omega)
    rw [e]; have := hG.2.2.1.2 j (by omega); omega
  · have e : Xof I 9 j = I r_newsTold j := pl_newsTold hP j (by omega)
    rw [e]; have := hG.2.2.2.2.1.2 j (by omega); omega
/-- the class' limit; the reference's is viewR -/
def limC (I : XI) : Int := if I r_viewed 0 = -1 then 99 else I r_viewed 0
theorem limC_in {I : XI} (h : Good I) : 0 ≤ limC I ∧ limC I ≤ 99 := by
  have := h.1
  unfold gSc at this
  unfold limC; split <;> omega
section PL
variable {G : XG} {S : XS}
theorem s_H_limit {I : XI} {R : Int → XI → Prop} (hS : xSh S) (h : Now I) (hk : R (limC I) I) : H_limit G S I R := by
  refine b_H_limit hS ?_
  rw [pl_viewed h.2.2.1, w32_r (h.1 _ _ (by decide) (by decide)), show w32 (-1) = -1 from rfl]
  unfold limC at hk
  exact ⟨fun e => by rw [if_pos e] at hk; exact hk, fun e => by rw [if_neg e] at hk; exact hk⟩
end PL
/-- class and reference look at one and the same: limC against viewR -/
theorem Now.lim2 {I : XI} (h : Now I) : limC I = viewR I ∨ (I r_now 0 ≤ limC I ∧ I r_now 0 ≤ viewR I) := by
  have := h.2.1.1
  unfold gSc at this
  unfold limC viewR
  split
  · right; omega
  · left; rfl
theorem Now.pt {I : XI} (h : Now I) (c fc f d : Nat) : ptA (Xof I) (nC I) (nG I) (nN I) c (limC I) fc f d = ptA (Xof I) (nC I) (nG I) (nN I) c (viewR I) fc f d := by
  rcases h.lim2 with e | ⟨a, b⟩
  · rw [e]
  · obtain ⟨l1, l2⟩ := h.lims a b
    exact ptA_lim l1 l2 d
theorem Now.pt99 {I : XI} (h : Now I) (c fc f d : Nat) : ptA (Xof I) (nC I) (nG I) (nN I) c 99 fc f d = ptA (Xof I) (nC I) (nG I) (nN I) c (I r_now 0) fc f d := by
  have := h.2.1.1
  unfold gSc at this
  obtain ⟨l1, l2⟩ := h.lims (a := 99) (b := I r_now 0) (by omega) (Int.le_refl _)
  exact ptA_lim l1 l2 d
