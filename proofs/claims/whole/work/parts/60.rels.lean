/-! ===== printed by wip/gen60.py: Rel, and how what is told changes ===== -/
def widL : List Nat := [500, 1, 1, 1, 1, 1, 1, 10, 100, 1, 6, 6, 6, 1, 60, 60, 60, 60, 100, 1, 60, 60, 60, 60, 60, 1, 24, 24, 24, 24, 24, 1, 150, 150, 150, 150, 150, 150, 150, 1, 16, 16, 16, 64, 64, 64, 64, 48, 1, 12, 12]
def wid (a : Nat) : Nat := widL.getD (a - 78) 0
/-- the reference's r-th row of everything: row 0 is what is told, the others are images -/
def rv (I : XI) (r : Nat) : XI := fun a j => I a (wid a * r + j)
/-! fewest days -/
def flP (D : Nat → Int) (o : Nat) : Nat → Int := fun k => if D (k / 10 * 10 + o) + D (o * 10 + k % 10) < D k then D (k / 10 * 10 + o) + D (o * 10 + k % 10) else D k
def flN (D : Nat → Int) : Nat → Nat → Int
  | 0 => D
  | n + 1 => flP (flN D n) n
def fl0 (F : Int) (Wy : Nat → Int) : Nat → Int := fun k => if k / 10 = k % 10 then 0 else if 0 < Wy k then Wy k else F
/-- the least of F and those f t of which P t holds -/
def mnT (F : Int) (P : Nat → Prop) [DecidablePred P] (f : Nat → Int) : Nat → Int
  | 0 => F
  | n + 1 => if P n then (if f n < mnT F P f n then f n else mnT F P f n) else mnT F P f n
abbrev hasS (s t : Nat) : Prop := 1 ≤ t ∧ s / 2 ^ (t - 1) % 2 = 1
def woS (s t : Nat) : Nat := s - 2 ^ (t - 1)
def allW (w : Int) (s : Nat) : Prop := ∀ t, t < 10 → hasS s t → bitI w t = 1
/-- fewest days home, by set and CELL -/
def hmOk (w : Int) (D H : Nat → Int) : Prop := ∀ s c, s < 512 → c < 10 → (allW w s → H (s * 10 + c) = if s = 0 then D (c * 10) else mnT 100000 (fun t => hasS s t) (fun t => D (c * 10 + t) + H (woS s t * 10 + t)) 10) ∧ (¬ allW w s → H (s * 10 + c) = 100000)
/-- the class' walks, if they are known, are true -/
def WkOk (I : XI) : Prop := I c_walks 6 = 0 ∨ (I c_walks 6 = 1 ∧ (∀ k, k < 100 → I c_walks_days k = flN (fl0 100000 (I c_land_ways)) 10 k) ∧ hmOk (I c_land 1) (I c_walks_days) (I c_walks_home))
/-- flags of every place, also beyond the counts -/
def FlR (s : XI) : Prop := (∀ j, j < 60 → s r_newsSeen j = 0 ∨ s r_newsSeen j = 1) ∧ ∀ j, j < 64 → s r_testNot j = 0 ∨ s r_testNot j = 1
theorem FlR.eq {s s' : XI} (h : FlR s) (e1 : s' r_newsSeen = s r_newsSeen) (e2 : s' r_testNot = s r_testNot) : FlR s' := by
  unfold FlR at h ⊢
  rw [e1, e2]; exact h
/-- what the two readers of RULES keep from call to call -/
def Scr (I : XI) : Prop := (∀ a j, ((64 < a ∧ a < 72) ∨ (134 < a ∧ a < 142)) → InR (I a j)) ∧ ∀ j, I r_newNot j = 0 ∨ I r_newNot j = 1
theorem Scr.eq {I J : XI} (h : Scr I) (e : ∀ a, ((64 < a ∧ a < 72) ∨ (134 < a ∧ a < 142)) → J a = I a) : Scr J :=
  ⟨fun a j ha => by rw [e a ha]; exact h.1 a j ha, fun j => by rw [e r_newNot (by decide)]; exact h.2 j⟩
/-- images -/
def Img (S : XS) (I : XI) : Prop := (FlR I ∧ Scr I) ∧ ∃ T : Nat → Nat, (∀ k, k < 3 → (I r_kept k = 0 ∧ xref S c_images k = 0) ∨ (I r_kept k = 1 ∧ 147 ≤ T k ∧ xref S c_images k = T k + 1 ∧ ToldAt S (T k) ∧ CT I (T k) (rv I (k + 1)) ∧ Good (rv I (k + 1)) ∧ FlR (rv I (k + 1)))) ∧ ∀ k k', k < 3 → k' < 3 → k ≠ k' → I r_kept k = 1 → I r_kept k' = 1 → T k + 43 ≤ T k' ∨ T k' + 43 ≤ T k
/-- what holds between the calls -/
def Rel (S : XS) (I : XI) : Prop := Now I ∧ Cach I (nC I) (nG I) (nN I) (nM I) ∧ WkOk I ∧ Img S I ∧ ∀ j, InR (I 0 j)
theorem up_cong {I J : XI} {i j : Nat} {z : Int} {a : Nat} (h : I a = J a) : up I i j z a = up J i j z a := by
  funext b
  unfold up
  rw [h]
theorem gSc.mono {s s' : XI} (h : gSc s) (h82 : s' r_now = s r_now) (h83 : s' r_viewed = s r_viewed) (h79 : s' r_size = s r_size)  : gSc s' := by
  unfold gSc at h ⊢
  rw [h82, h83, h79]
  exact h
theorem gLa.mono {s s' : XI} (h : gLa s) (h84 : s' r_cells = s r_cells) (h86 : s' r_ways = s r_ways) (h85 : s' r_wells = s r_wells) (h96 : s' r_dryWeek = s r_dryWeek)  : gLa s' := by
  unfold gLa at h ⊢
  rw [h84, h86, h85, h96]
  exact h
theorem gGr.mono {s s' : XI} (h : gGr s) (h91 : s' r_grasses = s r_grasses) (h92 : s' r_grassCell = s r_grassCell) (h93 : s' r_grassWeek = s r_grassWeek) (h94 : s' r_grassIs = s r_grassIs) (h95 : s' r_grassTold = s r_grassTold) (m84 : s r_cells 0 ≤ s' r_cells 0) (m82 : s r_now 0 ≤ s' r_now 0) : gGr s' := by
  unfold gGr at h ⊢
  rw [h91, h92, h93, h94, h95]
  refine ⟨h.1, fun j hj => ?_⟩
  have := h.2 j hj
  omega
theorem gCa.mono {s s' : XI} (h : gCa s) (h87 : s' r_camps = s r_camps) (h88 : s' r_campTongue = s r_campTongue) (h89 : s' r_campCell = s r_campCell) (h90 : s' r_campWeek = s r_campWeek) (h125 : s' r_wishes = s r_wishes) (m84 : s r_cells 0 ≤ s' r_cells 0) (m82 : s r_now 0 ≤ s' r_now 0) : gCa s' := by
  unfold gCa at h ⊢
  rw [h87, h88, h89, h90, h125]
  refine ⟨h.1, fun j hj => ?_, h.2.2⟩
  have := h.2.1 j hj
  omega
theorem gNe.mono {s s' : XI} (h : gNe s) (h97 : s' r_newsMany = s r_newsMany) (h98 : s' r_newsCamp = s r_newsCamp) (h99 : s' r_newsCell = s r_newsCell) (h100 : s' r_newsWeek = s r_newsWeek) (h101 : s' r_newsSeen = s r_newsSeen) (h102 : s' r_newsTold = s r_newsTold) (m87 : s r_camps 0 ≤ s' r_camps 0) (m84 : s r_cells 0 ≤ s' r_cells 0) (m82 : s r_now 0 ≤ s' r_now 0) : gNe s' := by
  unfold gNe at h ⊢
  rw [h97, h98, h99, h100, h101, h102]
  refine ⟨h.1, fun j hj => ?_⟩
  obtain ⟨a1, a2, a3, a4, a5⟩ := h.2 j hj
  exact ⟨by omega, by omega, by omega, a4, by omega⟩
theorem gBo.mono {s s' : XI} (h : gBo s) (h103 : s' r_books = s r_books) (h104 : s' r_bookKind = s r_bookKind) (h105 : s' r_bookTongue = s r_bookTongue) (h106 : s' r_bookLevel = s r_bookLevel) (h107 : s' r_bookPages = s r_bookPages) (h108 : s' r_bookGrams = s r_bookGrams)  : gBo s' := by
  unfold gBo at h ⊢
  rw [h103, h104, h105, h106, h107, h108]
  exact h
theorem gAc.mono {s s' : XI} (h : gAc s) (h109 : s' r_acts = s r_acts) (h110 : s' r_actBook = s r_actBook) (h111 : s' r_actKind = s r_actKind) (h112 : s' r_actCamp = s r_actCamp) (h113 : s' r_actWeek = s r_actWeek) (h114 : s' r_actTold = s r_actTold) (h115 : s' r_actMany = s r_actMany) (h116 : s' r_actCost = s r_actCost) (m103 : s r_books 0 ≤ s' r_books 0) (m87 : s r_camps 0 ≤ s' r_camps 0) (m82 : s r_now 0 ≤ s' r_now 0) : gAc s' := by
  unfold gAc at h ⊢
  rw [h109, h110, h111, h112, h113, h114, h115]
  refine ⟨h.1, fun j hj => ?_⟩
  obtain ⟨a1, a2, a3, a4, a5, a6, a7, a8, a9⟩ := h.2 j hj
  exact ⟨by omega, a2, a3, fun e => by have := a4 e; omega, by omega, by omega, a7, a8, a9⟩
theorem gRu.mono {s s' : XI} (h : gRu s) (h117 : s' r_lines = s r_lines) (h118 : s' r_lineAct = s r_lineAct) (h119 : s' r_lineNumber = s r_lineNumber) (h120 : s' r_lineTests = s r_lineTests) (h121 : s' r_testWhat = s r_testWhat) (h124 : s' r_testNot = s r_testNot)  : gRu s' := by
  unfold gRu at h ⊢
  rw [h117, h118, h119, h120, h124]
  exact h
theorem gRe.mono {s s' : XI} (h : gRe s) (h126 : s' r_readers = s r_readers) (h127 : s' r_readerCamp = s r_readerCamp) (h128 : s' r_readerBooks = s r_readerBooks) (m87 : s r_camps 0 ≤ s' r_camps 0) : gRe s' := by
  unfold gRe at h ⊢
  rw [h126, h127, h128]
  refine ⟨h.1, fun j hj => ?_⟩
  have := h.2 j hj
  omega
theorem Good.eq {s s' : XI} (h : Good s) (e : ∀ a, 77 < a → a < 129 → s' a = s a) : Good s' := by
  obtain ⟨h1, h2, h3, h4, h5, h6, h7, h8, h9⟩ := h
  have z : ∀ a, 77 < a → a < 129 → s a 0 ≤ s' a 0 := fun a ha hb => by rw [e a ha hb]; exact Int.le_refl _
  exact ⟨h1.mono (e _ (by decide) (by decide)) (e _ (by decide) (by decide)) (e _ (by decide) (by decide)), h2.mono (e _ (by decide) (by decide)) (e _ (by decide) (by decide)) (e _ (by decide) (by decide)) (e _ (by decide) (by decide)),
    h3.mono (e _ (by decide) (by decide)) (e _ (by decide) (by decide)) (e _ (by decide) (by decide)) (e _ (by decide) (by decide)) (e _ (by decide) (by decide)) (z _ (by decide) (by decide)) (z _ (by decide) (by decide)),
    h4.mono (e _ (by decide) (by decide)) (e _ (by decide) (by decide)) (e _ (by decide) (by decide)) (e _ (by decide) (by decide)) (e _ (by decide) (by decide)) (z _ (by decide) (by decide)) (z _ (by decide) (by decide)),
    h5.mono (e _ (by decide) (by decide)) (e _ (by decide) (by decide)) (e _ (by decide) (by decide)) (e _ (by decide) (by decide)) (e _ (by decide) (by decide)) (e _ (by decide) (by decide)) (z _ (by decide) (by decide)) (z _ (by decide) (by decide)) (z _ (by decide) (by decide)),
    h6.mono (e _ (by decide) (by decide)) (e _ (by decide) (by decide)) (e _ (by decide) (by decide)) (e _ (by decide) (by decide)) (e _ (by decide) (by decide)) (e _ (by decide) (by decide)),
    h7.mono (e _ (by decide) (by decide)) (e _ (by decide) (by decide)) (e _ (by decide) (by decide)) (e _ (by decide) (by decide)) (e _ (by decide) (by decide)) (e _ (by decide) (by decide)) (e _ (by decide) (by decide)) (e _ (by decide) (by decide)) (z _ (by decide) (by decide)) (z _ (by decide) (by decide)) (z _ (by decide) (by decide)),
    h8.mono (e _ (by decide) (by decide)) (e _ (by decide) (by decide)) (e _ (by decide) (by decide)) (e _ (by decide) (by decide)) (e _ (by decide) (by decide)) (e _ (by decide) (by decide)),
    h9.mono (e _ (by decide) (by decide)) (e _ (by decide) (by decide)) (e _ (by decide) (by decide)) (z _ (by decide) (by decide))⟩
theorem plT_ok : ∀ q ∈ plT, q.1 < 43 ∧ 77 < q.2.2.1 ∧ q.2.2.1 < 129 ∧ q.2.2.2 = wid q.2.2.1 := by decide +kernel
theorem plT_apart : ∀ q ∈ plT, ∀ q' ∈ plT, q = q' ∨ (q'.2.2.1 ≠ q.2.2.1 ∧ (q'.1 ≠ q.1 ∨ q'.2.1 + q'.2.2.2 ≤ q.2.1 ∨ q.2.1 + q.2.2.2 ≤ q'.2.1)) := by decide +kernel
theorem Pl.eq {I I' s s' : XI} {t : Nat} (h : Pl I t s) (e1 : ∀ d, d < 43 → I' (t + d) = I (t + d)) (e2 : ∀ a, 77 < a → a < 129 → s' a = s a) : Pl I' t s' := by
  intro q hq j hj
  obtain ⟨o1, o2, o3, o4⟩ := plT_ok q hq
  rw [e1 _ o1, e2 _ o2 o3]; exact h q hq j hj
/-- what is told on both sides at one place -/
theorem Pl.up2 {I s : XI} {t : Nat} (h : Pl I t s) (d o r n : Nat) {j : Nat} {z : Int} (hq : (d, o, r, n) ∈ plT) (hj : j < n) : Pl (up I (t + d) (j + o) z) t (up s r j z) := by
  intro q' hq' j' hj'
  rcases plT_apart _ hq _ hq' with e | ⟨e1, e2⟩
  · subst e
    show up I (t + d) (j + o) z (t + d) (j' + o) = up s r j z r j'
    by_cases ej : j' = j
    · rw [ej, up_s, up_s]
    · rw [up_2 _ (by omega), up_2 _ ej]; exact h _ hq' j' hj'
  · rw [up_1 (a := q'.2.2.1) _ e1]
    have hh := h q' hq' j' hj'
    by_cases ed : q'.1 = d
    · rw [up_2 _ (by have : (q'.2.1 + q'.2.2.2 ≤ o ∨ o + n ≤ q'.2.1) := by (rcases e2 with e2 | e2 | e2); exact absurd ed e2; exact Or.inl e2; exact Or.inr e2
                     omega)]; exact hh
    · rw [up_1 _ (by omega)]; exact hh
theorem CT.eq {I I' s s' : XI} {t : Nat} (h : CT I t s) (e1 : ∀ d, d < 43 → I' (t + d) = I (t + d)) (e2 : ∀ a, 77 < a → a < 129 → s' a = s a) : CT I' t s' := by
  obtain ⟨h1, h2, h3, h4, h5⟩ := h
  refine ⟨h1.eq e1 e2, ?_, ?_, ?_, fun d j hd => by rw [e1 d hd]; exact h5 d j hd⟩
  · rw [e1 1 (by decide), e2 r_wells (by decide) (by decide)]; exact h2
  · rw [e1 42 (by decide), e2 r_tape (by decide) (by decide)]; exact h3
  · rw [e1 32 (by decide), e1 33 (by decide), e1 34 (by decide), e1 35 (by decide), e1 36 (by decide), e1 37 (by decide), e1 38 (by decide), e2 r_lines (by decide) (by decide), e2 r_lineAct (by decide) (by decide), e2 r_lineNumber (by decide) (by decide), e2 r_lineTests (by decide) (by decide), e2 r_testNot (by decide) (by decide), e2 r_testWhat (by decide) (by decide), e2 r_testSign (by decide) (by decide), e2 r_testThan (by decide) (by decide)]; exact h4
theorem Now.eq {I I' : XI} (h : Now I) (e1 : ∀ a, 0 < a → a < 44 → I' a = I a) (e2 : ∀ a, 77 < a → a < 129 → I' a = I a) : Now I' :=
  ⟨fun a j h1 h2 => by rw [e2 a h1 h2]; exact h.1 a j h1 h2, h.2.1.eq e2, h.2.2.eq (fun d hd => e1 _ (by omega) (by omega)) e2⟩
theorem Cach.eq {I I' : XI} {nc ng nn m : Nat} (h : Cach I nc ng nn m) (e : ∀ a, a < 59 → I' a = I a) : Cach I' nc ng nn m := by
  obtain ⟨h1, h2, h3⟩ := h
  refine ⟨by rw [e _ (by decide)]; exact h1, by rw [e _ (by decide)]; exact h2, fun c hc => ?_⟩
  have v1 : Xof I' = Xof I := Xof_eq (fun a ha => e a (by omega))
  have v2 : FCo I' c = FCo I c := by show (I' c_herds_firstCells c).toNat = _; rw [e c_herds_firstCells (by decide)]
  have v3 : FWo I' c = FWo I c := by show (I' c_herds_firstWeeks c).toNat = _; rw [e c_herds_firstWeeks (by decide)]
  rw [v1, v2, v3]
  obtain ⟨k1, k2⟩ := h3 c hc
  exact ⟨knWn_row k1 (by rw [e _ (by decide)]) (fun j _ _ => by rw [e _ (by decide)]) (fun i _ _ => by rw [e _ (by decide)]) (by rw [e _ (by decide)]), knWt_row k2 (by rw [e _ (by decide)]) (fun j _ _ => by rw [e _ (by decide)]) (fun i _ _ => by rw [e _ (by decide)]) (by rw [e _ (by decide)])⟩
theorem Cach.none {I : XI} {nc ng nn m : Nat} (hm : m ≤ 6) (h1 : I c_now 6 = 99) (h2 : -1 ≤ I c_then 6 ∧ I c_then 6 ≤ 99) (k1 : ∀ c, c < 6 → I c_now_knownTo c = -1) (k2 : ∀ c, c < 6 → I c_then_knownTo c = -1) : Cach I nc ng nn m :=
  ⟨h1, h2, fun c hc => ⟨knWn_none (k1 c (by omega)), knWt_none (k2 c (by omega))⟩⟩
theorem WkOk.eq {I I' : XI} (h : WkOk I) (e1 : I' c_walks 6 = I c_walks 6) (e2 : I' c_walks_days = I c_walks_days) (e3 : I' c_walks_home = I c_walks_home) (e4 : I' c_land_ways = I c_land_ways) (e5 : I' c_land 1 = I c_land 1) : WkOk I' := by
  unfold WkOk at h ⊢
  rw [e1, e2, e3, e4, e5]; exact h
/-- images stay, as long as only the reference's row 0 and cells ahead of 146 change -/
theorem Img.eq {S : XS} {I I' : XI} (h : Img S I) (e0 : FlR I') (e1 : ∀ a, ((64 < a ∧ a < 72) ∨ (134 < a ∧ a < 142) ∨ 146 ≤ a) → I' a = I a) (e2 : ∀ a, 77 < a → a < 129 → ∀ j, wid a ≤ j → I' a j = I a j) : Img S I' := by
  obtain ⟨⟨_, h0⟩, T, h1, h2⟩ := h
  have ek : I' r_kept = I r_kept := e1 _ (by decide)
  have er : ∀ k a, 77 < a → a < 129 → rv I' (k + 1) a = rv I (k + 1) a := fun k a ha hb => by
    funext j
    show I' a (wid a * (k + 1) + j) = I a (wid a * (k + 1) + j)
    refine e2 a ha hb _ ?_
    rw [Nat.mul_add, Nat.mul_one]; omega
  refine ⟨⟨e0, h0.eq (fun a ha => e1 a (by omega))⟩, T, fun k hk => ?_, fun k k' a b c d1 d2 => h2 k k' a b c (by rw [← ek]; exact d1) (by rw [← ek]; exact d2)⟩
  rw [ek]
  rcases h1 k hk with q | ⟨q1, q2, q3, q4, q5, q6, q7⟩
  · exact Or.inl q
  · exact Or.inr ⟨q1, q2, q3, q4, q5.eq (fun d _ => e1 _ (by omega)) (er k), q6.eq (er k), q7.eq (er k _ (by decide) (by decide)) (er k _ (by decide) (by decide))⟩
/-- nothing is told: only what is at hand for a call has changed -/
theorem Rel.keep {S : XS} {I I' : XI} (h : Rel S I) (e : ∀ a, (a < 45 ∨ (64 < a ∧ a < 72) ∨ (134 < a ∧ a < 142) ∨ (77 < a ∧ a < 129) ∨ 146 ≤ a) → I' a = I a) (hc : Cach I' (nC I) (nG I) (nN I) (nM I)) (hw : WkOk I') : Rel S I' := by
  obtain ⟨h1, h2, h3, h4, h5⟩ := h
  refine ⟨h1.eq (fun a _ ha => e a (by omega)) (fun a ha hb => e a (by omega)), ?_, hw, h4.eq (h4.1.1.eq (e _ (by decide)) (e _ (by decide))) (fun a ha => e a (by omega)) (fun a ha hb j _ => by rw [e a (by omega)]), fun j => by rw [e 0 (by omega)]; exact h5 j⟩
  have v : ∀ a, 77 < a → a < 129 → I' a = I a := fun a ha hb => e a (by omega)
  show Cach I' (I' r_cells 0).toNat (I' r_grasses 0).toNat (I' r_newsMany 0).toNat (I' r_camps 0).toNat
  rw [v r_cells (by decide) (by decide), v r_grasses (by decide) (by decide), v r_newsMany (by decide) (by decide), v r_camps (by decide) (by decide)]
  exact hc
/-- as Rel.keep, where the walks were left alone too -/
theorem Rel.keepW {S : XS} {I I' : XI} (h : Rel S I) (e : ∀ a, (a < 45 ∨ (59 ≤ a ∧ a < 63) ∨ (64 < a ∧ a < 72) ∨ (134 < a ∧ a < 142) ∨ (77 < a ∧ a < 129) ∨ 146 ≤ a) → I' a = I a) (hc : Cach I' (nC I) (nG I) (nN I) (nM I)) : Rel S I' :=
  h.keep (fun a ha => e a (by omega)) hc (h.2.2.1.eq (by rw [e _ (by decide)]) (e _ (by decide)) (e _ (by decide)) (e _ (by decide)) (by rw [e _ (by decide)]))
/-- as Rel.keep, where the class' Wheres and walks were left alone -/
theorem Rel.keepA {S : XS} {I I' : XI} (h : Rel S I) (e : ∀ a, (a < 63 ∨ (64 < a ∧ a < 72) ∨ (134 < a ∧ a < 142) ∨ (77 < a ∧ a < 129) ∨ 146 ≤ a) → I' a = I a) : Rel S I' :=
  h.keepW (fun a ha => e a (by omega)) (h.2.1.eq (fun a ha => e a (by omega)))
