/-! ===== printed by wip/gen99e.py: RULES, both sides ===== -/
theorem up_ite (I : XI) (i k : Nat) (z : Int) (a b : Nat) : up I i k z a b = if a = i ∧ b = k then z else I a b := by
  unfold up
  by_cases e : a = i
  · by_cases f : b = k
    · rw [if_pos e, if_pos f, if_pos ⟨e, f⟩]
    · rw [if_pos e, if_neg f, if_neg (fun q => f q.2)]
  · rw [if_neg e, if_neg (fun q => e q.1)]
theorem pce_row {I : XI} {x b lo n a : Nat} (h : a ≠ x) : pce I x b lo n a = I a := by
  funext y
  unfold pce
  rw [if_neg h]
theorem pce_at {I : XI} {x b n j : Nat} : pce I x b 0 n x j = if j < n then I b j else I x j := by
  unfold pce
  rw [if_pos rfl]
  by_cases c : j < n
  · rw [if_pos c, if_pos (by omega)]
  · rw [if_neg c, if_neg (by omega)]
/-- n LINES and t tests are laid over -/
def cqR (J Z : XI) (n t : Nat) : XI := fun a j => if 117 < a ∧ a < 121 ∧ j < n then Z (a - 118) j else if 120 < a ∧ a < 125 ∧ j < t then Z (a - 118) j else J a j
theorem cq_0 (J Z : XI) : cqR J Z 0 0 = J := by
  funext a j
  unfold cqR
  rw [if_neg (by omega), if_neg (by omega)]
theorem cq_off {J Z : XI} {n t a : Nat} (h : a < 118 ∨ 124 < a) : cqR J Z n t a = J a := by
  funext j
  unfold cqR
  rw [if_neg (by omega), if_neg (by omega)]
theorem cq_line (J Z : XI) (l t : Nat) : up (up (up (cqR J Z l t) 118 l (Z 0 l)) 119 l (Z 1 l)) 120 l (Z 2 l) = cqR J Z (l + 1) t := by
  funext a j
  rw [up_ite, up_ite, up_ite]
  by_cases c : (117 < a ∧ a < 121) ∧ j = l
  · obtain ⟨c1, rfl⟩ := c
    have : a = 118 ∨ a = 119 ∨ a = 120 := by omega
    rcases this with e | e | e
    · subst e
      rw [if_neg (by omega), if_neg (by omega), if_pos ⟨rfl, rfl⟩]
      unfold cqR
      rw [if_pos (by omega)]
    · subst e
      rw [if_neg (by omega), if_pos ⟨rfl, rfl⟩]
      unfold cqR
      rw [if_pos (by omega)]
    · subst e
      rw [if_pos ⟨rfl, rfl⟩]
      unfold cqR
      rw [if_pos (by omega)]
  · rw [if_neg (by omega), if_neg (by omega), if_neg (by omega)]
    unfold cqR
    by_cases d : 117 < a ∧ a < 121 ∧ j < l
    · rw [if_pos d, if_pos (show 117 < a ∧ a < 121 ∧ j < l + 1 by omega)]
    · rw [if_neg d, if_neg (show ¬ (117 < a ∧ a < 121 ∧ j < l + 1) by omega)]
theorem cq_test (J Z : XI) (n t : Nat) : up (up (up (up (cqR J Z n t) 121 t (Z 3 t)) 122 t (Z 4 t)) 123 t (Z 5 t)) 124 t (Z 6 t) = cqR J Z n (t + 1) := by
  funext a j
  rw [up_ite, up_ite, up_ite, up_ite]
  by_cases c : (120 < a ∧ a < 125) ∧ j = t
  · obtain ⟨c1, rfl⟩ := c
    have : a = 121 ∨ a = 122 ∨ a = 123 ∨ a = 124 := by omega
    rcases this with e | e | e | e
    · subst e
      rw [if_neg (by omega), if_neg (by omega), if_neg (by omega), if_pos ⟨rfl, rfl⟩]
      unfold cqR
      rw [if_neg (by omega), if_pos (by omega)]
    · subst e
      rw [if_neg (by omega), if_neg (by omega), if_pos ⟨rfl, rfl⟩]
      unfold cqR
      rw [if_neg (by omega), if_pos (by omega)]
    · subst e
      rw [if_neg (by omega), if_pos ⟨rfl, rfl⟩]
      unfold cqR
      rw [if_neg (by omega), if_pos (by omega)]
    · subst e
      rw [if_pos ⟨rfl, rfl⟩]
      unfold cqR
      rw [if_neg (by omega), if_pos (by omega)]
  · rw [if_neg (by omega), if_neg (by omega), if_neg (by omega), if_neg (by omega)]
    unfold cqR
    by_cases d : 117 < a ∧ a < 121 ∧ j < n
    · rw [if_pos d, if_pos d]
    · rw [if_neg d, if_neg d]
      by_cases e : 120 < a ∧ a < 125 ∧ j < t
      · rw [if_pos e, if_pos (show 120 < a ∧ a < 125 ∧ j < t + 1 by omega)]
      · rw [if_neg e, if_neg (show ¬ (120 < a ∧ a < 125 ∧ j < t + 1) by omega)]
/-! the place stays -1 as long as there is no fault -/
theorem ntP_0 {c : Bool} {x s lf lp : Int} (hx : x ≠ 0) (h : ntF c x lf = 0) : ntP c s lf lp = lp := by
  unfold ntF at h
  unfold ntP
  split at h
  · exact absurd h hx
  · next e => rw [if_neg e]
section TZ
variable {T : Nat → Int} {N : Nat}
theorem tsP_lp {l : Nat} : ∀ (fu i p : Nat) (lf lp : Int) (Y : XI), (tsP T N l fu i p lf lp Y).1 = true → (tsP T N l fu i p lf lp Y).2.2.2.1 = 0 → (tsP T N l fu i p lf lp Y).2.2.2.2.1 = lp := by
  intro fu
  induction fu with
  | zero => intro i p lf lp Y h _; cases h
  | succ fu ih =>
    intro i p lf lp Y
    have mo := tsP_mono (T := T) (N := N) (l := l) fu
    rw [tsP_eq]
    split
    · intro h; cases h
    split
    · intro h1 h2
      have e := ih _ _ _ _ _ h1 h2
      have m0 := mo _ _ _ _ _ h1 h2
      rw [e, ntP_0 (by decide) m0]
    · intro _ h2; exact ntP_0 (by decide) h2
theorem deP_lp {l p : Nat} {lf lp : Int} {Y : XI} : (deP T N l p lf lp Y).1 = true → (deP T N l p lf lp Y).2.2.1 = 0 → (deP T N l p lf lp Y).2.2.2.1 = lp ∧ lf = 0 := by
  have en : ∀ (p : Nat) (f q : Int) (Y : XI), (f = 0 → q = lp ∧ lf = 0) → (enP T N p f q Y).1 = true → (enP T N p f q Y).2.2.1 = 0 → (enP T N p f q Y).2.2.2.1 = lp ∧ lf = 0 := fun p f q Y hq => by
    unfold enP
    split
    · exact fun _ x => hq x
    · intro x; cases x
  unfold deP
  split
  · exact en _ _ _ _ (fun x => ⟨rfl, x⟩)
  split
  · split
    · exact en _ _ _ _ (fun x => ⟨ntP_0 (by decide) x, ntF_0 (by decide) x⟩)
    · intro x; cases x
  split
  · split
    · exact en _ _ _ _ (fun x => ⟨rfl, x⟩)
    · intro x; cases x
  · intro x; cases x
theorem liP_lp {l p : Nat} {lf lp : Int} {Y : XI} : (liP T N l p lf lp Y).1 = true → (liP T N l p lf lp Y).2.2.1 = 0 → (liP T N l p lf lp Y).2.2.2.1 = lp ∧ lf = 0 := by
  have ts := tsP_lp (T := T) (N := N) (l := l) 501 0 p (ntF (l == 16) 3 lf) (ntP (l == 16) (tS T N p) lf lp) Y
  have mo := tsP_mono (T := T) (N := N) (l := l) 501 0 p (ntF (l == 16) 3 lf) (ntP (l == 16) (tS T N p) lf lp) Y
  unfold liP
  split
  · generalize tsP T N l 501 0 p (ntF (l == 16) 3 lf) (ntP (l == 16) (tS T N p) lf lp) Y = r at ts mo ⊢
    split
    · intro x; cases x
    next d =>
    have d : r.1 = true := by
      cases e : r.1
      · exact absurd e d
      · rfl
    split
    · intro x y
      obtain ⟨e1, e2⟩ := deP_lp x y
      have m0 := mo d e2
      rw [e1, ts d e2]
      exact ⟨ntP_0 (by decide) m0, ntF_0 (by decide) m0⟩
    · intro x; cases x
  · intro x y
    obtain ⟨e1, e2⟩ := deP_lp x y
    rw [e1]
    exact ⟨ntP_0 (by decide) e2, ntF_0 (by decide) e2⟩
theorem ruP_lp : ∀ (fu l p : Nat) (lf lp : Int) (Y : XI), (ruP T N fu l p lf lp Y).1 = true → (ruP T N fu l p lf lp Y).2.2.2.1 = 0 → (ruP T N fu l p lf lp Y).2.2.2.2.1 = lp ∧ lf = 0 := by
  intro fu
  induction fu with
  | zero => intro l p lf lp Y _ h; exact ⟨rfl, h⟩
  | succ fu ih =>
    intro l p lf lp Y
    have li := liP_lp (T := T) (N := N) (l := l) (p := p) (lf := lf) (lp := lp) (Y := Y)
    rw [ruP_eq]
    split
    · exact fun _ h => ⟨rfl, h⟩
    split
    · intro x; cases x
    next c =>
    have c : (liP T N l p lf lp Y).1 = true := by
      cases e : (liP T N l p lf lp Y).1
      · exact absurd e c
      · rfl
    intro x y
    obtain ⟨e1, e2⟩ := ih _ _ _ _ _ x y
    obtain ⟨e3, e4⟩ := li c e2
    exact ⟨e1.trans e3, e4⟩
end TZ
/-- what the class leaves behind a text with a fault -/
def AF (I A : XI) (f pl : Int) (Y : XI) : Prop := A c_told = up (up (up I c_told 6 0) c_told 7 f) c_told 8 pl c_told ∧ (∀ a, a ≠ 1 → (a < 63 ∨ 72 < a) → A a = I a) ∧ ∀ r, r < 7 → A (65 + r) = Y r
def rlW (d : Nat) : Nat := if d < 3 then 16 else 64
def AS (I A : XI) (z : Int) (Y : XI) : Prop := A c_told = up (up (up I c_told 6 0) c_told 7 0) c_told 8 (-1) c_told ∧ A c_rules = up I c_rules 0 z c_rules ∧ (∀ d, d < 7 → ∀ j, A (33 + d) j = if j < rlW d then Y d j else I (33 + d) j) ∧ (∀ a, a ≠ 1 → (a < 32 ∨ 39 < a) → (a < 63 ∨ 72 < a) → A a = I a) ∧ ∀ r, r < 7 → A (65 + r) = Y r
section TA
variable {G : XG} {S : XS} {I : XI}
/-- the bytes that the class reads -/
def clT (I : XI) : Nat → Int := pce I c_parser_bytes c_told_tape 0 500 c_parser_bytes
def clY (I : XI) : XI := fun r => I (65 + r)
theorem s_Hrules {N : Nat} {R : Int → XI → Prop} (hS : xSh S) (hNe : I c_told 6 = (N : Int)) (hN : N ≤ 500) (hT : byt (clT I)) (kf : ∀ A b l' p' lf' lp' Y', ruP (clT I) N 500 0 0 0 (-1) (clY I) = (b, l', p', lf', lp', Y') → lf' ≠ 0 → AF I A lf' lp' Y' → R (-1) A) (ks : ∀ A z l' p' lp' Y', ruP (clT I) N 500 0 0 0 (-1) (clY I) = (true, l', p', 0, lp', Y') → z = (if 16 < l' then 16 else (l' : Int)) → AS I A z Y' → R z A) : H_rules G S I R := by
  refine b_H_rules hS ?_
  rw [hNe]
  refine b_Pa_parse hS (s_copyRow (n := 500) hS (sN_c_told_tape hS) (sT_c_told_tape hS) (sL_c_told_tape hS) (sN_c_parser_bytes hS) (sT_c_parser_bytes hS) (sL_c_parser_bytes hS) (by decide) (fun I2 e2 I3 e3 I4 e4 I5 e5 => ?_))
  have E5 : I5 = up (up (up (up (pce I c_parser_bytes c_told_tape 0 500) c_parser 4 (N : Int)) c_parser 5 0) c_parser 1 0) c_parser 2 (-1) := by rw [e5, e4, e3, e2]
  have rowC : ∀ a, a ≠ 72 → a ≠ 63 → I5 a = I a := fun a h1 h2 => by
    rw [E5, up_row h2, up_row h2, up_row h2, up_row h2]
    exact pce_row h1
  have pv : PV (clT I) N I (clY I) I5 0 0 (-1) (I c_parser 7) (I c_parser 6) (I c_parser 8) := by
    have c0 : ∀ j, pce I c_parser_bytes c_told_tape 0 500 c_parser j = I c_parser j := fun j => congrFun (pce_row (by decide)) j
    refine ⟨⟨?_, ?_, ?_, ?_, ?_, ?_, ?_⟩, ?_, fun r hr => rowC _ (by omega) (by omega), fun a ha => rowC a (by omega) (by omega)⟩
    · rw [E5, up_2 _ (by decide), up_2 _ (by decide), up_2 _ (by decide), up_s]
    · rw [E5, up_2 _ (by decide), up_2 _ (by decide), up_s]; rfl
    · rw [E5, up_2 _ (by decide), up_s]
    · rw [E5, up_s]
    · rw [E5, up_2 _ (by decide), up_2 _ (by decide), up_2 _ (by decide), up_2 _ (by decide)]; exact c0 7
    · rw [E5, up_2 _ (by decide), up_2 _ (by decide), up_2 _ (by decide), up_2 _ (by decide)]; exact c0 6
    · rw [E5, up_2 _ (by decide), up_2 _ (by decide), up_2 _ (by decide), up_2 _ (by decide)]; exact c0 8
    · rw [E5, up_row (by decide), up_row (by decide), up_row (by decide), up_row (by decide)]; rfl
  refine s_take hS hN hT (Nat.zero_le _) pv (fun J hJ => s_ruP (I0 := I) hS hN hT 500 0 0 J 0 (-1) (clY I) (Nat.le_refl _) (Nat.zero_le _) (by omega) (Or.inl rfl) hJ (fun J1 z b l' p' lf' lp' Y' e hz h1 => ?_))
  have hf := ruP_f (T := clT I) hN 500 0 0 0 (-1) (clY I) (Nat.zero_le _) (Or.inl rfl)
  have hlp := ruP_lp (T := clT I) (N := N) 500 0 0 0 (-1) (clY I)
  rw [e] at hf hlp
  intro I6 e6 I7 e7 I8 e8
  have fl := h1.flt
  have E6 : I6 c_parser = J1 c_parser := by rw [e6]; exact (up_row (by decide)).trans (up_row (by decide))
  have f6 : I6 c_parser 1 = lf' ∧ I6 c_parser 2 = lp' := by rw [E6]; exact fl
  rw [f6.1] at e7
  have E7 : I7 c_parser = J1 c_parser := by rw [e7]; exact (up_row (by decide)).trans E6
  have f7 : I7 c_parser 2 = lp' := by rw [E7]; exact fl.2
  rw [f7] at e8
  have E8 : I8 c_parser = J1 c_parser := by rw [e8]; exact (up_row (by decide)).trans E7
  have f8 : I8 c_parser 1 = lf' := by rw [E8]; exact fl.1
  obtain ⟨vv, hv, -⟩ := h1
  have lr : 0 ≤ lf' ∧ lf' ≤ 3 := by
    cases b with
    | false => have := (hf.1 rfl).1; have this : lf' = 1 := this; omega
    | true => have := hf.2.2 rfl; have this : fok lf' := this; unfold fok at this; omega
  have EE : I8 = up (up (up (up J1 c_draft 0 z) c_told 6 0) c_told 7 lf') c_told 8 lp' := by rw [e8, e7, e6]
  have rows : ∀ a, a ≠ 1 → a ≠ 64 → I8 a = J1 a := fun a h1 h2 => by rw [EE, up_row h1, up_row h1, up_row h1, up_row h2]
  have rowT : I8 c_told = up (up (up I c_told 6 0) c_told 7 lf') c_told 8 lp' c_told := by
    rw [EE]
    refine up_cong (up_cong (up_cong ?_))
    exact (up_row (by decide)).trans (hv.2.2.2 1 (by decide))
  rw [f8, w32_id (z := lf') (by omega) (by omega)]
  refine ⟨fun e0 => ?_, fun e0 => kf I8 b l' p' lf' lp' Y' e e0 ⟨rowT, fun a h1 h2 => (rows a h1 (by omega)).trans (hv.2.2.2 a h2), fun r hr => (rows _ (by omega) (by omega)).trans (hv.2.2.1 r hr)⟩⟩
  have bt : b = true := by
    cases b with
    | false => have := (hf.1 rfl).1; have this : lf' = 1 := this; omega
    | true => rfl
  subst bt
  subst e0
  have lp1 : lp' = -1 := (hlp rfl rfl).1
  rw [lp1] at rowT
  have hz := (hz rfl).2
  have rD : ∀ r, r < 7 → I8 (65 + r) = Y' r := fun r hr => (rows _ (by omega) (by omega)).trans (hv.2.2.1 r hr)
  have z8 : I8 c_draft 0 = z := by
    rw [EE]
    exact (congrFun ((up_row (by decide)).trans ((up_row (by decide)).trans (up_row (by decide)))) 0).trans (up_s _ _ _ _)
  refine b_Ru_copyFrom hS (fun I9 e9 => ?_)
  rw [z8] at e9
  refine s_copyRow (n := 16) hS (sN_c_draft_deeds hS) (sT_c_draft_deeds hS) (sL_c_draft_deeds hS) (sN_c_rules_deeds hS) (sT_c_rules_deeds hS) (sL_c_rules_deeds hS) (by decide) ?_
  refine s_copyRow (n := 16) hS (sN_c_draft_numbers hS) (sT_c_draft_numbers hS) (sL_c_draft_numbers hS) (sN_c_rules_numbers hS) (sT_c_rules_numbers hS) (sL_c_rules_numbers hS) (by decide) ?_
  refine s_copyRow (n := 16) hS (sN_c_draft_tests hS) (sT_c_draft_tests hS) (sL_c_draft_tests hS) (sN_c_rules_tests hS) (sT_c_rules_tests hS) (sL_c_rules_tests hS) (by decide) ?_
  refine s_copyRow (n := 64) hS (sN_c_draft_nots hS) (sT_c_draft_nots hS) (sL_c_draft_nots hS) (sN_c_rules_nots hS) (sT_c_rules_nots hS) (sL_c_rules_nots hS) (by decide) ?_
  refine s_copyRow (n := 64) hS (sN_c_draft_subjects hS) (sT_c_draft_subjects hS) (sL_c_draft_subjects hS) (sN_c_rules_subjects hS) (sT_c_rules_subjects hS) (sL_c_rules_subjects hS) (by decide) ?_
  refine s_copyRow (n := 64) hS (sN_c_draft_signs hS) (sT_c_draft_signs hS) (sL_c_draft_signs hS) (sN_c_rules_signs hS) (sT_c_rules_signs hS) (sL_c_rules_signs hS) (by decide) ?_
  refine s_copyRow (n := 64) hS (sN_c_draft_bounds hS) (sT_c_draft_bounds hS) (sL_c_draft_bounds hS) (sN_c_rules_bounds hS) (sT_c_rules_bounds hS) (sL_c_rules_bounds hS) (by decide) ?_
  obtain ⟨F, eF⟩ : ∃ F, F = pce (pce (pce (pce (pce (pce (pce I9 c_rules_deeds c_draft_deeds 0 16) c_rules_numbers c_draft_numbers 0 16) c_rules_tests c_draft_tests 0 16) c_rules_nots c_draft_nots 0 64) c_rules_subjects c_draft_subjects 0 64) c_rules_signs c_draft_signs 0 64) c_rules_bounds c_draft_bounds 0 64 := ⟨_, rfl⟩
  rw [← eF]
  have g9 : ∀ a, a ≠ 32 → I9 a = I8 a := fun a ha => by rw [e9]; exact up_row ha
  have off : ∀ a, (a < 33 ∨ 39 < a) → F a = I9 a := fun a ha => by
    rw [eF]
    exact (pce_row (show a ≠ 39 by omega)).trans ((pce_row (show a ≠ 38 by omega)).trans ((pce_row (show a ≠ 37 by omega)).trans ((pce_row (show a ≠ 36 by omega)).trans ((pce_row (show a ≠ 35 by omega)).trans ((pce_row (show a ≠ 34 by omega)).trans (pce_row (show a ≠ 33 by omega)))))))
  have r0 : ∀ j, F 33 j = if j < 16 then Y' 0 j else I 33 j := fun j => by
    have u : F 33 = pce I9 c_rules_deeds c_draft_deeds 0 16 33 := by
      rw [eF]
      exact (pce_row (show 33 ≠ 39 by decide)).trans ((pce_row (show 33 ≠ 38 by decide)).trans ((pce_row (show 33 ≠ 37 by decide)).trans ((pce_row (show 33 ≠ 36 by decide)).trans ((pce_row (show 33 ≠ 35 by decide)).trans (pce_row (show 33 ≠ 34 by decide))))))
    have s1 : (I9) 65 = Y' 0 := (rfl : (I9) 65 = I9 65).trans ((g9 65 (by decide)).trans (rD 0 (by decide)))
    have s2 : (I9) 33 = I 33 := (rfl : (I9) 33 = I9 33).trans ((g9 33 (by decide)).trans ((rows 33 (by decide) (by decide)).trans (hv.2.2.2 33 (by decide))))
    rw [u, pce_at]
    rw [show (I9) c_draft_deeds = Y' 0 from s1, show (I9) c_rules_deeds = I 33 from s2]
  have r1 : ∀ j, F 34 j = if j < 16 then Y' 1 j else I 34 j := fun j => by
    have u : F 34 = pce (pce I9 c_rules_deeds c_draft_deeds 0 16) c_rules_numbers c_draft_numbers 0 16 34 := by
      rw [eF]
      exact (pce_row (show 34 ≠ 39 by decide)).trans ((pce_row (show 34 ≠ 38 by decide)).trans ((pce_row (show 34 ≠ 37 by decide)).trans ((pce_row (show 34 ≠ 36 by decide)).trans (pce_row (show 34 ≠ 35 by decide)))))
    have s1 : (pce I9 c_rules_deeds c_draft_deeds 0 16) 66 = Y' 1 := (pce_row (show 66 ≠ 33 by decide) : (pce I9 c_rules_deeds c_draft_deeds 0 16) 66 = I9 66).trans ((g9 66 (by decide)).trans (rD 1 (by decide)))
    have s2 : (pce I9 c_rules_deeds c_draft_deeds 0 16) 34 = I 34 := (pce_row (show 34 ≠ 33 by decide) : (pce I9 c_rules_deeds c_draft_deeds 0 16) 34 = I9 34).trans ((g9 34 (by decide)).trans ((rows 34 (by decide) (by decide)).trans (hv.2.2.2 34 (by decide))))
    rw [u, pce_at]
    rw [show (pce I9 c_rules_deeds c_draft_deeds 0 16) c_draft_numbers = Y' 1 from s1, show (pce I9 c_rules_deeds c_draft_deeds 0 16) c_rules_numbers = I 34 from s2]
  have r2 : ∀ j, F 35 j = if j < 16 then Y' 2 j else I 35 j := fun j => by
    have u : F 35 = pce (pce (pce I9 c_rules_deeds c_draft_deeds 0 16) c_rules_numbers c_draft_numbers 0 16) c_rules_tests c_draft_tests 0 16 35 := by
      rw [eF]
      exact (pce_row (show 35 ≠ 39 by decide)).trans ((pce_row (show 35 ≠ 38 by decide)).trans ((pce_row (show 35 ≠ 37 by decide)).trans (pce_row (show 35 ≠ 36 by decide))))
    have s1 : (pce (pce I9 c_rules_deeds c_draft_deeds 0 16) c_rules_numbers c_draft_numbers 0 16) 67 = Y' 2 := ((pce_row (show 67 ≠ 34 by decide)).trans (pce_row (show 67 ≠ 33 by decide)) : (pce (pce I9 c_rules_deeds c_draft_deeds 0 16) c_rules_numbers c_draft_numbers 0 16) 67 = I9 67).trans ((g9 67 (by decide)).trans (rD 2 (by decide)))
    have s2 : (pce (pce I9 c_rules_deeds c_draft_deeds 0 16) c_rules_numbers c_draft_numbers 0 16) 35 = I 35 := ((pce_row (show 35 ≠ 34 by decide)).trans (pce_row (show 35 ≠ 33 by decide)) : (pce (pce I9 c_rules_deeds c_draft_deeds 0 16) c_rules_numbers c_draft_numbers 0 16) 35 = I9 35).trans ((g9 35 (by decide)).trans ((rows 35 (by decide) (by decide)).trans (hv.2.2.2 35 (by decide))))
    rw [u, pce_at]
    rw [show (pce (pce I9 c_rules_deeds c_draft_deeds 0 16) c_rules_numbers c_draft_numbers 0 16) c_draft_tests = Y' 2 from s1, show (pce (pce I9 c_rules_deeds c_draft_deeds 0 16) c_rules_numbers c_draft_numbers 0 16) c_rules_tests = I 35 from s2]
  have r3 : ∀ j, F 36 j = if j < 64 then Y' 3 j else I 36 j := fun j => by
    have u : F 36 = pce (pce (pce (pce I9 c_rules_deeds c_draft_deeds 0 16) c_rules_numbers c_draft_numbers 0 16) c_rules_tests c_draft_tests 0 16) c_rules_nots c_draft_nots 0 64 36 := by
      rw [eF]
      exact (pce_row (show 36 ≠ 39 by decide)).trans ((pce_row (show 36 ≠ 38 by decide)).trans (pce_row (show 36 ≠ 37 by decide)))
    have s1 : (pce (pce (pce I9 c_rules_deeds c_draft_deeds 0 16) c_rules_numbers c_draft_numbers 0 16) c_rules_tests c_draft_tests 0 16) 68 = Y' 3 := ((pce_row (show 68 ≠ 35 by decide)).trans ((pce_row (show 68 ≠ 34 by decide)).trans (pce_row (show 68 ≠ 33 by decide))) : (pce (pce (pce I9 c_rules_deeds c_draft_deeds 0 16) c_rules_numbers c_draft_numbers 0 16) c_rules_tests c_draft_tests 0 16) 68 = I9 68).trans ((g9 68 (by decide)).trans (rD 3 (by decide)))
    have s2 : (pce (pce (pce I9 c_rules_deeds c_draft_deeds 0 16) c_rules_numbers c_draft_numbers 0 16) c_rules_tests c_draft_tests 0 16) 36 = I 36 := ((pce_row (show 36 ≠ 35 by decide)).trans ((pce_row (show 36 ≠ 34 by decide)).trans (pce_row (show 36 ≠ 33 by decide))) : (pce (pce (pce I9 c_rules_deeds c_draft_deeds 0 16) c_rules_numbers c_draft_numbers 0 16) c_rules_tests c_draft_tests 0 16) 36 = I9 36).trans ((g9 36 (by decide)).trans ((rows 36 (by decide) (by decide)).trans (hv.2.2.2 36 (by decide))))
    rw [u, pce_at]
    rw [show (pce (pce (pce I9 c_rules_deeds c_draft_deeds 0 16) c_rules_numbers c_draft_numbers 0 16) c_rules_tests c_draft_tests 0 16) c_draft_nots = Y' 3 from s1, show (pce (pce (pce I9 c_rules_deeds c_draft_deeds 0 16) c_rules_numbers c_draft_numbers 0 16) c_rules_tests c_draft_tests 0 16) c_rules_nots = I 36 from s2]
  have r4 : ∀ j, F 37 j = if j < 64 then Y' 4 j else I 37 j := fun j => by
    have u : F 37 = pce (pce (pce (pce (pce I9 c_rules_deeds c_draft_deeds 0 16) c_rules_numbers c_draft_numbers 0 16) c_rules_tests c_draft_tests 0 16) c_rules_nots c_draft_nots 0 64) c_rules_subjects c_draft_subjects 0 64 37 := by
      rw [eF]
      exact (pce_row (show 37 ≠ 39 by decide)).trans (pce_row (show 37 ≠ 38 by decide))
    have s1 : (pce (pce (pce (pce I9 c_rules_deeds c_draft_deeds 0 16) c_rules_numbers c_draft_numbers 0 16) c_rules_tests c_draft_tests 0 16) c_rules_nots c_draft_nots 0 64) 69 = Y' 4 := ((pce_row (show 69 ≠ 36 by decide)).trans ((pce_row (show 69 ≠ 35 by decide)).trans ((pce_row (show 69 ≠ 34 by decide)).trans (pce_row (show 69 ≠ 33 by decide)))) : (pce (pce (pce (pce I9 c_rules_deeds c_draft_deeds 0 16) c_rules_numbers c_draft_numbers 0 16) c_rules_tests c_draft_tests 0 16) c_rules_nots c_draft_nots 0 64) 69 = I9 69).trans ((g9 69 (by decide)).trans (rD 4 (by decide)))
    have s2 : (pce (pce (pce (pce I9 c_rules_deeds c_draft_deeds 0 16) c_rules_numbers c_draft_numbers 0 16) c_rules_tests c_draft_tests 0 16) c_rules_nots c_draft_nots 0 64) 37 = I 37 := ((pce_row (show 37 ≠ 36 by decide)).trans ((pce_row (show 37 ≠ 35 by decide)).trans ((pce_row (show 37 ≠ 34 by decide)).trans (pce_row (show 37 ≠ 33 by decide)))) : (pce (pce (pce (pce I9 c_rules_deeds c_draft_deeds 0 16) c_rules_numbers c_draft_numbers 0 16) c_rules_tests c_draft_tests 0 16) c_rules_nots c_draft_nots 0 64) 37 = I9 37).trans ((g9 37 (by decide)).trans ((rows 37 (by decide) (by decide)).trans (hv.2.2.2 37 (by decide))))
    rw [u, pce_at]
    rw [show (pce (pce (pce (pce I9 c_rules_deeds c_draft_deeds 0 16) c_rules_numbers c_draft_numbers 0 16) c_rules_tests c_draft_tests 0 16) c_rules_nots c_draft_nots 0 64) c_draft_subjects = Y' 4 from s1, show (pce (pce (pce (pce I9 c_rules_deeds c_draft_deeds 0 16) c_rules_numbers c_draft_numbers 0 16) c_rules_tests c_draft_tests 0 16) c_rules_nots c_draft_nots 0 64) c_rules_subjects = I 37 from s2]
  have r5 : ∀ j, F 38 j = if j < 64 then Y' 5 j else I 38 j := fun j => by
    have u : F 38 = pce (pce (pce (pce (pce (pce I9 c_rules_deeds c_draft_deeds 0 16) c_rules_numbers c_draft_numbers 0 16) c_rules_tests c_draft_tests 0 16) c_rules_nots c_draft_nots 0 64) c_rules_subjects c_draft_subjects 0 64) c_rules_signs c_draft_signs 0 64 38 := by
      rw [eF]
      exact pce_row (show 38 ≠ 39 by decide)
    have s1 : (pce (pce (pce (pce (pce I9 c_rules_deeds c_draft_deeds 0 16) c_rules_numbers c_draft_numbers 0 16) c_rules_tests c_draft_tests 0 16) c_rules_nots c_draft_nots 0 64) c_rules_subjects c_draft_subjects 0 64) 70 = Y' 5 := ((pce_row (show 70 ≠ 37 by decide)).trans ((pce_row (show 70 ≠ 36 by decide)).trans ((pce_row (show 70 ≠ 35 by decide)).trans ((pce_row (show 70 ≠ 34 by decide)).trans (pce_row (show 70 ≠ 33 by decide))))) : (pce (pce (pce (pce (pce I9 c_rules_deeds c_draft_deeds 0 16) c_rules_numbers c_draft_numbers 0 16) c_rules_tests c_draft_tests 0 16) c_rules_nots c_draft_nots 0 64) c_rules_subjects c_draft_subjects 0 64) 70 = I9 70).trans ((g9 70 (by decide)).trans (rD 5 (by decide)))
    have s2 : (pce (pce (pce (pce (pce I9 c_rules_deeds c_draft_deeds 0 16) c_rules_numbers c_draft_numbers 0 16) c_rules_tests c_draft_tests 0 16) c_rules_nots c_draft_nots 0 64) c_rules_subjects c_draft_subjects 0 64) 38 = I 38 := ((pce_row (show 38 ≠ 37 by decide)).trans ((pce_row (show 38 ≠ 36 by decide)).trans ((pce_row (show 38 ≠ 35 by decide)).trans ((pce_row (show 38 ≠ 34 by decide)).trans (pce_row (show 38 ≠ 33 by decide))))) : (pce (pce (pce (pce (pce I9 c_rules_deeds c_draft_deeds 0 16) c_rules_numbers c_draft_numbers 0 16) c_rules_tests c_draft_tests 0 16) c_rules_nots c_draft_nots 0 64) c_rules_subjects c_draft_subjects 0 64) 38 = I9 38).trans ((g9 38 (by decide)).trans ((rows 38 (by decide) (by decide)).trans (hv.2.2.2 38 (by decide))))
    rw [u, pce_at]
    rw [show (pce (pce (pce (pce (pce I9 c_rules_deeds c_draft_deeds 0 16) c_rules_numbers c_draft_numbers 0 16) c_rules_tests c_draft_tests 0 16) c_rules_nots c_draft_nots 0 64) c_rules_subjects c_draft_subjects 0 64) c_draft_signs = Y' 5 from s1, show (pce (pce (pce (pce (pce I9 c_rules_deeds c_draft_deeds 0 16) c_rules_numbers c_draft_numbers 0 16) c_rules_tests c_draft_tests 0 16) c_rules_nots c_draft_nots 0 64) c_rules_subjects c_draft_subjects 0 64) c_rules_signs = I 38 from s2]
  have r6 : ∀ j, F 39 j = if j < 64 then Y' 6 j else I 39 j := fun j => by
    have u : F 39 = pce (pce (pce (pce (pce (pce (pce I9 c_rules_deeds c_draft_deeds 0 16) c_rules_numbers c_draft_numbers 0 16) c_rules_tests c_draft_tests 0 16) c_rules_nots c_draft_nots 0 64) c_rules_subjects c_draft_subjects 0 64) c_rules_signs c_draft_signs 0 64) c_rules_bounds c_draft_bounds 0 64 39 := by
      rw [eF]
    have s1 : (pce (pce (pce (pce (pce (pce I9 c_rules_deeds c_draft_deeds 0 16) c_rules_numbers c_draft_numbers 0 16) c_rules_tests c_draft_tests 0 16) c_rules_nots c_draft_nots 0 64) c_rules_subjects c_draft_subjects 0 64) c_rules_signs c_draft_signs 0 64) 71 = Y' 6 := ((pce_row (show 71 ≠ 38 by decide)).trans ((pce_row (show 71 ≠ 37 by decide)).trans ((pce_row (show 71 ≠ 36 by decide)).trans ((pce_row (show 71 ≠ 35 by decide)).trans ((pce_row (show 71 ≠ 34 by decide)).trans (pce_row (show 71 ≠ 33 by decide)))))) : (pce (pce (pce (pce (pce (pce I9 c_rules_deeds c_draft_deeds 0 16) c_rules_numbers c_draft_numbers 0 16) c_rules_tests c_draft_tests 0 16) c_rules_nots c_draft_nots 0 64) c_rules_subjects c_draft_subjects 0 64) c_rules_signs c_draft_signs 0 64) 71 = I9 71).trans ((g9 71 (by decide)).trans (rD 6 (by decide)))
    have s2 : (pce (pce (pce (pce (pce (pce I9 c_rules_deeds c_draft_deeds 0 16) c_rules_numbers c_draft_numbers 0 16) c_rules_tests c_draft_tests 0 16) c_rules_nots c_draft_nots 0 64) c_rules_subjects c_draft_subjects 0 64) c_rules_signs c_draft_signs 0 64) 39 = I 39 := ((pce_row (show 39 ≠ 38 by decide)).trans ((pce_row (show 39 ≠ 37 by decide)).trans ((pce_row (show 39 ≠ 36 by decide)).trans ((pce_row (show 39 ≠ 35 by decide)).trans ((pce_row (show 39 ≠ 34 by decide)).trans (pce_row (show 39 ≠ 33 by decide)))))) : (pce (pce (pce (pce (pce (pce I9 c_rules_deeds c_draft_deeds 0 16) c_rules_numbers c_draft_numbers 0 16) c_rules_tests c_draft_tests 0 16) c_rules_nots c_draft_nots 0 64) c_rules_subjects c_draft_subjects 0 64) c_rules_signs c_draft_signs 0 64) 39 = I9 39).trans ((g9 39 (by decide)).trans ((rows 39 (by decide) (by decide)).trans (hv.2.2.2 39 (by decide))))
    rw [u, pce_at]
    rw [show (pce (pce (pce (pce (pce (pce I9 c_rules_deeds c_draft_deeds 0 16) c_rules_numbers c_draft_numbers 0 16) c_rules_tests c_draft_tests 0 16) c_rules_nots c_draft_nots 0 64) c_rules_subjects c_draft_subjects 0 64) c_rules_signs c_draft_signs 0 64) c_draft_bounds = Y' 6 from s1, show (pce (pce (pce (pce (pce (pce I9 c_rules_deeds c_draft_deeds 0 16) c_rules_numbers c_draft_numbers 0 16) c_rules_tests c_draft_tests 0 16) c_rules_nots c_draft_nots 0 64) c_rules_subjects c_draft_subjects 0 64) c_rules_signs c_draft_signs 0 64) c_rules_bounds = I 39 from s2]
  have fr : F c_rules 0 = z := by rw [off 32 (by decide), e9]; exact up_s _ _ _ _
  have k := ks F z l' p' lp' Y' e hz ⟨(off 1 (by decide)).trans ((g9 1 (by decide)).trans rowT), ?_, fun d hd j => ?_, fun a h1 h2 h3 => (off a (by omega)).trans ((g9 a (by omega)).trans ((rows a h1 (by omega)).trans (hv.2.2.2 a h3))), fun r hr => (off _ (by omega)).trans ((g9 _ (by omega)).trans (rD r hr))⟩
  · rw [fr]; exact k
  · rw [off 32 (by decide), e9]
    exact up_cong ((rows 32 (by decide) (by decide)).trans (hv.2.2.2 32 (by decide)))
  · match d, hd with
    | 0, _ => exact r0 j
    | 1, _ => exact r1 j
    | 2, _ => exact r2 j
    | 3, _ => exact r3 j
    | 4, _ => exact r4 j
    | 5, _ => exact r5 j
    | 6, _ => exact r6 j
end TA
