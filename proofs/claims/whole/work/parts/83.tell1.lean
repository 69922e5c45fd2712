/-! ===== printed by wip/gen83.py: dry, week, view, end, wish, read ===== -/
theorem rel_up1 {S : XS} {I J : XI} (d o r n j : Nat) {z : Int} (h : Rel S I) (hq : (d, o, r, n) ∈ plT) (hj : j < n) (eA : ∀ a, (a < 63 ∨ (64 < a ∧ a < 72) ∨ (134 < a ∧ a < 142) ∨ 145 < a) → J a = up I (1 + d) (j + o) z a) (eB : ∀ a, 77 < a → a < 129 → J a = up I r j z a) (hz : InR z) (hG : Good (up I r j z)) (k1 : 1 + d ≠ 0 ∧ 1 + d ≠ 2 ∧ ¬ (2 < 1 + d ∧ 1 + d < 8) ∧ ¬ (10 < 1 + d ∧ 1 + d < 13) ∧ ¬ (13 < 1 + d ∧ 1 + d < 19) ∧ ¬ (32 < 1 + d ∧ 1 + d < 40) ∧ 1 + d < 43) (k2 : r ≠ 85 ∧ r ≠ 78 ∧ ¬ (116 < r ∧ r < 125) ∧ r ≠ 101 ∧ r ≠ 84 ∧ r ≠ 91 ∧ r ≠ 97 ∧ r ≠ 87) : Rel S J := by
  obtain ⟨o1, o2, o3, o4⟩ := plT_ok _ hq
  have w : n = wid r := o4
  have oA : okA (up I (1 + d) (j + o) z) := okA.up (fun a j h1 h2 => h.okC a j h2) hz
  have oB : okR (up I r j z) := okR.up h.okR hz
  have rB : ∀ a, a ≠ r → up I r j z a = I a := fun a ha => up_row ha
  have rA : ∀ a, a ≠ 1 + d → up I (1 + d) (j + o) z a = I a := fun a ha => up_row ha
  have N : Now J := h.1.tell (h.pl.up2 d o r n hq hj) (fun a h1 h2 => eA a (by omega)) eB oA oB hG (by rw [rA 2 (by omega)]) (rB _ (show (85 : Nat) ≠ r by omega)) (rA _ (by omega)) (rB _ (show (78 : Nat) ≠ r by omega)) (fun a h1 h2 => rA a (by omega)) (fun a h1 h2 => rB a (by omega))
  refine h.tell N (fun a ha => (eA a (by omega)).trans (rA a (by omega))) ⟨(eB _ (by decide) (by decide)).trans (rB _ (show (101 : Nat) ≠ r by omega)), (eB _ (by decide) (by decide)).trans (rB _ (show (124 : Nat) ≠ r by omega))⟩ (by rw [eA _ (by decide), rA _ (show (2 : Nat) ≠ 1 + d by omega)]) ⟨by rw [eB _ (by decide) (by decide), rB _ (show (84 : Nat) ≠ r by omega)], by rw [eB _ (by decide) (by decide), rB _ (show (91 : Nat) ≠ r by omega)], by rw [eB _ (by decide) (by decide), rB _ (show (97 : Nat) ≠ r by omega)], by rw [eB _ (by decide) (by decide), rB _ (show (87 : Nat) ≠ r by omega)]⟩ (fun a h1 h2 i hi => ?_)
  rw [eB a h1 h2]
  exact (hiW.refl I).up (by omega) a h1 h2 i hi
/-- the class' cell is written, then the reference's code is 0, then its row is written -/
theorem rel_up2 {S : XS} {I J : XI} (d o r n j : Nat) {z : Int} (h : Rel S I) (hq : (d, o, r, n) ∈ plT) (hj : j < n) (e : J = up (up (up I (1 + d) (j + o) z) r_obj 0 0) r j z) (hz : InR z) (hG : Good (up I r j z)) (k1 : 1 + d ≠ 0 ∧ 1 + d ≠ 2 ∧ ¬ (2 < 1 + d ∧ 1 + d < 8) ∧ ¬ (10 < 1 + d ∧ 1 + d < 13) ∧ ¬ (13 < 1 + d ∧ 1 + d < 19) ∧ ¬ (32 < 1 + d ∧ 1 + d < 40) ∧ 1 + d < 43) (k2 : r ≠ 85 ∧ r ≠ 78 ∧ ¬ (116 < r ∧ r < 125) ∧ r ≠ 101 ∧ r ≠ 84 ∧ r ≠ 91 ∧ r ≠ 97 ∧ r ≠ 87) : Rel S J := by
  obtain ⟨o1, o2, o3, o4⟩ := plT_ok _ hq
  have o2 : 77 < r := o2
  have o3 : r < 129 := o3
  subst e
  refine rel_up1 d o r n j h hq hj (fun a ha => ?_) (fun a h1 h2 => ?_) hz hG k1 k2
  · rw [up_row (show a ≠ r by omega), up_row (show a ≠ 77 by omega)]
  · exact up_cong ((up_row (show a ≠ 77 by omega)).trans (up_row (by omega)))
section PT1
variable {G : XG} {S : XS} {I : XI}
theorem t_week {v1 : Int} {R : Int → Int → XI → Prop} (hS : xSh S) (hI : Rel S I) (a1 : InR v1) (h : ∀ r J, Rel S J → R r r J) : H_week G S I v1 (fun r I1 => R_week G S I1 v1 (fun r' J => R r r' J)) := by
  have hn := hI.good.1.1
  have ref : ∀ (J0 : XI) (T : Int → XI → Prop), J0 r_now 0 = I r_now 0 → (¬ (I r_now 0 ≤ v1 ∧ v1 ≤ 99) → T 0 (up J0 r_obj 0 0)) → (I r_now 0 ≤ v1 → v1 ≤ 99 → ∀ J, J = up (up J0 r_obj 0 0) r_now 0 v1 → T 1 J) → R_week G S J0 v1 T := fun J0 T e0 kn ky => by
    refine b_R_week hS (fun J e => ?_)
    subst e
    rw [up_1 _ (by decide), e0]
    exact s_Rin hS a1 ⟨by omega, by omega⟩ ⟨by decide, by decide⟩ (fun x1 x2 => br1 (fun J eJ => ky x1 x2 J eJ)) (fun n => br0 (kn n))
  have bad : ¬ (I r_now 0 ≤ v1 ∧ v1 ≤ 99) → R_week G S I v1 (fun r' J => R 0 r' J) := fun q => ref I _ rfl (fun _ => h _ _ (hI.code rfl).1) (fun x1 x2 => absurd ⟨x1, x2⟩ q)
  refine b_H_week hS ?_
  rw [pl_now hI.pl, w32_r a1, w32_b (z := I r_now 0) (by omega) (by omega), show w32 99 = 99 from rfl]
  refine ⟨fun c => bad (by omega), fun c => ⟨fun d I1 e1 => ?_, fun d => bad (by omega)⟩⟩
  subst e1
  refine ref _ _ (by rw [up_1 _ (by decide)]) (fun q => absurd ⟨by omega, d⟩ q) (fun x1 x2 J eJ => h _ _ (rel_up2 0 9 82 1 0 hI (by decide) (by decide) eJ a1 ?_ (by decide) (by decide)))
  have row : ∀ a, a ≠ r_now → up I r_now 0 v1 a = I a := fun a ha => up_row ha
  have zz : ∀ a, I a 0 ≤ up I r_now 0 v1 a 0 := fun a => by
    by_cases e : a = r_now
    · subst e; rw [up_s]; exact x1
    · rw [row a e]; exact Int.le_refl _
  obtain ⟨g1, g2, g3, g4, g5, g6, g7, g8, g9⟩ := hI.good
  refine ⟨?_, g2.mono (row _ (by decide)) (row _ (by decide)) (row _ (by decide)) (row _ (by decide)), g3.mono (row _ (by decide)) (row _ (by decide)) (row _ (by decide)) (row _ (by decide)) (row _ (by decide)) (zz r_cells) (zz r_now), g4.mono (row _ (by decide)) (row _ (by decide)) (row _ (by decide)) (row _ (by decide)) (row _ (by decide)) (zz r_cells) (zz r_now), g5.mono (row _ (by decide)) (row _ (by decide)) (row _ (by decide)) (row _ (by decide)) (row _ (by decide)) (row _ (by decide)) (zz r_camps) (zz r_cells) (zz r_now), g6.mono (row _ (by decide)) (row _ (by decide)) (row _ (by decide)) (row _ (by decide)) (row _ (by decide)) (row _ (by decide)), g7.mono (row _ (by decide)) (row _ (by decide)) (row _ (by decide)) (row _ (by decide)) (row _ (by decide)) (row _ (by decide)) (row _ (by decide)) (row _ (by decide)) (zz r_books) (zz r_camps) (zz r_now), g8.mono (row _ (by decide)) (row _ (by decide)) (row _ (by decide)) (row _ (by decide)) (row _ (by decide)) (row _ (by decide)), g9.mono (row _ (by decide)) (row _ (by decide)) (row _ (by decide)) (zz r_camps)⟩
  unfold gSc at g1 ⊢
  rw [up_s, row r_viewed (by decide), row r_size (by decide)]
  omega
theorem t_view {v1 : Int} {R : Int → Int → XI → Prop} (hS : xSh S) (hI : Rel S I) (a1 : InR v1) (h : ∀ r J, Rel S J → R r r J) : H_view G S I v1 (fun r I1 => R_view G S I1 v1 (fun r' J => R r r' J)) := by
  have hn := hI.good.1.1
  have ref : ∀ (J0 : XI) (T : Int → XI → Prop), J0 r_now 0 = I r_now 0 → (¬ (-1 ≤ v1 ∧ v1 ≤ I r_now 0) → T 0 (up J0 r_obj 0 0)) → (-1 ≤ v1 → v1 ≤ I r_now 0 → ∀ J, J = up (up J0 r_obj 0 0) r_viewed 0 v1 → T 1 J) → R_view G S J0 v1 T := fun J0 T e0 kn ky => by
    refine b_R_view hS (fun J e => ?_)
    subst e
    rw [up_1 _ (by decide), e0]
    exact s_Rin hS a1 ⟨by decide, by decide⟩ ⟨by omega, by omega⟩ (fun x1 x2 => br1 (fun J eJ => ky x1 x2 J eJ)) (fun n => br0 (kn n))
  have bad : ¬ (-1 ≤ v1 ∧ v1 ≤ I r_now 0) → R_view G S I v1 (fun r' J => R 0 r' J) := fun q => ref I _ rfl (fun _ => h _ _ (hI.code rfl).1) (fun x1 x2 => absurd ⟨x1, x2⟩ q)
  have go : (-1 ≤ v1 ∧ v1 ≤ I r_now 0) → ∀ I1 : XI, I1 = up I c_told 10 v1 → R_view G S I1 v1 (fun r' J => R 1 r' J) := fun q I1 e1 => by
    subst e1
    refine ref _ _ (by rw [up_1 _ (by decide)]) (fun n => absurd q n) (fun x1 x2 J eJ => h _ _ (rel_up2 0 10 83 1 0 hI (by decide) (by decide) eJ a1 ?_ (by decide) (by decide)))
    have row : ∀ a, a ≠ r_viewed → up I r_viewed 0 v1 a = I a := fun a ha => up_row ha
    have zz : ∀ a, a ≠ r_viewed → I a 0 ≤ up I r_viewed 0 v1 a 0 := fun a e => by rw [row a e]; exact Int.le_refl _
    obtain ⟨g1, g2, g3, g4, g5, g6, g7, g8, g9⟩ := hI.good
    refine ⟨?_, g2.mono (row _ (by decide)) (row _ (by decide)) (row _ (by decide)) (row _ (by decide)), g3.mono (row _ (by decide)) (row _ (by decide)) (row _ (by decide)) (row _ (by decide)) (row _ (by decide)) (zz r_cells (by decide)) (zz r_now (by decide)), g4.mono (row _ (by decide)) (row _ (by decide)) (row _ (by decide)) (row _ (by decide)) (row _ (by decide)) (zz r_cells (by decide)) (zz r_now (by decide)), g5.mono (row _ (by decide)) (row _ (by decide)) (row _ (by decide)) (row _ (by decide)) (row _ (by decide)) (row _ (by decide)) (zz r_camps (by decide)) (zz r_cells (by decide)) (zz r_now (by decide)), g6.mono (row _ (by decide)) (row _ (by decide)) (row _ (by decide)) (row _ (by decide)) (row _ (by decide)) (row _ (by decide)), g7.mono (row _ (by decide)) (row _ (by decide)) (row _ (by decide)) (row _ (by decide)) (row _ (by decide)) (row _ (by decide)) (row _ (by decide)) (row _ (by decide)) (zz r_books (by decide)) (zz r_camps (by decide)) (zz r_now (by decide)), g8.mono (row _ (by decide)) (row _ (by decide)) (row _ (by decide)) (row _ (by decide)) (row _ (by decide)) (row _ (by decide)), g9.mono (row _ (by decide)) (row _ (by decide)) (row _ (by decide)) (zz r_camps (by decide))⟩
    unfold gSc at g1 ⊢
    rw [up_s, row r_now (by decide), row r_size (by decide)]
    omega
  refine b_H_view hS ?_
  rw [w32_r a1, show w32 (-1) = -1 from rfl]
  exact ⟨fun c I1 e1 => go (by omega) I1 e1, fun c => s_H_isPast hS hI a1 (fun x1 x2 => br1 (fun I4 e4 => go (by omega) I4 e4)) (fun n => br0 (bad (fun q => n (by omega))))⟩
theorem t_end {v1 : Int} {R : Int → Int → XI → Prop} (hS : xSh S) (hI : Rel S I) (a1 : InR v1) (h : ∀ r J, Rel S J → R r r J) : H_end G S I v1 (fun r I1 => R_end G S I1 v1 (fun r' J => R r r' J)) := by
  have hn := hI.good.1.2.2
  have ref : ∀ (J0 : XI) (T : Int → XI → Prop), J0 r_size 0 = I r_size 0 → (¬ (0 ≤ v1 ∧ v1 ≤ I r_size 0) → T (-1) (up J0 r_obj 0 0)) → (0 ≤ v1 → v1 ≤ I r_size 0 → ∀ J, J = up (up J0 r_obj 0 0) r_size 0 v1 → T v1 J) → R_end G S J0 v1 T := fun J0 T e0 kn ky => by
    refine b_R_end hS (fun J e => ?_)
    subst e
    rw [up_1 _ (by decide), e0]
    exact s_Rin hS a1 ⟨by decide, by decide⟩ ⟨by omega, by omega⟩ (fun x1 x2 => br1 (fun J eJ => ky x1 x2 J eJ)) (fun n => br0 (kn n))
  refine b_H_end hS ?_
  rw [pl_size hI.pl]
  refine s_isIn hS a1 ⟨by decide, by decide⟩ ⟨by omega, by omega⟩ (fun x1 x2 => br1 (fun I1 e1 => ?_)) (fun q => br0 (ref I _ rfl (fun _ => h _ _ (hI.code rfl).1) (fun x1 x2 => absurd ⟨x1, x2⟩ q)))
  subst e1
  refine ref _ _ (by rw [up_1 _ (by decide)]) (fun n => absurd ⟨x1, x2⟩ n) (fun _ _ J eJ => h _ _ (rel_up2 0 6 79 1 0 hI (by decide) (by decide) eJ a1 ?_ (by decide) (by decide)))
  have row : ∀ a, a ≠ r_size → up I r_size 0 v1 a = I a := fun a ha => up_row ha
  have zz : ∀ a, a ≠ r_size → I a 0 ≤ up I r_size 0 v1 a 0 := fun a e => by rw [row a e]; exact Int.le_refl _
  obtain ⟨g1, g2, g3, g4, g5, g6, g7, g8, g9⟩ := hI.good
  refine ⟨?_, g2.mono (row _ (by decide)) (row _ (by decide)) (row _ (by decide)) (row _ (by decide)), g3.mono (row _ (by decide)) (row _ (by decide)) (row _ (by decide)) (row _ (by decide)) (row _ (by decide)) (zz r_cells (by decide)) (zz r_now (by decide)), g4.mono (row _ (by decide)) (row _ (by decide)) (row _ (by decide)) (row _ (by decide)) (row _ (by decide)) (zz r_cells (by decide)) (zz r_now (by decide)), g5.mono (row _ (by decide)) (row _ (by decide)) (row _ (by decide)) (row _ (by decide)) (row _ (by decide)) (row _ (by decide)) (zz r_camps (by decide)) (zz r_cells (by decide)) (zz r_now (by decide)), g6.mono (row _ (by decide)) (row _ (by decide)) (row _ (by decide)) (row _ (by decide)) (row _ (by decide)) (row _ (by decide)), g7.mono (row _ (by decide)) (row _ (by decide)) (row _ (by decide)) (row _ (by decide)) (row _ (by decide)) (row _ (by decide)) (row _ (by decide)) (row _ (by decide)) (zz r_books (by decide)) (zz r_camps (by decide)) (zz r_now (by decide)), g8.mono (row _ (by decide)) (row _ (by decide)) (row _ (by decide)) (row _ (by decide)) (row _ (by decide)) (row _ (by decide)), g9.mono (row _ (by decide)) (row _ (by decide)) (row _ (by decide)) (zz r_camps (by decide))⟩
  unfold gSc at g1 ⊢
  rw [up_s, row r_now (by decide), row r_viewed (by decide)]
  omega
theorem t_dry {v1 v2 : Int} {R : Int → Int → XI → Prop} (hS : xSh S) (hI : Rel S I) (a1 : InR v1) (b2 : v2 = 0 ∨ v2 = 1) (h : ∀ r J, Rel S J → R r r J) : H_dry G S I v1 v2 (fun r I1 => R_dry G S I1 v1 v2 (fun r' J => R r r' J)) := by
  have gd := hI.good.2.1.2.2.2.2.2.2
  have ref : ∀ (J0 : XI) (T : Int → XI → Prop), J0 r_dryWeek = I r_dryWeek → (¬ ((0 ≤ v1 ∧ v1 ≤ 99) ∧ I r_dryWeek v1.toNat ≠ v2) → T 0 (up J0 r_obj 0 0)) → ((0 ≤ v1 ∧ v1 ≤ 99) ∧ I r_dryWeek v1.toNat ≠ v2 → ∀ J, J = up (up J0 r_obj 0 0) r_dryWeek v1.toNat v2 → T 1 J) → R_dry G S J0 v1 v2 T := fun J0 T e0 kn ky => by
    refine b_R_dry hS (fun J e => ?_)
    subst e
    refine s_R_isWeek hS a1 (fun x1 x2 => br1 ⟨inb_b (by omega) (by omega) (by decide), ?_⟩) (fun n => br0 (kn (fun q => n q.1)))
    have g := gd v1.toNat (by omega)
    rw [ix_b (by omega) (by omega), up_row (by decide), e0, w32_b (z := I r_dryWeek v1.toNat) (by omega) (by omega), w32_b (z := v2) (by omega) (by omega)]
    exact ⟨fun c => kn (fun q => q.2 c), fun c => ⟨b2, inb_b (by omega) (by omega) (by decide), fun J eJ => ky ⟨⟨x1, x2⟩, c⟩ J eJ⟩⟩
  have bad : ¬ ((0 ≤ v1 ∧ v1 ≤ 99) ∧ I r_dryWeek v1.toNat ≠ v2) → R_dry G S I v1 v2 (fun r' J => R 0 r' J) := fun q => ref I _ rfl (fun _ => h _ _ (hI.code rfl).1) (fun z => absurd z q)
  have k9 : H_dry_k9 G S I v1 v2 (fun r I1 => R_dry G S I1 v1 v2 (fun r' J => R r r' J)) := by
    refine b_H_dry_k9 hS (s_H_isWeek hS a1 (fun x1 x2 => br1 ⟨inb_b (by omega) (by omega) (by decide), ?_⟩) (fun n => br0 (bad (fun q => n q.1))))
    have g := gd v1.toNat (by omega)
    rw [ix_b (by omega) (by omega), pl_dryWeek hI.pl _ (by omega), w32_b (z := I r_dryWeek v1.toNat) (by omega) (by omega), w32_b (z := v2) (by omega) (by omega)]
    refine ⟨fun c => bad (fun q => q.2 c), fun c => ⟨inb_b (by omega) (by omega) (by decide), fun I1 e1 => ?_⟩⟩
    subst e1
    refine ref _ _ (up_row (by decide)) (fun q => absurd ⟨⟨x1, x2⟩, c⟩ q) (fun _ J eJ => h _ _ (rel_up2 7 0 96 100 v1.toNat hI (by decide) (by omega) eJ ⟨by omega, by omega⟩ ?_ (by decide) (by decide)))
    have row : ∀ a, a ≠ r_dryWeek → up I r_dryWeek v1.toNat v2 a = I a := fun a ha => up_row ha
    have zz : ∀ a, a ≠ r_dryWeek → I a 0 ≤ up I r_dryWeek v1.toNat v2 a 0 := fun a e => by rw [row a e]; exact Int.le_refl _
    obtain ⟨g1, g2, g3, g4, g5, g6, g7, g8, g9⟩ := hI.good
    refine ⟨g1.mono (row _ (by decide)) (row _ (by decide)) (row _ (by decide)), ?_, g3.mono (row _ (by decide)) (row _ (by decide)) (row _ (by decide)) (row _ (by decide)) (row _ (by decide)) (zz r_cells (by decide)) (zz r_now (by decide)), g4.mono (row _ (by decide)) (row _ (by decide)) (row _ (by decide)) (row _ (by decide)) (row _ (by decide)) (zz r_cells (by decide)) (zz r_now (by decide)), g5.mono (row _ (by decide)) (row _ (by decide)) (row _ (by decide)) (row _ (by decide)) (row _ (by decide)) (row _ (by decide)) (zz r_camps (by decide)) (zz r_cells (by decide)) (zz r_now (by decide)), g6.mono (row _ (by decide)) (row _ (by decide)) (row _ (by decide)) (row _ (by decide)) (row _ (by decide)) (row _ (by decide)), g7.mono (row _ (by decide)) (row _ (by decide)) (row _ (by decide)) (row _ (by decide)) (row _ (by decide)) (row _ (by decide)) (row _ (by decide)) (row _ (by decide)) (zz r_books (by decide)) (zz r_camps (by decide)) (zz r_now (by decide)), g8.mono (row _ (by decide)) (row _ (by decide)) (row _ (by decide)) (row _ (by decide)) (row _ (by decide)) (row _ (by decide)), g9.mono (row _ (by decide)) (row _ (by decide)) (row _ (by decide)) (zz r_camps (by decide))⟩
    unfold gLa at g2 ⊢
    rw [row r_cells (by decide), row r_ways (by decide), row r_wells (by decide)]
    refine ⟨g2.1, g2.2.1, g2.2.2.1, g2.2.2.2.1, g2.2.2.2.2.1, g2.2.2.2.2.2.1, fun j hj => ?_⟩
    rw [up_at]; split
    · exact b2
    · exact g2.2.2.2.2.2.2 j hj
  refine b_H_dry hS ?_
  rcases b2 with e | e
  · subst e; exact br0 k9
  · subst e; exact br1 k9
theorem t_wish {v1 v2 v3 : Int} {R : Int → Int → XI → Prop} (hS : xSh S) (hI : Rel S I) (a1 : InR v1) (a2 : InR v2) (a3 : InR v3) (h : ∀ r J, Rel S J → R r r J) : H_wish G S I v1 v2 v3 (fun r I1 => R_wish G S I1 v1 v2 v3 (fun r' J => R r r' J)) := by
  have cm := nM_c hI.good
  have ref : ∀ (J0 : XI) (T : Int → XI → Prop), J0 r_camps = I r_camps → (¬ ((0 ≤ v1 ∧ v1 < I r_camps 0) ∧ (0 ≤ v2 ∧ v2 ≤ 7) ∧ 0 ≤ v3 ∧ v3 ≤ 99) → T 0 (up J0 r_obj 0 0)) → ((0 ≤ v1 ∧ v1 < I r_camps 0) ∧ (0 ≤ v2 ∧ v2 ≤ 7) ∧ 0 ≤ v3 ∧ v3 ≤ 99 → ∀ J, J = up (up J0 r_obj 0 0) r_wishes (v1 * 8 + v2).toNat v3 → T 1 J) → R_wish G S J0 v1 v2 v3 T := fun J0 T e0 kn ky => by
    refine b_R_wish hS (fun J e => ?_)
    subst e
    refine s_R_isCamp (z := I r_camps 0) hS (by rw [up_row (by decide), e0]) (by omega) a1 (fun c1 c2 => br1 (s_Rin hS a2 ⟨by decide, by decide⟩ ⟨by decide, by decide⟩ (fun d1 d2 => br1 (s_Rin hS a3 ⟨by decide, by decide⟩ ⟨by decide, by decide⟩ (fun x1 x2 => br1 ⟨inb_b (by omega) (by omega) (by decide), ?_⟩) (fun n => br0 (kn (fun q => n q.2.2))))) (fun n => br0 (kn (fun q => n q.2.1))))) (fun n => br0 (kn (fun q => n q.1)))
    rw [show (8 * v1 + v2) = (v1 * 8 + v2) by omega, ix_b (by omega) (by omega)]
    exact fun J eJ => ky ⟨⟨c1, c2⟩, ⟨d1, d2⟩, x1, x2⟩ J eJ
  have bad : ¬ ((0 ≤ v1 ∧ v1 < I r_camps 0) ∧ (0 ≤ v2 ∧ v2 ≤ 7) ∧ 0 ≤ v3 ∧ v3 ≤ 99) → R_wish G S I v1 v2 v3 (fun r' J => R 0 r' J) := fun q => ref I _ rfl (fun _ => h _ _ (hI.code rfl).1) (fun z => absurd z q)
  refine b_H_wish hS (s_He_hasCamp hS hI a1 (fun c1 c2 => br1 (s_isIn hS a2 ⟨by decide, by decide⟩ ⟨by decide, by decide⟩ (fun d1 d2 => br1 (s_isIn hS a3 ⟨by decide, by decide⟩ ⟨by decide, by decide⟩ (fun x1 x2 => br1 ⟨inb_b (by omega) (by omega) (by decide), ?_⟩) (fun n => br0 (bad (fun q => n q.2.2))))) (fun n => br0 (bad (fun q => n q.2.1))))) (fun n => br0 (bad (fun q => n q.1))))
  rw [ix_b (by omega) (by omega)]
  intro I1 e1
  subst e1
  refine ref _ _ (up_row (by decide)) (fun q => absurd ⟨⟨c1, c2⟩, ⟨d1, d2⟩, x1, x2⟩ q) (fun _ J eJ => h _ _ (rel_up2 12 0 125 48 (v1 * 8 + v2).toNat hI (by decide) (by omega) eJ a3 ?_ (by decide) (by decide)))
  have row : ∀ a, a ≠ r_wishes → up I r_wishes (v1 * 8 + v2).toNat v3 a = I a := fun a ha => up_row ha
  have zz : ∀ a, a ≠ r_wishes → I a 0 ≤ up I r_wishes (v1 * 8 + v2).toNat v3 a 0 := fun a e => by rw [row a e]; exact Int.le_refl _
  obtain ⟨g1, g2, g3, g4, g5, g6, g7, g8, g9⟩ := hI.good
  refine ⟨g1.mono (row _ (by decide)) (row _ (by decide)) (row _ (by decide)), g2.mono (row _ (by decide)) (row _ (by decide)) (row _ (by decide)) (row _ (by decide)), g3.mono (row _ (by decide)) (row _ (by decide)) (row _ (by decide)) (row _ (by decide)) (row _ (by decide)) (zz r_cells (by decide)) (zz r_now (by decide)), ?_, g5.mono (row _ (by decide)) (row _ (by decide)) (row _ (by decide)) (row _ (by decide)) (row _ (by decide)) (row _ (by decide)) (zz r_camps (by decide)) (zz r_cells (by decide)) (zz r_now (by decide)), g6.mono (row _ (by decide)) (row _ (by decide)) (row _ (by decide)) (row _ (by decide)) (row _ (by decide)) (row _ (by decide)), g7.mono (row _ (by decide)) (row _ (by decide)) (row _ (by decide)) (row _ (by decide)) (row _ (by decide)) (row _ (by decide)) (row _ (by decide)) (row _ (by decide)) (zz r_books (by decide)) (zz r_camps (by decide)) (zz r_now (by decide)), g8.mono (row _ (by decide)) (row _ (by decide)) (row _ (by decide)) (row _ (by decide)) (row _ (by decide)) (row _ (by decide)), g9.mono (row _ (by decide)) (row _ (by decide)) (row _ (by decide)) (zz r_camps (by decide))⟩
  unfold gCa at g4 ⊢
  rw [row r_camps (by decide), row r_campTongue (by decide), row r_campCell (by decide), row r_campWeek (by decide), row r_cells (by decide), row r_now (by decide)]
  refine ⟨g4.1, g4.2.1, fun j hj => ?_⟩
  rw [up_at]; split
  · exact ⟨x1, x2⟩
  · exact g4.2.2 j hj
theorem t_read {v1 v2 : Int} {R : Int → Int → XI → Prop} (hS : xSh S) (hI : Rel S I) (a1 : InR v1) (a2 : InR v2) (h : ∀ r J, Rel S J → R r r J) : H_read G S I v1 v2 (fun r I1 => R_read G S I1 v1 v2 (fun r' J => R r r' J)) := by
  have cr := nR_c hI.good
  have cb := nB_c hI.good
  have rbI : ∀ x : Nat, x < nR I → 0 ≤ I r_readerBooks x ∧ I r_readerBooks x < 16777216 := fun x hx => (hI.rb hx).1
  have ref : ∀ (J0 : XI) (T : Int → XI → Prop), tf I J0 → (¬ ((0 ≤ v1 ∧ v1 < I r_readers 0) ∧ (0 ≤ v2 ∧ v2 < I r_books 0) ∧ bitI (I r_readerBooks v1.toNat) v2.toNat = 0) → T 0 (up J0 r_obj 0 0)) → ((0 ≤ v1 ∧ v1 < I r_readers 0) ∧ (0 ≤ v2 ∧ v2 < I r_books 0) ∧ bitI (I r_readerBooks v1.toNat) v2.toNat = 0 → ∀ J, J = up (up J0 r_obj 0 0) r_readerBooks v1.toNat (ior (I r_readerBooks v1.toNat) (ishl 1 v2)) → T 1 J) → R_read G S J0 v1 v2 T := fun J0 T t0 kn ky => by
    refine b_R_read hS (fun J e => ?_)
    have tJ : tf I J := by rw [e]; exact code_tf t0
    subst e
    refine s_R_isReader (z := I r_readers 0) hS (by rw [tJ r_readers (by decide) (by decide)]) (by omega) a1 (fun c1 c2 => br1 (s_R_isBook (z := I r_books 0) hS (by rw [tJ r_books (by decide) (by decide)]) (by omega) a2 (fun d1 d2 => br1 ?_) (fun n => br0 (kn (fun q => n q.2.1))))) (fun n => br0 (kn (fun q => n q.1)))
    obtain ⟨x, hx⟩ : ∃ x : Nat, v1 = (x : Int) := ⟨v1.toNat, by omega⟩
    obtain ⟨b, hb⟩ : ∃ b : Nat, v2 = (b : Int) := ⟨v2.toNat, by omega⟩
    have r1 := rbI x (by omega)
    obtain ⟨e1, e2⟩ := bit_read (w := I r_readerBooks x) (k := b) r1.1 (by omega) (by omega)
    refine b_R_hasRead hS ⟨inb_b (by omega) (by omega) (by decide), ?_⟩
    rw [ix_b (z := v1) (by omega) (by omega), tJ r_readerBooks (by decide) (by decide), show v1.toNat = x by omega, hb, e1, w32_b (z := bitI (I r_readerBooks x) b) (by omega) (by omega)]
    rw [show v1.toNat = x by omega, show v2.toNat = b by omega, hb] at kn ky
    refine ⟨fun c => br0 ⟨inb_b (by omega) (by omega) (by decide), inb_b (by omega) (by omega) (by decide), fun J eJ => ky ⟨⟨c1, c2⟩, ⟨by omega, by omega⟩, c⟩ J eJ⟩, fun c => br1 (kn (fun q => c q.2.2))⟩
  have bad : ¬ ((0 ≤ v1 ∧ v1 < I r_readers 0) ∧ (0 ≤ v2 ∧ v2 < I r_books 0) ∧ bitI (I r_readerBooks v1.toNat) v2.toNat = 0) → R_read G S I v1 v2 (fun r' J => R 0 r' J) := fun q => ref I _ (tf.refl I) (fun _ => h _ _ (hI.code rfl).1) (fun z => absurd z q)
  refine b_H_read hS (s_Re_hasReader hS hI a1 (fun c1 c2 => br1 (s_Sh_hasBook hS hI a2 (fun d1 d2 => br1 ?_) (fun n => br0 (bad (fun q => n q.2.1))))) (fun n => br0 (bad (fun q => n q.1))))
  have hx : v1.toNat < nR I := by omega
  obtain ⟨r1, r2⟩ := hI.rb hx
  refine s_Re_hasRead (x := v1.toNat) (b := v2.toNat) hS hI (by omega) hx (by omega) (by omega) (fun b1 => br1 (bad (fun q => by omega))) (fun b0 => br0 ⟨inb_b (by omega) (by omega) (by decide), inb_b (by omega) (by omega) (by decide), ?_⟩)
  rw [ix_b (by omega) (by omega), r2]
  intro I1 e1
  subst e1
  have hb : v2 = ((v2.toNat : Nat) : Int) := by omega
  have st := (bit_set (w := I r_readerBooks v1.toNat) (b := v2.toNat) r1.1 r1.2 (by omega)).1
  rw [← hb] at st
  refine ref _ _ (fun a h1 h2 => up_row (show a ≠ 42 by omega)) (fun q => absurd ⟨⟨c1, c2⟩, ⟨d1, d2⟩, b0⟩ q) (fun _ J eJ => h _ _ (rel_up2 41 0 128 12 v1.toNat hI (by decide) (by omega) eJ ⟨by omega, by omega⟩ ?_ (by decide) (by decide)))
  have row : ∀ a, a ≠ r_readerBooks → up I r_readerBooks v1.toNat (ior (I r_readerBooks v1.toNat) (ishl 1 v2)) a = I a := fun a ha => up_row ha
  have zz : ∀ a, a ≠ r_readerBooks → I a 0 ≤ up I r_readerBooks v1.toNat (ior (I r_readerBooks v1.toNat) (ishl 1 v2)) a 0 := fun a e => by rw [row a e]; exact Int.le_refl _
  obtain ⟨g1, g2, g3, g4, g5, g6, g7, g8, g9⟩ := hI.good
  refine ⟨g1.mono (row _ (by decide)) (row _ (by decide)) (row _ (by decide)), g2.mono (row _ (by decide)) (row _ (by decide)) (row _ (by decide)) (row _ (by decide)), g3.mono (row _ (by decide)) (row _ (by decide)) (row _ (by decide)) (row _ (by decide)) (row _ (by decide)) (zz r_cells (by decide)) (zz r_now (by decide)), g4.mono (row _ (by decide)) (row _ (by decide)) (row _ (by decide)) (row _ (by decide)) (row _ (by decide)) (zz r_cells (by decide)) (zz r_now (by decide)), g5.mono (row _ (by decide)) (row _ (by decide)) (row _ (by decide)) (row _ (by decide)) (row _ (by decide)) (row _ (by decide)) (zz r_camps (by decide)) (zz r_cells (by decide)) (zz r_now (by decide)), g6.mono (row _ (by decide)) (row _ (by decide)) (row _ (by decide)) (row _ (by decide)) (row _ (by decide)) (row _ (by decide)), g7.mono (row _ (by decide)) (row _ (by decide)) (row _ (by decide)) (row _ (by decide)) (row _ (by decide)) (row _ (by decide)) (row _ (by decide)) (row _ (by decide)) (zz r_books (by decide)) (zz r_camps (by decide)) (zz r_now (by decide)), g8.mono (row _ (by decide)) (row _ (by decide)) (row _ (by decide)) (row _ (by decide)) (row _ (by decide)) (row _ (by decide)), ?_⟩
  unfold gRe at g9 ⊢
  rw [row r_readers (by decide), row r_readerCamp (by decide), row r_camps (by decide)]
  refine ⟨g9.1, fun j hj => ⟨(g9.2 j hj).1, ?_⟩⟩
  rw [up_at]; split
  · exact st
  · exact (g9.2 j hj).2
end PT1
