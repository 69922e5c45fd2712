/-! ===== ROUND: the reference's choice; round ===== -/
theorem smK_1 {X : Nat → Nat → Int} {nc ng nn c : Nat} {lm : Int} {fc f a j : Nat} : smK X nc ng nn c lm fc f a a j = if f ≤ a then ptA X nc ng nn c lm fc f (a - f) j else 0 := by
  unfold smK
  have e : sumA (smF X nc ng nn c lm fc f a j) (a + 1) = sumA (smF X nc ng nn c lm fc f a j) a + (if a ≤ a ∧ f ≤ a then ptA X nc ng nn c lm fc f (a - f) j else 0) := rfl
  rw [e, smF_lo (Or.inl (Nat.le_refl _)), Int.zero_add]
  by_cases h : f ≤ a
  · rw [if_pos ⟨Nat.le_refl _, h⟩, if_pos h]
  · rw [if_neg (fun q => h q.2), if_neg h]
theorem smT1_b {S : XS} {I : XI} (h : Rel S I) (lm : Int) (a : Nat) : ∀ m, m ≤ nM I → ∀ j, j < 10 → 0 ≤ smT (Xof I) (nC I) (nG I) (nN I) (FCo I) (FWo I) lm a a m j ∧ smT (Xof I) (nC I) (nG I) (nN I) (FCo I) (FWo I) lm a a m j ≤ m * 1000000
  | 0, _, j, _ => ⟨Int.le_refl _, Int.le_refl _⟩
  | m + 1, hm, j, hj => by
    have ih := smT1_b h lm a m (by omega) j hj
    have hk := (ptA_b h (c := m) (by omega) lm (a - FWo I m) j hj).1
    have e : smT (Xof I) (nC I) (nG I) (nN I) (FCo I) (FWo I) lm a a (m + 1) j = smT (Xof I) (nC I) (nG I) (nN I) (FCo I) (FWo I) lm a a m j + smK (Xof I) (nC I) (nG I) (nN I) m lm (FCo I m) (FWo I m) a a j := rfl
    rw [e, smK_1]
    split <;> omega
def fmF (I I' : XI) : Prop := ∀ a, a ≠ 77 → (a < 129 ∨ (133 < a ∧ (a < 142 ∨ 144 < a))) → I' a = I a
theorem fmF.tf {I I' : XI} (h : fmF I I') : tf I I' := fun a h1 h2 => h a (by omega) (by omega)
theorem Rel.fmF {S : XS} {I J : XI} (h : Rel S I) (hf : fmF I J) : Rel S J := h.keepA (fun a ha => hf a (by omega) (by omega))
theorem fmM.toF {I J : XI} (h : fmM I J) : fmF I J := fun a h1 h2 => h a h1 (by omega)
section PRo
variable {G : XG} {S : XS} {I : XI}
theorem s_R_pick {J : XI} {most : Int} {D L M ln : Nat → Int} {R : Int → XI → Prop} (hS : xSh S) (hI : Rel S I) (ht : tf I J) (hm : 1 ≤ most ∧ most ≤ 60) (hD : ∀ k, k < 100 → J r_far k = D k ∧ 0 ≤ D k ∧ D k ≤ 1000000) (hf : flOk 1000000 D) (hL : J r_least = L) (hLB : LB L) (hM : ∀ j, j < 10 → J r_meets j = M j ∧ 0 ≤ M j ∧ M j ≤ 6000000)
    (hln : ∀ s, s < 512 → ((∀ t, t < 10 → hasS s t → I r_wells t = 1) → ln s = sat (dR D L s)) ∧ (¬ (∀ t, t < 10 → hasS s t → I r_wells t = 1) → ln s = 100000)) (h79 : J r_obj 79 = -1)
    (h : ∀ J', (∀ a, a ≠ 77 → J' a = J a) → J' r_obj 79 = (chS most (mtS M (if I r_wells 0 = 1 then M 0 else 0)) ln 511 : Int) → J' r_obj 80 = mtS M (if I r_wells 0 = 1 then M 0 else 0) (chS most (mtS M (if I r_wells 0 = 1 then M 0 else 0)) ln 511) → J' r_obj 81 = ln (chS most (mtS M (if I r_wells 0 = 1 then M 0 else 0)) ln 511) → R 1 J') : R_findRound_k144 G S J most 0 R := by
  have cc := nC_c hI.good
  have gw := hI.good.2.1.2.2.2.2.1
  have gz := hI.good.2.1.2.2.2.2.2.1
  have mi := mtS_in (M := M) (base := if I r_wells 0 = 1 then M 0 else 0) (fun j hj => (hM j hj).2) (by have := hM 0 (by decide); split <;> omega)
  have dr : ∀ s, s < 512 → 0 ≤ dR D L s ∧ dR D L s ≤ 1000000 := fun s hs => by rw [dR_hR hf]; exact hR_in hf hLB hs (by decide)
  have ln0 : ln 0 ≤ most := by
    have := (hln 0 (by decide)).1 (fun t _ q => by have := hasS_pos q; omega)
    rw [this, dR_hR hf]
    unfold hR
    rw [if_pos rfl]
    have := hf.2.1 0 (by decide)
    rw [show (0 : Nat) * 10 + 0 = 0 * 10 from rfl] at this
    rw [this]
    have : sat 0 = 0 := rfl
    omega
  have ci := chS_in (most := most) (mt := mtS M (if I r_wells 0 = 1 then M 0 else 0)) (ln := ln) ln0
  refine down (n := 512) (P := fun n => ∀ J1 : XI, (∀ a, a ≠ 77 → J1 a = J a) → (n = 0 → J1 r_obj 79 = -1) → (1 ≤ n → J1 r_obj 79 = (chS most (mtS M (if I r_wells 0 = 1 then M 0 else 0)) ln (n - 1) : Int) ∧ J1 r_obj 80 = mtS M (if I r_wells 0 = 1 then M 0 else 0) (chS most (mtS M (if I r_wells 0 = 1 then M 0 else 0)) ln (n - 1)) ∧ J1 r_obj 81 = ln (chS most (mtS M (if I r_wells 0 = 1 then M 0 else 0)) ln (n - 1))) → R_findRound_k144 G S J1 most (n : Int) R) ?_ ?_ 0 (Nat.zero_le _) J (fun _ _ => rfl) (fun _ => h79) (fun e => absurd e (by omega))
  · intro J1 f1 _ g1
    obtain ⟨x1, x2, x3⟩ := g1 (by decide)
    exact b_R_findRound_k144 hS ⟨fun _ => h J1 f1 x1 x2 x3, fun e => absurd (by decide) e⟩
  · intro n hn ih J1 f1 g0 g1
    have tJ : ∀ a, 77 < a → a < 129 → J1 a = I a := fun a h1 h2 => (f1 a (by omega)).trans (ht a h1 h2)
    -- a set looked at to its end
    have dec : ∀ can : Int, (can = 1 ∧ (∀ t, t < 10 → hasS n t → I r_wells t = 1)) ∨ (can = 0 ∧ ¬ (∀ t, t < 10 → hasS n t → I r_wells t = 1)) → R_findRound_k178 G S J1 most (n : Int) (mtS M (if I r_wells 0 = 1 then M 0 else 0) n) can 10 R := by
      intro can hcan
      have mn := mi n
      have dn := dr n hn
      -- what both steps come to
      have nx : ∀ J2 : XI, (∀ a, a ≠ 77 → J2 a = J a) → J2 r_obj 79 = (chS most (mtS M (if I r_wells 0 = 1 then M 0 else 0)) ln n : Int) → J2 r_obj 80 = mtS M (if I r_wells 0 = 1 then M 0 else 0) (chS most (mtS M (if I r_wells 0 = 1 then M 0 else 0)) ln n) → J2 r_obj 81 = ln (chS most (mtS M (if I r_wells 0 = 1 then M 0 else 0)) ln n) → R_findRound_k144 G S J2 most ((n : Int) + 1) R := fun J2 z1 z2 z3 z4 => ih J2 z1 (fun e => by omega) (fun _ => ⟨z2, z3, z4⟩)
      have take : dR D L n = ln n → chS most (mtS M (if I r_wells 0 = 1 then M 0 else 0)) ln n = n → R_findRound_k300 G S J1 most (n : Int) (mtS M (if I r_wells 0 = 1 then M 0 else 0) n) (dR D L n) R := fun ed ec => by
        refine b_R_findRound_k300 hS (fun J2 e2 J3 e3 J4 e4 => ?_)
        subst e4; subst e3; subst e2
        rw [ec] at nx
        exact nx _ (fun a ha => by rw [up_row ha, up_row ha, up_row ha]; exact f1 a ha) (by rw [up_2 _ (by decide), up_2 _ (by decide), up_s]) (by rw [up_2 _ (by decide), up_s]) (by rw [up_s]; exact ed)
      refine b_R_findRound_k178 hS ⟨fun _ => s_R_daysOf (D := D) (L := L) hS rfl hn (fun k hk => by rw [f1 _ (by decide)]; exact hD k hk) (by rw [f1 _ (by decide)]; exact hL) hLB ?_, fun e => absurd (by decide) e⟩
      by_cases n0 : n = 0
      · have hc : can = 1 := by
          rcases hcan with ⟨c, _⟩ | ⟨_, c⟩
          · exact c
          · exact absurd (fun t _ q => by rw [n0] at q; have := hasS_pos q; omega) c
        have l0 := (hln n hn).1 (fun t _ q => by rw [n0] at q; have := hasS_pos q; omega)
        have z : dR D L n = 0 := by
          rw [n0, dR_hR hf]; unfold hR; rw [if_pos rfl]
          exact hf.2.1 0 (by decide)
        subst hc
        rw [g0 n0, z, show w32 (-1) = -1 from rfl, show w32 0 = 0 from rfl, w32_b (z := most) (by omega) (by omega)]
        refine br1 ⟨fun e => absurd e (by omega), fun _ => ⟨fun _ => ?_, fun e => absurd rfl e⟩⟩
        have := take (by rw [z, l0, z]; rfl) (by rw [n0]; rfl)
        rw [z] at this; exact this
      · obtain ⟨x1, x2, x3⟩ := g1 (by omega)
        obtain ⟨b1, b2⟩ := ci (n - 1)
        have hst : chS most (mtS M (if I r_wells 0 = 1 then M 0 else 0)) ln n = if ln n ≤ most ∧ (mtS M (if I r_wells 0 = 1 then M 0 else 0) (chS most (mtS M (if I r_wells 0 = 1 then M 0 else 0)) ln (n - 1)) < mtS M (if I r_wells 0 = 1 then M 0 else 0) n ∨ (mtS M (if I r_wells 0 = 1 then M 0 else 0) n = mtS M (if I r_wells 0 = 1 then M 0 else 0) (chS most (mtS M (if I r_wells 0 = 1 then M 0 else 0)) ln (n - 1)) ∧ ln n < ln (chS most (mtS M (if I r_wells 0 = 1 then M 0 else 0)) ln (n - 1)))) then n else chS most (mtS M (if I r_wells 0 = 1 then M 0 else 0)) ln (n - 1) := by
          obtain ⟨m, rfl⟩ : ∃ m, n = m + 1 := ⟨n - 1, by omega⟩
          rw [chS, Nat.add_sub_cancel]
        have lnb : ∀ s, s < 512 → 0 ≤ ln s ∧ ln s ≤ 100000 := fun s hs => by
          rcases Classical.em (∀ t, t < 10 → hasS s t → I r_wells t = 1) with a | a
          · rw [(hln s hs).1 a]; have := sat_in (dr s hs).1; omega
          · rw [(hln s hs).2 a]; omega
        generalize hbest : chS most (mtS M (if I r_wells 0 = 1 then M 0 else 0)) ln (n - 1) = best at x1 x2 x3 b1 b2 hst
        have lb := lnb best (by omega)
        have mb := mi best
        have leave : ¬ (ln n ≤ most ∧ (mtS M (if I r_wells 0 = 1 then M 0 else 0) best < mtS M (if I r_wells 0 = 1 then M 0 else 0) n ∨ (mtS M (if I r_wells 0 = 1 then M 0 else 0) n = mtS M (if I r_wells 0 = 1 then M 0 else 0) best ∧ ln n < ln best))) → R_findRound_k144 G S J1 most ((n : Int) + 1) R := fun c => by
          rw [if_neg c] at hst
          rw [hst] at nx
          exact nx J1 f1 x1 x2 x3
        rw [w32_b (z := most) (by omega) (by omega), w32_b (z := dR D L n) (by omega) (by omega), x1, x2, x3, w32_nat (k := best) (by omega), show w32 (-1) = -1 from rfl, w32_b (z := mtS M (if I r_wells 0 = 1 then M 0 else 0) best) (by omega) (by omega), w32_b (z := mtS M (if I r_wells 0 = 1 then M 0 else 0) n) (by omega) (by omega), w32_b (z := ln best) (by omega) (by omega)]
        rcases hcan with ⟨rfl, c⟩ | ⟨rfl, c⟩
        · have l := (hln n hn).1 c
          have es : dR D L n ≤ most → dR D L n = ln n := fun q => by rw [l]; unfold sat; rw [if_pos (by omega)]
          refine br1 ⟨fun e => leave (fun q => ?_), fun e => ⟨fun e2 => absurd e2 (by omega), fun _ => ⟨fun e3 => take (es (by omega)) ?_, fun e3 => ⟨fun e4 => ⟨fun e5 => leave (fun q => ?_), fun e5 => take (es (by omega)) ?_⟩, fun e4 => leave (fun q => ?_)⟩⟩⟩⟩
          · have q1 := q.1
            rw [l] at q1
            unfold sat at q1
            split at q1 <;> omega
          · have := es (by omega)
            rw [hst, if_pos ⟨by omega, Or.inl e3⟩]
          · have := es (by omega); omega
          · have := es (by omega)
            rw [hst, if_pos ⟨by omega, Or.inr ⟨e4, by omega⟩⟩]
          · rcases q.2 with q | q
            · exact e3 q
            · exact e4 q.1
        · have l := (hln n hn).2 c
          exact br0 (leave (fun q => by have := q.1; omega))
    have inner : ∀ base : Int, base = (if I r_wells 0 = 1 then M 0 else 0) → R_findRound_k178 G S J1 most (n : Int) base 1 1 R := by
      intro base hbase
      have e0 : base + sumA (fun t => if hasS n t then M t else 0) 1 = base := by
        show base + (0 + (if hasS n 0 then M 0 else 0)) = base
        rw [if_neg (fun q => by have := q.1; omega)]; omega
      have key := down (n := 10) (P := fun c => 1 ≤ c → ∀ can : Int, ((can = 1 ∧ (∀ t, t < c → hasS n t → I r_wells t = 1)) ∨ (can = 0 ∧ ¬ (∀ t, t < c → hasS n t → I r_wells t = 1))) → R_findRound_k178 G S J1 most (n : Int) (base + sumA (fun t => if hasS n t then M t else 0) c) can (c : Int) R) ?_ ?_ 1 (by decide) (Nat.le_refl _) 1 (Or.inl ⟨rfl, fun t h1 q => by have := q.1; omega⟩)
      · rw [e0] at key; exact key
      · intro _ can hcan
        have := dec can hcan
        unfold mtS at this
        rw [← hbase] at this; exact this
      · intro c hc ihc c1 can hcan
        have hs : sumA (fun t => if hasS n t then M t else 0) (c + 1) = sumA (fun t => if hasS n t then M t else 0) c + (if hasS n c then M c else 0) := rfl
        have wc := gw c hc
        refine b_R_findRound_k178 hS ⟨fun e => absurd e (by rw [show w32 10 = 10 from rfl, w32_nat (by omega)]; omega), fun _ => ?_⟩
        rw [set_has n hn c hc c1]
        by_cases q : hasS n c
        · rw [if_pos q]
          have k227 : ∀ s0 : Int, ((s0 = 1 ∧ (∀ t, t < c + 1 → hasS n t → I r_wells t = 1)) ∨ (s0 = 0 ∧ ¬ (∀ t, t < c + 1 → hasS n t → I r_wells t = 1))) → R_findRound_k227 G S J1 most (n : Int) (base + sumA (fun t => if hasS n t then M t else 0) c) (c : Int) s0 R := fun s0 hs0 => by
            refine b_R_findRound_k227 hS ⟨inb_b (by omega) (by omega) (by decide), ?_⟩
            have := ihc (by omega) s0 hs0
            rw [hs, if_pos q] at this
            rw [ix_nat (k := c) (by omega), f1 r_meets (by decide), (hM c hc).1, Int.add_assoc]; exact this
          refine br1 ?_
          rcases hcan with ⟨rfl, y⟩ | ⟨rfl, y⟩
          · rw [tJ r_cells (by decide) (by decide), cc.1, w32_nat (k := nC I) (by omega), w32_nat (k := c) (by omega), ix_nat (k := c) (by omega), tJ r_wells (by decide) (by decide), w32_b (z := I r_wells c) (by omega) (by omega)]
            refine br1 ⟨fun e => k227 0 (Or.inr ⟨rfl, fun z => ?_⟩), fun e => ⟨inb_b (by omega) (by omega) (by decide), fun e2 => k227 0 (Or.inr ⟨rfl, fun z => ?_⟩), fun e2 => k227 1 (Or.inl ⟨rfl, fun t h1 q2 => ?_⟩)⟩⟩
            · have := z c (by omega) q
              have := gz c (by omega) hc
              omega
            · have := z c (by omega) q; omega
            · by_cases et : t = c
              · subst et; omega
              · exact y t (by omega) q2
          · exact br0 (k227 0 (Or.inr ⟨rfl, fun z => y (fun t h1 q2 => z t (by omega) q2)⟩))
        · rw [if_neg q]
          refine br0 ?_
          have := ihc (by omega) can (by
            rcases hcan with ⟨x, y⟩ | ⟨x, y⟩
            · refine Or.inl ⟨x, fun t h1 q2 => ?_⟩
              by_cases et : t = c
              · subst et; exact absurd q2 q
              · exact y t (by omega) q2
            · exact Or.inr ⟨x, fun z => y (fun t h1 q2 => z t (by omega) q2)⟩)
          rw [hs, if_neg q, Int.add_zero] at this
          exact this
    have w0 := gw 0 (by decide)
    refine b_R_findRound_k144 hS ⟨fun e => absurd e (by rw [show w32 512 = 512 from rfl, w32_nat (by omega)]; omega), fun _ => ?_⟩
    rw [tJ r_wells (by decide) (by decide), w32_b (z := I r_wells 0) (by omega) (by omega), f1 r_meets (by decide), (hM 0 (by decide)).1]
    exact ⟨fun e => inner 0 (by rw [if_neg (by omega)]), fun e => inner (M 0) (by rw [if_pos (by omega)])⟩
/-- the reference's meets -/
theorem s_R_meets {wk : Nat} {most : Int} {R : Int → XI → Prop} (hS : xSh S) (hI : Rel S I) (hw : wk ≤ 99)
    (h : ∀ J, fmM I J → (∀ j, j < 10 → J r_meets j = smT (Xof I) (nC I) (nG I) (nN I) (FCo I) (FWo I) (viewR I) wk wk (nM I) j) → R_findFar G S J (fun I6 => R_findLeast G S I6 (fun I7 => (∀ I8 : XI, I8 = up I7 r_obj 79 (-1) → (∀ I9 : XI, I9 = up I8 r_obj 80 0 → (∀ I10 : XI, I10 = up I9 r_obj 81 0 → R_findRound_k144 G S I10 most 0 R)))))) : ∀ J, fmM I J → R_findRound_k30 G S J (wk : Int) most 0 R := by
  have cm := nM_c hI.good
  have hvw := viewR_in hI.okR
  have k51 : ∀ c, c ≤ nM I → ∀ J1 : XI, fmM I J1 → (∀ j, j < 10 → J1 r_meets j = smT (Xof I) (nC I) (nG I) (nN I) (FCo I) (FWo I) (viewR I) wk wk c j) → R_findRound_k51 G S J1 (wk : Int) most (c : Int) R := by
    refine down (n := nM I) (P := fun c => ∀ J1 : XI, fmM I J1 → (∀ j, j < 10 → J1 r_meets j = smT (Xof I) (nC I) (nG I) (nN I) (FCo I) (FWo I) (viewR I) wk wk c j) → R_findRound_k51 G S J1 (wk : Int) most (c : Int) R) ?_ ?_
    · intro J1 f1 s1
      refine b_R_findRound_k51 hS ⟨fun _ => h J1 f1 s1, fun e => absurd ?_ e⟩
      rw [f1.tf r_camps (by decide) (by decide), cm.1]; exact Int.le_refl _
    · intro c hc ih J1 f1 s1
      obtain ⟨w1, w2, w3⟩ := hI.FW hc
      have es : ∀ j, smT (Xof I) (nC I) (nG I) (nN I) (FCo I) (FWo I) (viewR I) wk wk (c + 1) j = smT (Xof I) (nC I) (nG I) (nN I) (FCo I) (FWo I) (viewR I) wk wk c j + (if FWo I c ≤ wk then ptA (Xof I) (nC I) (nG I) (nN I) c (viewR I) (FCo I c) (FWo I c) (wk - FWo I c) j else 0) := fun j => by
        have e : smT (Xof I) (nC I) (nG I) (nN I) (FCo I) (FWo I) (viewR I) wk wk (c + 1) j = smT (Xof I) (nC I) (nG I) (nN I) (FCo I) (FWo I) (viewR I) wk wk c j + smK (Xof I) (nC I) (nG I) (nN I) c (viewR I) (FCo I c) (FWo I c) wk wk j := rfl
        rw [e, smK_1]
      refine b_R_findRound_k51 hS ⟨fun e => absurd e (by rw [f1.tf r_camps (by decide) (by decide), cm.1, w32_nat (by omega), w32_nat (by omega)]; omega), fun _ => s_R_isThere hS hI f1.tf ⟨by omega, by omega⟩ ⟨by omega, by omega⟩ (fun c' q => br1 (s_R_viewWeek hS (hI.fmM f1).okR ?_)) (fun n => br0 ?_)⟩
      · obtain ⟨q1, q2, q3, q4⟩ := q
        have ec : c' = c := by omega
        subst ec
        rw [tf_view f1.tf]
        refine r_find (c := c') (wk := wk) hS hI f1.tf rfl hc rfl hw (by omega) hvw (fun J2 P2 => ?_)
        have f2 := f1.fmP P2.2.1
        refine down (n := 10) (P := fun i => ∀ J3 : XI, fmM I J3 → (∀ j, j < 10 → J3 r_parts j = ptA (Xof I) (nC I) (nG I) (nN I) c' (viewR I) (FCo I c') (FWo I c') (wk - FWo I c') j) → (∀ j, j < 10 → J3 r_meets j = if j < i then smT (Xof I) (nC I) (nG I) (nN I) (FCo I) (FWo I) (viewR I) wk wk (c' + 1) j else smT (Xof I) (nC I) (nG I) (nN I) (FCo I) (FWo I) (viewR I) wk wk c' j) → R_findRound_k83 G S J3 (wk : Int) most (c' : Int) (i : Int) R) ?_ ?_ 0 (Nat.zero_le _) J2 f2 P2.1 (fun j hj => by rw [if_neg (by omega), P2.2.1 _ (by decide) (by decide)]; exact s1 j hj)
        · intro J3 f3 p3 s3
          exact b_R_findRound_k83 hS ⟨fun _ => ih J3 f3 (fun j hj => by rw [s3 j hj, if_pos hj]), fun e => absurd (by decide) e⟩
        · intro i hi ihi J3 f3 p3 s3
          refine b_R_findRound_k83 hS ⟨fun e => absurd e (by rw [show w32 10 = 10 from rfl, w32_nat (by omega)]; omega), fun _ => ⟨inb_b (by omega) (by omega) (by decide), inb_b (by omega) (by omega) (by decide), inb_b (by omega) (by omega) (by decide), fun J6 e6 => ?_⟩⟩
          rw [ix_nat (k := i) (by omega), s3 i hi, if_neg (show ¬ i < i by omega), p3 i hi] at e6
          subst e6
          refine ihi _ f3.up (fun j hj => by rw [up_1 _ (by decide)]; exact p3 j hj) (fun j hj => ?_)
          by_cases ej : j = i
          · subst ej
            rw [up_s, if_pos (by omega), es, if_pos (by omega)]
          · rw [up_2 _ ej, s3 j hj]
            by_cases cj : j < i
            · rw [if_pos cj, if_pos (show j < i + 1 by omega)]
            · rw [if_neg cj, if_neg (show ¬ j < i + 1 by omega)]
      · refine ih J1 f1 (fun j hj => ?_)
        rw [s1 j hj, es, if_neg (fun z => n ⟨c, rfl, by omega, by omega, by omega⟩), Int.add_zero]
  intro J fJ
  refine down (n := 10) (P := fun k => ∀ J1 : XI, fmM I J1 → (∀ j, j < k → J1 r_meets j = 0) → R_findRound_k30 G S J1 (wk : Int) most (k : Int) R) ?_ ?_ 0 (Nat.zero_le _) J fJ (fun j hj => absurd hj (by omega))
  · intro J1 f1 s1
    exact b_R_findRound_k30 hS ⟨fun _ => k51 0 (Nat.zero_le _) J1 f1 s1, fun e => absurd (by decide) e⟩
  · intro k hk ih J1 f1 s1
    refine b_R_findRound_k30 hS ?_
    rw [show w32 10 = 10 from rfl, w32_nat (k := k) (by omega), ix_nat (k := k) (by omega)]
    refine ⟨fun e => absurd e (by omega), fun _ => ⟨inb_b (by omega) (by omega) (by decide), fun J2 e2 => ?_⟩⟩
    subst e2
    refine ih _ f1.up (fun j hj => ?_)
    by_cases ej : j = k
    · rw [ej, up_s]
    · rw [up_2 _ ej]; exact s1 j (by omega)
end PRo
