/-! ===== ROUND: the set that MEETS most ===== -/
def mtS (M : Nat → Int) (base : Int) (s : Nat) : Int := base + sumA (fun t => if hasS s t then M t else 0) 10
theorem mt_step {M : Nat → Int} {base : Int} {s t : Nat} (hs : s < 512) (ht : t < 10) (hh : hasS s t) : mtS M base s = mtS M base (woS s t) + M t := by
  have hw := (set_wo s hs t ht hh).2
  have e : sumA (fun u => if hasS (woS s t) u then M u else 0) 10 = sumA (ud (fun u => if hasS s u then M u else 0) t 0) 10 := sumA_congr (fun u hu => by
    unfold ud
    by_cases c : u = t
    · rw [if_pos c, if_neg (fun q => ((hw u hu).mp q).2 c)]
    · rw [if_neg c]
      show _ = (if hasS s u then M u else 0)
      by_cases d : hasS s u
      · rw [if_pos d, if_pos ((hw u hu).mpr ⟨d, c⟩)]
      · rw [if_neg d, if_neg (fun q => d ((hw u hu).mp q).1)])
  unfold mtS
  rw [e, sumA_ud, if_pos ht, if_pos hh]
  omega
theorem mtS_in {M : Nat → Int} {base : Int} (hM : ∀ j, j < 10 → 0 ≤ M j ∧ M j ≤ 6000000) (hb : 0 ≤ base ∧ base ≤ 6000000) (s : Nat) : 0 ≤ mtS M base s ∧ mtS M base s ≤ 70000000 := by
  have a := sumA_nn (f := fun t => if hasS s t then M t else 0) (n := 10) (fun j hj => by show 0 ≤ (if hasS s j then M j else 0); have := hM j hj; split <;> omega)
  have b := sumA_lt (f := fun t => if hasS s t then M t else 0) (a := 6000001) (n := 10) (fun j hj => by show (if hasS s j then M j else 0) < 6000001; have := hM j hj; split <;> omega)
  unfold mtS
  omega
def chS (most : Int) (mt ln : Nat → Int) : Nat → Nat
  | 0 => 0
  | n + 1 => if ln (n + 1) ≤ most ∧ (mt (chS most mt ln n) < mt (n + 1) ∨ (mt (n + 1) = mt (chS most mt ln n) ∧ ln (n + 1) < ln (chS most mt ln n))) then n + 1 else chS most mt ln n
theorem chS_in {most : Int} {mt ln : Nat → Int} (h0 : ln 0 ≤ most) : ∀ n, chS most mt ln n ≤ n ∧ ln (chS most mt ln n) ≤ most
  | 0 => ⟨Nat.le_refl _, h0⟩
  | n + 1 => by
    have ih := chS_in (mt := mt) h0 n
    rw [chS]; split
    · next c => exact ⟨Nat.le_refl _, c.1⟩
    · exact ⟨by omega, ih.2⟩
theorem hm_b {w : Int} {D H : Nat → Int} (hD : ∀ k, k < 100 → 0 ≤ D k ∧ D k ≤ 100000) (h : ∀ s c, s < 512 → c < 10 → HM w D H s c) : ∀ s, s < 512 → ∀ c, c < 10 → 0 ≤ H (s * 10 + c) ∧ H (s * 10 + c) ≤ 100000 := by
  intro s
  induction s using Nat.strongRecOn with
  | ind s ih =>
    intro hs c hc
    rcases Classical.em (allW w s) with a | a
    · rw [(h s c hs hc).1 a]
      split
      · exact hD _ (by omega)
      · exact mnT_in (by decide) (fun j hj q => by
          have := hD (c * 10 + j) (by omega)
          have hlt := (set_wo s hs j hj q).1
          have := ih (woS s j) hlt (by omega) j hj
          omega)
    · rw [(h s c hs hc).2 a]; exact ⟨by decide, by decide⟩
section PCh
variable {G : XG} {S : XS}
theorem s_La_hasWell {I : XI} {c nc : Nat} {w v : Int} {R : Int → XI → Prop} (hS : xSh S) (hv : v = (c : Int)) (hc : c < 10) (hn : I c_land 0 = (nc : Int)) (hn2 : nc ≤ 10) (hw : I c_land 1 = w) (hw2 : 0 ≤ w ∧ w < 1024) (ht : c < nc → bitI w c = 1 → R 1 I) (hf : ¬ (c < nc ∧ bitI w c = 1) → R 0 I) : La_hasWell G S I v R := by
  subst hv
  obtain ⟨e1, e2⟩ := bit_read (w := w) (k := c) hw2.1 (by omega) (by omega)
  refine b_La_hasWell hS (b_La_hasCell hS ?_)
  rw [hn, hw, w32_nat (k := nc) (by omega), w32_nat (k := c) (by omega), e1, w32_b (z := bitI w c) (by omega) (by omega), show w32 1 = 1 from rfl]
  exact ⟨fun e => absurd e (by omega), fun _ => ⟨fun e => br0 (hf (fun q => by omega)), fun e => br1 ⟨fun b => ht (by omega) b, fun b => hf (fun q => b q.2)⟩⟩⟩
theorem s_Wa_addUp {I : XI} {nc : Nat} {w : Int} {M : Nat → Int} {R : XI → Prop} (hS : xSh S) (hn : I c_land 0 = (nc : Int)) (hn1 : 1 ≤ nc) (hn2 : nc ≤ 10) (hw : I c_land 1 = w) (hw2 : 0 ≤ w ∧ w < 1024) (hM : ∀ j, j < 10 → I c_sums j = M j)
    (h : ∀ I', (∀ s, s < 512 → I' c_walks_meets s = mtS M (if bitI w 0 = 1 then M 0 else 0) s) → (∀ a, a ≠ c_walks_meets → I' a = I a) → R I') : Wa_addUp G S I R := by
  have base : ∀ z : Int, z = (if bitI w 0 = 1 then M 0 else 0) → Wa_addUp_k23 G S (up I c_walks_meets 0 z) 1 R := by
    intro z hz
    refine down (n := 512) (P := fun n => 1 ≤ n → ∀ I1 : XI, (∀ s, s < n → I1 c_walks_meets s = mtS M z s) → (∀ a, a ≠ c_walks_meets → I1 a = I a) → Wa_addUp_k23 G S I1 (n : Int) R) ?_ ?_ 1 (by decide) (Nat.le_refl _) (up I c_walks_meets 0 z) (fun s hs => ?_) (fun a ha => up_row ha)
    · intro _ I1 q1 q2
      exact b_Wa_addUp_k23 hS ⟨fun _ => h I1 (by rw [← hz]; exact q1) q2, fun e => absurd (by decide) e⟩
    · intro n hn' ih n1 I1 q1 q2
      refine b_Wa_addUp_k23 hS ⟨fun e => absurd e (by rw [show w32 512 = 512 from rfl, w32_nat (by omega)]; omega), fun _ => ?_⟩
      have fin : ∀ t, t < 10 → hasS n t → Wa_addUp_k55 G S I1 (n : Int) (t : Int) R := fun t ht hh => by
        have hlt := (set_wo n hn' t ht hh).1
        refine b_Wa_addUp_k55 hS (s_Wa_without hS rfl hn' rfl ht hh ⟨inb_b (by omega) (by omega) (by decide), inb_b (by omega) (by omega) (by decide), inb_b (by omega) (by omega) (by decide), fun I9 e9 => ?_⟩)
        rw [ix_nat (k := n) (by omega), ix_nat (k := woS n t) (by omega), ix_nat (k := t) (by omega), q1 _ hlt, q2 c_sums (by decide), hM t ht, ← mt_step hn' ht hh] at e9
        subst e9
        refine ih (by omega) _ (fun s hs => ?_) (fun a ha => (up_row ha).trans (q2 a ha))
        by_cases e : s = n
        · rw [e, up_s]
        · rw [up_2 _ e]; exact q1 s (by omega)
      obtain ⟨t0, ht0, hh0⟩ := set_ex n hn' (by omega)
      refine down (n := 9) (P := fun t => 1 ≤ t → (∀ u, u < t → ¬ hasS n u) → Wa_addUp_k33 G S I1 (n : Int) (t : Int) R) ?_ ?_ 1 (by decide) (Nat.le_refl _) (fun u hu q => by have := q.1; omega)
      · intro _ hno
        refine b_Wa_addUp_k33 hS ⟨fun _ => fin 9 (by decide) ?_, fun e => absurd (by decide) e⟩
        have : t0 = 9 := by
          apply Decidable.byContradiction
          intro z
          exact hno t0 (by omega) hh0
        rw [this] at hh0; exact hh0
      · intro t ht iht t1 hno
        refine b_Wa_addUp_k33 hS ⟨fun e => absurd e (by rw [show w32 9 = 9 from rfl, w32_nat (by omega)]; omega), fun _ => s_Wa_hasStop hS rfl hn' rfl (by omega) t1 (fun q => br1 (fin t (by omega) q)) (fun q => br0 (iht (by omega) (fun u hu => ?_)))⟩
        by_cases e : u = t
        · subst e; exact q
        · exact hno u (by omega)
    · have e0 : s = 0 := by omega
      subst e0
      rw [up_s]
      unfold mtS
      rw [sumA_0 (fun j _ => if_neg (fun q => by have := hasS_pos q; omega))]; omega
  refine b_Wa_addUp hS (s_La_hasWell (c := 0) hS rfl (by decide) hn hn2 hw hw2 (fun _ b => br1 (fun I4 e4 => ?_)) (fun q => br0 (fun I4 e4 => ?_)))
  · rw [hM 0 (by decide)] at e4
    subst e4; exact base _ (by rw [if_pos b])
  · subst e4; exact base _ (by rw [if_neg (fun b => q ⟨by omega, b⟩)])
theorem s_Wa_choose {I : XI} {nc : Nat} {w most : Int} {M W : Nat → Int} {R : XI → Prop} (hS : xSh S) (hK : WkOk I) (hn : I c_land 0 = (nc : Int)) (hn1 : 1 ≤ nc) (hn2 : nc ≤ 10) (hw : I c_land 1 = w) (hw2 : 0 ≤ w ∧ w < 1024) (hM : ∀ j, j < 10 → I c_sums j = M j ∧ 0 ≤ M j ∧ M j ≤ 6000000) (hW : I c_land_ways = W) (h1 : ∀ j, j < 100 → 0 ≤ W j ∧ W j ≤ 9) (h2 : ∀ a b, a < 10 → b < 10 → W (a * 10 + b) = W (b * 10 + a)) (hm : 1 ≤ most ∧ most ≤ 60)
    (h : ∀ I' : XI, (I' c_walks 6 = 1 ∧ (∀ k, k < 100 → I' c_walks_days k = flN (fl0 100000 W) 10 k) ∧ ∀ s c, s < 512 → c < 10 → HM w (I' c_walks_days) (I' c_walks_home) s c) → (∀ a, (a < 59 ∨ 62 < a) → I' a = I a) →
      I' c_walks 0 = (chS most (mtS M (if bitI w 0 = 1 then M 0 else 0)) (fun s => I' c_walks_home (s * 10)) 511 : Int) → I' c_walks 1 = I' c_walks_home (chS most (mtS M (if bitI w 0 = 1 then M 0 else 0)) (fun s => I' c_walks_home (s * 10)) 511 * 10) → I' c_walks 2 = mtS M (if bitI w 0 = 1 then M 0 else 0) (chS most (mtS M (if bitI w 0 = 1 then M 0 else 0)) (fun s => I' c_walks_home (s * 10)) 511) → R I') : Wa_choose G S I most R := by
  have ok := flN_ok (fl0_ok (F := 100000) (by decide) h1 h2) 10 (Nat.le_refl _)
  have k22 : ∀ I1 : XI, (I1 c_walks 6 = 1 ∧ (∀ k, k < 100 → I1 c_walks_days k = flN (fl0 100000 W) 10 k) ∧ ∀ s c, s < 512 → c < 10 → HM w (I1 c_walks_days) (I1 c_walks_home) s c) → (∀ a, (a < 59 ∨ 62 < a) → I1 a = I a) → Wa_choose_k22 G S I1 most R := by
    intro I1 d1 f1
    have hb := hm_b (w := w) (D := I1 c_walks_days) (H := I1 c_walks_home) (fun k hk => by rw [d1.2.1 k hk]; exact ok.1 k hk) d1.2.2
    have mi := mtS_in (M := M) (base := if bitI w 0 = 1 then M 0 else 0) (fun j hj => (hM j hj).2) (by have := hM 0 (by decide); split <;> omega)
    have h00 : I1 c_walks_home 0 = 0 := by
      have := (d1.2.2 0 0 (by decide) (by decide)).1 (fun t _ q => by have := hasS_pos q; omega)
      rw [if_pos rfl, d1.2.1 0 (by decide)] at this
      have z := ok.2.1 0 (by decide)
      rw [show (0 : Nat) * 10 + 0 = 0 from rfl] at this z
      rw [this]; exact z
    have ci := chS_in (most := most) (mt := mtS M (if bitI w 0 = 1 then M 0 else 0)) (ln := fun s => I1 c_walks_home (s * 10)) (by show I1 c_walks_home (0 * 10) ≤ most; rw [show (0 : Nat) * 10 = 0 from rfl, h00]; omega)
    refine b_Wa_choose_k22 hS (s_Wa_addUp (M := M) hS (by rw [f1 _ (by decide)]; exact hn) hn1 hn2 (by rw [f1 _ (by decide)]; exact hw) hw2 (fun j hj => by rw [f1 _ (by decide)]; exact (hM j hj).1) (fun I4 m4 f4 I5 e5 => ?_))
    have hom : ∀ I6 : XI, (∀ a, a ≠ c_walks_meets → a ≠ c_walks → I6 a = I1 a) → I6 c_walks_home = I1 c_walks_home := fun I6 g => g _ (by decide) (by decide)
    refine down (n := 512) (P := fun n => 1 ≤ n → ∀ I6 : XI, (∀ s, s < 512 → I6 c_walks_meets s = mtS M (if bitI w 0 = 1 then M 0 else 0) s) → (∀ a, a ≠ c_walks_meets → a ≠ c_walks → I6 a = I1 a) → I6 c_walks 0 = (chS most (mtS M (if bitI w 0 = 1 then M 0 else 0)) (fun s => I1 c_walks_home (s * 10)) (n - 1) : Int) → I6 c_walks 6 = 1 → Wa_choose_k36 G S I6 most (n : Int) R) ?_ ?_ 1 (by decide) (Nat.le_refl _) I5 (fun s hs => by rw [e5, up_1 _ (by decide)]; exact m4 s hs) (fun a a1 a2 => by rw [e5, up_row a2]; exact f4 a a1) (by rw [e5, up_s]; rfl) (by rw [e5, up_2 _ (by decide), f4 _ (by decide)]; exact d1.1)
    · intro _ I6 q1 q2 q3 q4
      obtain ⟨b1, b2⟩ := ci 511
      rw [show 512 - 1 = 511 from rfl] at q3
      refine b_Wa_choose_k36 hS ⟨fun _ => ?_, fun e => absurd (by decide) e⟩
      generalize hbest : chS most (mtS M (if bitI w 0 = 1 then M 0 else 0)) (fun s => I1 c_walks_home (s * 10)) 511 = best at b1 b2 q3
      have eb : ((best : Int) * 10) = ((best * 10 : Nat) : Int) := by omega
      rw [q3, eb, ix_nat (k := best * 10) (by omega), hom I6 q2]
      refine ⟨inb_b (by omega) (by omega) (by decide), fun I7 e7 => ?_⟩
      have e70 : I7 c_walks 0 = (best : Int) := by rw [e7, up_2 _ (by decide)]; exact q3
      rw [e70, ix_nat (k := best) (by omega)]
      refine ⟨inb_b (by omega) (by omega) (by decide), fun I8 e8 => ?_⟩
      have em : I7 c_walks_meets best = mtS M (if bitI w 0 = 1 then M 0 else 0) best := by rw [e7, up_1 _ (by decide)]; exact q1 best (by omega)
      rw [em] at e8
      have g8 : ∀ a, a ≠ c_walks_meets → a ≠ c_walks → I8 a = I1 a := fun a a1 a2 => by rw [e8, up_row a2, e7, up_row a2]; exact q2 a a1 a2
      refine h I8 ⟨?_, ?_, ?_⟩ (fun a ha => ?_) ?_ ?_ ?_
      · rw [e8, up_2 _ (by decide), e7, up_2 _ (by decide)]; exact q4
      · rw [g8 _ (by decide) (by decide)]; exact d1.2.1
      · rw [g8 c_walks_days (by decide) (by decide), g8 c_walks_home (by decide) (by decide)]; exact d1.2.2
      · rw [g8 a (show a ≠ 62 by omega) (show a ≠ 59 by omega)]; exact f1 a ha
      · rw [g8 c_walks_home (by decide) (by decide), hbest, e8, up_2 _ (by decide)]; exact e70
      · rw [g8 c_walks_home (by decide) (by decide), hbest, e8, up_2 _ (by decide), e7, up_s]
      · rw [g8 c_walks_home (by decide) (by decide), hbest, e8, up_s]
    · intro n hn' ih n1 I6 q1 q2 q3 q4
      obtain ⟨b1, b2⟩ := ci (n - 1)
      have hst : chS most (mtS M (if bitI w 0 = 1 then M 0 else 0)) (fun s => I1 c_walks_home (s * 10)) n = if I1 c_walks_home (n * 10) ≤ most ∧ (mtS M (if bitI w 0 = 1 then M 0 else 0) (chS most (mtS M (if bitI w 0 = 1 then M 0 else 0)) (fun s => I1 c_walks_home (s * 10)) (n - 1)) < mtS M (if bitI w 0 = 1 then M 0 else 0) n ∨ (mtS M (if bitI w 0 = 1 then M 0 else 0) n = mtS M (if bitI w 0 = 1 then M 0 else 0) (chS most (mtS M (if bitI w 0 = 1 then M 0 else 0)) (fun s => I1 c_walks_home (s * 10)) (n - 1)) ∧ I1 c_walks_home (n * 10) < I1 c_walks_home (chS most (mtS M (if bitI w 0 = 1 then M 0 else 0)) (fun s => I1 c_walks_home (s * 10)) (n - 1) * 10))) then n else chS most (mtS M (if bitI w 0 = 1 then M 0 else 0)) (fun s => I1 c_walks_home (s * 10)) (n - 1) := by
        obtain ⟨m, rfl⟩ : ∃ m, n = m + 1 := ⟨n - 1, by omega⟩
        rw [chS, Nat.add_sub_cancel]
      generalize hbest : chS most (mtS M (if bitI w 0 = 1 then M 0 else 0)) (fun s => I1 c_walks_home (s * 10)) (n - 1) = best at b1 b2 q3 hst
      have b2 : I1 c_walks_home (best * 10) ≤ most := b2
      have eb : ((best : Int) * 10) = ((best * 10 : Nat) : Int) := by omega
      have en : ((n : Int) * 10) = ((n * 10 : Nat) : Int) := by omega
      have ihs : ∀ I7 : XI, (∀ s, s < 512 → I7 c_walks_meets s = mtS M (if bitI w 0 = 1 then M 0 else 0) s) → (∀ a, a ≠ c_walks_meets → a ≠ c_walks → I7 a = I1 a) → I7 c_walks 0 = (chS most (mtS M (if bitI w 0 = 1 then M 0 else 0)) (fun s => I1 c_walks_home (s * 10)) n : Int) → I7 c_walks 6 = 1 → Wa_choose_k36 G S I7 most ((n : Int) + 1) R := fun I7 z1 z2 z3 z4 => ih (by omega) I7 z1 z2 z3 z4
      rw [hst] at ihs
      have hnb := hb n hn' 0 (by decide)
      have hbb := hb best (by omega) 0 (by decide)
      rw [Nat.add_zero] at hnb hbb
      have mn := mi n
      have mb := mi best
      have take : I1 c_walks_home (n * 10) ≤ most ∧ (mtS M (if bitI w 0 = 1 then M 0 else 0) best < mtS M (if bitI w 0 = 1 then M 0 else 0) n ∨ (mtS M (if bitI w 0 = 1 then M 0 else 0) n = mtS M (if bitI w 0 = 1 then M 0 else 0) best ∧ I1 c_walks_home (n * 10) < I1 c_walks_home (best * 10))) → Wa_choose_k36 G S (up I6 c_walks 0 (n : Int)) most ((n : Int) + 1) R := fun c => by
        rw [if_pos c] at ihs
        exact ihs _ (fun s hs => by rw [up_1 _ (by decide)]; exact q1 s hs) (fun a a1 a2 => (up_row a2).trans (q2 a a1 a2)) (up_s _ _ _ _) (by rw [up_2 _ (by decide)]; exact q4)
      have leave : ¬ (I1 c_walks_home (n * 10) ≤ most ∧ (mtS M (if bitI w 0 = 1 then M 0 else 0) best < mtS M (if bitI w 0 = 1 then M 0 else 0) n ∨ (mtS M (if bitI w 0 = 1 then M 0 else 0) n = mtS M (if bitI w 0 = 1 then M 0 else 0) best ∧ I1 c_walks_home (n * 10) < I1 c_walks_home (best * 10)))) → Wa_choose_k36 G S I6 most ((n : Int) + 1) R := fun c => by
        rw [if_neg c] at ihs
        exact ihs I6 q1 q2 q3 q4
      have k97 : ∀ s0 : Int, (s0 = 1 ∧ (mtS M (if bitI w 0 = 1 then M 0 else 0) n = mtS M (if bitI w 0 = 1 then M 0 else 0) best ∧ I1 c_walks_home (n * 10) < I1 c_walks_home (best * 10))) ∨ (s0 = 0 ∧ ¬ (mtS M (if bitI w 0 = 1 then M 0 else 0) n = mtS M (if bitI w 0 = 1 then M 0 else 0) best ∧ I1 c_walks_home (n * 10) < I1 c_walks_home (best * 10))) → Wa_choose_k97 G S I6 most (n : Int) (I1 c_walks_home (n * 10)) s0 R := by
        intro s0 hs0
        refine b_Wa_choose_k97 hS ?_
        rw [q3, ix_nat (k := n) (by omega), ix_nat (k := best) (by omega), q1 n hn', q1 best (by omega), w32_b (z := most) (by omega) (by omega), w32_b (z := I1 c_walks_home (n * 10)) (by omega) (by omega), w32_b (z := mtS M (if bitI w 0 = 1 then M 0 else 0) n) (by omega) (by omega), w32_b (z := mtS M (if bitI w 0 = 1 then M 0 else 0) best) (by omega) (by omega)]
        refine ⟨fun c => leave (fun q => by omega), fun c => ⟨inb_b (by omega) (by omega) (by decide), inb_b (by omega) (by omega) (by decide), fun d I8 e8 => ?_, fun d => ?_⟩⟩
        · subst e8; exact take ⟨by omega, Or.inl d⟩
        · rcases hs0 with ⟨rfl, z⟩ | ⟨rfl, z⟩
          · refine br1 (fun I9 e9 => ?_)
            subst e9; exact take ⟨by omega, Or.inr z⟩
          · exact br0 (leave (fun q => by rcases q.2 with q | q; exact d q; exact z q))
      refine b_Wa_choose_k36 hS ⟨fun e => absurd e (by rw [show w32 512 = 512 from rfl, w32_nat (by omega)]; omega), fun _ => ?_⟩
      rw [q3, eb, en, ix_nat (k := n) (by omega), ix_nat (k := best) (by omega), ix_nat (k := n * 10) (by omega), ix_nat (k := best * 10) (by omega), q1 n hn', q1 best (by omega), hom I6 q2, w32_b (z := mtS M (if bitI w 0 = 1 then M 0 else 0) n) (by omega) (by omega), w32_b (z := mtS M (if bitI w 0 = 1 then M 0 else 0) best) (by omega) (by omega), w32_b (z := I1 c_walks_home (n * 10)) (by omega) (by omega), w32_b (z := I1 c_walks_home (best * 10)) (by omega) (by omega)]
      refine ⟨inb_b (by omega) (by omega) (by decide), inb_b (by omega) (by omega) (by decide), inb_b (by omega) (by omega) (by decide), fun c => ⟨inb_b (by omega) (by omega) (by decide), fun d => k97 0 (Or.inr ⟨rfl, fun q => by omega⟩), fun d => k97 1 (Or.inl ⟨rfl, c, by omega⟩)⟩, fun c => k97 0 (Or.inr ⟨rfl, fun q => c q.1⟩)⟩
  refine b_Wa_choose hS ?_
  rcases hK with e | ⟨e, e2, e3⟩
  · rw [e]
    refine br0 (s_Wa_findDays hS (fun j _ => by rw [hW]) h1 h2 (fun I1 g1 g2 => s_Wa_findHome (D := I1 c_walks_days) hS (by rw [g2 _ (by decide)]; exact hw) hw2 (fun k hk => ⟨rfl, by rw [g1 k hk]; exact ok.1 k hk⟩) (fun I2 p1 p2 p3 I3 e4 => ?_)))
    refine k22 I3 ⟨by rw [e4, up_s], fun k hk => ?_, fun s c hs hc => ?_⟩ (fun a ha => ?_)
    · rw [e4, up_1 _ (by decide), p3 _ (by decide)]; exact g1 k hk
    · rw [e4, up_row (by decide), up_row (by decide), p3 c_walks_days (by decide)]; exact p1 s c hs hc
    · rw [e4, up_row (show a ≠ 59 by omega), p3 a (show a ≠ 61 by omega), g2 a (show a ≠ 60 by omega)]
  · rw [e]
    refine br1 (k22 I ⟨e, fun k hk => by rw [e2 k hk, hW], fun s c hs hc => ?_⟩ (fun _ _ => rfl))
    have := e3 s c hs hc
    rw [hw] at this; exact this
end PCh
