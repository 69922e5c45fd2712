/-! ===== printed by wip/gen95.py: image ===== -/
theorem lt_tl : ∀ d, d < 43 → lt_X7.getD d (0, 0) = xTL (1 + d) := by decide +kernel
theorem rt_rf : ((List.range 43).all fun d => (List.range 16).all fun j => xRF (1 + d) j == (if mkR rt_X7 42 d j = 0 then 0 else mkR rt_X7 42 d j + 1)) = true := by decide +kernel
theorem rf_long : ∀ d, d < 43 → (xRFl.getD (1 + d) []).length ≤ 16 := by decide +kernel
theorem rt_at {d j o : Nat} (hd : d < 43) (h : xRF (1 + d) j = o + 2) : mkR rt_X7 42 d j = o + 1 := by
  by_cases hj : j < 16
  · have e := eq_of_beq (allR (allR rt_rf hd) hj)
    rw [h] at e
    by_cases z : mkR rt_X7 42 d j = 0
    · rw [if_pos z] at e; omega
    · rw [if_neg z] at e; omega
  · have l := rf_long d hd
    unfold xRF at h
    rw [List.getD_eq_getElem?_getD, List.getElem?_eq_none (by omega)] at h
    have h : 0 = o + 2 := h
    omega
theorem upR_s (S : XS) (i j a : Nat) : xref (upR S i j a) i j = a := by
  unfold xref upR
  dsimp only
  rw [if_pos rfl, if_pos rfl]
section PIg
variable {G : XG} {S : XS} {I : XI}
theorem new_told {k : Nat} (hS : xSh S) : xSh (upR (mkS S lt_X7 43 rt_X7 42) c_images k (S.1 + 1)) ∧ ToldAt (upR (mkS S lt_X7 43 rt_X7 42) c_images k (S.1 + 1)) S.1 := by
  have h147 := hS.1
  refine ⟨⟨by show 147 ≤ S.1 + 43; omega, fun i hi => ?_, fun i hi hne j => ?_⟩, ⟨Nat.le_refl _, fun d hd => (mkS_at (R := rt_X7) (m := 42) (lt_tl d hd) hd), fun d hd j o hx => ?_⟩⟩
  · show (if S.1 ≤ i ∧ i < S.1 + 43 then lt_X7.getD (i - S.1) (0, 0) else S.2.1 i) = _
    rw [if_neg (by omega)]; exact hS.2.1 i hi
  · show (if i = c_images then _ else (mkS S lt_X7 43 rt_X7 42).2.2 i j) = _
    rw [if_neg hne]
    show (if S.1 ≤ i ∧ i < S.1 + 43 then _ else S.2.2 i j) = _
    rw [if_neg (by omega)]; exact hS.2.2 i hi hne j
  · show (if S.1 + d = c_images then _ else (mkS S lt_X7 43 rt_X7 42).2.2 (S.1 + d) j) = _
    rw [if_neg (by show S.1 + d ≠ 44; omega)]
    exact mkS_rat (rt_at hd hx) hd
/-- from pc 33 on: the Told that stands there is laid over -/
theorem h_img33 {v1 : Int} {k : Nat × Nat} {T : Nat} {Q : Option Value → XS → XI → Prop} (hS : xSh S) (hk : k.1 ≤ 43 ∧ k.2 ≤ 2860) (hb : inb v1 3) (hx : xref S c_images (ix v1) = T + 1) (hT : ToldAt S T) (h : Tc_told G S I T c_told (fun I2 => Q (some (vi 1)) S I2)) : Xw G mX10_image k 33 [some (vr G c_obj), some (vi (v1))] [] S I Q := by
  refine x_aload_n (pc := 33) dX10_image_33 rfl rfl ?_
  refine x_getR (pc := 34) (i := c_obj) (a := c_images) fl_X10_16 dX10_image_34 (sN_c_obj hS) (sT_c_obj hS) rfl (sR_c_obj_1 hS) ?_
  refine x_iload_n (pc := 37) dX10_image_37 rfl rfl ?_
  refine x_aald (pc := 38) (i := c_images) dX10_image_38 (sN_c_images hS) (sT_c_images hS) (by rw [sL_c_images hS]; exact hb) ?_
  rw [hx]
  refine x_aload_n (pc := 39) dX10_image_39 rfl rfl ?_
  refine x_getR (pc := 40) (i := c_obj) (a := c_told) fl_X10_12 dX10_image_40 (sN_c_obj hS) (sT_c_obj hS) rfl (sR_c_obj_0 hS) ?_
  refine y_Vv (pc := 43) (i := T) (As := [vr G c_told]) (rest := []) ok_X7_copyFrom ml_X10_374 dX10_image_43 (tN hT (d := 0) (by decide)) (tT hT 0 (by decide) rfl) (by decide) rfl rfl rfl ⟨rfl, rfl⟩ ⟨by decide, by decide⟩ hk (Nat.le_of_ble_eq_true rfl) rfl h (fun I2 h2 => ?_)
  refine x_iconst (pc := 46) dX10_image_46 ?_
  exact x_zret (pc := 47) dX10_image_47 rfl hk (Or.inr rfl) h2
theorem b_H_image {v1 : Int} {Q : Option Value → XS → XI → Prop} (hS : xSh S) (h : H_isIn G S I v1 0 2 (fun r I1 => (w32 r = 0 → Q (some (vi 0)) S I1) ∧ (¬ (w32 r = 0) → inb v1 3 ∧ (∀ T, xref S c_images (ix v1) = T + 1 → ToldAt S T ∧ Tc_told G S I1 T c_told (fun I2 => Q (some (vi 1)) S I2)) ∧ (xref S c_images (ix v1) = 0 → Tc_told G (upR (mkS S lt_X7 43 rt_X7 42) c_images (ix v1) (S.1 + 1)) (mkI I1 S.1 43 wt_X7 14) S.1 c_told (fun I2 => Q (some (vi 1)) (upR (mkS S lt_X7 43 rt_X7 42) c_images (ix v1) (S.1 + 1)) I2))))) : Mw G mX10_image [vr G c_obj, vi v1] S I Q := by
  refine x_start [some (vr G c_obj), some (vi (v1))] (by decide) (Nat.le_of_ble_eq_true rfl) rfl ?_
  refine x_iload_n (pc := 0) dX10_image_0 rfl rfl ?_
  refine x_iconst (pc := 1) dX10_image_1 ?_
  refine x_iconst (pc := 2) dX10_image_2 ?_
  refine y_Si (pc := 3) (As := [vi (v1), vi (0), vi (2)]) (rest := []) ok_X10_isIn ml_X10_77 dX10_image_3 rfl ⟨rfl, rfl⟩ ⟨by decide, by decide⟩ ⟨Nat.zero_le _, Nat.zero_le _⟩ (Nat.le_of_ble_eq_true rfl) rfl h (fun r I1 h => ?_)
  refine x_if_ne (pc := 6) (t := 11) dX10_image_6 (by decide) (fun e => ?_) (fun e => ?_)
  · have h := h.1 e
    refine x_iconst (pc := 9) dX10_image_9 ?_
    exact x_zret (pc := 10) dX10_image_10 rfl ⟨Nat.zero_le _, Nat.zero_le _⟩ (Or.inl rfl) h
  · obtain ⟨hb, h1, h0⟩ := h.2 e
    refine x_aload_n (pc := 11) dX10_image_11 rfl rfl ?_
    refine x_getR (pc := 12) (i := c_obj) (a := c_images) fl_X10_16 dX10_image_12 (sN_c_obj hS) (sT_c_obj hS) rfl (sR_c_obj_1 hS) ?_
    refine x_iload_n (pc := 15) dX10_image_15 rfl rfl ?_
    refine x_aald (pc := 16) (i := c_images) dX10_image_16 (sN_c_images hS) (sT_c_images hS) (by rw [sL_c_images hS]; exact hb) ?_
    cases hx : xref S c_images (ix v1) with
    | succ T =>
      obtain ⟨hT, h2⟩ := h1 T hx
      refine x_nonnull (pc := 17) (t := 33) dX10_image_17 (by decide) ?_
      exact h_img33 hS ⟨Nat.zero_le _, Nat.zero_le _⟩ hb hx hT h2
    | zero =>
      have h0 := h0 hx
      refine x_nonnullN (pc := 17) dX10_image_17 ?_
      refine x_aload_n (pc := 20) dX10_image_20 rfl rfl ?_
      refine x_getR (pc := 21) (i := c_obj) (a := c_images) fl_X10_16 dX10_image_21 (sN_c_obj hS) (sT_c_obj hS) rfl (sR_c_obj_1 hS) ?_
      refine x_iload_n (pc := 24) dX10_image_24 rfl rfl ?_
      refine x_new (pc := 25) xc7 xd7 cl_X10_9 wi_7 wn_7 dX10_image_25 ⟨Nat.le_of_ble_eq_true rfl, Nat.le_of_ble_eq_true rfl⟩ ?_
      have n1 : xnew S 7 0 = mkS S lt_X7 1 rt_X7 0 := by
        have := mkS_new (S := S) (L := lt_X7) (R := rt_X7) (n := 0) (m := 0) (t := 7) (k := 0) rfl (fun q hq => absurd hq (by omega))
        rw [mkS_0] at this; exact this
      have n2 : xzer I1 S.1 = mkI I1 S.1 1 wt_X7 0 := by
        have := mkI_new (I := I1) (b := S.1) (W := wt_X7) (n := 0) (w := 0) (fun q hq => absurd hq (by omega))
        rw [mkI_0] at this; exact this
      rw [n1, n2]
      refine x_dup (pc := 28) dX10_image_28 rfl ?_
      refine x_callN (pc := 29) (i := S.1 + 0) (As := []) (rest := [vr G S.1, vi (v1), vr G c_images]) ok_X7_init (List.mem_of_getElem? (i := 0) rfl) dX10_image_29 rfl ⟨⟨by decide, by decide⟩, Nat.le_of_ble_eq_true rfl, Nat.le_of_ble_eq_true rfl⟩ (Nat.le_of_ble_eq_true rfl) rfl (i_X7 S I1) (fun v S' I' hh => ?_)
      obtain ⟨rfl, rfl, rfl⟩ := hh
      have nt := new_told (k := ix v1) hS
      have h147 := hS.1
      have sI : (mkS S lt_X7 43 rt_X7 42).2.1 c_images = S.2.1 c_images := by
        show (if S.1 ≤ c_images ∧ c_images < S.1 + 43 then _ else S.2.1 c_images) = _
        rw [if_neg (fun q => by have : S.1 ≤ 44 := q.1; omega)]
      refine x_aast (pc := 32) (i := c_images) (a := S.1) (x := v1) dX10_image_32 (by show 44 < S.1 + 43; omega) (by show ((mkS S lt_X7 43 rt_X7 42).2.1 c_images).1 = 16; rw [sI]; exact sT_c_images hS) (by show inb v1 ((mkS S lt_X7 43 rt_X7 42).2.1 c_images).2; rw [sI]; rw [show (S.2.1 c_images).2 = 3 from sL_c_images hS]; exact hb) (by show S.1 < S.1 + 43; omega) (by show ((mkS S lt_X7 43 rt_X7 42).2.1 (S.1 + 0)).1 = 7; rw [mkS_at (q := (7, 0)) rfl (by decide)]) ?_
      refine h_img33 (T := S.1) nt.1 ⟨Nat.le_of_ble_eq_true rfl, Nat.le_of_ble_eq_true rfl⟩ hb (upR_s _ _ _ _) nt.2 h0
theorem img_rel {S1 : XS} {A J : XI} {k T : Nat} (hI : Rel S I) (hk : k < 3) (hT : ToldAt S1 T) (h147 : 147 ≤ T) (hx : xref S1 c_images k = T + 1) (hx' : ∀ i, i < 3 → i ≠ k → xref S1 c_images i = xref S c_images i) (hA : ∀ a, (a < T ∨ T + 43 ≤ a) → A a = I a) (hr : ∀ o j, o < 43 → InR (A (T + o) j)) (hTo : ∀ t, 147 ≤ t → ToldAt S t → ToldAt S1 t) (hap : ∀ i, i < 3 → i ≠ k → I r_kept i = 1 → ∀ t, 147 ≤ t → ToldAt S t → xref S c_images i = t + 1 → t + 43 ≤ T ∨ T + 43 ≤ t) (eJ : J = up (cpU (up (cpD A T c_told 51) r_obj 0 0) 0 (k + 1) 129) r_kept k 1) : Rel S1 J := by
  obtain ⟨hN, hC, hW, ⟨⟨hF, hSc⟩, To, im, ap⟩, h0⟩ := hI
  have hC1 : ∀ a, (a < T ∨ T + 43 ≤ a) → cpD A T c_told 51 a = I a := fun a ha => (cpD_out ha 51 (Nat.le_refl _)).trans (hA a ha)
  have j1 : ∀ a, ¬ (77 < a ∧ a < 129) → a ≠ 77 → a ≠ 146 → J a = cpD A T c_told 51 a := fun a h1 h2 h3 => by
    rw [eJ]; exact (up_row h3).trans ((cpU_off h1).trans (up_row h2))
  have jl : ∀ a, a < 147 → ¬ (77 < a ∧ a < 129) → a ≠ 77 → a ≠ 146 → J a = I a := fun a h1 h2 h3 h4 => (j1 a h2 h3 h4).trans (hC1 a (by omega))
  have jr : ∀ a, 77 < a → a < 129 → ∀ j, J a j = if wid a * (k + 1) ≤ j ∧ j < wid a * (k + 1) + wid a then I a (j - wid a * (k + 1)) else I a j := fun a h1 h2 j => by
    have e1 : J a = cpU (up (cpD A T c_told 51) r_obj 0 0) 0 (k + 1) 129 a := by rw [eJ]; exact up_row (by show a ≠ 146; omega)
    have e2 : up (cpD A T c_told 51) r_obj 0 0 a = I a := (up_row (by show a ≠ 77; omega)).trans (hC1 a (by omega))
    rw [e1, cpU_row h1 h2, e2, Nat.mul_zero, Nat.zero_add]
  have jk : ∀ i, J r_kept i = if i = k then 1 else I r_kept i := fun i => by
    rw [eJ]
    by_cases c : i = k
    · rw [if_pos c, c]; exact up_s _ _ _ _
    · rw [if_neg c]
      exact (up_2 _ c).trans (congrFun ((cpU_off (by decide)).trans ((up_row (by decide)).trans (hC1 _ (by show 146 < T ∨ _; omega)))) i)
  have wk : ∀ a, wid a * (k + 1) = wid a * k + wid a := fun a => Nat.mul_succ _ _
  have ag : agr I J := fun a h1 h2 j hj => by
    have := wk a
    rw [jr a h1 h2, if_neg (by omega)]
  have agk : agr I (rv J (k + 1)) := fun a h1 h2 j hj => by
    show J a (wid a * (k + 1) + j) = I a j
    rw [jr a h1 h2, if_pos (by omega), show wid a * (k + 1) + j - wid a * (k + 1) = j by omega]
  have ago : ∀ i, i ≠ k → agr (rv I (i + 1)) (rv J (i + 1)) := fun i hi a h1 h2 j hj => by
    show J a (wid a * (i + 1) + j) = I a (wid a * (i + 1) + j)
    have := row_apart (w := wid a) (s := i + 1) (t := k + 1) (by omega)
    rw [jr a h1 h2, if_neg (by omega)]
  have g8 : gRu I := hN.2.1.2.2.2.2.2.2.2.1
  have ctI : CT J 1 J := (hN.2.2.eq (fun d hd => jl _ (by omega) (by omega) (by omega) (by omega)) (fun _ _ _ => rfl)).cong g8 ag
  have ctA : CT A c_told I := hN.2.2.eq (fun d hd => hA _ (by show 1 + d < T ∨ _; omega)) (fun _ _ _ => rfl)
  have ctT : CT J T (rv J (k + 1)) := ((ctA.copy (d := T) g8 (by show 1 + 43 ≤ T ∨ _; omega) hr).eq (fun d hd => j1 _ (by omega) (by omega) (by omega)) (fun _ _ _ => rfl)).cong g8 agk
  refine ⟨⟨fun a j h1 h2 => ?_, hN.2.1.cong ag, ctI⟩, ?_, ?_, ⟨⟨hF.cong ag, hSc.eq (fun a ha => jl a (by omega) (by omega) (by omega) (by omega))⟩, fun i => if i = k then T else To i, fun i hi => ?_, fun i i' hi hi' hne e1 e2 => ?_⟩, fun j => ?_⟩
  · rw [jr a h1 h2]
    split
    · exact hN.1 a _ h1 h2
    · exact hN.1 a _ h1 h2
  · show Cach J (J r_cells 0).toNat (J r_grasses 0).toNat (J r_newsMany 0).toNat (J r_camps 0).toNat
    rw [ag r_cells (by decide) (by decide) 0 (by decide), ag r_grasses (by decide) (by decide) 0 (by decide), ag r_newsMany (by decide) (by decide) 0 (by decide), ag r_camps (by decide) (by decide) 0 (by decide)]
    exact hC.eq (fun a ha => jl a (by omega) (by omega) (by omega) (by omega))
  · have w : ∀ a, a < 77 → J a = I a := fun a ha => jl a (by omega) (by omega) (by omega) (by omega)
    exact hW.eq (by rw [w _ (by decide)]) (w _ (by decide)) (w _ (by decide)) (w _ (by decide)) (by rw [w _ (by decide)])
  · by_cases c : i = k
    · subst c
      right
      rw [jk, if_pos rfl]
      refine ⟨rfl, ?_⟩
      dsimp only
      rw [if_pos rfl]
      exact ⟨h147, hx, hT, ctT, hN.2.1.cong agk, hF.cong agk⟩
    · dsimp only
      rw [jk, if_neg c, hx' i hi c, if_neg c]
      rcases im i hi with q | ⟨q1, q2, q3, q4, q5, q6, q7⟩
      · exact Or.inl q
      · have dj := hap i hi c q1 (To i) q2 q4 q3
        exact Or.inr ⟨q1, q2, q3, hTo _ q2 q4, (q5.eq (fun d hd => (j1 _ (by omega) (by omega) (by omega)).trans (hC1 _ (by omega))) (fun _ _ _ => rfl)).cong q6.2.2.2.2.2.2.2.1 (ago i c), q6.cong (ago i c), q7.cong (ago i c)⟩
  · rw [jk] at e1 e2
    dsimp only
    by_cases c : i = k
    · have c' : i' ≠ k := by omega
      rw [if_neg c'] at e2
      rw [if_pos c, if_neg c']
      rcases im i' hi' with q | ⟨q1, q2, q3, q4, q5, q6, q7⟩
      · rw [q.1] at e2; exact absurd e2 (by decide)
      · have := hap i' hi' c' q1 _ q2 q4 q3; omega
    · rw [if_neg c] at e1
      rw [if_neg c]
      by_cases c' : i' = k
      · rw [if_pos c']
        rcases im i hi with q | ⟨q1, q2, q3, q4, q5, q6, q7⟩
        · rw [q.1] at e1; exact absurd e1 (by decide)
        · exact hap i hi c q1 _ q2 q4 q3
      · rw [if_neg c'] at e2
        rw [if_neg c']
        exact ap i i' hi hi' hne e1 e2
  · rw [jl 0 (by omega) (by omega) (by omega) (by omega)]; exact h0 j
theorem wt_in : ∀ d j, InR (mkV wt_X7 14 d j) := by
  intro d j
  have h : ∀ m, m ≤ 14 → InR (mkV wt_X7 m d j) := by
    intro m
    induction m with
    | zero => intro _; show InR 0; exact ⟨by decide, by decide⟩
    | succ m ih =>
      intro hm
      unfold mkV
      split
      · have : ∀ m, m < 14 → -2147483648 ≤ (wt_X7.getD m (0, 0, 0)).2.2 ∧ (wt_X7.getD m (0, 0, 0)).2.2 < 2147483648 := by decide +kernel
        exact this m (by omega)
      · exact ih (by omega)
  exact h 14 (Nat.le_refl _)
theorem t_image {v1 : Int} {R : Int → Int → XS → XI → Prop} (hS : xSh S) (hI : Rel S I) (a1 : InR v1) (h : ∀ r S1 J, xSh S1 → Rel S1 J → R r r S1 J) : Mw G mX10_image [vr G c_obj, vi v1] S I (fun v S1 I1 => ∃ r, v = some (vi r) ∧ xSh S1 ∧ R_image G S1 I1 v1 (fun r' J => R r r' S1 J)) := by
  obtain ⟨To, im, ap⟩ := hI.2.2.2.1.2
  refine b_H_image hS ?_
  refine s_isIn hS a1 ⟨by decide, by decide⟩ ⟨by decide, by decide⟩ (fun x1 x2 => br1 ?_) (fun n => br0 ⟨0, rfl, hS, ?_⟩)
  rotate_left
  · refine b_R_image hS (fun J e => ?_)
    exact s_Rin hS a1 ⟨by decide, by decide⟩ ⟨by decide, by decide⟩ (fun y1 y2 => absurd ⟨y1, y2⟩ n) (fun _ => br0 (h _ _ _ hS (hI.code e).1))
  obtain ⟨k, rfl⟩ : ∃ k : Nat, v1 = (k : Int) := ⟨v1.toNat, by omega⟩
  have hk : k < 3 := by omega
  have ref : ∀ (S1 : XS) (A : XI) (T : Nat), xSh S1 → 147 ≤ T → (∀ a, (a < T ∨ T + 43 ≤ a) → A a = I a) → Rel S1 (up (cpU (up (cpD A T c_told 51) r_obj 0 0) 0 (k + 1) 129) r_kept k 1) → R_image G S1 (cpD A T c_told 51) (k : Int) (fun r' J => R 1 r' S1 J) := fun S1 A T hS1 h147 hA hR => by
    refine b_R_image hS1 (fun J e => ?_)
    refine s_Rin hS1 a1 ⟨by decide, by decide⟩ ⟨by decide, by decide⟩ (fun y1 y2 => br1 ?_) (fun n => absurd ⟨x1, x2⟩ n)
    have hJr : ∀ a, 77 < a → a < 129 → J a = I a := fun a h1 h2 => by
      rw [e]; exact (up_row (by show a ≠ 77; omega)).trans ((cpD_out (by omega) 51 (Nat.le_refl _)).trans (hA a (by omega)))
    have er : ∀ a, 77 < a → a < 129 → ∀ j, j < wid a → J a (wid a * 0 + j) = I a j := fun a h1 h2 j _ => by rw [hJr a h1 h2, Nat.mul_zero, Nat.zero_add]
    obtain ⟨c1, c2, c3, c4, c5⟩ := copy_ok hI.1.2.2 hI.good hI.2.2.2.1.1.1 er
    refine s_R_copy (s := 0) (t := k + 1) hS1 rfl (by omega) (by omega) (by omega) (by omega) c1 c2 c3 c4 c5 ?_
    rw [ix_nat (k := k) (by omega)]
    refine ⟨inb_b (by omega) (by omega) (by decide), fun I5 e5 => ?_⟩
    rw [e5, e]
    exact h _ _ _ hS1 hR
  rw [ix_nat (k := k) (by omega)]
  refine ⟨inb_b (by omega) (by omega) (by decide), fun T hT => ?_, fun e0 => ?_⟩
  · rcases im k hk with q | ⟨q1, q2, q3, q4, q5, q6, q7⟩
    · rw [q.2] at hT; omega
    have tT : To k = T := by omega
    rw [tT] at q2 q4 q5
    refine ⟨q4, s_Tc_told hS q4 (told_main hS) ⟨1, rfl, hS, ref S I T hS q2 (fun _ _ => rfl) ?_⟩⟩
    refine img_rel hI hk q4 q2 hT (fun _ _ _ => rfl) (fun _ _ => rfl) (fun o j ho => q5.2.2.2.2 o j ho) (fun _ _ x => x) (fun i hi hne ki t h1 h2 h3 => ?_) rfl
    have : To i = t := by
      rcases im i hi with q | q
      · rw [q.1] at ki; exact absurd ki (by decide)
      · have := q.2.2.1; omega
    have := ap i k hi hk hne ki q1
    omega
  · have nt := new_told (k := k) hS
    have h147 := hS.1
    refine s_Tc_told nt.1 nt.2 (told_main nt.1) ⟨1, rfl, nt.1, ?_⟩
    have hA : ∀ a, (a < S.1 ∨ S.1 + 43 ≤ a) → mkI I S.1 43 wt_X7 14 a = I a := fun a ha => by
      funext j
      show (if S.1 ≤ a ∧ a < S.1 + 43 then _ else I a j) = I a j
      rw [if_neg (by omega)]
    refine ref _ _ S.1 nt.1 h147 hA ?_
    refine img_rel (T := S.1) hI hk nt.2 h147 ?_ (fun i hi hne => ?_) hA (fun o j ho => ?_) (fun t h1 h2 => ?_) (fun i hi hne ki t h1 h2 h3 => ?_) rfl
    · exact upR_s _ _ _ _
    · have u : xref (upR (mkS S lt_X7 43 rt_X7 42) c_images k (S.1 + 1)) c_images i = (mkS S lt_X7 43 rt_X7 42).2.2 c_images i := by
        unfold xref upR
        dsimp only
        rw [if_pos rfl, if_neg hne]
      rw [u]
      show (if S.1 ≤ c_images ∧ c_images < S.1 + 43 then _ else S.2.2 c_images i) = _
      rw [if_neg (fun q => by have : S.1 ≤ 44 := q.1; omega)]
    · show InR (if S.1 ≤ S.1 + o ∧ S.1 + o < S.1 + 43 then mkV wt_X7 14 (S.1 + o - S.1) j else _)
      rw [if_pos (by omega)]
      exact wt_in _ _
    · have hl := h2.1
      refine ⟨by show t + 43 ≤ S.1 + 43; omega, fun d hd => ?_, fun d hd j o hx => ?_⟩
      · show (if S.1 ≤ t + d ∧ t + d < S.1 + 43 then _ else S.2.1 (t + d)) = _
        rw [if_neg (by omega)]; exact h2.2.1 d hd
      · show (if t + d = c_images then _ else (mkS S lt_X7 43 rt_X7 42).2.2 (t + d) j) = _
        rw [if_neg (by show t + d ≠ 44; omega)]
        show (if S.1 ≤ t + d ∧ t + d < S.1 + 43 then _ else S.2.2 (t + d) j) = _
        rw [if_neg (by omega)]; exact h2.2.2 d hd j o hx
    · have := h2.1; omega
end PIg
