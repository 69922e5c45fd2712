set_option maxHeartbeats 4000000 in
set_option maxRecDepth 100000 in
theorem b_Sh_pagesLeft_k11 {G : XG} {S : XS}  {I : XI} {v1 : Int} {v2 : Int} {v3 : Int} {v4 : Int} {v5 : Int} {R : Int → XI → Prop} (hS : xSh S)  (h : ((w32 (I c_shelf 6) ≤ w32 (v5) → R (v4) I) ∧ (¬ (w32 (I c_shelf 6) ≤ w32 (v5)) → (inb (v5) 150 ∧ ((w32 (I c_shelf_actBooks (ix (v5))) = w32 (v1) → Sh_isTorn G S I (v5) (v2) (v3) (fun r2 I1 => ((w32 (r2) = 0 → Sh_pagesLeft_k11 G S I1 (v1) (v2) (v3) (v4) (v5 + 1) R) ∧ (¬ (w32 (r2) = 0) → (inb (v5) 150 ∧ Sh_pagesLeft_k11 G S I1 (v1) (v2) (v3) ((v4) - (I1 c_shelf_actAmounts (ix (v5)))) (v5 + 1) R))))) ∧ (¬ (w32 (I c_shelf_actBooks (ix (v5))) = w32 (v1)) → Sh_pagesLeft_k11 G S I (v1) (v2) (v3) (v4) (v5 + 1) R)))))) : Sh_pagesLeft_k11 G S  I v1 v2 v3 v4 v5 R := by
  unfold Sh_pagesLeft_k11
  refine x_iload (pc := 11) dX6_pagesLeft_11 rfl ?_
  refine x_aload_n (pc := 13) dX6_pagesLeft_13 rfl rfl ?_
  refine x_getI (pc := 14) (i := c_shelf) fl_X6_31 dX6_pagesLeft_14 (sN_c_shelf hS) (sT_c_shelf hS) rfl ?_
  refine x_icmp_ge (pc := 17) (t := 60) dX6_pagesLeft_17 (by decide) (fun e => ?_) (fun e => ?_)
  · have h := h.1 e
    refine x_iload (pc := 60) dX6_pagesLeft_60 rfl ?_
    exact y_iret (pc := 62) dX6_pagesLeft_62 rfl ⟨Nat.le_refl _, Nat.le_refl _⟩ h
  · have h := h.2 e
    refine x_aload_n (pc := 20) dX6_pagesLeft_20 rfl rfl ?_
    refine x_getR (pc := 21) (i := c_shelf) (a := c_shelf_actBooks) fl_X6_34 dX6_pagesLeft_21 (sN_c_shelf hS) (sT_c_shelf hS) rfl (sR_c_shelf_7 hS) ?_
    refine x_iload (pc := 24) dX6_pagesLeft_24 rfl ?_
    refine y_iald (pc := 26) (i := c_shelf_actBooks) (n := 150) dX6_pagesLeft_26 (sN_c_shelf_actBooks hS) (sT_c_shelf_actBooks hS) (sL_c_shelf_actBooks hS) h.1 ?_
    have h := h.2
    refine x_iload_n (pc := 27) dX6_pagesLeft_27 rfl rfl ?_
    refine x_icmp_ne (pc := 28) (t := 54) dX6_pagesLeft_28 (by decide) (fun e => ?_) (fun e => ?_)
    · have h := h.1 e
      refine x_aload_n (pc := 31) dX6_pagesLeft_31 rfl rfl ?_
      refine x_iload (pc := 32) dX6_pagesLeft_32 rfl ?_
      refine x_iload_n (pc := 34) dX6_pagesLeft_34 rfl rfl ?_
      refine x_iload_n (pc := 35) dX6_pagesLeft_35 rfl rfl ?_
      refine y_Vi (pc := 36) (i := c_shelf) (As := [vi (v5), vi (v2), vi (v3)]) (rest := []) ok_X6_isTorn ml_X6_70 dX6_pagesLeft_36 (sN_c_shelf hS) (sT_c_shelf hS) (by decide) rfl rfl rfl ⟨rfl, rfl⟩ ⟨by decide, by decide⟩ ⟨Nat.le_refl _, Nat.le_refl _⟩ (Nat.le_of_ble_eq_true rfl) rfl h (fun r2 I1 h => ?_)
      refine x_if_eq (pc := 39) (t := 54) dX6_pagesLeft_39 (by decide) (fun e => ?_) (fun e => ?_)
      · have h := h.1 e
        refine x_iinc (pc := 54) (L' := [some (vr G c_shelf), some (vi (v1)), some (vi (v2)), some (vi (v3)), some (vi (v4)), some (vi (v5 + 1))]) dX6_pagesLeft_54 rfl (by decide) (xst1 rfl rfl rfl) ?_
        refine x_goto (pc := 57) (t := 11) dX6_pagesLeft_57 (by decide) ?_
        exact h
      · have h := h.2 e
        refine x_iload (pc := 42) dX6_pagesLeft_42 rfl ?_
        refine x_aload_n (pc := 44) dX6_pagesLeft_44 rfl rfl ?_
        refine x_getR (pc := 45) (i := c_shelf) (a := c_shelf_actAmounts) fl_X6_49 dX6_pagesLeft_45 (sN_c_shelf hS) (sT_c_shelf hS) rfl (sR_c_shelf_12 hS) ?_
        refine x_iload (pc := 48) dX6_pagesLeft_48 rfl ?_
        refine y_iald (pc := 50) (i := c_shelf_actAmounts) (n := 150) dX6_pagesLeft_50 (sN_c_shelf_actAmounts hS) (sT_c_shelf_actAmounts hS) (sL_c_shelf_actAmounts hS) h.1 ?_
        have h := h.2
        refine x_isub (pc := 51) dX6_pagesLeft_51 ?_
        refine x_istore (pc := 52) (L' := [some (vr G c_shelf), some (vi (v1)), some (vi (v2)), some (vi (v3)), some (vi ((v4) - (I1 c_shelf_actAmounts (ix (v5))))), some (vi (v5))]) dX6_pagesLeft_52 (by decide) (xst1 rfl rfl rfl) ?_
        refine x_iinc (pc := 54) (L' := [some (vr G c_shelf), some (vi (v1)), some (vi (v2)), some (vi (v3)), some (vi ((v4) - (I1 c_shelf_actAmounts (ix (v5))))), some (vi (v5 + 1))]) dX6_pagesLeft_54 rfl (by decide) (xst1 rfl rfl rfl) ?_
        refine x_goto (pc := 57) (t := 11) dX6_pagesLeft_57 (by decide) ?_
        exact h
    · have h := h.2 e
      refine x_iinc (pc := 54) (L' := [some (vr G c_shelf), some (vi (v1)), some (vi (v2)), some (vi (v3)), some (vi (v4)), some (vi (v5 + 1))]) dX6_pagesLeft_54 rfl (by decide) (xst1 rfl rfl rfl) ?_
      refine x_goto (pc := 57) (t := 11) dX6_pagesLeft_57 (by decide) ?_
      exact h
set_option maxHeartbeats 4000000 in
set_option maxRecDepth 100000 in
theorem b_Wn_likeliestOf {G : XG} {S : XS} {I : XI} {v2 : Int} {v3 : Int} {R : Int → XI → Prop} (hS : xSh S)  (h : Wn_reach G S I (v2) (v3) (fun I1 => W_rowOf G S I1 (v2) (v3) (fun r3 I2 => Wn_likeliestOf_k20 G S I2 (r3) (0) (1) R))) : Wn_likeliestOf G S I v2 v3 R := by
  refine x_start [some (vr G c_now), some (vr G c_told), some (vi (v2)), some (vi (v3)), none, none, none] (by decide) (Nat.le_of_ble_eq_true rfl) rfl ?_
  refine x_aload_n (pc := 0) dX9_likeliestOf_0 rfl rfl ?_
  refine x_aload_n (pc := 1) dX9_likeliestOf_1 rfl rfl ?_
  refine x_iload_n (pc := 2) dX9_likeliestOf_2 rfl rfl ?_
  refine x_iload_n (pc := 3) dX9_likeliestOf_3 rfl rfl ?_
  refine y_Vv (pc := 4) (i := c_now) (As := [vr G c_told, vi (v2), vi (v3)]) (rest := []) ok_X9_reach ml_X9_47 dX9_likeliestOf_4 (sN_c_now hS) (sT_c_now hS) (by decide) rfl rfl rfl ⟨rfl, rfl⟩ ⟨by decide, by decide⟩ ⟨Nat.le_refl _, Nat.le_refl _⟩ (Nat.le_of_ble_eq_true rfl) rfl h (fun I1 h => ?_)
  refine x_iload_n (pc := 7) dX9_likeliestOf_7 rfl rfl ?_
  refine x_iload_n (pc := 8) dX9_likeliestOf_8 rfl rfl ?_
  refine y_Si (pc := 9) (As := [vi (v2), vi (v3)]) (rest := []) ok_X9_rowOf ml_X9_43 dX9_likeliestOf_9 rfl ⟨rfl, rfl⟩ ⟨by decide, by decide⟩ ⟨Nat.le_refl _, Nat.le_refl _⟩ (Nat.le_of_ble_eq_true rfl) rfl h (fun r3 I2 h => ?_)
  refine x_istore (pc := 12) (L' := [some (vr G c_now), some (vr G c_told), some (vi (v2)), some (vi (v3)), some (vi (r3)), none, none]) dX9_likeliestOf_12 (by decide) (xst1 rfl rfl rfl) ?_
  refine x_iconst (pc := 14) dX9_likeliestOf_14 ?_
  refine x_istore (pc := 15) (L' := [some (vr G c_now), some (vr G c_told), some (vi (v2)), some (vi (v3)), some (vi (r3)), some (vi (0)), none]) dX9_likeliestOf_15 (by decide) (xst1 rfl rfl rfl) ?_
  refine x_iconst (pc := 17) dX9_likeliestOf_17 ?_
  refine x_istore (pc := 18) (L' := [some (vr G c_now), some (vr G c_told), some (vi (v2)), some (vi (v3)), some (vi (r3)), some (vi (0)), some (vi (1))]) dX9_likeliestOf_18 (by decide) (xst1 rfl rfl rfl) ?_
  refine x_less (L' := [some (vr G c_now), none, none, none, some (vi (r3)), some (vi (0)), some (vi (1))]) (And.intro rfl (And.intro rfl (And.intro rfl (And.intro rfl trivial)))) ?_
  exact h
set_option maxHeartbeats 4000000 in
set_option maxRecDepth 100000 in
theorem b_Wn_likeliestOf_k20 {G : XG} {S : XS}  {I : XI} {v4 : Int} {v5 : Int} {v6 : Int} {R : Int → XI → Prop} (hS : xSh S)  (h : ((w32 (10) ≤ w32 (v6) → R (v5) I) ∧ (¬ (w32 (10) ≤ w32 (v6)) → (inb ((v4) + (v6)) 6000 ∧ (inb ((v4) + (v5)) 6000 ∧ ((w32 (I c_now_parts (ix ((v4) + (v6)))) ≤ w32 (I c_now_parts (ix ((v4) + (v5)))) → Wn_likeliestOf_k20 G S I (v4) (v5) (v6 + 1) R) ∧ (¬ (w32 (I c_now_parts (ix ((v4) + (v6)))) ≤ w32 (I c_now_parts (ix ((v4) + (v5))))) → Wn_likeliestOf_k20 G S I (v4) (v6) (v6 + 1) R))))))) : Wn_likeliestOf_k20 G S  I v4 v5 v6 R := by
  unfold Wn_likeliestOf_k20
  refine x_iload (pc := 20) dX9_likeliestOf_20 rfl ?_
  refine x_bipush (pc := 22) dX9_likeliestOf_22 (by decide) ?_
  refine x_icmp_ge (pc := 24) (t := 60) dX9_likeliestOf_24 (by decide) (fun e => ?_) (fun e => ?_)
  · have h := h.1 e
    refine x_iload (pc := 60) dX9_likeliestOf_60 rfl ?_
    exact y_iret (pc := 62) dX9_likeliestOf_62 rfl ⟨Nat.le_refl _, Nat.le_refl _⟩ h
  · have h := h.2 e
    refine x_aload_n (pc := 27) dX9_likeliestOf_27 rfl rfl ?_
    refine x_getR (pc := 28) (i := c_now) (a := c_now_parts) fl_X9_9 dX9_likeliestOf_28 (sN_c_now hS) (sT_c_now hS) rfl (sR_c_now_0 hS) ?_
    refine x_iload (pc := 31) dX9_likeliestOf_31 rfl ?_
    refine x_iload (pc := 33) dX9_likeliestOf_33 rfl ?_
    refine x_iadd (pc := 35) dX9_likeliestOf_35 ?_
    refine y_iald (pc := 36) (i := c_now_parts) (n := 6000) dX9_likeliestOf_36 (sN_c_now_parts hS) (sT_c_now_parts hS) (sL_c_now_parts hS) h.1 ?_
    have h := h.2
    refine x_aload_n (pc := 37) dX9_likeliestOf_37 rfl rfl ?_
    refine x_getR (pc := 38) (i := c_now) (a := c_now_parts) fl_X9_9 dX9_likeliestOf_38 (sN_c_now hS) (sT_c_now hS) rfl (sR_c_now_0 hS) ?_
    refine x_iload (pc := 41) dX9_likeliestOf_41 rfl ?_
    refine x_iload (pc := 43) dX9_likeliestOf_43 rfl ?_
    refine x_iadd (pc := 45) dX9_likeliestOf_45 ?_
    refine y_iald (pc := 46) (i := c_now_parts) (n := 6000) dX9_likeliestOf_46 (sN_c_now_parts hS) (sT_c_now_parts hS) (sL_c_now_parts hS) h.1 ?_
    have h := h.2
    refine x_icmp_le (pc := 47) (t := 54) dX9_likeliestOf_47 (by decide) (fun e => ?_) (fun e => ?_)
    · have h := h.1 e
      refine x_iinc (pc := 54) (L' := [some (vr G c_now), none, none, none, some (vi (v4)), some (vi (v5)), some (vi (v6 + 1))]) dX9_likeliestOf_54 rfl (by decide) (xst1 rfl rfl rfl) ?_
      refine x_goto (pc := 57) (t := 20) dX9_likeliestOf_57 (by decide) ?_
      exact h
    · have h := h.2 e
      refine x_iload (pc := 50) dX9_likeliestOf_50 rfl ?_
      refine x_istore (pc := 52) (L' := [some (vr G c_now), none, none, none, some (vi (v4)), some (vi (v6)), some (vi (v6))]) dX9_likeliestOf_52 (by decide) (xst1 rfl rfl rfl) ?_
      refine x_iinc (pc := 54) (L' := [some (vr G c_now), none, none, none, some (vi (v4)), some (vi (v6)), some (vi (v6 + 1))]) dX9_likeliestOf_54 rfl (by decide) (xst1 rfl rfl rfl) ?_
      refine x_goto (pc := 57) (t := 20) dX9_likeliestOf_57 (by decide) ?_
      exact h
set_option maxHeartbeats 4000000 in
set_option maxRecDepth 100000 in
theorem b_La_hasWell {G : XG} {S : XS} {I : XI} {v1 : Int} {R : Int → XI → Prop} (hS : xSh S)  (h : La_hasCell G S I (v1) (fun r2 I1 => ((w32 (r2) = 0 → R (0) I1) ∧ (¬ (w32 (r2) = 0) → ((w32 (iand (ishr (I1 c_land 1) (v1)) (1)) = w32 (1) → R (1) I1) ∧ (¬ (w32 (iand (ishr (I1 c_land 1) (v1)) (1)) = w32 (1)) → R (0) I1)))))) : La_hasWell G S I v1 R := by
  refine x_start [some (vr G c_land), some (vi (v1))] (by decide) (Nat.le_of_ble_eq_true rfl) rfl ?_
  refine x_aload_n (pc := 0) dX2_hasWell_0 rfl rfl ?_
  refine x_iload_n (pc := 1) dX2_hasWell_1 rfl rfl ?_
  refine y_Vi (pc := 2) (i := c_land) (As := [vi (v1)]) (rest := []) ok_X2_hasCell ml_X2_40 dX2_hasWell_2 (sN_c_land hS) (sT_c_land hS) (by decide) rfl rfl rfl ⟨rfl, rfl⟩ ⟨by decide, by decide⟩ ⟨Nat.le_refl _, Nat.le_refl _⟩ (Nat.le_of_ble_eq_true rfl) rfl h (fun r2 I1 h => ?_)
  refine x_if_eq (pc := 5) (t := 24) dX2_hasWell_5 (by decide) (fun e => ?_) (fun e => ?_)
  · have h := h.1 e
    refine x_iconst (pc := 24) dX2_hasWell_24 ?_
    exact y_zret (pc := 25) dX2_hasWell_25 rfl ⟨Nat.le_refl _, Nat.le_refl _⟩ (Or.inl rfl) h
  · have h := h.2 e
    refine x_aload_n (pc := 8) dX2_hasWell_8 rfl rfl ?_
    refine x_getI (pc := 9) (i := c_land) fl_X2_15 dX2_hasWell_9 (sN_c_land hS) (sT_c_land hS) rfl ?_
    refine x_iload_n (pc := 12) dX2_hasWell_12 rfl rfl ?_
    refine x_ishr (pc := 13) dX2_hasWell_13 ?_
    refine x_iconst (pc := 14) dX2_hasWell_14 ?_
    refine x_iand (pc := 15) dX2_hasWell_15 ?_
    refine x_iconst (pc := 16) dX2_hasWell_16 ?_
    refine x_icmp_ne (pc := 17) (t := 24) dX2_hasWell_17 (by decide) (fun e => ?_) (fun e => ?_)
    · have h := h.1 e
      refine x_iconst (pc := 20) dX2_hasWell_20 ?_
      refine x_goto (pc := 21) (t := 25) dX2_hasWell_21 (by decide) ?_
      exact y_zret (pc := 25) dX2_hasWell_25 rfl ⟨Nat.le_refl _, Nat.le_refl _⟩ (Or.inr rfl) h
    · have h := h.2 e
      refine x_iconst (pc := 24) dX2_hasWell_24 ?_
      exact y_zret (pc := 25) dX2_hasWell_25 rfl ⟨Nat.le_refl _, Nat.le_refl _⟩ (Or.inl rfl) h
set_option maxHeartbeats 4000000 in
set_option maxRecDepth 100000 in
theorem b_Wt_likeliestOf {G : XG} {S : XS} {I : XI} {v2 : Int} {v3 : Int} {R : Int → XI → Prop} (hS : xSh S)  (h : Wt_reach G S I (v2) (v3) (fun I1 => W_rowOf G S I1 (v2) (v3) (fun r3 I2 => Wt_likeliestOf_k20 G S I2 (r3) (0) (1) R))) : Wt_likeliestOf G S I v2 v3 R := by
  refine x_start [some (vr G c_then), some (vr G c_told), some (vi (v2)), some (vi (v3)), none, none, none] (by decide) (Nat.le_of_ble_eq_true rfl) rfl ?_
  refine x_aload_n (pc := 0) dX9_likeliestOf_0 rfl rfl ?_
  refine x_aload_n (pc := 1) dX9_likeliestOf_1 rfl rfl ?_
  refine x_iload_n (pc := 2) dX9_likeliestOf_2 rfl rfl ?_
  refine x_iload_n (pc := 3) dX9_likeliestOf_3 rfl rfl ?_
  refine y_Vv (pc := 4) (i := c_then) (As := [vr G c_told, vi (v2), vi (v3)]) (rest := []) ok_X9_reach ml_X9_47 dX9_likeliestOf_4 (sN_c_then hS) (sT_c_then hS) (by decide) rfl rfl rfl ⟨rfl, rfl⟩ ⟨by decide, by decide⟩ ⟨Nat.le_refl _, Nat.le_refl _⟩ (Nat.le_of_ble_eq_true rfl) rfl h (fun I1 h => ?_)
  refine x_iload_n (pc := 7) dX9_likeliestOf_7 rfl rfl ?_
  refine x_iload_n (pc := 8) dX9_likeliestOf_8 rfl rfl ?_
  refine y_Si (pc := 9) (As := [vi (v2), vi (v3)]) (rest := []) ok_X9_rowOf ml_X9_43 dX9_likeliestOf_9 rfl ⟨rfl, rfl⟩ ⟨by decide, by decide⟩ ⟨Nat.le_refl _, Nat.le_refl _⟩ (Nat.le_of_ble_eq_true rfl) rfl h (fun r3 I2 h => ?_)
  refine x_istore (pc := 12) (L' := [some (vr G c_then), some (vr G c_told), some (vi (v2)), some (vi (v3)), some (vi (r3)), none, none]) dX9_likeliestOf_12 (by decide) (xst1 rfl rfl rfl) ?_
  refine x_iconst (pc := 14) dX9_likeliestOf_14 ?_
  refine x_istore (pc := 15) (L' := [some (vr G c_then), some (vr G c_told), some (vi (v2)), some (vi (v3)), some (vi (r3)), some (vi (0)), none]) dX9_likeliestOf_15 (by decide) (xst1 rfl rfl rfl) ?_
  refine x_iconst (pc := 17) dX9_likeliestOf_17 ?_
  refine x_istore (pc := 18) (L' := [some (vr G c_then), some (vr G c_told), some (vi (v2)), some (vi (v3)), some (vi (r3)), some (vi (0)), some (vi (1))]) dX9_likeliestOf_18 (by decide) (xst1 rfl rfl rfl) ?_
  refine x_less (L' := [some (vr G c_then), none, none, none, some (vi (r3)), some (vi (0)), some (vi (1))]) (And.intro rfl (And.intro rfl (And.intro rfl (And.intro rfl trivial)))) ?_
  exact h
set_option maxHeartbeats 4000000 in
set_option maxRecDepth 100000 in
theorem b_Wt_likeliestOf_k20 {G : XG} {S : XS}  {I : XI} {v4 : Int} {v5 : Int} {v6 : Int} {R : Int → XI → Prop} (hS : xSh S)  (h : ((w32 (10) ≤ w32 (v6) → R (v5) I) ∧ (¬ (w32 (10) ≤ w32 (v6)) → (inb ((v4) + (v6)) 6000 ∧ (inb ((v4) + (v5)) 6000 ∧ ((w32 (I c_then_parts (ix ((v4) + (v6)))) ≤ w32 (I c_then_parts (ix ((v4) + (v5)))) → Wt_likeliestOf_k20 G S I (v4) (v5) (v6 + 1) R) ∧ (¬ (w32 (I c_then_parts (ix ((v4) + (v6)))) ≤ w32 (I c_then_parts (ix ((v4) + (v5))))) → Wt_likeliestOf_k20 G S I (v4) (v6) (v6 + 1) R))))))) : Wt_likeliestOf_k20 G S  I v4 v5 v6 R := by
  unfold Wt_likeliestOf_k20
  refine x_iload (pc := 20) dX9_likeliestOf_20 rfl ?_
  refine x_bipush (pc := 22) dX9_likeliestOf_22 (by decide) ?_
  refine x_icmp_ge (pc := 24) (t := 60) dX9_likeliestOf_24 (by decide) (fun e => ?_) (fun e => ?_)
  · have h := h.1 e
    refine x_iload (pc := 60) dX9_likeliestOf_60 rfl ?_
    exact y_iret (pc := 62) dX9_likeliestOf_62 rfl ⟨Nat.le_refl _, Nat.le_refl _⟩ h
  · have h := h.2 e
    refine x_aload_n (pc := 27) dX9_likeliestOf_27 rfl rfl ?_
    refine x_getR (pc := 28) (i := c_then) (a := c_then_parts) fl_X9_9 dX9_likeliestOf_28 (sN_c_then hS) (sT_c_then hS) rfl (sR_c_then_0 hS) ?_
    refine x_iload (pc := 31) dX9_likeliestOf_31 rfl ?_
    refine x_iload (pc := 33) dX9_likeliestOf_33 rfl ?_
    refine x_iadd (pc := 35) dX9_likeliestOf_35 ?_
    refine y_iald (pc := 36) (i := c_then_parts) (n := 6000) dX9_likeliestOf_36 (sN_c_then_parts hS) (sT_c_then_parts hS) (sL_c_then_parts hS) h.1 ?_
    have h := h.2
    refine x_aload_n (pc := 37) dX9_likeliestOf_37 rfl rfl ?_
    refine x_getR (pc := 38) (i := c_then) (a := c_then_parts) fl_X9_9 dX9_likeliestOf_38 (sN_c_then hS) (sT_c_then hS) rfl (sR_c_then_0 hS) ?_
    refine x_iload (pc := 41) dX9_likeliestOf_41 rfl ?_
    refine x_iload (pc := 43) dX9_likeliestOf_43 rfl ?_
    refine x_iadd (pc := 45) dX9_likeliestOf_45 ?_
    refine y_iald (pc := 46) (i := c_then_parts) (n := 6000) dX9_likeliestOf_46 (sN_c_then_parts hS) (sT_c_then_parts hS) (sL_c_then_parts hS) h.1 ?_
    have h := h.2
    refine x_icmp_le (pc := 47) (t := 54) dX9_likeliestOf_47 (by decide) (fun e => ?_) (fun e => ?_)
    · have h := h.1 e
      refine x_iinc (pc := 54) (L' := [some (vr G c_then), none, none, none, some (vi (v4)), some (vi (v5)), some (vi (v6 + 1))]) dX9_likeliestOf_54 rfl (by decide) (xst1 rfl rfl rfl) ?_
      refine x_goto (pc := 57) (t := 20) dX9_likeliestOf_57 (by decide) ?_
      exact h
    · have h := h.2 e
      refine x_iload (pc := 50) dX9_likeliestOf_50 rfl ?_
      refine x_istore (pc := 52) (L' := [some (vr G c_then), none, none, none, some (vi (v4)), some (vi (v6)), some (vi (v6))]) dX9_likeliestOf_52 (by decide) (xst1 rfl rfl rfl) ?_
      refine x_iinc (pc := 54) (L' := [some (vr G c_then), none, none, none, some (vi (v4)), some (vi (v6)), some (vi (v6 + 1))]) dX9_likeliestOf_54 rfl (by decide) (xst1 rfl rfl rfl) ?_
      refine x_goto (pc := 57) (t := 20) dX9_likeliestOf_57 (by decide) ?_
      exact h
set_option maxHeartbeats 4000000 in
set_option maxRecDepth 100000 in
theorem b_Sh_heldBy {G : XG} {S : XS} {I : XI} {v1 : Int} {v2 : Int} {v3 : Int} {R : Int → XI → Prop} (hS : xSh S)  (h : Sh_heldBy_k6 G S I (v1) (v2) (v3) (0) (0) R) : Sh_heldBy G S I v1 v2 v3 R := by
  refine x_start [some (vr G c_shelf), some (vi (v1)), some (vi (v2)), some (vi (v3)), none, none] (by decide) (Nat.le_of_ble_eq_true rfl) rfl ?_
  refine x_iconst (pc := 0) dX6_heldBy_0 ?_
  refine x_istore (pc := 1) (L' := [some (vr G c_shelf), some (vi (v1)), some (vi (v2)), some (vi (v3)), some (vi (0)), none]) dX6_heldBy_1 (by decide) (xst1 rfl rfl rfl) ?_
  refine x_iconst (pc := 3) dX6_heldBy_3 ?_
  refine x_istore (pc := 4) (L' := [some (vr G c_shelf), some (vi (v1)), some (vi (v2)), some (vi (v3)), some (vi (0)), some (vi (0))]) dX6_heldBy_4 (by decide) (xst1 rfl rfl rfl) ?_
  exact h
set_option maxHeartbeats 4000000 in
set_option maxRecDepth 100000 in
theorem b_Sh_heldBy_k6 {G : XG} {S : XS}  {I : XI} {v1 : Int} {v2 : Int} {v3 : Int} {v4 : Int} {v5 : Int} {R : Int → XI → Prop} (hS : xSh S)  (h : ((w32 (I c_shelf 0) ≤ w32 (v5) → R (v4) I) ∧ (¬ (w32 (I c_shelf 0) ≤ w32 (v5)) → Sh_holder G S I (v5) (v2) (v3) (fun r2 I1 => ((w32 (r2) = w32 (v1) → Sh_heldBy_k6 G S I1 (v1) (v2) (v3) (v4 + 1) (v5 + 1) R) ∧ (¬ (w32 (r2) = w32 (v1)) → Sh_heldBy_k6 G S I1 (v1) (v2) (v3) (v4) (v5 + 1) R)))))) : Sh_heldBy_k6 G S  I v1 v2 v3 v4 v5 R := by
  unfold Sh_heldBy_k6
  refine x_iload (pc := 6) dX6_heldBy_6 rfl ?_
  refine x_aload_n (pc := 8) dX6_heldBy_8 rfl rfl ?_
  refine x_getI (pc := 9) (i := c_shelf) fl_X6_9 dX6_heldBy_9 (sN_c_shelf hS) (sT_c_shelf hS) rfl ?_
  refine x_icmp_ge (pc := 12) (t := 36) dX6_heldBy_12 (by decide) (fun e => ?_) (fun e => ?_)
  · have h := h.1 e
    refine x_iload (pc := 36) dX6_heldBy_36 rfl ?_
    exact y_iret (pc := 38) dX6_heldBy_38 rfl ⟨Nat.le_refl _, Nat.le_refl _⟩ h
  · have h := h.2 e
    refine x_aload_n (pc := 15) dX6_heldBy_15 rfl rfl ?_
    refine x_iload (pc := 16) dX6_heldBy_16 rfl ?_
    refine x_iload_n (pc := 18) dX6_heldBy_18 rfl rfl ?_
    refine x_iload_n (pc := 19) dX6_heldBy_19 rfl rfl ?_
    refine y_Vi (pc := 20) (i := c_shelf) (As := [vi (v5), vi (v2), vi (v3)]) (rest := []) ok_X6_holder ml_X6_59 dX6_heldBy_20 (sN_c_shelf hS) (sT_c_shelf hS) (by decide) rfl rfl rfl ⟨rfl, rfl⟩ ⟨by decide, by decide⟩ ⟨Nat.le_refl _, Nat.le_refl _⟩ (Nat.le_of_ble_eq_true rfl) rfl h (fun r2 I1 h => ?_)
    refine x_iload_n (pc := 23) dX6_heldBy_23 rfl rfl ?_
    refine x_icmp_ne (pc := 24) (t := 30) dX6_heldBy_24 (by decide) (fun e => ?_) (fun e => ?_)
    · have h := h.1 e
      refine x_iinc (pc := 27) (L' := [some (vr G c_shelf), some (vi (v1)), some (vi (v2)), some (vi (v3)), some (vi (v4 + 1)), some (vi (v5))]) dX6_heldBy_27 rfl (by decide) (xst1 rfl rfl rfl) ?_
      refine x_iinc (pc := 30) (L' := [some (vr G c_shelf), some (vi (v1)), some (vi (v2)), some (vi (v3)), some (vi (v4 + 1)), some (vi (v5 + 1))]) dX6_heldBy_30 rfl (by decide) (xst1 rfl rfl rfl) ?_
      refine x_goto (pc := 33) (t := 6) dX6_heldBy_33 (by decide) ?_
      exact h
    · have h := h.2 e
      refine x_iinc (pc := 30) (L' := [some (vr G c_shelf), some (vi (v1)), some (vi (v2)), some (vi (v3)), some (vi (v4)), some (vi (v5 + 1))]) dX6_heldBy_30 rfl (by decide) (xst1 rfl rfl rfl) ?_
      refine x_goto (pc := 33) (t := 6) dX6_heldBy_33 (by decide) ?_
      exact h
set_option maxHeartbeats 4000000 in
set_option maxRecDepth 100000 in
theorem b_Sh_lateWith {G : XG} {S : XS} {I : XI} {v1 : Int} {v2 : Int} {v3 : Int} {R : Int → XI → Prop} (hS : xSh S)  (h : Sh_lateWith_k6 G S I (v1) (v2) (v3) (0) (0) R) : Sh_lateWith G S I v1 v2 v3 R := by
  refine x_start [some (vr G c_shelf), some (vi (v1)), some (vi (v2)), some (vi (v3)), some (vr G c_land_dry), none, none] (by decide) (Nat.le_of_ble_eq_true rfl) rfl ?_
  refine x_iconst (pc := 0) dX6_lateWith_0 ?_
  refine x_istore (pc := 1) (L' := [some (vr G c_shelf), some (vi (v1)), some (vi (v2)), some (vi (v3)), some (vr G c_land_dry), some (vi (0)), none]) dX6_lateWith_1 (by decide) (xst1 rfl rfl rfl) ?_
  refine x_iconst (pc := 3) dX6_lateWith_3 ?_
  refine x_istore (pc := 4) (L' := [some (vr G c_shelf), some (vi (v1)), some (vi (v2)), some (vi (v3)), some (vr G c_land_dry), some (vi (0)), some (vi (0))]) dX6_lateWith_4 (by decide) (xst1 rfl rfl rfl) ?_
  exact h
set_option maxHeartbeats 4000000 in
set_option maxRecDepth 100000 in
theorem b_Sh_lateWith_k6 {G : XG} {S : XS}  {I : XI} {v1 : Int} {v2 : Int} {v3 : Int} {v5 : Int} {v6 : Int} {R : Int → XI → Prop} (hS : xSh S)  (h : ((w32 (I c_shelf 0) ≤ w32 (v6) → R (v5) I) ∧ (¬ (w32 (I c_shelf 0) ≤ w32 (v6)) → Sh_holder G S I (v6) (v2) (v3) (fun r2 I1 => ((w32 (r2) = w32 (v1) → Sh_dueWeek G S I1 (v6) (v2) (v3) (fun r4 I3 => ((w32 (v2) ≤ w32 (r4) → Sh_lateWith_k6 G S I3 (v1) (v2) (v3) (v5) (v6 + 1) R) ∧ (¬ (w32 (v2) ≤ w32 (r4)) → Sh_lateWith_k6 G S I3 (v1) (v2) (v3) (v5 + 1) (v6 + 1) R)))) ∧ (¬ (w32 (r2) = w32 (v1)) → Sh_lateWith_k6 G S I1 (v1) (v2) (v3) (v5) (v6 + 1) R)))))) : Sh_lateWith_k6 G S  I v1 v2 v3 v5 v6 R := by
  unfold Sh_lateWith_k6
  refine x_iload (pc := 6) dX6_lateWith_6 rfl ?_
  refine x_aload_n (pc := 8) dX6_lateWith_8 rfl rfl ?_
  refine x_getI (pc := 9) (i := c_shelf) fl_X6_9 dX6_lateWith_9 (sN_c_shelf hS) (sT_c_shelf hS) rfl ?_
  refine x_icmp_ge (pc := 12) (t := 50) dX6_lateWith_12 (by decide) (fun e => ?_) (fun e => ?_)
  · have h := h.1 e
    refine x_iload (pc := 50) dX6_lateWith_50 rfl ?_
    exact y_iret (pc := 52) dX6_lateWith_52 rfl ⟨Nat.le_refl _, Nat.le_refl _⟩ h
  · have h := h.2 e
    refine x_aload_n (pc := 15) dX6_lateWith_15 rfl rfl ?_
    refine x_iload (pc := 16) dX6_lateWith_16 rfl ?_
    refine x_iload_n (pc := 18) dX6_lateWith_18 rfl rfl ?_
    refine x_iload_n (pc := 19) dX6_lateWith_19 rfl rfl ?_
    refine y_Vi (pc := 20) (i := c_shelf) (As := [vi (v6), vi (v2), vi (v3)]) (rest := []) ok_X6_holder ml_X6_59 dX6_lateWith_20 (sN_c_shelf hS) (sT_c_shelf hS) (by decide) rfl rfl rfl ⟨rfl, rfl⟩ ⟨by decide, by decide⟩ ⟨Nat.le_refl _, Nat.le_refl _⟩ (Nat.le_of_ble_eq_true rfl) rfl h (fun r2 I1 h => ?_)
    refine x_iload_n (pc := 23) dX6_lateWith_23 rfl rfl ?_
    refine x_icmp_ne (pc := 24) (t := 44) dX6_lateWith_24 (by decide) (fun e => ?_) (fun e => ?_)
    · have h := h.1 e
      refine x_iload_n (pc := 27) dX6_lateWith_27 rfl rfl ?_
      refine x_aload_n (pc := 28) dX6_lateWith_28 rfl rfl ?_
      refine x_iload (pc := 29) dX6_lateWith_29 rfl ?_
      refine x_iload_n (pc := 31) dX6_lateWith_31 rfl rfl ?_
      refine x_iload_n (pc := 32) dX6_lateWith_32 rfl rfl ?_
      refine x_aload (pc := 33) dX6_lateWith_33 rfl ?_
      refine y_Vi (pc := 35) (i := c_shelf) (As := [vi (v6), vi (v2), vi (v3), vr G c_land_dry]) (rest := [vi (v2)]) ok_X6_dueWeek ml_X6_66 dX6_lateWith_35 (sN_c_shelf hS) (sT_c_shelf hS) (by decide) rfl rfl rfl ⟨rfl, rfl⟩ ⟨by decide, by decide⟩ ⟨Nat.le_refl _, Nat.le_refl _⟩ (Nat.le_of_ble_eq_true rfl) rfl h (fun r4 I3 h => ?_)
      refine x_icmp_le (pc := 38) (t := 44) dX6_lateWith_38 (by decide) (fun e => ?_) (fun e => ?_)
      · have h := h.1 e
        refine x_iinc (pc := 44) (L' := [some (vr G c_shelf), some (vi (v1)), some (vi (v2)), some (vi (v3)), some (vr G c_land_dry), some (vi (v5)), some (vi (v6 + 1))]) dX6_lateWith_44 rfl (by decide) (xst1 rfl rfl rfl) ?_
        refine x_goto (pc := 47) (t := 6) dX6_lateWith_47 (by decide) ?_
        exact h
      · have h := h.2 e
        refine x_iinc (pc := 41) (L' := [some (vr G c_shelf), some (vi (v1)), some (vi (v2)), some (vi (v3)), some (vr G c_land_dry), some (vi (v5 + 1)), some (vi (v6))]) dX6_lateWith_41 rfl (by decide) (xst1 rfl rfl rfl) ?_
        refine x_iinc (pc := 44) (L' := [some (vr G c_shelf), some (vi (v1)), some (vi (v2)), some (vi (v3)), some (vr G c_land_dry), some (vi (v5 + 1)), some (vi (v6 + 1))]) dX6_lateWith_44 rfl (by decide) (xst1 rfl rfl rfl) ?_
        refine x_goto (pc := 47) (t := 6) dX6_lateWith_47 (by decide) ?_
        exact h
    · have h := h.2 e
      refine x_iinc (pc := 44) (L' := [some (vr G c_shelf), some (vi (v1)), some (vi (v2)), some (vi (v3)), some (vr G c_land_dry), some (vi (v5)), some (vi (v6 + 1))]) dX6_lateWith_44 rfl (by decide) (xst1 rfl rfl rfl) ?_
      refine x_goto (pc := 47) (t := 6) dX6_lateWith_47 (by decide) ?_
      exact h
set_option maxHeartbeats 4000000 in
set_option maxRecDepth 100000 in
theorem b_Sh_tornBy {G : XG} {S : XS} {I : XI} {v1 : Int} {v2 : Int} {v3 : Int} {R : Int → XI → Prop} (hS : xSh S)  (h : Sh_tornBy_k6 G S I (v1) (v2) (v3) (0) (0) R) : Sh_tornBy G S I v1 v2 v3 R := by
  refine x_start [some (vr G c_shelf), some (vi (v1)), some (vi (v2)), some (vi (v3)), none, none] (by decide) (Nat.le_of_ble_eq_true rfl) rfl ?_
  refine x_iconst (pc := 0) dX6_tornBy_0 ?_
  refine x_istore (pc := 1) (L' := [some (vr G c_shelf), some (vi (v1)), some (vi (v2)), some (vi (v3)), some (vi (0)), none]) dX6_tornBy_1 (by decide) (xst1 rfl rfl rfl) ?_
  refine x_iconst (pc := 3) dX6_tornBy_3 ?_
  refine x_istore (pc := 4) (L' := [some (vr G c_shelf), some (vi (v1)), some (vi (v2)), some (vi (v3)), some (vi (0)), some (vi (0))]) dX6_tornBy_4 (by decide) (xst1 rfl rfl rfl) ?_
  exact h
set_option maxHeartbeats 4000000 in
set_option maxRecDepth 100000 in
theorem b_Sh_tornBy_k6 {G : XG} {S : XS}  {I : XI} {v1 : Int} {v2 : Int} {v3 : Int} {v4 : Int} {v5 : Int} {R : Int → XI → Prop} (hS : xSh S)  (h : ((w32 (I c_shelf 6) ≤ w32 (v5) → R (v4) I) ∧ (¬ (w32 (I c_shelf 6) ≤ w32 (v5)) → (inb (v5) 150 ∧ ((w32 (I c_shelf_actCamps (ix (v5))) = w32 (v1) → Sh_isTorn G S I (v5) (v2) (v3) (fun r2 I1 => ((w32 (r2) = 0 → Sh_tornBy_k6 G S I1 (v1) (v2) (v3) (v4) (v5 + 1) R) ∧ (¬ (w32 (r2) = 0) → (inb (v5) 150 ∧ Sh_tornBy_k6 G S I1 (v1) (v2) (v3) ((v4) + (I1 c_shelf_actAmounts (ix (v5)))) (v5 + 1) R))))) ∧ (¬ (w32 (I c_shelf_actCamps (ix (v5))) = w32 (v1)) → Sh_tornBy_k6 G S I (v1) (v2) (v3) (v4) (v5 + 1) R)))))) : Sh_tornBy_k6 G S  I v1 v2 v3 v4 v5 R := by
  unfold Sh_tornBy_k6
  refine x_iload (pc := 6) dX6_tornBy_6 rfl ?_
  refine x_aload_n (pc := 8) dX6_tornBy_8 rfl rfl ?_
  refine x_getI (pc := 9) (i := c_shelf) fl_X6_31 dX6_tornBy_9 (sN_c_shelf hS) (sT_c_shelf hS) rfl ?_
  refine x_icmp_ge (pc := 12) (t := 55) dX6_tornBy_12 (by decide) (fun e => ?_) (fun e => ?_)
  · have h := h.1 e
    refine x_iload (pc := 55) dX6_tornBy_55 rfl ?_
    exact y_iret (pc := 57) dX6_tornBy_57 rfl ⟨Nat.le_refl _, Nat.le_refl _⟩ h
  · have h := h.2 e
    refine x_aload_n (pc := 15) dX6_tornBy_15 rfl rfl ?_
    refine x_getR (pc := 16) (i := c_shelf) (a := c_shelf_actCamps) fl_X6_40 dX6_tornBy_16 (sN_c_shelf hS) (sT_c_shelf hS) rfl (sR_c_shelf_9 hS) ?_
    refine x_iload (pc := 19) dX6_tornBy_19 rfl ?_
    refine y_iald (pc := 21) (i := c_shelf_actCamps) (n := 150) dX6_tornBy_21 (sN_c_shelf_actCamps hS) (sT_c_shelf_actCamps hS) (sL_c_shelf_actCamps hS) h.1 ?_
    have h := h.2
    refine x_iload_n (pc := 22) dX6_tornBy_22 rfl rfl ?_
    refine x_icmp_ne (pc := 23) (t := 49) dX6_tornBy_23 (by decide) (fun e => ?_) (fun e => ?_)
    · have h := h.1 e
      refine x_aload_n (pc := 26) dX6_tornBy_26 rfl rfl ?_
      refine x_iload (pc := 27) dX6_tornBy_27 rfl ?_
      refine x_iload_n (pc := 29) dX6_tornBy_29 rfl rfl ?_
      refine x_iload_n (pc := 30) dX6_tornBy_30 rfl rfl ?_
      refine y_Vi (pc := 31) (i := c_shelf) (As := [vi (v5), vi (v2), vi (v3)]) (rest := []) ok_X6_isTorn ml_X6_70 dX6_tornBy_31 (sN_c_shelf hS) (sT_c_shelf hS) (by decide) rfl rfl rfl ⟨rfl, rfl⟩ ⟨by decide, by decide⟩ ⟨Nat.le_refl _, Nat.le_refl _⟩ (Nat.le_of_ble_eq_true rfl) rfl h (fun r2 I1 h => ?_)
      refine x_if_eq (pc := 34) (t := 49) dX6_tornBy_34 (by decide) (fun e => ?_) (fun e => ?_)
      · have h := h.1 e
        refine x_iinc (pc := 49) (L' := [some (vr G c_shelf), some (vi (v1)), some (vi (v2)), some (vi (v3)), some (vi (v4)), some (vi (v5 + 1))]) dX6_tornBy_49 rfl (by decide) (xst1 rfl rfl rfl) ?_
        refine x_goto (pc := 52) (t := 6) dX6_tornBy_52 (by decide) ?_
        exact h
      · have h := h.2 e
        refine x_iload (pc := 37) dX6_tornBy_37 rfl ?_
        refine x_aload_n (pc := 39) dX6_tornBy_39 rfl rfl ?_
        refine x_getR (pc := 40) (i := c_shelf) (a := c_shelf_actAmounts) fl_X6_49 dX6_tornBy_40 (sN_c_shelf hS) (sT_c_shelf hS) rfl (sR_c_shelf_12 hS) ?_
        refine x_iload (pc := 43) dX6_tornBy_43 rfl ?_
        refine y_iald (pc := 45) (i := c_shelf_actAmounts) (n := 150) dX6_tornBy_45 (sN_c_shelf_actAmounts hS) (sT_c_shelf_actAmounts hS) (sL_c_shelf_actAmounts hS) h.1 ?_
        have h := h.2
        refine x_iadd (pc := 46) dX6_tornBy_46 ?_
        refine x_istore (pc := 47) (L' := [some (vr G c_shelf), some (vi (v1)), some (vi (v2)), some (vi (v3)), some (vi ((v4) + (I1 c_shelf_actAmounts (ix (v5))))), some (vi (v5))]) dX6_tornBy_47 (by decide) (xst1 rfl rfl rfl) ?_
        refine x_iinc (pc := 49) (L' := [some (vr G c_shelf), some (vi (v1)), some (vi (v2)), some (vi (v3)), some (vi ((v4) + (I1 c_shelf_actAmounts (ix (v5))))), some (vi (v5 + 1))]) dX6_tornBy_49 rfl (by decide) (xst1 rfl rfl rfl) ?_
        refine x_goto (pc := 52) (t := 6) dX6_tornBy_52 (by decide) ?_
        exact h
    · have h := h.2 e
      refine x_iinc (pc := 49) (L' := [some (vr G c_shelf), some (vi (v1)), some (vi (v2)), some (vi (v3)), some (vi (v4)), some (vi (v5 + 1))]) dX6_tornBy_49 rfl (by decide) (xst1 rfl rfl rfl) ?_
      refine x_goto (pc := 52) (t := 6) dX6_tornBy_52 (by decide) ?_
      exact h
set_option maxHeartbeats 4000000 in
set_option maxRecDepth 100000 in
theorem b_Re_readersOf {G : XG} {S : XS} {I : XI} {v1 : Int} {R : Int → XI → Prop} (hS : xSh S)  (h : Re_readersOf_k5 G S I (v1) (0) (0) R) : Re_readersOf G S I v1 R := by
  refine x_start [some (vr G c_readers), some (vi (v1)), some (vr G c_shelf), none, none, none] (by decide) (Nat.le_of_ble_eq_true rfl) rfl ?_
  refine x_iconst (pc := 0) dX4_readersOf_0 ?_
  refine x_istore_n (pc := 1) (L' := [some (vr G c_readers), some (vi (v1)), some (vr G c_shelf), some (vi (0)), none, none]) dX4_readersOf_1 rfl (by decide) (xst1 rfl rfl rfl) ?_
  refine x_iconst (pc := 2) dX4_readersOf_2 ?_
  refine x_istore (pc := 3) (L' := [some (vr G c_readers), some (vi (v1)), some (vr G c_shelf), some (vi (0)), some (vi (0)), none]) dX4_readersOf_3 (by decide) (xst1 rfl rfl rfl) ?_
  exact h
set_option maxHeartbeats 4000000 in
set_option maxRecDepth 100000 in
theorem b_Re_readersOf_k5 {G : XG} {S : XS}  {I : XI} {v1 : Int} {v3 : Int} {v4 : Int} {R : Int → XI → Prop} (hS : xSh S)  (h : ((w32 (I c_shelf 0) ≤ w32 (v4) → Re_readersOf_k44 G S I (v3) (0) (0) R) ∧ (¬ (w32 (I c_shelf 0) ≤ w32 (v4)) → (inb (v4) 24 ∧ ((w32 (I c_shelf_kinds (ix (v4))) = w32 (v1) → Re_readersOf_k5 G S I (v1) (ior (v3) (ishl (1) (v4))) (v4 + 1) R) ∧ (¬ (w32 (I c_shelf_kinds (ix (v4))) = w32 (v1)) → Re_readersOf_k5 G S I (v1) (v3) (v4 + 1) R)))))) : Re_readersOf_k5 G S  I v1 v3 v4 R := by
  unfold Re_readersOf_k5
  refine x_iload (pc := 5) dX4_readersOf_5 rfl ?_
  refine x_aload_n (pc := 7) dX4_readersOf_7 rfl rfl ?_
  refine x_getI (pc := 8) (i := c_shelf) fl_X4_26 dX4_readersOf_8 (sN_c_shelf hS) (sT_c_shelf hS) rfl ?_
  refine x_icmp_ge (pc := 11) (t := 38) dX4_readersOf_11 (by decide) (fun e => ?_) (fun e => ?_)
  · have h := h.1 e
    refine x_iconst (pc := 38) dX4_readersOf_38 ?_
    refine x_istore (pc := 39) (L' := [some (vr G c_readers), some (vi (v1)), some (vr G c_shelf), some (vi (v3)), some (vi (0)), none]) dX4_readersOf_39 (by decide) (xst1 rfl rfl rfl) ?_
    refine x_iconst (pc := 41) dX4_readersOf_41 ?_
    refine x_istore (pc := 42) (L' := [some (vr G c_readers), some (vi (v1)), some (vr G c_shelf), some (vi (v3)), some (vi (0)), some (vi (0))]) dX4_readersOf_42 (by decide) (xst1 rfl rfl rfl) ?_
    refine x_less (L' := [some (vr G c_readers), none, none, some (vi (v3)), some (vi (0)), some (vi (0))]) (And.intro rfl (And.intro rfl (And.intro rfl (And.intro rfl trivial)))) ?_
    exact h
  · have h := h.2 e
    refine x_aload_n (pc := 14) dX4_readersOf_14 rfl rfl ?_
    refine x_getR (pc := 15) (i := c_shelf) (a := c_shelf_kinds) fl_X4_37 dX4_readersOf_15 (sN_c_shelf hS) (sT_c_shelf hS) rfl (sR_c_shelf_1 hS) ?_
    refine x_iload (pc := 18) dX4_readersOf_18 rfl ?_
    refine y_iald (pc := 20) (i := c_shelf_kinds) (n := 24) dX4_readersOf_20 (sN_c_shelf_kinds hS) (sT_c_shelf_kinds hS) (sL_c_shelf_kinds hS) h.1 ?_
    have h := h.2
    refine x_iload_n (pc := 21) dX4_readersOf_21 rfl rfl ?_
    refine x_icmp_ne (pc := 22) (t := 32) dX4_readersOf_22 (by decide) (fun e => ?_) (fun e => ?_)
    · have h := h.1 e
      refine x_iload_n (pc := 25) dX4_readersOf_25 rfl rfl ?_
      refine x_iconst (pc := 26) dX4_readersOf_26 ?_
      refine x_iload (pc := 27) dX4_readersOf_27 rfl ?_
      refine x_ishl (pc := 29) dX4_readersOf_29 ?_
      refine x_ior (pc := 30) dX4_readersOf_30 ?_
      refine x_istore_n (pc := 31) (L' := [some (vr G c_readers), some (vi (v1)), some (vr G c_shelf), some (vi (ior (v3) (ishl (1) (v4)))), some (vi (v4)), none]) dX4_readersOf_31 rfl (by decide) (xst1 rfl rfl rfl) ?_
      refine x_iinc (pc := 32) (L' := [some (vr G c_readers), some (vi (v1)), some (vr G c_shelf), some (vi (ior (v3) (ishl (1) (v4)))), some (vi (v4 + 1)), none]) dX4_readersOf_32 rfl (by decide) (xst1 rfl rfl rfl) ?_
      refine x_goto (pc := 35) (t := 5) dX4_readersOf_35 (by decide) ?_
      exact h
    · have h := h.2 e
      refine x_iinc (pc := 32) (L' := [some (vr G c_readers), some (vi (v1)), some (vr G c_shelf), some (vi (v3)), some (vi (v4 + 1)), none]) dX4_readersOf_32 rfl (by decide) (xst1 rfl rfl rfl) ?_
      refine x_goto (pc := 35) (t := 5) dX4_readersOf_35 (by decide) ?_
      exact h
set_option maxHeartbeats 4000000 in
set_option maxRecDepth 100000 in
theorem b_Re_readersOf_k44 {G : XG} {S : XS}  {I : XI} {v3 : Int} {v4 : Int} {v5 : Int} {R : Int → XI → Prop} (hS : xSh S)  (h : ((w32 (I c_readers 0) ≤ w32 (v5) → R (v4) I) ∧ (¬ (w32 (I c_readers 0) ≤ w32 (v5)) → (inb (v5) 12 ∧ ((w32 (iand (I c_readers_books (ix (v5))) (v3)) = 0 → Re_readersOf_k44 G S I (v3) (v4) (v5 + 1) R) ∧ (¬ (w32 (iand (I c_readers_books (ix (v5))) (v3)) = 0) → Re_readersOf_k44 G S I (v3) (v4 + 1) (v5 + 1) R)))))) : Re_readersOf_k44 G S  I v3 v4 v5 R := by
  unfold Re_readersOf_k44
  refine x_iload (pc := 44) dX4_readersOf_44 rfl ?_
  refine x_aload_n (pc := 46) dX4_readersOf_46 rfl rfl ?_
  refine x_getI (pc := 47) (i := c_readers) fl_X4_9 dX4_readersOf_47 (sN_c_readers hS) (sT_c_readers hS) rfl ?_
  refine x_icmp_ge (pc := 50) (t := 74) dX4_readersOf_50 (by decide) (fun e => ?_) (fun e => ?_)
  · have h := h.1 e
    refine x_iload (pc := 74) dX4_readersOf_74 rfl ?_
    exact y_iret (pc := 76) dX4_readersOf_76 rfl ⟨Nat.le_refl _, Nat.le_refl _⟩ h
  · have h := h.2 e
    refine x_aload_n (pc := 53) dX4_readersOf_53 rfl rfl ?_
    refine x_getR (pc := 54) (i := c_readers) (a := c_readers_books) fl_X4_19 dX4_readersOf_54 (sN_c_readers hS) (sT_c_readers hS) rfl (sR_c_readers_2 hS) ?_
    refine x_iload (pc := 57) dX4_readersOf_57 rfl ?_
    refine y_iald (pc := 59) (i := c_readers_books) (n := 12) dX4_readersOf_59 (sN_c_readers_books hS) (sT_c_readers_books hS) (sL_c_readers_books hS) h.1 ?_
    have h := h.2
    refine x_iload_n (pc := 60) dX4_readersOf_60 rfl rfl ?_
    refine x_iand (pc := 61) dX4_readersOf_61 ?_
    refine x_if_eq (pc := 62) (t := 68) dX4_readersOf_62 (by decide) (fun e => ?_) (fun e => ?_)
    · have h := h.1 e
      refine x_iinc (pc := 68) (L' := [some (vr G c_readers), none, none, some (vi (v3)), some (vi (v4)), some (vi (v5 + 1))]) dX4_readersOf_68 rfl (by decide) (xst1 rfl rfl rfl) ?_
      refine x_goto (pc := 71) (t := 44) dX4_readersOf_71 (by decide) ?_
      exact h
    · have h := h.2 e
      refine x_iinc (pc := 65) (L' := [some (vr G c_readers), none, none, some (vi (v3)), some (vi (v4 + 1)), some (vi (v5))]) dX4_readersOf_65 rfl (by decide) (xst1 rfl rfl rfl) ?_
      refine x_iinc (pc := 68) (L' := [some (vr G c_readers), none, none, some (vi (v3)), some (vi (v4 + 1)), some (vi (v5 + 1))]) dX4_readersOf_68 rfl (by decide) (xst1 rfl rfl rfl) ?_
      refine x_goto (pc := 71) (t := 44) dX4_readersOf_71 (by decide) ?_
      exact h
set_option maxHeartbeats 4000000 in
set_option maxRecDepth 100000 in
theorem b_La_addGrass {G : XG} {S : XS} {I : XI} {v1 : Int} {v2 : Int} {v3 : Int} {v4 : Int} {R : Int → XI → Prop} (hS : xSh S)  (h : ((w32 (I c_land 3) < w32 (60) → (inb (I c_land 3) 60 ∧ (∀ I1 : XI, I1 = up I c_land_grassCells (ix (I c_land 3)) (v1) → (inb (I1 c_land 3) 60 ∧ (∀ I2 : XI, I2 = up I1 c_land_grassWeeks (ix (I1 c_land 3)) (v2) → (inb (I2 c_land 3) 60 ∧ (∀ I3 : XI, I3 = up I2 c_land_grassNumbers (ix (I2 c_land 3)) (v3) → (inb (I3 c_land 3) 60 ∧ (∀ I4 : XI, I4 = up I3 c_land_grassTold (ix (I3 c_land 3)) (v4) → (∀ I5 : XI, I5 = up I4 c_land 3 ((I4 c_land 3) + (1)) → R (1) I5)))))))))) ∧ (¬ (w32 (I c_land 3) < w32 (60)) → R (0) I))) : La_addGrass G S I v1 v2 v3 v4 R := by
  refine x_start [some (vr G c_land), some (vi (v1)), some (vi (v2)), some (vi (v3)), some (vi (v4))] (by decide) (Nat.le_of_ble_eq_true rfl) rfl ?_
  refine x_aload_n (pc := 0) dX2_addGrass_0 rfl rfl ?_
  refine x_getI (pc := 1) (i := c_land) fl_X2_22 dX2_addGrass_1 (sN_c_land hS) (sT_c_land hS) rfl ?_
  refine x_bipush (pc := 4) dX2_addGrass_4 (by decide) ?_
  refine x_icmp_lt (pc := 6) (t := 11) dX2_addGrass_6 (by decide) (fun e => ?_) (fun e => ?_)
  · have h := h.1 e
    refine x_aload_n (pc := 11) dX2_addGrass_11 rfl rfl ?_
    refine x_getR (pc := 12) (i := c_land) (a := c_land_grassCells) fl_X2_25 dX2_addGrass_12 (sN_c_land hS) (sT_c_land hS) rfl (sR_c_land_4 hS) ?_
    refine x_aload_n (pc := 15) dX2_addGrass_15 rfl rfl ?_
    refine x_getI (pc := 16) (i := c_land) fl_X2_22 dX2_addGrass_16 (sN_c_land hS) (sT_c_land hS) rfl ?_
    refine x_iload_n (pc := 19) dX2_addGrass_19 rfl rfl ?_
    refine y_iast (pc := 20) (i := c_land_grassCells) (n := 60) dX2_addGrass_20 (sN_c_land_grassCells hS) (sT_c_land_grassCells hS) (sL_c_land_grassCells hS) h.1 ?_
    have h := h.2
    have h := h _ rfl
    generalize up I c_land_grassCells (ix (I c_land 3)) (v1) = I1 at h ⊢
    refine x_aload_n (pc := 21) dX2_addGrass_21 rfl rfl ?_
    refine x_getR (pc := 22) (i := c_land) (a := c_land_grassWeeks) fl_X2_28 dX2_addGrass_22 (sN_c_land hS) (sT_c_land hS) rfl (sR_c_land_5 hS) ?_
    refine x_aload_n (pc := 25) dX2_addGrass_25 rfl rfl ?_
    refine x_getI (pc := 26) (i := c_land) fl_X2_22 dX2_addGrass_26 (sN_c_land hS) (sT_c_land hS) rfl ?_
    refine x_iload_n (pc := 29) dX2_addGrass_29 rfl rfl ?_
    refine y_iast (pc := 30) (i := c_land_grassWeeks) (n := 60) dX2_addGrass_30 (sN_c_land_grassWeeks hS) (sT_c_land_grassWeeks hS) (sL_c_land_grassWeeks hS) h.1 ?_
    have h := h.2
    have h := h _ rfl
    generalize up I1 c_land_grassWeeks (ix (I1 c_land 3)) (v2) = I2 at h ⊢
    refine x_aload_n (pc := 31) dX2_addGrass_31 rfl rfl ?_
    refine x_getR (pc := 32) (i := c_land) (a := c_land_grassNumbers) fl_X2_31 dX2_addGrass_32 (sN_c_land hS) (sT_c_land hS) rfl (sR_c_land_6 hS) ?_
    refine x_aload_n (pc := 35) dX2_addGrass_35 rfl rfl ?_
    refine x_getI (pc := 36) (i := c_land) fl_X2_22 dX2_addGrass_36 (sN_c_land hS) (sT_c_land hS) rfl ?_
    refine x_iload_n (pc := 39) dX2_addGrass_39 rfl rfl ?_
    refine y_iast (pc := 40) (i := c_land_grassNumbers) (n := 60) dX2_addGrass_40 (sN_c_land_grassNumbers hS) (sT_c_land_grassNumbers hS) (sL_c_land_grassNumbers hS) h.1 ?_
    have h := h.2
    have h := h _ rfl
    generalize up I2 c_land_grassNumbers (ix (I2 c_land 3)) (v3) = I3 at h ⊢
    refine x_aload_n (pc := 41) dX2_addGrass_41 rfl rfl ?_
    refine x_getR (pc := 42) (i := c_land) (a := c_land_grassTold) fl_X2_34 dX2_addGrass_42 (sN_c_land hS) (sT_c_land hS) rfl (sR_c_land_7 hS) ?_
    refine x_aload_n (pc := 45) dX2_addGrass_45 rfl rfl ?_
    refine x_getI (pc := 46) (i := c_land) fl_X2_22 dX2_addGrass_46 (sN_c_land hS) (sT_c_land hS) rfl ?_
    refine x_iload (pc := 49) dX2_addGrass_49 rfl ?_
    refine y_iast (pc := 51) (i := c_land_grassTold) (n := 60) dX2_addGrass_51 (sN_c_land_grassTold hS) (sT_c_land_grassTold hS) (sL_c_land_grassTold hS) h.1 ?_
    have h := h.2
    have h := h _ rfl
    generalize up I3 c_land_grassTold (ix (I3 c_land 3)) (v4) = I4 at h ⊢
    refine x_aload_n (pc := 52) dX2_addGrass_52 rfl rfl ?_
    refine x_dup (pc := 53) dX2_addGrass_53 rfl ?_
    refine x_getI (pc := 54) (i := c_land) fl_X2_22 dX2_addGrass_54 (sN_c_land hS) (sT_c_land hS) rfl ?_
    refine x_iconst (pc := 57) dX2_addGrass_57 ?_
    refine x_iadd (pc := 58) dX2_addGrass_58 ?_
    refine x_putI (pc := 59) (i := c_land) fl_X2_22 dX2_addGrass_59 (sN_c_land hS) (sT_c_land hS) rfl ?_
    have h := h _ rfl
    generalize up I4 c_land 3 ((I4 c_land 3) + (1)) = I5 at h ⊢
    refine x_iconst (pc := 62) dX2_addGrass_62 ?_
    exact y_zret (pc := 63) dX2_addGrass_63 rfl ⟨Nat.le_refl _, Nat.le_refl _⟩ (Or.inr rfl) h
  · have h := h.2 e
    refine x_iconst (pc := 9) dX2_addGrass_9 ?_
    exact y_zret (pc := 10) dX2_addGrass_10 rfl ⟨Nat.le_refl _, Nat.le_refl _⟩ (Or.inl rfl) h
set_option maxHeartbeats 4000000 in
set_option maxRecDepth 100000 in
theorem b_Sh_holderInRow {G : XG} {S : XS} {I : XI} {v1 : Int} {v2 : Int} {v3 : Int} {R : Int → XI → Prop} (hS : xSh S)  (h : Sh_holderInRow_k6 G S I (v1) (v2) (v3) (0) (0) R) : Sh_holderInRow G S I v1 v2 v3 R := by
  refine x_start [some (vr G c_shelf), some (vi (v1)), some (vi (v2)), some (vi (v3)), none, none, none] (by decide) (Nat.le_of_ble_eq_true rfl) rfl ?_
  refine x_iconst (pc := 0) dX6_holderInRow_0 ?_
  refine x_istore (pc := 1) (L' := [some (vr G c_shelf), some (vi (v1)), some (vi (v2)), some (vi (v3)), some (vi (0)), none, none]) dX6_holderInRow_1 (by decide) (xst1 rfl rfl rfl) ?_
  refine x_iconst (pc := 3) dX6_holderInRow_3 ?_
  refine x_istore (pc := 4) (L' := [some (vr G c_shelf), some (vi (v1)), some (vi (v2)), some (vi (v3)), some (vi (0)), some (vi (0)), none]) dX6_holderInRow_4 (by decide) (xst1 rfl rfl rfl) ?_
  exact h
set_option maxHeartbeats 4000000 in
set_option maxRecDepth 100000 in
theorem b_Sh_holderInRow_k6 {G : XG} {S : XS}  {I : XI} {v1 : Int} {v2 : Int} {v3 : Int} {v4 : Int} {v5 : Int} {R : Int → XI → Prop} (hS : xSh S)  (h : ((w32 (100) ≤ w32 (v5) → R ((-1)) I) ∧ (¬ (w32 (100) ≤ w32 (v5)) → Sh_holderInRow_k16 G S I (v1) (v2) (v3) (v4) (v5) (0) R))) : Sh_holderInRow_k6 G S  I v1 v2 v3 v4 v5 R := by
  unfold Sh_holderInRow_k6
  refine x_iload (pc := 6) dX6_holderInRow_6 rfl ?_
  refine x_bipush (pc := 8) dX6_holderInRow_8 (by decide) ?_
  refine x_icmp_ge (pc := 10) (t := 99) dX6_holderInRow_10 (by decide) (fun e => ?_) (fun e => ?_)
  · have h := h.1 e
    refine x_iconst (pc := 99) dX6_holderInRow_99 ?_
    exact y_iret (pc := 100) dX6_holderInRow_100 rfl ⟨Nat.le_refl _, Nat.le_refl _⟩ h
  · have h := h.2 e
    refine x_iconst (pc := 13) dX6_holderInRow_13 ?_
    refine x_istore (pc := 14) (L' := [some (vr G c_shelf), some (vi (v1)), some (vi (v2)), some (vi (v3)), some (vi (v4)), some (vi (v5)), some (vi (0))]) dX6_holderInRow_14 (by decide) (xst1 rfl rfl rfl) ?_
    exact h
set_option maxHeartbeats 4000000 in
set_option maxRecDepth 100000 in
theorem b_Sh_holderInRow_k16 {G : XG} {S : XS}  {I : XI} {v1 : Int} {v2 : Int} {v3 : Int} {v4 : Int} {v5 : Int} {v6 : Int} {R : Int → XI → Prop} (hS : xSh S)  (h : ((w32 (I c_shelf 6) ≤ w32 (v6) → Sh_holderInRow_k6 G S I (v1) (v2) (v3) (v4) (v5 + 1) R) ∧ (¬ (w32 (I c_shelf 6) ≤ w32 (v6)) → (inb (v6) 150 ∧ ((w32 (I c_shelf_actWeeks (ix (v6))) = w32 (v5) → (inb (v6) 150 ∧ ((w32 (I c_shelf_actBooks (ix (v6))) = w32 (v1) → (inb (v6) 150 ∧ ((w32 (1) < w32 (I c_shelf_actKinds (ix (v6))) → Sh_holderInRow_k16 G S I (v1) (v2) (v3) (v4) (v5) (v6 + 1) R) ∧ (¬ (w32 (1) < w32 (I c_shelf_actKinds (ix (v6)))) → (inb (v6) 150 ∧ ((w32 (v3) < w32 (I c_shelf_actTold (ix (v6))) → Sh_holderInRow_k16 G S I (v1) (v2) (v3) (v4) (v5) (v6 + 1) R) ∧ (¬ (w32 (v3) < w32 (I c_shelf_actTold (ix (v6)))) → ((w32 (v4) = w32 (v2) → (inb (v6) 150 ∧ R (I c_shelf_actCamps (ix (v6))) I)) ∧ (¬ (w32 (v4) = w32 (v2)) → Sh_holderInRow_k16 G S I (v1) (v2) (v3) (v4 + 1) (v5) (v6 + 1) R))))))))) ∧ (¬ (w32 (I c_shelf_actBooks (ix (v6))) = w32 (v1)) → Sh_holderInRow_k16 G S I (v1) (v2) (v3) (v4) (v5) (v6 + 1) R)))) ∧ (¬ (w32 (I c_shelf_actWeeks (ix (v6))) = w32 (v5)) → Sh_holderInRow_k16 G S I (v1) (v2) (v3) (v4) (v5) (v6 + 1) R)))))) : Sh_holderInRow_k16 G S  I v1 v2 v3 v4 v5 v6 R := by
  unfold Sh_holderInRow_k16
  refine x_iload (pc := 16) dX6_holderInRow_16 rfl ?_
  refine x_aload_n (pc := 18) dX6_holderInRow_18 rfl rfl ?_
  refine x_getI (pc := 19) (i := c_shelf) fl_X6_31 dX6_holderInRow_19 (sN_c_shelf hS) (sT_c_shelf hS) rfl ?_
  refine x_icmp_ge (pc := 22) (t := 93) dX6_holderInRow_22 (by decide) (fun e => ?_) (fun e => ?_)
  · have h := h.1 e
    refine x_iinc (pc := 93) (L' := [some (vr G c_shelf), some (vi (v1)), some (vi (v2)), some (vi (v3)), some (vi (v4)), some (vi (v5 + 1)), some (vi (v6))]) dX6_holderInRow_93 rfl (by decide) (xst1 rfl rfl rfl) ?_
    refine x_goto (pc := 96) (t := 6) dX6_holderInRow_96 (by decide) ?_
    refine x_less (L' := [some (vr G c_shelf), some (vi (v1)), some (vi (v2)), some (vi (v3)), some (vi (v4)), some (vi (v5 + 1)), none]) (And.intro rfl (And.intro rfl (And.intro rfl (And.intro rfl (And.intro rfl (And.intro rfl trivial)))))) ?_
    exact h
  · have h := h.2 e
    refine x_aload_n (pc := 25) dX6_holderInRow_25 rfl rfl ?_
    refine x_getR (pc := 26) (i := c_shelf) (a := c_shelf_actWeeks) fl_X6_43 dX6_holderInRow_26 (sN_c_shelf hS) (sT_c_shelf hS) rfl (sR_c_shelf_10 hS) ?_
    refine x_iload (pc := 29) dX6_holderInRow_29 rfl ?_
    refine y_iald (pc := 31) (i := c_shelf_actWeeks) (n := 150) dX6_holderInRow_31 (sN_c_shelf_actWeeks hS) (sT_c_shelf_actWeeks hS) (sL_c_shelf_actWeeks hS) h.1 ?_
    have h := h.2
    refine x_iload (pc := 32) dX6_holderInRow_32 rfl ?_
    refine x_icmp_ne (pc := 34) (t := 87) dX6_holderInRow_34 (by decide) (fun e => ?_) (fun e => ?_)
    · have h := h.1 e
      refine x_aload_n (pc := 37) dX6_holderInRow_37 rfl rfl ?_
      refine x_getR (pc := 38) (i := c_shelf) (a := c_shelf_actBooks) fl_X6_34 dX6_holderInRow_38 (sN_c_shelf hS) (sT_c_shelf hS) rfl (sR_c_shelf_7 hS) ?_
      refine x_iload (pc := 41) dX6_holderInRow_41 rfl ?_
      refine y_iald (pc := 43) (i := c_shelf_actBooks) (n := 150) dX6_holderInRow_43 (sN_c_shelf_actBooks hS) (sT_c_shelf_actBooks hS) (sL_c_shelf_actBooks hS) h.1 ?_
      have h := h.2
      refine x_iload_n (pc := 44) dX6_holderInRow_44 rfl rfl ?_
      refine x_icmp_ne (pc := 45) (t := 87) dX6_holderInRow_45 (by decide) (fun e => ?_) (fun e => ?_)
      · have h := h.1 e
        refine x_aload_n (pc := 48) dX6_holderInRow_48 rfl rfl ?_
        refine x_getR (pc := 49) (i := c_shelf) (a := c_shelf_actKinds) fl_X6_37 dX6_holderInRow_49 (sN_c_shelf hS) (sT_c_shelf hS) rfl (sR_c_shelf_8 hS) ?_
        refine x_iload (pc := 52) dX6_holderInRow_52 rfl ?_
        refine y_iald (pc := 54) (i := c_shelf_actKinds) (n := 150) dX6_holderInRow_54 (sN_c_shelf_actKinds hS) (sT_c_shelf_actKinds hS) (sL_c_shelf_actKinds hS) h.1 ?_
        have h := h.2
        refine x_iconst (pc := 55) dX6_holderInRow_55 ?_
        refine x_icmp_gt (pc := 56) (t := 87) dX6_holderInRow_56 (by decide) (fun e => ?_) (fun e => ?_)
        · have h := h.1 e
          refine x_iinc (pc := 87) (L' := [some (vr G c_shelf), some (vi (v1)), some (vi (v2)), some (vi (v3)), some (vi (v4)), some (vi (v5)), some (vi (v6 + 1))]) dX6_holderInRow_87 rfl (by decide) (xst1 rfl rfl rfl) ?_
          refine x_goto (pc := 90) (t := 16) dX6_holderInRow_90 (by decide) ?_
          exact h
        · have h := h.2 e
          refine x_aload_n (pc := 59) dX6_holderInRow_59 rfl rfl ?_
          refine x_getR (pc := 60) (i := c_shelf) (a := c_shelf_actTold) fl_X6_46 dX6_holderInRow_60 (sN_c_shelf hS) (sT_c_shelf hS) rfl (sR_c_shelf_11 hS) ?_
          refine x_iload (pc := 63) dX6_holderInRow_63 rfl ?_
          refine y_iald (pc := 65) (i := c_shelf_actTold) (n := 150) dX6_holderInRow_65 (sN_c_shelf_actTold hS) (sT_c_shelf_actTold hS) (sL_c_shelf_actTold hS) h.1 ?_
          have h := h.2
          refine x_iload_n (pc := 66) dX6_holderInRow_66 rfl rfl ?_
          refine x_icmp_gt (pc := 67) (t := 87) dX6_holderInRow_67 (by decide) (fun e => ?_) (fun e => ?_)
          · have h := h.1 e
            refine x_iinc (pc := 87) (L' := [some (vr G c_shelf), some (vi (v1)), some (vi (v2)), some (vi (v3)), some (vi (v4)), some (vi (v5)), some (vi (v6 + 1))]) dX6_holderInRow_87 rfl (by decide) (xst1 rfl rfl rfl) ?_
            refine x_goto (pc := 90) (t := 16) dX6_holderInRow_90 (by decide) ?_
            exact h
          · have h := h.2 e
            refine x_iload (pc := 70) dX6_holderInRow_70 rfl ?_
            refine x_iload_n (pc := 72) dX6_holderInRow_72 rfl rfl ?_
            refine x_icmp_ne (pc := 73) (t := 84) dX6_holderInRow_73 (by decide) (fun e => ?_) (fun e => ?_)
            · have h := h.1 e
              refine x_aload_n (pc := 76) dX6_holderInRow_76 rfl rfl ?_
              refine x_getR (pc := 77) (i := c_shelf) (a := c_shelf_actCamps) fl_X6_40 dX6_holderInRow_77 (sN_c_shelf hS) (sT_c_shelf hS) rfl (sR_c_shelf_9 hS) ?_
              refine x_iload (pc := 80) dX6_holderInRow_80 rfl ?_
              refine y_iald (pc := 82) (i := c_shelf_actCamps) (n := 150) dX6_holderInRow_82 (sN_c_shelf_actCamps hS) (sT_c_shelf_actCamps hS) (sL_c_shelf_actCamps hS) h.1 ?_
              have h := h.2
              exact y_iret (pc := 83) dX6_holderInRow_83 rfl ⟨Nat.le_refl _, Nat.le_refl _⟩ h
            · have h := h.2 e
              refine x_iinc (pc := 84) (L' := [some (vr G c_shelf), some (vi (v1)), some (vi (v2)), some (vi (v3)), some (vi (v4 + 1)), some (vi (v5)), some (vi (v6))]) dX6_holderInRow_84 rfl (by decide) (xst1 rfl rfl rfl) ?_
              refine x_iinc (pc := 87) (L' := [some (vr G c_shelf), some (vi (v1)), some (vi (v2)), some (vi (v3)), some (vi (v4 + 1)), some (vi (v5)), some (vi (v6 + 1))]) dX6_holderInRow_87 rfl (by decide) (xst1 rfl rfl rfl) ?_
              refine x_goto (pc := 90) (t := 16) dX6_holderInRow_90 (by decide) ?_
              exact h
      · have h := h.2 e
        refine x_iinc (pc := 87) (L' := [some (vr G c_shelf), some (vi (v1)), some (vi (v2)), some (vi (v3)), some (vi (v4)), some (vi (v5)), some (vi (v6 + 1))]) dX6_holderInRow_87 rfl (by decide) (xst1 rfl rfl rfl) ?_
        refine x_goto (pc := 90) (t := 16) dX6_holderInRow_90 (by decide) ?_
        exact h
    · have h := h.2 e
      refine x_iinc (pc := 87) (L' := [some (vr G c_shelf), some (vi (v1)), some (vi (v2)), some (vi (v3)), some (vi (v4)), some (vi (v5)), some (vi (v6 + 1))]) dX6_holderInRow_87 rfl (by decide) (xst1 rfl rfl rfl) ?_
      refine x_goto (pc := 90) (t := 16) dX6_holderInRow_90 (by decide) ?_
      exact h
set_option maxHeartbeats 4000000 in
set_option maxRecDepth 100000 in
theorem b_He_hasCamp {G : XG} {S : XS} {I : XI} {v1 : Int} {R : Int → XI → Prop} (hS : xSh S)  (h : ((w32 (v1) < 0 → R (0) I) ∧ (¬ (w32 (v1) < 0) → ((w32 (I c_herds 0) ≤ w32 (v1) → R (0) I) ∧ (¬ (w32 (I c_herds 0) ≤ w32 (v1)) → R (1) I))))) : He_hasCamp G S I v1 R := by
  refine x_start [some (vr G c_herds), some (vi (v1))] (by decide) (Nat.le_of_ble_eq_true rfl) rfl ?_
  refine x_iload_n (pc := 0) dX1_hasCamp_0 rfl rfl ?_
  refine x_if_lt (pc := 1) (t := 16) dX1_hasCamp_1 (by decide) (fun e => ?_) (fun e => ?_)
  · have h := h.1 e
    refine x_iconst (pc := 16) dX1_hasCamp_16 ?_
    exact y_zret (pc := 17) dX1_hasCamp_17 rfl ⟨Nat.le_refl _, Nat.le_refl _⟩ (Or.inl rfl) h
  · have h := h.2 e
    refine x_iload_n (pc := 4) dX1_hasCamp_4 rfl rfl ?_
    refine x_aload_n (pc := 5) dX1_hasCamp_5 rfl rfl ?_
    refine x_getI (pc := 6) (i := c_herds) fl_X1_9 dX1_hasCamp_6 (sN_c_herds hS) (sT_c_herds hS) rfl ?_
    refine x_icmp_ge (pc := 9) (t := 16) dX1_hasCamp_9 (by decide) (fun e => ?_) (fun e => ?_)
    · have h := h.1 e
      refine x_iconst (pc := 16) dX1_hasCamp_16 ?_
      exact y_zret (pc := 17) dX1_hasCamp_17 rfl ⟨Nat.le_refl _, Nat.le_refl _⟩ (Or.inl rfl) h
    · have h := h.2 e
      refine x_iconst (pc := 12) dX1_hasCamp_12 ?_
      refine x_goto (pc := 13) (t := 17) dX1_hasCamp_13 (by decide) ?_
      exact y_zret (pc := 17) dX1_hasCamp_17 rfl ⟨Nat.le_refl _, Nat.le_refl _⟩ (Or.inr rfl) h
set_option maxHeartbeats 4000000 in
set_option maxRecDepth 100000 in
theorem b_Re_hasReader {G : XG} {S : XS} {I : XI} {v1 : Int} {R : Int → XI → Prop} (hS : xSh S)  (h : ((w32 (v1) < 0 → R (0) I) ∧ (¬ (w32 (v1) < 0) → ((w32 (I c_readers 0) ≤ w32 (v1) → R (0) I) ∧ (¬ (w32 (I c_readers 0) ≤ w32 (v1)) → R (1) I))))) : Re_hasReader G S I v1 R := by
  refine x_start [some (vr G c_readers), some (vi (v1))] (by decide) (Nat.le_of_ble_eq_true rfl) rfl ?_
  refine x_iload_n (pc := 0) dX4_hasReader_0 rfl rfl ?_
  refine x_if_lt (pc := 1) (t := 16) dX4_hasReader_1 (by decide) (fun e => ?_) (fun e => ?_)
  · have h := h.1 e
    refine x_iconst (pc := 16) dX4_hasReader_16 ?_
    exact y_zret (pc := 17) dX4_hasReader_17 rfl ⟨Nat.le_refl _, Nat.le_refl _⟩ (Or.inl rfl) h
  · have h := h.2 e
    refine x_iload_n (pc := 4) dX4_hasReader_4 rfl rfl ?_
    refine x_aload_n (pc := 5) dX4_hasReader_5 rfl rfl ?_
    refine x_getI (pc := 6) (i := c_readers) fl_X4_9 dX4_hasReader_6 (sN_c_readers hS) (sT_c_readers hS) rfl ?_
    refine x_icmp_ge (pc := 9) (t := 16) dX4_hasReader_9 (by decide) (fun e => ?_) (fun e => ?_)
    · have h := h.1 e
      refine x_iconst (pc := 16) dX4_hasReader_16 ?_
      exact y_zret (pc := 17) dX4_hasReader_17 rfl ⟨Nat.le_refl _, Nat.le_refl _⟩ (Or.inl rfl) h
    · have h := h.2 e
      refine x_iconst (pc := 12) dX4_hasReader_12 ?_
      refine x_goto (pc := 13) (t := 17) dX4_hasReader_13 (by decide) ?_
      exact y_zret (pc := 17) dX4_hasReader_17 rfl ⟨Nat.le_refl _, Nat.le_refl _⟩ (Or.inr rfl) h
set_option maxHeartbeats 4000000 in
set_option maxRecDepth 100000 in
theorem b_Re_levelOf {G : XG} {S : XS} {I : XI} {v1 : Int} {R : Int → XI → Prop} (hS : xSh S)  (h : Re_levelOf_k3 G S I (v1) (9) R) : Re_levelOf G S I v1 R := by
  refine x_start [some (vr G c_readers), some (vi (v1)), some (vr G c_shelf), none] (by decide) (Nat.le_of_ble_eq_true rfl) rfl ?_
  refine x_bipush (pc := 0) dX4_levelOf_0 (by decide) ?_
  refine x_istore_n (pc := 2) (L' := [some (vr G c_readers), some (vi (v1)), some (vr G c_shelf), some (vi (9))]) dX4_levelOf_2 rfl (by decide) (xst1 rfl rfl rfl) ?_
  exact h
set_option maxHeartbeats 4000000 in
set_option maxRecDepth 100000 in
theorem b_Re_levelOf_k3 {G : XG} {S : XS}  {I : XI} {v1 : Int} {v3 : Int} {R : Int → XI → Prop} (hS : xSh S)  (h : ((w32 (v3) ≤ 0 → R (0) I) ∧ (¬ (w32 (v3) ≤ 0) → Re_booksFrom G S I (v1) (v3) (fun r2 I1 => ((w32 (r2) < w32 (v3) → Re_levelOf_k3 G S I1 (v1) (v3 + (-1)) R) ∧ (¬ (w32 (r2) < w32 (v3)) → R (v3) I1)))))) : Re_levelOf_k3 G S  I v1 v3 R := by
  unfold Re_levelOf_k3
  refine x_iload_n (pc := 3) dX4_levelOf_3 rfl rfl ?_
  refine x_if_le (pc := 4) (t := 26) dX4_levelOf_4 (by decide) (fun e => ?_) (fun e => ?_)
  · have h := h.1 e
    refine x_iconst (pc := 26) dX4_levelOf_26 ?_
    exact y_iret (pc := 27) dX4_levelOf_27 rfl ⟨Nat.le_refl _, Nat.le_refl _⟩ h
  · have h := h.2 e
    refine x_aload_n (pc := 7) dX4_levelOf_7 rfl rfl ?_
    refine x_iload_n (pc := 8) dX4_levelOf_8 rfl rfl ?_
    refine x_aload_n (pc := 9) dX4_levelOf_9 rfl rfl ?_
    refine x_iload_n (pc := 10) dX4_levelOf_10 rfl rfl ?_
    refine y_Vi (pc := 11) (i := c_readers) (As := [vi (v1), vr G c_shelf, vi (v3)]) (rest := []) ok_X4_booksFrom ml_X4_22 dX4_levelOf_11 (sN_c_readers hS) (sT_c_readers hS) (by decide) rfl rfl rfl ⟨rfl, rfl⟩ ⟨by decide, by decide⟩ ⟨Nat.le_refl _, Nat.le_refl _⟩ (Nat.le_of_ble_eq_true rfl) rfl h (fun r2 I1 h => ?_)
    refine x_iload_n (pc := 14) dX4_levelOf_14 rfl rfl ?_
    refine x_icmp_lt (pc := 15) (t := 20) dX4_levelOf_15 (by decide) (fun e => ?_) (fun e => ?_)
    · have h := h.1 e
      refine x_iinc (pc := 20) (L' := [some (vr G c_readers), some (vi (v1)), some (vr G c_shelf), some (vi (v3 + (-1)))]) dX4_levelOf_20 rfl (by decide) (xst1 rfl rfl rfl) ?_
      refine x_goto (pc := 23) (t := 3) dX4_levelOf_23 (by decide) ?_
      exact h
    · have h := h.2 e
      refine x_iload_n (pc := 18) dX4_levelOf_18 rfl rfl ?_
      exact y_iret (pc := 19) dX4_levelOf_19 rfl ⟨Nat.le_refl _, Nat.le_refl _⟩ h
set_option maxHeartbeats 4000000 in
set_option maxRecDepth 100000 in
theorem b_Ru_firstThatHolds {G : XG} {S : XS} {I : XI} {v1 : Int} {R : Int → XI → Prop} (hS : xSh S)  (h : Ru_firstThatHolds_k2 G S I (v1) (0) R) : Ru_firstThatHolds G S I v1 R := by
  refine x_start [some (vr G c_rules), some (vi (v1)), some (vr G c_facts), none] (by decide) (Nat.le_of_ble_eq_true rfl) rfl ?_
  refine x_iconst (pc := 0) dX5_firstThatHolds_0 ?_
  refine x_istore_n (pc := 1) (L' := [some (vr G c_rules), some (vi (v1)), some (vr G c_facts), some (vi (0))]) dX5_firstThatHolds_1 rfl (by decide) (xst1 rfl rfl rfl) ?_
  exact h
set_option maxHeartbeats 4000000 in
set_option maxRecDepth 100000 in
theorem b_Ru_firstThatHolds_k2 {G : XG} {S : XS}  {I : XI} {v1 : Int} {v3 : Int} {R : Int → XI → Prop} (hS : xSh S)  (h : ((w32 (I c_rules 0) ≤ w32 (v3) → R ((-1)) I) ∧ (¬ (w32 (I c_rules 0) ≤ w32 (v3)) → (inb (v3) 16 ∧ ((w32 (I c_rules_deeds (ix (v3))) = w32 (v1) → Ru_holds G S I (v3) (fun r2 I1 => ((w32 (r2) = 0 → Ru_firstThatHolds_k2 G S I1 (v1) (v3 + 1) R) ∧ (¬ (w32 (r2) = 0) → R (v3) I1)))) ∧ (¬ (w32 (I c_rules_deeds (ix (v3))) = w32 (v1)) → Ru_firstThatHolds_k2 G S I (v1) (v3 + 1) R)))))) : Ru_firstThatHolds_k2 G S  I v1 v3 R := by
  unfold Ru_firstThatHolds_k2
  refine x_iload_n (pc := 2) dX5_firstThatHolds_2 rfl rfl ?_
  refine x_aload_n (pc := 3) dX5_firstThatHolds_3 rfl rfl ?_
  refine x_getI (pc := 4) (i := c_rules) fl_X5_9 dX5_firstThatHolds_4 (sN_c_rules hS) (sT_c_rules hS) rfl ?_
  refine x_icmp_ge (pc := 7) (t := 37) dX5_firstThatHolds_7 (by decide) (fun e => ?_) (fun e => ?_)
  · have h := h.1 e
    refine x_iconst (pc := 37) dX5_firstThatHolds_37 ?_
    exact y_iret (pc := 38) dX5_firstThatHolds_38 rfl ⟨Nat.le_refl _, Nat.le_refl _⟩ h
  · have h := h.2 e
    refine x_aload_n (pc := 10) dX5_firstThatHolds_10 rfl rfl ?_
    refine x_getR (pc := 11) (i := c_rules) (a := c_rules_deeds) fl_X5_15 dX5_firstThatHolds_11 (sN_c_rules hS) (sT_c_rules hS) rfl (sR_c_rules_1 hS) ?_
    refine x_iload_n (pc := 14) dX5_firstThatHolds_14 rfl rfl ?_
    refine y_iald (pc := 15) (i := c_rules_deeds) (n := 16) dX5_firstThatHolds_15 (sN_c_rules_deeds hS) (sT_c_rules_deeds hS) (sL_c_rules_deeds hS) h.1 ?_
    have h := h.2
    refine x_iload_n (pc := 16) dX5_firstThatHolds_16 rfl rfl ?_
    refine x_icmp_ne (pc := 17) (t := 31) dX5_firstThatHolds_17 (by decide) (fun e => ?_) (fun e => ?_)
    · have h := h.1 e
      refine x_aload_n (pc := 20) dX5_firstThatHolds_20 rfl rfl ?_
      refine x_iload_n (pc := 21) dX5_firstThatHolds_21 rfl rfl ?_
      refine x_aload_n (pc := 22) dX5_firstThatHolds_22 rfl rfl ?_
      refine y_Vi (pc := 23) (i := c_rules) (As := [vi (v3), vr G c_facts]) (rest := []) ok_X5_holds ml_X5_37 dX5_firstThatHolds_23 (sN_c_rules hS) (sT_c_rules hS) (by decide) rfl rfl rfl ⟨rfl, rfl⟩ ⟨by decide, by decide⟩ ⟨Nat.le_refl _, Nat.le_refl _⟩ (Nat.le_of_ble_eq_true rfl) rfl h (fun r2 I1 h => ?_)
      refine x_if_eq (pc := 26) (t := 31) dX5_firstThatHolds_26 (by decide) (fun e => ?_) (fun e => ?_)
      · have h := h.1 e
        refine x_iinc (pc := 31) (L' := [some (vr G c_rules), some (vi (v1)), some (vr G c_facts), some (vi (v3 + 1))]) dX5_firstThatHolds_31 rfl (by decide) (xst1 rfl rfl rfl) ?_
        refine x_goto (pc := 34) (t := 2) dX5_firstThatHolds_34 (by decide) ?_
        exact h
      · have h := h.2 e
        refine x_iload_n (pc := 29) dX5_firstThatHolds_29 rfl rfl ?_
        exact y_iret (pc := 30) dX5_firstThatHolds_30 rfl ⟨Nat.le_refl _, Nat.le_refl _⟩ h
    · have h := h.2 e
      refine x_iinc (pc := 31) (L' := [some (vr G c_rules), some (vi (v1)), some (vr G c_facts), some (vi (v3 + 1))]) dX5_firstThatHolds_31 rfl (by decide) (xst1 rfl rfl rfl) ?_
      refine x_goto (pc := 34) (t := 2) dX5_firstThatHolds_34 (by decide) ?_
      exact h
set_option maxHeartbeats 4000000 in
set_option maxRecDepth 100000 in
theorem b_Ru_numberBy {G : XG} {S : XS} {I : XI} {v1 : Int} {v3 : Int} {R : Int → XI → Prop} (hS : xSh S)  (h : Ru_firstThatHolds G S I (v1) (fun r2 I1 => ((w32 (r2) = w32 ((-1)) → R (v3) I1) ∧ (¬ (w32 (r2) = w32 ((-1))) → (inb (r2) 16 ∧ R (I1 c_rules_numbers (ix (r2))) I1))))) : Ru_numberBy G S I v1 v3 R := by
  refine x_start [some (vr G c_rules), some (vi (v1)), some (vr G c_facts), some (vi (v3)), none] (by decide) (Nat.le_of_ble_eq_true rfl) rfl ?_
  refine x_aload_n (pc := 0) dX5_numberBy_0 rfl rfl ?_
  refine x_iload_n (pc := 1) dX5_numberBy_1 rfl rfl ?_
  refine x_aload_n (pc := 2) dX5_numberBy_2 rfl rfl ?_
  refine y_Vi (pc := 3) (i := c_rules) (As := [vi (v1), vr G c_facts]) (rest := []) ok_X5_firstThatHolds ml_X5_41 dX5_numberBy_3 (sN_c_rules hS) (sT_c_rules hS) (by decide) rfl rfl rfl ⟨rfl, rfl⟩ ⟨by decide, by decide⟩ ⟨Nat.le_refl _, Nat.le_refl _⟩ (Nat.le_of_ble_eq_true rfl) rfl h (fun r2 I1 h => ?_)
  refine x_istore (pc := 6) (L' := [some (vr G c_rules), some (vi (v1)), some (vr G c_facts), some (vi (v3)), some (vi (r2))]) dX5_numberBy_6 (by decide) (xst1 rfl rfl rfl) ?_
  refine x_iload (pc := 8) dX5_numberBy_8 rfl ?_
  refine x_iconst (pc := 10) dX5_numberBy_10 ?_
  refine x_icmp_ne (pc := 11) (t := 18) dX5_numberBy_11 (by decide) (fun e => ?_) (fun e => ?_)
  · have h := h.1 e
    refine x_iload_n (pc := 14) dX5_numberBy_14 rfl rfl ?_
    refine x_goto (pc := 15) (t := 25) dX5_numberBy_15 (by decide) ?_
    exact y_iret (pc := 25) dX5_numberBy_25 rfl ⟨Nat.le_refl _, Nat.le_refl _⟩ h
  · have h := h.2 e
    refine x_aload_n (pc := 18) dX5_numberBy_18 rfl rfl ?_
    refine x_getR (pc := 19) (i := c_rules) (a := c_rules_numbers) fl_X5_19 dX5_numberBy_19 (sN_c_rules hS) (sT_c_rules hS) rfl (sR_c_rules_2 hS) ?_
    refine x_iload (pc := 22) dX5_numberBy_22 rfl ?_
    refine y_iald (pc := 24) (i := c_rules_numbers) (n := 16) dX5_numberBy_24 (sN_c_rules_numbers hS) (sT_c_rules_numbers hS) (sL_c_rules_numbers hS) h.1 ?_
    have h := h.2
    exact y_iret (pc := 25) dX5_numberBy_25 rfl ⟨Nat.le_refl _, Nat.le_refl _⟩ h
set_option maxHeartbeats 4000000 in
set_option maxRecDepth 100000 in
theorem b_Bo_choose {G : XG} {S : XS} {I : XI} {v2 : Int} {v3 : Int} {R : XI → Prop} (hS : xSh S)  (h : (∀ I1 : XI, I1 = up I c_box 0 (0) → (∀ I2 : XI, I2 = up I1 c_box 1 (0) → (∀ I3 : XI, I3 = up I2 c_box 2 (0) → Bo_choose_k18 G S I3 (v2) (v3) (1) R)))) : Bo_choose G S I v2 v3 R := by
  refine x_start [some (vr G c_box), some (vr G c_told), some (vi (v2)), some (vi (v3)), none, none, none, none, none, none] (by decide) (Nat.le_of_ble_eq_true rfl) rfl ?_
  refine x_aload_n (pc := 0) dX0_choose_0 rfl rfl ?_
  refine x_iconst (pc := 1) dX0_choose_1 ?_
  refine x_putI (pc := 2) (i := c_box) fl_X0_9 dX0_choose_2 (sN_c_box hS) (sT_c_box hS) rfl ?_
  have h := h _ rfl
  generalize up I c_box 0 (0) = I1 at h ⊢
  refine x_aload_n (pc := 5) dX0_choose_5 rfl rfl ?_
  refine x_iconst (pc := 6) dX0_choose_6 ?_
  refine x_putI (pc := 7) (i := c_box) fl_X0_15 dX0_choose_7 (sN_c_box hS) (sT_c_box hS) rfl ?_
  have h := h _ rfl
  generalize up I1 c_box 1 (0) = I2 at h ⊢
  refine x_aload_n (pc := 10) dX0_choose_10 rfl rfl ?_
  refine x_iconst (pc := 11) dX0_choose_11 ?_
  refine x_putI (pc := 12) (i := c_box) fl_X0_18 dX0_choose_12 (sN_c_box hS) (sT_c_box hS) rfl ?_
  have h := h _ rfl
  generalize up I2 c_box 2 (0) = I3 at h ⊢
  refine x_iconst (pc := 15) dX0_choose_15 ?_
  refine x_istore (pc := 16) (L' := [some (vr G c_box), some (vr G c_told), some (vi (v2)), some (vi (v3)), some (vi (1)), none, none, none, none, none]) dX0_choose_16 (by decide) (xst1 rfl rfl rfl) ?_
  exact h
set_option maxHeartbeats 4000000 in
set_option maxRecDepth 100000 in
theorem b_Bo_choose_k18 {G : XG} {S : XS}  {I : XI} {v2 : Int} {v3 : Int} {v4 : Int} {R : XI → Prop} (hS : xSh S)  (h : ((w32 (256) ≤ w32 (v4) → R I) ∧ (¬ (w32 (256) ≤ w32 (v4)) → Bo_choose_k38 G S I (v2) (v3) (v4) (0) (0) (0) (0) R))) : Bo_choose_k18 G S  I v2 v3 v4 R := by
  unfold Bo_choose_k18
  refine x_iload (pc := 18) dX0_choose_18 rfl ?_
  refine x_sipush (pc := 20) dX0_choose_20 (by decide) ?_
  refine x_icmp_ge (pc := 23) (t := 164) dX0_choose_23 (by decide) (fun e => ?_) (fun e => ?_)
  · have h := h.1 e
    exact y_vret (pc := 164) dX0_choose_164 rfl ⟨Nat.le_refl _, Nat.le_refl _⟩ h
  · have h := h.2 e
    refine x_iconst (pc := 26) dX0_choose_26 ?_
    refine x_istore (pc := 27) (L' := [some (vr G c_box), some (vr G c_told), some (vi (v2)), some (vi (v3)), some (vi (v4)), some (vi (0)), none, none, none, none]) dX0_choose_27 (by decide) (xst1 rfl rfl rfl) ?_
    refine x_iconst (pc := 29) dX0_choose_29 ?_
    refine x_istore (pc := 30) (L' := [some (vr G c_box), some (vr G c_told), some (vi (v2)), some (vi (v3)), some (vi (v4)), some (vi (0)), some (vi (0)), none, none, none]) dX0_choose_30 (by decide) (xst1 rfl rfl rfl) ?_
    refine x_iconst (pc := 32) dX0_choose_32 ?_
    refine x_istore (pc := 33) (L' := [some (vr G c_box), some (vr G c_told), some (vi (v2)), some (vi (v3)), some (vi (v4)), some (vi (0)), some (vi (0)), some (vi (0)), none, none]) dX0_choose_33 (by decide) (xst1 rfl rfl rfl) ?_
    refine x_iconst (pc := 35) dX0_choose_35 ?_
    refine x_istore (pc := 36) (L' := [some (vr G c_box), some (vr G c_told), some (vi (v2)), some (vi (v3)), some (vi (v4)), some (vi (0)), some (vi (0)), some (vi (0)), some (vi (0)), none]) dX0_choose_36 (by decide) (xst1 rfl rfl rfl) ?_
    exact h
set_option maxHeartbeats 4000000 in
set_option maxRecDepth 100000 in
theorem b_Bo_choose_k38 {G : XG} {S : XS}  {I : XI} {v2 : Int} {v3 : Int} {v4 : Int} {v5 : Int} {v6 : Int} {v7 : Int} {v8 : Int} {R : XI → Prop} (hS : xSh S)  (h : ((w32 (8) ≤ w32 (v8) → ((w32 (v3) < w32 (v6) → Bo_choose_k18 G S I (v2) (v3) (v4 + 1) R) ∧ (¬ (w32 (v3) < w32 (v6)) → Bo_isBetter G S I (v5) (v6) (v7) (fun r5 I4 => ((w32 (r5) = 0 → Bo_choose_k18 G S I4 (v2) (v3) (v4 + 1) R) ∧ (¬ (w32 (r5) = 0) → (∀ I6 : XI, I6 = up I4 c_box 0 (v5) → (∀ I7 : XI, I7 = up I6 c_box 1 (v6) → (∀ I8 : XI, I8 = up I7 c_box 2 (v7) → Bo_choose_k18 G S I8 (v2) (v3) (v4 + 1) R))))))))) ∧ (¬ (w32 (8) ≤ w32 (v8)) → (inb (v8) 8 ∧ ((w32 (iand (ishr (v4) (v8)) (1)) = w32 (1) → ((w32 (I c_box_lightest (ix (v8))) = w32 ((-1)) → Bo_choose_k38 G S I (v2) (v3) (v4) (v5) (v6) (v7) (v8 + 1) R) ∧ (¬ (w32 (I c_box_lightest (ix (v8))) = w32 ((-1))) → (inb (((v2) * (8)) + (v8)) 48 ∧ (inb (I c_box_lightest (ix (v8))) 24 ∧ Bo_choose_k38 G S I (v2) (v3) (v4) ((v5) + (I c_herds_wishes (ix (((v2) * (8)) + (v8))))) ((v6) + (I c_shelf_grams (ix (I c_box_lightest (ix (v8)))))) (ior (v7) (ishl (1) (I c_box_lightest (ix (v8))))) (v8 + 1) R))))) ∧ (¬ (w32 (iand (ishr (v4) (v8)) (1)) = w32 (1)) → Bo_choose_k38 G S I (v2) (v3) (v4) (v5) (v6) (v7) (v8 + 1) R)))))) : Bo_choose_k38 G S  I v2 v3 v4 v5 v6 v7 v8 R := by
  unfold Bo_choose_k38
  refine x_iload (pc := 38) dX0_choose_38 rfl ?_
  refine x_bipush (pc := 40) dX0_choose_40 (by decide) ?_
  refine x_icmp_ge (pc := 42) (t := 121) dX0_choose_42 (by decide) (fun e => ?_) (fun e => ?_)
  · have h := h.1 e
    refine x_iload (pc := 121) dX0_choose_121 rfl ?_
    refine x_iload_n (pc := 123) dX0_choose_123 rfl rfl ?_
    refine x_icmp_gt (pc := 124) (t := 158) dX0_choose_124 (by decide) (fun e => ?_) (fun e => ?_)
    · have h := h.1 e
      refine x_iinc (pc := 158) (L' := [some (vr G c_box), some (vr G c_told), some (vi (v2)), some (vi (v3)), some (vi (v4 + 1)), some (vi (v5)), some (vi (v6)), some (vi (v7)), some (vi (v8)), none]) dX0_choose_158 rfl (by decide) (xst1 rfl rfl rfl) ?_
      refine x_goto (pc := 161) (t := 18) dX0_choose_161 (by decide) ?_
      refine x_less (L' := [some (vr G c_box), some (vr G c_told), some (vi (v2)), some (vi (v3)), some (vi (v4 + 1)), none, none, none, none, none]) (And.intro rfl (And.intro rfl (And.intro rfl (And.intro rfl (And.intro rfl trivial))))) ?_
      exact h
    · have h := h.2 e
      refine x_aload_n (pc := 127) dX0_choose_127 rfl rfl ?_
      refine x_iload (pc := 128) dX0_choose_128 rfl ?_
      refine x_iload (pc := 130) dX0_choose_130 rfl ?_
      refine x_iload (pc := 132) dX0_choose_132 rfl ?_
      refine y_Vi (pc := 134) (i := c_box) (As := [vi (v5), vi (v6), vi (v7)]) (rest := []) ok_X0_isBetter ml_X0_54 dX0_choose_134 (sN_c_box hS) (sT_c_box hS) (by decide) rfl rfl rfl ⟨rfl, rfl⟩ ⟨by decide, by decide⟩ ⟨Nat.le_refl _, Nat.le_refl _⟩ (Nat.le_of_ble_eq_true rfl) rfl h (fun r5 I4 h => ?_)
      refine x_if_eq (pc := 137) (t := 158) dX0_choose_137 (by decide) (fun e => ?_) (fun e => ?_)
      · have h := h.1 e
        refine x_iinc (pc := 158) (L' := [some (vr G c_box), some (vr G c_told), some (vi (v2)), some (vi (v3)), some (vi (v4 + 1)), some (vi (v5)), some (vi (v6)), some (vi (v7)), some (vi (v8)), none]) dX0_choose_158 rfl (by decide) (xst1 rfl rfl rfl) ?_
        refine x_goto (pc := 161) (t := 18) dX0_choose_161 (by decide) ?_
        refine x_less (L' := [some (vr G c_box), some (vr G c_told), some (vi (v2)), some (vi (v3)), some (vi (v4 + 1)), none, none, none, none, none]) (And.intro rfl (And.intro rfl (And.intro rfl (And.intro rfl (And.intro rfl trivial))))) ?_
        exact h
      · have h := h.2 e
        refine x_aload_n (pc := 140) dX0_choose_140 rfl rfl ?_
        refine x_iload (pc := 141) dX0_choose_141 rfl ?_
        refine x_putI (pc := 143) (i := c_box) fl_X0_9 dX0_choose_143 (sN_c_box hS) (sT_c_box hS) rfl ?_
        have h := h _ rfl
        generalize up I4 c_box 0 (v5) = I6 at h ⊢
        refine x_aload_n (pc := 146) dX0_choose_146 rfl rfl ?_
        refine x_iload (pc := 147) dX0_choose_147 rfl ?_
        refine x_putI (pc := 149) (i := c_box) fl_X0_15 dX0_choose_149 (sN_c_box hS) (sT_c_box hS) rfl ?_
        have h := h _ rfl
        generalize up I6 c_box 1 (v6) = I7 at h ⊢
        refine x_aload_n (pc := 152) dX0_choose_152 rfl rfl ?_
        refine x_iload (pc := 153) dX0_choose_153 rfl ?_
        refine x_putI (pc := 155) (i := c_box) fl_X0_18 dX0_choose_155 (sN_c_box hS) (sT_c_box hS) rfl ?_
        have h := h _ rfl
        generalize up I7 c_box 2 (v7) = I8 at h ⊢
        refine x_iinc (pc := 158) (L' := [some (vr G c_box), some (vr G c_told), some (vi (v2)), some (vi (v3)), some (vi (v4 + 1)), some (vi (v5)), some (vi (v6)), some (vi (v7)), some (vi (v8)), none]) dX0_choose_158 rfl (by decide) (xst1 rfl rfl rfl) ?_
        refine x_goto (pc := 161) (t := 18) dX0_choose_161 (by decide) ?_
        refine x_less (L' := [some (vr G c_box), some (vr G c_told), some (vi (v2)), some (vi (v3)), some (vi (v4 + 1)), none, none, none, none, none]) (And.intro rfl (And.intro rfl (And.intro rfl (And.intro rfl (And.intro rfl trivial))))) ?_
        exact h
  · have h := h.2 e
    refine x_aload_n (pc := 45) dX0_choose_45 rfl rfl ?_
    refine x_getR (pc := 46) (i := c_box) (a := c_box_lightest) fl_X0_21 dX0_choose_46 (sN_c_box hS) (sT_c_box hS) rfl (sR_c_box_3 hS) ?_
    refine x_iload (pc := 49) dX0_choose_49 rfl ?_
    refine y_iald (pc := 51) (i := c_box_lightest) (n := 8) dX0_choose_51 (sN_c_box_lightest hS) (sT_c_box_lightest hS) (sL_c_box_lightest hS) h.1 ?_
    have h := h.2
    refine x_istore (pc := 52) (L' := [some (vr G c_box), some (vr G c_told), some (vi (v2)), some (vi (v3)), some (vi (v4)), some (vi (v5)), some (vi (v6)), some (vi (v7)), some (vi (v8)), some (vi (I c_box_lightest (ix (v8))))]) dX0_choose_52 (by decide) (xst1 rfl rfl rfl) ?_
    refine x_iload (pc := 54) dX0_choose_54 rfl ?_
    refine x_iload (pc := 56) dX0_choose_56 rfl ?_
    refine x_ishr (pc := 58) dX0_choose_58 ?_
    refine x_iconst (pc := 59) dX0_choose_59 ?_
    refine x_iand (pc := 60) dX0_choose_60 ?_
    refine x_iconst (pc := 61) dX0_choose_61 ?_
    refine x_icmp_ne (pc := 62) (t := 115) dX0_choose_62 (by decide) (fun e => ?_) (fun e => ?_)
    · have h := h.1 e
      refine x_iload (pc := 65) dX0_choose_65 rfl ?_
      refine x_iconst (pc := 67) dX0_choose_67 ?_
      refine x_icmp_eq (pc := 68) (t := 115) dX0_choose_68 (by decide) (fun e => ?_) (fun e => ?_)
      · have h := h.1 e
        refine x_iinc (pc := 115) (L' := [some (vr G c_box), some (vr G c_told), some (vi (v2)), some (vi (v3)), some (vi (v4)), some (vi (v5)), some (vi (v6)), some (vi (v7)), some (vi (v8 + 1)), some (vi (I c_box_lightest (ix (v8))))]) dX0_choose_115 rfl (by decide) (xst1 rfl rfl rfl) ?_
        refine x_goto (pc := 118) (t := 38) dX0_choose_118 (by decide) ?_
        refine x_less (L' := [some (vr G c_box), some (vr G c_told), some (vi (v2)), some (vi (v3)), some (vi (v4)), some (vi (v5)), some (vi (v6)), some (vi (v7)), some (vi (v8 + 1)), none]) (And.intro rfl (And.intro rfl (And.intro rfl (And.intro rfl (And.intro rfl (And.intro rfl (And.intro rfl (And.intro rfl (And.intro rfl trivial))))))))) ?_
        exact h
      · have h := h.2 e
        refine x_iload (pc := 71) dX0_choose_71 rfl ?_
        refine x_aload_n (pc := 73) dX0_choose_73 rfl rfl ?_
        refine x_getR (pc := 74) (i := c_told) (a := c_herds) fl_X0_39 dX0_choose_74 (sN_c_told hS) (sT_c_told hS) rfl (sR_c_told_1 hS) ?_
        refine x_getR (pc := 77) (i := c_herds) (a := c_herds_wishes) fl_X0_45 dX0_choose_77 (sN_c_herds hS) (sT_c_herds hS) rfl (sR_c_herds_4 hS) ?_
        refine x_iload_n (pc := 80) dX0_choose_80 rfl rfl ?_
        refine x_bipush (pc := 81) dX0_choose_81 (by decide) ?_
        refine x_imul (pc := 83) dX0_choose_83 ?_
        refine x_iload (pc := 84) dX0_choose_84 rfl ?_
        refine x_iadd (pc := 86) dX0_choose_86 ?_
        refine y_iald (pc := 87) (i := c_herds_wishes) (n := 48) dX0_choose_87 (sN_c_herds_wishes hS) (sT_c_herds_wishes hS) (sL_c_herds_wishes hS) h.1 ?_
        have h := h.2
        refine x_iadd (pc := 88) dX0_choose_88 ?_
        refine x_istore (pc := 89) (L' := [some (vr G c_box), some (vr G c_told), some (vi (v2)), some (vi (v3)), some (vi (v4)), some (vi ((v5) + (I c_herds_wishes (ix (((v2) * (8)) + (v8)))))), some (vi (v6)), some (vi (v7)), some (vi (v8)), some (vi (I c_box_lightest (ix (v8))))]) dX0_choose_89 (by decide) (xst1 rfl rfl rfl) ?_
        refine x_iload (pc := 91) dX0_choose_91 rfl ?_
        refine x_aload_n (pc := 93) dX0_choose_93 rfl rfl ?_
        refine x_getR (pc := 94) (i := c_told) (a := c_shelf) fl_X0_50 dX0_choose_94 (sN_c_told hS) (sT_c_told hS) rfl (sR_c_told_2 hS) ?_
        refine x_getR (pc := 97) (i := c_shelf) (a := c_shelf_grams) fl_X0_36 dX0_choose_97 (sN_c_shelf hS) (sT_c_shelf hS) rfl (sR_c_shelf_5 hS) ?_
        refine x_iload (pc := 100) dX0_choose_100 rfl ?_
        refine y_iald (pc := 102) (i := c_shelf_grams) (n := 24) dX0_choose_102 (sN_c_shelf_grams hS) (sT_c_shelf_grams hS) (sL_c_shelf_grams hS) h.1 ?_
        have h := h.2
        refine x_iadd (pc := 103) dX0_choose_103 ?_
        refine x_istore (pc := 104) (L' := [some (vr G c_box), some (vr G c_told), some (vi (v2)), some (vi (v3)), some (vi (v4)), some (vi ((v5) + (I c_herds_wishes (ix (((v2) * (8)) + (v8)))))), some (vi ((v6) + (I c_shelf_grams (ix (I c_box_lightest (ix (v8))))))), some (vi (v7)), some (vi (v8)), some (vi (I c_box_lightest (ix (v8))))]) dX0_choose_104 (by decide) (xst1 rfl rfl rfl) ?_
        refine x_iload (pc := 106) dX0_choose_106 rfl ?_
        refine x_iconst (pc := 108) dX0_choose_108 ?_
        refine x_iload (pc := 109) dX0_choose_109 rfl ?_
        refine x_ishl (pc := 111) dX0_choose_111 ?_
        refine x_ior (pc := 112) dX0_choose_112 ?_
        refine x_istore (pc := 113) (L' := [some (vr G c_box), some (vr G c_told), some (vi (v2)), some (vi (v3)), some (vi (v4)), some (vi ((v5) + (I c_herds_wishes (ix (((v2) * (8)) + (v8)))))), some (vi ((v6) + (I c_shelf_grams (ix (I c_box_lightest (ix (v8))))))), some (vi (ior (v7) (ishl (1) (I c_box_lightest (ix (v8)))))), some (vi (v8)), some (vi (I c_box_lightest (ix (v8))))]) dX0_choose_113 (by decide) (xst1 rfl rfl rfl) ?_
        refine x_iinc (pc := 115) (L' := [some (vr G c_box), some (vr G c_told), some (vi (v2)), some (vi (v3)), some (vi (v4)), some (vi ((v5) + (I c_herds_wishes (ix (((v2) * (8)) + (v8)))))), some (vi ((v6) + (I c_shelf_grams (ix (I c_box_lightest (ix (v8))))))), some (vi (ior (v7) (ishl (1) (I c_box_lightest (ix (v8)))))), some (vi (v8 + 1)), some (vi (I c_box_lightest (ix (v8))))]) dX0_choose_115 rfl (by decide) (xst1 rfl rfl rfl) ?_
        refine x_goto (pc := 118) (t := 38) dX0_choose_118 (by decide) ?_
        refine x_less (L' := [some (vr G c_box), some (vr G c_told), some (vi (v2)), some (vi (v3)), some (vi (v4)), some (vi ((v5) + (I c_herds_wishes (ix (((v2) * (8)) + (v8)))))), some (vi ((v6) + (I c_shelf_grams (ix (I c_box_lightest (ix (v8))))))), some (vi (ior (v7) (ishl (1) (I c_box_lightest (ix (v8)))))), some (vi (v8 + 1)), none]) (And.intro rfl (And.intro rfl (And.intro rfl (And.intro rfl (And.intro rfl (And.intro rfl (And.intro rfl (And.intro rfl (And.intro rfl trivial))))))))) ?_
        exact h
    · have h := h.2 e
      refine x_iinc (pc := 115) (L' := [some (vr G c_box), some (vr G c_told), some (vi (v2)), some (vi (v3)), some (vi (v4)), some (vi (v5)), some (vi (v6)), some (vi (v7)), some (vi (v8 + 1)), some (vi (I c_box_lightest (ix (v8))))]) dX0_choose_115 rfl (by decide) (xst1 rfl rfl rfl) ?_
      refine x_goto (pc := 118) (t := 38) dX0_choose_118 (by decide) ?_
      refine x_less (L' := [some (vr G c_box), some (vr G c_told), some (vi (v2)), some (vi (v3)), some (vi (v4)), some (vi (v5)), some (vi (v6)), some (vi (v7)), some (vi (v8 + 1)), none]) (And.intro rfl (And.intro rfl (And.intro rfl (And.intro rfl (And.intro rfl (And.intro rfl (And.intro rfl (And.intro rfl (And.intro rfl trivial))))))))) ?_
      exact h
set_option maxHeartbeats 4000000 in
set_option maxRecDepth 100000 in
theorem b_He_addNews {G : XG} {S : XS} {I : XI} {v1 : Int} {v2 : Int} {v3 : Int} {v4 : Int} {v5 : Int} {R : Int → XI → Prop} (hS : xSh S)  (h : ((w32 (I c_herds 5) < w32 (60) → (inb (I c_herds 5) 60 ∧ (∀ I1 : XI, I1 = up I c_herds_newsCamps (ix (I c_herds 5)) (v1) → (inb (I1 c_herds 5) 60 ∧ (∀ I2 : XI, I2 = up I1 c_herds_newsCells (ix (I1 c_herds 5)) (v2) → (inb (I2 c_herds 5) 60 ∧ (∀ I3 : XI, I3 = up I2 c_herds_newsWeeks (ix (I2 c_herds 5)) (v3) → ((w32 (v4) = 0 → He_addNews_k59 G S I3 (v5) (0) (I3 c_herds 5) R) ∧ (¬ (w32 (v4) = 0) → He_addNews_k59 G S I3 (v5) (1) (I3 c_herds 5) R))))))))) ∧ (¬ (w32 (I c_herds 5) < w32 (60)) → R ((-1)) I))) : He_addNews G S I v1 v2 v3 v4 v5 R := by
  refine x_start [some (vr G c_herds), some (vi (v1)), some (vi (v2)), some (vi (v3)), some (vi (v4)), some (vi (v5))] (by decide) (Nat.le_of_ble_eq_true rfl) rfl ?_
  refine x_aload_n (pc := 0) dX1_addNews_0 rfl rfl ?_
  refine x_getI (pc := 1) (i := c_herds) fl_X1_28 dX1_addNews_1 (sN_c_herds hS) (sT_c_herds hS) rfl ?_
  refine x_bipush (pc := 4) dX1_addNews_4 (by decide) ?_
  refine x_icmp_lt (pc := 6) (t := 11) dX1_addNews_6 (by decide) (fun e => ?_) (fun e => ?_)
  · have h := h.1 e
    refine x_aload_n (pc := 11) dX1_addNews_11 rfl rfl ?_
    refine x_getR (pc := 12) (i := c_herds) (a := c_herds_newsCamps) fl_X1_31 dX1_addNews_12 (sN_c_herds hS) (sT_c_herds hS) rfl (sR_c_herds_6 hS) ?_
    refine x_aload_n (pc := 15) dX1_addNews_15 rfl rfl ?_
    refine x_getI (pc := 16) (i := c_herds) fl_X1_28 dX1_addNews_16 (sN_c_herds hS) (sT_c_herds hS) rfl ?_
    refine x_iload_n (pc := 19) dX1_addNews_19 rfl rfl ?_
    refine y_iast (pc := 20) (i := c_herds_newsCamps) (n := 60) dX1_addNews_20 (sN_c_herds_newsCamps hS) (sT_c_herds_newsCamps hS) (sL_c_herds_newsCamps hS) h.1 ?_
    have h := h.2
    have h := h _ rfl
    generalize up I c_herds_newsCamps (ix (I c_herds 5)) (v1) = I1 at h ⊢
    refine x_aload_n (pc := 21) dX1_addNews_21 rfl rfl ?_
    refine x_getR (pc := 22) (i := c_herds) (a := c_herds_newsCells) fl_X1_34 dX1_addNews_22 (sN_c_herds hS) (sT_c_herds hS) rfl (sR_c_herds_7 hS) ?_
    refine x_aload_n (pc := 25) dX1_addNews_25 rfl rfl ?_
    refine x_getI (pc := 26) (i := c_herds) fl_X1_28 dX1_addNews_26 (sN_c_herds hS) (sT_c_herds hS) rfl ?_
    refine x_iload_n (pc := 29) dX1_addNews_29 rfl rfl ?_
    refine y_iast (pc := 30) (i := c_herds_newsCells) (n := 60) dX1_addNews_30 (sN_c_herds_newsCells hS) (sT_c_herds_newsCells hS) (sL_c_herds_newsCells hS) h.1 ?_
    have h := h.2
    have h := h _ rfl
    generalize up I1 c_herds_newsCells (ix (I1 c_herds 5)) (v2) = I2 at h ⊢
    refine x_aload_n (pc := 31) dX1_addNews_31 rfl rfl ?_
    refine x_getR (pc := 32) (i := c_herds) (a := c_herds_newsWeeks) fl_X1_37 dX1_addNews_32 (sN_c_herds hS) (sT_c_herds hS) rfl (sR_c_herds_8 hS) ?_
    refine x_aload_n (pc := 35) dX1_addNews_35 rfl rfl ?_
    refine x_getI (pc := 36) (i := c_herds) fl_X1_28 dX1_addNews_36 (sN_c_herds hS) (sT_c_herds hS) rfl ?_
    refine x_iload_n (pc := 39) dX1_addNews_39 rfl rfl ?_
    refine y_iast (pc := 40) (i := c_herds_newsWeeks) (n := 60) dX1_addNews_40 (sN_c_herds_newsWeeks hS) (sT_c_herds_newsWeeks hS) (sL_c_herds_newsWeeks hS) h.1 ?_
    have h := h.2
    have h := h _ rfl
    generalize up I2 c_herds_newsWeeks (ix (I2 c_herds 5)) (v3) = I3 at h ⊢
    refine x_aload_n (pc := 41) dX1_addNews_41 rfl rfl ?_
    refine x_getR (pc := 42) (i := c_herds) (a := c_herds_newsSeen) fl_X1_40 dX1_addNews_42 (sN_c_herds hS) (sT_c_herds hS) rfl (sR_c_herds_9 hS) ?_
    refine x_aload_n (pc := 45) dX1_addNews_45 rfl rfl ?_
    refine x_getI (pc := 46) (i := c_herds) fl_X1_28 dX1_addNews_46 (sN_c_herds hS) (sT_c_herds hS) rfl ?_
    refine x_iload (pc := 49) dX1_addNews_49 rfl ?_
    refine x_if_eq (pc := 51) (t := 58) dX1_addNews_51 (by decide) (fun e => ?_) (fun e => ?_)
    · have h := h.1 e
      refine x_iconst (pc := 58) dX1_addNews_58 ?_
      refine x_less (L' := [some (vr G c_herds), none, none, none, none, some (vi (v5))]) (And.intro rfl (And.intro rfl trivial)) ?_
      exact h
    · have h := h.2 e
      refine x_iconst (pc := 54) dX1_addNews_54 ?_
      refine x_goto (pc := 55) (t := 59) dX1_addNews_55 (by decide) ?_
      refine x_less (L' := [some (vr G c_herds), none, none, none, none, some (vi (v5))]) (And.intro rfl (And.intro rfl trivial)) ?_
      exact h
  · have h := h.2 e
    refine x_iconst (pc := 9) dX1_addNews_9 ?_
    exact y_iret (pc := 10) dX1_addNews_10 rfl ⟨Nat.le_refl _, Nat.le_refl _⟩ h
set_option maxHeartbeats 4000000 in
set_option maxRecDepth 100000 in
theorem b_He_addNews_k59 {G : XG} {S : XS}  {I : XI} {v5 : Int} {s0 : Int} {s1 : Int} {R : Int → XI → Prop} (hS : xSh S)  (h : (inb (s1) 60 ∧ (∀ I4 : XI, I4 = up I c_herds_newsSeen (ix (s1)) (s0) → (inb (I4 c_herds 5) 60 ∧ (∀ I5 : XI, I5 = up I4 c_herds_newsTold (ix (I4 c_herds 5)) (v5) → (∀ I6 : XI, I6 = up I5 c_herds 5 ((I5 c_herds 5) + (1)) → R ((I6 c_herds 5) - (1)) I6)))))) : He_addNews_k59 G S  I v5 s0 s1 R := by
  unfold He_addNews_k59
  refine y_iast (pc := 59) (i := c_herds_newsSeen) (n := 60) dX1_addNews_59 (sN_c_herds_newsSeen hS) (sT_c_herds_newsSeen hS) (sL_c_herds_newsSeen hS) h.1 ?_
  have h := h.2
  have h := h _ rfl
  generalize up I c_herds_newsSeen (ix (s1)) (s0) = I4 at h ⊢
  refine x_aload_n (pc := 60) dX1_addNews_60 rfl rfl ?_
  refine x_getR (pc := 61) (i := c_herds) (a := c_herds_newsTold) fl_X1_43 dX1_addNews_61 (sN_c_herds hS) (sT_c_herds hS) rfl (sR_c_herds_10 hS) ?_
  refine x_aload_n (pc := 64) dX1_addNews_64 rfl rfl ?_
  refine x_getI (pc := 65) (i := c_herds) fl_X1_28 dX1_addNews_65 (sN_c_herds hS) (sT_c_herds hS) rfl ?_
  refine x_iload (pc := 68) dX1_addNews_68 rfl ?_
  refine y_iast (pc := 70) (i := c_herds_newsTold) (n := 60) dX1_addNews_70 (sN_c_herds_newsTold hS) (sT_c_herds_newsTold hS) (sL_c_herds_newsTold hS) h.1 ?_
  have h := h.2
  have h := h _ rfl
  generalize up I4 c_herds_newsTold (ix (I4 c_herds 5)) (v5) = I5 at h ⊢
  refine x_aload_n (pc := 71) dX1_addNews_71 rfl rfl ?_
  refine x_dup (pc := 72) dX1_addNews_72 rfl ?_
  refine x_getI (pc := 73) (i := c_herds) fl_X1_28 dX1_addNews_73 (sN_c_herds hS) (sT_c_herds hS) rfl ?_
  refine x_iconst (pc := 76) dX1_addNews_76 ?_
  refine x_iadd (pc := 77) dX1_addNews_77 ?_
  refine x_putI (pc := 78) (i := c_herds) fl_X1_28 dX1_addNews_78 (sN_c_herds hS) (sT_c_herds hS) rfl ?_
  have h := h _ rfl
  generalize up I5 c_herds 5 ((I5 c_herds 5) + (1)) = I6 at h ⊢
  refine x_aload_n (pc := 81) dX1_addNews_81 rfl rfl ?_
  refine x_getI (pc := 82) (i := c_herds) fl_X1_28 dX1_addNews_82 (sN_c_herds hS) (sT_c_herds hS) rfl ?_
  refine x_iconst (pc := 85) dX1_addNews_85 ?_
  refine x_isub (pc := 86) dX1_addNews_86 ?_
  exact y_iret (pc := 87) dX1_addNews_87 rfl ⟨Nat.le_refl _, Nat.le_refl _⟩ h
set_option maxHeartbeats 4000000 in
set_option maxRecDepth 100000 in
theorem b_Re_hasRead {G : XG} {S : XS} {I : XI} {v1 : Int} {v2 : Int} {R : Int → XI → Prop} (hS : xSh S)  (h : (inb (v1) 12 ∧ ((w32 (iand (ishr (I c_readers_books (ix (v1))) (v2)) (1)) = w32 (1) → R (1) I) ∧ (¬ (w32 (iand (ishr (I c_readers_books (ix (v1))) (v2)) (1)) = w32 (1)) → R (0) I)))) : Re_hasRead G S I v1 v2 R := by
  refine x_start [some (vr G c_readers), some (vi (v1)), some (vi (v2))] (by decide) (Nat.le_of_ble_eq_true rfl) rfl ?_
  refine x_aload_n (pc := 0) dX4_hasRead_0 rfl rfl ?_
  refine x_getR (pc := 1) (i := c_readers) (a := c_readers_books) fl_X4_19 dX4_hasRead_1 (sN_c_readers hS) (sT_c_readers hS) rfl (sR_c_readers_2 hS) ?_
  refine x_iload_n (pc := 4) dX4_hasRead_4 rfl rfl ?_
  refine y_iald (pc := 5) (i := c_readers_books) (n := 12) dX4_hasRead_5 (sN_c_readers_books hS) (sT_c_readers_books hS) (sL_c_readers_books hS) h.1 ?_
  have h := h.2
  refine x_iload_n (pc := 6) dX4_hasRead_6 rfl rfl ?_
  refine x_ishr (pc := 7) dX4_hasRead_7 ?_
  refine x_iconst (pc := 8) dX4_hasRead_8 ?_
  refine x_iand (pc := 9) dX4_hasRead_9 ?_
  refine x_iconst (pc := 10) dX4_hasRead_10 ?_
  refine x_icmp_ne (pc := 11) (t := 18) dX4_hasRead_11 (by decide) (fun e => ?_) (fun e => ?_)
  · have h := h.1 e
    refine x_iconst (pc := 14) dX4_hasRead_14 ?_
    refine x_goto (pc := 15) (t := 19) dX4_hasRead_15 (by decide) ?_
    exact y_zret (pc := 19) dX4_hasRead_19 rfl ⟨Nat.le_refl _, Nat.le_refl _⟩ (Or.inr rfl) h
  · have h := h.2 e
    refine x_iconst (pc := 18) dX4_hasRead_18 ?_
    exact y_zret (pc := 19) dX4_hasRead_19 rfl ⟨Nat.le_refl _, Nat.le_refl _⟩ (Or.inl rfl) h
set_option maxHeartbeats 4000000 in
set_option maxRecDepth 100000 in
theorem b_Bo_clear {G : XG} {S : XS} {I : XI}  {R : XI → Prop} (hS : xSh S)  (h : Ja_fill G S I (c_box_lightest) ((-1)) (fun I1 => R I1)) : Bo_clear G S I  R := by
  refine x_start [some (vr G c_box)] (by decide) (Nat.le_of_ble_eq_true rfl) rfl ?_
  refine x_aload_n (pc := 0) dX0_clear_0 rfl rfl ?_
  refine x_getR (pc := 1) (i := c_box) (a := c_box_lightest) fl_X0_21 dX0_clear_1 (sN_c_box hS) (sT_c_box hS) rfl (sR_c_box_3 hS) ?_
  refine x_iconst (pc := 4) dX0_clear_4 ?_
  refine y_Sv (pc := 5) (As := [vr G c_box_lightest, vi ((-1))]) (rest := []) ok_J7_fill_53178 ml_X0_25 dX0_clear_5 rfl ⟨rfl, rfl⟩ ⟨by decide, by decide⟩ ⟨Nat.le_refl _, Nat.le_refl _⟩ (Nat.le_of_ble_eq_true rfl) rfl h (fun I1 h => ?_)
  exact y_vret (pc := 8) dX0_clear_8 rfl ⟨Nat.le_refl _, Nat.le_refl _⟩ h
set_option maxHeartbeats 4000000 in
set_option maxRecDepth 100000 in
theorem b_Sh_everHad {G : XG} {S : XS} {I : XI} {v1 : Int} {v2 : Int} {v3 : Int} {R : Int → XI → Prop} (hS : xSh S)  (h : Sh_everHad_k3 G S I (v1) (v2) (v3) (0) R) : Sh_everHad G S I v1 v2 v3 R := by
  refine x_start [some (vr G c_shelf), some (vi (v1)), some (vi (v2)), some (vi (v3)), none] (by decide) (Nat.le_of_ble_eq_true rfl) rfl ?_
  refine x_iconst (pc := 0) dX6_everHad_0 ?_
  refine x_istore (pc := 1) (L' := [some (vr G c_shelf), some (vi (v1)), some (vi (v2)), some (vi (v3)), some (vi (0))]) dX6_everHad_1 (by decide) (xst1 rfl rfl rfl) ?_
  exact h
set_option maxHeartbeats 4000000 in
set_option maxRecDepth 100000 in
theorem b_Sh_everHad_k3 {G : XG} {S : XS}  {I : XI} {v1 : Int} {v2 : Int} {v3 : Int} {v4 : Int} {R : Int → XI → Prop} (hS : xSh S)  (h : ((w32 (I c_shelf 6) ≤ w32 (v4) → R (0) I) ∧ (¬ (w32 (I c_shelf 6) ≤ w32 (v4)) → (inb (v4) 150 ∧ ((w32 (I c_shelf_actBooks (ix (v4))) = w32 (v1) → (inb (v4) 150 ∧ ((w32 (1) < w32 (I c_shelf_actKinds (ix (v4))) → Sh_everHad_k3 G S I (v1) (v2) (v3) (v4 + 1) R) ∧ (¬ (w32 (1) < w32 (I c_shelf_actKinds (ix (v4)))) → (inb (v4) 150 ∧ ((w32 (I c_shelf_actCamps (ix (v4))) = w32 (v2) → (inb (v4) 150 ∧ ((w32 (v3) < w32 (I c_shelf_actTold (ix (v4))) → Sh_everHad_k3 G S I (v1) (v2) (v3) (v4 + 1) R) ∧ (¬ (w32 (v3) < w32 (I c_shelf_actTold (ix (v4)))) → R (1) I)))) ∧ (¬ (w32 (I c_shelf_actCamps (ix (v4))) = w32 (v2)) → Sh_everHad_k3 G S I (v1) (v2) (v3) (v4 + 1) R))))))) ∧ (¬ (w32 (I c_shelf_actBooks (ix (v4))) = w32 (v1)) → Sh_everHad_k3 G S I (v1) (v2) (v3) (v4 + 1) R)))))) : Sh_everHad_k3 G S  I v1 v2 v3 v4 R := by
  unfold Sh_everHad_k3
  refine x_iload (pc := 3) dX6_everHad_3 rfl ?_
  refine x_aload_n (pc := 5) dX6_everHad_5 rfl rfl ?_
  refine x_getI (pc := 6) (i := c_shelf) fl_X6_31 dX6_everHad_6 (sN_c_shelf hS) (sT_c_shelf hS) rfl ?_
  refine x_icmp_ge (pc := 9) (t := 64) dX6_everHad_9 (by decide) (fun e => ?_) (fun e => ?_)
  · have h := h.1 e
    refine x_iconst (pc := 64) dX6_everHad_64 ?_
    exact y_zret (pc := 65) dX6_everHad_65 rfl ⟨Nat.le_refl _, Nat.le_refl _⟩ (Or.inl rfl) h
  · have h := h.2 e
    refine x_aload_n (pc := 12) dX6_everHad_12 rfl rfl ?_
    refine x_getR (pc := 13) (i := c_shelf) (a := c_shelf_actBooks) fl_X6_34 dX6_everHad_13 (sN_c_shelf hS) (sT_c_shelf hS) rfl (sR_c_shelf_7 hS) ?_
    refine x_iload (pc := 16) dX6_everHad_16 rfl ?_
    refine y_iald (pc := 18) (i := c_shelf_actBooks) (n := 150) dX6_everHad_18 (sN_c_shelf_actBooks hS) (sT_c_shelf_actBooks hS) (sL_c_shelf_actBooks hS) h.1 ?_
    have h := h.2
    refine x_iload_n (pc := 19) dX6_everHad_19 rfl rfl ?_
    refine x_icmp_ne (pc := 20) (t := 58) dX6_everHad_20 (by decide) (fun e => ?_) (fun e => ?_)
    · have h := h.1 e
      refine x_aload_n (pc := 23) dX6_everHad_23 rfl rfl ?_
      refine x_getR (pc := 24) (i := c_shelf) (a := c_shelf_actKinds) fl_X6_37 dX6_everHad_24 (sN_c_shelf hS) (sT_c_shelf hS) rfl (sR_c_shelf_8 hS) ?_
      refine x_iload (pc := 27) dX6_everHad_27 rfl ?_
      refine y_iald (pc := 29) (i := c_shelf_actKinds) (n := 150) dX6_everHad_29 (sN_c_shelf_actKinds hS) (sT_c_shelf_actKinds hS) (sL_c_shelf_actKinds hS) h.1 ?_
      have h := h.2
      refine x_iconst (pc := 30) dX6_everHad_30 ?_
      refine x_icmp_gt (pc := 31) (t := 58) dX6_everHad_31 (by decide) (fun e => ?_) (fun e => ?_)
      · have h := h.1 e
        refine x_iinc (pc := 58) (L' := [some (vr G c_shelf), some (vi (v1)), some (vi (v2)), some (vi (v3)), some (vi (v4 + 1))]) dX6_everHad_58 rfl (by decide) (xst1 rfl rfl rfl) ?_
        refine x_goto (pc := 61) (t := 3) dX6_everHad_61 (by decide) ?_
        exact h
      · have h := h.2 e
        refine x_aload_n (pc := 34) dX6_everHad_34 rfl rfl ?_
        refine x_getR (pc := 35) (i := c_shelf) (a := c_shelf_actCamps) fl_X6_40 dX6_everHad_35 (sN_c_shelf hS) (sT_c_shelf hS) rfl (sR_c_shelf_9 hS) ?_
        refine x_iload (pc := 38) dX6_everHad_38 rfl ?_
        refine y_iald (pc := 40) (i := c_shelf_actCamps) (n := 150) dX6_everHad_40 (sN_c_shelf_actCamps hS) (sT_c_shelf_actCamps hS) (sL_c_shelf_actCamps hS) h.1 ?_
        have h := h.2
        refine x_iload_n (pc := 41) dX6_everHad_41 rfl rfl ?_
        refine x_icmp_ne (pc := 42) (t := 58) dX6_everHad_42 (by decide) (fun e => ?_) (fun e => ?_)
        · have h := h.1 e
          refine x_aload_n (pc := 45) dX6_everHad_45 rfl rfl ?_
          refine x_getR (pc := 46) (i := c_shelf) (a := c_shelf_actTold) fl_X6_46 dX6_everHad_46 (sN_c_shelf hS) (sT_c_shelf hS) rfl (sR_c_shelf_11 hS) ?_
          refine x_iload (pc := 49) dX6_everHad_49 rfl ?_
          refine y_iald (pc := 51) (i := c_shelf_actTold) (n := 150) dX6_everHad_51 (sN_c_shelf_actTold hS) (sT_c_shelf_actTold hS) (sL_c_shelf_actTold hS) h.1 ?_
          have h := h.2
          refine x_iload_n (pc := 52) dX6_everHad_52 rfl rfl ?_
          refine x_icmp_gt (pc := 53) (t := 58) dX6_everHad_53 (by decide) (fun e => ?_) (fun e => ?_)
          · have h := h.1 e
            refine x_iinc (pc := 58) (L' := [some (vr G c_shelf), some (vi (v1)), some (vi (v2)), some (vi (v3)), some (vi (v4 + 1))]) dX6_everHad_58 rfl (by decide) (xst1 rfl rfl rfl) ?_
            refine x_goto (pc := 61) (t := 3) dX6_everHad_61 (by decide) ?_
            exact h
          · have h := h.2 e
            refine x_iconst (pc := 56) dX6_everHad_56 ?_
            exact y_zret (pc := 57) dX6_everHad_57 rfl ⟨Nat.le_refl _, Nat.le_refl _⟩ (Or.inr rfl) h
        · have h := h.2 e
          refine x_iinc (pc := 58) (L' := [some (vr G c_shelf), some (vi (v1)), some (vi (v2)), some (vi (v3)), some (vi (v4 + 1))]) dX6_everHad_58 rfl (by decide) (xst1 rfl rfl rfl) ?_
          refine x_goto (pc := 61) (t := 3) dX6_everHad_61 (by decide) ?_
          exact h
    · have h := h.2 e
      refine x_iinc (pc := 58) (L' := [some (vr G c_shelf), some (vi (v1)), some (vi (v2)), some (vi (v3)), some (vi (v4 + 1))]) dX6_everHad_58 rfl (by decide) (xst1 rfl rfl rfl) ?_
      refine x_goto (pc := 61) (t := 3) dX6_everHad_61 (by decide) ?_
      exact h
set_option maxHeartbeats 4000000 in
set_option maxRecDepth 100000 in
theorem b_Bo_offer {G : XG} {S : XS} {I : XI} {v2 : Int} {R : XI → Prop} (hS : xSh S)  (h : (inb (v2) 24 ∧ (inb (I c_shelf_kinds (ix (v2))) 8 ∧ ((w32 (I c_box_lightest (ix (I c_shelf_kinds (ix (v2))))) = w32 ((-1)) → (inb (I c_shelf_kinds (ix (v2))) 8 ∧ (∀ I1 : XI, I1 = up I c_box_lightest (ix (I c_shelf_kinds (ix (v2)))) (v2) → R I1))) ∧ (¬ (w32 (I c_box_lightest (ix (I c_shelf_kinds (ix (v2))))) = w32 ((-1))) → (inb (v2) 24 ∧ (inb (I c_shelf_kinds (ix (v2))) 8 ∧ (inb (I c_box_lightest (ix (I c_shelf_kinds (ix (v2))))) 24 ∧ ((w32 (I c_shelf_grams (ix (I c_box_lightest (ix (I c_shelf_kinds (ix (v2))))))) ≤ w32 (I c_shelf_grams (ix (v2))) → R I) ∧ (¬ (w32 (I c_shelf_grams (ix (I c_box_lightest (ix (I c_shelf_kinds (ix (v2))))))) ≤ w32 (I c_shelf_grams (ix (v2)))) → (inb (I c_shelf_kinds (ix (v2))) 8 ∧ (∀ I2 : XI, I2 = up I c_box_lightest (ix (I c_shelf_kinds (ix (v2)))) (v2) → R I2)))))))))))) : Bo_offer G S I v2 R := by
  refine x_start [some (vr G c_box), some (vr G c_shelf), some (vi (v2)), none] (by decide) (Nat.le_of_ble_eq_true rfl) rfl ?_
  refine x_aload_n (pc := 0) dX0_offer_0 rfl rfl ?_
  refine x_getR (pc := 1) (i := c_shelf) (a := c_shelf_kinds) fl_X0_31 dX0_offer_1 (sN_c_shelf hS) (sT_c_shelf hS) rfl (sR_c_shelf_1 hS) ?_
  refine x_iload_n (pc := 4) dX0_offer_4 rfl rfl ?_
  refine y_iald (pc := 5) (i := c_shelf_kinds) (n := 24) dX0_offer_5 (sN_c_shelf_kinds hS) (sT_c_shelf_kinds hS) (sL_c_shelf_kinds hS) h.1 ?_
  have h := h.2
  refine x_istore_n (pc := 6) (L' := [some (vr G c_box), some (vr G c_shelf), some (vi (v2)), some (vi (I c_shelf_kinds (ix (v2))))]) dX0_offer_6 rfl (by decide) (xst1 rfl rfl rfl) ?_
  refine x_aload_n (pc := 7) dX0_offer_7 rfl rfl ?_
  refine x_getR (pc := 8) (i := c_box) (a := c_box_lightest) fl_X0_21 dX0_offer_8 (sN_c_box hS) (sT_c_box hS) rfl (sR_c_box_3 hS) ?_
  refine x_iload_n (pc := 11) dX0_offer_11 rfl rfl ?_
  refine y_iald (pc := 12) (i := c_box_lightest) (n := 8) dX0_offer_12 (sN_c_box_lightest hS) (sT_c_box_lightest hS) (sL_c_box_lightest hS) h.1 ?_
  have h := h.2
  refine x_iconst (pc := 13) dX0_offer_13 ?_
  refine x_icmp_eq (pc := 14) (t := 37) dX0_offer_14 (by decide) (fun e => ?_) (fun e => ?_)
  · have h := h.1 e
    refine x_aload_n (pc := 37) dX0_offer_37 rfl rfl ?_
    refine x_getR (pc := 38) (i := c_box) (a := c_box_lightest) fl_X0_21 dX0_offer_38 (sN_c_box hS) (sT_c_box hS) rfl (sR_c_box_3 hS) ?_
    refine x_iload_n (pc := 41) dX0_offer_41 rfl rfl ?_
    refine x_iload_n (pc := 42) dX0_offer_42 rfl rfl ?_
    refine y_iast (pc := 43) (i := c_box_lightest) (n := 8) dX0_offer_43 (sN_c_box_lightest hS) (sT_c_box_lightest hS) (sL_c_box_lightest hS) h.1 ?_
    have h := h.2
    have h := h _ rfl
    generalize up I c_box_lightest (ix (I c_shelf_kinds (ix (v2)))) (v2) = I1 at h ⊢
    exact y_vret (pc := 44) dX0_offer_44 rfl ⟨Nat.le_refl _, Nat.le_refl _⟩ h
  · have h := h.2 e
    refine x_aload_n (pc := 17) dX0_offer_17 rfl rfl ?_
    refine x_getR (pc := 18) (i := c_shelf) (a := c_shelf_grams) fl_X0_36 dX0_offer_18 (sN_c_shelf hS) (sT_c_shelf hS) rfl (sR_c_shelf_5 hS) ?_
    refine x_iload_n (pc := 21) dX0_offer_21 rfl rfl ?_
    refine y_iald (pc := 22) (i := c_shelf_grams) (n := 24) dX0_offer_22 (sN_c_shelf_grams hS) (sT_c_shelf_grams hS) (sL_c_shelf_grams hS) h.1 ?_
    have h := h.2
    refine x_aload_n (pc := 23) dX0_offer_23 rfl rfl ?_
    refine x_getR (pc := 24) (i := c_shelf) (a := c_shelf_grams) fl_X0_36 dX0_offer_24 (sN_c_shelf hS) (sT_c_shelf hS) rfl (sR_c_shelf_5 hS) ?_
    refine x_aload_n (pc := 27) dX0_offer_27 rfl rfl ?_
    refine x_getR (pc := 28) (i := c_box) (a := c_box_lightest) fl_X0_21 dX0_offer_28 (sN_c_box hS) (sT_c_box hS) rfl (sR_c_box_3 hS) ?_
    refine x_iload_n (pc := 31) dX0_offer_31 rfl rfl ?_
    refine y_iald (pc := 32) (i := c_box_lightest) (n := 8) dX0_offer_32 (sN_c_box_lightest hS) (sT_c_box_lightest hS) (sL_c_box_lightest hS) h.1 ?_
    have h := h.2
    refine y_iald (pc := 33) (i := c_shelf_grams) (n := 24) dX0_offer_33 (sN_c_shelf_grams hS) (sT_c_shelf_grams hS) (sL_c_shelf_grams hS) h.1 ?_
    have h := h.2
    refine x_icmp_ge (pc := 34) (t := 44) dX0_offer_34 (by decide) (fun e => ?_) (fun e => ?_)
    · have h := h.1 e
      exact y_vret (pc := 44) dX0_offer_44 rfl ⟨Nat.le_refl _, Nat.le_refl _⟩ h
    · have h := h.2 e
      refine x_aload_n (pc := 37) dX0_offer_37 rfl rfl ?_
      refine x_getR (pc := 38) (i := c_box) (a := c_box_lightest) fl_X0_21 dX0_offer_38 (sN_c_box hS) (sT_c_box hS) rfl (sR_c_box_3 hS) ?_
      refine x_iload_n (pc := 41) dX0_offer_41 rfl rfl ?_
      refine x_iload_n (pc := 42) dX0_offer_42 rfl rfl ?_
      refine y_iast (pc := 43) (i := c_box_lightest) (n := 8) dX0_offer_43 (sN_c_box_lightest hS) (sT_c_box_lightest hS) (sL_c_box_lightest hS) h.1 ?_
      have h := h.2
      have h := h _ rfl
      generalize up I c_box_lightest (ix (I c_shelf_kinds (ix (v2)))) (v2) = I2 at h ⊢
      exact y_vret (pc := 44) dX0_offer_44 rfl ⟨Nat.le_refl _, Nat.le_refl _⟩ h
set_option maxHeartbeats 4000000 in
set_option maxRecDepth 100000 in
theorem b_Sh_owedBy {G : XG} {S : XS} {I : XI} {v1 : Int} {v2 : Int} {v3 : Int} {R : Int → XI → Prop} (hS : xSh S)  (h : Sh_owedBy_k6 G S I (v1) (v2) (v3) (0) (0) R) : Sh_owedBy G S I v1 v2 v3 R := by
  refine x_start [some (vr G c_shelf), some (vi (v1)), some (vi (v2)), some (vi (v3)), none, none] (by decide) (Nat.le_of_ble_eq_true rfl) rfl ?_
  refine x_iconst (pc := 0) dX6_owedBy_0 ?_
  refine x_istore (pc := 1) (L' := [some (vr G c_shelf), some (vi (v1)), some (vi (v2)), some (vi (v3)), some (vi (0)), none]) dX6_owedBy_1 (by decide) (xst1 rfl rfl rfl) ?_
  refine x_iconst (pc := 3) dX6_owedBy_3 ?_
  refine x_istore (pc := 4) (L' := [some (vr G c_shelf), some (vi (v1)), some (vi (v2)), some (vi (v3)), some (vi (0)), some (vi (0))]) dX6_owedBy_4 (by decide) (xst1 rfl rfl rfl) ?_
  exact h
set_option maxHeartbeats 4000000 in
set_option maxRecDepth 100000 in
theorem b_Sh_owedBy_k6 {G : XG} {S : XS}  {I : XI} {v1 : Int} {v2 : Int} {v3 : Int} {v4 : Int} {v5 : Int} {R : Int → XI → Prop} (hS : xSh S)  (h : ((w32 (I c_shelf 6) ≤ w32 (v5) → R (v4) I) ∧ (¬ (w32 (I c_shelf 6) ≤ w32 (v5)) → (inb (v5) 150 ∧ ((w32 (I c_shelf_actCamps (ix (v5))) = w32 (v1) → Sh_isTorn G S I (v5) (v2) (v3) (fun r2 I1 => ((w32 (r2) = 0 → Sh_owedBy_k6 G S I1 (v1) (v2) (v3) (v4) (v5 + 1) R) ∧ (¬ (w32 (r2) = 0) → (inb (v5) 150 ∧ (inb (v5) 150 ∧ Sh_owedBy_k6 G S I1 (v1) (v2) (v3) ((v4) + ((I1 c_shelf_actAmounts (ix (v5))) * (I1 c_shelf_actCosts (ix (v5))))) (v5 + 1) R)))))) ∧ (¬ (w32 (I c_shelf_actCamps (ix (v5))) = w32 (v1)) → Sh_owedBy_k6 G S I (v1) (v2) (v3) (v4) (v5 + 1) R)))))) : Sh_owedBy_k6 G S  I v1 v2 v3 v4 v5 R := by
  unfold Sh_owedBy_k6
  refine x_iload (pc := 6) dX6_owedBy_6 rfl ?_
  refine x_aload_n (pc := 8) dX6_owedBy_8 rfl rfl ?_
  refine x_getI (pc := 9) (i := c_shelf) fl_X6_31 dX6_owedBy_9 (sN_c_shelf hS) (sT_c_shelf hS) rfl ?_
  refine x_icmp_ge (pc := 12) (t := 63) dX6_owedBy_12 (by decide) (fun e => ?_) (fun e => ?_)
  · have h := h.1 e
    refine x_iload (pc := 63) dX6_owedBy_63 rfl ?_
    exact y_iret (pc := 65) dX6_owedBy_65 rfl ⟨Nat.le_refl _, Nat.le_refl _⟩ h
  · have h := h.2 e
    refine x_aload_n (pc := 15) dX6_owedBy_15 rfl rfl ?_
    refine x_getR (pc := 16) (i := c_shelf) (a := c_shelf_actCamps) fl_X6_40 dX6_owedBy_16 (sN_c_shelf hS) (sT_c_shelf hS) rfl (sR_c_shelf_9 hS) ?_
    refine x_iload (pc := 19) dX6_owedBy_19 rfl ?_
    refine y_iald (pc := 21) (i := c_shelf_actCamps) (n := 150) dX6_owedBy_21 (sN_c_shelf_actCamps hS) (sT_c_shelf_actCamps hS) (sL_c_shelf_actCamps hS) h.1 ?_
    have h := h.2
    refine x_iload_n (pc := 22) dX6_owedBy_22 rfl rfl ?_
    refine x_icmp_ne (pc := 23) (t := 57) dX6_owedBy_23 (by decide) (fun e => ?_) (fun e => ?_)
    · have h := h.1 e
      refine x_aload_n (pc := 26) dX6_owedBy_26 rfl rfl ?_
      refine x_iload (pc := 27) dX6_owedBy_27 rfl ?_
      refine x_iload_n (pc := 29) dX6_owedBy_29 rfl rfl ?_
      refine x_iload_n (pc := 30) dX6_owedBy_30 rfl rfl ?_
      refine y_Vi (pc := 31) (i := c_shelf) (As := [vi (v5), vi (v2), vi (v3)]) (rest := []) ok_X6_isTorn ml_X6_70 dX6_owedBy_31 (sN_c_shelf hS) (sT_c_shelf hS) (by decide) rfl rfl rfl ⟨rfl, rfl⟩ ⟨by decide, by decide⟩ ⟨Nat.le_refl _, Nat.le_refl _⟩ (Nat.le_of_ble_eq_true rfl) rfl h (fun r2 I1 h => ?_)
      refine x_if_eq (pc := 34) (t := 57) dX6_owedBy_34 (by decide) (fun e => ?_) (fun e => ?_)
      · have h := h.1 e
        refine x_iinc (pc := 57) (L' := [some (vr G c_shelf), some (vi (v1)), some (vi (v2)), some (vi (v3)), some (vi (v4)), some (vi (v5 + 1))]) dX6_owedBy_57 rfl (by decide) (xst1 rfl rfl rfl) ?_
        refine x_goto (pc := 60) (t := 6) dX6_owedBy_60 (by decide) ?_
        exact h
      · have h := h.2 e
        refine x_iload (pc := 37) dX6_owedBy_37 rfl ?_
        refine x_aload_n (pc := 39) dX6_owedBy_39 rfl rfl ?_
        refine x_getR (pc := 40) (i := c_shelf) (a := c_shelf_actAmounts) fl_X6_49 dX6_owedBy_40 (sN_c_shelf hS) (sT_c_shelf hS) rfl (sR_c_shelf_12 hS) ?_
        refine x_iload (pc := 43) dX6_owedBy_43 rfl ?_
        refine y_iald (pc := 45) (i := c_shelf_actAmounts) (n := 150) dX6_owedBy_45 (sN_c_shelf_actAmounts hS) (sT_c_shelf_actAmounts hS) (sL_c_shelf_actAmounts hS) h.1 ?_
        have h := h.2
        refine x_aload_n (pc := 46) dX6_owedBy_46 rfl rfl ?_
        refine x_getR (pc := 47) (i := c_shelf) (a := c_shelf_actCosts) fl_X6_52 dX6_owedBy_47 (sN_c_shelf hS) (sT_c_shelf hS) rfl (sR_c_shelf_13 hS) ?_
        refine x_iload (pc := 50) dX6_owedBy_50 rfl ?_
        refine y_iald (pc := 52) (i := c_shelf_actCosts) (n := 150) dX6_owedBy_52 (sN_c_shelf_actCosts hS) (sT_c_shelf_actCosts hS) (sL_c_shelf_actCosts hS) h.1 ?_
        have h := h.2
        refine x_imul (pc := 53) dX6_owedBy_53 ?_
        refine x_iadd (pc := 54) dX6_owedBy_54 ?_
        refine x_istore (pc := 55) (L' := [some (vr G c_shelf), some (vi (v1)), some (vi (v2)), some (vi (v3)), some (vi ((v4) + ((I1 c_shelf_actAmounts (ix (v5))) * (I1 c_shelf_actCosts (ix (v5)))))), some (vi (v5))]) dX6_owedBy_55 (by decide) (xst1 rfl rfl rfl) ?_
        refine x_iinc (pc := 57) (L' := [some (vr G c_shelf), some (vi (v1)), some (vi (v2)), some (vi (v3)), some (vi ((v4) + ((I1 c_shelf_actAmounts (ix (v5))) * (I1 c_shelf_actCosts (ix (v5)))))), some (vi (v5 + 1))]) dX6_owedBy_57 rfl (by decide) (xst1 rfl rfl rfl) ?_
        refine x_goto (pc := 60) (t := 6) dX6_owedBy_60 (by decide) ?_
        exact h
    · have h := h.2 e
      refine x_iinc (pc := 57) (L' := [some (vr G c_shelf), some (vi (v1)), some (vi (v2)), some (vi (v3)), some (vi (v4)), some (vi (v5 + 1))]) dX6_owedBy_57 rfl (by decide) (xst1 rfl rfl rfl) ?_
      refine x_goto (pc := 60) (t := 6) dX6_owedBy_60 (by decide) ?_
      exact h
set_option maxHeartbeats 4000000 in
set_option maxRecDepth 100000 in
theorem b_Wn_reach {G : XG} {S : XS} {I : XI} {v2 : Int} {v3 : Int} {R : XI → Prop} (hS : xSh S)  (h : (inb (v2) 6 ∧ (inb (v2) 6 ∧ Wn_reach_k26 G S I (v2) (v3) (I c_herds_firstWeeks (ix (v2))) (if w32 (I c_herds_firstWeeks (ix (v2))) < w32 ((I c_now_knownTo (ix (v2))) + (1)) then (I c_now_knownTo (ix (v2))) + (1) else I c_herds_firstWeeks (ix (v2))) R))) : Wn_reach G S I v2 v3 R := by
  refine x_start [some (vr G c_now), some (vr G c_told), some (vi (v2)), some (vi (v3)), none, none, none] (by decide) (Nat.le_of_ble_eq_true rfl) rfl ?_
  refine x_aload_n (pc := 0) dX9_reach_0 rfl rfl ?_
  refine x_getR (pc := 1) (i := c_told) (a := c_herds) fl_X9_51 dX9_reach_1 (sN_c_told hS) (sT_c_told hS) rfl (sR_c_told_1 hS) ?_
  refine x_getR (pc := 4) (i := c_herds) (a := c_herds_firstWeeks) fl_X9_60 dX9_reach_4 (sN_c_herds hS) (sT_c_herds hS) rfl (sR_c_herds_3 hS) ?_
  refine x_iload_n (pc := 7) dX9_reach_7 rfl rfl ?_
  refine y_iald (pc := 8) (i := c_herds_firstWeeks) (n := 6) dX9_reach_8 (sN_c_herds_firstWeeks hS) (sT_c_herds_firstWeeks hS) (sL_c_herds_firstWeeks hS) h.1 ?_
  have h := h.2
  refine x_istore (pc := 9) (L' := [some (vr G c_now), some (vr G c_told), some (vi (v2)), some (vi (v3)), some (vi (I c_herds_firstWeeks (ix (v2)))), none, none]) dX9_reach_9 (by decide) (xst1 rfl rfl rfl) ?_
  refine x_iload (pc := 11) dX9_reach_11 rfl ?_
  refine x_aload_n (pc := 13) dX9_reach_13 rfl rfl ?_
  refine x_getR (pc := 14) (i := c_now) (a := c_now_knownTo) fl_X9_15 dX9_reach_14 (sN_c_now hS) (sT_c_now hS) rfl (sR_c_now_1 hS) ?_
  refine x_iload_n (pc := 17) dX9_reach_17 rfl rfl ?_
  refine y_iald (pc := 18) (i := c_now_knownTo) (n := 6) dX9_reach_18 (sN_c_now_knownTo hS) (sT_c_now_knownTo hS) (sL_c_now_knownTo hS) h.1 ?_
  have h := h.2
  refine x_iconst (pc := 19) dX9_reach_19 ?_
  refine x_iadd (pc := 20) dX9_reach_20 ?_
  refine x_max (pc := 21) ⟨ml_X9_72, w_maxs, w_mi, w_maxc⟩ dX9_reach_21 ⟨by decide, Nat.le_of_ble_eq_true rfl, Nat.le_refl _, Nat.le_refl _⟩ ?_
  refine x_istore (pc := 24) (L' := [some (vr G c_now), some (vr G c_told), some (vi (v2)), some (vi (v3)), some (vi (I c_herds_firstWeeks (ix (v2)))), some (vi (if w32 (I c_herds_firstWeeks (ix (v2))) < w32 ((I c_now_knownTo (ix (v2))) + (1)) then (I c_now_knownTo (ix (v2))) + (1) else I c_herds_firstWeeks (ix (v2)))), none]) dX9_reach_24 (by decide) (xst1 rfl rfl rfl) ?_
  exact h
