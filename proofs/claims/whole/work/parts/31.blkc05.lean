set_option maxHeartbeats 4000000 in
set_option maxRecDepth 100000 in
theorem b_Wn_reach_k26 {G : XG} {S : XS}  {I : XI} {v2 : Int} {v3 : Int} {v4 : Int} {v5 : Int} {R : XI → Prop} (hS : xSh S)  (h : ((w32 (v3) < w32 (v5) → R I) ∧ (¬ (w32 (v3) < w32 (v5)) → W_rowOf G S I (v2) (v5) (fun r2 I1 => Wn_clearRow G S I1 (r2) (fun I3 => ((w32 (v5) = w32 (v4) → (inb (v2) 6 ∧ (inb ((r2) + (I3 c_herds_firstCells (ix (v2)))) 6000 ∧ (∀ I4 : XI, I4 = up I3 c_now_parts (ix ((r2) + (I3 c_herds_firstCells (ix (v2))))) (1000000) → Wn_reach_k87 G S I4 (v2) (v3) (v4) (v5) R)))) ∧ (¬ (w32 (v5) = w32 (v4)) → Wn_move G S I3 (r2) (v5) (fun I5 => Wn_reach_k87 G S I5 (v2) (v3) (v4) (v5) R)))))))) : Wn_reach_k26 G S  I v2 v3 v4 v5 R := by
  unfold Wn_reach_k26
  refine x_iload (pc := 26) dX9_reach_26 rfl ?_
  refine x_iload_n (pc := 28) dX9_reach_28 rfl rfl ?_
  refine x_icmp_gt (pc := 29) (t := 112) dX9_reach_29 (by decide) (fun e => ?_) (fun e => ?_)
  · have h := h.1 e
    exact y_vret (pc := 112) dX9_reach_112 rfl ⟨Nat.le_refl _, Nat.le_refl _⟩ h
  · have h := h.2 e
    refine x_iload_n (pc := 32) dX9_reach_32 rfl rfl ?_
    refine x_iload (pc := 33) dX9_reach_33 rfl ?_
    refine y_Si (pc := 35) (As := [vi (v2), vi (v5)]) (rest := []) ok_X9_rowOf ml_X9_43 dX9_reach_35 rfl ⟨rfl, rfl⟩ ⟨by decide, by decide⟩ ⟨Nat.le_refl _, Nat.le_refl _⟩ (Nat.le_of_ble_eq_true rfl) rfl h (fun r2 I1 h => ?_)
    refine x_istore (pc := 38) (L' := [some (vr G c_now), some (vr G c_told), some (vi (v2)), some (vi (v3)), some (vi (v4)), some (vi (v5)), some (vi (r2))]) dX9_reach_38 (by decide) (xst1 rfl rfl rfl) ?_
    refine x_aload_n (pc := 40) dX9_reach_40 rfl rfl ?_
    refine x_iload (pc := 41) dX9_reach_41 rfl ?_
    refine y_Vv (pc := 43) (i := c_now) (As := [vi (r2)]) (rest := []) ok_X9_clearRow ml_X9_77 dX9_reach_43 (sN_c_now hS) (sT_c_now hS) (by decide) rfl rfl rfl ⟨rfl, rfl⟩ ⟨by decide, by decide⟩ ⟨Nat.le_refl _, Nat.le_refl _⟩ (Nat.le_of_ble_eq_true rfl) rfl h (fun I3 h => ?_)
    refine x_iload (pc := 46) dX9_reach_46 rfl ?_
    refine x_iload (pc := 48) dX9_reach_48 rfl ?_
    refine x_icmp_ne (pc := 50) (t := 75) dX9_reach_50 (by decide) (fun e => ?_) (fun e => ?_)
    · have h := h.1 e
      refine x_aload_n (pc := 53) dX9_reach_53 rfl rfl ?_
      refine x_getR (pc := 54) (i := c_now) (a := c_now_parts) fl_X9_9 dX9_reach_54 (sN_c_now hS) (sT_c_now hS) rfl (sR_c_now_0 hS) ?_
      refine x_iload (pc := 57) dX9_reach_57 rfl ?_
      refine x_aload_n (pc := 59) dX9_reach_59 rfl rfl ?_
      refine x_getR (pc := 60) (i := c_told) (a := c_herds) fl_X9_51 dX9_reach_60 (sN_c_told hS) (sT_c_told hS) rfl (sR_c_told_1 hS) ?_
      refine x_getR (pc := 63) (i := c_herds) (a := c_herds_firstCells) fl_X9_81 dX9_reach_63 (sN_c_herds hS) (sT_c_herds hS) rfl (sR_c_herds_2 hS) ?_
      refine x_iload_n (pc := 66) dX9_reach_66 rfl rfl ?_
      refine y_iald (pc := 67) (i := c_herds_firstCells) (n := 6) dX9_reach_67 (sN_c_herds_firstCells hS) (sT_c_herds_firstCells hS) (sL_c_herds_firstCells hS) h.1 ?_
      have h := h.2
      refine x_iadd (pc := 68) dX9_reach_68 ?_
      refine x_ldc (pc := 69) (z := 1000000) dX9_reach_69 ko_X9_84 rfl ?_
      refine y_iast (pc := 71) (i := c_now_parts) (n := 6000) dX9_reach_71 (sN_c_now_parts hS) (sT_c_now_parts hS) (sL_c_now_parts hS) h.1 ?_
      have h := h.2
      have h := h _ rfl
      generalize up I3 c_now_parts (ix ((r2) + (I3 c_herds_firstCells (ix (v2))))) (1000000) = I4 at h ⊢
      refine x_goto (pc := 72) (t := 87) dX9_reach_72 (by decide) ?_
      refine x_less (L' := [some (vr G c_now), some (vr G c_told), some (vi (v2)), some (vi (v3)), some (vi (v4)), some (vi (v5)), none]) (And.intro rfl (And.intro rfl (And.intro rfl (And.intro rfl (And.intro rfl (And.intro rfl trivial)))))) ?_
      exact h
    · have h := h.2 e
      refine x_aload_n (pc := 75) dX9_reach_75 rfl rfl ?_
      refine x_aload_n (pc := 76) dX9_reach_76 rfl rfl ?_
      refine x_getR (pc := 77) (i := c_told) (a := c_land) fl_X9_85 dX9_reach_77 (sN_c_told hS) (sT_c_told hS) rfl (sR_c_told_0 hS) ?_
      refine x_iload (pc := 80) dX9_reach_80 rfl ?_
      refine x_iload (pc := 82) dX9_reach_82 rfl ?_
      refine y_Vv (pc := 84) (i := c_now) (As := [vr G c_land, vi (r2), vi (v5)]) (rest := []) ok_X9_move ml_X9_89 dX9_reach_84 (sN_c_now hS) (sT_c_now hS) (by decide) rfl rfl rfl ⟨rfl, rfl⟩ ⟨by decide, by decide⟩ ⟨Nat.le_refl _, Nat.le_refl _⟩ (Nat.le_of_ble_eq_true rfl) rfl h (fun I5 h => ?_)
      refine x_less (L' := [some (vr G c_now), some (vr G c_told), some (vi (v2)), some (vi (v3)), some (vi (v4)), some (vi (v5)), none]) (And.intro rfl (And.intro rfl (And.intro rfl (And.intro rfl (And.intro rfl (And.intro rfl trivial)))))) ?_
      exact h
set_option maxHeartbeats 4000000 in
set_option maxRecDepth 100000 in
theorem b_Wn_reach_k87 {G : XG} {S : XS}  {I : XI} {v2 : Int} {v3 : Int} {v4 : Int} {v5 : Int} {R : XI → Prop} (hS : xSh S)  (h : Wn_hear G S I (v2) (v5) (fun I6 => (inb (v2) 6 ∧ (∀ I7 : XI, I7 = up I6 c_now_knownTo (ix (v2)) (v5) → Wn_reach_k26 G S I7 (v2) (v3) (v4) (v5 + 1) R)))) : Wn_reach_k87 G S  I v2 v3 v4 v5 R := by
  unfold Wn_reach_k87
  refine x_aload_n (pc := 87) dX9_reach_87 rfl rfl ?_
  refine x_aload_n (pc := 88) dX9_reach_88 rfl rfl ?_
  refine x_getR (pc := 89) (i := c_told) (a := c_herds) fl_X9_51 dX9_reach_89 (sN_c_told hS) (sT_c_told hS) rfl (sR_c_told_1 hS) ?_
  refine x_iload_n (pc := 92) dX9_reach_92 rfl rfl ?_
  refine x_iload (pc := 93) dX9_reach_93 rfl ?_
  refine y_Vv (pc := 95) (i := c_now) (As := [vr G c_herds, vi (v2), vi (v5)]) (rest := []) ok_X9_hear ml_X9_93 dX9_reach_95 (sN_c_now hS) (sT_c_now hS) (by decide) rfl rfl rfl ⟨rfl, rfl⟩ ⟨by decide, by decide⟩ ⟨Nat.le_refl _, Nat.le_refl _⟩ (Nat.le_of_ble_eq_true rfl) rfl h (fun I6 h => ?_)
  refine x_aload_n (pc := 98) dX9_reach_98 rfl rfl ?_
  refine x_getR (pc := 99) (i := c_now) (a := c_now_knownTo) fl_X9_15 dX9_reach_99 (sN_c_now hS) (sT_c_now hS) rfl (sR_c_now_1 hS) ?_
  refine x_iload_n (pc := 102) dX9_reach_102 rfl rfl ?_
  refine x_iload (pc := 103) dX9_reach_103 rfl ?_
  refine y_iast (pc := 105) (i := c_now_knownTo) (n := 6) dX9_reach_105 (sN_c_now_knownTo hS) (sT_c_now_knownTo hS) (sL_c_now_knownTo hS) h.1 ?_
  have h := h.2
  have h := h _ rfl
  generalize up I6 c_now_knownTo (ix (v2)) (v5) = I7 at h ⊢
  refine x_iinc (pc := 106) (L' := [some (vr G c_now), some (vr G c_told), some (vi (v2)), some (vi (v3)), some (vi (v4)), some (vi (v5 + 1)), none]) dX9_reach_106 rfl (by decide) (xst1 rfl rfl rfl) ?_
  refine x_goto (pc := 109) (t := 26) dX9_reach_109 (by decide) ?_
  exact h
set_option maxHeartbeats 4000000 in
set_option maxRecDepth 100000 in
theorem b_Wn_partsAt {G : XG} {S : XS} {I : XI} {v1 : Int} {v2 : Int} {v3 : Int} {R : Int → XI → Prop} (hS : xSh S)  (h : W_rowOf G S I (v1) (v3) (fun r2 I1 => (inb ((r2) + (v2)) 6000 ∧ R (I1 c_now_parts (ix ((r2) + (v2)))) I1))) : Wn_partsAt G S I v1 v2 v3 R := by
  refine x_start [some (vr G c_now), some (vi (v1)), some (vi (v2)), some (vi (v3))] (by decide) (Nat.le_of_ble_eq_true rfl) rfl ?_
  refine x_aload_n (pc := 0) dX9_partsAt_0 rfl rfl ?_
  refine x_getR (pc := 1) (i := c_now) (a := c_now_parts) fl_X9_9 dX9_partsAt_1 (sN_c_now hS) (sT_c_now hS) rfl (sR_c_now_0 hS) ?_
  refine x_iload_n (pc := 4) dX9_partsAt_4 rfl rfl ?_
  refine x_iload_n (pc := 5) dX9_partsAt_5 rfl rfl ?_
  refine y_Si (pc := 6) (As := [vi (v1), vi (v3)]) (rest := [vr G c_now_parts]) ok_X9_rowOf ml_X9_43 dX9_partsAt_6 rfl ⟨rfl, rfl⟩ ⟨by decide, by decide⟩ ⟨Nat.le_refl _, Nat.le_refl _⟩ (Nat.le_of_ble_eq_true rfl) rfl h (fun r2 I1 h => ?_)
  refine x_iload_n (pc := 9) dX9_partsAt_9 rfl rfl ?_
  refine x_iadd (pc := 10) dX9_partsAt_10 ?_
  refine y_iald (pc := 11) (i := c_now_parts) (n := 6000) dX9_partsAt_11 (sN_c_now_parts hS) (sT_c_now_parts hS) (sL_c_now_parts hS) h.1 ?_
  have h := h.2
  exact y_iret (pc := 12) dX9_partsAt_12 rfl ⟨Nat.le_refl _, Nat.le_refl _⟩ h
set_option maxHeartbeats 4000000 in
set_option maxRecDepth 100000 in
theorem b_Wt_reach {G : XG} {S : XS} {I : XI} {v2 : Int} {v3 : Int} {R : XI → Prop} (hS : xSh S)  (h : (inb (v2) 6 ∧ (inb (v2) 6 ∧ Wt_reach_k26 G S I (v2) (v3) (I c_herds_firstWeeks (ix (v2))) (if w32 (I c_herds_firstWeeks (ix (v2))) < w32 ((I c_then_knownTo (ix (v2))) + (1)) then (I c_then_knownTo (ix (v2))) + (1) else I c_herds_firstWeeks (ix (v2))) R))) : Wt_reach G S I v2 v3 R := by
  refine x_start [some (vr G c_then), some (vr G c_told), some (vi (v2)), some (vi (v3)), none, none, none] (by decide) (Nat.le_of_ble_eq_true rfl) rfl ?_
  refine x_aload_n (pc := 0) dX9_reach_0 rfl rfl ?_
  refine x_getR (pc := 1) (i := c_told) (a := c_herds) fl_X9_51 dX9_reach_1 (sN_c_told hS) (sT_c_told hS) rfl (sR_c_told_1 hS) ?_
  refine x_getR (pc := 4) (i := c_herds) (a := c_herds_firstWeeks) fl_X9_60 dX9_reach_4 (sN_c_herds hS) (sT_c_herds hS) rfl (sR_c_herds_3 hS) ?_
  refine x_iload_n (pc := 7) dX9_reach_7 rfl rfl ?_
  refine y_iald (pc := 8) (i := c_herds_firstWeeks) (n := 6) dX9_reach_8 (sN_c_herds_firstWeeks hS) (sT_c_herds_firstWeeks hS) (sL_c_herds_firstWeeks hS) h.1 ?_
  have h := h.2
  refine x_istore (pc := 9) (L' := [some (vr G c_then), some (vr G c_told), some (vi (v2)), some (vi (v3)), some (vi (I c_herds_firstWeeks (ix (v2)))), none, none]) dX9_reach_9 (by decide) (xst1 rfl rfl rfl) ?_
  refine x_iload (pc := 11) dX9_reach_11 rfl ?_
  refine x_aload_n (pc := 13) dX9_reach_13 rfl rfl ?_
  refine x_getR (pc := 14) (i := c_then) (a := c_then_knownTo) fl_X9_15 dX9_reach_14 (sN_c_then hS) (sT_c_then hS) rfl (sR_c_then_1 hS) ?_
  refine x_iload_n (pc := 17) dX9_reach_17 rfl rfl ?_
  refine y_iald (pc := 18) (i := c_then_knownTo) (n := 6) dX9_reach_18 (sN_c_then_knownTo hS) (sT_c_then_knownTo hS) (sL_c_then_knownTo hS) h.1 ?_
  have h := h.2
  refine x_iconst (pc := 19) dX9_reach_19 ?_
  refine x_iadd (pc := 20) dX9_reach_20 ?_
  refine x_max (pc := 21) ⟨ml_X9_72, w_maxs, w_mi, w_maxc⟩ dX9_reach_21 ⟨by decide, Nat.le_of_ble_eq_true rfl, Nat.le_refl _, Nat.le_refl _⟩ ?_
  refine x_istore (pc := 24) (L' := [some (vr G c_then), some (vr G c_told), some (vi (v2)), some (vi (v3)), some (vi (I c_herds_firstWeeks (ix (v2)))), some (vi (if w32 (I c_herds_firstWeeks (ix (v2))) < w32 ((I c_then_knownTo (ix (v2))) + (1)) then (I c_then_knownTo (ix (v2))) + (1) else I c_herds_firstWeeks (ix (v2)))), none]) dX9_reach_24 (by decide) (xst1 rfl rfl rfl) ?_
  exact h
set_option maxHeartbeats 4000000 in
set_option maxRecDepth 100000 in
theorem b_Wt_reach_k26 {G : XG} {S : XS}  {I : XI} {v2 : Int} {v3 : Int} {v4 : Int} {v5 : Int} {R : XI → Prop} (hS : xSh S)  (h : ((w32 (v3) < w32 (v5) → R I) ∧ (¬ (w32 (v3) < w32 (v5)) → W_rowOf G S I (v2) (v5) (fun r2 I1 => Wt_clearRow G S I1 (r2) (fun I3 => ((w32 (v5) = w32 (v4) → (inb (v2) 6 ∧ (inb ((r2) + (I3 c_herds_firstCells (ix (v2)))) 6000 ∧ (∀ I4 : XI, I4 = up I3 c_then_parts (ix ((r2) + (I3 c_herds_firstCells (ix (v2))))) (1000000) → Wt_reach_k87 G S I4 (v2) (v3) (v4) (v5) R)))) ∧ (¬ (w32 (v5) = w32 (v4)) → Wt_move G S I3 (r2) (v5) (fun I5 => Wt_reach_k87 G S I5 (v2) (v3) (v4) (v5) R)))))))) : Wt_reach_k26 G S  I v2 v3 v4 v5 R := by
  unfold Wt_reach_k26
  refine x_iload (pc := 26) dX9_reach_26 rfl ?_
  refine x_iload_n (pc := 28) dX9_reach_28 rfl rfl ?_
  refine x_icmp_gt (pc := 29) (t := 112) dX9_reach_29 (by decide) (fun e => ?_) (fun e => ?_)
  · have h := h.1 e
    exact y_vret (pc := 112) dX9_reach_112 rfl ⟨Nat.le_refl _, Nat.le_refl _⟩ h
  · have h := h.2 e
    refine x_iload_n (pc := 32) dX9_reach_32 rfl rfl ?_
    refine x_iload (pc := 33) dX9_reach_33 rfl ?_
    refine y_Si (pc := 35) (As := [vi (v2), vi (v5)]) (rest := []) ok_X9_rowOf ml_X9_43 dX9_reach_35 rfl ⟨rfl, rfl⟩ ⟨by decide, by decide⟩ ⟨Nat.le_refl _, Nat.le_refl _⟩ (Nat.le_of_ble_eq_true rfl) rfl h (fun r2 I1 h => ?_)
    refine x_istore (pc := 38) (L' := [some (vr G c_then), some (vr G c_told), some (vi (v2)), some (vi (v3)), some (vi (v4)), some (vi (v5)), some (vi (r2))]) dX9_reach_38 (by decide) (xst1 rfl rfl rfl) ?_
    refine x_aload_n (pc := 40) dX9_reach_40 rfl rfl ?_
    refine x_iload (pc := 41) dX9_reach_41 rfl ?_
    refine y_Vv (pc := 43) (i := c_then) (As := [vi (r2)]) (rest := []) ok_X9_clearRow ml_X9_77 dX9_reach_43 (sN_c_then hS) (sT_c_then hS) (by decide) rfl rfl rfl ⟨rfl, rfl⟩ ⟨by decide, by decide⟩ ⟨Nat.le_refl _, Nat.le_refl _⟩ (Nat.le_of_ble_eq_true rfl) rfl h (fun I3 h => ?_)
    refine x_iload (pc := 46) dX9_reach_46 rfl ?_
    refine x_iload (pc := 48) dX9_reach_48 rfl ?_
    refine x_icmp_ne (pc := 50) (t := 75) dX9_reach_50 (by decide) (fun e => ?_) (fun e => ?_)
    · have h := h.1 e
      refine x_aload_n (pc := 53) dX9_reach_53 rfl rfl ?_
      refine x_getR (pc := 54) (i := c_then) (a := c_then_parts) fl_X9_9 dX9_reach_54 (sN_c_then hS) (sT_c_then hS) rfl (sR_c_then_0 hS) ?_
      refine x_iload (pc := 57) dX9_reach_57 rfl ?_
      refine x_aload_n (pc := 59) dX9_reach_59 rfl rfl ?_
      refine x_getR (pc := 60) (i := c_told) (a := c_herds) fl_X9_51 dX9_reach_60 (sN_c_told hS) (sT_c_told hS) rfl (sR_c_told_1 hS) ?_
      refine x_getR (pc := 63) (i := c_herds) (a := c_herds_firstCells) fl_X9_81 dX9_reach_63 (sN_c_herds hS) (sT_c_herds hS) rfl (sR_c_herds_2 hS) ?_
      refine x_iload_n (pc := 66) dX9_reach_66 rfl rfl ?_
      refine y_iald (pc := 67) (i := c_herds_firstCells) (n := 6) dX9_reach_67 (sN_c_herds_firstCells hS) (sT_c_herds_firstCells hS) (sL_c_herds_firstCells hS) h.1 ?_
      have h := h.2
      refine x_iadd (pc := 68) dX9_reach_68 ?_
      refine x_ldc (pc := 69) (z := 1000000) dX9_reach_69 ko_X9_84 rfl ?_
      refine y_iast (pc := 71) (i := c_then_parts) (n := 6000) dX9_reach_71 (sN_c_then_parts hS) (sT_c_then_parts hS) (sL_c_then_parts hS) h.1 ?_
      have h := h.2
      have h := h _ rfl
      generalize up I3 c_then_parts (ix ((r2) + (I3 c_herds_firstCells (ix (v2))))) (1000000) = I4 at h ⊢
      refine x_goto (pc := 72) (t := 87) dX9_reach_72 (by decide) ?_
      refine x_less (L' := [some (vr G c_then), some (vr G c_told), some (vi (v2)), some (vi (v3)), some (vi (v4)), some (vi (v5)), none]) (And.intro rfl (And.intro rfl (And.intro rfl (And.intro rfl (And.intro rfl (And.intro rfl trivial)))))) ?_
      exact h
    · have h := h.2 e
      refine x_aload_n (pc := 75) dX9_reach_75 rfl rfl ?_
      refine x_aload_n (pc := 76) dX9_reach_76 rfl rfl ?_
      refine x_getR (pc := 77) (i := c_told) (a := c_land) fl_X9_85 dX9_reach_77 (sN_c_told hS) (sT_c_told hS) rfl (sR_c_told_0 hS) ?_
      refine x_iload (pc := 80) dX9_reach_80 rfl ?_
      refine x_iload (pc := 82) dX9_reach_82 rfl ?_
      refine y_Vv (pc := 84) (i := c_then) (As := [vr G c_land, vi (r2), vi (v5)]) (rest := []) ok_X9_move ml_X9_89 dX9_reach_84 (sN_c_then hS) (sT_c_then hS) (by decide) rfl rfl rfl ⟨rfl, rfl⟩ ⟨by decide, by decide⟩ ⟨Nat.le_refl _, Nat.le_refl _⟩ (Nat.le_of_ble_eq_true rfl) rfl h (fun I5 h => ?_)
      refine x_less (L' := [some (vr G c_then), some (vr G c_told), some (vi (v2)), some (vi (v3)), some (vi (v4)), some (vi (v5)), none]) (And.intro rfl (And.intro rfl (And.intro rfl (And.intro rfl (And.intro rfl (And.intro rfl trivial)))))) ?_
      exact h
set_option maxHeartbeats 4000000 in
set_option maxRecDepth 100000 in
theorem b_Wt_reach_k87 {G : XG} {S : XS}  {I : XI} {v2 : Int} {v3 : Int} {v4 : Int} {v5 : Int} {R : XI → Prop} (hS : xSh S)  (h : Wt_hear G S I (v2) (v5) (fun I6 => (inb (v2) 6 ∧ (∀ I7 : XI, I7 = up I6 c_then_knownTo (ix (v2)) (v5) → Wt_reach_k26 G S I7 (v2) (v3) (v4) (v5 + 1) R)))) : Wt_reach_k87 G S  I v2 v3 v4 v5 R := by
  unfold Wt_reach_k87
  refine x_aload_n (pc := 87) dX9_reach_87 rfl rfl ?_
  refine x_aload_n (pc := 88) dX9_reach_88 rfl rfl ?_
  refine x_getR (pc := 89) (i := c_told) (a := c_herds) fl_X9_51 dX9_reach_89 (sN_c_told hS) (sT_c_told hS) rfl (sR_c_told_1 hS) ?_
  refine x_iload_n (pc := 92) dX9_reach_92 rfl rfl ?_
  refine x_iload (pc := 93) dX9_reach_93 rfl ?_
  refine y_Vv (pc := 95) (i := c_then) (As := [vr G c_herds, vi (v2), vi (v5)]) (rest := []) ok_X9_hear ml_X9_93 dX9_reach_95 (sN_c_then hS) (sT_c_then hS) (by decide) rfl rfl rfl ⟨rfl, rfl⟩ ⟨by decide, by decide⟩ ⟨Nat.le_refl _, Nat.le_refl _⟩ (Nat.le_of_ble_eq_true rfl) rfl h (fun I6 h => ?_)
  refine x_aload_n (pc := 98) dX9_reach_98 rfl rfl ?_
  refine x_getR (pc := 99) (i := c_then) (a := c_then_knownTo) fl_X9_15 dX9_reach_99 (sN_c_then hS) (sT_c_then hS) rfl (sR_c_then_1 hS) ?_
  refine x_iload_n (pc := 102) dX9_reach_102 rfl rfl ?_
  refine x_iload (pc := 103) dX9_reach_103 rfl ?_
  refine y_iast (pc := 105) (i := c_then_knownTo) (n := 6) dX9_reach_105 (sN_c_then_knownTo hS) (sT_c_then_knownTo hS) (sL_c_then_knownTo hS) h.1 ?_
  have h := h.2
  have h := h _ rfl
  generalize up I6 c_then_knownTo (ix (v2)) (v5) = I7 at h ⊢
  refine x_iinc (pc := 106) (L' := [some (vr G c_then), some (vr G c_told), some (vi (v2)), some (vi (v3)), some (vi (v4)), some (vi (v5 + 1)), none]) dX9_reach_106 rfl (by decide) (xst1 rfl rfl rfl) ?_
  refine x_goto (pc := 109) (t := 26) dX9_reach_109 (by decide) ?_
  exact h
set_option maxHeartbeats 4000000 in
set_option maxRecDepth 100000 in
theorem b_Wt_partsAt {G : XG} {S : XS} {I : XI} {v1 : Int} {v2 : Int} {v3 : Int} {R : Int → XI → Prop} (hS : xSh S)  (h : W_rowOf G S I (v1) (v3) (fun r2 I1 => (inb ((r2) + (v2)) 6000 ∧ R (I1 c_then_parts (ix ((r2) + (v2)))) I1))) : Wt_partsAt G S I v1 v2 v3 R := by
  refine x_start [some (vr G c_then), some (vi (v1)), some (vi (v2)), some (vi (v3))] (by decide) (Nat.le_of_ble_eq_true rfl) rfl ?_
  refine x_aload_n (pc := 0) dX9_partsAt_0 rfl rfl ?_
  refine x_getR (pc := 1) (i := c_then) (a := c_then_parts) fl_X9_9 dX9_partsAt_1 (sN_c_then hS) (sT_c_then hS) rfl (sR_c_then_0 hS) ?_
  refine x_iload_n (pc := 4) dX9_partsAt_4 rfl rfl ?_
  refine x_iload_n (pc := 5) dX9_partsAt_5 rfl rfl ?_
  refine y_Si (pc := 6) (As := [vi (v1), vi (v3)]) (rest := [vr G c_then_parts]) ok_X9_rowOf ml_X9_43 dX9_partsAt_6 rfl ⟨rfl, rfl⟩ ⟨by decide, by decide⟩ ⟨Nat.le_refl _, Nat.le_refl _⟩ (Nat.le_of_ble_eq_true rfl) rfl h (fun r2 I1 h => ?_)
  refine x_iload_n (pc := 9) dX9_partsAt_9 rfl rfl ?_
  refine x_iadd (pc := 10) dX9_partsAt_10 ?_
  refine y_iald (pc := 11) (i := c_then_parts) (n := 6000) dX9_partsAt_11 (sN_c_then_parts hS) (sT_c_then_parts hS) (sL_c_then_parts hS) h.1 ?_
  have h := h.2
  exact y_iret (pc := 12) dX9_partsAt_12 rfl ⟨Nat.le_refl _, Nat.le_refl _⟩ h
set_option maxHeartbeats 4000000 in
set_option maxRecDepth 100000 in
theorem b_Wn_quarrelOf {G : XG} {S : XS} {I : XI} {v2 : Int} {v3 : Int} {R : Int → XI → Prop} (hS : xSh S)  (h : Wn_reach G S I (v2) (I c_told 9) (fun I1 => (inb (v2) 6 ∧ Wn_quarrelOf_k28 G S I1 (v2) (v3) (0) (I1 c_herds_firstWeeks (ix (v2))) R))) : Wn_quarrelOf G S I v2 v3 R := by
  refine x_start [some (vr G c_now), some (vr G c_told), some (vi (v2)), some (vi (v3)), none, none, none, none] (by decide) (Nat.le_of_ble_eq_true rfl) rfl ?_
  refine x_aload_n (pc := 0) dX9_quarrelOf_0 rfl rfl ?_
  refine x_getR (pc := 1) (i := c_told) (a := c_herds) fl_X9_51 dX9_quarrelOf_1 (sN_c_told hS) (sT_c_told hS) rfl (sR_c_told_1 hS) ?_
  refine x_astore (pc := 4) (L' := [some (vr G c_now), some (vr G c_told), some (vi (v2)), some (vi (v3)), some (vr G c_herds), none, none, none]) dX9_quarrelOf_4 (by decide) (xst1 rfl rfl rfl) ?_
  refine x_iconst (pc := 6) dX9_quarrelOf_6 ?_
  refine x_istore (pc := 7) (L' := [some (vr G c_now), some (vr G c_told), some (vi (v2)), some (vi (v3)), some (vr G c_herds), some (vi (0)), none, none]) dX9_quarrelOf_7 (by decide) (xst1 rfl rfl rfl) ?_
  refine x_aload_n (pc := 9) dX9_quarrelOf_9 rfl rfl ?_
  refine x_aload_n (pc := 10) dX9_quarrelOf_10 rfl rfl ?_
  refine x_iload_n (pc := 11) dX9_quarrelOf_11 rfl rfl ?_
  refine x_aload_n (pc := 12) dX9_quarrelOf_12 rfl rfl ?_
  refine x_getI (pc := 13) (i := c_told) fl_X9_57 dX9_quarrelOf_13 (sN_c_told hS) (sT_c_told hS) rfl ?_
  refine y_Vv (pc := 16) (i := c_now) (As := [vr G c_told, vi (v2), vi (I c_told 9)]) (rest := []) ok_X9_reach ml_X9_47 dX9_quarrelOf_16 (sN_c_now hS) (sT_c_now hS) (by decide) rfl rfl rfl ⟨rfl, rfl⟩ ⟨by decide, by decide⟩ ⟨Nat.le_refl _, Nat.le_refl _⟩ (Nat.le_of_ble_eq_true rfl) rfl h (fun I1 h => ?_)
  refine x_aload (pc := 19) dX9_quarrelOf_19 rfl ?_
  refine x_getR (pc := 21) (i := c_herds) (a := c_herds_firstWeeks) fl_X9_60 dX9_quarrelOf_21 (sN_c_herds hS) (sT_c_herds hS) rfl (sR_c_herds_3 hS) ?_
  refine x_iload_n (pc := 24) dX9_quarrelOf_24 rfl rfl ?_
  refine y_iald (pc := 25) (i := c_herds_firstWeeks) (n := 6) dX9_quarrelOf_25 (sN_c_herds_firstWeeks hS) (sT_c_herds_firstWeeks hS) (sL_c_herds_firstWeeks hS) h.1 ?_
  have h := h.2
  refine x_istore (pc := 26) (L' := [some (vr G c_now), some (vr G c_told), some (vi (v2)), some (vi (v3)), some (vr G c_herds), some (vi (0)), some (vi (I1 c_herds_firstWeeks (ix (v2)))), none]) dX9_quarrelOf_26 (by decide) (xst1 rfl rfl rfl) ?_
  exact h
set_option maxHeartbeats 4000000 in
set_option maxRecDepth 100000 in
theorem b_Wn_quarrelOf_k28 {G : XG} {S : XS}  {I : XI} {v2 : Int} {v3 : Int} {v5 : Int} {v6 : Int} {R : Int → XI → Prop} (hS : xSh S)  (h : ((w32 (I c_told 9) < w32 (v6) → R ((-1)) I) ∧ (¬ (w32 (I c_told 9) < w32 (v6)) → Wn_quarrelOf_k40 G S I (v2) (v3) (v5) (v6) (0) R))) : Wn_quarrelOf_k28 G S  I v2 v3 v5 v6 R := by
  unfold Wn_quarrelOf_k28
  refine x_iload (pc := 28) dX9_quarrelOf_28 rfl ?_
  refine x_aload_n (pc := 30) dX9_quarrelOf_30 rfl rfl ?_
  refine x_getI (pc := 31) (i := c_told) fl_X9_57 dX9_quarrelOf_31 (sN_c_told hS) (sT_c_told hS) rfl ?_
  refine x_icmp_gt (pc := 34) (t := 102) dX9_quarrelOf_34 (by decide) (fun e => ?_) (fun e => ?_)
  · have h := h.1 e
    refine x_iconst (pc := 102) dX9_quarrelOf_102 ?_
    exact y_iret (pc := 103) dX9_quarrelOf_103 rfl ⟨Nat.le_refl _, Nat.le_refl _⟩ h
  · have h := h.2 e
    refine x_iconst (pc := 37) dX9_quarrelOf_37 ?_
    refine x_istore (pc := 38) (L' := [some (vr G c_now), some (vr G c_told), some (vi (v2)), some (vi (v3)), some (vr G c_herds), some (vi (v5)), some (vi (v6)), some (vi (0))]) dX9_quarrelOf_38 (by decide) (xst1 rfl rfl rfl) ?_
    exact h
set_option maxHeartbeats 4000000 in
set_option maxRecDepth 100000 in
theorem b_Wn_quarrelOf_k40 {G : XG} {S : XS}  {I : XI} {v2 : Int} {v3 : Int} {v5 : Int} {v6 : Int} {v7 : Int} {R : Int → XI → Prop} (hS : xSh S)  (h : ((w32 (I c_herds 5) ≤ w32 (v7) → Wn_quarrelOf_k28 G S I (v2) (v3) (v5) (v6 + 1) R) ∧ (¬ (w32 (I c_herds 5) ≤ w32 (v7)) → He_isNewsOf G S I (v7) (v2) (v6) (I c_now 6) (fun r3 I2 => ((w32 (r3) = 0 → Wn_quarrelOf_k40 G S I2 (v2) (v3) (v5) (v6) (v7 + 1) R) ∧ (¬ (w32 (r3) = 0) → (inb (v7) 60 ∧ ((w32 (I2 c_now_quarrels (ix (v7))) = w32 (1) → ((w32 (v5) = w32 (v3) → R (v7) I2) ∧ (¬ (w32 (v5) = w32 (v3)) → Wn_quarrelOf_k40 G S I2 (v2) (v3) (v5 + 1) (v6) (v7 + 1) R))) ∧ (¬ (w32 (I2 c_now_quarrels (ix (v7))) = w32 (1)) → Wn_quarrelOf_k40 G S I2 (v2) (v3) (v5) (v6) (v7 + 1) R))))))))) : Wn_quarrelOf_k40 G S  I v2 v3 v5 v6 v7 R := by
  unfold Wn_quarrelOf_k40
  refine x_iload (pc := 40) dX9_quarrelOf_40 rfl ?_
  refine x_aload (pc := 42) dX9_quarrelOf_42 rfl ?_
  refine x_getI (pc := 44) (i := c_herds) fl_X9_65 dX9_quarrelOf_44 (sN_c_herds hS) (sT_c_herds hS) rfl ?_
  refine x_icmp_ge (pc := 47) (t := 96) dX9_quarrelOf_47 (by decide) (fun e => ?_) (fun e => ?_)
  · have h := h.1 e
    refine x_iinc (pc := 96) (L' := [some (vr G c_now), some (vr G c_told), some (vi (v2)), some (vi (v3)), some (vr G c_herds), some (vi (v5)), some (vi (v6 + 1)), some (vi (v7))]) dX9_quarrelOf_96 rfl (by decide) (xst1 rfl rfl rfl) ?_
    refine x_goto (pc := 99) (t := 28) dX9_quarrelOf_99 (by decide) ?_
    refine x_less (L' := [some (vr G c_now), some (vr G c_told), some (vi (v2)), some (vi (v3)), some (vr G c_herds), some (vi (v5)), some (vi (v6 + 1)), none]) (And.intro rfl (And.intro rfl (And.intro rfl (And.intro rfl (And.intro rfl (And.intro rfl (And.intro rfl trivial))))))) ?_
    exact h
  · have h := h.2 e
    refine x_aload (pc := 50) dX9_quarrelOf_50 rfl ?_
    refine x_iload (pc := 52) dX9_quarrelOf_52 rfl ?_
    refine x_iload_n (pc := 54) dX9_quarrelOf_54 rfl rfl ?_
    refine x_iload (pc := 55) dX9_quarrelOf_55 rfl ?_
    refine x_aload_n (pc := 57) dX9_quarrelOf_57 rfl rfl ?_
    refine x_getI (pc := 58) (i := c_now) fl_X9_30 dX9_quarrelOf_58 (sN_c_now hS) (sT_c_now hS) rfl ?_
    refine y_Vi (pc := 61) (i := c_herds) (As := [vi (v7), vi (v2), vi (v6), vi (I c_now 6)]) (rest := []) ok_X1_isNewsOf ml_X9_68 dX9_quarrelOf_61 (sN_c_herds hS) (sT_c_herds hS) (by decide) rfl rfl rfl ⟨rfl, rfl⟩ ⟨by decide, by decide⟩ ⟨Nat.le_refl _, Nat.le_refl _⟩ (Nat.le_of_ble_eq_true rfl) rfl h (fun r3 I2 h => ?_)
    refine x_if_eq (pc := 64) (t := 90) dX9_quarrelOf_64 (by decide) (fun e => ?_) (fun e => ?_)
    · have h := h.1 e
      refine x_iinc (pc := 90) (L' := [some (vr G c_now), some (vr G c_told), some (vi (v2)), some (vi (v3)), some (vr G c_herds), some (vi (v5)), some (vi (v6)), some (vi (v7 + 1))]) dX9_quarrelOf_90 rfl (by decide) (xst1 rfl rfl rfl) ?_
      refine x_goto (pc := 93) (t := 40) dX9_quarrelOf_93 (by decide) ?_
      exact h
    · have h := h.2 e
      refine x_aload_n (pc := 67) dX9_quarrelOf_67 rfl rfl ?_
      refine x_getR (pc := 68) (i := c_now) (a := c_now_quarrels) fl_X9_18 dX9_quarrelOf_68 (sN_c_now hS) (sT_c_now hS) rfl (sR_c_now_2 hS) ?_
      refine x_iload (pc := 71) dX9_quarrelOf_71 rfl ?_
      refine y_iald (pc := 73) (i := c_now_quarrels) (n := 60) dX9_quarrelOf_73 (sN_c_now_quarrels hS) (sT_c_now_quarrels hS) (sL_c_now_quarrels hS) h.1 ?_
      have h := h.2
      refine x_iconst (pc := 74) dX9_quarrelOf_74 ?_
      refine x_icmp_ne (pc := 75) (t := 90) dX9_quarrelOf_75 (by decide) (fun e => ?_) (fun e => ?_)
      · have h := h.1 e
        refine x_iload (pc := 78) dX9_quarrelOf_78 rfl ?_
        refine x_iload_n (pc := 80) dX9_quarrelOf_80 rfl rfl ?_
        refine x_icmp_ne (pc := 81) (t := 87) dX9_quarrelOf_81 (by decide) (fun e => ?_) (fun e => ?_)
        · have h := h.1 e
          refine x_iload (pc := 84) dX9_quarrelOf_84 rfl ?_
          exact y_iret (pc := 86) dX9_quarrelOf_86 rfl ⟨Nat.le_refl _, Nat.le_refl _⟩ h
        · have h := h.2 e
          refine x_iinc (pc := 87) (L' := [some (vr G c_now), some (vr G c_told), some (vi (v2)), some (vi (v3)), some (vr G c_herds), some (vi (v5 + 1)), some (vi (v6)), some (vi (v7))]) dX9_quarrelOf_87 rfl (by decide) (xst1 rfl rfl rfl) ?_
          refine x_iinc (pc := 90) (L' := [some (vr G c_now), some (vr G c_told), some (vi (v2)), some (vi (v3)), some (vr G c_herds), some (vi (v5 + 1)), some (vi (v6)), some (vi (v7 + 1))]) dX9_quarrelOf_90 rfl (by decide) (xst1 rfl rfl rfl) ?_
          refine x_goto (pc := 93) (t := 40) dX9_quarrelOf_93 (by decide) ?_
          exact h
      · have h := h.2 e
        refine x_iinc (pc := 90) (L' := [some (vr G c_now), some (vr G c_told), some (vi (v2)), some (vi (v3)), some (vr G c_herds), some (vi (v5)), some (vi (v6)), some (vi (v7 + 1))]) dX9_quarrelOf_90 rfl (by decide) (xst1 rfl rfl rfl) ?_
        refine x_goto (pc := 93) (t := 40) dX9_quarrelOf_93 (by decide) ?_
        exact h
set_option maxHeartbeats 4000000 in
set_option maxRecDepth 100000 in
theorem b_Wt_quarrelOf {G : XG} {S : XS} {I : XI} {v2 : Int} {v3 : Int} {R : Int → XI → Prop} (hS : xSh S)  (h : Wt_reach G S I (v2) (I c_told 9) (fun I1 => (inb (v2) 6 ∧ Wt_quarrelOf_k28 G S I1 (v2) (v3) (0) (I1 c_herds_firstWeeks (ix (v2))) R))) : Wt_quarrelOf G S I v2 v3 R := by
  refine x_start [some (vr G c_then), some (vr G c_told), some (vi (v2)), some (vi (v3)), none, none, none, none] (by decide) (Nat.le_of_ble_eq_true rfl) rfl ?_
  refine x_aload_n (pc := 0) dX9_quarrelOf_0 rfl rfl ?_
  refine x_getR (pc := 1) (i := c_told) (a := c_herds) fl_X9_51 dX9_quarrelOf_1 (sN_c_told hS) (sT_c_told hS) rfl (sR_c_told_1 hS) ?_
  refine x_astore (pc := 4) (L' := [some (vr G c_then), some (vr G c_told), some (vi (v2)), some (vi (v3)), some (vr G c_herds), none, none, none]) dX9_quarrelOf_4 (by decide) (xst1 rfl rfl rfl) ?_
  refine x_iconst (pc := 6) dX9_quarrelOf_6 ?_
  refine x_istore (pc := 7) (L' := [some (vr G c_then), some (vr G c_told), some (vi (v2)), some (vi (v3)), some (vr G c_herds), some (vi (0)), none, none]) dX9_quarrelOf_7 (by decide) (xst1 rfl rfl rfl) ?_
  refine x_aload_n (pc := 9) dX9_quarrelOf_9 rfl rfl ?_
  refine x_aload_n (pc := 10) dX9_quarrelOf_10 rfl rfl ?_
  refine x_iload_n (pc := 11) dX9_quarrelOf_11 rfl rfl ?_
  refine x_aload_n (pc := 12) dX9_quarrelOf_12 rfl rfl ?_
  refine x_getI (pc := 13) (i := c_told) fl_X9_57 dX9_quarrelOf_13 (sN_c_told hS) (sT_c_told hS) rfl ?_
  refine y_Vv (pc := 16) (i := c_then) (As := [vr G c_told, vi (v2), vi (I c_told 9)]) (rest := []) ok_X9_reach ml_X9_47 dX9_quarrelOf_16 (sN_c_then hS) (sT_c_then hS) (by decide) rfl rfl rfl ⟨rfl, rfl⟩ ⟨by decide, by decide⟩ ⟨Nat.le_refl _, Nat.le_refl _⟩ (Nat.le_of_ble_eq_true rfl) rfl h (fun I1 h => ?_)
  refine x_aload (pc := 19) dX9_quarrelOf_19 rfl ?_
  refine x_getR (pc := 21) (i := c_herds) (a := c_herds_firstWeeks) fl_X9_60 dX9_quarrelOf_21 (sN_c_herds hS) (sT_c_herds hS) rfl (sR_c_herds_3 hS) ?_
  refine x_iload_n (pc := 24) dX9_quarrelOf_24 rfl rfl ?_
  refine y_iald (pc := 25) (i := c_herds_firstWeeks) (n := 6) dX9_quarrelOf_25 (sN_c_herds_firstWeeks hS) (sT_c_herds_firstWeeks hS) (sL_c_herds_firstWeeks hS) h.1 ?_
  have h := h.2
  refine x_istore (pc := 26) (L' := [some (vr G c_then), some (vr G c_told), some (vi (v2)), some (vi (v3)), some (vr G c_herds), some (vi (0)), some (vi (I1 c_herds_firstWeeks (ix (v2)))), none]) dX9_quarrelOf_26 (by decide) (xst1 rfl rfl rfl) ?_
  exact h
set_option maxHeartbeats 4000000 in
set_option maxRecDepth 100000 in
theorem b_Wt_quarrelOf_k28 {G : XG} {S : XS}  {I : XI} {v2 : Int} {v3 : Int} {v5 : Int} {v6 : Int} {R : Int → XI → Prop} (hS : xSh S)  (h : ((w32 (I c_told 9) < w32 (v6) → R ((-1)) I) ∧ (¬ (w32 (I c_told 9) < w32 (v6)) → Wt_quarrelOf_k40 G S I (v2) (v3) (v5) (v6) (0) R))) : Wt_quarrelOf_k28 G S  I v2 v3 v5 v6 R := by
  unfold Wt_quarrelOf_k28
  refine x_iload (pc := 28) dX9_quarrelOf_28 rfl ?_
  refine x_aload_n (pc := 30) dX9_quarrelOf_30 rfl rfl ?_
  refine x_getI (pc := 31) (i := c_told) fl_X9_57 dX9_quarrelOf_31 (sN_c_told hS) (sT_c_told hS) rfl ?_
  refine x_icmp_gt (pc := 34) (t := 102) dX9_quarrelOf_34 (by decide) (fun e => ?_) (fun e => ?_)
  · have h := h.1 e
    refine x_iconst (pc := 102) dX9_quarrelOf_102 ?_
    exact y_iret (pc := 103) dX9_quarrelOf_103 rfl ⟨Nat.le_refl _, Nat.le_refl _⟩ h
  · have h := h.2 e
    refine x_iconst (pc := 37) dX9_quarrelOf_37 ?_
    refine x_istore (pc := 38) (L' := [some (vr G c_then), some (vr G c_told), some (vi (v2)), some (vi (v3)), some (vr G c_herds), some (vi (v5)), some (vi (v6)), some (vi (0))]) dX9_quarrelOf_38 (by decide) (xst1 rfl rfl rfl) ?_
    exact h
set_option maxHeartbeats 4000000 in
set_option maxRecDepth 100000 in
theorem b_Wt_quarrelOf_k40 {G : XG} {S : XS}  {I : XI} {v2 : Int} {v3 : Int} {v5 : Int} {v6 : Int} {v7 : Int} {R : Int → XI → Prop} (hS : xSh S)  (h : ((w32 (I c_herds 5) ≤ w32 (v7) → Wt_quarrelOf_k28 G S I (v2) (v3) (v5) (v6 + 1) R) ∧ (¬ (w32 (I c_herds 5) ≤ w32 (v7)) → He_isNewsOf G S I (v7) (v2) (v6) (I c_then 6) (fun r3 I2 => ((w32 (r3) = 0 → Wt_quarrelOf_k40 G S I2 (v2) (v3) (v5) (v6) (v7 + 1) R) ∧ (¬ (w32 (r3) = 0) → (inb (v7) 60 ∧ ((w32 (I2 c_then_quarrels (ix (v7))) = w32 (1) → ((w32 (v5) = w32 (v3) → R (v7) I2) ∧ (¬ (w32 (v5) = w32 (v3)) → Wt_quarrelOf_k40 G S I2 (v2) (v3) (v5 + 1) (v6) (v7 + 1) R))) ∧ (¬ (w32 (I2 c_then_quarrels (ix (v7))) = w32 (1)) → Wt_quarrelOf_k40 G S I2 (v2) (v3) (v5) (v6) (v7 + 1) R))))))))) : Wt_quarrelOf_k40 G S  I v2 v3 v5 v6 v7 R := by
  unfold Wt_quarrelOf_k40
  refine x_iload (pc := 40) dX9_quarrelOf_40 rfl ?_
  refine x_aload (pc := 42) dX9_quarrelOf_42 rfl ?_
  refine x_getI (pc := 44) (i := c_herds) fl_X9_65 dX9_quarrelOf_44 (sN_c_herds hS) (sT_c_herds hS) rfl ?_
  refine x_icmp_ge (pc := 47) (t := 96) dX9_quarrelOf_47 (by decide) (fun e => ?_) (fun e => ?_)
  · have h := h.1 e
    refine x_iinc (pc := 96) (L' := [some (vr G c_then), some (vr G c_told), some (vi (v2)), some (vi (v3)), some (vr G c_herds), some (vi (v5)), some (vi (v6 + 1)), some (vi (v7))]) dX9_quarrelOf_96 rfl (by decide) (xst1 rfl rfl rfl) ?_
    refine x_goto (pc := 99) (t := 28) dX9_quarrelOf_99 (by decide) ?_
    refine x_less (L' := [some (vr G c_then), some (vr G c_told), some (vi (v2)), some (vi (v3)), some (vr G c_herds), some (vi (v5)), some (vi (v6 + 1)), none]) (And.intro rfl (And.intro rfl (And.intro rfl (And.intro rfl (And.intro rfl (And.intro rfl (And.intro rfl trivial))))))) ?_
    exact h
  · have h := h.2 e
    refine x_aload (pc := 50) dX9_quarrelOf_50 rfl ?_
    refine x_iload (pc := 52) dX9_quarrelOf_52 rfl ?_
    refine x_iload_n (pc := 54) dX9_quarrelOf_54 rfl rfl ?_
    refine x_iload (pc := 55) dX9_quarrelOf_55 rfl ?_
    refine x_aload_n (pc := 57) dX9_quarrelOf_57 rfl rfl ?_
    refine x_getI (pc := 58) (i := c_then) fl_X9_30 dX9_quarrelOf_58 (sN_c_then hS) (sT_c_then hS) rfl ?_
    refine y_Vi (pc := 61) (i := c_herds) (As := [vi (v7), vi (v2), vi (v6), vi (I c_then 6)]) (rest := []) ok_X1_isNewsOf ml_X9_68 dX9_quarrelOf_61 (sN_c_herds hS) (sT_c_herds hS) (by decide) rfl rfl rfl ⟨rfl, rfl⟩ ⟨by decide, by decide⟩ ⟨Nat.le_refl _, Nat.le_refl _⟩ (Nat.le_of_ble_eq_true rfl) rfl h (fun r3 I2 h => ?_)
    refine x_if_eq (pc := 64) (t := 90) dX9_quarrelOf_64 (by decide) (fun e => ?_) (fun e => ?_)
    · have h := h.1 e
      refine x_iinc (pc := 90) (L' := [some (vr G c_then), some (vr G c_told), some (vi (v2)), some (vi (v3)), some (vr G c_herds), some (vi (v5)), some (vi (v6)), some (vi (v7 + 1))]) dX9_quarrelOf_90 rfl (by decide) (xst1 rfl rfl rfl) ?_
      refine x_goto (pc := 93) (t := 40) dX9_quarrelOf_93 (by decide) ?_
      exact h
    · have h := h.2 e
      refine x_aload_n (pc := 67) dX9_quarrelOf_67 rfl rfl ?_
      refine x_getR (pc := 68) (i := c_then) (a := c_then_quarrels) fl_X9_18 dX9_quarrelOf_68 (sN_c_then hS) (sT_c_then hS) rfl (sR_c_then_2 hS) ?_
      refine x_iload (pc := 71) dX9_quarrelOf_71 rfl ?_
      refine y_iald (pc := 73) (i := c_then_quarrels) (n := 60) dX9_quarrelOf_73 (sN_c_then_quarrels hS) (sT_c_then_quarrels hS) (sL_c_then_quarrels hS) h.1 ?_
      have h := h.2
      refine x_iconst (pc := 74) dX9_quarrelOf_74 ?_
      refine x_icmp_ne (pc := 75) (t := 90) dX9_quarrelOf_75 (by decide) (fun e => ?_) (fun e => ?_)
      · have h := h.1 e
        refine x_iload (pc := 78) dX9_quarrelOf_78 rfl ?_
        refine x_iload_n (pc := 80) dX9_quarrelOf_80 rfl rfl ?_
        refine x_icmp_ne (pc := 81) (t := 87) dX9_quarrelOf_81 (by decide) (fun e => ?_) (fun e => ?_)
        · have h := h.1 e
          refine x_iload (pc := 84) dX9_quarrelOf_84 rfl ?_
          exact y_iret (pc := 86) dX9_quarrelOf_86 rfl ⟨Nat.le_refl _, Nat.le_refl _⟩ h
        · have h := h.2 e
          refine x_iinc (pc := 87) (L' := [some (vr G c_then), some (vr G c_told), some (vi (v2)), some (vi (v3)), some (vr G c_herds), some (vi (v5 + 1)), some (vi (v6)), some (vi (v7))]) dX9_quarrelOf_87 rfl (by decide) (xst1 rfl rfl rfl) ?_
          refine x_iinc (pc := 90) (L' := [some (vr G c_then), some (vr G c_told), some (vi (v2)), some (vi (v3)), some (vr G c_herds), some (vi (v5 + 1)), some (vi (v6)), some (vi (v7 + 1))]) dX9_quarrelOf_90 rfl (by decide) (xst1 rfl rfl rfl) ?_
          refine x_goto (pc := 93) (t := 40) dX9_quarrelOf_93 (by decide) ?_
          exact h
      · have h := h.2 e
        refine x_iinc (pc := 90) (L' := [some (vr G c_then), some (vr G c_told), some (vi (v2)), some (vi (v3)), some (vr G c_herds), some (vi (v5)), some (vi (v6)), some (vi (v7 + 1))]) dX9_quarrelOf_90 rfl (by decide) (xst1 rfl rfl rfl) ?_
        refine x_goto (pc := 93) (t := 40) dX9_quarrelOf_93 (by decide) ?_
        exact h
set_option maxHeartbeats 4000000 in
set_option maxRecDepth 100000 in
theorem b_Re_addReader {G : XG} {S : XS} {I : XI} {v1 : Int} {R : Int → XI → Prop} (hS : xSh S)  (h : ((w32 (I c_readers 0) < w32 (12) → (inb (I c_readers 0) 12 ∧ (∀ I1 : XI, I1 = up I c_readers_camps (ix (I c_readers 0)) (v1) → (inb (I1 c_readers 0) 12 ∧ (∀ I2 : XI, I2 = up I1 c_readers_books (ix (I1 c_readers 0)) (0) → (∀ I3 : XI, I3 = up I2 c_readers 0 ((I2 c_readers 0) + (1)) → R ((I3 c_readers 0) - (1)) I3)))))) ∧ (¬ (w32 (I c_readers 0) < w32 (12)) → R ((-1)) I))) : Re_addReader G S I v1 R := by
  refine x_start [some (vr G c_readers), some (vi (v1))] (by decide) (Nat.le_of_ble_eq_true rfl) rfl ?_
  refine x_aload_n (pc := 0) dX4_addReader_0 rfl rfl ?_
  refine x_getI (pc := 1) (i := c_readers) fl_X4_9 dX4_addReader_1 (sN_c_readers hS) (sT_c_readers hS) rfl ?_
  refine x_bipush (pc := 4) dX4_addReader_4 (by decide) ?_
  refine x_icmp_lt (pc := 6) (t := 11) dX4_addReader_6 (by decide) (fun e => ?_) (fun e => ?_)
  · have h := h.1 e
    refine x_aload_n (pc := 11) dX4_addReader_11 rfl rfl ?_
    refine x_getR (pc := 12) (i := c_readers) (a := c_readers_camps) fl_X4_15 dX4_addReader_12 (sN_c_readers hS) (sT_c_readers hS) rfl (sR_c_readers_1 hS) ?_
    refine x_aload_n (pc := 15) dX4_addReader_15 rfl rfl ?_
    refine x_getI (pc := 16) (i := c_readers) fl_X4_9 dX4_addReader_16 (sN_c_readers hS) (sT_c_readers hS) rfl ?_
    refine x_iload_n (pc := 19) dX4_addReader_19 rfl rfl ?_
    refine y_iast (pc := 20) (i := c_readers_camps) (n := 12) dX4_addReader_20 (sN_c_readers_camps hS) (sT_c_readers_camps hS) (sL_c_readers_camps hS) h.1 ?_
    have h := h.2
    have h := h _ rfl
    generalize up I c_readers_camps (ix (I c_readers 0)) (v1) = I1 at h ⊢
    refine x_aload_n (pc := 21) dX4_addReader_21 rfl rfl ?_
    refine x_getR (pc := 22) (i := c_readers) (a := c_readers_books) fl_X4_19 dX4_addReader_22 (sN_c_readers hS) (sT_c_readers hS) rfl (sR_c_readers_2 hS) ?_
    refine x_aload_n (pc := 25) dX4_addReader_25 rfl rfl ?_
    refine x_getI (pc := 26) (i := c_readers) fl_X4_9 dX4_addReader_26 (sN_c_readers hS) (sT_c_readers hS) rfl ?_
    refine x_iconst (pc := 29) dX4_addReader_29 ?_
    refine y_iast (pc := 30) (i := c_readers_books) (n := 12) dX4_addReader_30 (sN_c_readers_books hS) (sT_c_readers_books hS) (sL_c_readers_books hS) h.1 ?_
    have h := h.2
    have h := h _ rfl
    generalize up I1 c_readers_books (ix (I1 c_readers 0)) (0) = I2 at h ⊢
    refine x_aload_n (pc := 31) dX4_addReader_31 rfl rfl ?_
    refine x_dup (pc := 32) dX4_addReader_32 rfl ?_
    refine x_getI (pc := 33) (i := c_readers) fl_X4_9 dX4_addReader_33 (sN_c_readers hS) (sT_c_readers hS) rfl ?_
    refine x_iconst (pc := 36) dX4_addReader_36 ?_
    refine x_iadd (pc := 37) dX4_addReader_37 ?_
    refine x_putI (pc := 38) (i := c_readers) fl_X4_9 dX4_addReader_38 (sN_c_readers hS) (sT_c_readers hS) rfl ?_
    have h := h _ rfl
    generalize up I2 c_readers 0 ((I2 c_readers 0) + (1)) = I3 at h ⊢
    refine x_aload_n (pc := 41) dX4_addReader_41 rfl rfl ?_
    refine x_getI (pc := 42) (i := c_readers) fl_X4_9 dX4_addReader_42 (sN_c_readers hS) (sT_c_readers hS) rfl ?_
    refine x_iconst (pc := 45) dX4_addReader_45 ?_
    refine x_isub (pc := 46) dX4_addReader_46 ?_
    exact y_iret (pc := 47) dX4_addReader_47 rfl ⟨Nat.le_refl _, Nat.le_refl _⟩ h
  · have h := h.2 e
    refine x_iconst (pc := 9) dX4_addReader_9 ?_
    exact y_iret (pc := 10) dX4_addReader_10 rfl ⟨Nat.le_refl _, Nat.le_refl _⟩ h
set_option maxHeartbeats 4000000 in
set_option maxRecDepth 100000 in
theorem b_Pa_parse {G : XG} {S : XS} {I : XI} {v2 : Int} {R : XI → Prop} (hS : xSh S)  (h : To_copyRow G S I (c_told_tape) (c_parser_bytes) (fun I1 => (∀ I2 : XI, I2 = up I1 c_parser 4 (v2) → (∀ I3 : XI, I3 = up I2 c_parser 5 (0) → (∀ I4 : XI, I4 = up I3 c_parser 1 (0) → (∀ I5 : XI, I5 = up I4 c_parser 2 ((-1)) → Pa_takeToken G S I5 (fun I6 => Pa_parse_k34 G S I6 (0) R))))))) : Pa_parse G S I v2 R := by
  refine x_start [some (vr G c_parser), some (vr G c_told_tape), some (vi (v2)), none] (by decide) (Nat.le_of_ble_eq_true rfl) rfl ?_
  refine x_aload_n (pc := 0) dX3_parse_0 rfl rfl ?_
  refine x_aload_n (pc := 1) dX3_parse_1 rfl rfl ?_
  refine x_getR (pc := 2) (i := c_parser) (a := c_parser_bytes) fl_X3_25 dX3_parse_2 (sN_c_parser hS) (sT_c_parser hS) rfl (sR_c_parser_3 hS) ?_
  refine y_Sv (pc := 5) (As := [vr G c_told_tape, vr G c_parser_bytes]) (rest := []) ok_X7_copyRow ml_X3_44 dX3_parse_5 rfl ⟨rfl, rfl⟩ ⟨by decide, by decide⟩ ⟨Nat.le_refl _, Nat.le_refl _⟩ (Nat.le_of_ble_eq_true rfl) rfl h (fun I1 h => ?_)
  refine x_aload_n (pc := 8) dX3_parse_8 rfl rfl ?_
  refine x_iload_n (pc := 9) dX3_parse_9 rfl rfl ?_
  refine x_putI (pc := 10) (i := c_parser) fl_X3_29 dX3_parse_10 (sN_c_parser hS) (sT_c_parser hS) rfl ?_
  have h := h _ rfl
  generalize up I1 c_parser 4 (v2) = I2 at h ⊢
  refine x_aload_n (pc := 13) dX3_parse_13 rfl rfl ?_
  refine x_iconst (pc := 14) dX3_parse_14 ?_
  refine x_putI (pc := 15) (i := c_parser) fl_X3_32 dX3_parse_15 (sN_c_parser hS) (sT_c_parser hS) rfl ?_
  have h := h _ rfl
  generalize up I2 c_parser 5 (0) = I3 at h ⊢
  refine x_aload_n (pc := 18) dX3_parse_18 rfl rfl ?_
  refine x_iconst (pc := 19) dX3_parse_19 ?_
  refine x_putI (pc := 20) (i := c_parser) fl_X3_18 dX3_parse_20 (sN_c_parser hS) (sT_c_parser hS) rfl ?_
  have h := h _ rfl
  generalize up I3 c_parser 1 (0) = I4 at h ⊢
  refine x_aload_n (pc := 23) dX3_parse_23 rfl rfl ?_
  refine x_iconst (pc := 24) dX3_parse_24 ?_
  refine x_putI (pc := 25) (i := c_parser) fl_X3_22 dX3_parse_25 (sN_c_parser hS) (sT_c_parser hS) rfl ?_
  have h := h _ rfl
  generalize up I4 c_parser 2 ((-1)) = I5 at h ⊢
  refine x_aload_n (pc := 28) dX3_parse_28 rfl rfl ?_
  refine y_Vv (pc := 29) (i := c_parser) (As := []) (rest := []) ok_X3_takeToken ml_X3_50 dX3_parse_29 (sN_c_parser hS) (sT_c_parser hS) (by decide) rfl rfl rfl ⟨rfl, rfl⟩ ⟨by decide, by decide⟩ ⟨Nat.le_refl _, Nat.le_refl _⟩ (Nat.le_of_ble_eq_true rfl) rfl h (fun I6 h => ?_)
  refine x_iconst (pc := 32) dX3_parse_32 ?_
  refine x_istore_n (pc := 33) (L' := [some (vr G c_parser), some (vr G c_told_tape), some (vi (v2)), some (vi (0))]) dX3_parse_33 rfl (by decide) (xst1 rfl rfl rfl) ?_
  refine x_less (L' := [some (vr G c_parser), none, none, some (vi (0))]) (And.intro rfl (And.intro rfl trivial)) ?_
  exact h
set_option maxHeartbeats 4000000 in
set_option maxRecDepth 100000 in
theorem b_Pa_parse_k34 {G : XG} {S : XS}  {I : XI} {v3 : Int} {R : XI → Prop} (hS : xSh S)  (h : ((w32 (500) < w32 (v3) → (∀ I7 : XI, I7 = up I c_draft 0 (if w32 (16) < w32 (v3) then 16 else v3) → R I7)) ∧ (¬ (w32 (500) < w32 (v3)) → ((w32 (I c_parser 6) = 0 → (∀ I8 : XI, I8 = up I c_draft 0 (if w32 (16) < w32 (v3) then 16 else v3) → R I8)) ∧ (¬ (w32 (I c_parser 6) = 0) → ((w32 (I c_parser 1) = w32 (1) → (∀ I9 : XI, I9 = up I c_draft 0 (if w32 (16) < w32 (v3) then 16 else v3) → R I9)) ∧ (¬ (w32 (I c_parser 1) = w32 (1)) → Pa_parseLine G S I (v3) (fun I10 => Pa_parse_k34 G S I10 (v3 + 1) R)))))))) : Pa_parse_k34 G S  I v3 R := by
  unfold Pa_parse_k34
  refine x_iload_n (pc := 34) dX3_parse_34 rfl rfl ?_
  refine x_sipush (pc := 35) dX3_parse_35 (by decide) ?_
  refine x_icmp_gt (pc := 38) (t := 67) dX3_parse_38 (by decide) (fun e => ?_) (fun e => ?_)
  · have h := h.1 e
    refine x_aload_n (pc := 67) dX3_parse_67 rfl rfl ?_
    refine x_getR (pc := 68) (i := c_parser) (a := c_draft) fl_X3_12 dX3_parse_68 (sN_c_parser hS) (sT_c_parser hS) rfl (sR_c_parser_0 hS) ?_
    refine x_iload_n (pc := 71) dX3_parse_71 rfl rfl ?_
    refine x_bipush (pc := 72) dX3_parse_72 (by decide) ?_
    refine x_min (pc := 74) ⟨ml_X3_57, w_mins, w_mi, w_minc⟩ dX3_parse_74 ⟨by decide, Nat.le_of_ble_eq_true rfl, Nat.le_refl _, Nat.le_refl _⟩ ?_
    refine x_putI (pc := 77) (i := c_draft) fl_X3_63 dX3_parse_77 (sN_c_draft hS) (sT_c_draft hS) rfl ?_
    have h := h _ rfl
    generalize up I c_draft 0 (if w32 (16) < w32 (v3) then 16 else v3) = I7 at h ⊢
    exact y_vret (pc := 80) dX3_parse_80 rfl ⟨Nat.le_refl _, Nat.le_refl _⟩ h
  · have h := h.2 e
    refine x_aload_n (pc := 41) dX3_parse_41 rfl rfl ?_
    refine x_getI (pc := 42) (i := c_parser) fl_X3_35 dX3_parse_42 (sN_c_parser hS) (sT_c_parser hS) rfl ?_
    refine x_if_eq (pc := 45) (t := 67) dX3_parse_45 (by decide) (fun e => ?_) (fun e => ?_)
    · have h := h.1 e
      refine x_aload_n (pc := 67) dX3_parse_67 rfl rfl ?_
      refine x_getR (pc := 68) (i := c_parser) (a := c_draft) fl_X3_12 dX3_parse_68 (sN_c_parser hS) (sT_c_parser hS) rfl (sR_c_parser_0 hS) ?_
      refine x_iload_n (pc := 71) dX3_parse_71 rfl rfl ?_
      refine x_bipush (pc := 72) dX3_parse_72 (by decide) ?_
      refine x_min (pc := 74) ⟨ml_X3_57, w_mins, w_mi, w_minc⟩ dX3_parse_74 ⟨by decide, Nat.le_of_ble_eq_true rfl, Nat.le_refl _, Nat.le_refl _⟩ ?_
      refine x_putI (pc := 77) (i := c_draft) fl_X3_63 dX3_parse_77 (sN_c_draft hS) (sT_c_draft hS) rfl ?_
      have h := h _ rfl
      generalize up I c_draft 0 (if w32 (16) < w32 (v3) then 16 else v3) = I8 at h ⊢
      exact y_vret (pc := 80) dX3_parse_80 rfl ⟨Nat.le_refl _, Nat.le_refl _⟩ h
    · have h := h.2 e
      refine x_aload_n (pc := 48) dX3_parse_48 rfl rfl ?_
      refine x_getI (pc := 49) (i := c_parser) fl_X3_18 dX3_parse_49 (sN_c_parser hS) (sT_c_parser hS) rfl ?_
      refine x_iconst (pc := 52) dX3_parse_52 ?_
      refine x_icmp_eq (pc := 53) (t := 67) dX3_parse_53 (by decide) (fun e => ?_) (fun e => ?_)
      · have h := h.1 e
        refine x_aload_n (pc := 67) dX3_parse_67 rfl rfl ?_
        refine x_getR (pc := 68) (i := c_parser) (a := c_draft) fl_X3_12 dX3_parse_68 (sN_c_parser hS) (sT_c_parser hS) rfl (sR_c_parser_0 hS) ?_
        refine x_iload_n (pc := 71) dX3_parse_71 rfl rfl ?_
        refine x_bipush (pc := 72) dX3_parse_72 (by decide) ?_
        refine x_min (pc := 74) ⟨ml_X3_57, w_mins, w_mi, w_minc⟩ dX3_parse_74 ⟨by decide, Nat.le_of_ble_eq_true rfl, Nat.le_refl _, Nat.le_refl _⟩ ?_
        refine x_putI (pc := 77) (i := c_draft) fl_X3_63 dX3_parse_77 (sN_c_draft hS) (sT_c_draft hS) rfl ?_
        have h := h _ rfl
        generalize up I c_draft 0 (if w32 (16) < w32 (v3) then 16 else v3) = I9 at h ⊢
        exact y_vret (pc := 80) dX3_parse_80 rfl ⟨Nat.le_refl _, Nat.le_refl _⟩ h
      · have h := h.2 e
        refine x_aload_n (pc := 56) dX3_parse_56 rfl rfl ?_
        refine x_iload_n (pc := 57) dX3_parse_57 rfl rfl ?_
        refine y_Vv (pc := 58) (i := c_parser) (As := [vi (v3)]) (rest := []) ok_X3_parseLine ml_X3_53 dX3_parse_58 (sN_c_parser hS) (sT_c_parser hS) (by decide) rfl rfl rfl ⟨rfl, rfl⟩ ⟨by decide, by decide⟩ ⟨Nat.le_refl _, Nat.le_refl _⟩ (Nat.le_of_ble_eq_true rfl) rfl h (fun I10 h => ?_)
        refine x_iinc (pc := 61) (L' := [some (vr G c_parser), none, none, some (vi (v3 + 1))]) dX3_parse_61 rfl (by decide) (xst1 rfl rfl trivial) ?_
        refine x_goto (pc := 64) (t := 34) dX3_parse_64 (by decide) ?_
        exact h
set_option maxHeartbeats 4000000 in
set_option maxRecDepth 100000 in
theorem b_Ru_copyFrom {G : XG} {S : XS} {I : XI}  {R : XI → Prop} (hS : xSh S)  (h : (∀ I1 : XI, I1 = up I c_rules 0 (I c_draft 0) → To_copyRow G S I1 (c_draft_deeds) (c_rules_deeds) (fun I2 => To_copyRow G S I2 (c_draft_numbers) (c_rules_numbers) (fun I3 => To_copyRow G S I3 (c_draft_tests) (c_rules_tests) (fun I4 => To_copyRow G S I4 (c_draft_nots) (c_rules_nots) (fun I5 => To_copyRow G S I5 (c_draft_subjects) (c_rules_subjects) (fun I6 => To_copyRow G S I6 (c_draft_signs) (c_rules_signs) (fun I7 => To_copyRow G S I7 (c_draft_bounds) (c_rules_bounds) (fun I8 => R I8))))))))) : Ru_copyFrom G S I  R := by
  refine x_start [some (vr G c_rules), some (vr G c_draft)] (by decide) (Nat.le_of_ble_eq_true rfl) rfl ?_
  refine x_aload_n (pc := 0) dX5_copyFrom_0 rfl rfl ?_
  refine x_aload_n (pc := 1) dX5_copyFrom_1 rfl rfl ?_
  refine x_getI (pc := 2) (i := c_draft) fl_X5_9 dX5_copyFrom_2 (sN_c_draft hS) (sT_c_draft hS) rfl ?_
  refine x_putI (pc := 5) (i := c_rules) fl_X5_9 dX5_copyFrom_5 (sN_c_rules hS) (sT_c_rules hS) rfl ?_
  have h := h _ rfl
  generalize up I c_rules 0 (I c_draft 0) = I1 at h ⊢
  refine x_aload_n (pc := 8) dX5_copyFrom_8 rfl rfl ?_
  refine x_getR (pc := 9) (i := c_draft) (a := c_draft_deeds) fl_X5_15 dX5_copyFrom_9 (sN_c_draft hS) (sT_c_draft hS) rfl (sR_c_draft_1 hS) ?_
  refine x_aload_n (pc := 12) dX5_copyFrom_12 rfl rfl ?_
  refine x_getR (pc := 13) (i := c_rules) (a := c_rules_deeds) fl_X5_15 dX5_copyFrom_13 (sN_c_rules hS) (sT_c_rules hS) rfl (sR_c_rules_1 hS) ?_
  refine y_Sv (pc := 16) (As := [vr G c_draft_deeds, vr G c_rules_deeds]) (rest := []) ok_X7_copyRow ml_X5_55 dX5_copyFrom_16 rfl ⟨rfl, rfl⟩ ⟨by decide, by decide⟩ ⟨Nat.le_refl _, Nat.le_refl _⟩ (Nat.le_of_ble_eq_true rfl) rfl h (fun I2 h => ?_)
  refine x_aload_n (pc := 19) dX5_copyFrom_19 rfl rfl ?_
  refine x_getR (pc := 20) (i := c_draft) (a := c_draft_numbers) fl_X5_19 dX5_copyFrom_20 (sN_c_draft hS) (sT_c_draft hS) rfl (sR_c_draft_2 hS) ?_
  refine x_aload_n (pc := 23) dX5_copyFrom_23 rfl rfl ?_
  refine x_getR (pc := 24) (i := c_rules) (a := c_rules_numbers) fl_X5_19 dX5_copyFrom_24 (sN_c_rules hS) (sT_c_rules hS) rfl (sR_c_rules_2 hS) ?_
  refine y_Sv (pc := 27) (As := [vr G c_draft_numbers, vr G c_rules_numbers]) (rest := []) ok_X7_copyRow ml_X5_55 dX5_copyFrom_27 rfl ⟨rfl, rfl⟩ ⟨by decide, by decide⟩ ⟨Nat.le_refl _, Nat.le_refl _⟩ (Nat.le_of_ble_eq_true rfl) rfl h (fun I3 h => ?_)
  refine x_aload_n (pc := 30) dX5_copyFrom_30 rfl rfl ?_
  refine x_getR (pc := 31) (i := c_draft) (a := c_draft_tests) fl_X5_22 dX5_copyFrom_31 (sN_c_draft hS) (sT_c_draft hS) rfl (sR_c_draft_3 hS) ?_
  refine x_aload_n (pc := 34) dX5_copyFrom_34 rfl rfl ?_
  refine x_getR (pc := 35) (i := c_rules) (a := c_rules_tests) fl_X5_22 dX5_copyFrom_35 (sN_c_rules hS) (sT_c_rules hS) rfl (sR_c_rules_3 hS) ?_
  refine y_Sv (pc := 38) (As := [vr G c_draft_tests, vr G c_rules_tests]) (rest := []) ok_X7_copyRow ml_X5_55 dX5_copyFrom_38 rfl ⟨rfl, rfl⟩ ⟨by decide, by decide⟩ ⟨Nat.le_refl _, Nat.le_refl _⟩ (Nat.le_of_ble_eq_true rfl) rfl h (fun I4 h => ?_)
  refine x_aload_n (pc := 41) dX5_copyFrom_41 rfl rfl ?_
  refine x_getR (pc := 42) (i := c_draft) (a := c_draft_nots) fl_X5_25 dX5_copyFrom_42 (sN_c_draft hS) (sT_c_draft hS) rfl (sR_c_draft_4 hS) ?_
  refine x_aload_n (pc := 45) dX5_copyFrom_45 rfl rfl ?_
  refine x_getR (pc := 46) (i := c_rules) (a := c_rules_nots) fl_X5_25 dX5_copyFrom_46 (sN_c_rules hS) (sT_c_rules hS) rfl (sR_c_rules_4 hS) ?_
  refine y_Sv (pc := 49) (As := [vr G c_draft_nots, vr G c_rules_nots]) (rest := []) ok_X7_copyRow ml_X5_55 dX5_copyFrom_49 rfl ⟨rfl, rfl⟩ ⟨by decide, by decide⟩ ⟨Nat.le_refl _, Nat.le_refl _⟩ (Nat.le_of_ble_eq_true rfl) rfl h (fun I5 h => ?_)
  refine x_aload_n (pc := 52) dX5_copyFrom_52 rfl rfl ?_
  refine x_getR (pc := 53) (i := c_draft) (a := c_draft_subjects) fl_X5_28 dX5_copyFrom_53 (sN_c_draft hS) (sT_c_draft hS) rfl (sR_c_draft_5 hS) ?_
  refine x_aload_n (pc := 56) dX5_copyFrom_56 rfl rfl ?_
  refine x_getR (pc := 57) (i := c_rules) (a := c_rules_subjects) fl_X5_28 dX5_copyFrom_57 (sN_c_rules hS) (sT_c_rules hS) rfl (sR_c_rules_5 hS) ?_
  refine y_Sv (pc := 60) (As := [vr G c_draft_subjects, vr G c_rules_subjects]) (rest := []) ok_X7_copyRow ml_X5_55 dX5_copyFrom_60 rfl ⟨rfl, rfl⟩ ⟨by decide, by decide⟩ ⟨Nat.le_refl _, Nat.le_refl _⟩ (Nat.le_of_ble_eq_true rfl) rfl h (fun I6 h => ?_)
  refine x_aload_n (pc := 63) dX5_copyFrom_63 rfl rfl ?_
  refine x_getR (pc := 64) (i := c_draft) (a := c_draft_signs) fl_X5_31 dX5_copyFrom_64 (sN_c_draft hS) (sT_c_draft hS) rfl (sR_c_draft_6 hS) ?_
  refine x_aload_n (pc := 67) dX5_copyFrom_67 rfl rfl ?_
  refine x_getR (pc := 68) (i := c_rules) (a := c_rules_signs) fl_X5_31 dX5_copyFrom_68 (sN_c_rules hS) (sT_c_rules hS) rfl (sR_c_rules_6 hS) ?_
  refine y_Sv (pc := 71) (As := [vr G c_draft_signs, vr G c_rules_signs]) (rest := []) ok_X7_copyRow ml_X5_55 dX5_copyFrom_71 rfl ⟨rfl, rfl⟩ ⟨by decide, by decide⟩ ⟨Nat.le_refl _, Nat.le_refl _⟩ (Nat.le_of_ble_eq_true rfl) rfl h (fun I7 h => ?_)
  refine x_aload_n (pc := 74) dX5_copyFrom_74 rfl rfl ?_
  refine x_getR (pc := 75) (i := c_draft) (a := c_draft_bounds) fl_X5_34 dX5_copyFrom_75 (sN_c_draft hS) (sT_c_draft hS) rfl (sR_c_draft_7 hS) ?_
  refine x_aload_n (pc := 78) dX5_copyFrom_78 rfl rfl ?_
  refine x_getR (pc := 79) (i := c_rules) (a := c_rules_bounds) fl_X5_34 dX5_copyFrom_79 (sN_c_rules hS) (sT_c_rules hS) rfl (sR_c_rules_7 hS) ?_
  refine y_Sv (pc := 82) (As := [vr G c_draft_bounds, vr G c_rules_bounds]) (rest := []) ok_X7_copyRow ml_X5_55 dX5_copyFrom_82 rfl ⟨rfl, rfl⟩ ⟨by decide, by decide⟩ ⟨Nat.le_refl _, Nat.le_refl _⟩ (Nat.le_of_ble_eq_true rfl) rfl h (fun I8 h => ?_)
  exact y_vret (pc := 85) dX5_copyFrom_85 rfl ⟨Nat.le_refl _, Nat.le_refl _⟩ h
set_option maxHeartbeats 4000000 in
set_option maxRecDepth 100000 in
theorem b_Wa_stopAt {G : XG} {S : XS} {I : XI} {v1 : Int} {R : Int → XI → Prop} (hS : xSh S)  (h : Wa_stopAt_k10 G S I (v1) (0) (I c_walks 0) (0) R) : Wa_stopAt G S I v1 R := by
  refine x_start [some (vr G c_walks), some (vi (v1)), none, none, none, none] (by decide) (Nat.le_of_ble_eq_true rfl) rfl ?_
  refine x_iconst (pc := 0) dX8_stopAt_0 ?_
  refine x_istore_n (pc := 1) (L' := [some (vr G c_walks), some (vi (v1)), some (vi (0)), none, none, none]) dX8_stopAt_1 rfl (by decide) (xst1 rfl rfl rfl) ?_
  refine x_aload_n (pc := 2) dX8_stopAt_2 rfl rfl ?_
  refine x_getI (pc := 3) (i := c_walks) fl_X8_9 dX8_stopAt_3 (sN_c_walks hS) (sT_c_walks hS) rfl ?_
  refine x_istore_n (pc := 6) (L' := [some (vr G c_walks), some (vi (v1)), some (vi (0)), some (vi (I c_walks 0)), none, none]) dX8_stopAt_6 rfl (by decide) (xst1 rfl rfl rfl) ?_
  refine x_iconst (pc := 7) dX8_stopAt_7 ?_
  refine x_istore (pc := 8) (L' := [some (vr G c_walks), some (vi (v1)), some (vi (0)), some (vi (I c_walks 0)), some (vi (0)), none]) dX8_stopAt_8 (by decide) (xst1 rfl rfl rfl) ?_
  exact h
set_option maxHeartbeats 4000000 in
set_option maxRecDepth 100000 in
theorem b_Wa_stopAt_k10 {G : XG} {S : XS}  {I : XI} {v1 : Int} {v2 : Int} {v3 : Int} {v4 : Int} {R : Int → XI → Prop} (hS : xSh S)  (h : ((w32 (10) ≤ w32 (v4) → R ((-1)) I) ∧ (¬ (w32 (10) ≤ w32 (v4)) → ((w32 (v3) = 0 → R ((-1)) I) ∧ (¬ (w32 (v3) = 0) → Wa_leastStop G S I (v2) (v3) (fun r2 I1 => ((w32 (v4) = w32 (v1) → R (r2) I1) ∧ (¬ (w32 (v4) = w32 (v1)) → Wa_without G S I1 (v3) (r2) (fun r4 I3 => Wa_stopAt_k10 G S I3 (v1) (r2) (r4) (v4 + 1) R))))))))) : Wa_stopAt_k10 G S  I v1 v2 v3 v4 R := by
  unfold Wa_stopAt_k10
  refine x_iload (pc := 10) dX8_stopAt_10 rfl ?_
  refine x_bipush (pc := 12) dX8_stopAt_12 (by decide) ?_
  refine x_icmp_ge (pc := 14) (t := 54) dX8_stopAt_14 (by decide) (fun e => ?_) (fun e => ?_)
  · have h := h.1 e
    refine x_iconst (pc := 54) dX8_stopAt_54 ?_
    exact y_iret (pc := 55) dX8_stopAt_55 rfl ⟨Nat.le_refl _, Nat.le_refl _⟩ h
  · have h := h.2 e
    refine x_iload_n (pc := 17) dX8_stopAt_17 rfl rfl ?_
    refine x_if_eq (pc := 18) (t := 54) dX8_stopAt_18 (by decide) (fun e => ?_) (fun e => ?_)
    · have h := h.1 e
      refine x_iconst (pc := 54) dX8_stopAt_54 ?_
      exact y_iret (pc := 55) dX8_stopAt_55 rfl ⟨Nat.le_refl _, Nat.le_refl _⟩ h
    · have h := h.2 e
      refine x_aload_n (pc := 21) dX8_stopAt_21 rfl rfl ?_
      refine x_iload_n (pc := 22) dX8_stopAt_22 rfl rfl ?_
      refine x_iload_n (pc := 23) dX8_stopAt_23 rfl rfl ?_
      refine y_Vi (pc := 24) (i := c_walks) (As := [vi (v2), vi (v3)]) (rest := []) ok_X8_leastStop ml_X8_46 dX8_stopAt_24 (sN_c_walks hS) (sT_c_walks hS) (by decide) rfl rfl rfl ⟨rfl, rfl⟩ ⟨by decide, by decide⟩ ⟨Nat.le_refl _, Nat.le_refl _⟩ (Nat.le_of_ble_eq_true rfl) rfl h (fun r2 I1 h => ?_)
      refine x_istore (pc := 27) (L' := [some (vr G c_walks), some (vi (v1)), some (vi (v2)), some (vi (v3)), some (vi (v4)), some (vi (r2))]) dX8_stopAt_27 (by decide) (xst1 rfl rfl rfl) ?_
      refine x_iload (pc := 29) dX8_stopAt_29 rfl ?_
      refine x_iload_n (pc := 31) dX8_stopAt_31 rfl rfl ?_
      refine x_icmp_ne (pc := 32) (t := 38) dX8_stopAt_32 (by decide) (fun e => ?_) (fun e => ?_)
      · have h := h.1 e
        refine x_iload (pc := 35) dX8_stopAt_35 rfl ?_
        exact y_iret (pc := 37) dX8_stopAt_37 rfl ⟨Nat.le_refl _, Nat.le_refl _⟩ h
      · have h := h.2 e
        refine x_iload_n (pc := 38) dX8_stopAt_38 rfl rfl ?_
        refine x_iload (pc := 39) dX8_stopAt_39 rfl ?_
        refine y_Si (pc := 41) (As := [vi (v3), vi (r2)]) (rest := []) ok_X8_without ml_X8_50 dX8_stopAt_41 rfl ⟨rfl, rfl⟩ ⟨by decide, by decide⟩ ⟨Nat.le_refl _, Nat.le_refl _⟩ (Nat.le_of_ble_eq_true rfl) rfl h (fun r4 I3 h => ?_)
        refine x_istore_n (pc := 44) (L' := [some (vr G c_walks), some (vi (v1)), some (vi (v2)), some (vi (r4)), some (vi (v4)), some (vi (r2))]) dX8_stopAt_44 rfl (by decide) (xst1 rfl rfl rfl) ?_
        refine x_iload (pc := 45) dX8_stopAt_45 rfl ?_
        refine x_istore_n (pc := 47) (L' := [some (vr G c_walks), some (vi (v1)), some (vi (r2)), some (vi (r4)), some (vi (v4)), some (vi (r2))]) dX8_stopAt_47 rfl (by decide) (xst1 rfl rfl rfl) ?_
        refine x_iinc (pc := 48) (L' := [some (vr G c_walks), some (vi (v1)), some (vi (r2)), some (vi (r4)), some (vi (v4 + 1)), some (vi (r2))]) dX8_stopAt_48 rfl (by decide) (xst1 rfl rfl rfl) ?_
        refine x_goto (pc := 51) (t := 10) dX8_stopAt_51 (by decide) ?_
        refine x_less (L' := [some (vr G c_walks), some (vi (v1)), some (vi (r2)), some (vi (r4)), some (vi (v4 + 1)), none]) (And.intro rfl (And.intro rfl (And.intro rfl (And.intro rfl (And.intro rfl trivial))))) ?_
        exact h
set_option maxHeartbeats 4000000 in
set_option maxRecDepth 100000 in
theorem b_Ja_fill {G : XG} {S : XS} {I : XI} {v0 : Nat} {v1 : Int} {R : XI → Prop} (hS : xSh S) (hN_v0 : v0 < S.1) (hT_v0 : xtag S v0 = 13) (h : Ja_fill_k5 G S I (v0) (v1) (0) ((((xlen S v0) : Nat) : Int)) R) : Ja_fill G S I v0 v1 R := by
  refine x_start [some (vr G v0), some (vi (v1)), none, none] (by decide) (Nat.le_of_ble_eq_true rfl) rfl ?_
  refine x_iconst (pc := 0) dJ7_fill_53178_0 ?_
  refine x_istore_n (pc := 1) (L' := [some (vr G v0), some (vi (v1)), some (vi (0)), none]) dJ7_fill_53178_1 rfl (by decide) (xst1 rfl rfl rfl) ?_
  refine x_aload_n (pc := 2) dJ7_fill_53178_2 rfl rfl ?_
  refine y_alen (pc := 3) (i := v0) (n := (xlen S v0)) dJ7_fill_53178_3 hN_v0 hT_v0 rfl ?_
  refine x_istore_n (pc := 4) (L' := [some (vr G v0), some (vi (v1)), some (vi (0)), some (vi ((((xlen S v0) : Nat) : Int)))]) dJ7_fill_53178_4 rfl (by decide) (xst1 rfl rfl rfl) ?_
  exact h
set_option maxHeartbeats 4000000 in
set_option maxRecDepth 100000 in
theorem b_Ja_fill_k5 {G : XG} {S : XS}  {I : XI} {v0 : Nat} {v1 : Int} {v2 : Int} {v3 : Int} {R : XI → Prop} (hS : xSh S) (hN_v0 : v0 < S.1) (hT_v0 : xtag S v0 = 13) (h : ((w32 (v3) ≤ w32 (v2) → R I) ∧ (¬ (w32 (v3) ≤ w32 (v2)) → (inb (v2) (xlen S v0) ∧ (∀ I1 : XI, I1 = up I v0 (ix (v2)) (v1) → Ja_fill_k5 G S I1 (v0) (v1) (v2 + 1) (v3) R))))) : Ja_fill_k5 G S  I v0 v1 v2 v3 R := by
  unfold Ja_fill_k5
  refine x_iload_n (pc := 5) dJ7_fill_53178_5 rfl rfl ?_
  refine x_iload_n (pc := 6) dJ7_fill_53178_6 rfl rfl ?_
  refine x_icmp_ge (pc := 7) (t := 20) dJ7_fill_53178_7 (by decide) (fun e => ?_) (fun e => ?_)
  · have h := h.1 e
    exact y_vret (pc := 20) dJ7_fill_53178_20 rfl ⟨Nat.le_refl _, Nat.le_refl _⟩ h
  · have h := h.2 e
    refine x_aload_n (pc := 10) dJ7_fill_53178_10 rfl rfl ?_
    refine x_iload_n (pc := 11) dJ7_fill_53178_11 rfl rfl ?_
    refine x_iload_n (pc := 12) dJ7_fill_53178_12 rfl rfl ?_
    refine y_iast (pc := 13) (i := v0) (n := (xlen S v0)) dJ7_fill_53178_13 hN_v0 hT_v0 rfl h.1 ?_
    have h := h.2
    have h := h _ rfl
    generalize up I v0 (ix (v2)) (v1) = I1 at h ⊢
    refine x_iinc (pc := 14) (L' := [some (vr G v0), some (vi (v1)), some (vi (v2 + 1)), some (vi (v3))]) dJ7_fill_53178_14 rfl (by decide) (xst1 rfl rfl rfl) ?_
    refine x_goto (pc := 17) (t := 5) dJ7_fill_53178_17 (by decide) ?_
    exact h
set_option maxHeartbeats 4000000 in
set_option maxRecDepth 100000 in
theorem b_Wa_choose {G : XG} {S : XS} {I : XI} {v3 : Int} {R : XI → Prop} (hS : xSh S)  (h : ((w32 (I c_walks 6) = 0 → Wa_findDays G S I (fun I1 => Wa_findHome G S I1 (fun I2 => (∀ I3 : XI, I3 = up I2 c_walks 6 (1) → Wa_choose_k22 G S I3 (v3) R)))) ∧ (¬ (w32 (I c_walks 6) = 0) → Wa_choose_k22 G S I (v3) R))) : Wa_choose G S I v3 R := by
  refine x_start [some (vr G c_walks), some (vr G c_land), some (vr G c_sums), some (vi (v3)), none, none, none] (by decide) (Nat.le_of_ble_eq_true rfl) rfl ?_
  refine x_aload_n (pc := 0) dX8_choose_0 rfl rfl ?_
  refine x_getI (pc := 1) (i := c_walks) fl_X8_31 dX8_choose_1 (sN_c_walks hS) (sT_c_walks hS) rfl ?_
  refine x_if_ne (pc := 4) (t := 22) dX8_choose_4 (by decide) (fun e => ?_) (fun e => ?_)
  · have h := h.1 e
    refine x_aload_n (pc := 7) dX8_choose_7 rfl rfl ?_
    refine x_aload_n (pc := 8) dX8_choose_8 rfl rfl ?_
    refine y_Vv (pc := 9) (i := c_walks) (As := [vr G c_land]) (rest := []) ok_X8_findDays ml_X8_35 dX8_choose_9 (sN_c_walks hS) (sT_c_walks hS) (by decide) rfl rfl rfl ⟨rfl, rfl⟩ ⟨by decide, by decide⟩ ⟨Nat.le_refl _, Nat.le_refl _⟩ (Nat.le_of_ble_eq_true rfl) rfl h (fun I1 h => ?_)
    refine x_aload_n (pc := 12) dX8_choose_12 rfl rfl ?_
    refine x_aload_n (pc := 13) dX8_choose_13 rfl rfl ?_
    refine y_Vv (pc := 14) (i := c_walks) (As := [vr G c_land]) (rest := []) ok_X8_findHome ml_X8_39 dX8_choose_14 (sN_c_walks hS) (sT_c_walks hS) (by decide) rfl rfl rfl ⟨rfl, rfl⟩ ⟨by decide, by decide⟩ ⟨Nat.le_refl _, Nat.le_refl _⟩ (Nat.le_of_ble_eq_true rfl) rfl h (fun I2 h => ?_)
    refine x_aload_n (pc := 17) dX8_choose_17 rfl rfl ?_
    refine x_iconst (pc := 18) dX8_choose_18 ?_
    refine x_putZ (pc := 19) (i := c_walks) fl_X8_31 dX8_choose_19 (sN_c_walks hS) (sT_c_walks hS) rfl (Or.inr rfl) ?_
    have h := h _ rfl
    generalize up I2 c_walks 6 (1) = I3 at h ⊢
    exact h
  · have h := h.2 e
    exact h
set_option maxHeartbeats 4000000 in
set_option maxRecDepth 100000 in
theorem b_Wa_choose_k22 {G : XG} {S : XS}  {I : XI} {v3 : Int} {R : XI → Prop} (hS : xSh S)  (h : Wa_addUp G S I (fun I4 => (∀ I5 : XI, I5 = up I4 c_walks 0 (0) → Wa_choose_k36 G S I5 (v3) (1) R))) : Wa_choose_k22 G S  I v3 R := by
  unfold Wa_choose_k22
  refine x_aload_n (pc := 22) dX8_choose_22 rfl rfl ?_
  refine x_aload_n (pc := 23) dX8_choose_23 rfl rfl ?_
  refine x_aload_n (pc := 24) dX8_choose_24 rfl rfl ?_
  refine y_Vv (pc := 25) (i := c_walks) (As := [vr G c_land, vr G c_sums]) (rest := []) ok_X8_addUp ml_X8_42 dX8_choose_25 (sN_c_walks hS) (sT_c_walks hS) (by decide) rfl rfl rfl ⟨rfl, rfl⟩ ⟨by decide, by decide⟩ ⟨Nat.le_refl _, Nat.le_refl _⟩ (Nat.le_of_ble_eq_true rfl) rfl h (fun I4 h => ?_)
  refine x_aload_n (pc := 28) dX8_choose_28 rfl rfl ?_
  refine x_iconst (pc := 29) dX8_choose_29 ?_
  refine x_putI (pc := 30) (i := c_walks) fl_X8_9 dX8_choose_30 (sN_c_walks hS) (sT_c_walks hS) rfl ?_
  have h := h _ rfl
  generalize up I4 c_walks 0 (0) = I5 at h ⊢
  refine x_iconst (pc := 33) dX8_choose_33 ?_
  refine x_istore (pc := 34) (L' := [some (vr G c_walks), some (vr G c_land), some (vr G c_sums), some (vi (v3)), some (vi (1)), none, none]) dX8_choose_34 (by decide) (xst1 rfl rfl rfl) ?_
  refine x_less (L' := [some (vr G c_walks), none, none, some (vi (v3)), some (vi (1)), none, none]) (And.intro rfl (And.intro rfl (And.intro rfl trivial))) ?_
  exact h
set_option maxHeartbeats 4000000 in
set_option maxRecDepth 100000 in
theorem b_Wa_choose_k36 {G : XG} {S : XS}  {I : XI} {v3 : Int} {v4 : Int} {R : XI → Prop} (hS : xSh S)  (h : ((w32 (512) ≤ w32 (v4) → (inb ((I c_walks 0) * (10)) 5120 ∧ (∀ I6 : XI, I6 = up I c_walks 1 (I c_walks_home (ix ((I c_walks 0) * (10)))) → (inb (I6 c_walks 0) 512 ∧ (∀ I7 : XI, I7 = up I6 c_walks 2 (I6 c_walks_meets (ix (I6 c_walks 0))) → R I7))))) ∧ (¬ (w32 (512) ≤ w32 (v4)) → (inb ((v4) * (10)) 5120 ∧ (inb (v4) 512 ∧ (inb (I c_walks 0) 512 ∧ ((w32 (I c_walks_meets (ix (v4))) = w32 (I c_walks_meets (ix (I c_walks 0))) → (inb ((I c_walks 0) * (10)) 5120 ∧ ((w32 (I c_walks_home (ix ((I c_walks 0) * (10)))) ≤ w32 (I c_walks_home (ix ((v4) * (10)))) → Wa_choose_k97 G S I (v3) (v4) (I c_walks_home (ix ((v4) * (10)))) (0) R) ∧ (¬ (w32 (I c_walks_home (ix ((I c_walks 0) * (10)))) ≤ w32 (I c_walks_home (ix ((v4) * (10))))) → Wa_choose_k97 G S I (v3) (v4) (I c_walks_home (ix ((v4) * (10)))) (1) R)))) ∧ (¬ (w32 (I c_walks_meets (ix (v4))) = w32 (I c_walks_meets (ix (I c_walks 0)))) → Wa_choose_k97 G S I (v3) (v4) (I c_walks_home (ix ((v4) * (10)))) (0) R)))))))) : Wa_choose_k36 G S  I v3 v4 R := by
  unfold Wa_choose_k36
  refine x_iload (pc := 36) dX8_choose_36 rfl ?_
  refine x_sipush (pc := 38) dX8_choose_38 (by decide) ?_
  refine x_icmp_ge (pc := 41) (t := 141) dX8_choose_41 (by decide) (fun e => ?_) (fun e => ?_)
  · have h := h.1 e
    refine x_aload_n (pc := 141) dX8_choose_141 rfl rfl ?_
    refine x_aload_n (pc := 142) dX8_choose_142 rfl rfl ?_
    refine x_getR (pc := 143) (i := c_walks) (a := c_walks_home) fl_X8_25 dX8_choose_143 (sN_c_walks hS) (sT_c_walks hS) rfl (sR_c_walks_4 hS) ?_
    refine x_aload_n (pc := 146) dX8_choose_146 rfl rfl ?_
    refine x_getI (pc := 147) (i := c_walks) fl_X8_9 dX8_choose_147 (sN_c_walks hS) (sT_c_walks hS) rfl ?_
    refine x_bipush (pc := 150) dX8_choose_150 (by decide) ?_
    refine x_imul (pc := 152) dX8_choose_152 ?_
    refine y_iald (pc := 153) (i := c_walks_home) (n := 5120) dX8_choose_153 (sN_c_walks_home hS) (sT_c_walks_home hS) (sL_c_walks_home hS) h.1 ?_
    have h := h.2
    refine x_putI (pc := 154) (i := c_walks) fl_X8_15 dX8_choose_154 (sN_c_walks hS) (sT_c_walks hS) rfl ?_
    have h := h _ rfl
    generalize up I c_walks 1 (I c_walks_home (ix ((I c_walks 0) * (10)))) = I6 at h ⊢
    refine x_aload_n (pc := 157) dX8_choose_157 rfl rfl ?_
    refine x_aload_n (pc := 158) dX8_choose_158 rfl rfl ?_
    refine x_getR (pc := 159) (i := c_walks) (a := c_walks_meets) fl_X8_28 dX8_choose_159 (sN_c_walks hS) (sT_c_walks hS) rfl (sR_c_walks_5 hS) ?_
    refine x_aload_n (pc := 162) dX8_choose_162 rfl rfl ?_
    refine x_getI (pc := 163) (i := c_walks) fl_X8_9 dX8_choose_163 (sN_c_walks hS) (sT_c_walks hS) rfl ?_
    refine y_iald (pc := 166) (i := c_walks_meets) (n := 512) dX8_choose_166 (sN_c_walks_meets hS) (sT_c_walks_meets hS) (sL_c_walks_meets hS) h.1 ?_
    have h := h.2
    refine x_putI (pc := 167) (i := c_walks) fl_X8_18 dX8_choose_167 (sN_c_walks hS) (sT_c_walks hS) rfl ?_
    have h := h _ rfl
    generalize up I6 c_walks 2 (I6 c_walks_meets (ix (I6 c_walks 0))) = I7 at h ⊢
    exact y_vret (pc := 170) dX8_choose_170 rfl ⟨Nat.le_refl _, Nat.le_refl _⟩ h
  · have h := h.2 e
    refine x_aload_n (pc := 44) dX8_choose_44 rfl rfl ?_
    refine x_getR (pc := 45) (i := c_walks) (a := c_walks_home) fl_X8_25 dX8_choose_45 (sN_c_walks hS) (sT_c_walks hS) rfl (sR_c_walks_4 hS) ?_
    refine x_iload (pc := 48) dX8_choose_48 rfl ?_
    refine x_bipush (pc := 50) dX8_choose_50 (by decide) ?_
    refine x_imul (pc := 52) dX8_choose_52 ?_
    refine y_iald (pc := 53) (i := c_walks_home) (n := 5120) dX8_choose_53 (sN_c_walks_home hS) (sT_c_walks_home hS) (sL_c_walks_home hS) h.1 ?_
    have h := h.2
    refine x_istore (pc := 54) (L' := [some (vr G c_walks), none, none, some (vi (v3)), some (vi (v4)), some (vi (I c_walks_home (ix ((v4) * (10))))), none]) dX8_choose_54 (by decide) (xst1 rfl rfl rfl) ?_
    refine x_aload_n (pc := 56) dX8_choose_56 rfl rfl ?_
    refine x_getR (pc := 57) (i := c_walks) (a := c_walks_meets) fl_X8_28 dX8_choose_57 (sN_c_walks hS) (sT_c_walks hS) rfl (sR_c_walks_5 hS) ?_
    refine x_iload (pc := 60) dX8_choose_60 rfl ?_
    refine y_iald (pc := 62) (i := c_walks_meets) (n := 512) dX8_choose_62 (sN_c_walks_meets hS) (sT_c_walks_meets hS) (sL_c_walks_meets hS) h.1 ?_
    have h := h.2
    refine x_aload_n (pc := 63) dX8_choose_63 rfl rfl ?_
    refine x_getR (pc := 64) (i := c_walks) (a := c_walks_meets) fl_X8_28 dX8_choose_64 (sN_c_walks hS) (sT_c_walks hS) rfl (sR_c_walks_5 hS) ?_
    refine x_aload_n (pc := 67) dX8_choose_67 rfl rfl ?_
    refine x_getI (pc := 68) (i := c_walks) fl_X8_9 dX8_choose_68 (sN_c_walks hS) (sT_c_walks hS) rfl ?_
    refine y_iald (pc := 71) (i := c_walks_meets) (n := 512) dX8_choose_71 (sN_c_walks_meets hS) (sT_c_walks_meets hS) (sL_c_walks_meets hS) h.1 ?_
    have h := h.2
    refine x_icmp_ne (pc := 72) (t := 96) dX8_choose_72 (by decide) (fun e => ?_) (fun e => ?_)
    · have h := h.1 e
      refine x_iload (pc := 75) dX8_choose_75 rfl ?_
      refine x_aload_n (pc := 77) dX8_choose_77 rfl rfl ?_
      refine x_getR (pc := 78) (i := c_walks) (a := c_walks_home) fl_X8_25 dX8_choose_78 (sN_c_walks hS) (sT_c_walks hS) rfl (sR_c_walks_4 hS) ?_
      refine x_aload_n (pc := 81) dX8_choose_81 rfl rfl ?_
      refine x_getI (pc := 82) (i := c_walks) fl_X8_9 dX8_choose_82 (sN_c_walks hS) (sT_c_walks hS) rfl ?_
      refine x_bipush (pc := 85) dX8_choose_85 (by decide) ?_
      refine x_imul (pc := 87) dX8_choose_87 ?_
      refine y_iald (pc := 88) (i := c_walks_home) (n := 5120) dX8_choose_88 (sN_c_walks_home hS) (sT_c_walks_home hS) (sL_c_walks_home hS) h.1 ?_
      have h := h.2
      refine x_icmp_ge (pc := 89) (t := 96) dX8_choose_89 (by decide) (fun e => ?_) (fun e => ?_)
      · have h := h.1 e
        refine x_iconst (pc := 96) dX8_choose_96 ?_
        exact h
      · have h := h.2 e
        refine x_iconst (pc := 92) dX8_choose_92 ?_
        refine x_goto (pc := 93) (t := 97) dX8_choose_93 (by decide) ?_
        exact h
    · have h := h.2 e
      refine x_iconst (pc := 96) dX8_choose_96 ?_
      exact h
set_option maxHeartbeats 4000000 in
set_option maxRecDepth 100000 in
theorem b_Wa_choose_k97 {G : XG} {S : XS}  {I : XI} {v3 : Int} {v4 : Int} {v5 : Int} {s0 : Int} {R : XI → Prop} (hS : xSh S)  (h : ((w32 (v3) < w32 (v5) → Wa_choose_k36 G S I (v3) (v4 + 1) R) ∧ (¬ (w32 (v3) < w32 (v5)) → (inb (v4) 512 ∧ (inb (I c_walks 0) 512 ∧ ((w32 (I c_walks_meets (ix (I c_walks 0))) < w32 (I c_walks_meets (ix (v4))) → (∀ I8 : XI, I8 = up I c_walks 0 (v4) → Wa_choose_k36 G S I8 (v3) (v4 + 1) R)) ∧ (¬ (w32 (I c_walks_meets (ix (I c_walks 0))) < w32 (I c_walks_meets (ix (v4)))) → ((w32 (s0) = 0 → Wa_choose_k36 G S I (v3) (v4 + 1) R) ∧ (¬ (w32 (s0) = 0) → (∀ I9 : XI, I9 = up I c_walks 0 (v4) → Wa_choose_k36 G S I9 (v3) (v4 + 1) R)))))))))) : Wa_choose_k97 G S  I v3 v4 v5 s0 R := by
  unfold Wa_choose_k97
  refine x_istore (pc := 97) (L' := [some (vr G c_walks), none, none, some (vi (v3)), some (vi (v4)), some (vi (v5)), some (vi (s0))]) dX8_choose_97 (by decide) (xst1 rfl rfl rfl) ?_
  refine x_iload (pc := 99) dX8_choose_99 rfl ?_
  refine x_iload_n (pc := 101) dX8_choose_101 rfl rfl ?_
  refine x_icmp_gt (pc := 102) (t := 135) dX8_choose_102 (by decide) (fun e => ?_) (fun e => ?_)
  · have h := h.1 e
    refine x_iinc (pc := 135) (L' := [some (vr G c_walks), none, none, some (vi (v3)), some (vi (v4 + 1)), some (vi (v5)), some (vi (s0))]) dX8_choose_135 rfl (by decide) (xst1 rfl rfl rfl) ?_
    refine x_goto (pc := 138) (t := 36) dX8_choose_138 (by decide) ?_
    refine x_less (L' := [some (vr G c_walks), none, none, some (vi (v3)), some (vi (v4 + 1)), none, none]) (And.intro rfl (And.intro rfl (And.intro rfl trivial))) ?_
    exact h
  · have h := h.2 e
    refine x_aload_n (pc := 105) dX8_choose_105 rfl rfl ?_
    refine x_getR (pc := 106) (i := c_walks) (a := c_walks_meets) fl_X8_28 dX8_choose_106 (sN_c_walks hS) (sT_c_walks hS) rfl (sR_c_walks_5 hS) ?_
    refine x_iload (pc := 109) dX8_choose_109 rfl ?_
    refine y_iald (pc := 111) (i := c_walks_meets) (n := 512) dX8_choose_111 (sN_c_walks_meets hS) (sT_c_walks_meets hS) (sL_c_walks_meets hS) h.1 ?_
    have h := h.2
    refine x_aload_n (pc := 112) dX8_choose_112 rfl rfl ?_
    refine x_getR (pc := 113) (i := c_walks) (a := c_walks_meets) fl_X8_28 dX8_choose_113 (sN_c_walks hS) (sT_c_walks hS) rfl (sR_c_walks_5 hS) ?_
    refine x_aload_n (pc := 116) dX8_choose_116 rfl rfl ?_
    refine x_getI (pc := 117) (i := c_walks) fl_X8_9 dX8_choose_117 (sN_c_walks hS) (sT_c_walks hS) rfl ?_
    refine y_iald (pc := 120) (i := c_walks_meets) (n := 512) dX8_choose_120 (sN_c_walks_meets hS) (sT_c_walks_meets hS) (sL_c_walks_meets hS) h.1 ?_
    have h := h.2
    refine x_icmp_gt (pc := 121) (t := 129) dX8_choose_121 (by decide) (fun e => ?_) (fun e => ?_)
    · have h := h.1 e
      refine x_aload_n (pc := 129) dX8_choose_129 rfl rfl ?_
      refine x_iload (pc := 130) dX8_choose_130 rfl ?_
      refine x_putI (pc := 132) (i := c_walks) fl_X8_9 dX8_choose_132 (sN_c_walks hS) (sT_c_walks hS) rfl ?_
      have h := h _ rfl
      generalize up I c_walks 0 (v4) = I8 at h ⊢
      refine x_iinc (pc := 135) (L' := [some (vr G c_walks), none, none, some (vi (v3)), some (vi (v4 + 1)), some (vi (v5)), some (vi (s0))]) dX8_choose_135 rfl (by decide) (xst1 rfl rfl rfl) ?_
      refine x_goto (pc := 138) (t := 36) dX8_choose_138 (by decide) ?_
      refine x_less (L' := [some (vr G c_walks), none, none, some (vi (v3)), some (vi (v4 + 1)), none, none]) (And.intro rfl (And.intro rfl (And.intro rfl trivial))) ?_
      exact h
    · have h := h.2 e
      refine x_iload (pc := 124) dX8_choose_124 rfl ?_
      refine x_if_eq (pc := 126) (t := 135) dX8_choose_126 (by decide) (fun e => ?_) (fun e => ?_)
      · have h := h.1 e
        refine x_iinc (pc := 135) (L' := [some (vr G c_walks), none, none, some (vi (v3)), some (vi (v4 + 1)), some (vi (v5)), some (vi (s0))]) dX8_choose_135 rfl (by decide) (xst1 rfl rfl rfl) ?_
        refine x_goto (pc := 138) (t := 36) dX8_choose_138 (by decide) ?_
        refine x_less (L' := [some (vr G c_walks), none, none, some (vi (v3)), some (vi (v4 + 1)), none, none]) (And.intro rfl (And.intro rfl (And.intro rfl trivial))) ?_
        exact h
      · have h := h.2 e
        refine x_aload_n (pc := 129) dX8_choose_129 rfl rfl ?_
        refine x_iload (pc := 130) dX8_choose_130 rfl ?_
        refine x_putI (pc := 132) (i := c_walks) fl_X8_9 dX8_choose_132 (sN_c_walks hS) (sT_c_walks hS) rfl ?_
        have h := h _ rfl
        generalize up I c_walks 0 (v4) = I9 at h ⊢
        refine x_iinc (pc := 135) (L' := [some (vr G c_walks), none, none, some (vi (v3)), some (vi (v4 + 1)), some (vi (v5)), some (vi (s0))]) dX8_choose_135 rfl (by decide) (xst1 rfl rfl rfl) ?_
        refine x_goto (pc := 138) (t := 36) dX8_choose_138 (by decide) ?_
        refine x_less (L' := [some (vr G c_walks), none, none, some (vi (v3)), some (vi (v4 + 1)), none, none]) (And.intro rfl (And.intro rfl (And.intro rfl trivial))) ?_
        exact h
set_option maxHeartbeats 4000000 in
set_option maxRecDepth 100000 in
theorem b_La_setWay {G : XG} {S : XS} {I : XI} {v1 : Int} {v2 : Int} {v3 : Int} {R : XI → Prop} (hS : xSh S)  (h : (inb (((v1) * (10)) + (v2)) 100 ∧ (∀ I1 : XI, I1 = up I c_land_ways (ix (((v1) * (10)) + (v2))) (v3) → (inb (((v2) * (10)) + (v1)) 100 ∧ (∀ I2 : XI, I2 = up I1 c_land_ways (ix (((v2) * (10)) + (v1))) (v3) → R I2))))) : La_setWay G S I v1 v2 v3 R := by
  refine x_start [some (vr G c_land), some (vi (v1)), some (vi (v2)), some (vi (v3))] (by decide) (Nat.le_of_ble_eq_true rfl) rfl ?_
  refine x_aload_n (pc := 0) dX2_setWay_0 rfl rfl ?_
  refine x_getR (pc := 1) (i := c_land) (a := c_land_ways) fl_X2_18 dX2_setWay_1 (sN_c_land hS) (sT_c_land hS) rfl (sR_c_land_2 hS) ?_
  refine x_iload_n (pc := 4) dX2_setWay_4 rfl rfl ?_
  refine x_bipush (pc := 5) dX2_setWay_5 (by decide) ?_
  refine x_imul (pc := 7) dX2_setWay_7 ?_
  refine x_iload_n (pc := 8) dX2_setWay_8 rfl rfl ?_
  refine x_iadd (pc := 9) dX2_setWay_9 ?_
  refine x_iload_n (pc := 10) dX2_setWay_10 rfl rfl ?_
  refine y_iast (pc := 11) (i := c_land_ways) (n := 100) dX2_setWay_11 (sN_c_land_ways hS) (sT_c_land_ways hS) (sL_c_land_ways hS) h.1 ?_
  have h := h.2
  have h := h _ rfl
  generalize up I c_land_ways (ix (((v1) * (10)) + (v2))) (v3) = I1 at h ⊢
  refine x_aload_n (pc := 12) dX2_setWay_12 rfl rfl ?_
  refine x_getR (pc := 13) (i := c_land) (a := c_land_ways) fl_X2_18 dX2_setWay_13 (sN_c_land hS) (sT_c_land hS) rfl (sR_c_land_2 hS) ?_
  refine x_iload_n (pc := 16) dX2_setWay_16 rfl rfl ?_
  refine x_bipush (pc := 17) dX2_setWay_17 (by decide) ?_
  refine x_imul (pc := 19) dX2_setWay_19 ?_
  refine x_iload_n (pc := 20) dX2_setWay_20 rfl rfl ?_
  refine x_iadd (pc := 21) dX2_setWay_21 ?_
  refine x_iload_n (pc := 22) dX2_setWay_22 rfl rfl ?_
  refine y_iast (pc := 23) (i := c_land_ways) (n := 100) dX2_setWay_23 (sN_c_land_ways hS) (sT_c_land_ways hS) (sL_c_land_ways hS) h.1 ?_
  have h := h.2
  have h := h _ rfl
  generalize up I1 c_land_ways (ix (((v2) * (10)) + (v1))) (v3) = I2 at h ⊢
  exact y_vret (pc := 24) dX2_setWay_24 rfl ⟨Nat.le_refl _, Nat.le_refl _⟩ h
set_option maxHeartbeats 4000000 in
set_option maxRecDepth 100000 in
theorem b_Wt_aim {G : XG} {S : XS} {I : XI} {v1 : Int} {R : XI → Prop} (hS : xSh S)  (h : ((w32 (v1) = w32 (I c_then 6) → R I) ∧ (¬ (w32 (v1) = w32 (I c_then 6)) → (∀ I1 : XI, I1 = up I c_then 6 (v1) → Wt_forget G S I1 (fun I2 => R I2))))) : Wt_aim G S I v1 R := by
  refine x_start [some (vr G c_then), some (vi (v1))] (by decide) (Nat.le_of_ble_eq_true rfl) rfl ?_
  refine x_iload_n (pc := 0) dX9_aim_0 rfl rfl ?_
  refine x_aload_n (pc := 1) dX9_aim_1 rfl rfl ?_
  refine x_getI (pc := 2) (i := c_then) fl_X9_30 dX9_aim_2 (sN_c_then hS) (sT_c_then hS) rfl ?_
  refine x_icmp_eq (pc := 5) (t := 17) dX9_aim_5 (by decide) (fun e => ?_) (fun e => ?_)
  · have h := h.1 e
    exact y_vret (pc := 17) dX9_aim_17 rfl ⟨Nat.le_refl _, Nat.le_refl _⟩ h
  · have h := h.2 e
    refine x_aload_n (pc := 8) dX9_aim_8 rfl rfl ?_
    refine x_iload_n (pc := 9) dX9_aim_9 rfl rfl ?_
    refine x_putI (pc := 10) (i := c_then) fl_X9_30 dX9_aim_10 (sN_c_then hS) (sT_c_then hS) rfl ?_
    have h := h _ rfl
    generalize up I c_then 6 (v1) = I1 at h ⊢
    refine x_aload_n (pc := 13) dX9_aim_13 rfl rfl ?_
    refine y_Vv (pc := 14) (i := c_then) (As := []) (rest := []) ok_X9_forget ml_X9_40 dX9_aim_14 (sN_c_then hS) (sT_c_then hS) (by decide) rfl rfl rfl ⟨rfl, rfl⟩ ⟨by decide, by decide⟩ ⟨Nat.le_refl _, Nat.le_refl _⟩ (Nat.le_of_ble_eq_true rfl) rfl h (fun I2 h => ?_)
    exact y_vret (pc := 17) dX9_aim_17 rfl ⟨Nat.le_refl _, Nat.le_refl _⟩ h
set_option maxHeartbeats 4000000 in
set_option maxRecDepth 100000 in
theorem b_Sh_lastAct {G : XG} {S : XS} {I : XI} {v1 : Int} {v2 : Int} {v3 : Int} {v4 : Int} {R : Int → XI → Prop} (hS : xSh S)  (h : Sh_lastAct_k9 G S I (v1) (v2) (v3) (v4) ((-1)) (0) (0) R) : Sh_lastAct G S I v1 v2 v3 v4 R := by
  refine x_start [some (vr G c_shelf), some (vi (v1)), some (vi (v2)), some (vi (v3)), some (vi (v4)), none, none, none] (by decide) (Nat.le_of_ble_eq_true rfl) rfl ?_
  refine x_iconst (pc := 0) dX6_lastAct_0 ?_
  refine x_istore (pc := 1) (L' := [some (vr G c_shelf), some (vi (v1)), some (vi (v2)), some (vi (v3)), some (vi (v4)), some (vi ((-1))), none, none]) dX6_lastAct_1 (by decide) (xst1 rfl rfl rfl) ?_
  refine x_iconst (pc := 3) dX6_lastAct_3 ?_
  refine x_istore (pc := 4) (L' := [some (vr G c_shelf), some (vi (v1)), some (vi (v2)), some (vi (v3)), some (vi (v4)), some (vi ((-1))), some (vi (0)), none]) dX6_lastAct_4 (by decide) (xst1 rfl rfl rfl) ?_
  refine x_iconst (pc := 6) dX6_lastAct_6 ?_
  refine x_istore (pc := 7) (L' := [some (vr G c_shelf), some (vi (v1)), some (vi (v2)), some (vi (v3)), some (vi (v4)), some (vi ((-1))), some (vi (0)), some (vi (0))]) dX6_lastAct_7 (by decide) (xst1 rfl rfl rfl) ?_
  exact h
set_option maxHeartbeats 4000000 in
set_option maxRecDepth 100000 in
theorem b_Sh_lastAct_k9 {G : XG} {S : XS}  {I : XI} {v1 : Int} {v2 : Int} {v3 : Int} {v4 : Int} {v5 : Int} {v6 : Int} {v7 : Int} {R : Int → XI → Prop} (hS : xSh S)  (h : ((w32 (I c_shelf 6) ≤ w32 (v7) → R (v5) I) ∧ (¬ (w32 (I c_shelf 6) ≤ w32 (v7)) → (inb (v7) 150 ∧ ((w32 (I c_shelf_actBooks (ix (v7))) = w32 (v1) → (inb (v7) 150 ∧ ((w32 (v2) < w32 (I c_shelf_actKinds (ix (v7))) → Sh_lastAct_k9 G S I (v1) (v2) (v3) (v4) (v5) (v6) (v7 + 1) R) ∧ (¬ (w32 (v2) < w32 (I c_shelf_actKinds (ix (v7)))) → (inb (v7) 150 ∧ ((w32 (v4) < w32 (I c_shelf_actTold (ix (v7))) → Sh_lastAct_k9 G S I (v1) (v2) (v3) (v4) (v5) (v6) (v7 + 1) R) ∧ (¬ (w32 (v4) < w32 (I c_shelf_actTold (ix (v7)))) → (inb (v7) 150 ∧ ((w32 (v3) < w32 (I c_shelf_actWeeks (ix (v7))) → Sh_lastAct_k9 G S I (v1) (v2) (v3) (v4) (v5) (v6) (v7 + 1) R) ∧ (¬ (w32 (v3) < w32 (I c_shelf_actWeeks (ix (v7)))) → (inb (v7) 150 ∧ ((w32 (I c_shelf_actWeeks (ix (v7))) < w32 (v6) → Sh_lastAct_k9 G S I (v1) (v2) (v3) (v4) (v5) (v6) (v7 + 1) R) ∧ (¬ (w32 (I c_shelf_actWeeks (ix (v7))) < w32 (v6)) → (inb (v7) 150 ∧ Sh_lastAct_k9 G S I (v1) (v2) (v3) (v4) (v7) (I c_shelf_actWeeks (ix (v7))) (v7 + 1) R)))))))))))))) ∧ (¬ (w32 (I c_shelf_actBooks (ix (v7))) = w32 (v1)) → Sh_lastAct_k9 G S I (v1) (v2) (v3) (v4) (v5) (v6) (v7 + 1) R)))))) : Sh_lastAct_k9 G S  I v1 v2 v3 v4 v5 v6 v7 R := by
  unfold Sh_lastAct_k9
  refine x_iload (pc := 9) dX6_lastAct_9 rfl ?_
  refine x_aload_n (pc := 11) dX6_lastAct_11 rfl rfl ?_
  refine x_getI (pc := 12) (i := c_shelf) fl_X6_31 dX6_lastAct_12 (sN_c_shelf hS) (sT_c_shelf hS) rfl ?_
  refine x_icmp_ge (pc := 15) (t := 94) dX6_lastAct_15 (by decide) (fun e => ?_) (fun e => ?_)
  · have h := h.1 e
    refine x_iload (pc := 94) dX6_lastAct_94 rfl ?_
    exact y_iret (pc := 96) dX6_lastAct_96 rfl ⟨Nat.le_refl _, Nat.le_refl _⟩ h
  · have h := h.2 e
    refine x_aload_n (pc := 18) dX6_lastAct_18 rfl rfl ?_
    refine x_getR (pc := 19) (i := c_shelf) (a := c_shelf_actBooks) fl_X6_34 dX6_lastAct_19 (sN_c_shelf hS) (sT_c_shelf hS) rfl (sR_c_shelf_7 hS) ?_
    refine x_iload (pc := 22) dX6_lastAct_22 rfl ?_
    refine y_iald (pc := 24) (i := c_shelf_actBooks) (n := 150) dX6_lastAct_24 (sN_c_shelf_actBooks hS) (sT_c_shelf_actBooks hS) (sL_c_shelf_actBooks hS) h.1 ?_
    have h := h.2
    refine x_iload_n (pc := 25) dX6_lastAct_25 rfl rfl ?_
    refine x_icmp_ne (pc := 26) (t := 88) dX6_lastAct_26 (by decide) (fun e => ?_) (fun e => ?_)
    · have h := h.1 e
      refine x_aload_n (pc := 29) dX6_lastAct_29 rfl rfl ?_
      refine x_getR (pc := 30) (i := c_shelf) (a := c_shelf_actKinds) fl_X6_37 dX6_lastAct_30 (sN_c_shelf hS) (sT_c_shelf hS) rfl (sR_c_shelf_8 hS) ?_
      refine x_iload (pc := 33) dX6_lastAct_33 rfl ?_
      refine y_iald (pc := 35) (i := c_shelf_actKinds) (n := 150) dX6_lastAct_35 (sN_c_shelf_actKinds hS) (sT_c_shelf_actKinds hS) (sL_c_shelf_actKinds hS) h.1 ?_
      have h := h.2
      refine x_iload_n (pc := 36) dX6_lastAct_36 rfl rfl ?_
      refine x_icmp_gt (pc := 37) (t := 88) dX6_lastAct_37 (by decide) (fun e => ?_) (fun e => ?_)
      · have h := h.1 e
        refine x_iinc (pc := 88) (L' := [some (vr G c_shelf), some (vi (v1)), some (vi (v2)), some (vi (v3)), some (vi (v4)), some (vi (v5)), some (vi (v6)), some (vi (v7 + 1))]) dX6_lastAct_88 rfl (by decide) (xst1 rfl rfl rfl) ?_
        refine x_goto (pc := 91) (t := 9) dX6_lastAct_91 (by decide) ?_
        exact h
      · have h := h.2 e
        refine x_aload_n (pc := 40) dX6_lastAct_40 rfl rfl ?_
        refine x_getR (pc := 41) (i := c_shelf) (a := c_shelf_actTold) fl_X6_46 dX6_lastAct_41 (sN_c_shelf hS) (sT_c_shelf hS) rfl (sR_c_shelf_11 hS) ?_
        refine x_iload (pc := 44) dX6_lastAct_44 rfl ?_
        refine y_iald (pc := 46) (i := c_shelf_actTold) (n := 150) dX6_lastAct_46 (sN_c_shelf_actTold hS) (sT_c_shelf_actTold hS) (sL_c_shelf_actTold hS) h.1 ?_
        have h := h.2
        refine x_iload (pc := 47) dX6_lastAct_47 rfl ?_
        refine x_icmp_gt (pc := 49) (t := 88) dX6_lastAct_49 (by decide) (fun e => ?_) (fun e => ?_)
        · have h := h.1 e
          refine x_iinc (pc := 88) (L' := [some (vr G c_shelf), some (vi (v1)), some (vi (v2)), some (vi (v3)), some (vi (v4)), some (vi (v5)), some (vi (v6)), some (vi (v7 + 1))]) dX6_lastAct_88 rfl (by decide) (xst1 rfl rfl rfl) ?_
          refine x_goto (pc := 91) (t := 9) dX6_lastAct_91 (by decide) ?_
          exact h
        · have h := h.2 e
          refine x_aload_n (pc := 52) dX6_lastAct_52 rfl rfl ?_
          refine x_getR (pc := 53) (i := c_shelf) (a := c_shelf_actWeeks) fl_X6_43 dX6_lastAct_53 (sN_c_shelf hS) (sT_c_shelf hS) rfl (sR_c_shelf_10 hS) ?_
          refine x_iload (pc := 56) dX6_lastAct_56 rfl ?_
          refine y_iald (pc := 58) (i := c_shelf_actWeeks) (n := 150) dX6_lastAct_58 (sN_c_shelf_actWeeks hS) (sT_c_shelf_actWeeks hS) (sL_c_shelf_actWeeks hS) h.1 ?_
          have h := h.2
          refine x_iload_n (pc := 59) dX6_lastAct_59 rfl rfl ?_
          refine x_icmp_gt (pc := 60) (t := 88) dX6_lastAct_60 (by decide) (fun e => ?_) (fun e => ?_)
          · have h := h.1 e
            refine x_iinc (pc := 88) (L' := [some (vr G c_shelf), some (vi (v1)), some (vi (v2)), some (vi (v3)), some (vi (v4)), some (vi (v5)), some (vi (v6)), some (vi (v7 + 1))]) dX6_lastAct_88 rfl (by decide) (xst1 rfl rfl rfl) ?_
            refine x_goto (pc := 91) (t := 9) dX6_lastAct_91 (by decide) ?_
            exact h
          · have h := h.2 e
            refine x_aload_n (pc := 63) dX6_lastAct_63 rfl rfl ?_
            refine x_getR (pc := 64) (i := c_shelf) (a := c_shelf_actWeeks) fl_X6_43 dX6_lastAct_64 (sN_c_shelf hS) (sT_c_shelf hS) rfl (sR_c_shelf_10 hS) ?_
            refine x_iload (pc := 67) dX6_lastAct_67 rfl ?_
            refine y_iald (pc := 69) (i := c_shelf_actWeeks) (n := 150) dX6_lastAct_69 (sN_c_shelf_actWeeks hS) (sT_c_shelf_actWeeks hS) (sL_c_shelf_actWeeks hS) h.1 ?_
            have h := h.2
            refine x_iload (pc := 70) dX6_lastAct_70 rfl ?_
            refine x_icmp_lt (pc := 72) (t := 88) dX6_lastAct_72 (by decide) (fun e => ?_) (fun e => ?_)
            · have h := h.1 e
              refine x_iinc (pc := 88) (L' := [some (vr G c_shelf), some (vi (v1)), some (vi (v2)), some (vi (v3)), some (vi (v4)), some (vi (v5)), some (vi (v6)), some (vi (v7 + 1))]) dX6_lastAct_88 rfl (by decide) (xst1 rfl rfl rfl) ?_
              refine x_goto (pc := 91) (t := 9) dX6_lastAct_91 (by decide) ?_
              exact h
            · have h := h.2 e
              refine x_iload (pc := 75) dX6_lastAct_75 rfl ?_
              refine x_istore (pc := 77) (L' := [some (vr G c_shelf), some (vi (v1)), some (vi (v2)), some (vi (v3)), some (vi (v4)), some (vi (v7)), some (vi (v6)), some (vi (v7))]) dX6_lastAct_77 (by decide) (xst1 rfl rfl rfl) ?_
              refine x_aload_n (pc := 79) dX6_lastAct_79 rfl rfl ?_
              refine x_getR (pc := 80) (i := c_shelf) (a := c_shelf_actWeeks) fl_X6_43 dX6_lastAct_80 (sN_c_shelf hS) (sT_c_shelf hS) rfl (sR_c_shelf_10 hS) ?_
              refine x_iload (pc := 83) dX6_lastAct_83 rfl ?_
              refine y_iald (pc := 85) (i := c_shelf_actWeeks) (n := 150) dX6_lastAct_85 (sN_c_shelf_actWeeks hS) (sT_c_shelf_actWeeks hS) (sL_c_shelf_actWeeks hS) h.1 ?_
              have h := h.2
              refine x_istore (pc := 86) (L' := [some (vr G c_shelf), some (vi (v1)), some (vi (v2)), some (vi (v3)), some (vi (v4)), some (vi (v7)), some (vi (I c_shelf_actWeeks (ix (v7)))), some (vi (v7))]) dX6_lastAct_86 (by decide) (xst1 rfl rfl rfl) ?_
              refine x_iinc (pc := 88) (L' := [some (vr G c_shelf), some (vi (v1)), some (vi (v2)), some (vi (v3)), some (vi (v4)), some (vi (v7)), some (vi (I c_shelf_actWeeks (ix (v7)))), some (vi (v7 + 1))]) dX6_lastAct_88 rfl (by decide) (xst1 rfl rfl rfl) ?_
              refine x_goto (pc := 91) (t := 9) dX6_lastAct_91 (by decide) ?_
              exact h
    · have h := h.2 e
      refine x_iinc (pc := 88) (L' := [some (vr G c_shelf), some (vi (v1)), some (vi (v2)), some (vi (v3)), some (vi (v4)), some (vi (v5)), some (vi (v6)), some (vi (v7 + 1))]) dX6_lastAct_88 rfl (by decide) (xst1 rfl rfl rfl) ?_
      refine x_goto (pc := 91) (t := 9) dX6_lastAct_91 (by decide) ?_
      exact h
set_option maxHeartbeats 4000000 in
set_option maxRecDepth 100000 in
theorem b_Sh_isTorn {G : XG} {S : XS} {I : XI} {v1 : Int} {v2 : Int} {v3 : Int} {R : Int → XI → Prop} (hS : xSh S)  (h : (inb (v1) 150 ∧ ((w32 (I c_shelf_actKinds (ix (v1))) = w32 (3) → (inb (v1) 150 ∧ ((w32 (v2) < w32 (I c_shelf_actWeeks (ix (v1))) → R (0) I) ∧ (¬ (w32 (v2) < w32 (I c_shelf_actWeeks (ix (v1)))) → (inb (v1) 150 ∧ ((w32 (v3) < w32 (I c_shelf_actTold (ix (v1))) → R (0) I) ∧ (¬ (w32 (v3) < w32 (I c_shelf_actTold (ix (v1)))) → R (1) I))))))) ∧ (¬ (w32 (I c_shelf_actKinds (ix (v1))) = w32 (3)) → R (0) I)))) : Sh_isTorn G S I v1 v2 v3 R := by
  refine x_start [some (vr G c_shelf), some (vi (v1)), some (vi (v2)), some (vi (v3))] (by decide) (Nat.le_of_ble_eq_true rfl) rfl ?_
  refine x_aload_n (pc := 0) dX6_isTorn_0 rfl rfl ?_
  refine x_getR (pc := 1) (i := c_shelf) (a := c_shelf_actKinds) fl_X6_37 dX6_isTorn_1 (sN_c_shelf hS) (sT_c_shelf hS) rfl (sR_c_shelf_8 hS) ?_
  refine x_iload_n (pc := 4) dX6_isTorn_4 rfl rfl ?_
  refine y_iald (pc := 5) (i := c_shelf_actKinds) (n := 150) dX6_isTorn_5 (sN_c_shelf_actKinds hS) (sT_c_shelf_actKinds hS) (sL_c_shelf_actKinds hS) h.1 ?_
  have h := h.2
  refine x_iconst (pc := 6) dX6_isTorn_6 ?_
  refine x_icmp_ne (pc := 7) (t := 34) dX6_isTorn_7 (by decide) (fun e => ?_) (fun e => ?_)
  · have h := h.1 e
    refine x_aload_n (pc := 10) dX6_isTorn_10 rfl rfl ?_
    refine x_getR (pc := 11) (i := c_shelf) (a := c_shelf_actWeeks) fl_X6_43 dX6_isTorn_11 (sN_c_shelf hS) (sT_c_shelf hS) rfl (sR_c_shelf_10 hS) ?_
    refine x_iload_n (pc := 14) dX6_isTorn_14 rfl rfl ?_
    refine y_iald (pc := 15) (i := c_shelf_actWeeks) (n := 150) dX6_isTorn_15 (sN_c_shelf_actWeeks hS) (sT_c_shelf_actWeeks hS) (sL_c_shelf_actWeeks hS) h.1 ?_
    have h := h.2
    refine x_iload_n (pc := 16) dX6_isTorn_16 rfl rfl ?_
    refine x_icmp_gt (pc := 17) (t := 34) dX6_isTorn_17 (by decide) (fun e => ?_) (fun e => ?_)
    · have h := h.1 e
      refine x_iconst (pc := 34) dX6_isTorn_34 ?_
      exact y_zret (pc := 35) dX6_isTorn_35 rfl ⟨Nat.le_refl _, Nat.le_refl _⟩ (Or.inl rfl) h
    · have h := h.2 e
      refine x_aload_n (pc := 20) dX6_isTorn_20 rfl rfl ?_
      refine x_getR (pc := 21) (i := c_shelf) (a := c_shelf_actTold) fl_X6_46 dX6_isTorn_21 (sN_c_shelf hS) (sT_c_shelf hS) rfl (sR_c_shelf_11 hS) ?_
      refine x_iload_n (pc := 24) dX6_isTorn_24 rfl rfl ?_
      refine y_iald (pc := 25) (i := c_shelf_actTold) (n := 150) dX6_isTorn_25 (sN_c_shelf_actTold hS) (sT_c_shelf_actTold hS) (sL_c_shelf_actTold hS) h.1 ?_
      have h := h.2
      refine x_iload_n (pc := 26) dX6_isTorn_26 rfl rfl ?_
      refine x_icmp_gt (pc := 27) (t := 34) dX6_isTorn_27 (by decide) (fun e => ?_) (fun e => ?_)
      · have h := h.1 e
        refine x_iconst (pc := 34) dX6_isTorn_34 ?_
        exact y_zret (pc := 35) dX6_isTorn_35 rfl ⟨Nat.le_refl _, Nat.le_refl _⟩ (Or.inl rfl) h
      · have h := h.2 e
        refine x_iconst (pc := 30) dX6_isTorn_30 ?_
        refine x_goto (pc := 31) (t := 35) dX6_isTorn_31 (by decide) ?_
        exact y_zret (pc := 35) dX6_isTorn_35 rfl ⟨Nat.le_refl _, Nat.le_refl _⟩ (Or.inr rfl) h
  · have h := h.2 e
    refine x_iconst (pc := 34) dX6_isTorn_34 ?_
    exact y_zret (pc := 35) dX6_isTorn_35 rfl ⟨Nat.le_refl _, Nat.le_refl _⟩ (Or.inl rfl) h
set_option maxHeartbeats 4000000 in
set_option maxRecDepth 100000 in
theorem b_W_rowOf {G : XG} {S : XS} {I : XI} {v0 : Int} {v1 : Int} {R : Int → XI → Prop} (hS : xSh S)  (h : R ((((v0) * (100)) + (v1)) * (10)) I) : W_rowOf G S I v0 v1 R := by
  refine x_start [some (vi (v0)), some (vi (v1))] (by decide) (Nat.le_of_ble_eq_true rfl) rfl ?_
  refine x_iload_n (pc := 0) dX9_rowOf_0 rfl rfl ?_
  refine x_bipush (pc := 1) dX9_rowOf_1 (by decide) ?_
  refine x_imul (pc := 3) dX9_rowOf_3 ?_
  refine x_iload_n (pc := 4) dX9_rowOf_4 rfl rfl ?_
  refine x_iadd (pc := 5) dX9_rowOf_5 ?_
  refine x_bipush (pc := 6) dX9_rowOf_6 (by decide) ?_
  refine x_imul (pc := 8) dX9_rowOf_8 ?_
  exact y_iret (pc := 9) dX9_rowOf_9 rfl ⟨Nat.le_refl _, Nat.le_refl _⟩ h
set_option maxHeartbeats 4000000 in
set_option maxRecDepth 100000 in
theorem b_Re_booksFrom {G : XG} {S : XS} {I : XI} {v1 : Int} {v3 : Int} {R : Int → XI → Prop} (hS : xSh S)  (h : Re_booksFrom_k6 G S I (v1) (v3) (0) (0) R) : Re_booksFrom G S I v1 v3 R := by
  refine x_start [some (vr G c_readers), some (vi (v1)), some (vr G c_shelf), some (vi (v3)), none, none] (by decide) (Nat.le_of_ble_eq_true rfl) rfl ?_
  refine x_iconst (pc := 0) dX4_booksFrom_0 ?_
  refine x_istore (pc := 1) (L' := [some (vr G c_readers), some (vi (v1)), some (vr G c_shelf), some (vi (v3)), some (vi (0)), none]) dX4_booksFrom_1 (by decide) (xst1 rfl rfl rfl) ?_
  refine x_iconst (pc := 3) dX4_booksFrom_3 ?_
  refine x_istore (pc := 4) (L' := [some (vr G c_readers), some (vi (v1)), some (vr G c_shelf), some (vi (v3)), some (vi (0)), some (vi (0))]) dX4_booksFrom_4 (by decide) (xst1 rfl rfl rfl) ?_
  exact h
set_option maxHeartbeats 4000000 in
set_option maxRecDepth 100000 in
theorem b_Re_booksFrom_k6 {G : XG} {S : XS}  {I : XI} {v1 : Int} {v3 : Int} {v4 : Int} {v5 : Int} {R : Int → XI → Prop} (hS : xSh S)  (h : ((w32 (I c_shelf 0) ≤ w32 (v5) → R (v4) I) ∧ (¬ (w32 (I c_shelf 0) ≤ w32 (v5)) → Re_hasRead G S I (v1) (v5) (fun r2 I1 => ((w32 (r2) = 0 → Re_booksFrom_k6 G S I1 (v1) (v3) (v4) (v5 + 1) R) ∧ (¬ (w32 (r2) = 0) → (inb (v5) 24 ∧ ((w32 (I1 c_shelf_levels (ix (v5))) < w32 (v3) → Re_booksFrom_k6 G S I1 (v1) (v3) (v4) (v5 + 1) R) ∧ (¬ (w32 (I1 c_shelf_levels (ix (v5))) < w32 (v3)) → Re_booksFrom_k6 G S I1 (v1) (v3) (v4 + 1) (v5 + 1) R))))))))) : Re_booksFrom_k6 G S  I v1 v3 v4 v5 R := by
  unfold Re_booksFrom_k6
  refine x_iload (pc := 6) dX4_booksFrom_6 rfl ?_
  refine x_aload_n (pc := 8) dX4_booksFrom_8 rfl rfl ?_
  refine x_getI (pc := 9) (i := c_shelf) fl_X4_26 dX4_booksFrom_9 (sN_c_shelf hS) (sT_c_shelf hS) rfl ?_
  refine x_icmp_ge (pc := 12) (t := 45) dX4_booksFrom_12 (by decide) (fun e => ?_) (fun e => ?_)
  · have h := h.1 e
    refine x_iload (pc := 45) dX4_booksFrom_45 rfl ?_
    exact y_iret (pc := 47) dX4_booksFrom_47 rfl ⟨Nat.le_refl _, Nat.le_refl _⟩ h
  · have h := h.2 e
    refine x_aload_n (pc := 15) dX4_booksFrom_15 rfl rfl ?_
    refine x_iload_n (pc := 16) dX4_booksFrom_16 rfl rfl ?_
    refine x_iload (pc := 17) dX4_booksFrom_17 rfl ?_
    refine y_Vi (pc := 19) (i := c_readers) (As := [vi (v1), vi (v5)]) (rest := []) ok_X4_hasRead ml_X4_30 dX4_booksFrom_19 (sN_c_readers hS) (sT_c_readers hS) (by decide) rfl rfl rfl ⟨rfl, rfl⟩ ⟨by decide, by decide⟩ ⟨Nat.le_refl _, Nat.le_refl _⟩ (Nat.le_of_ble_eq_true rfl) rfl h (fun r2 I1 h => ?_)
    refine x_if_eq (pc := 22) (t := 39) dX4_booksFrom_22 (by decide) (fun e => ?_) (fun e => ?_)
    · have h := h.1 e
      refine x_iinc (pc := 39) (L' := [some (vr G c_readers), some (vi (v1)), some (vr G c_shelf), some (vi (v3)), some (vi (v4)), some (vi (v5 + 1))]) dX4_booksFrom_39 rfl (by decide) (xst1 rfl rfl rfl) ?_
      refine x_goto (pc := 42) (t := 6) dX4_booksFrom_42 (by decide) ?_
      exact h
    · have h := h.2 e
      refine x_aload_n (pc := 25) dX4_booksFrom_25 rfl rfl ?_
      refine x_getR (pc := 26) (i := c_shelf) (a := c_shelf_levels) fl_X4_34 dX4_booksFrom_26 (sN_c_shelf hS) (sT_c_shelf hS) rfl (sR_c_shelf_3 hS) ?_
      refine x_iload (pc := 29) dX4_booksFrom_29 rfl ?_
      refine y_iald (pc := 31) (i := c_shelf_levels) (n := 24) dX4_booksFrom_31 (sN_c_shelf_levels hS) (sT_c_shelf_levels hS) (sL_c_shelf_levels hS) h.1 ?_
      have h := h.2
      refine x_iload_n (pc := 32) dX4_booksFrom_32 rfl rfl ?_
      refine x_icmp_lt (pc := 33) (t := 39) dX4_booksFrom_33 (by decide) (fun e => ?_) (fun e => ?_)
      · have h := h.1 e
        refine x_iinc (pc := 39) (L' := [some (vr G c_readers), some (vi (v1)), some (vr G c_shelf), some (vi (v3)), some (vi (v4)), some (vi (v5 + 1))]) dX4_booksFrom_39 rfl (by decide) (xst1 rfl rfl rfl) ?_
        refine x_goto (pc := 42) (t := 6) dX4_booksFrom_42 (by decide) ?_
        exact h
      · have h := h.2 e
        refine x_iinc (pc := 36) (L' := [some (vr G c_readers), some (vi (v1)), some (vr G c_shelf), some (vi (v3)), some (vi (v4 + 1)), some (vi (v5))]) dX4_booksFrom_36 rfl (by decide) (xst1 rfl rfl rfl) ?_
        refine x_iinc (pc := 39) (L' := [some (vr G c_readers), some (vi (v1)), some (vr G c_shelf), some (vi (v3)), some (vi (v4 + 1)), some (vi (v5 + 1))]) dX4_booksFrom_39 rfl (by decide) (xst1 rfl rfl rfl) ?_
        refine x_goto (pc := 42) (t := 6) dX4_booksFrom_42 (by decide) ?_
        exact h
set_option maxHeartbeats 4000000 in
set_option maxRecDepth 100000 in
theorem b_Ru_holds {G : XG} {S : XS} {I : XI} {v1 : Int} {R : Int → XI → Prop} (hS : xSh S)  (h : Ru_holds_k2 G S I (v1) (0) R) : Ru_holds G S I v1 R := by
  refine x_start [some (vr G c_rules), some (vi (v1)), some (vr G c_facts), none, none] (by decide) (Nat.le_of_ble_eq_true rfl) rfl ?_
  refine x_iconst (pc := 0) dX5_holds_0 ?_
  refine x_istore_n (pc := 1) (L' := [some (vr G c_rules), some (vi (v1)), some (vr G c_facts), some (vi (0)), none]) dX5_holds_1 rfl (by decide) (xst1 rfl rfl rfl) ?_
  exact h
set_option maxHeartbeats 4000000 in
set_option maxRecDepth 100000 in
theorem b_Ru_holds_k2 {G : XG} {S : XS}  {I : XI} {v1 : Int} {v3 : Int} {R : Int → XI → Prop} (hS : xSh S)  (h : (inb (v1) 16 ∧ ((w32 (I c_rules_tests (ix (v1))) ≤ w32 (v3) → R (1) I) ∧ (¬ (w32 (I c_rules_tests (ix (v1))) ≤ w32 (v3)) → (inb (((v1) * (4)) + (v3)) 64 ∧ (inb (I c_rules_subjects (ix (((v1) * (4)) + (v3)))) 10 ∧ Ru_meetsTest G S I (((v1) * (4)) + (v3)) (I c_facts (ix (I c_rules_subjects (ix (((v1) * (4)) + (v3)))))) (fun r2 I1 => (inb (((v1) * (4)) + (v3)) 64 ∧ ((w32 (I1 c_rules_nots (ix (((v1) * (4)) + (v3)))) = w32 (1) → ((w32 (r2) = w32 (1) → R (0) I1) ∧ (¬ (w32 (r2) = w32 (1)) → Ru_holds_k2 G S I1 (v1) (v3 + 1) R))) ∧ (¬ (w32 (I1 c_rules_nots (ix (((v1) * (4)) + (v3)))) = w32 (1)) → ((w32 (r2) = w32 (0) → R (0) I1) ∧ (¬ (w32 (r2) = w32 (0)) → Ru_holds_k2 G S I1 (v1) (v3 + 1) R)))))))))))) : Ru_holds_k2 G S  I v1 v3 R := by
  unfold Ru_holds_k2
  refine x_iload_n (pc := 2) dX5_holds_2 rfl rfl ?_
  refine x_aload_n (pc := 3) dX5_holds_3 rfl rfl ?_
  refine x_getR (pc := 4) (i := c_rules) (a := c_rules_tests) fl_X5_22 dX5_holds_4 (sN_c_rules hS) (sT_c_rules hS) rfl (sR_c_rules_3 hS) ?_
  refine x_iload_n (pc := 7) dX5_holds_7 rfl rfl ?_
  refine y_iald (pc := 8) (i := c_rules_tests) (n := 16) dX5_holds_8 (sN_c_rules_tests hS) (sT_c_rules_tests hS) (sL_c_rules_tests hS) h.1 ?_
  have h := h.2
  refine x_icmp_ge (pc := 9) (t := 61) dX5_holds_9 (by decide) (fun e => ?_) (fun e => ?_)
  · have h := h.1 e
    refine x_iconst (pc := 61) dX5_holds_61 ?_
    exact y_zret (pc := 62) dX5_holds_62 rfl ⟨Nat.le_refl _, Nat.le_refl _⟩ (Or.inr rfl) h
  · have h := h.2 e
    refine x_iload_n (pc := 12) dX5_holds_12 rfl rfl ?_
    refine x_iconst (pc := 13) dX5_holds_13 ?_
    refine x_imul (pc := 14) dX5_holds_14 ?_
    refine x_iload_n (pc := 15) dX5_holds_15 rfl rfl ?_
    refine x_iadd (pc := 16) dX5_holds_16 ?_
    refine x_istore (pc := 17) (L' := [some (vr G c_rules), some (vi (v1)), some (vr G c_facts), some (vi (v3)), some (vi (((v1) * (4)) + (v3)))]) dX5_holds_17 (by decide) (xst1 rfl rfl rfl) ?_
    refine x_aload_n (pc := 19) dX5_holds_19 rfl rfl ?_
    refine x_iload (pc := 20) dX5_holds_20 rfl ?_
    refine x_aload_n (pc := 22) dX5_holds_22 rfl rfl ?_
    refine x_aload_n (pc := 23) dX5_holds_23 rfl rfl ?_
    refine x_getR (pc := 24) (i := c_rules) (a := c_rules_subjects) fl_X5_28 dX5_holds_24 (sN_c_rules hS) (sT_c_rules hS) rfl (sR_c_rules_5 hS) ?_
    refine x_iload (pc := 27) dX5_holds_27 rfl ?_
    refine y_iald (pc := 29) (i := c_rules_subjects) (n := 64) dX5_holds_29 (sN_c_rules_subjects hS) (sT_c_rules_subjects hS) (sL_c_rules_subjects hS) h.1 ?_
    have h := h.2
    refine y_iald (pc := 30) (i := c_facts) (n := 10) dX5_holds_30 (sN_c_facts hS) (sT_c_facts hS) (sL_c_facts hS) h.1 ?_
    have h := h.2
    refine y_Vi (pc := 31) (i := c_rules) (As := [vi (((v1) * (4)) + (v3)), vi (I c_facts (ix (I c_rules_subjects (ix (((v1) * (4)) + (v3))))))]) (rest := []) ok_X5_meetsTest ml_X5_45 dX5_holds_31 (sN_c_rules hS) (sT_c_rules hS) (by decide) rfl rfl rfl ⟨rfl, rfl⟩ ⟨by decide, by decide⟩ ⟨Nat.le_refl _, Nat.le_refl _⟩ (Nat.le_of_ble_eq_true rfl) rfl h (fun r2 I1 h => ?_)
    refine x_aload_n (pc := 34) dX5_holds_34 rfl rfl ?_
    refine x_getR (pc := 35) (i := c_rules) (a := c_rules_nots) fl_X5_25 dX5_holds_35 (sN_c_rules hS) (sT_c_rules hS) rfl (sR_c_rules_4 hS) ?_
    refine x_iload (pc := 38) dX5_holds_38 rfl ?_
    refine y_iald (pc := 40) (i := c_rules_nots) (n := 64) dX5_holds_40 (sN_c_rules_nots hS) (sT_c_rules_nots hS) (sL_c_rules_nots hS) h.1 ?_
    have h := h.2
    refine x_iconst (pc := 41) dX5_holds_41 ?_
    refine x_icmp_ne (pc := 42) (t := 49) dX5_holds_42 (by decide) (fun e => ?_) (fun e => ?_)
    · have h := h.1 e
      refine x_iconst (pc := 45) dX5_holds_45 ?_
      refine x_goto (pc := 46) (t := 50) dX5_holds_46 (by decide) ?_
      refine x_icmp_ne (pc := 50) (t := 55) dX5_holds_50 (by decide) (fun e => ?_) (fun e => ?_)
      · have h := h.1 e
        refine x_iconst (pc := 53) dX5_holds_53 ?_
        exact y_zret (pc := 54) dX5_holds_54 rfl ⟨Nat.le_refl _, Nat.le_refl _⟩ (Or.inl rfl) h
      · have h := h.2 e
        refine x_iinc (pc := 55) (L' := [some (vr G c_rules), some (vi (v1)), some (vr G c_facts), some (vi (v3 + 1)), some (vi (((v1) * (4)) + (v3)))]) dX5_holds_55 rfl (by decide) (xst1 rfl rfl rfl) ?_
        refine x_goto (pc := 58) (t := 2) dX5_holds_58 (by decide) ?_
        refine x_less (L' := [some (vr G c_rules), some (vi (v1)), some (vr G c_facts), some (vi (v3 + 1)), none]) (And.intro rfl (And.intro rfl (And.intro rfl (And.intro rfl trivial)))) ?_
        exact h
    · have h := h.2 e
      refine x_iconst (pc := 49) dX5_holds_49 ?_
      refine x_icmp_ne (pc := 50) (t := 55) dX5_holds_50 (by decide) (fun e => ?_) (fun e => ?_)
      · have h := h.1 e
        refine x_iconst (pc := 53) dX5_holds_53 ?_
        exact y_zret (pc := 54) dX5_holds_54 rfl ⟨Nat.le_refl _, Nat.le_refl _⟩ (Or.inl rfl) h
      · have h := h.2 e
        refine x_iinc (pc := 55) (L' := [some (vr G c_rules), some (vi (v1)), some (vr G c_facts), some (vi (v3 + 1)), some (vi (((v1) * (4)) + (v3)))]) dX5_holds_55 rfl (by decide) (xst1 rfl rfl rfl) ?_
        refine x_goto (pc := 58) (t := 2) dX5_holds_58 (by decide) ?_
        refine x_less (L' := [some (vr G c_rules), some (vi (v1)), some (vr G c_facts), some (vi (v3 + 1)), none]) (And.intro rfl (And.intro rfl (And.intro rfl (And.intro rfl trivial)))) ?_
        exact h
set_option maxHeartbeats 4000000 in
set_option maxRecDepth 100000 in
theorem b_Bo_isBetter {G : XG} {S : XS} {I : XI} {v1 : Int} {v2 : Int} {v3 : Int} {R : Int → XI → Prop} (hS : xSh S)  (h : ((w32 (v1) = w32 (I c_box 0) → ((w32 (v2) = w32 (I c_box 1) → ((w32 (I c_box 2) ≤ w32 (v3) → R (0) I) ∧ (¬ (w32 (I c_box 2) ≤ w32 (v3)) → R (1) I))) ∧ (¬ (w32 (v2) = w32 (I c_box 1)) → ((w32 (I c_box 1) ≤ w32 (v2) → R (0) I) ∧ (¬ (w32 (I c_box 1) ≤ w32 (v2)) → R (1) I))))) ∧ (¬ (w32 (v1) = w32 (I c_box 0)) → ((w32 (v1) ≤ w32 (I c_box 0) → R (0) I) ∧ (¬ (w32 (v1) ≤ w32 (I c_box 0)) → R (1) I))))) : Bo_isBetter G S I v1 v2 v3 R := by
  refine x_start [some (vr G c_box), some (vi (v1)), some (vi (v2)), some (vi (v3))] (by decide) (Nat.le_of_ble_eq_true rfl) rfl ?_
  refine x_iload_n (pc := 0) dX0_isBetter_0 rfl rfl ?_
  refine x_aload_n (pc := 1) dX0_isBetter_1 rfl rfl ?_
  refine x_getI (pc := 2) (i := c_box) fl_X0_9 dX0_isBetter_2 (sN_c_box hS) (sT_c_box hS) rfl ?_
  refine x_icmp_eq (pc := 5) (t := 22) dX0_isBetter_5 (by decide) (fun e => ?_) (fun e => ?_)
  · have h := h.1 e
    refine x_iload_n (pc := 22) dX0_isBetter_22 rfl rfl ?_
    refine x_aload_n (pc := 23) dX0_isBetter_23 rfl rfl ?_
    refine x_getI (pc := 24) (i := c_box) fl_X0_15 dX0_isBetter_24 (sN_c_box hS) (sT_c_box hS) rfl ?_
    refine x_icmp_eq (pc := 27) (t := 46) dX0_isBetter_27 (by decide) (fun e => ?_) (fun e => ?_)
    · have h := h.1 e
      refine x_iload_n (pc := 46) dX0_isBetter_46 rfl rfl ?_
      refine x_aload_n (pc := 47) dX0_isBetter_47 rfl rfl ?_
      refine x_getI (pc := 48) (i := c_box) fl_X0_18 dX0_isBetter_48 (sN_c_box hS) (sT_c_box hS) rfl ?_
      refine x_icmp_ge (pc := 51) (t := 58) dX0_isBetter_51 (by decide) (fun e => ?_) (fun e => ?_)
      · have h := h.1 e
        refine x_iconst (pc := 58) dX0_isBetter_58 ?_
        exact y_zret (pc := 59) dX0_isBetter_59 rfl ⟨Nat.le_refl _, Nat.le_refl _⟩ (Or.inl rfl) h
      · have h := h.2 e
        refine x_iconst (pc := 54) dX0_isBetter_54 ?_
        refine x_goto (pc := 55) (t := 59) dX0_isBetter_55 (by decide) ?_
        exact y_zret (pc := 59) dX0_isBetter_59 rfl ⟨Nat.le_refl _, Nat.le_refl _⟩ (Or.inr rfl) h
    · have h := h.2 e
      refine x_iload_n (pc := 30) dX0_isBetter_30 rfl rfl ?_
      refine x_aload_n (pc := 31) dX0_isBetter_31 rfl rfl ?_
      refine x_getI (pc := 32) (i := c_box) fl_X0_15 dX0_isBetter_32 (sN_c_box hS) (sT_c_box hS) rfl ?_
      refine x_icmp_ge (pc := 35) (t := 42) dX0_isBetter_35 (by decide) (fun e => ?_) (fun e => ?_)
      · have h := h.1 e
        refine x_iconst (pc := 42) dX0_isBetter_42 ?_
        refine x_goto (pc := 43) (t := 59) dX0_isBetter_43 (by decide) ?_
        exact y_zret (pc := 59) dX0_isBetter_59 rfl ⟨Nat.le_refl _, Nat.le_refl _⟩ (Or.inl rfl) h
      · have h := h.2 e
        refine x_iconst (pc := 38) dX0_isBetter_38 ?_
        refine x_goto (pc := 39) (t := 59) dX0_isBetter_39 (by decide) ?_
        exact y_zret (pc := 59) dX0_isBetter_59 rfl ⟨Nat.le_refl _, Nat.le_refl _⟩ (Or.inr rfl) h
  · have h := h.2 e
    refine x_iload_n (pc := 8) dX0_isBetter_8 rfl rfl ?_
    refine x_aload_n (pc := 9) dX0_isBetter_9 rfl rfl ?_
    refine x_getI (pc := 10) (i := c_box) fl_X0_9 dX0_isBetter_10 (sN_c_box hS) (sT_c_box hS) rfl ?_
    refine x_icmp_le (pc := 13) (t := 20) dX0_isBetter_13 (by decide) (fun e => ?_) (fun e => ?_)
    · have h := h.1 e
      refine x_iconst (pc := 20) dX0_isBetter_20 ?_
      exact y_zret (pc := 21) dX0_isBetter_21 rfl ⟨Nat.le_refl _, Nat.le_refl _⟩ (Or.inl rfl) h
    · have h := h.2 e
      refine x_iconst (pc := 16) dX0_isBetter_16 ?_
      refine x_goto (pc := 17) (t := 21) dX0_isBetter_17 (by decide) ?_
      exact y_zret (pc := 21) dX0_isBetter_21 rfl ⟨Nat.le_refl _, Nat.le_refl _⟩ (Or.inr rfl) h
set_option maxHeartbeats 4000000 in
set_option maxRecDepth 100000 in
theorem b_Wn_clearRow {G : XG} {S : XS} {I : XI} {v1 : Int} {R : XI → Prop} (hS : xSh S)  (h : Wn_clearRow_k2 G S I (v1) (0) R) : Wn_clearRow G S I v1 R := by
  refine x_start [some (vr G c_now), some (vi (v1)), none] (by decide) (Nat.le_of_ble_eq_true rfl) rfl ?_
  refine x_iconst (pc := 0) dX9_clearRow_0 ?_
  refine x_istore_n (pc := 1) (L' := [some (vr G c_now), some (vi (v1)), some (vi (0))]) dX9_clearRow_1 rfl (by decide) (xst1 rfl rfl rfl) ?_
  exact h
set_option maxHeartbeats 4000000 in
set_option maxRecDepth 100000 in
theorem b_Wn_clearRow_k2 {G : XG} {S : XS}  {I : XI} {v1 : Int} {v2 : Int} {R : XI → Prop} (hS : xSh S)  (h : ((w32 (10) ≤ w32 (v2) → R I) ∧ (¬ (w32 (10) ≤ w32 (v2)) → (inb ((v1) + (v2)) 6000 ∧ (∀ I1 : XI, I1 = up I c_now_parts (ix ((v1) + (v2))) (0) → Wn_clearRow_k2 G S I1 (v1) (v2 + 1) R))))) : Wn_clearRow_k2 G S  I v1 v2 R := by
  unfold Wn_clearRow_k2
  refine x_iload_n (pc := 2) dX9_clearRow_2 rfl rfl ?_
  refine x_bipush (pc := 3) dX9_clearRow_3 (by decide) ?_
  refine x_icmp_ge (pc := 5) (t := 23) dX9_clearRow_5 (by decide) (fun e => ?_) (fun e => ?_)
  · have h := h.1 e
    exact y_vret (pc := 23) dX9_clearRow_23 rfl ⟨Nat.le_refl _, Nat.le_refl _⟩ h
  · have h := h.2 e
    refine x_aload_n (pc := 8) dX9_clearRow_8 rfl rfl ?_
    refine x_getR (pc := 9) (i := c_now) (a := c_now_parts) fl_X9_9 dX9_clearRow_9 (sN_c_now hS) (sT_c_now hS) rfl (sR_c_now_0 hS) ?_
    refine x_iload_n (pc := 12) dX9_clearRow_12 rfl rfl ?_
    refine x_iload_n (pc := 13) dX9_clearRow_13 rfl rfl ?_
    refine x_iadd (pc := 14) dX9_clearRow_14 ?_
    refine x_iconst (pc := 15) dX9_clearRow_15 ?_
    refine y_iast (pc := 16) (i := c_now_parts) (n := 6000) dX9_clearRow_16 (sN_c_now_parts hS) (sT_c_now_parts hS) (sL_c_now_parts hS) h.1 ?_
    have h := h.2
    have h := h _ rfl
    generalize up I c_now_parts (ix ((v1) + (v2))) (0) = I1 at h ⊢
    refine x_iinc (pc := 17) (L' := [some (vr G c_now), some (vi (v1)), some (vi (v2 + 1))]) dX9_clearRow_17 rfl (by decide) (xst1 rfl rfl rfl) ?_
    refine x_goto (pc := 20) (t := 2) dX9_clearRow_20 (by decide) ?_
    exact h
set_option maxHeartbeats 4000000 in
set_option maxRecDepth 100000 in
theorem b_Wn_move {G : XG} {S : XS} {I : XI} {v2 : Int} {v3 : Int} {R : XI → Prop} (hS : xSh S)  (h : La_grassOfWeek G S I (v3) (I c_now 6) (fun I1 => Wn_move_k20 G S I1 (v2) (0) R)) : Wn_move G S I v2 v3 R := by
  refine x_start [some (vr G c_now), some (vr G c_land), some (vi (v2)), some (vi (v3)), none, none, none] (by decide) (Nat.le_of_ble_eq_true rfl) rfl ?_
  refine x_aload_n (pc := 0) dX9_move_0 rfl rfl ?_
  refine x_iload_n (pc := 1) dX9_move_1 rfl rfl ?_
  refine x_aload_n (pc := 2) dX9_move_2 rfl rfl ?_
  refine x_getI (pc := 3) (i := c_now) fl_X9_30 dX9_move_3 (sN_c_now hS) (sT_c_now hS) rfl ?_
  refine x_aload_n (pc := 6) dX9_move_6 rfl rfl ?_
  refine x_getR (pc := 7) (i := c_now) (a := c_now_grass) fl_X9_21 dX9_move_7 (sN_c_now hS) (sT_c_now hS) rfl (sR_c_now_3 hS) ?_
  refine x_aload_n (pc := 10) dX9_move_10 rfl rfl ?_
  refine x_getR (pc := 11) (i := c_now) (a := c_now_rests) fl_X9_27 dX9_move_11 (sN_c_now hS) (sT_c_now hS) rfl (sR_c_now_5 hS) ?_
  refine y_Vv (pc := 14) (i := c_land) (As := [vi (v3), vi (I c_now 6), vr G c_now_grass, vr G c_now_rests]) (rest := []) ok_X2_grassOfWeek ml_X9_97 dX9_move_14 (sN_c_land hS) (sT_c_land hS) (by decide) rfl rfl rfl ⟨rfl, rfl⟩ ⟨by decide, by decide⟩ ⟨Nat.le_refl _, Nat.le_refl _⟩ (Nat.le_of_ble_eq_true rfl) rfl h (fun I1 h => ?_)
  refine x_iconst (pc := 17) dX9_move_17 ?_
  refine x_istore (pc := 18) (L' := [some (vr G c_now), some (vr G c_land), some (vi (v2)), some (vi (v3)), some (vi (0)), none, none]) dX9_move_18 (by decide) (xst1 rfl rfl rfl) ?_
  refine x_less (L' := [some (vr G c_now), some (vr G c_land), some (vi (v2)), none, some (vi (0)), none, none]) (And.intro rfl (And.intro rfl (And.intro rfl (And.intro rfl trivial)))) ?_
  exact h
