set_option maxHeartbeats 4000000 in
set_option maxRecDepth 100000 in
theorem b_H_rules {G : XG} {S : XS} {I : XI}  {R : Int → XI → Prop} (hS : xSh S)  (h : Pa_parse G S I (I c_told 6) (fun I1 => (∀ I2 : XI, I2 = up I1 c_told 6 (0) → (∀ I3 : XI, I3 = up I2 c_told 7 (I2 c_parser 1) → (∀ I4 : XI, I4 = up I3 c_told 8 (I3 c_parser 2) → ((w32 (I4 c_parser 1) = 0 → Ru_copyFrom G S I4 (fun I5 => R (I5 c_rules 0) I5)) ∧ (¬ (w32 (I4 c_parser 1) = 0) → R ((-1)) I4))))))) : H_rules G S I  R := by
  refine x_start [some (vr G c_obj)] (by decide) (Nat.le_of_ble_eq_true rfl) rfl ?_
  refine x_aload_n (pc := 0) dX10_rules_0 rfl rfl ?_
  refine x_getR (pc := 1) (i := c_obj) (a := c_parser) fl_X10_42 dX10_rules_1 (sN_c_obj hS) (sT_c_obj hS) rfl (sR_c_obj_5 hS) ?_
  refine x_aload_n (pc := 4) dX10_rules_4 rfl rfl ?_
  refine x_getR (pc := 5) (i := c_obj) (a := c_told) fl_X10_12 dX10_rules_5 (sN_c_obj hS) (sT_c_obj hS) rfl (sR_c_obj_0 hS) ?_
  refine x_getR (pc := 8) (i := c_told) (a := c_told_tape) fl_X10_251 dX10_rules_8 (sN_c_told hS) (sT_c_told hS) rfl (sR_c_told_5 hS) ?_
  refine x_aload_n (pc := 11) dX10_rules_11 rfl rfl ?_
  refine x_getR (pc := 12) (i := c_obj) (a := c_told) fl_X10_12 dX10_rules_12 (sN_c_obj hS) (sT_c_obj hS) rfl (sR_c_obj_0 hS) ?_
  refine x_getI (pc := 15) (i := c_told) fl_X10_245 dX10_rules_15 (sN_c_told hS) (sT_c_told hS) rfl ?_
  refine y_Vv (pc := 18) (i := c_parser) (As := [vr G c_told_tape, vi (I c_told 6)]) (rest := []) ok_X3_parse ml_X10_254 dX10_rules_18 (sN_c_parser hS) (sT_c_parser hS) (by decide) rfl rfl rfl ⟨rfl, rfl⟩ ⟨by decide, by decide⟩ ⟨Nat.le_refl _, Nat.le_refl _⟩ (Nat.le_of_ble_eq_true rfl) rfl h (fun I1 h => ?_)
  refine x_aload_n (pc := 21) dX10_rules_21 rfl rfl ?_
  refine x_getR (pc := 22) (i := c_obj) (a := c_told) fl_X10_12 dX10_rules_22 (sN_c_obj hS) (sT_c_obj hS) rfl (sR_c_obj_0 hS) ?_
  refine x_iconst (pc := 25) dX10_rules_25 ?_
  refine x_putI (pc := 26) (i := c_told) fl_X10_245 dX10_rules_26 (sN_c_told hS) (sT_c_told hS) rfl ?_
  have h := h _ rfl
  generalize up I1 c_told 6 (0) = I2 at h ⊢
  refine x_aload_n (pc := 29) dX10_rules_29 rfl rfl ?_
  refine x_getR (pc := 30) (i := c_obj) (a := c_told) fl_X10_12 dX10_rules_30 (sN_c_obj hS) (sT_c_obj hS) rfl (sR_c_obj_0 hS) ?_
  refine x_aload_n (pc := 33) dX10_rules_33 rfl rfl ?_
  refine x_getR (pc := 34) (i := c_obj) (a := c_parser) fl_X10_42 dX10_rules_34 (sN_c_obj hS) (sT_c_obj hS) rfl (sR_c_obj_5 hS) ?_
  refine x_getI (pc := 37) (i := c_parser) fl_X10_258 dX10_rules_37 (sN_c_parser hS) (sT_c_parser hS) rfl ?_
  refine x_putI (pc := 40) (i := c_told) fl_X10_261 dX10_rules_40 (sN_c_told hS) (sT_c_told hS) rfl ?_
  have h := h _ rfl
  generalize up I2 c_told 7 (I2 c_parser 1) = I3 at h ⊢
  refine x_aload_n (pc := 43) dX10_rules_43 rfl rfl ?_
  refine x_getR (pc := 44) (i := c_obj) (a := c_told) fl_X10_12 dX10_rules_44 (sN_c_obj hS) (sT_c_obj hS) rfl (sR_c_obj_0 hS) ?_
  refine x_aload_n (pc := 47) dX10_rules_47 rfl rfl ?_
  refine x_getR (pc := 48) (i := c_obj) (a := c_parser) fl_X10_42 dX10_rules_48 (sN_c_obj hS) (sT_c_obj hS) rfl (sR_c_obj_5 hS) ?_
  refine x_getI (pc := 51) (i := c_parser) fl_X10_262 dX10_rules_51 (sN_c_parser hS) (sT_c_parser hS) rfl ?_
  refine x_putI (pc := 54) (i := c_told) fl_X10_265 dX10_rules_54 (sN_c_told hS) (sT_c_told hS) rfl ?_
  have h := h _ rfl
  generalize up I3 c_told 8 (I3 c_parser 2) = I4 at h ⊢
  refine x_aload_n (pc := 57) dX10_rules_57 rfl rfl ?_
  refine x_getR (pc := 58) (i := c_obj) (a := c_parser) fl_X10_42 dX10_rules_58 (sN_c_obj hS) (sT_c_obj hS) rfl (sR_c_obj_5 hS) ?_
  refine x_getI (pc := 61) (i := c_parser) fl_X10_258 dX10_rules_61 (sN_c_parser hS) (sT_c_parser hS) rfl ?_
  refine x_if_eq (pc := 64) (t := 69) dX10_rules_64 (by decide) (fun e => ?_) (fun e => ?_)
  · have h := h.1 e
    refine x_aload_n (pc := 69) dX10_rules_69 rfl rfl ?_
    refine x_getR (pc := 70) (i := c_obj) (a := c_told) fl_X10_12 dX10_rules_70 (sN_c_obj hS) (sT_c_obj hS) rfl (sR_c_obj_0 hS) ?_
    refine x_getR (pc := 73) (i := c_told) (a := c_rules) fl_X10_181 dX10_rules_73 (sN_c_told hS) (sT_c_told hS) rfl (sR_c_told_3 hS) ?_
    refine x_aload_n (pc := 76) dX10_rules_76 rfl rfl ?_
    refine x_getR (pc := 77) (i := c_obj) (a := c_parser) fl_X10_42 dX10_rules_77 (sN_c_obj hS) (sT_c_obj hS) rfl (sR_c_obj_5 hS) ?_
    refine x_getR (pc := 80) (i := c_parser) (a := c_draft) fl_X10_268 dX10_rules_80 (sN_c_parser hS) (sT_c_parser hS) rfl (sR_c_parser_0 hS) ?_
    refine y_Vv (pc := 83) (i := c_rules) (As := [vr G c_draft]) (rest := []) ok_X5_copyFrom ml_X10_271 dX10_rules_83 (sN_c_rules hS) (sT_c_rules hS) (by decide) rfl rfl rfl ⟨rfl, rfl⟩ ⟨by decide, by decide⟩ ⟨Nat.le_refl _, Nat.le_refl _⟩ (Nat.le_of_ble_eq_true rfl) rfl h (fun I5 h => ?_)
    refine x_aload_n (pc := 86) dX10_rules_86 rfl rfl ?_
    refine x_getR (pc := 87) (i := c_obj) (a := c_told) fl_X10_12 dX10_rules_87 (sN_c_obj hS) (sT_c_obj hS) rfl (sR_c_obj_0 hS) ?_
    refine x_getR (pc := 90) (i := c_told) (a := c_rules) fl_X10_181 dX10_rules_90 (sN_c_told hS) (sT_c_told hS) rfl (sR_c_told_3 hS) ?_
    refine x_getI (pc := 93) (i := c_rules) fl_X10_275 dX10_rules_93 (sN_c_rules hS) (sT_c_rules hS) rfl ?_
    exact y_iret (pc := 96) dX10_rules_96 rfl ⟨Nat.le_refl _, Nat.le_refl _⟩ h
  · have h := h.2 e
    refine x_iconst (pc := 67) dX10_rules_67 ?_
    exact y_iret (pc := 68) dX10_rules_68 rfl ⟨Nat.le_refl _, Nat.le_refl _⟩ h
set_option maxHeartbeats 4000000 in
set_option maxRecDepth 100000 in
theorem b_H_stop {G : XG} {S : XS} {I : XI} {v1 : Int} {v2 : Int} {v3 : Int} {R : Int → XI → Prop} (hS : xSh S)  (h : H_walkRound G S I (v1) (v2) (fun r2 I1 => ((w32 (r2) = 0 → R ((-1)) I1) ∧ (¬ (w32 (r2) = 0) → Wa_stopAt G S I1 (v3) (fun r4 I3 => R (r4) I3))))) : H_stop G S I v1 v2 v3 R := by
  refine x_start [some (vr G c_obj), some (vi (v1)), some (vi (v2)), some (vi (v3))] (by decide) (Nat.le_of_ble_eq_true rfl) rfl ?_
  refine x_aload_n (pc := 0) dX10_stop_0 rfl rfl ?_
  refine x_iload_n (pc := 1) dX10_stop_1 rfl rfl ?_
  refine x_iload_n (pc := 2) dX10_stop_2 rfl rfl ?_
  refine y_Vi (pc := 3) (i := c_obj) (As := [vi (v1), vi (v2)]) (rest := []) ok_X10_walkRound ml_X10_278 dX10_stop_3 (sN_c_obj hS) (sT_c_obj hS) (by decide) rfl rfl rfl ⟨rfl, rfl⟩ ⟨by decide, by decide⟩ ⟨Nat.le_refl _, Nat.le_refl _⟩ (Nat.le_of_ble_eq_true rfl) rfl h (fun r2 I1 h => ?_)
  refine x_if_eq (pc := 6) (t := 20) dX10_stop_6 (by decide) (fun e => ?_) (fun e => ?_)
  · have h := h.1 e
    refine x_iconst (pc := 20) dX10_stop_20 ?_
    exact y_iret (pc := 21) dX10_stop_21 rfl ⟨Nat.le_refl _, Nat.le_refl _⟩ h
  · have h := h.2 e
    refine x_aload_n (pc := 9) dX10_stop_9 rfl rfl ?_
    refine x_getR (pc := 10) (i := c_obj) (a := c_walks) fl_X10_35 dX10_stop_10 (sN_c_obj hS) (sT_c_obj hS) rfl (sR_c_obj_4 hS) ?_
    refine x_iload_n (pc := 13) dX10_stop_13 rfl rfl ?_
    refine y_Vi (pc := 14) (i := c_walks) (As := [vi (v3)]) (rest := []) ok_X8_stopAt ml_X10_290 dX10_stop_14 (sN_c_walks hS) (sT_c_walks hS) (by decide) rfl rfl rfl ⟨rfl, rfl⟩ ⟨by decide, by decide⟩ ⟨Nat.le_refl _, Nat.le_refl _⟩ (Nat.le_of_ble_eq_true rfl) rfl h (fun r4 I3 h => ?_)
    refine x_goto (pc := 17) (t := 21) dX10_stop_17 (by decide) ?_
    exact y_iret (pc := 21) dX10_stop_21 rfl ⟨Nat.le_refl _, Nat.le_refl _⟩ h
set_option maxHeartbeats 4000000 in
set_option maxRecDepth 100000 in
theorem b_H_sumParts {G : XG} {S : XS} {I : XI} {v1 : Int} {v2 : Int} {R : XI → Prop} (hS : xSh S)  (h : H_limit G S I (fun r2 I1 => H_whereBy G S I1 (r2) (fun r4 I3 => ((r4 = c_now ∨ r4 = c_then) ∧ (r4 = c_now → Ja_fill G S I3 (c_sums) (0) (fun I5 => H_sumParts_k20 G S I5 (v1) (v2) (0) R)) ∧ (r4 = c_then → Ja_fill G S I3 (c_sums) (0) (fun I6 => H_sumParts_k20_2 G S I6 (v1) (v2) (0) R)))))) : H_sumParts G S I v1 v2 R := by
  refine x_start [some (vr G c_obj), some (vi (v1)), some (vi (v2)), none, none, none, none] (by decide) (Nat.le_of_ble_eq_true rfl) rfl ?_
  refine x_aload_n (pc := 0) dX10_sumParts_0 rfl rfl ?_
  refine x_aload_n (pc := 1) dX10_sumParts_1 rfl rfl ?_
  refine y_Vi (pc := 2) (i := c_obj) (As := []) (rest := [vr G c_obj]) ok_X10_limit ml_X10_132 dX10_sumParts_2 (sN_c_obj hS) (sT_c_obj hS) (by decide) rfl rfl rfl ⟨rfl, rfl⟩ ⟨by decide, by decide⟩ ⟨Nat.le_refl _, Nat.le_refl _⟩ (Nat.le_of_ble_eq_true rfl) rfl h (fun r2 I1 h => ?_)
  refine y_Vr (pc := 5) (i := c_obj) (As := [vi (r2)]) (rest := []) ok_X10_whereBy ml_X10_136 dX10_sumParts_5 (sN_c_obj hS) (sT_c_obj hS) (by decide) rfl rfl rfl ⟨rfl, rfl⟩ ⟨by decide, by decide⟩ ⟨Nat.le_refl _, Nat.le_refl _⟩ (Nat.le_of_ble_eq_true rfl) rfl h (fun r4 I3 h => ?_)
  rcases h.1 with e | e
  · subst e
    have h := h.2.1 rfl
    refine x_astore_n (pc := 8) (L' := [some (vr G c_obj), some (vi (v1)), some (vi (v2)), some (vr G c_now), none, none, none]) dX10_sumParts_8 rfl (by decide) (xst1 rfl rfl rfl) ?_
    refine x_aload_n (pc := 9) dX10_sumParts_9 rfl rfl ?_
    refine x_getR (pc := 10) (i := c_obj) (a := c_sums) fl_X10_57 dX10_sumParts_10 (sN_c_obj hS) (sT_c_obj hS) rfl (sR_c_obj_8 hS) ?_
    refine x_iconst (pc := 13) dX10_sumParts_13 ?_
    refine y_Sv (pc := 14) (As := [vr G c_sums, vi (0)]) (rest := []) ok_J7_fill_53178 ml_X10_397 dX10_sumParts_14 rfl ⟨rfl, rfl⟩ ⟨by decide, by decide⟩ ⟨Nat.le_refl _, Nat.le_refl _⟩ (Nat.le_of_ble_eq_true rfl) rfl h (fun I5 h => ?_)
    refine x_iconst (pc := 17) dX10_sumParts_17 ?_
    refine x_istore (pc := 18) (L' := [some (vr G c_obj), some (vi (v1)), some (vi (v2)), some (vr G c_now), some (vi (0)), none, none]) dX10_sumParts_18 (by decide) (xst1 rfl rfl rfl) ?_
    exact h
  · subst e
    have h := h.2.2 rfl
    refine x_astore_n (pc := 8) (L' := [some (vr G c_obj), some (vi (v1)), some (vi (v2)), some (vr G c_then), none, none, none]) dX10_sumParts_8 rfl (by decide) (xst1 rfl rfl rfl) ?_
    refine x_aload_n (pc := 9) dX10_sumParts_9 rfl rfl ?_
    refine x_getR (pc := 10) (i := c_obj) (a := c_sums) fl_X10_57 dX10_sumParts_10 (sN_c_obj hS) (sT_c_obj hS) rfl (sR_c_obj_8 hS) ?_
    refine x_iconst (pc := 13) dX10_sumParts_13 ?_
    refine y_Sv (pc := 14) (As := [vr G c_sums, vi (0)]) (rest := []) ok_J7_fill_53178 ml_X10_397 dX10_sumParts_14 rfl ⟨rfl, rfl⟩ ⟨by decide, by decide⟩ ⟨Nat.le_refl _, Nat.le_refl _⟩ (Nat.le_of_ble_eq_true rfl) rfl h (fun I6 h => ?_)
    refine x_iconst (pc := 17) dX10_sumParts_17 ?_
    refine x_istore (pc := 18) (L' := [some (vr G c_obj), some (vi (v1)), some (vi (v2)), some (vr G c_then), some (vi (0)), none, none]) dX10_sumParts_18 (by decide) (xst1 rfl rfl rfl) ?_
    exact h
set_option maxHeartbeats 4000000 in
set_option maxRecDepth 100000 in
theorem b_H_sumParts_k20 {G : XG} {S : XS}  {I : XI} {v1 : Int} {v2 : Int} {v4 : Int} {R : XI → Prop} (hS : xSh S)  (h : ((w32 (I c_herds 0) ≤ w32 (v4) → R I) ∧ (¬ (w32 (I c_herds 0) ≤ w32 (v4)) → Wn_reach G S I (v4) (v2) (fun I7 => (inb (v4) 6 ∧ H_sumParts_k65 G S I7 (v1) (v2) (v4) (if w32 (v1) < w32 (I7 c_herds_firstWeeks (ix (v4))) then I7 c_herds_firstWeeks (ix (v4)) else v1) R))))) : H_sumParts_k20 G S  I v1 v2 v4 R := by
  unfold H_sumParts_k20
  refine x_iload (pc := 20) dX10_sumParts_20 rfl ?_
  refine x_aload_n (pc := 22) dX10_sumParts_22 rfl rfl ?_
  refine x_getR (pc := 23) (i := c_obj) (a := c_told) fl_X10_12 dX10_sumParts_23 (sN_c_obj hS) (sT_c_obj hS) rfl (sR_c_obj_0 hS) ?_
  refine x_getR (pc := 26) (i := c_told) (a := c_herds) fl_X10_88 dX10_sumParts_26 (sN_c_told hS) (sT_c_told hS) rfl (sR_c_told_1 hS) ?_
  refine x_getI (pc := 29) (i := c_herds) fl_X10_354 dX10_sumParts_29 (sN_c_herds hS) (sT_c_herds hS) rfl ?_
  refine x_icmp_ge (pc := 32) (t := 127) dX10_sumParts_32 (by decide) (fun e => ?_) (fun e => ?_)
  · have h := h.1 e
    exact y_vret (pc := 127) dX10_sumParts_127 rfl ⟨Nat.le_refl _, Nat.le_refl _⟩ h
  · have h := h.2 e
    refine x_aload_n (pc := 35) dX10_sumParts_35 rfl rfl ?_
    refine x_aload_n (pc := 36) dX10_sumParts_36 rfl rfl ?_
    refine x_getR (pc := 37) (i := c_obj) (a := c_told) fl_X10_12 dX10_sumParts_37 (sN_c_obj hS) (sT_c_obj hS) rfl (sR_c_obj_0 hS) ?_
    refine x_iload (pc := 40) dX10_sumParts_40 rfl ?_
    refine x_iload_n (pc := 42) dX10_sumParts_42 rfl rfl ?_
    refine y_Vv (pc := 43) (i := c_now) (As := [vr G c_told, vi (v4), vi (v2)]) (rest := []) ok_X9_reach ml_X10_140 dX10_sumParts_43 (sN_c_now hS) (sT_c_now hS) (by decide) rfl rfl rfl ⟨rfl, rfl⟩ ⟨by decide, by decide⟩ ⟨Nat.le_refl _, Nat.le_refl _⟩ (Nat.le_of_ble_eq_true rfl) rfl h (fun I7 h => ?_)
    refine x_iload_n (pc := 46) dX10_sumParts_46 rfl rfl ?_
    refine x_aload_n (pc := 47) dX10_sumParts_47 rfl rfl ?_
    refine x_getR (pc := 48) (i := c_obj) (a := c_told) fl_X10_12 dX10_sumParts_48 (sN_c_obj hS) (sT_c_obj hS) rfl (sR_c_obj_0 hS) ?_
    refine x_getR (pc := 51) (i := c_told) (a := c_herds) fl_X10_88 dX10_sumParts_51 (sN_c_told hS) (sT_c_told hS) rfl (sR_c_told_1 hS) ?_
    refine x_getR (pc := 54) (i := c_herds) (a := c_herds_firstWeeks) fl_X10_121 dX10_sumParts_54 (sN_c_herds hS) (sT_c_herds hS) rfl (sR_c_herds_3 hS) ?_
    refine x_iload (pc := 57) dX10_sumParts_57 rfl ?_
    refine y_iald (pc := 59) (i := c_herds_firstWeeks) (n := 6) dX10_sumParts_59 (sN_c_herds_firstWeeks hS) (sT_c_herds_firstWeeks hS) (sL_c_herds_firstWeeks hS) h.1 ?_
    have h := h.2
    refine x_max (pc := 60) ⟨ml_X10_402, w_maxs, w_mi, w_maxc⟩ dX10_sumParts_60 ⟨by decide, Nat.le_of_ble_eq_true rfl, Nat.le_refl _, Nat.le_refl _⟩ ?_
    refine x_istore (pc := 63) (L' := [some (vr G c_obj), some (vi (v1)), some (vi (v2)), some (vr G c_now), some (vi (v4)), some (vi (if w32 (v1) < w32 (I7 c_herds_firstWeeks (ix (v4))) then I7 c_herds_firstWeeks (ix (v4)) else v1)), none]) dX10_sumParts_63 (by decide) (xst1 rfl rfl rfl) ?_
    exact h
set_option maxHeartbeats 4000000 in
set_option maxRecDepth 100000 in
theorem b_H_sumParts_k20_2 {G : XG} {S : XS}  {I : XI} {v1 : Int} {v2 : Int} {v4 : Int} {R : XI → Prop} (hS : xSh S)  (h : ((w32 (I c_herds 0) ≤ w32 (v4) → R I) ∧ (¬ (w32 (I c_herds 0) ≤ w32 (v4)) → Wt_reach G S I (v4) (v2) (fun I8 => (inb (v4) 6 ∧ H_sumParts_k65_2 G S I8 (v1) (v2) (v4) (if w32 (v1) < w32 (I8 c_herds_firstWeeks (ix (v4))) then I8 c_herds_firstWeeks (ix (v4)) else v1) R))))) : H_sumParts_k20_2 G S  I v1 v2 v4 R := by
  unfold H_sumParts_k20_2
  refine x_iload (pc := 20) dX10_sumParts_20 rfl ?_
  refine x_aload_n (pc := 22) dX10_sumParts_22 rfl rfl ?_
  refine x_getR (pc := 23) (i := c_obj) (a := c_told) fl_X10_12 dX10_sumParts_23 (sN_c_obj hS) (sT_c_obj hS) rfl (sR_c_obj_0 hS) ?_
  refine x_getR (pc := 26) (i := c_told) (a := c_herds) fl_X10_88 dX10_sumParts_26 (sN_c_told hS) (sT_c_told hS) rfl (sR_c_told_1 hS) ?_
  refine x_getI (pc := 29) (i := c_herds) fl_X10_354 dX10_sumParts_29 (sN_c_herds hS) (sT_c_herds hS) rfl ?_
  refine x_icmp_ge (pc := 32) (t := 127) dX10_sumParts_32 (by decide) (fun e => ?_) (fun e => ?_)
  · have h := h.1 e
    exact y_vret (pc := 127) dX10_sumParts_127 rfl ⟨Nat.le_refl _, Nat.le_refl _⟩ h
  · have h := h.2 e
    refine x_aload_n (pc := 35) dX10_sumParts_35 rfl rfl ?_
    refine x_aload_n (pc := 36) dX10_sumParts_36 rfl rfl ?_
    refine x_getR (pc := 37) (i := c_obj) (a := c_told) fl_X10_12 dX10_sumParts_37 (sN_c_obj hS) (sT_c_obj hS) rfl (sR_c_obj_0 hS) ?_
    refine x_iload (pc := 40) dX10_sumParts_40 rfl ?_
    refine x_iload_n (pc := 42) dX10_sumParts_42 rfl rfl ?_
    refine y_Vv (pc := 43) (i := c_then) (As := [vr G c_told, vi (v4), vi (v2)]) (rest := []) ok_X9_reach ml_X10_140 dX10_sumParts_43 (sN_c_then hS) (sT_c_then hS) (by decide) rfl rfl rfl ⟨rfl, rfl⟩ ⟨by decide, by decide⟩ ⟨Nat.le_refl _, Nat.le_refl _⟩ (Nat.le_of_ble_eq_true rfl) rfl h (fun I8 h => ?_)
    refine x_iload_n (pc := 46) dX10_sumParts_46 rfl rfl ?_
    refine x_aload_n (pc := 47) dX10_sumParts_47 rfl rfl ?_
    refine x_getR (pc := 48) (i := c_obj) (a := c_told) fl_X10_12 dX10_sumParts_48 (sN_c_obj hS) (sT_c_obj hS) rfl (sR_c_obj_0 hS) ?_
    refine x_getR (pc := 51) (i := c_told) (a := c_herds) fl_X10_88 dX10_sumParts_51 (sN_c_told hS) (sT_c_told hS) rfl (sR_c_told_1 hS) ?_
    refine x_getR (pc := 54) (i := c_herds) (a := c_herds_firstWeeks) fl_X10_121 dX10_sumParts_54 (sN_c_herds hS) (sT_c_herds hS) rfl (sR_c_herds_3 hS) ?_
    refine x_iload (pc := 57) dX10_sumParts_57 rfl ?_
    refine y_iald (pc := 59) (i := c_herds_firstWeeks) (n := 6) dX10_sumParts_59 (sN_c_herds_firstWeeks hS) (sT_c_herds_firstWeeks hS) (sL_c_herds_firstWeeks hS) h.1 ?_
    have h := h.2
    refine x_max (pc := 60) ⟨ml_X10_402, w_maxs, w_mi, w_maxc⟩ dX10_sumParts_60 ⟨by decide, Nat.le_of_ble_eq_true rfl, Nat.le_refl _, Nat.le_refl _⟩ ?_
    refine x_istore (pc := 63) (L' := [some (vr G c_obj), some (vi (v1)), some (vi (v2)), some (vr G c_then), some (vi (v4)), some (vi (if w32 (v1) < w32 (I8 c_herds_firstWeeks (ix (v4))) then I8 c_herds_firstWeeks (ix (v4)) else v1)), none]) dX10_sumParts_63 (by decide) (xst1 rfl rfl rfl) ?_
    exact h
set_option maxHeartbeats 4000000 in
set_option maxRecDepth 100000 in
theorem b_H_sumParts_k65 {G : XG} {S : XS}  {I : XI} {v1 : Int} {v2 : Int} {v4 : Int} {v5 : Int} {R : XI → Prop} (hS : xSh S)  (h : ((w32 (v2) < w32 (v5) → H_sumParts_k20 G S I (v1) (v2) (v4 + 1) R) ∧ (¬ (w32 (v2) < w32 (v5)) → H_sumParts_k74 G S I (v1) (v2) (v4) (v5) (0) R))) : H_sumParts_k65 G S  I v1 v2 v4 v5 R := by
  unfold H_sumParts_k65
  refine x_iload (pc := 65) dX10_sumParts_65 rfl ?_
  refine x_iload_n (pc := 67) dX10_sumParts_67 rfl rfl ?_
  refine x_icmp_gt (pc := 68) (t := 121) dX10_sumParts_68 (by decide) (fun e => ?_) (fun e => ?_)
  · have h := h.1 e
    refine x_iinc (pc := 121) (L' := [some (vr G c_obj), some (vi (v1)), some (vi (v2)), some (vr G c_now), some (vi (v4 + 1)), some (vi (v5)), none]) dX10_sumParts_121 rfl (by decide) (xst1 rfl rfl rfl) ?_
    refine x_goto (pc := 124) (t := 20) dX10_sumParts_124 (by decide) ?_
    refine x_less (L' := [some (vr G c_obj), some (vi (v1)), some (vi (v2)), some (vr G c_now), some (vi (v4 + 1)), none, none]) (And.intro rfl (And.intro rfl (And.intro rfl (And.intro rfl (And.intro rfl trivial))))) ?_
    exact h
  · have h := h.2 e
    refine x_iconst (pc := 71) dX10_sumParts_71 ?_
    refine x_istore (pc := 72) (L' := [some (vr G c_obj), some (vi (v1)), some (vi (v2)), some (vr G c_now), some (vi (v4)), some (vi (v5)), some (vi (0))]) dX10_sumParts_72 (by decide) (xst1 rfl rfl rfl) ?_
    exact h
set_option maxHeartbeats 4000000 in
set_option maxRecDepth 100000 in
theorem b_H_sumParts_k65_2 {G : XG} {S : XS}  {I : XI} {v1 : Int} {v2 : Int} {v4 : Int} {v5 : Int} {R : XI → Prop} (hS : xSh S)  (h : ((w32 (v2) < w32 (v5) → H_sumParts_k20_2 G S I (v1) (v2) (v4 + 1) R) ∧ (¬ (w32 (v2) < w32 (v5)) → H_sumParts_k74_2 G S I (v1) (v2) (v4) (v5) (0) R))) : H_sumParts_k65_2 G S  I v1 v2 v4 v5 R := by
  unfold H_sumParts_k65_2
  refine x_iload (pc := 65) dX10_sumParts_65 rfl ?_
  refine x_iload_n (pc := 67) dX10_sumParts_67 rfl rfl ?_
  refine x_icmp_gt (pc := 68) (t := 121) dX10_sumParts_68 (by decide) (fun e => ?_) (fun e => ?_)
  · have h := h.1 e
    refine x_iinc (pc := 121) (L' := [some (vr G c_obj), some (vi (v1)), some (vi (v2)), some (vr G c_then), some (vi (v4 + 1)), some (vi (v5)), none]) dX10_sumParts_121 rfl (by decide) (xst1 rfl rfl rfl) ?_
    refine x_goto (pc := 124) (t := 20) dX10_sumParts_124 (by decide) ?_
    refine x_less (L' := [some (vr G c_obj), some (vi (v1)), some (vi (v2)), some (vr G c_then), some (vi (v4 + 1)), none, none]) (And.intro rfl (And.intro rfl (And.intro rfl (And.intro rfl (And.intro rfl trivial))))) ?_
    exact h
  · have h := h.2 e
    refine x_iconst (pc := 71) dX10_sumParts_71 ?_
    refine x_istore (pc := 72) (L' := [some (vr G c_obj), some (vi (v1)), some (vi (v2)), some (vr G c_then), some (vi (v4)), some (vi (v5)), some (vi (0))]) dX10_sumParts_72 (by decide) (xst1 rfl rfl rfl) ?_
    exact h
set_option maxHeartbeats 4000000 in
set_option maxRecDepth 100000 in
theorem b_H_sumParts_k74 {G : XG} {S : XS}  {I : XI} {v1 : Int} {v2 : Int} {v4 : Int} {v5 : Int} {v6 : Int} {R : XI → Prop} (hS : xSh S)  (h : ((w32 (I c_land 0) ≤ w32 (v6) → H_sumParts_k65 G S I (v1) (v2) (v4) (v5 + 1) R) ∧ (¬ (w32 (I c_land 0) ≤ w32 (v6)) → (inb (v6) 10 ∧ Wn_partsAt G S I (v4) (v6) (v5) (fun r10 I9 => (inb (v6) 10 ∧ (∀ I11 : XI, I11 = up I9 c_sums (ix (v6)) ((I c_sums (ix (v6))) + (r10)) → H_sumParts_k74 G S I11 (v1) (v2) (v4) (v5) (v6 + 1) R))))))) : H_sumParts_k74 G S  I v1 v2 v4 v5 v6 R := by
  unfold H_sumParts_k74
  refine x_iload (pc := 74) dX10_sumParts_74 rfl ?_
  refine x_aload_n (pc := 76) dX10_sumParts_76 rfl rfl ?_
  refine x_getR (pc := 77) (i := c_obj) (a := c_told) fl_X10_12 dX10_sumParts_77 (sN_c_obj hS) (sT_c_obj hS) rfl (sR_c_obj_0 hS) ?_
  refine x_getR (pc := 80) (i := c_told) (a := c_land) fl_X10_60 dX10_sumParts_80 (sN_c_told hS) (sT_c_told hS) rfl (sR_c_told_0 hS) ?_
  refine x_getI (pc := 83) (i := c_land) fl_X10_347 dX10_sumParts_83 (sN_c_land hS) (sT_c_land hS) rfl ?_
  refine x_icmp_ge (pc := 86) (t := 115) dX10_sumParts_86 (by decide) (fun e => ?_) (fun e => ?_)
  · have h := h.1 e
    refine x_iinc (pc := 115) (L' := [some (vr G c_obj), some (vi (v1)), some (vi (v2)), some (vr G c_now), some (vi (v4)), some (vi (v5 + 1)), some (vi (v6))]) dX10_sumParts_115 rfl (by decide) (xst1 rfl rfl rfl) ?_
    refine x_goto (pc := 118) (t := 65) dX10_sumParts_118 (by decide) ?_
    refine x_less (L' := [some (vr G c_obj), some (vi (v1)), some (vi (v2)), some (vr G c_now), some (vi (v4)), some (vi (v5 + 1)), none]) (And.intro rfl (And.intro rfl (And.intro rfl (And.intro rfl (And.intro rfl (And.intro rfl trivial)))))) ?_
    exact h
  · have h := h.2 e
    refine x_aload_n (pc := 89) dX10_sumParts_89 rfl rfl ?_
    refine x_getR (pc := 90) (i := c_obj) (a := c_sums) fl_X10_57 dX10_sumParts_90 (sN_c_obj hS) (sT_c_obj hS) rfl (sR_c_obj_8 hS) ?_
    refine x_iload (pc := 93) dX10_sumParts_93 rfl ?_
    refine x_dup2 (pc := 95) dX10_sumParts_95 rfl rfl ?_
    refine y_iald (pc := 96) (i := c_sums) (n := 10) dX10_sumParts_96 (sN_c_sums hS) (sT_c_sums hS) (sL_c_sums hS) h.1 ?_
    have h := h.2
    refine x_aload_n (pc := 97) dX10_sumParts_97 rfl rfl ?_
    refine x_iload (pc := 98) dX10_sumParts_98 rfl ?_
    refine x_iload (pc := 100) dX10_sumParts_100 rfl ?_
    refine x_iload (pc := 102) dX10_sumParts_102 rfl ?_
    refine y_Vi (pc := 104) (i := c_now) (As := [vi (v4), vi (v6), vi (v5)]) (rest := [vi (I c_sums (ix (v6))), vi (v6), vr G c_sums]) ok_X9_partsAt ml_X10_144 dX10_sumParts_104 (sN_c_now hS) (sT_c_now hS) (by decide) rfl rfl rfl ⟨rfl, rfl⟩ ⟨by decide, by decide⟩ ⟨Nat.le_refl _, Nat.le_refl _⟩ (Nat.le_of_ble_eq_true rfl) rfl h (fun r10 I9 h => ?_)
    refine x_iadd (pc := 107) dX10_sumParts_107 ?_
    refine y_iast (pc := 108) (i := c_sums) (n := 10) dX10_sumParts_108 (sN_c_sums hS) (sT_c_sums hS) (sL_c_sums hS) h.1 ?_
    have h := h.2
    have h := h _ rfl
    generalize up I9 c_sums (ix (v6)) ((I c_sums (ix (v6))) + (r10)) = I11 at h ⊢
    refine x_iinc (pc := 109) (L' := [some (vr G c_obj), some (vi (v1)), some (vi (v2)), some (vr G c_now), some (vi (v4)), some (vi (v5)), some (vi (v6 + 1))]) dX10_sumParts_109 rfl (by decide) (xst1 rfl rfl rfl) ?_
    refine x_goto (pc := 112) (t := 74) dX10_sumParts_112 (by decide) ?_
    exact h
set_option maxHeartbeats 4000000 in
set_option maxRecDepth 100000 in
theorem b_H_sumParts_k74_2 {G : XG} {S : XS}  {I : XI} {v1 : Int} {v2 : Int} {v4 : Int} {v5 : Int} {v6 : Int} {R : XI → Prop} (hS : xSh S)  (h : ((w32 (I c_land 0) ≤ w32 (v6) → H_sumParts_k65_2 G S I (v1) (v2) (v4) (v5 + 1) R) ∧ (¬ (w32 (I c_land 0) ≤ w32 (v6)) → (inb (v6) 10 ∧ Wt_partsAt G S I (v4) (v6) (v5) (fun r13 I12 => (inb (v6) 10 ∧ (∀ I14 : XI, I14 = up I12 c_sums (ix (v6)) ((I c_sums (ix (v6))) + (r13)) → H_sumParts_k74_2 G S I14 (v1) (v2) (v4) (v5) (v6 + 1) R))))))) : H_sumParts_k74_2 G S  I v1 v2 v4 v5 v6 R := by
  unfold H_sumParts_k74_2
  refine x_iload (pc := 74) dX10_sumParts_74 rfl ?_
  refine x_aload_n (pc := 76) dX10_sumParts_76 rfl rfl ?_
  refine x_getR (pc := 77) (i := c_obj) (a := c_told) fl_X10_12 dX10_sumParts_77 (sN_c_obj hS) (sT_c_obj hS) rfl (sR_c_obj_0 hS) ?_
  refine x_getR (pc := 80) (i := c_told) (a := c_land) fl_X10_60 dX10_sumParts_80 (sN_c_told hS) (sT_c_told hS) rfl (sR_c_told_0 hS) ?_
  refine x_getI (pc := 83) (i := c_land) fl_X10_347 dX10_sumParts_83 (sN_c_land hS) (sT_c_land hS) rfl ?_
  refine x_icmp_ge (pc := 86) (t := 115) dX10_sumParts_86 (by decide) (fun e => ?_) (fun e => ?_)
  · have h := h.1 e
    refine x_iinc (pc := 115) (L' := [some (vr G c_obj), some (vi (v1)), some (vi (v2)), some (vr G c_then), some (vi (v4)), some (vi (v5 + 1)), some (vi (v6))]) dX10_sumParts_115 rfl (by decide) (xst1 rfl rfl rfl) ?_
    refine x_goto (pc := 118) (t := 65) dX10_sumParts_118 (by decide) ?_
    refine x_less (L' := [some (vr G c_obj), some (vi (v1)), some (vi (v2)), some (vr G c_then), some (vi (v4)), some (vi (v5 + 1)), none]) (And.intro rfl (And.intro rfl (And.intro rfl (And.intro rfl (And.intro rfl (And.intro rfl trivial)))))) ?_
    exact h
  · have h := h.2 e
    refine x_aload_n (pc := 89) dX10_sumParts_89 rfl rfl ?_
    refine x_getR (pc := 90) (i := c_obj) (a := c_sums) fl_X10_57 dX10_sumParts_90 (sN_c_obj hS) (sT_c_obj hS) rfl (sR_c_obj_8 hS) ?_
    refine x_iload (pc := 93) dX10_sumParts_93 rfl ?_
    refine x_dup2 (pc := 95) dX10_sumParts_95 rfl rfl ?_
    refine y_iald (pc := 96) (i := c_sums) (n := 10) dX10_sumParts_96 (sN_c_sums hS) (sT_c_sums hS) (sL_c_sums hS) h.1 ?_
    have h := h.2
    refine x_aload_n (pc := 97) dX10_sumParts_97 rfl rfl ?_
    refine x_iload (pc := 98) dX10_sumParts_98 rfl ?_
    refine x_iload (pc := 100) dX10_sumParts_100 rfl ?_
    refine x_iload (pc := 102) dX10_sumParts_102 rfl ?_
    refine y_Vi (pc := 104) (i := c_then) (As := [vi (v4), vi (v6), vi (v5)]) (rest := [vi (I c_sums (ix (v6))), vi (v6), vr G c_sums]) ok_X9_partsAt ml_X10_144 dX10_sumParts_104 (sN_c_then hS) (sT_c_then hS) (by decide) rfl rfl rfl ⟨rfl, rfl⟩ ⟨by decide, by decide⟩ ⟨Nat.le_refl _, Nat.le_refl _⟩ (Nat.le_of_ble_eq_true rfl) rfl h (fun r13 I12 h => ?_)
    refine x_iadd (pc := 107) dX10_sumParts_107 ?_
    refine y_iast (pc := 108) (i := c_sums) (n := 10) dX10_sumParts_108 (sN_c_sums hS) (sT_c_sums hS) (sL_c_sums hS) h.1 ?_
    have h := h.2
    have h := h _ rfl
    generalize up I12 c_sums (ix (v6)) ((I c_sums (ix (v6))) + (r13)) = I14 at h ⊢
    refine x_iinc (pc := 109) (L' := [some (vr G c_obj), some (vi (v1)), some (vi (v2)), some (vr G c_then), some (vi (v4)), some (vi (v5)), some (vi (v6 + 1))]) dX10_sumParts_109 rfl (by decide) (xst1 rfl rfl rfl) ?_
    refine x_goto (pc := 112) (t := 74) dX10_sumParts_112 (by decide) ?_
    exact h
set_option maxHeartbeats 4000000 in
set_option maxRecDepth 100000 in
theorem b_H_tear {G : XG} {S : XS} {I : XI} {v1 : Int} {v2 : Int} {v3 : Int} {R : Int → XI → Prop} (hS : xSh S)  (h : Sh_hasRoom G S I (fun r2 I1 => ((w32 (r2) = 0 → R ((-1)) I1) ∧ (¬ (w32 (r2) = 0) → Sh_hasBook G S I1 (v1) (fun r4 I3 => ((w32 (r4) = 0 → R ((-1)) I3) ∧ (¬ (w32 (r4) = 0) → H_isPast G S I3 (v3) (fun r6 I5 => ((w32 (r6) = 0 → R ((-1)) I5) ∧ (¬ (w32 (r6) = 0) → Sh_holder G S I5 (v1) (v3) (99) (fun r8 I7 => ((w32 (r8) = w32 ((-1)) → R ((-1)) I7) ∧ (¬ (w32 (r8) = w32 ((-1))) → Sh_pagesLeft G S I7 (v1) (99) (99) (fun r10 I9 => H_isIn G S I9 (v2) (1) (r10) (fun r12 I11 => ((w32 (r12) = 0 → R ((-1)) I11) ∧ (¬ (w32 (r12) = 0) → H_gatherCamp G S I11 (r8) (v3) (99) (fun I13 => H_gatherBook G S I13 (r8) (v1) (v3) (99) (fun I14 => Ru_numberBy G S I14 (2) (0) (fun r16 I15 => Sh_addAct G S I15 (v1) (3) (r8) (v3) (I15 c_told 9) (v2) (r16) (fun r18 I17 => R (r18) I17))))))))))))))))))))) : H_tear G S I v1 v2 v3 R := by
  refine x_start [some (vr G c_obj), some (vi (v1)), some (vi (v2)), some (vi (v3)), none, none, none] (by decide) (Nat.le_of_ble_eq_true rfl) rfl ?_
  refine x_aload_n (pc := 0) dX10_tear_0 rfl rfl ?_
  refine x_getR (pc := 1) (i := c_obj) (a := c_told) fl_X10_12 dX10_tear_1 (sN_c_obj hS) (sT_c_obj hS) rfl (sR_c_obj_0 hS) ?_
  refine x_getR (pc := 4) (i := c_told) (a := c_shelf) fl_X10_154 dX10_tear_4 (sN_c_told hS) (sT_c_told hS) rfl (sR_c_told_2 hS) ?_
  refine x_astore (pc := 7) (L' := [some (vr G c_obj), some (vi (v1)), some (vi (v2)), some (vi (v3)), some (vr G c_shelf), none, none]) dX10_tear_7 (by decide) (xst1 rfl rfl rfl) ?_
  refine x_aload (pc := 9) dX10_tear_9 rfl ?_
  refine y_Vi (pc := 11) (i := c_shelf) (As := []) (rest := []) ok_X6_hasRoom ml_X10_164 dX10_tear_11 (sN_c_shelf hS) (sT_c_shelf hS) (by decide) rfl rfl rfl ⟨rfl, rfl⟩ ⟨by decide, by decide⟩ ⟨Nat.le_refl _, Nat.le_refl _⟩ (Nat.le_of_ble_eq_true rfl) rfl h (fun r2 I1 h => ?_)
  refine x_if_eq (pc := 14) (t := 34) dX10_tear_14 (by decide) (fun e => ?_) (fun e => ?_)
  · have h := h.1 e
    refine x_iconst (pc := 34) dX10_tear_34 ?_
    exact y_iret (pc := 35) dX10_tear_35 rfl ⟨Nat.le_refl _, Nat.le_refl _⟩ h
  · have h := h.2 e
    refine x_aload (pc := 17) dX10_tear_17 rfl ?_
    refine x_iload_n (pc := 19) dX10_tear_19 rfl rfl ?_
    refine y_Vi (pc := 20) (i := c_shelf) (As := [vi (v1)]) (rest := []) ok_X6_hasBook ml_X10_168 dX10_tear_20 (sN_c_shelf hS) (sT_c_shelf hS) (by decide) rfl rfl rfl ⟨rfl, rfl⟩ ⟨by decide, by decide⟩ ⟨Nat.le_refl _, Nat.le_refl _⟩ (Nat.le_of_ble_eq_true rfl) rfl h (fun r4 I3 h => ?_)
    refine x_if_eq (pc := 23) (t := 34) dX10_tear_23 (by decide) (fun e => ?_) (fun e => ?_)
    · have h := h.1 e
      refine x_iconst (pc := 34) dX10_tear_34 ?_
      exact y_iret (pc := 35) dX10_tear_35 rfl ⟨Nat.le_refl _, Nat.le_refl _⟩ h
    · have h := h.2 e
      refine x_aload_n (pc := 26) dX10_tear_26 rfl rfl ?_
      refine x_iload_n (pc := 27) dX10_tear_27 rfl rfl ?_
      refine y_Vi (pc := 28) (i := c_obj) (As := [vi (v3)]) (rest := []) ok_X10_isPast ml_X10_112 dX10_tear_28 (sN_c_obj hS) (sT_c_obj hS) (by decide) rfl rfl rfl ⟨rfl, rfl⟩ ⟨by decide, by decide⟩ ⟨Nat.le_refl _, Nat.le_refl _⟩ (Nat.le_of_ble_eq_true rfl) rfl h (fun r6 I5 h => ?_)
      refine x_if_ne (pc := 31) (t := 36) dX10_tear_31 (by decide) (fun e => ?_) (fun e => ?_)
      · have h := h.1 e
        refine x_iconst (pc := 34) dX10_tear_34 ?_
        exact y_iret (pc := 35) dX10_tear_35 rfl ⟨Nat.le_refl _, Nat.le_refl _⟩ h
      · have h := h.2 e
        refine x_aload (pc := 36) dX10_tear_36 rfl ?_
        refine x_iload_n (pc := 38) dX10_tear_38 rfl rfl ?_
        refine x_iload_n (pc := 39) dX10_tear_39 rfl rfl ?_
        refine x_bipush (pc := 40) dX10_tear_40 (by decide) ?_
        refine y_Vi (pc := 42) (i := c_shelf) (As := [vi (v1), vi (v3), vi (99)]) (rest := []) ok_X6_holder ml_X10_171 dX10_tear_42 (sN_c_shelf hS) (sT_c_shelf hS) (by decide) rfl rfl rfl ⟨rfl, rfl⟩ ⟨by decide, by decide⟩ ⟨Nat.le_refl _, Nat.le_refl _⟩ (Nat.le_of_ble_eq_true rfl) rfl h (fun r8 I7 h => ?_)
        refine x_istore (pc := 45) (L' := [some (vr G c_obj), some (vi (v1)), some (vi (v2)), some (vi (v3)), some (vr G c_shelf), some (vi (r8)), none]) dX10_tear_45 (by decide) (xst1 rfl rfl rfl) ?_
        refine x_iload (pc := 47) dX10_tear_47 rfl ?_
        refine x_iconst (pc := 49) dX10_tear_49 ?_
        refine x_icmp_eq (pc := 50) (t := 71) dX10_tear_50 (by decide) (fun e => ?_) (fun e => ?_)
        · have h := h.1 e
          refine x_iconst (pc := 71) dX10_tear_71 ?_
          exact y_iret (pc := 72) dX10_tear_72 rfl ⟨Nat.le_refl _, Nat.le_refl _⟩ h
        · have h := h.2 e
          refine x_iload_n (pc := 53) dX10_tear_53 rfl rfl ?_
          refine x_iconst (pc := 54) dX10_tear_54 ?_
          refine x_aload (pc := 55) dX10_tear_55 rfl ?_
          refine x_iload_n (pc := 57) dX10_tear_57 rfl rfl ?_
          refine x_bipush (pc := 58) dX10_tear_58 (by decide) ?_
          refine x_bipush (pc := 60) dX10_tear_60 (by decide) ?_
          refine y_Vi (pc := 62) (i := c_shelf) (As := [vi (v1), vi (99), vi (99)]) (rest := [vi (1), vi (v2)]) ok_X6_pagesLeft ml_X10_199 dX10_tear_62 (sN_c_shelf hS) (sT_c_shelf hS) (by decide) rfl rfl rfl ⟨rfl, rfl⟩ ⟨by decide, by decide⟩ ⟨Nat.le_refl _, Nat.le_refl _⟩ (Nat.le_of_ble_eq_true rfl) rfl h (fun r10 I9 h => ?_)
          refine y_Si (pc := 65) (As := [vi (v2), vi (1), vi (r10)]) (rest := []) ok_X10_isIn ml_X10_77 dX10_tear_65 rfl ⟨rfl, rfl⟩ ⟨by decide, by decide⟩ ⟨Nat.le_refl _, Nat.le_refl _⟩ (Nat.le_of_ble_eq_true rfl) rfl h (fun r12 I11 h => ?_)
          refine x_if_ne (pc := 68) (t := 73) dX10_tear_68 (by decide) (fun e => ?_) (fun e => ?_)
          · have h := h.1 e
            refine x_iconst (pc := 71) dX10_tear_71 ?_
            exact y_iret (pc := 72) dX10_tear_72 rfl ⟨Nat.le_refl _, Nat.le_refl _⟩ h
          · have h := h.2 e
            refine x_aload_n (pc := 73) dX10_tear_73 rfl rfl ?_
            refine x_iload (pc := 74) dX10_tear_74 rfl ?_
            refine x_iload_n (pc := 76) dX10_tear_76 rfl rfl ?_
            refine x_bipush (pc := 77) dX10_tear_77 (by decide) ?_
            refine y_Vv (pc := 79) (i := c_obj) (As := [vi (r8), vi (v3), vi (99)]) (rest := []) ok_X10_gatherCamp ml_X10_174 dX10_tear_79 (sN_c_obj hS) (sT_c_obj hS) (by decide) rfl rfl rfl ⟨rfl, rfl⟩ ⟨by decide, by decide⟩ ⟨Nat.le_refl _, Nat.le_refl _⟩ (Nat.le_of_ble_eq_true rfl) rfl h (fun I13 h => ?_)
            refine x_aload_n (pc := 82) dX10_tear_82 rfl rfl ?_
            refine x_iload (pc := 83) dX10_tear_83 rfl ?_
            refine x_iload_n (pc := 85) dX10_tear_85 rfl rfl ?_
            refine x_iload_n (pc := 86) dX10_tear_86 rfl rfl ?_
            refine x_bipush (pc := 87) dX10_tear_87 (by decide) ?_
            refine y_Vv (pc := 89) (i := c_obj) (As := [vi (r8), vi (v1), vi (v3), vi (99)]) (rest := []) ok_X10_gatherBook ml_X10_177 dX10_tear_89 (sN_c_obj hS) (sT_c_obj hS) (by decide) rfl rfl rfl ⟨rfl, rfl⟩ ⟨by decide, by decide⟩ ⟨Nat.le_refl _, Nat.le_refl _⟩ (Nat.le_of_ble_eq_true rfl) rfl h (fun I14 h => ?_)
            refine x_aload_n (pc := 92) dX10_tear_92 rfl rfl ?_
            refine x_getR (pc := 93) (i := c_obj) (a := c_told) fl_X10_12 dX10_tear_93 (sN_c_obj hS) (sT_c_obj hS) rfl (sR_c_obj_0 hS) ?_
            refine x_getR (pc := 96) (i := c_told) (a := c_rules) fl_X10_181 dX10_tear_96 (sN_c_told hS) (sT_c_told hS) rfl (sR_c_told_3 hS) ?_
            refine x_iconst (pc := 99) dX10_tear_99 ?_
            refine x_aload_n (pc := 100) dX10_tear_100 rfl rfl ?_
            refine x_getR (pc := 101) (i := c_obj) (a := c_facts) fl_X10_53 dX10_tear_101 (sN_c_obj hS) (sT_c_obj hS) rfl (sR_c_obj_7 hS) ?_
            refine x_iconst (pc := 104) dX10_tear_104 ?_
            refine y_Vi (pc := 105) (i := c_rules) (As := [vi (2), vr G c_facts, vi (0)]) (rest := []) ok_X5_numberBy ml_X10_191 dX10_tear_105 (sN_c_rules hS) (sT_c_rules hS) (by decide) rfl rfl rfl ⟨rfl, rfl⟩ ⟨by decide, by decide⟩ ⟨Nat.le_refl _, Nat.le_refl _⟩ (Nat.le_of_ble_eq_true rfl) rfl h (fun r16 I15 h => ?_)
            refine x_istore (pc := 108) (L' := [some (vr G c_obj), some (vi (v1)), some (vi (v2)), some (vi (v3)), some (vr G c_shelf), some (vi (r8)), some (vi (r16))]) dX10_tear_108 (by decide) (xst1 rfl rfl rfl) ?_
            refine x_aload (pc := 110) dX10_tear_110 rfl ?_
            refine x_iload_n (pc := 112) dX10_tear_112 rfl rfl ?_
            refine x_iconst (pc := 113) dX10_tear_113 ?_
            refine x_iload (pc := 114) dX10_tear_114 rfl ?_
            refine x_iload_n (pc := 116) dX10_tear_116 rfl rfl ?_
            refine x_aload_n (pc := 117) dX10_tear_117 rfl rfl ?_
            refine x_getR (pc := 118) (i := c_obj) (a := c_told) fl_X10_12 dX10_tear_118 (sN_c_obj hS) (sT_c_obj hS) rfl (sR_c_obj_0 hS) ?_
            refine x_getI (pc := 121) (i := c_told) fl_X10_92 dX10_tear_121 (sN_c_told hS) (sT_c_told hS) rfl ?_
            refine x_iload_n (pc := 124) dX10_tear_124 rfl rfl ?_
            refine x_iload (pc := 125) dX10_tear_125 rfl ?_
            refine y_Vi (pc := 127) (i := c_shelf) (As := [vi (v1), vi (3), vi (r8), vi (v3), vi (I15 c_told 9), vi (v2), vi (r16)]) (rest := []) ok_X6_addAct ml_X10_195 dX10_tear_127 (sN_c_shelf hS) (sT_c_shelf hS) (by decide) rfl rfl rfl ⟨rfl, rfl⟩ ⟨by decide, by decide⟩ ⟨Nat.le_refl _, Nat.le_refl _⟩ (Nat.le_of_ble_eq_true rfl) rfl h (fun r18 I17 h => ?_)
            exact y_iret (pc := 130) dX10_tear_130 rfl ⟨Nat.le_refl _, Nat.le_refl _⟩ h
set_option maxHeartbeats 4000000 in
set_option maxRecDepth 100000 in
theorem b_H_view {G : XG} {S : XS} {I : XI} {v1 : Int} {R : Int → XI → Prop} (hS : xSh S)  (h : ((w32 (v1) = w32 ((-1)) → (∀ I1 : XI, I1 = up I c_told 10 (v1) → R (1) I1)) ∧ (¬ (w32 (v1) = w32 ((-1))) → H_isPast G S I (v1) (fun r3 I2 => ((w32 (r3) = 0 → R (0) I2) ∧ (¬ (w32 (r3) = 0) → (∀ I4 : XI, I4 = up I2 c_told 10 (v1) → R (1) I4))))))) : H_view G S I v1 R := by
  refine x_start [some (vr G c_obj), some (vi (v1))] (by decide) (Nat.le_of_ble_eq_true rfl) rfl ?_
  refine x_iload_n (pc := 0) dX10_view_0 rfl rfl ?_
  refine x_iconst (pc := 1) dX10_view_1 ?_
  refine x_icmp_eq (pc := 2) (t := 15) dX10_view_2 (by decide) (fun e => ?_) (fun e => ?_)
  · have h := h.1 e
    refine x_aload_n (pc := 15) dX10_view_15 rfl rfl ?_
    refine x_getR (pc := 16) (i := c_obj) (a := c_told) fl_X10_12 dX10_view_16 (sN_c_obj hS) (sT_c_obj hS) rfl (sR_c_obj_0 hS) ?_
    refine x_iload_n (pc := 19) dX10_view_19 rfl rfl ?_
    refine x_putI (pc := 20) (i := c_told) fl_X10_115 dX10_view_20 (sN_c_told hS) (sT_c_told hS) rfl ?_
    have h := h _ rfl
    generalize up I c_told 10 (v1) = I1 at h ⊢
    refine x_iconst (pc := 23) dX10_view_23 ?_
    exact y_zret (pc := 24) dX10_view_24 rfl ⟨Nat.le_refl _, Nat.le_refl _⟩ (Or.inr rfl) h
  · have h := h.2 e
    refine x_aload_n (pc := 5) dX10_view_5 rfl rfl ?_
    refine x_iload_n (pc := 6) dX10_view_6 rfl rfl ?_
    refine y_Vi (pc := 7) (i := c_obj) (As := [vi (v1)]) (rest := []) ok_X10_isPast ml_X10_112 dX10_view_7 (sN_c_obj hS) (sT_c_obj hS) (by decide) rfl rfl rfl ⟨rfl, rfl⟩ ⟨by decide, by decide⟩ ⟨Nat.le_refl _, Nat.le_refl _⟩ (Nat.le_of_ble_eq_true rfl) rfl h (fun r3 I2 h => ?_)
    refine x_if_ne (pc := 10) (t := 15) dX10_view_10 (by decide) (fun e => ?_) (fun e => ?_)
    · have h := h.1 e
      refine x_iconst (pc := 13) dX10_view_13 ?_
      exact y_zret (pc := 14) dX10_view_14 rfl ⟨Nat.le_refl _, Nat.le_refl _⟩ (Or.inl rfl) h
    · have h := h.2 e
      refine x_aload_n (pc := 15) dX10_view_15 rfl rfl ?_
      refine x_getR (pc := 16) (i := c_obj) (a := c_told) fl_X10_12 dX10_view_16 (sN_c_obj hS) (sT_c_obj hS) rfl (sR_c_obj_0 hS) ?_
      refine x_iload_n (pc := 19) dX10_view_19 rfl rfl ?_
      refine x_putI (pc := 20) (i := c_told) fl_X10_115 dX10_view_20 (sN_c_told hS) (sT_c_told hS) rfl ?_
      have h := h _ rfl
      generalize up I2 c_told 10 (v1) = I4 at h ⊢
      refine x_iconst (pc := 23) dX10_view_23 ?_
      exact y_zret (pc := 24) dX10_view_24 rfl ⟨Nat.le_refl _, Nat.le_refl _⟩ (Or.inr rfl) h
set_option maxHeartbeats 4000000 in
set_option maxRecDepth 100000 in
theorem b_H_walkRound {G : XG} {S : XS} {I : XI} {v1 : Int} {v2 : Int} {R : Int → XI → Prop} (hS : xSh S)  (h : H_isWeek G S I (v1) (fun r2 I1 => ((w32 (r2) = 0 → R (0) I1) ∧ (¬ (w32 (r2) = 0) → H_isIn G S I1 (v2) (1) (60) (fun r4 I3 => ((w32 (r4) = 0 → R (0) I3) ∧ (¬ (w32 (r4) = 0) → ((w32 (I3 c_land 0) = 0 → R (0) I3) ∧ (¬ (w32 (I3 c_land 0) = 0) → H_sumParts G S I3 (v1) (v1) (fun I5 => Wa_choose G S I5 (v2) (fun I6 => R (1) I6))))))))))) : H_walkRound G S I v1 v2 R := by
  refine x_start [some (vr G c_obj), some (vi (v1)), some (vi (v2))] (by decide) (Nat.le_of_ble_eq_true rfl) rfl ?_
  refine x_iload_n (pc := 0) dX10_walkRound_0 rfl rfl ?_
  refine y_Si (pc := 1) (As := [vi (v1)]) (rest := []) ok_X10_isWeek ml_X10_102 dX10_walkRound_1 rfl ⟨rfl, rfl⟩ ⟨by decide, by decide⟩ ⟨Nat.le_refl _, Nat.le_refl _⟩ (Nat.le_of_ble_eq_true rfl) rfl h (fun r2 I1 h => ?_)
  refine x_if_eq (pc := 4) (t := 30) dX10_walkRound_4 (by decide) (fun e => ?_) (fun e => ?_)
  · have h := h.1 e
    refine x_iconst (pc := 30) dX10_walkRound_30 ?_
    exact y_zret (pc := 31) dX10_walkRound_31 rfl ⟨Nat.le_refl _, Nat.le_refl _⟩ (Or.inl rfl) h
  · have h := h.2 e
    refine x_iload_n (pc := 7) dX10_walkRound_7 rfl rfl ?_
    refine x_iconst (pc := 8) dX10_walkRound_8 ?_
    refine x_bipush (pc := 9) dX10_walkRound_9 (by decide) ?_
    refine y_Si (pc := 11) (As := [vi (v2), vi (1), vi (60)]) (rest := []) ok_X10_isIn ml_X10_77 dX10_walkRound_11 rfl ⟨rfl, rfl⟩ ⟨by decide, by decide⟩ ⟨Nat.le_refl _, Nat.le_refl _⟩ (Nat.le_of_ble_eq_true rfl) rfl h (fun r4 I3 h => ?_)
    refine x_if_eq (pc := 14) (t := 30) dX10_walkRound_14 (by decide) (fun e => ?_) (fun e => ?_)
    · have h := h.1 e
      refine x_iconst (pc := 30) dX10_walkRound_30 ?_
      exact y_zret (pc := 31) dX10_walkRound_31 rfl ⟨Nat.le_refl _, Nat.le_refl _⟩ (Or.inl rfl) h
    · have h := h.2 e
      refine x_aload_n (pc := 17) dX10_walkRound_17 rfl rfl ?_
      refine x_getR (pc := 18) (i := c_obj) (a := c_told) fl_X10_12 dX10_walkRound_18 (sN_c_obj hS) (sT_c_obj hS) rfl (sR_c_obj_0 hS) ?_
      refine x_getR (pc := 21) (i := c_told) (a := c_land) fl_X10_60 dX10_walkRound_21 (sN_c_told hS) (sT_c_told hS) rfl (sR_c_told_0 hS) ?_
      refine x_getI (pc := 24) (i := c_land) fl_X10_347 dX10_walkRound_24 (sN_c_land hS) (sT_c_land hS) rfl ?_
      refine x_if_ne (pc := 27) (t := 32) dX10_walkRound_27 (by decide) (fun e => ?_) (fun e => ?_)
      · have h := h.1 e
        refine x_iconst (pc := 30) dX10_walkRound_30 ?_
        exact y_zret (pc := 31) dX10_walkRound_31 rfl ⟨Nat.le_refl _, Nat.le_refl _⟩ (Or.inl rfl) h
      · have h := h.2 e
        refine x_aload_n (pc := 32) dX10_walkRound_32 rfl rfl ?_
        refine x_iload_n (pc := 33) dX10_walkRound_33 rfl rfl ?_
        refine x_iload_n (pc := 34) dX10_walkRound_34 rfl rfl ?_
        refine y_Vv (pc := 35) (i := c_obj) (As := [vi (v1), vi (v1)]) (rest := []) ok_X10_sumParts ml_X10_350 dX10_walkRound_35 (sN_c_obj hS) (sT_c_obj hS) (by decide) rfl rfl rfl ⟨rfl, rfl⟩ ⟨by decide, by decide⟩ ⟨Nat.le_refl _, Nat.le_refl _⟩ (Nat.le_of_ble_eq_true rfl) rfl h (fun I5 h => ?_)
        refine x_aload_n (pc := 38) dX10_walkRound_38 rfl rfl ?_
        refine x_getR (pc := 39) (i := c_obj) (a := c_walks) fl_X10_35 dX10_walkRound_39 (sN_c_obj hS) (sT_c_obj hS) rfl (sR_c_obj_4 hS) ?_
        refine x_aload_n (pc := 42) dX10_walkRound_42 rfl rfl ?_
        refine x_getR (pc := 43) (i := c_obj) (a := c_told) fl_X10_12 dX10_walkRound_43 (sN_c_obj hS) (sT_c_obj hS) rfl (sR_c_obj_0 hS) ?_
        refine x_getR (pc := 46) (i := c_told) (a := c_land) fl_X10_60 dX10_walkRound_46 (sN_c_told hS) (sT_c_told hS) rfl (sR_c_told_0 hS) ?_
        refine x_aload_n (pc := 49) dX10_walkRound_49 rfl rfl ?_
        refine x_getR (pc := 50) (i := c_obj) (a := c_sums) fl_X10_57 dX10_walkRound_50 (sN_c_obj hS) (sT_c_obj hS) rfl (sR_c_obj_8 hS) ?_
        refine x_iload_n (pc := 53) dX10_walkRound_53 rfl rfl ?_
        refine y_Vv (pc := 54) (i := c_walks) (As := [vr G c_land, vr G c_sums, vi (v2)]) (rest := []) ok_X8_choose ml_X10_407 dX10_walkRound_54 (sN_c_walks hS) (sT_c_walks hS) (by decide) rfl rfl rfl ⟨rfl, rfl⟩ ⟨by decide, by decide⟩ ⟨Nat.le_refl _, Nat.le_refl _⟩ (Nat.le_of_ble_eq_true rfl) rfl h (fun I6 h => ?_)
        refine x_iconst (pc := 57) dX10_walkRound_57 ?_
        exact y_zret (pc := 58) dX10_walkRound_58 rfl ⟨Nat.le_refl _, Nat.le_refl _⟩ (Or.inr rfl) h
set_option maxHeartbeats 4000000 in
set_option maxRecDepth 100000 in
theorem b_H_way {G : XG} {S : XS} {I : XI} {v1 : Int} {v2 : Int} {v3 : Int} {R : Int → XI → Prop} (hS : xSh S)  (h : La_hasCell G S I (v1) (fun r2 I1 => ((w32 (r2) = 0 → R (0) I1) ∧ (¬ (w32 (r2) = 0) → La_hasCell G S I1 (v2) (fun r4 I3 => ((w32 (r4) = 0 → R (0) I3) ∧ (¬ (w32 (r4) = 0) → ((w32 (v1) = w32 (v2) → R (0) I3) ∧ (¬ (w32 (v1) = w32 (v2)) → H_isIn G S I3 (v3) (1) (9) (fun r6 I5 => ((w32 (r6) = 0 → R (0) I5) ∧ (¬ (w32 (r6) = 0) → La_setWay G S I5 (v1) (v2) (v3) (fun I7 => H_forgetWays G S I7 (fun I8 => R (1) I8)))))))))))))) : H_way G S I v1 v2 v3 R := by
  refine x_start [some (vr G c_obj), some (vi (v1)), some (vi (v2)), some (vi (v3)), none] (by decide) (Nat.le_of_ble_eq_true rfl) rfl ?_
  refine x_aload_n (pc := 0) dX10_way_0 rfl rfl ?_
  refine x_getR (pc := 1) (i := c_obj) (a := c_told) fl_X10_12 dX10_way_1 (sN_c_obj hS) (sT_c_obj hS) rfl (sR_c_obj_0 hS) ?_
  refine x_getR (pc := 4) (i := c_told) (a := c_land) fl_X10_60 dX10_way_4 (sN_c_told hS) (sT_c_told hS) rfl (sR_c_told_0 hS) ?_
  refine x_astore (pc := 7) (L' := [some (vr G c_obj), some (vi (v1)), some (vi (v2)), some (vi (v3)), some (vr G c_land)]) dX10_way_7 (by decide) (xst1 rfl rfl rfl) ?_
  refine x_aload (pc := 9) dX10_way_9 rfl ?_
  refine x_iload_n (pc := 11) dX10_way_11 rfl rfl ?_
  refine y_Vi (pc := 12) (i := c_land) (As := [vi (v1)]) (rest := []) ok_X2_hasCell ml_X10_73 dX10_way_12 (sN_c_land hS) (sT_c_land hS) (by decide) rfl rfl rfl ⟨rfl, rfl⟩ ⟨by decide, by decide⟩ ⟨Nat.le_refl _, Nat.le_refl _⟩ (Nat.le_of_ble_eq_true rfl) rfl h (fun r2 I1 h => ?_)
  refine x_if_eq (pc := 15) (t := 42) dX10_way_15 (by decide) (fun e => ?_) (fun e => ?_)
  · have h := h.1 e
    refine x_iconst (pc := 42) dX10_way_42 ?_
    exact y_zret (pc := 43) dX10_way_43 rfl ⟨Nat.le_refl _, Nat.le_refl _⟩ (Or.inl rfl) h
  · have h := h.2 e
    refine x_aload (pc := 18) dX10_way_18 rfl ?_
    refine x_iload_n (pc := 20) dX10_way_20 rfl rfl ?_
    refine y_Vi (pc := 21) (i := c_land) (As := [vi (v2)]) (rest := []) ok_X2_hasCell ml_X10_73 dX10_way_21 (sN_c_land hS) (sT_c_land hS) (by decide) rfl rfl rfl ⟨rfl, rfl⟩ ⟨by decide, by decide⟩ ⟨Nat.le_refl _, Nat.le_refl _⟩ (Nat.le_of_ble_eq_true rfl) rfl h (fun r4 I3 h => ?_)
    refine x_if_eq (pc := 24) (t := 42) dX10_way_24 (by decide) (fun e => ?_) (fun e => ?_)
    · have h := h.1 e
      refine x_iconst (pc := 42) dX10_way_42 ?_
      exact y_zret (pc := 43) dX10_way_43 rfl ⟨Nat.le_refl _, Nat.le_refl _⟩ (Or.inl rfl) h
    · have h := h.2 e
      refine x_iload_n (pc := 27) dX10_way_27 rfl rfl ?_
      refine x_iload_n (pc := 28) dX10_way_28 rfl rfl ?_
      refine x_icmp_eq (pc := 29) (t := 42) dX10_way_29 (by decide) (fun e => ?_) (fun e => ?_)
      · have h := h.1 e
        refine x_iconst (pc := 42) dX10_way_42 ?_
        exact y_zret (pc := 43) dX10_way_43 rfl ⟨Nat.le_refl _, Nat.le_refl _⟩ (Or.inl rfl) h
      · have h := h.2 e
        refine x_iload_n (pc := 32) dX10_way_32 rfl rfl ?_
        refine x_iconst (pc := 33) dX10_way_33 ?_
        refine x_bipush (pc := 34) dX10_way_34 (by decide) ?_
        refine y_Si (pc := 36) (As := [vi (v3), vi (1), vi (9)]) (rest := []) ok_X10_isIn ml_X10_77 dX10_way_36 rfl ⟨rfl, rfl⟩ ⟨by decide, by decide⟩ ⟨Nat.le_refl _, Nat.le_refl _⟩ (Nat.le_of_ble_eq_true rfl) rfl h (fun r6 I5 h => ?_)
        refine x_if_ne (pc := 39) (t := 44) dX10_way_39 (by decide) (fun e => ?_) (fun e => ?_)
        · have h := h.1 e
          refine x_iconst (pc := 42) dX10_way_42 ?_
          exact y_zret (pc := 43) dX10_way_43 rfl ⟨Nat.le_refl _, Nat.le_refl _⟩ (Or.inl rfl) h
        · have h := h.2 e
          refine x_aload (pc := 44) dX10_way_44 rfl ?_
          refine x_iload_n (pc := 46) dX10_way_46 rfl rfl ?_
          refine x_iload_n (pc := 47) dX10_way_47 rfl rfl ?_
          refine x_iload_n (pc := 48) dX10_way_48 rfl rfl ?_
          refine y_Vv (pc := 49) (i := c_land) (As := [vi (v1), vi (v2), vi (v3)]) (rest := []) ok_X2_setWay ml_X10_81 dX10_way_49 (sN_c_land hS) (sT_c_land hS) (by decide) rfl rfl rfl ⟨rfl, rfl⟩ ⟨by decide, by decide⟩ ⟨Nat.le_refl _, Nat.le_refl _⟩ (Nat.le_of_ble_eq_true rfl) rfl h (fun I7 h => ?_)
          refine x_aload_n (pc := 52) dX10_way_52 rfl rfl ?_
          refine y_Vv (pc := 53) (i := c_obj) (As := []) (rest := []) ok_X10_forgetWays ml_X10_70 dX10_way_53 (sN_c_obj hS) (sT_c_obj hS) (by decide) rfl rfl rfl ⟨rfl, rfl⟩ ⟨by decide, by decide⟩ ⟨Nat.le_refl _, Nat.le_refl _⟩ (Nat.le_of_ble_eq_true rfl) rfl h (fun I8 h => ?_)
          refine x_iconst (pc := 56) dX10_way_56 ?_
          exact y_zret (pc := 57) dX10_way_57 rfl ⟨Nat.le_refl _, Nat.le_refl _⟩ (Or.inr rfl) h
set_option maxHeartbeats 4000000 in
set_option maxRecDepth 100000 in
theorem b_H_week {G : XG} {S : XS} {I : XI} {v1 : Int} {R : Int → XI → Prop} (hS : xSh S)  (h : ((w32 (v1) < w32 (I c_told 9) → R (0) I) ∧ (¬ (w32 (v1) < w32 (I c_told 9)) → ((w32 (v1) ≤ w32 (99) → (∀ I1 : XI, I1 = up I c_told 9 (v1) → R (1) I1)) ∧ (¬ (w32 (v1) ≤ w32 (99)) → R (0) I))))) : H_week G S I v1 R := by
  refine x_start [some (vr G c_obj), some (vi (v1))] (by decide) (Nat.le_of_ble_eq_true rfl) rfl ?_
  refine x_iload_n (pc := 0) dX10_week_0 rfl rfl ?_
  refine x_aload_n (pc := 1) dX10_week_1 rfl rfl ?_
  refine x_getR (pc := 2) (i := c_obj) (a := c_told) fl_X10_12 dX10_week_2 (sN_c_obj hS) (sT_c_obj hS) rfl (sR_c_obj_0 hS) ?_
  refine x_getI (pc := 5) (i := c_told) fl_X10_92 dX10_week_5 (sN_c_told hS) (sT_c_told hS) rfl ?_
  refine x_icmp_lt (pc := 8) (t := 17) dX10_week_8 (by decide) (fun e => ?_) (fun e => ?_)
  · have h := h.1 e
    refine x_iconst (pc := 17) dX10_week_17 ?_
    exact y_zret (pc := 18) dX10_week_18 rfl ⟨Nat.le_refl _, Nat.le_refl _⟩ (Or.inl rfl) h
  · have h := h.2 e
    refine x_iload_n (pc := 11) dX10_week_11 rfl rfl ?_
    refine x_bipush (pc := 12) dX10_week_12 (by decide) ?_
    refine x_icmp_le (pc := 14) (t := 19) dX10_week_14 (by decide) (fun e => ?_) (fun e => ?_)
    · have h := h.1 e
      refine x_aload_n (pc := 19) dX10_week_19 rfl rfl ?_
      refine x_getR (pc := 20) (i := c_obj) (a := c_told) fl_X10_12 dX10_week_20 (sN_c_obj hS) (sT_c_obj hS) rfl (sR_c_obj_0 hS) ?_
      refine x_iload_n (pc := 23) dX10_week_23 rfl rfl ?_
      refine x_putI (pc := 24) (i := c_told) fl_X10_92 dX10_week_24 (sN_c_told hS) (sT_c_told hS) rfl ?_
      have h := h _ rfl
      generalize up I c_told 9 (v1) = I1 at h ⊢
      refine x_iconst (pc := 27) dX10_week_27 ?_
      exact y_zret (pc := 28) dX10_week_28 rfl ⟨Nat.le_refl _, Nat.le_refl _⟩ (Or.inr rfl) h
    · have h := h.2 e
      refine x_iconst (pc := 17) dX10_week_17 ?_
      exact y_zret (pc := 18) dX10_week_18 rfl ⟨Nat.le_refl _, Nat.le_refl _⟩ (Or.inl rfl) h
set_option maxHeartbeats 4000000 in
set_option maxRecDepth 100000 in
theorem b_H_whereBy {G : XG} {S : XS} {I : XI} {v1 : Int} {R : Nat → XI → Prop} (hS : xSh S)  (h : ((w32 (v1) = w32 (99) → R c_now I) ∧ (¬ (w32 (v1) = w32 (99)) → Wt_aim G S I (v1) (fun I1 => R c_then I1)))) : H_whereBy G S I v1 R := by
  refine x_start [some (vr G c_obj), some (vi (v1))] (by decide) (Nat.le_of_ble_eq_true rfl) rfl ?_
  refine x_iload_n (pc := 0) dX10_whereBy_0 rfl rfl ?_
  refine x_bipush (pc := 1) dX10_whereBy_1 (by decide) ?_
  refine x_icmp_ne (pc := 3) (t := 11) dX10_whereBy_3 (by decide) (fun e => ?_) (fun e => ?_)
  · have h := h.1 e
    refine x_aload_n (pc := 6) dX10_whereBy_6 rfl rfl ?_
    refine x_getR (pc := 7) (i := c_obj) (a := c_now) fl_X10_25 dX10_whereBy_7 (sN_c_obj hS) (sT_c_obj hS) rfl (sR_c_obj_2 hS) ?_
    exact y_aret (pc := 10) dX10_whereBy_10 rfl ⟨Nat.le_refl _, Nat.le_refl _⟩ h
  · have h := h.2 e
    refine x_aload_n (pc := 11) dX10_whereBy_11 rfl rfl ?_
    refine x_getR (pc := 12) (i := c_obj) (a := c_then) fl_X10_29 dX10_whereBy_12 (sN_c_obj hS) (sT_c_obj hS) rfl (sR_c_obj_3 hS) ?_
    refine x_iload_n (pc := 15) dX10_whereBy_15 rfl rfl ?_
    refine y_Vv (pc := 16) (i := c_then) (As := [vi (v1)]) (rest := []) ok_X9_aim ml_X10_381 dX10_whereBy_16 (sN_c_then hS) (sT_c_then hS) (by decide) rfl rfl rfl ⟨rfl, rfl⟩ ⟨by decide, by decide⟩ ⟨Nat.le_refl _, Nat.le_refl _⟩ (Nat.le_of_ble_eq_true rfl) rfl h (fun I1 h => ?_)
    refine x_aload_n (pc := 19) dX10_whereBy_19 rfl rfl ?_
    refine x_getR (pc := 20) (i := c_obj) (a := c_then) fl_X10_29 dX10_whereBy_20 (sN_c_obj hS) (sT_c_obj hS) rfl (sR_c_obj_3 hS) ?_
    exact y_aret (pc := 23) dX10_whereBy_23 rfl ⟨Nat.le_refl _, Nat.le_refl _⟩ h
set_option maxHeartbeats 4000000 in
set_option maxRecDepth 100000 in
theorem b_H_who {G : XG} {S : XS} {I : XI} {v1 : Int} {v2 : Int} {R : Int → XI → Prop} (hS : xSh S)  (h : Sh_hasBook G S I (v1) (fun r2 I1 => ((w32 (r2) = 0 → R ((-2)) I1) ∧ (¬ (w32 (r2) = 0) → H_isWeek G S I1 (v2) (fun r4 I3 => ((w32 (r4) = 0 → R ((-2)) I3) ∧ (¬ (w32 (r4) = 0) → H_limit G S I3 (fun r6 I5 => Sh_holder G S I5 (v1) (v2) (r6) (fun r8 I7 => R (r8) I7))))))))) : H_who G S I v1 v2 R := by
  refine x_start [some (vr G c_obj), some (vi (v1)), some (vi (v2))] (by decide) (Nat.le_of_ble_eq_true rfl) rfl ?_
  refine x_aload_n (pc := 0) dX10_who_0 rfl rfl ?_
  refine x_getR (pc := 1) (i := c_obj) (a := c_told) fl_X10_12 dX10_who_1 (sN_c_obj hS) (sT_c_obj hS) rfl (sR_c_obj_0 hS) ?_
  refine x_getR (pc := 4) (i := c_told) (a := c_shelf) fl_X10_154 dX10_who_4 (sN_c_told hS) (sT_c_told hS) rfl (sR_c_told_2 hS) ?_
  refine x_iload_n (pc := 7) dX10_who_7 rfl rfl ?_
  refine y_Vi (pc := 8) (i := c_shelf) (As := [vi (v1)]) (rest := []) ok_X6_hasBook ml_X10_168 dX10_who_8 (sN_c_shelf hS) (sT_c_shelf hS) (by decide) rfl rfl rfl ⟨rfl, rfl⟩ ⟨by decide, by decide⟩ ⟨Nat.le_refl _, Nat.le_refl _⟩ (Nat.le_of_ble_eq_true rfl) rfl h (fun r2 I1 h => ?_)
  refine x_if_eq (pc := 11) (t := 21) dX10_who_11 (by decide) (fun e => ?_) (fun e => ?_)
  · have h := h.1 e
    refine x_bipush (pc := 21) dX10_who_21 (by decide) ?_
    exact y_iret (pc := 23) dX10_who_23 rfl ⟨Nat.le_refl _, Nat.le_refl _⟩ h
  · have h := h.2 e
    refine x_iload_n (pc := 14) dX10_who_14 rfl rfl ?_
    refine y_Si (pc := 15) (As := [vi (v2)]) (rest := []) ok_X10_isWeek ml_X10_102 dX10_who_15 rfl ⟨rfl, rfl⟩ ⟨by decide, by decide⟩ ⟨Nat.le_refl _, Nat.le_refl _⟩ (Nat.le_of_ble_eq_true rfl) rfl h (fun r4 I3 h => ?_)
    refine x_if_ne (pc := 18) (t := 24) dX10_who_18 (by decide) (fun e => ?_) (fun e => ?_)
    · have h := h.1 e
      refine x_bipush (pc := 21) dX10_who_21 (by decide) ?_
      exact y_iret (pc := 23) dX10_who_23 rfl ⟨Nat.le_refl _, Nat.le_refl _⟩ h
    · have h := h.2 e
      refine x_aload_n (pc := 24) dX10_who_24 rfl rfl ?_
      refine x_getR (pc := 25) (i := c_obj) (a := c_told) fl_X10_12 dX10_who_25 (sN_c_obj hS) (sT_c_obj hS) rfl (sR_c_obj_0 hS) ?_
      refine x_getR (pc := 28) (i := c_told) (a := c_shelf) fl_X10_154 dX10_who_28 (sN_c_told hS) (sT_c_told hS) rfl (sR_c_told_2 hS) ?_
      refine x_iload_n (pc := 31) dX10_who_31 rfl rfl ?_
      refine x_iload_n (pc := 32) dX10_who_32 rfl rfl ?_
      refine x_aload_n (pc := 33) dX10_who_33 rfl rfl ?_
      refine y_Vi (pc := 34) (i := c_obj) (As := []) (rest := [vi (v2), vi (v1), vr G c_shelf]) ok_X10_limit ml_X10_132 dX10_who_34 (sN_c_obj hS) (sT_c_obj hS) (by decide) rfl rfl rfl ⟨rfl, rfl⟩ ⟨by decide, by decide⟩ ⟨Nat.le_refl _, Nat.le_refl _⟩ (Nat.le_of_ble_eq_true rfl) rfl h (fun r6 I5 h => ?_)
      refine y_Vi (pc := 37) (i := c_shelf) (As := [vi (v1), vi (v2), vi (r6)]) (rest := []) ok_X6_holder ml_X10_171 dX10_who_37 (sN_c_shelf hS) (sT_c_shelf hS) (by decide) rfl rfl rfl ⟨rfl, rfl⟩ ⟨by decide, by decide⟩ ⟨Nat.le_refl _, Nat.le_refl _⟩ (Nat.le_of_ble_eq_true rfl) rfl h (fun r8 I7 h => ?_)
      exact y_iret (pc := 40) dX10_who_40 rfl ⟨Nat.le_refl _, Nat.le_refl _⟩ h
set_option maxHeartbeats 4000000 in
set_option maxRecDepth 100000 in
theorem b_H_wish {G : XG} {S : XS} {I : XI} {v1 : Int} {v2 : Int} {v3 : Int} {R : Int → XI → Prop} (hS : xSh S)  (h : He_hasCamp G S I (v1) (fun r2 I1 => ((w32 (r2) = 0 → R (0) I1) ∧ (¬ (w32 (r2) = 0) → H_isIn G S I1 (v2) (0) (7) (fun r4 I3 => ((w32 (r4) = 0 → R (0) I3) ∧ (¬ (w32 (r4) = 0) → H_isIn G S I3 (v3) (0) (99) (fun r6 I5 => ((w32 (r6) = 0 → R (0) I5) ∧ (¬ (w32 (r6) = 0) → (inb (((v1) * (8)) + (v2)) 48 ∧ (∀ I7 : XI, I7 = up I5 c_herds_wishes (ix (((v1) * (8)) + (v2))) (v3) → R (1) I7)))))))))))) : H_wish G S I v1 v2 v3 R := by
  refine x_start [some (vr G c_obj), some (vi (v1)), some (vi (v2)), some (vi (v3))] (by decide) (Nat.le_of_ble_eq_true rfl) rfl ?_
  refine x_aload_n (pc := 0) dX10_wish_0 rfl rfl ?_
  refine x_getR (pc := 1) (i := c_obj) (a := c_told) fl_X10_12 dX10_wish_1 (sN_c_obj hS) (sT_c_obj hS) rfl (sR_c_obj_0 hS) ?_
  refine x_getR (pc := 4) (i := c_told) (a := c_herds) fl_X10_88 dX10_wish_4 (sN_c_told hS) (sT_c_told hS) rfl (sR_c_told_1 hS) ?_
  refine x_iload_n (pc := 7) dX10_wish_7 rfl rfl ?_
  refine y_Vi (pc := 8) (i := c_herds) (As := [vi (v1)]) (rest := []) ok_X1_hasCamp ml_X10_118 dX10_wish_8 (sN_c_herds hS) (sT_c_herds hS) (by decide) rfl rfl rfl ⟨rfl, rfl⟩ ⟨by decide, by decide⟩ ⟨Nat.le_refl _, Nat.le_refl _⟩ (Nat.le_of_ble_eq_true rfl) rfl h (fun r2 I1 h => ?_)
  refine x_if_eq (pc := 11) (t := 34) dX10_wish_11 (by decide) (fun e => ?_) (fun e => ?_)
  · have h := h.1 e
    refine x_iconst (pc := 34) dX10_wish_34 ?_
    exact y_zret (pc := 35) dX10_wish_35 rfl ⟨Nat.le_refl _, Nat.le_refl _⟩ (Or.inl rfl) h
  · have h := h.2 e
    refine x_iload_n (pc := 14) dX10_wish_14 rfl rfl ?_
    refine x_iconst (pc := 15) dX10_wish_15 ?_
    refine x_bipush (pc := 16) dX10_wish_16 (by decide) ?_
    refine y_Si (pc := 18) (As := [vi (v2), vi (0), vi (7)]) (rest := []) ok_X10_isIn ml_X10_77 dX10_wish_18 rfl ⟨rfl, rfl⟩ ⟨by decide, by decide⟩ ⟨Nat.le_refl _, Nat.le_refl _⟩ (Nat.le_of_ble_eq_true rfl) rfl h (fun r4 I3 h => ?_)
    refine x_if_eq (pc := 21) (t := 34) dX10_wish_21 (by decide) (fun e => ?_) (fun e => ?_)
    · have h := h.1 e
      refine x_iconst (pc := 34) dX10_wish_34 ?_
      exact y_zret (pc := 35) dX10_wish_35 rfl ⟨Nat.le_refl _, Nat.le_refl _⟩ (Or.inl rfl) h
    · have h := h.2 e
      refine x_iload_n (pc := 24) dX10_wish_24 rfl rfl ?_
      refine x_iconst (pc := 25) dX10_wish_25 ?_
      refine x_bipush (pc := 26) dX10_wish_26 (by decide) ?_
      refine y_Si (pc := 28) (As := [vi (v3), vi (0), vi (99)]) (rest := []) ok_X10_isIn ml_X10_77 dX10_wish_28 rfl ⟨rfl, rfl⟩ ⟨by decide, by decide⟩ ⟨Nat.le_refl _, Nat.le_refl _⟩ (Nat.le_of_ble_eq_true rfl) rfl h (fun r6 I5 h => ?_)
      refine x_if_ne (pc := 31) (t := 36) dX10_wish_31 (by decide) (fun e => ?_) (fun e => ?_)
      · have h := h.1 e
        refine x_iconst (pc := 34) dX10_wish_34 ?_
        exact y_zret (pc := 35) dX10_wish_35 rfl ⟨Nat.le_refl _, Nat.le_refl _⟩ (Or.inl rfl) h
      · have h := h.2 e
        refine x_aload_n (pc := 36) dX10_wish_36 rfl rfl ?_
        refine x_getR (pc := 37) (i := c_obj) (a := c_told) fl_X10_12 dX10_wish_37 (sN_c_obj hS) (sT_c_obj hS) rfl (sR_c_obj_0 hS) ?_
        refine x_getR (pc := 40) (i := c_told) (a := c_herds) fl_X10_88 dX10_wish_40 (sN_c_told hS) (sT_c_told hS) rfl (sR_c_told_1 hS) ?_
        refine x_getR (pc := 43) (i := c_herds) (a := c_herds_wishes) fl_X10_294 dX10_wish_43 (sN_c_herds hS) (sT_c_herds hS) rfl (sR_c_herds_4 hS) ?_
        refine x_iload_n (pc := 46) dX10_wish_46 rfl rfl ?_
        refine x_bipush (pc := 47) dX10_wish_47 (by decide) ?_
        refine x_imul (pc := 49) dX10_wish_49 ?_
        refine x_iload_n (pc := 50) dX10_wish_50 rfl rfl ?_
        refine x_iadd (pc := 51) dX10_wish_51 ?_
        refine x_iload_n (pc := 52) dX10_wish_52 rfl rfl ?_
        refine y_iast (pc := 53) (i := c_herds_wishes) (n := 48) dX10_wish_53 (sN_c_herds_wishes hS) (sT_c_herds_wishes hS) (sL_c_herds_wishes hS) h.1 ?_
        have h := h.2
        have h := h _ rfl
        generalize up I5 c_herds_wishes (ix (((v1) * (8)) + (v2))) (v3) = I7 at h ⊢
        refine x_iconst (pc := 54) dX10_wish_54 ?_
        exact y_zret (pc := 55) dX10_wish_55 rfl ⟨Nat.le_refl _, Nat.le_refl _⟩ (Or.inr rfl) h
set_option maxHeartbeats 4000000 in
set_option maxRecDepth 100000 in
theorem b_Sh_hasRoom {G : XG} {S : XS} {I : XI}  {R : Int → XI → Prop} (hS : xSh S)  (h : ((w32 (150) ≤ w32 (I c_shelf 6) → R (0) I) ∧ (¬ (w32 (150) ≤ w32 (I c_shelf 6)) → R (1) I))) : Sh_hasRoom G S I  R := by
  refine x_start [some (vr G c_shelf)] (by decide) (Nat.le_of_ble_eq_true rfl) rfl ?_
  refine x_aload_n (pc := 0) dX6_hasRoom_0 rfl rfl ?_
  refine x_getI (pc := 1) (i := c_shelf) fl_X6_31 dX6_hasRoom_1 (sN_c_shelf hS) (sT_c_shelf hS) rfl ?_
  refine x_sipush (pc := 4) dX6_hasRoom_4 (by decide) ?_
  refine x_icmp_ge (pc := 7) (t := 14) dX6_hasRoom_7 (by decide) (fun e => ?_) (fun e => ?_)
  · have h := h.1 e
    refine x_iconst (pc := 14) dX6_hasRoom_14 ?_
    exact y_zret (pc := 15) dX6_hasRoom_15 rfl ⟨Nat.le_refl _, Nat.le_refl _⟩ (Or.inl rfl) h
  · have h := h.2 e
    refine x_iconst (pc := 10) dX6_hasRoom_10 ?_
    refine x_goto (pc := 11) (t := 15) dX6_hasRoom_11 (by decide) ?_
    exact y_zret (pc := 15) dX6_hasRoom_15 rfl ⟨Nat.le_refl _, Nat.le_refl _⟩ (Or.inr rfl) h
set_option maxHeartbeats 4000000 in
set_option maxRecDepth 100000 in
theorem b_Sh_hasBook {G : XG} {S : XS} {I : XI} {v1 : Int} {R : Int → XI → Prop} (hS : xSh S)  (h : ((w32 (v1) < 0 → R (0) I) ∧ (¬ (w32 (v1) < 0) → ((w32 (I c_shelf 0) ≤ w32 (v1) → R (0) I) ∧ (¬ (w32 (I c_shelf 0) ≤ w32 (v1)) → R (1) I))))) : Sh_hasBook G S I v1 R := by
  refine x_start [some (vr G c_shelf), some (vi (v1))] (by decide) (Nat.le_of_ble_eq_true rfl) rfl ?_
  refine x_iload_n (pc := 0) dX6_hasBook_0 rfl rfl ?_
  refine x_if_lt (pc := 1) (t := 16) dX6_hasBook_1 (by decide) (fun e => ?_) (fun e => ?_)
  · have h := h.1 e
    refine x_iconst (pc := 16) dX6_hasBook_16 ?_
    exact y_zret (pc := 17) dX6_hasBook_17 rfl ⟨Nat.le_refl _, Nat.le_refl _⟩ (Or.inl rfl) h
  · have h := h.2 e
    refine x_iload_n (pc := 4) dX6_hasBook_4 rfl rfl ?_
    refine x_aload_n (pc := 5) dX6_hasBook_5 rfl rfl ?_
    refine x_getI (pc := 6) (i := c_shelf) fl_X6_9 dX6_hasBook_6 (sN_c_shelf hS) (sT_c_shelf hS) rfl ?_
    refine x_icmp_ge (pc := 9) (t := 16) dX6_hasBook_9 (by decide) (fun e => ?_) (fun e => ?_)
    · have h := h.1 e
      refine x_iconst (pc := 16) dX6_hasBook_16 ?_
      exact y_zret (pc := 17) dX6_hasBook_17 rfl ⟨Nat.le_refl _, Nat.le_refl _⟩ (Or.inl rfl) h
    · have h := h.2 e
      refine x_iconst (pc := 12) dX6_hasBook_12 ?_
      refine x_goto (pc := 13) (t := 17) dX6_hasBook_13 (by decide) ?_
      exact y_zret (pc := 17) dX6_hasBook_17 rfl ⟨Nat.le_refl _, Nat.le_refl _⟩ (Or.inr rfl) h
set_option maxHeartbeats 4000000 in
set_option maxRecDepth 100000 in
theorem b_Sh_holder {G : XG} {S : XS} {I : XI} {v1 : Int} {v2 : Int} {v3 : Int} {R : Int → XI → Prop} (hS : xSh S)  (h : Sh_lastAct G S I (v1) (2) (v2) (v3) (fun r2 I1 => ((w32 (r2) = w32 ((-1)) → R ((-1)) I1) ∧ (¬ (w32 (r2) = w32 ((-1))) → (inb (r2) 150 ∧ R (I1 c_shelf_actCamps (ix (r2))) I1))))) : Sh_holder G S I v1 v2 v3 R := by
  refine x_start [some (vr G c_shelf), some (vi (v1)), some (vi (v2)), some (vi (v3)), none] (by decide) (Nat.le_of_ble_eq_true rfl) rfl ?_
  refine x_aload_n (pc := 0) dX6_holder_0 rfl rfl ?_
  refine x_iload_n (pc := 1) dX6_holder_1 rfl rfl ?_
  refine x_iconst (pc := 2) dX6_holder_2 ?_
  refine x_iload_n (pc := 3) dX6_holder_3 rfl rfl ?_
  refine x_iload_n (pc := 4) dX6_holder_4 rfl rfl ?_
  refine y_Vi (pc := 5) (i := c_shelf) (As := [vi (v1), vi (2), vi (v2), vi (v3)]) (rest := []) ok_X6_lastAct ml_X6_55 dX6_holder_5 (sN_c_shelf hS) (sT_c_shelf hS) (by decide) rfl rfl rfl ⟨rfl, rfl⟩ ⟨by decide, by decide⟩ ⟨Nat.le_refl _, Nat.le_refl _⟩ (Nat.le_of_ble_eq_true rfl) rfl h (fun r2 I1 h => ?_)
  refine x_istore (pc := 8) (L' := [some (vr G c_shelf), some (vi (v1)), some (vi (v2)), some (vi (v3)), some (vi (r2))]) dX6_holder_8 (by decide) (xst1 rfl rfl rfl) ?_
  refine x_iload (pc := 10) dX6_holder_10 rfl ?_
  refine x_iconst (pc := 12) dX6_holder_12 ?_
  refine x_icmp_ne (pc := 13) (t := 20) dX6_holder_13 (by decide) (fun e => ?_) (fun e => ?_)
  · have h := h.1 e
    refine x_iconst (pc := 16) dX6_holder_16 ?_
    refine x_goto (pc := 17) (t := 27) dX6_holder_17 (by decide) ?_
    exact y_iret (pc := 27) dX6_holder_27 rfl ⟨Nat.le_refl _, Nat.le_refl _⟩ h
  · have h := h.2 e
    refine x_aload_n (pc := 20) dX6_holder_20 rfl rfl ?_
    refine x_getR (pc := 21) (i := c_shelf) (a := c_shelf_actCamps) fl_X6_40 dX6_holder_21 (sN_c_shelf hS) (sT_c_shelf hS) rfl (sR_c_shelf_9 hS) ?_
    refine x_iload (pc := 24) dX6_holder_24 rfl ?_
    refine y_iald (pc := 26) (i := c_shelf_actCamps) (n := 150) dX6_holder_26 (sN_c_shelf_actCamps hS) (sT_c_shelf_actCamps hS) (sL_c_shelf_actCamps hS) h.1 ?_
    have h := h.2
    exact y_iret (pc := 27) dX6_holder_27 rfl ⟨Nat.le_refl _, Nat.le_refl _⟩ h
set_option maxHeartbeats 4000000 in
set_option maxRecDepth 100000 in
theorem b_Sh_addAct {G : XG} {S : XS} {I : XI} {v1 : Int} {v2 : Int} {v3 : Int} {v4 : Int} {v5 : Int} {v6 : Int} {v7 : Int} {R : Int → XI → Prop} (hS : xSh S)  (h : ((w32 (I c_shelf 6) < w32 (150) → (inb (I c_shelf 6) 150 ∧ (∀ I1 : XI, I1 = up I c_shelf_actBooks (ix (I c_shelf 6)) (v1) → (inb (I1 c_shelf 6) 150 ∧ (∀ I2 : XI, I2 = up I1 c_shelf_actKinds (ix (I1 c_shelf 6)) (v2) → (inb (I2 c_shelf 6) 150 ∧ (∀ I3 : XI, I3 = up I2 c_shelf_actCamps (ix (I2 c_shelf 6)) (v3) → (inb (I3 c_shelf 6) 150 ∧ (∀ I4 : XI, I4 = up I3 c_shelf_actWeeks (ix (I3 c_shelf 6)) (v4) → (inb (I4 c_shelf 6) 150 ∧ (∀ I5 : XI, I5 = up I4 c_shelf_actTold (ix (I4 c_shelf 6)) (v5) → (inb (I5 c_shelf 6) 150 ∧ (∀ I6 : XI, I6 = up I5 c_shelf_actAmounts (ix (I5 c_shelf 6)) (v6) → (inb (I6 c_shelf 6) 150 ∧ (∀ I7 : XI, I7 = up I6 c_shelf_actCosts (ix (I6 c_shelf 6)) (v7) → (∀ I8 : XI, I8 = up I7 c_shelf 6 ((I7 c_shelf 6) + (1)) → R ((I8 c_shelf 6) - (1)) I8)))))))))))))))) ∧ (¬ (w32 (I c_shelf 6) < w32 (150)) → R ((-1)) I))) : Sh_addAct G S I v1 v2 v3 v4 v5 v6 v7 R := by
  refine x_start [some (vr G c_shelf), some (vi (v1)), some (vi (v2)), some (vi (v3)), some (vi (v4)), some (vi (v5)), some (vi (v6)), some (vi (v7))] (by decide) (Nat.le_of_ble_eq_true rfl) rfl ?_
  refine x_aload_n (pc := 0) dX6_addAct_0 rfl rfl ?_
  refine x_getI (pc := 1) (i := c_shelf) fl_X6_31 dX6_addAct_1 (sN_c_shelf hS) (sT_c_shelf hS) rfl ?_
  refine x_sipush (pc := 4) dX6_addAct_4 (by decide) ?_
  refine x_icmp_lt (pc := 7) (t := 12) dX6_addAct_7 (by decide) (fun e => ?_) (fun e => ?_)
  · have h := h.1 e
    refine x_aload_n (pc := 12) dX6_addAct_12 rfl rfl ?_
    refine x_getR (pc := 13) (i := c_shelf) (a := c_shelf_actBooks) fl_X6_34 dX6_addAct_13 (sN_c_shelf hS) (sT_c_shelf hS) rfl (sR_c_shelf_7 hS) ?_
    refine x_aload_n (pc := 16) dX6_addAct_16 rfl rfl ?_
    refine x_getI (pc := 17) (i := c_shelf) fl_X6_31 dX6_addAct_17 (sN_c_shelf hS) (sT_c_shelf hS) rfl ?_
    refine x_iload_n (pc := 20) dX6_addAct_20 rfl rfl ?_
    refine y_iast (pc := 21) (i := c_shelf_actBooks) (n := 150) dX6_addAct_21 (sN_c_shelf_actBooks hS) (sT_c_shelf_actBooks hS) (sL_c_shelf_actBooks hS) h.1 ?_
    have h := h.2
    have h := h _ rfl
    generalize up I c_shelf_actBooks (ix (I c_shelf 6)) (v1) = I1 at h ⊢
    refine x_aload_n (pc := 22) dX6_addAct_22 rfl rfl ?_
    refine x_getR (pc := 23) (i := c_shelf) (a := c_shelf_actKinds) fl_X6_37 dX6_addAct_23 (sN_c_shelf hS) (sT_c_shelf hS) rfl (sR_c_shelf_8 hS) ?_
    refine x_aload_n (pc := 26) dX6_addAct_26 rfl rfl ?_
    refine x_getI (pc := 27) (i := c_shelf) fl_X6_31 dX6_addAct_27 (sN_c_shelf hS) (sT_c_shelf hS) rfl ?_
    refine x_iload_n (pc := 30) dX6_addAct_30 rfl rfl ?_
    refine y_iast (pc := 31) (i := c_shelf_actKinds) (n := 150) dX6_addAct_31 (sN_c_shelf_actKinds hS) (sT_c_shelf_actKinds hS) (sL_c_shelf_actKinds hS) h.1 ?_
    have h := h.2
    have h := h _ rfl
    generalize up I1 c_shelf_actKinds (ix (I1 c_shelf 6)) (v2) = I2 at h ⊢
    refine x_aload_n (pc := 32) dX6_addAct_32 rfl rfl ?_
    refine x_getR (pc := 33) (i := c_shelf) (a := c_shelf_actCamps) fl_X6_40 dX6_addAct_33 (sN_c_shelf hS) (sT_c_shelf hS) rfl (sR_c_shelf_9 hS) ?_
    refine x_aload_n (pc := 36) dX6_addAct_36 rfl rfl ?_
    refine x_getI (pc := 37) (i := c_shelf) fl_X6_31 dX6_addAct_37 (sN_c_shelf hS) (sT_c_shelf hS) rfl ?_
    refine x_iload_n (pc := 40) dX6_addAct_40 rfl rfl ?_
    refine y_iast (pc := 41) (i := c_shelf_actCamps) (n := 150) dX6_addAct_41 (sN_c_shelf_actCamps hS) (sT_c_shelf_actCamps hS) (sL_c_shelf_actCamps hS) h.1 ?_
    have h := h.2
    have h := h _ rfl
    generalize up I2 c_shelf_actCamps (ix (I2 c_shelf 6)) (v3) = I3 at h ⊢
    refine x_aload_n (pc := 42) dX6_addAct_42 rfl rfl ?_
    refine x_getR (pc := 43) (i := c_shelf) (a := c_shelf_actWeeks) fl_X6_43 dX6_addAct_43 (sN_c_shelf hS) (sT_c_shelf hS) rfl (sR_c_shelf_10 hS) ?_
    refine x_aload_n (pc := 46) dX6_addAct_46 rfl rfl ?_
    refine x_getI (pc := 47) (i := c_shelf) fl_X6_31 dX6_addAct_47 (sN_c_shelf hS) (sT_c_shelf hS) rfl ?_
    refine x_iload (pc := 50) dX6_addAct_50 rfl ?_
    refine y_iast (pc := 52) (i := c_shelf_actWeeks) (n := 150) dX6_addAct_52 (sN_c_shelf_actWeeks hS) (sT_c_shelf_actWeeks hS) (sL_c_shelf_actWeeks hS) h.1 ?_
    have h := h.2
    have h := h _ rfl
    generalize up I3 c_shelf_actWeeks (ix (I3 c_shelf 6)) (v4) = I4 at h ⊢
    refine x_aload_n (pc := 53) dX6_addAct_53 rfl rfl ?_
    refine x_getR (pc := 54) (i := c_shelf) (a := c_shelf_actTold) fl_X6_46 dX6_addAct_54 (sN_c_shelf hS) (sT_c_shelf hS) rfl (sR_c_shelf_11 hS) ?_
    refine x_aload_n (pc := 57) dX6_addAct_57 rfl rfl ?_
    refine x_getI (pc := 58) (i := c_shelf) fl_X6_31 dX6_addAct_58 (sN_c_shelf hS) (sT_c_shelf hS) rfl ?_
    refine x_iload (pc := 61) dX6_addAct_61 rfl ?_
    refine y_iast (pc := 63) (i := c_shelf_actTold) (n := 150) dX6_addAct_63 (sN_c_shelf_actTold hS) (sT_c_shelf_actTold hS) (sL_c_shelf_actTold hS) h.1 ?_
    have h := h.2
    have h := h _ rfl
    generalize up I4 c_shelf_actTold (ix (I4 c_shelf 6)) (v5) = I5 at h ⊢
    refine x_aload_n (pc := 64) dX6_addAct_64 rfl rfl ?_
    refine x_getR (pc := 65) (i := c_shelf) (a := c_shelf_actAmounts) fl_X6_49 dX6_addAct_65 (sN_c_shelf hS) (sT_c_shelf hS) rfl (sR_c_shelf_12 hS) ?_
    refine x_aload_n (pc := 68) dX6_addAct_68 rfl rfl ?_
    refine x_getI (pc := 69) (i := c_shelf) fl_X6_31 dX6_addAct_69 (sN_c_shelf hS) (sT_c_shelf hS) rfl ?_
    refine x_iload (pc := 72) dX6_addAct_72 rfl ?_
    refine y_iast (pc := 74) (i := c_shelf_actAmounts) (n := 150) dX6_addAct_74 (sN_c_shelf_actAmounts hS) (sT_c_shelf_actAmounts hS) (sL_c_shelf_actAmounts hS) h.1 ?_
    have h := h.2
    have h := h _ rfl
    generalize up I5 c_shelf_actAmounts (ix (I5 c_shelf 6)) (v6) = I6 at h ⊢
    refine x_aload_n (pc := 75) dX6_addAct_75 rfl rfl ?_
    refine x_getR (pc := 76) (i := c_shelf) (a := c_shelf_actCosts) fl_X6_52 dX6_addAct_76 (sN_c_shelf hS) (sT_c_shelf hS) rfl (sR_c_shelf_13 hS) ?_
    refine x_aload_n (pc := 79) dX6_addAct_79 rfl rfl ?_
    refine x_getI (pc := 80) (i := c_shelf) fl_X6_31 dX6_addAct_80 (sN_c_shelf hS) (sT_c_shelf hS) rfl ?_
    refine x_iload (pc := 83) dX6_addAct_83 rfl ?_
    refine y_iast (pc := 85) (i := c_shelf_actCosts) (n := 150) dX6_addAct_85 (sN_c_shelf_actCosts hS) (sT_c_shelf_actCosts hS) (sL_c_shelf_actCosts hS) h.1 ?_
    have h := h.2
    have h := h _ rfl
    generalize up I6 c_shelf_actCosts (ix (I6 c_shelf 6)) (v7) = I7 at h ⊢
    refine x_aload_n (pc := 86) dX6_addAct_86 rfl rfl ?_
    refine x_dup (pc := 87) dX6_addAct_87 rfl ?_
    refine x_getI (pc := 88) (i := c_shelf) fl_X6_31 dX6_addAct_88 (sN_c_shelf hS) (sT_c_shelf hS) rfl ?_
    refine x_iconst (pc := 91) dX6_addAct_91 ?_
    refine x_iadd (pc := 92) dX6_addAct_92 ?_
    refine x_putI (pc := 93) (i := c_shelf) fl_X6_31 dX6_addAct_93 (sN_c_shelf hS) (sT_c_shelf hS) rfl ?_
    have h := h _ rfl
    generalize up I7 c_shelf 6 ((I7 c_shelf 6) + (1)) = I8 at h ⊢
    refine x_aload_n (pc := 96) dX6_addAct_96 rfl rfl ?_
    refine x_getI (pc := 97) (i := c_shelf) fl_X6_31 dX6_addAct_97 (sN_c_shelf hS) (sT_c_shelf hS) rfl ?_
    refine x_iconst (pc := 100) dX6_addAct_100 ?_
    refine x_isub (pc := 101) dX6_addAct_101 ?_
    exact y_iret (pc := 102) dX6_addAct_102 rfl ⟨Nat.le_refl _, Nat.le_refl _⟩ h
  · have h := h.2 e
    refine x_iconst (pc := 10) dX6_addAct_10 ?_
    exact y_iret (pc := 11) dX6_addAct_11 rfl ⟨Nat.le_refl _, Nat.le_refl _⟩ h
set_option maxHeartbeats 4000000 in
set_option maxRecDepth 100000 in
theorem b_Sh_addBook {G : XG} {S : XS} {I : XI} {v1 : Int} {v2 : Int} {v3 : Int} {v4 : Int} {v5 : Int} {R : Int → XI → Prop} (hS : xSh S)  (h : ((w32 (I c_shelf 0) < w32 (24) → (inb (I c_shelf 0) 24 ∧ (∀ I1 : XI, I1 = up I c_shelf_kinds (ix (I c_shelf 0)) (v1) → (inb (I1 c_shelf 0) 24 ∧ (∀ I2 : XI, I2 = up I1 c_shelf_tongues (ix (I1 c_shelf 0)) (v2) → (inb (I2 c_shelf 0) 24 ∧ (∀ I3 : XI, I3 = up I2 c_shelf_levels (ix (I2 c_shelf 0)) (v3) → (inb (I3 c_shelf 0) 24 ∧ (∀ I4 : XI, I4 = up I3 c_shelf_pages (ix (I3 c_shelf 0)) (v4) → (inb (I4 c_shelf 0) 24 ∧ (∀ I5 : XI, I5 = up I4 c_shelf_grams (ix (I4 c_shelf 0)) (v5) → (∀ I6 : XI, I6 = up I5 c_shelf 0 ((I5 c_shelf 0) + (1)) → R ((I6 c_shelf 0) - (1)) I6)))))))))))) ∧ (¬ (w32 (I c_shelf 0) < w32 (24)) → R ((-1)) I))) : Sh_addBook G S I v1 v2 v3 v4 v5 R := by
  refine x_start [some (vr G c_shelf), some (vi (v1)), some (vi (v2)), some (vi (v3)), some (vi (v4)), some (vi (v5))] (by decide) (Nat.le_of_ble_eq_true rfl) rfl ?_
  refine x_aload_n (pc := 0) dX6_addBook_0 rfl rfl ?_
  refine x_getI (pc := 1) (i := c_shelf) fl_X6_9 dX6_addBook_1 (sN_c_shelf hS) (sT_c_shelf hS) rfl ?_
  refine x_bipush (pc := 4) dX6_addBook_4 (by decide) ?_
  refine x_icmp_lt (pc := 6) (t := 11) dX6_addBook_6 (by decide) (fun e => ?_) (fun e => ?_)
  · have h := h.1 e
    refine x_aload_n (pc := 11) dX6_addBook_11 rfl rfl ?_
    refine x_getR (pc := 12) (i := c_shelf) (a := c_shelf_kinds) fl_X6_15 dX6_addBook_12 (sN_c_shelf hS) (sT_c_shelf hS) rfl (sR_c_shelf_1 hS) ?_
    refine x_aload_n (pc := 15) dX6_addBook_15 rfl rfl ?_
    refine x_getI (pc := 16) (i := c_shelf) fl_X6_9 dX6_addBook_16 (sN_c_shelf hS) (sT_c_shelf hS) rfl ?_
    refine x_iload_n (pc := 19) dX6_addBook_19 rfl rfl ?_
    refine y_iast (pc := 20) (i := c_shelf_kinds) (n := 24) dX6_addBook_20 (sN_c_shelf_kinds hS) (sT_c_shelf_kinds hS) (sL_c_shelf_kinds hS) h.1 ?_
    have h := h.2
    have h := h _ rfl
    generalize up I c_shelf_kinds (ix (I c_shelf 0)) (v1) = I1 at h ⊢
    refine x_aload_n (pc := 21) dX6_addBook_21 rfl rfl ?_
    refine x_getR (pc := 22) (i := c_shelf) (a := c_shelf_tongues) fl_X6_19 dX6_addBook_22 (sN_c_shelf hS) (sT_c_shelf hS) rfl (sR_c_shelf_2 hS) ?_
    refine x_aload_n (pc := 25) dX6_addBook_25 rfl rfl ?_
    refine x_getI (pc := 26) (i := c_shelf) fl_X6_9 dX6_addBook_26 (sN_c_shelf hS) (sT_c_shelf hS) rfl ?_
    refine x_iload_n (pc := 29) dX6_addBook_29 rfl rfl ?_
    refine y_iast (pc := 30) (i := c_shelf_tongues) (n := 24) dX6_addBook_30 (sN_c_shelf_tongues hS) (sT_c_shelf_tongues hS) (sL_c_shelf_tongues hS) h.1 ?_
    have h := h.2
    have h := h _ rfl
    generalize up I1 c_shelf_tongues (ix (I1 c_shelf 0)) (v2) = I2 at h ⊢
    refine x_aload_n (pc := 31) dX6_addBook_31 rfl rfl ?_
    refine x_getR (pc := 32) (i := c_shelf) (a := c_shelf_levels) fl_X6_22 dX6_addBook_32 (sN_c_shelf hS) (sT_c_shelf hS) rfl (sR_c_shelf_3 hS) ?_
    refine x_aload_n (pc := 35) dX6_addBook_35 rfl rfl ?_
    refine x_getI (pc := 36) (i := c_shelf) fl_X6_9 dX6_addBook_36 (sN_c_shelf hS) (sT_c_shelf hS) rfl ?_
    refine x_iload_n (pc := 39) dX6_addBook_39 rfl rfl ?_
    refine y_iast (pc := 40) (i := c_shelf_levels) (n := 24) dX6_addBook_40 (sN_c_shelf_levels hS) (sT_c_shelf_levels hS) (sL_c_shelf_levels hS) h.1 ?_
    have h := h.2
    have h := h _ rfl
    generalize up I2 c_shelf_levels (ix (I2 c_shelf 0)) (v3) = I3 at h ⊢
    refine x_aload_n (pc := 41) dX6_addBook_41 rfl rfl ?_
    refine x_getR (pc := 42) (i := c_shelf) (a := c_shelf_pages) fl_X6_25 dX6_addBook_42 (sN_c_shelf hS) (sT_c_shelf hS) rfl (sR_c_shelf_4 hS) ?_
    refine x_aload_n (pc := 45) dX6_addBook_45 rfl rfl ?_
    refine x_getI (pc := 46) (i := c_shelf) fl_X6_9 dX6_addBook_46 (sN_c_shelf hS) (sT_c_shelf hS) rfl ?_
    refine x_iload (pc := 49) dX6_addBook_49 rfl ?_
    refine y_iast (pc := 51) (i := c_shelf_pages) (n := 24) dX6_addBook_51 (sN_c_shelf_pages hS) (sT_c_shelf_pages hS) (sL_c_shelf_pages hS) h.1 ?_
    have h := h.2
    have h := h _ rfl
    generalize up I3 c_shelf_pages (ix (I3 c_shelf 0)) (v4) = I4 at h ⊢
    refine x_aload_n (pc := 52) dX6_addBook_52 rfl rfl ?_
    refine x_getR (pc := 53) (i := c_shelf) (a := c_shelf_grams) fl_X6_28 dX6_addBook_53 (sN_c_shelf hS) (sT_c_shelf hS) rfl (sR_c_shelf_5 hS) ?_
    refine x_aload_n (pc := 56) dX6_addBook_56 rfl rfl ?_
    refine x_getI (pc := 57) (i := c_shelf) fl_X6_9 dX6_addBook_57 (sN_c_shelf hS) (sT_c_shelf hS) rfl ?_
    refine x_iload (pc := 60) dX6_addBook_60 rfl ?_
    refine y_iast (pc := 62) (i := c_shelf_grams) (n := 24) dX6_addBook_62 (sN_c_shelf_grams hS) (sT_c_shelf_grams hS) (sL_c_shelf_grams hS) h.1 ?_
    have h := h.2
    have h := h _ rfl
    generalize up I4 c_shelf_grams (ix (I4 c_shelf 0)) (v5) = I5 at h ⊢
    refine x_aload_n (pc := 63) dX6_addBook_63 rfl rfl ?_
    refine x_dup (pc := 64) dX6_addBook_64 rfl ?_
    refine x_getI (pc := 65) (i := c_shelf) fl_X6_9 dX6_addBook_65 (sN_c_shelf hS) (sT_c_shelf hS) rfl ?_
    refine x_iconst (pc := 68) dX6_addBook_68 ?_
    refine x_iadd (pc := 69) dX6_addBook_69 ?_
    refine x_putI (pc := 70) (i := c_shelf) fl_X6_9 dX6_addBook_70 (sN_c_shelf hS) (sT_c_shelf hS) rfl ?_
    have h := h _ rfl
    generalize up I5 c_shelf 0 ((I5 c_shelf 0) + (1)) = I6 at h ⊢
    refine x_aload_n (pc := 73) dX6_addBook_73 rfl rfl ?_
    refine x_getI (pc := 74) (i := c_shelf) fl_X6_9 dX6_addBook_74 (sN_c_shelf hS) (sT_c_shelf hS) rfl ?_
    refine x_iconst (pc := 77) dX6_addBook_77 ?_
    refine x_isub (pc := 78) dX6_addBook_78 ?_
    exact y_iret (pc := 79) dX6_addBook_79 rfl ⟨Nat.le_refl _, Nat.le_refl _⟩ h
  · have h := h.2 e
    refine x_iconst (pc := 9) dX6_addBook_9 ?_
    exact y_iret (pc := 10) dX6_addBook_10 rfl ⟨Nat.le_refl _, Nat.le_refl _⟩ h
set_option maxHeartbeats 4000000 in
set_option maxRecDepth 100000 in
theorem b_La_hasCell {G : XG} {S : XS} {I : XI} {v1 : Int} {R : Int → XI → Prop} (hS : xSh S)  (h : ((w32 (v1) < 0 → R (0) I) ∧ (¬ (w32 (v1) < 0) → ((w32 (I c_land 0) ≤ w32 (v1) → R (0) I) ∧ (¬ (w32 (I c_land 0) ≤ w32 (v1)) → R (1) I))))) : La_hasCell G S I v1 R := by
  refine x_start [some (vr G c_land), some (vi (v1))] (by decide) (Nat.le_of_ble_eq_true rfl) rfl ?_
  refine x_iload_n (pc := 0) dX2_hasCell_0 rfl rfl ?_
  refine x_if_lt (pc := 1) (t := 16) dX2_hasCell_1 (by decide) (fun e => ?_) (fun e => ?_)
  · have h := h.1 e
    refine x_iconst (pc := 16) dX2_hasCell_16 ?_
    exact y_zret (pc := 17) dX2_hasCell_17 rfl ⟨Nat.le_refl _, Nat.le_refl _⟩ (Or.inl rfl) h
  · have h := h.2 e
    refine x_iload_n (pc := 4) dX2_hasCell_4 rfl rfl ?_
    refine x_aload_n (pc := 5) dX2_hasCell_5 rfl rfl ?_
    refine x_getI (pc := 6) (i := c_land) fl_X2_9 dX2_hasCell_6 (sN_c_land hS) (sT_c_land hS) rfl ?_
    refine x_icmp_ge (pc := 9) (t := 16) dX2_hasCell_9 (by decide) (fun e => ?_) (fun e => ?_)
    · have h := h.1 e
      refine x_iconst (pc := 16) dX2_hasCell_16 ?_
      exact y_zret (pc := 17) dX2_hasCell_17 rfl ⟨Nat.le_refl _, Nat.le_refl _⟩ (Or.inl rfl) h
    · have h := h.2 e
      refine x_iconst (pc := 12) dX2_hasCell_12 ?_
      refine x_goto (pc := 13) (t := 17) dX2_hasCell_13 (by decide) ?_
      exact y_zret (pc := 17) dX2_hasCell_17 rfl ⟨Nat.le_refl _, Nat.le_refl _⟩ (Or.inr rfl) h
set_option maxHeartbeats 4000000 in
set_option maxRecDepth 100000 in
theorem b_He_addCamp {G : XG} {S : XS} {I : XI} {v1 : Int} {v2 : Int} {v3 : Int} {R : Int → XI → Prop} (hS : xSh S)  (h : ((w32 (I c_herds 0) < w32 (6) → (inb (I c_herds 0) 6 ∧ (∀ I1 : XI, I1 = up I c_herds_firstCells (ix (I c_herds 0)) (v1) → (inb (I1 c_herds 0) 6 ∧ (∀ I2 : XI, I2 = up I1 c_herds_tongues (ix (I1 c_herds 0)) (v2) → (inb (I2 c_herds 0) 6 ∧ (∀ I3 : XI, I3 = up I2 c_herds_firstWeeks (ix (I2 c_herds 0)) (v3) → (∀ I4 : XI, I4 = up I3 c_herds 0 ((I3 c_herds 0) + (1)) → R ((I4 c_herds 0) - (1)) I4)))))))) ∧ (¬ (w32 (I c_herds 0) < w32 (6)) → R ((-1)) I))) : He_addCamp G S I v1 v2 v3 R := by
  refine x_start [some (vr G c_herds), some (vi (v1)), some (vi (v2)), some (vi (v3))] (by decide) (Nat.le_of_ble_eq_true rfl) rfl ?_
  refine x_aload_n (pc := 0) dX1_addCamp_0 rfl rfl ?_
  refine x_getI (pc := 1) (i := c_herds) fl_X1_9 dX1_addCamp_1 (sN_c_herds hS) (sT_c_herds hS) rfl ?_
  refine x_bipush (pc := 4) dX1_addCamp_4 (by decide) ?_
  refine x_icmp_lt (pc := 6) (t := 11) dX1_addCamp_6 (by decide) (fun e => ?_) (fun e => ?_)
  · have h := h.1 e
    refine x_aload_n (pc := 11) dX1_addCamp_11 rfl rfl ?_
    refine x_getR (pc := 12) (i := c_herds) (a := c_herds_firstCells) fl_X1_19 dX1_addCamp_12 (sN_c_herds hS) (sT_c_herds hS) rfl (sR_c_herds_2 hS) ?_
    refine x_aload_n (pc := 15) dX1_addCamp_15 rfl rfl ?_
    refine x_getI (pc := 16) (i := c_herds) fl_X1_9 dX1_addCamp_16 (sN_c_herds hS) (sT_c_herds hS) rfl ?_
    refine x_iload_n (pc := 19) dX1_addCamp_19 rfl rfl ?_
    refine y_iast (pc := 20) (i := c_herds_firstCells) (n := 6) dX1_addCamp_20 (sN_c_herds_firstCells hS) (sT_c_herds_firstCells hS) (sL_c_herds_firstCells hS) h.1 ?_
    have h := h.2
    have h := h _ rfl
    generalize up I c_herds_firstCells (ix (I c_herds 0)) (v1) = I1 at h ⊢
    refine x_aload_n (pc := 21) dX1_addCamp_21 rfl rfl ?_
    refine x_getR (pc := 22) (i := c_herds) (a := c_herds_tongues) fl_X1_15 dX1_addCamp_22 (sN_c_herds hS) (sT_c_herds hS) rfl (sR_c_herds_1 hS) ?_
    refine x_aload_n (pc := 25) dX1_addCamp_25 rfl rfl ?_
    refine x_getI (pc := 26) (i := c_herds) fl_X1_9 dX1_addCamp_26 (sN_c_herds hS) (sT_c_herds hS) rfl ?_
    refine x_iload_n (pc := 29) dX1_addCamp_29 rfl rfl ?_
    refine y_iast (pc := 30) (i := c_herds_tongues) (n := 6) dX1_addCamp_30 (sN_c_herds_tongues hS) (sT_c_herds_tongues hS) (sL_c_herds_tongues hS) h.1 ?_
    have h := h.2
    have h := h _ rfl
    generalize up I1 c_herds_tongues (ix (I1 c_herds 0)) (v2) = I2 at h ⊢
    refine x_aload_n (pc := 31) dX1_addCamp_31 rfl rfl ?_
    refine x_getR (pc := 32) (i := c_herds) (a := c_herds_firstWeeks) fl_X1_22 dX1_addCamp_32 (sN_c_herds hS) (sT_c_herds hS) rfl (sR_c_herds_3 hS) ?_
    refine x_aload_n (pc := 35) dX1_addCamp_35 rfl rfl ?_
    refine x_getI (pc := 36) (i := c_herds) fl_X1_9 dX1_addCamp_36 (sN_c_herds hS) (sT_c_herds hS) rfl ?_
    refine x_iload_n (pc := 39) dX1_addCamp_39 rfl rfl ?_
    refine y_iast (pc := 40) (i := c_herds_firstWeeks) (n := 6) dX1_addCamp_40 (sN_c_herds_firstWeeks hS) (sT_c_herds_firstWeeks hS) (sL_c_herds_firstWeeks hS) h.1 ?_
    have h := h.2
    have h := h _ rfl
    generalize up I2 c_herds_firstWeeks (ix (I2 c_herds 0)) (v3) = I3 at h ⊢
    refine x_aload_n (pc := 41) dX1_addCamp_41 rfl rfl ?_
    refine x_dup (pc := 42) dX1_addCamp_42 rfl ?_
    refine x_getI (pc := 43) (i := c_herds) fl_X1_9 dX1_addCamp_43 (sN_c_herds hS) (sT_c_herds hS) rfl ?_
    refine x_iconst (pc := 46) dX1_addCamp_46 ?_
    refine x_iadd (pc := 47) dX1_addCamp_47 ?_
    refine x_putI (pc := 48) (i := c_herds) fl_X1_9 dX1_addCamp_48 (sN_c_herds hS) (sT_c_herds hS) rfl ?_
    have h := h _ rfl
    generalize up I3 c_herds 0 ((I3 c_herds 0) + (1)) = I4 at h ⊢
    refine x_aload_n (pc := 51) dX1_addCamp_51 rfl rfl ?_
    refine x_getI (pc := 52) (i := c_herds) fl_X1_9 dX1_addCamp_52 (sN_c_herds hS) (sT_c_herds hS) rfl ?_
    refine x_iconst (pc := 55) dX1_addCamp_55 ?_
    refine x_isub (pc := 56) dX1_addCamp_56 ?_
    exact y_iret (pc := 57) dX1_addCamp_57 rfl ⟨Nat.le_refl _, Nat.le_refl _⟩ h
  · have h := h.2 e
    refine x_iconst (pc := 9) dX1_addCamp_9 ?_
    exact y_iret (pc := 10) dX1_addCamp_10 rfl ⟨Nat.le_refl _, Nat.le_refl _⟩ h
set_option maxHeartbeats 4000000 in
set_option maxRecDepth 100000 in
theorem b_La_addCell {G : XG} {S : XS} {I : XI} {v1 : Int} {R : Int → XI → Prop} (hS : xSh S)  (h : ((w32 (I c_land 0) < w32 (10) → ((w32 (v1) = 0 → La_addCell_k30 G S I  R) ∧ (¬ (w32 (v1) = 0) → (∀ I1 : XI, I1 = up I c_land 1 (ior (I c_land 1) (ishl (1) (I c_land 0))) → La_addCell_k30 G S I1  R)))) ∧ (¬ (w32 (I c_land 0) < w32 (10)) → R ((-1)) I))) : La_addCell G S I v1 R := by
  refine x_start [some (vr G c_land), some (vi (v1))] (by decide) (Nat.le_of_ble_eq_true rfl) rfl ?_
  refine x_aload_n (pc := 0) dX2_addCell_0 rfl rfl ?_
  refine x_getI (pc := 1) (i := c_land) fl_X2_9 dX2_addCell_1 (sN_c_land hS) (sT_c_land hS) rfl ?_
  refine x_bipush (pc := 4) dX2_addCell_4 (by decide) ?_
  refine x_icmp_lt (pc := 6) (t := 11) dX2_addCell_6 (by decide) (fun e => ?_) (fun e => ?_)
  · have h := h.1 e
    refine x_iload_n (pc := 11) dX2_addCell_11 rfl rfl ?_
    refine x_if_eq (pc := 12) (t := 30) dX2_addCell_12 (by decide) (fun e => ?_) (fun e => ?_)
    · have h := h.1 e
      refine x_less (L' := [some (vr G c_land), none]) (And.intro rfl trivial) ?_
      exact h
    · have h := h.2 e
      refine x_aload_n (pc := 15) dX2_addCell_15 rfl rfl ?_
      refine x_dup (pc := 16) dX2_addCell_16 rfl ?_
      refine x_getI (pc := 17) (i := c_land) fl_X2_15 dX2_addCell_17 (sN_c_land hS) (sT_c_land hS) rfl ?_
      refine x_iconst (pc := 20) dX2_addCell_20 ?_
      refine x_aload_n (pc := 21) dX2_addCell_21 rfl rfl ?_
      refine x_getI (pc := 22) (i := c_land) fl_X2_9 dX2_addCell_22 (sN_c_land hS) (sT_c_land hS) rfl ?_
      refine x_ishl (pc := 25) dX2_addCell_25 ?_
      refine x_ior (pc := 26) dX2_addCell_26 ?_
      refine x_putI (pc := 27) (i := c_land) fl_X2_15 dX2_addCell_27 (sN_c_land hS) (sT_c_land hS) rfl ?_
      have h := h _ rfl
      generalize up I c_land 1 (ior (I c_land 1) (ishl (1) (I c_land 0))) = I1 at h ⊢
      refine x_less (L' := [some (vr G c_land), none]) (And.intro rfl trivial) ?_
      exact h
  · have h := h.2 e
    refine x_iconst (pc := 9) dX2_addCell_9 ?_
    exact y_iret (pc := 10) dX2_addCell_10 rfl ⟨Nat.le_refl _, Nat.le_refl _⟩ h
set_option maxHeartbeats 4000000 in
set_option maxRecDepth 100000 in
theorem b_La_addCell_k30 {G : XG} {S : XS}  {I : XI}  {R : Int → XI → Prop} (hS : xSh S)  (h : (∀ I2 : XI, I2 = up I c_land 0 ((I c_land 0) + (1)) → R ((I2 c_land 0) - (1)) I2)) : La_addCell_k30 G S  I  R := by
  unfold La_addCell_k30
  refine x_aload_n (pc := 30) dX2_addCell_30 rfl rfl ?_
  refine x_dup (pc := 31) dX2_addCell_31 rfl ?_
  refine x_getI (pc := 32) (i := c_land) fl_X2_9 dX2_addCell_32 (sN_c_land hS) (sT_c_land hS) rfl ?_
  refine x_iconst (pc := 35) dX2_addCell_35 ?_
  refine x_iadd (pc := 36) dX2_addCell_36 ?_
  refine x_putI (pc := 37) (i := c_land) fl_X2_9 dX2_addCell_37 (sN_c_land hS) (sT_c_land hS) rfl ?_
  have h := h _ rfl
  generalize up I c_land 0 ((I c_land 0) + (1)) = I2 at h ⊢
  refine x_aload_n (pc := 40) dX2_addCell_40 rfl rfl ?_
  refine x_getI (pc := 41) (i := c_land) fl_X2_9 dX2_addCell_41 (sN_c_land hS) (sT_c_land hS) rfl ?_
  refine x_iconst (pc := 44) dX2_addCell_44 ?_
  refine x_isub (pc := 45) dX2_addCell_45 ?_
  exact y_iret (pc := 46) dX2_addCell_46 rfl ⟨Nat.le_refl _, Nat.le_refl _⟩ h
set_option maxHeartbeats 4000000 in
set_option maxRecDepth 100000 in
theorem b_Sh_heldByAll {G : XG} {S : XS} {I : XI} {v1 : Int} {v2 : Int} {R : Int → XI → Prop} (hS : xSh S)  (h : Sh_heldBy G S I ((-1)) (v1) (v2) (fun r2 I1 => R ((I c_shelf 0) - (r2)) I1)) : Sh_heldByAll G S I v1 v2 R := by
  refine x_start [some (vr G c_shelf), some (vi (v1)), some (vi (v2))] (by decide) (Nat.le_of_ble_eq_true rfl) rfl ?_
  refine x_aload_n (pc := 0) dX6_heldByAll_0 rfl rfl ?_
  refine x_getI (pc := 1) (i := c_shelf) fl_X6_9 dX6_heldByAll_1 (sN_c_shelf hS) (sT_c_shelf hS) rfl ?_
  refine x_aload_n (pc := 4) dX6_heldByAll_4 rfl rfl ?_
  refine x_iconst (pc := 5) dX6_heldByAll_5 ?_
  refine x_iload_n (pc := 6) dX6_heldByAll_6 rfl rfl ?_
  refine x_iload_n (pc := 7) dX6_heldByAll_7 rfl rfl ?_
  refine y_Vi (pc := 8) (i := c_shelf) (As := [vi ((-1)), vi (v1), vi (v2)]) (rest := [vi (I c_shelf 0)]) ok_X6_heldBy ml_X6_63 dX6_heldByAll_8 (sN_c_shelf hS) (sT_c_shelf hS) (by decide) rfl rfl rfl ⟨rfl, rfl⟩ ⟨by decide, by decide⟩ ⟨Nat.le_refl _, Nat.le_refl _⟩ (Nat.le_of_ble_eq_true rfl) rfl h (fun r2 I1 h => ?_)
  refine x_isub (pc := 11) dX6_heldByAll_11 ?_
  exact y_iret (pc := 12) dX6_heldByAll_12 rfl ⟨Nat.le_refl _, Nat.le_refl _⟩ h
set_option maxHeartbeats 4000000 in
set_option maxRecDepth 100000 in
theorem b_H_countUpTo {G : XG} {S : XS} {I : XI} {v1 : Int} {v2 : Int} {R : Int → XI → Prop} (hS : xSh S)  (h : H_countUpTo_k5 G S I (v1) (v2) (0) (0) R) : H_countUpTo G S I v1 v2 R := by
  refine x_start [some (vr G c_herds_newsTold), some (vi (v1)), some (vi (v2)), none, none] (by decide) (Nat.le_of_ble_eq_true rfl) rfl ?_
  refine x_iconst (pc := 0) dX10_countUpTo_0 ?_
  refine x_istore_n (pc := 1) (L' := [some (vr G c_herds_newsTold), some (vi (v1)), some (vi (v2)), some (vi (0)), none]) dX10_countUpTo_1 rfl (by decide) (xst1 rfl rfl rfl) ?_
  refine x_iconst (pc := 2) dX10_countUpTo_2 ?_
  refine x_istore (pc := 3) (L' := [some (vr G c_herds_newsTold), some (vi (v1)), some (vi (v2)), some (vi (0)), some (vi (0))]) dX10_countUpTo_3 (by decide) (xst1 rfl rfl rfl) ?_
  exact h
set_option maxHeartbeats 4000000 in
set_option maxRecDepth 100000 in
theorem b_H_countUpTo_k5 {G : XG} {S : XS}  {I : XI} {v1 : Int} {v2 : Int} {v3 : Int} {v4 : Int} {R : Int → XI → Prop} (hS : xSh S)  (h : ((w32 (v1) ≤ w32 (v4) → R (v3) I) ∧ (¬ (w32 (v1) ≤ w32 (v4)) → (inb (v4) 60 ∧ ((w32 (v2) < w32 (I c_herds_newsTold (ix (v4))) → H_countUpTo_k5 G S I (v1) (v2) (v3) (v4 + 1) R) ∧ (¬ (w32 (v2) < w32 (I c_herds_newsTold (ix (v4)))) → H_countUpTo_k5 G S I (v1) (v2) (v3 + 1) (v4 + 1) R)))))) : H_countUpTo_k5 G S  I v1 v2 v3 v4 R := by
  unfold H_countUpTo_k5
  refine x_iload (pc := 5) dX10_countUpTo_5 rfl ?_
  refine x_iload_n (pc := 7) dX10_countUpTo_7 rfl rfl ?_
  refine x_icmp_ge (pc := 8) (t := 28) dX10_countUpTo_8 (by decide) (fun e => ?_) (fun e => ?_)
  · have h := h.1 e
    refine x_iload_n (pc := 28) dX10_countUpTo_28 rfl rfl ?_
    exact y_iret (pc := 29) dX10_countUpTo_29 rfl ⟨Nat.le_refl _, Nat.le_refl _⟩ h
  · have h := h.2 e
    refine x_aload_n (pc := 11) dX10_countUpTo_11 rfl rfl ?_
    refine x_iload (pc := 12) dX10_countUpTo_12 rfl ?_
    refine y_iald (pc := 14) (i := c_herds_newsTold) (n := 60) dX10_countUpTo_14 (sN_c_herds_newsTold hS) (sT_c_herds_newsTold hS) (sL_c_herds_newsTold hS) h.1 ?_
    have h := h.2
    refine x_iload_n (pc := 15) dX10_countUpTo_15 rfl rfl ?_
    refine x_icmp_gt (pc := 16) (t := 22) dX10_countUpTo_16 (by decide) (fun e => ?_) (fun e => ?_)
    · have h := h.1 e
      refine x_iinc (pc := 22) (L' := [some (vr G c_herds_newsTold), some (vi (v1)), some (vi (v2)), some (vi (v3)), some (vi (v4 + 1))]) dX10_countUpTo_22 rfl (by decide) (xst1 rfl rfl rfl) ?_
      refine x_goto (pc := 25) (t := 5) dX10_countUpTo_25 (by decide) ?_
      exact h
    · have h := h.2 e
      refine x_iinc (pc := 19) (L' := [some (vr G c_herds_newsTold), some (vi (v1)), some (vi (v2)), some (vi (v3 + 1)), some (vi (v4))]) dX10_countUpTo_19 rfl (by decide) (xst1 rfl rfl rfl) ?_
      refine x_iinc (pc := 22) (L' := [some (vr G c_herds_newsTold), some (vi (v1)), some (vi (v2)), some (vi (v3 + 1)), some (vi (v4 + 1))]) dX10_countUpTo_22 rfl (by decide) (xst1 rfl rfl rfl) ?_
      refine x_goto (pc := 25) (t := 5) dX10_countUpTo_25 (by decide) ?_
      exact h
set_option maxHeartbeats 4000000 in
set_option maxRecDepth 100000 in
theorem b_H_countUpTo2 {G : XG} {S : XS} {I : XI} {v1 : Int} {v2 : Int} {R : Int → XI → Prop} (hS : xSh S)  (h : H_countUpTo2_k5 G S I (v1) (v2) (0) (0) R) : H_countUpTo2 G S I v1 v2 R := by
  refine x_start [some (vr G c_shelf_actTold), some (vi (v1)), some (vi (v2)), none, none] (by decide) (Nat.le_of_ble_eq_true rfl) rfl ?_
  refine x_iconst (pc := 0) dX10_countUpTo_0 ?_
  refine x_istore_n (pc := 1) (L' := [some (vr G c_shelf_actTold), some (vi (v1)), some (vi (v2)), some (vi (0)), none]) dX10_countUpTo_1 rfl (by decide) (xst1 rfl rfl rfl) ?_
  refine x_iconst (pc := 2) dX10_countUpTo_2 ?_
  refine x_istore (pc := 3) (L' := [some (vr G c_shelf_actTold), some (vi (v1)), some (vi (v2)), some (vi (0)), some (vi (0))]) dX10_countUpTo_3 (by decide) (xst1 rfl rfl rfl) ?_
  exact h
set_option maxHeartbeats 4000000 in
set_option maxRecDepth 100000 in
theorem b_H_countUpTo2_k5 {G : XG} {S : XS}  {I : XI} {v1 : Int} {v2 : Int} {v3 : Int} {v4 : Int} {R : Int → XI → Prop} (hS : xSh S)  (h : ((w32 (v1) ≤ w32 (v4) → R (v3) I) ∧ (¬ (w32 (v1) ≤ w32 (v4)) → (inb (v4) 150 ∧ ((w32 (v2) < w32 (I c_shelf_actTold (ix (v4))) → H_countUpTo2_k5 G S I (v1) (v2) (v3) (v4 + 1) R) ∧ (¬ (w32 (v2) < w32 (I c_shelf_actTold (ix (v4)))) → H_countUpTo2_k5 G S I (v1) (v2) (v3 + 1) (v4 + 1) R)))))) : H_countUpTo2_k5 G S  I v1 v2 v3 v4 R := by
  unfold H_countUpTo2_k5
  refine x_iload (pc := 5) dX10_countUpTo_5 rfl ?_
  refine x_iload_n (pc := 7) dX10_countUpTo_7 rfl rfl ?_
  refine x_icmp_ge (pc := 8) (t := 28) dX10_countUpTo_8 (by decide) (fun e => ?_) (fun e => ?_)
  · have h := h.1 e
    refine x_iload_n (pc := 28) dX10_countUpTo_28 rfl rfl ?_
    exact y_iret (pc := 29) dX10_countUpTo_29 rfl ⟨Nat.le_refl _, Nat.le_refl _⟩ h
  · have h := h.2 e
    refine x_aload_n (pc := 11) dX10_countUpTo_11 rfl rfl ?_
    refine x_iload (pc := 12) dX10_countUpTo_12 rfl ?_
    refine y_iald (pc := 14) (i := c_shelf_actTold) (n := 150) dX10_countUpTo_14 (sN_c_shelf_actTold hS) (sT_c_shelf_actTold hS) (sL_c_shelf_actTold hS) h.1 ?_
    have h := h.2
    refine x_iload_n (pc := 15) dX10_countUpTo_15 rfl rfl ?_
    refine x_icmp_gt (pc := 16) (t := 22) dX10_countUpTo_16 (by decide) (fun e => ?_) (fun e => ?_)
    · have h := h.1 e
      refine x_iinc (pc := 22) (L' := [some (vr G c_shelf_actTold), some (vi (v1)), some (vi (v2)), some (vi (v3)), some (vi (v4 + 1))]) dX10_countUpTo_22 rfl (by decide) (xst1 rfl rfl rfl) ?_
      refine x_goto (pc := 25) (t := 5) dX10_countUpTo_25 (by decide) ?_
      exact h
    · have h := h.2 e
      refine x_iinc (pc := 19) (L' := [some (vr G c_shelf_actTold), some (vi (v1)), some (vi (v2)), some (vi (v3 + 1)), some (vi (v4))]) dX10_countUpTo_19 rfl (by decide) (xst1 rfl rfl rfl) ?_
      refine x_iinc (pc := 22) (L' := [some (vr G c_shelf_actTold), some (vi (v1)), some (vi (v2)), some (vi (v3 + 1)), some (vi (v4 + 1))]) dX10_countUpTo_22 rfl (by decide) (xst1 rfl rfl rfl) ?_
      refine x_goto (pc := 25) (t := 5) dX10_countUpTo_25 (by decide) ?_
      exact h
set_option maxHeartbeats 4000000 in
set_option maxRecDepth 100000 in
theorem b_Sh_dueWeek {G : XG} {S : XS} {I : XI} {v1 : Int} {v2 : Int} {v3 : Int} {R : Int → XI → Prop} (hS : xSh S)  (h : Sh_lastAct G S I (v1) (0) (v2) (v3) (fun r2 I1 => ((w32 (r2) = w32 ((-1)) → R ((-1)) I1) ∧ (¬ (w32 (r2) = w32 ((-1))) → (inb (r2) 150 ∧ (inb (r2) 150 ∧ Sh_dueWeek_k38 G S I1 (I1 c_shelf_actAmounts (ix (r2))) ((I1 c_shelf_actWeeks (ix (r2))) + (1)) R)))))) : Sh_dueWeek G S I v1 v2 v3 R := by
  refine x_start [some (vr G c_shelf), some (vi (v1)), some (vi (v2)), some (vi (v3)), some (vr G c_land_dry), none, none, none] (by decide) (Nat.le_of_ble_eq_true rfl) rfl ?_
  refine x_aload_n (pc := 0) dX6_dueWeek_0 rfl rfl ?_
  refine x_iload_n (pc := 1) dX6_dueWeek_1 rfl rfl ?_
  refine x_iconst (pc := 2) dX6_dueWeek_2 ?_
  refine x_iload_n (pc := 3) dX6_dueWeek_3 rfl rfl ?_
  refine x_iload_n (pc := 4) dX6_dueWeek_4 rfl rfl ?_
  refine y_Vi (pc := 5) (i := c_shelf) (As := [vi (v1), vi (0), vi (v2), vi (v3)]) (rest := []) ok_X6_lastAct ml_X6_55 dX6_dueWeek_5 (sN_c_shelf hS) (sT_c_shelf hS) (by decide) rfl rfl rfl ⟨rfl, rfl⟩ ⟨by decide, by decide⟩ ⟨Nat.le_refl _, Nat.le_refl _⟩ (Nat.le_of_ble_eq_true rfl) rfl h (fun r2 I1 h => ?_)
  refine x_istore (pc := 8) (L' := [some (vr G c_shelf), some (vi (v1)), some (vi (v2)), some (vi (v3)), some (vr G c_land_dry), some (vi (r2)), none, none]) dX6_dueWeek_8 (by decide) (xst1 rfl rfl rfl) ?_
  refine x_iload (pc := 10) dX6_dueWeek_10 rfl ?_
  refine x_iconst (pc := 12) dX6_dueWeek_12 ?_
  refine x_icmp_ne (pc := 13) (t := 18) dX6_dueWeek_13 (by decide) (fun e => ?_) (fun e => ?_)
  · have h := h.1 e
    refine x_iconst (pc := 16) dX6_dueWeek_16 ?_
    exact y_iret (pc := 17) dX6_dueWeek_17 rfl ⟨Nat.le_refl _, Nat.le_refl _⟩ h
  · have h := h.2 e
    refine x_aload_n (pc := 18) dX6_dueWeek_18 rfl rfl ?_
    refine x_getR (pc := 19) (i := c_shelf) (a := c_shelf_actAmounts) fl_X6_49 dX6_dueWeek_19 (sN_c_shelf hS) (sT_c_shelf hS) rfl (sR_c_shelf_12 hS) ?_
    refine x_iload (pc := 22) dX6_dueWeek_22 rfl ?_
    refine y_iald (pc := 24) (i := c_shelf_actAmounts) (n := 150) dX6_dueWeek_24 (sN_c_shelf_actAmounts hS) (sT_c_shelf_actAmounts hS) (sL_c_shelf_actAmounts hS) h.1 ?_
    have h := h.2
    refine x_istore (pc := 25) (L' := [some (vr G c_shelf), some (vi (v1)), some (vi (v2)), some (vi (v3)), some (vr G c_land_dry), some (vi (r2)), some (vi (I1 c_shelf_actAmounts (ix (r2)))), none]) dX6_dueWeek_25 (by decide) (xst1 rfl rfl rfl) ?_
    refine x_aload_n (pc := 27) dX6_dueWeek_27 rfl rfl ?_
    refine x_getR (pc := 28) (i := c_shelf) (a := c_shelf_actWeeks) fl_X6_43 dX6_dueWeek_28 (sN_c_shelf hS) (sT_c_shelf hS) rfl (sR_c_shelf_10 hS) ?_
    refine x_iload (pc := 31) dX6_dueWeek_31 rfl ?_
    refine y_iald (pc := 33) (i := c_shelf_actWeeks) (n := 150) dX6_dueWeek_33 (sN_c_shelf_actWeeks hS) (sT_c_shelf_actWeeks hS) (sL_c_shelf_actWeeks hS) h.1 ?_
    have h := h.2
    refine x_iconst (pc := 34) dX6_dueWeek_34 ?_
    refine x_iadd (pc := 35) dX6_dueWeek_35 ?_
    refine x_istore (pc := 36) (L' := [some (vr G c_shelf), some (vi (v1)), some (vi (v2)), some (vi (v3)), some (vr G c_land_dry), some (vi (r2)), some (vi (I1 c_shelf_actAmounts (ix (r2)))), some (vi ((I1 c_shelf_actWeeks (ix (r2))) + (1)))]) dX6_dueWeek_36 (by decide) (xst1 rfl rfl rfl) ?_
    refine x_less (L' := [none, none, none, none, some (vr G c_land_dry), none, some (vi (I1 c_shelf_actAmounts (ix (r2)))), some (vi ((I1 c_shelf_actWeeks (ix (r2))) + (1)))]) (And.intro rfl (And.intro rfl (And.intro rfl trivial))) ?_
    exact h
set_option maxHeartbeats 4000000 in
set_option maxRecDepth 100000 in
theorem b_Sh_dueWeek_k38 {G : XG} {S : XS}  {I : XI} {v6 : Int} {v7 : Int} {R : Int → XI → Prop} (hS : xSh S)  (h : ((w32 (100) ≤ w32 (v7) → R (100) I) ∧ (¬ (w32 (100) ≤ w32 (v7)) → (inb (v7) 100 ∧ ((w32 ((v6) - ((1) - (I c_land_dry (ix (v7))))) = 0 → R (v7) I) ∧ (¬ (w32 ((v6) - ((1) - (I c_land_dry (ix (v7))))) = 0) → Sh_dueWeek_k38 G S I ((v6) - ((1) - (I c_land_dry (ix (v7))))) (v7 + 1) R)))))) : Sh_dueWeek_k38 G S  I v6 v7 R := by
  unfold Sh_dueWeek_k38
  refine x_iload (pc := 38) dX6_dueWeek_38 rfl ?_
  refine x_bipush (pc := 40) dX6_dueWeek_40 (by decide) ?_
  refine x_icmp_ge (pc := 42) (t := 71) dX6_dueWeek_42 (by decide) (fun e => ?_) (fun e => ?_)
  · have h := h.1 e
    refine x_bipush (pc := 71) dX6_dueWeek_71 (by decide) ?_
    exact y_iret (pc := 73) dX6_dueWeek_73 rfl ⟨Nat.le_refl _, Nat.le_refl _⟩ h
  · have h := h.2 e
    refine x_iload (pc := 45) dX6_dueWeek_45 rfl ?_
    refine x_iconst (pc := 47) dX6_dueWeek_47 ?_
    refine x_aload (pc := 48) dX6_dueWeek_48 rfl ?_
    refine x_iload (pc := 50) dX6_dueWeek_50 rfl ?_
    refine y_iald (pc := 52) (i := c_land_dry) (n := 100) dX6_dueWeek_52 (sN_c_land_dry hS) (sT_c_land_dry hS) (sL_c_land_dry hS) h.1 ?_
    have h := h.2
    refine x_isub (pc := 53) dX6_dueWeek_53 ?_
    refine x_isub (pc := 54) dX6_dueWeek_54 ?_
    refine x_istore (pc := 55) (L' := [none, none, none, none, some (vr G c_land_dry), none, some (vi ((v6) - ((1) - (I c_land_dry (ix (v7)))))), some (vi (v7))]) dX6_dueWeek_55 (by decide) (xst1 rfl rfl trivial) ?_
    refine x_iload (pc := 57) dX6_dueWeek_57 rfl ?_
    refine x_if_ne (pc := 59) (t := 65) dX6_dueWeek_59 (by decide) (fun e => ?_) (fun e => ?_)
    · have h := h.1 e
      refine x_iload (pc := 62) dX6_dueWeek_62 rfl ?_
      exact y_iret (pc := 64) dX6_dueWeek_64 rfl ⟨Nat.le_refl _, Nat.le_refl _⟩ h
    · have h := h.2 e
      refine x_iinc (pc := 65) (L' := [none, none, none, none, some (vr G c_land_dry), none, some (vi ((v6) - ((1) - (I c_land_dry (ix (v7)))))), some (vi (v7 + 1))]) dX6_dueWeek_65 rfl (by decide) (xst1 rfl rfl rfl) ?_
      refine x_goto (pc := 68) (t := 38) dX6_dueWeek_68 (by decide) ?_
      exact h
set_option maxHeartbeats 4000000 in
set_option maxRecDepth 100000 in
theorem b_To_addBytes {G : XG} {S : XS} {I : XI} {v1 : Int} {R : XI → Prop} (hS : xSh S)  (h : To_addBytes_k3 G S I (v1) (24) R) : To_addBytes G S I v1 R := by
  refine x_start [some (vr G c_told), some (vi (v1)), none] (by decide) (Nat.le_of_ble_eq_true rfl) rfl ?_
  refine x_bipush (pc := 0) dX7_addBytes_0 (by decide) ?_
  refine x_istore_n (pc := 2) (L' := [some (vr G c_told), some (vi (v1)), some (vi (24))]) dX7_addBytes_2 rfl (by decide) (xst1 rfl rfl rfl) ?_
  exact h
set_option maxHeartbeats 4000000 in
set_option maxRecDepth 100000 in
theorem b_To_addBytes_k3 {G : XG} {S : XS}  {I : XI} {v1 : Int} {v2 : Int} {R : XI → Prop} (hS : xSh S)  (h : ((w32 (v2) < 0 → R I) ∧ (¬ (w32 (v2) < 0) → ((w32 (500) ≤ w32 (I c_told 6) → R I) ∧ (¬ (w32 (500) ≤ w32 (I c_told 6)) → (inb (I c_told 6) 500 ∧ (∀ I1 : XI, I1 = up I c_told_tape (ix (I c_told 6)) (iand (ishr (v1) (v2)) (255)) → (∀ I2 : XI, I2 = up I1 c_told 6 ((I1 c_told 6) + (1)) → To_addBytes_k3 G S I2 (v1) (v2 + (-8)) R)))))))) : To_addBytes_k3 G S  I v1 v2 R := by
  unfold To_addBytes_k3
  refine x_iload_n (pc := 3) dX7_addBytes_3 rfl rfl ?_
  refine x_if_lt (pc := 4) (t := 49) dX7_addBytes_4 (by decide) (fun e => ?_) (fun e => ?_)
  · have h := h.1 e
    exact y_vret (pc := 49) dX7_addBytes_49 rfl ⟨Nat.le_refl _, Nat.le_refl _⟩ h
  · have h := h.2 e
    refine x_aload_n (pc := 7) dX7_addBytes_7 rfl rfl ?_
    refine x_getI (pc := 8) (i := c_told) fl_X7_50 dX7_addBytes_8 (sN_c_told hS) (sT_c_told hS) rfl ?_
    refine x_sipush (pc := 11) dX7_addBytes_11 (by decide) ?_
    refine x_icmp_ge (pc := 14) (t := 49) dX7_addBytes_14 (by decide) (fun e => ?_) (fun e => ?_)
    · have h := h.1 e
      exact y_vret (pc := 49) dX7_addBytes_49 rfl ⟨Nat.le_refl _, Nat.le_refl _⟩ h
    · have h := h.2 e
      refine x_aload_n (pc := 17) dX7_addBytes_17 rfl rfl ?_
      refine x_getR (pc := 18) (i := c_told) (a := c_told_tape) fl_X7_46 dX7_addBytes_18 (sN_c_told hS) (sT_c_told hS) rfl (sR_c_told_5 hS) ?_
      refine x_aload_n (pc := 21) dX7_addBytes_21 rfl rfl ?_
      refine x_getI (pc := 22) (i := c_told) fl_X7_50 dX7_addBytes_22 (sN_c_told hS) (sT_c_told hS) rfl ?_
      refine x_iload_n (pc := 25) dX7_addBytes_25 rfl rfl ?_
      refine x_iload_n (pc := 26) dX7_addBytes_26 rfl rfl ?_
      refine x_ishr (pc := 27) dX7_addBytes_27 ?_
      refine x_sipush (pc := 28) dX7_addBytes_28 (by decide) ?_
      refine x_iand (pc := 31) dX7_addBytes_31 ?_
      refine y_iast (pc := 32) (i := c_told_tape) (n := 500) dX7_addBytes_32 (sN_c_told_tape hS) (sT_c_told_tape hS) (sL_c_told_tape hS) h.1 ?_
      have h := h.2
      have h := h _ rfl
      generalize up I c_told_tape (ix (I c_told 6)) (iand (ishr (v1) (v2)) (255)) = I1 at h ⊢
      refine x_aload_n (pc := 33) dX7_addBytes_33 rfl rfl ?_
      refine x_dup (pc := 34) dX7_addBytes_34 rfl ?_
      refine x_getI (pc := 35) (i := c_told) fl_X7_50 dX7_addBytes_35 (sN_c_told hS) (sT_c_told hS) rfl ?_
      refine x_iconst (pc := 38) dX7_addBytes_38 ?_
      refine x_iadd (pc := 39) dX7_addBytes_39 ?_
      refine x_putI (pc := 40) (i := c_told) fl_X7_50 dX7_addBytes_40 (sN_c_told hS) (sT_c_told hS) rfl ?_
      have h := h _ rfl
      generalize up I1 c_told 6 ((I1 c_told 6) + (1)) = I2 at h ⊢
      refine x_iinc (pc := 43) (L' := [some (vr G c_told), some (vi (v1)), some (vi (v2 + (-8)))]) dX7_addBytes_43 rfl (by decide) (xst1 rfl rfl rfl) ?_
      refine x_goto (pc := 46) (t := 3) dX7_addBytes_46 (by decide) ?_
      exact h
set_option maxHeartbeats 4000000 in
set_option maxRecDepth 100000 in
theorem b_Wn_forget {G : XG} {S : XS} {I : XI}  {R : XI → Prop} (hS : xSh S)  (h : Ja_fill G S I (c_now_knownTo) ((-1)) (fun I1 => R I1)) : Wn_forget G S I  R := by
  refine x_start [some (vr G c_now)] (by decide) (Nat.le_of_ble_eq_true rfl) rfl ?_
  refine x_aload_n (pc := 0) dX9_forget_0 rfl rfl ?_
  refine x_getR (pc := 1) (i := c_now) (a := c_now_knownTo) fl_X9_15 dX9_forget_1 (sN_c_now hS) (sT_c_now hS) rfl (sR_c_now_1 hS) ?_
  refine x_iconst (pc := 4) dX9_forget_4 ?_
  refine y_Sv (pc := 5) (As := [vr G c_now_knownTo, vi ((-1))]) (rest := []) ok_J7_fill_53178 ml_X9_34 dX9_forget_5 rfl ⟨rfl, rfl⟩ ⟨by decide, by decide⟩ ⟨Nat.le_refl _, Nat.le_refl _⟩ (Nat.le_of_ble_eq_true rfl) rfl h (fun I1 h => ?_)
  exact y_vret (pc := 8) dX9_forget_8 rfl ⟨Nat.le_refl _, Nat.le_refl _⟩ h
set_option maxHeartbeats 4000000 in
set_option maxRecDepth 100000 in
theorem b_Wt_forget {G : XG} {S : XS} {I : XI}  {R : XI → Prop} (hS : xSh S)  (h : Ja_fill G S I (c_then_knownTo) ((-1)) (fun I1 => R I1)) : Wt_forget G S I  R := by
  refine x_start [some (vr G c_then)] (by decide) (Nat.le_of_ble_eq_true rfl) rfl ?_
  refine x_aload_n (pc := 0) dX9_forget_0 rfl rfl ?_
  refine x_getR (pc := 1) (i := c_then) (a := c_then_knownTo) fl_X9_15 dX9_forget_1 (sN_c_then hS) (sT_c_then hS) rfl (sR_c_then_1 hS) ?_
  refine x_iconst (pc := 4) dX9_forget_4 ?_
  refine y_Sv (pc := 5) (As := [vr G c_then_knownTo, vi ((-1))]) (rest := []) ok_J7_fill_53178 ml_X9_34 dX9_forget_5 rfl ⟨rfl, rfl⟩ ⟨by decide, by decide⟩ ⟨Nat.le_refl _, Nat.le_refl _⟩ (Nat.le_of_ble_eq_true rfl) rfl h (fun I1 h => ?_)
  exact y_vret (pc := 8) dX9_forget_8 rfl ⟨Nat.le_refl _, Nat.le_refl _⟩ h
set_option maxHeartbeats 4000000 in
set_option maxRecDepth 100000 in
theorem b_Wa_forget {G : XG} {S : XS} {I : XI}  {R : XI → Prop} (hS : xSh S)  (h : (∀ I1 : XI, I1 = up I c_walks 6 (0) → R I1)) : Wa_forget G S I  R := by
  refine x_start [some (vr G c_walks)] (by decide) (Nat.le_of_ble_eq_true rfl) rfl ?_
  refine x_aload_n (pc := 0) dX8_forget_0 rfl rfl ?_
  refine x_iconst (pc := 1) dX8_forget_1 ?_
  refine x_putZ (pc := 2) (i := c_walks) fl_X8_31 dX8_forget_2 (sN_c_walks hS) (sT_c_walks hS) rfl (Or.inl rfl) ?_
  have h := h _ rfl
  generalize up I c_walks 6 (0) = I1 at h ⊢
  exact y_vret (pc := 5) dX8_forget_5 rfl ⟨Nat.le_refl _, Nat.le_refl _⟩ h
set_option maxHeartbeats 4000000 in
set_option maxRecDepth 100000 in
theorem b_Sh_pagesLeft {G : XG} {S : XS} {I : XI} {v1 : Int} {v2 : Int} {v3 : Int} {R : Int → XI → Prop} (hS : xSh S)  (h : (inb (v1) 24 ∧ Sh_pagesLeft_k11 G S I (v1) (v2) (v3) (I c_shelf_pages (ix (v1))) (0) R)) : Sh_pagesLeft G S I v1 v2 v3 R := by
  refine x_start [some (vr G c_shelf), some (vi (v1)), some (vi (v2)), some (vi (v3)), none, none] (by decide) (Nat.le_of_ble_eq_true rfl) rfl ?_
  refine x_aload_n (pc := 0) dX6_pagesLeft_0 rfl rfl ?_
  refine x_getR (pc := 1) (i := c_shelf) (a := c_shelf_pages) fl_X6_25 dX6_pagesLeft_1 (sN_c_shelf hS) (sT_c_shelf hS) rfl (sR_c_shelf_4 hS) ?_
  refine x_iload_n (pc := 4) dX6_pagesLeft_4 rfl rfl ?_
  refine y_iald (pc := 5) (i := c_shelf_pages) (n := 24) dX6_pagesLeft_5 (sN_c_shelf_pages hS) (sT_c_shelf_pages hS) (sL_c_shelf_pages hS) h.1 ?_
  have h := h.2
  refine x_istore (pc := 6) (L' := [some (vr G c_shelf), some (vi (v1)), some (vi (v2)), some (vi (v3)), some (vi (I c_shelf_pages (ix (v1)))), none]) dX6_pagesLeft_6 (by decide) (xst1 rfl rfl rfl) ?_
  refine x_iconst (pc := 8) dX6_pagesLeft_8 ?_
  refine x_istore (pc := 9) (L' := [some (vr G c_shelf), some (vi (v1)), some (vi (v2)), some (vi (v3)), some (vi (I c_shelf_pages (ix (v1)))), some (vi (0))]) dX6_pagesLeft_9 (by decide) (xst1 rfl rfl rfl) ?_
  exact h
