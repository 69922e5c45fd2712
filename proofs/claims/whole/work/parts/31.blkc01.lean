set_option maxHeartbeats 4000000 in
set_option maxRecDepth 100000 in
theorem b_H_act {G : XG} {S : XS} {I : XI} {v1 : Int} {v2 : Int} {R : Int → XI → Prop} (hS : xSh S)  (h : H_isIn G S I (v1) (0) ((I c_shelf 6) - (1)) (fun r2 I1 => ((w32 (r2) = 0 → R ((-2)) I1) ∧ (¬ (w32 (r2) = 0) → ((w32 (v2) = 0 → (inb (v1) 150 ∧ R (I1 c_shelf_actBooks (ix (v1))) I1)) ∧ (w32 (v2) = 1 → (inb (v1) 150 ∧ R (I1 c_shelf_actKinds (ix (v1))) I1)) ∧ (w32 (v2) = 2 → (inb (v1) 150 ∧ R (I1 c_shelf_actCamps (ix (v1))) I1)) ∧ (w32 (v2) = 3 → (inb (v1) 150 ∧ R (I1 c_shelf_actWeeks (ix (v1))) I1)) ∧ (w32 (v2) = 4 → (inb (v1) 150 ∧ R (I1 c_shelf_actTold (ix (v1))) I1)) ∧ (w32 (v2) = 5 → (inb (v1) 150 ∧ R (I1 c_shelf_actAmounts (ix (v1))) I1)) ∧ (w32 (v2) = 6 → (inb (v1) 150 ∧ R (I1 c_shelf_actCosts (ix (v1))) I1)) ∧ ((w32 (v2) < 0 ∨ 6 < w32 (v2)) → R ((-2)) I1)))))) : H_act G S I v1 v2 R := by
  refine x_start [some (vr G c_obj), some (vi (v1)), some (vi (v2)), none] (by decide) (Nat.le_of_ble_eq_true rfl) rfl ?_
  refine x_aload_n (pc := 0) dX10_act_0 rfl rfl ?_
  refine x_getR (pc := 1) (i := c_obj) (a := c_told) fl_X10_12 dX10_act_1 (sN_c_obj hS) (sT_c_obj hS) rfl (sR_c_obj_0 hS) ?_
  refine x_getR (pc := 4) (i := c_told) (a := c_shelf) fl_X10_154 dX10_act_4 (sN_c_told hS) (sT_c_told hS) rfl (sR_c_told_2 hS) ?_
  refine x_astore_n (pc := 7) (L' := [some (vr G c_obj), some (vi (v1)), some (vi (v2)), some (vr G c_shelf)]) dX10_act_7 rfl (by decide) (xst1 rfl rfl rfl) ?_
  refine x_iload_n (pc := 8) dX10_act_8 rfl rfl ?_
  refine x_iconst (pc := 9) dX10_act_9 ?_
  refine x_aload_n (pc := 10) dX10_act_10 rfl rfl ?_
  refine x_getI (pc := 11) (i := c_shelf) fl_X10_202 dX10_act_11 (sN_c_shelf hS) (sT_c_shelf hS) rfl ?_
  refine x_iconst (pc := 14) dX10_act_14 ?_
  refine x_isub (pc := 15) dX10_act_15 ?_
  refine y_Si (pc := 16) (As := [vi (v1), vi (0), vi ((I c_shelf 6) - (1))]) (rest := []) ok_X10_isIn ml_X10_77 dX10_act_16 rfl ⟨rfl, rfl⟩ ⟨by decide, by decide⟩ ⟨Nat.le_refl _, Nat.le_refl _⟩ (Nat.le_of_ble_eq_true rfl) rfl h (fun r2 I1 h => ?_)
  refine x_if_ne (pc := 19) (t := 25) dX10_act_19 (by decide) (fun e => ?_) (fun e => ?_)
  · have h := h.1 e
    refine x_bipush (pc := 22) dX10_act_22 (by decide) ?_
    exact y_iret (pc := 24) dX10_act_24 rfl ⟨Nat.le_refl _, Nat.le_refl _⟩ h
  · have h := h.2 e
    refine x_iload_n (pc := 25) dX10_act_25 rfl rfl ?_
    by_cases e0 : w32 (v2) = 0
    · have h := h.1 e0
      refine x_tabIn (pc := 26) (off := 42) (t := 68) dX10_act_26 0 e0 (by decide) (by decide) rfl (by decide) ?_
      refine x_aload_n (pc := 68) dX10_act_68 rfl rfl ?_
      refine x_getR (pc := 69) (i := c_shelf) (a := c_shelf_actBooks) fl_X10_205 dX10_act_69 (sN_c_shelf hS) (sT_c_shelf hS) rfl (sR_c_shelf_7 hS) ?_
      refine x_iload_n (pc := 72) dX10_act_72 rfl rfl ?_
      refine y_iald (pc := 73) (i := c_shelf_actBooks) (n := 150) dX10_act_73 (sN_c_shelf_actBooks hS) (sT_c_shelf_actBooks hS) (sL_c_shelf_actBooks hS) h.1 ?_
      have h := h.2
      exact y_iret (pc := 74) dX10_act_74 rfl ⟨Nat.le_refl _, Nat.le_refl _⟩ h
    by_cases e1 : w32 (v2) = 1
    · have h := h.2.1 e1
      refine x_tabIn (pc := 26) (off := 49) (t := 75) dX10_act_26 1 e1 (by decide) (by decide) rfl (by decide) ?_
      refine x_aload_n (pc := 75) dX10_act_75 rfl rfl ?_
      refine x_getR (pc := 76) (i := c_shelf) (a := c_shelf_actKinds) fl_X10_208 dX10_act_76 (sN_c_shelf hS) (sT_c_shelf hS) rfl (sR_c_shelf_8 hS) ?_
      refine x_iload_n (pc := 79) dX10_act_79 rfl rfl ?_
      refine y_iald (pc := 80) (i := c_shelf_actKinds) (n := 150) dX10_act_80 (sN_c_shelf_actKinds hS) (sT_c_shelf_actKinds hS) (sL_c_shelf_actKinds hS) h.1 ?_
      have h := h.2
      exact y_iret (pc := 81) dX10_act_81 rfl ⟨Nat.le_refl _, Nat.le_refl _⟩ h
    by_cases e2 : w32 (v2) = 2
    · have h := h.2.2.1 e2
      refine x_tabIn (pc := 26) (off := 56) (t := 82) dX10_act_26 2 e2 (by decide) (by decide) rfl (by decide) ?_
      refine x_aload_n (pc := 82) dX10_act_82 rfl rfl ?_
      refine x_getR (pc := 83) (i := c_shelf) (a := c_shelf_actCamps) fl_X10_211 dX10_act_83 (sN_c_shelf hS) (sT_c_shelf hS) rfl (sR_c_shelf_9 hS) ?_
      refine x_iload_n (pc := 86) dX10_act_86 rfl rfl ?_
      refine y_iald (pc := 87) (i := c_shelf_actCamps) (n := 150) dX10_act_87 (sN_c_shelf_actCamps hS) (sT_c_shelf_actCamps hS) (sL_c_shelf_actCamps hS) h.1 ?_
      have h := h.2
      exact y_iret (pc := 88) dX10_act_88 rfl ⟨Nat.le_refl _, Nat.le_refl _⟩ h
    by_cases e3 : w32 (v2) = 3
    · have h := h.2.2.2.1 e3
      refine x_tabIn (pc := 26) (off := 63) (t := 89) dX10_act_26 3 e3 (by decide) (by decide) rfl (by decide) ?_
      refine x_aload_n (pc := 89) dX10_act_89 rfl rfl ?_
      refine x_getR (pc := 90) (i := c_shelf) (a := c_shelf_actWeeks) fl_X10_214 dX10_act_90 (sN_c_shelf hS) (sT_c_shelf hS) rfl (sR_c_shelf_10 hS) ?_
      refine x_iload_n (pc := 93) dX10_act_93 rfl rfl ?_
      refine y_iald (pc := 94) (i := c_shelf_actWeeks) (n := 150) dX10_act_94 (sN_c_shelf_actWeeks hS) (sT_c_shelf_actWeeks hS) (sL_c_shelf_actWeeks hS) h.1 ?_
      have h := h.2
      exact y_iret (pc := 95) dX10_act_95 rfl ⟨Nat.le_refl _, Nat.le_refl _⟩ h
    by_cases e4 : w32 (v2) = 4
    · have h := h.2.2.2.2.1 e4
      refine x_tabIn (pc := 26) (off := 70) (t := 96) dX10_act_26 4 e4 (by decide) (by decide) rfl (by decide) ?_
      refine x_aload_n (pc := 96) dX10_act_96 rfl rfl ?_
      refine x_getR (pc := 97) (i := c_shelf) (a := c_shelf_actTold) fl_X10_217 dX10_act_97 (sN_c_shelf hS) (sT_c_shelf hS) rfl (sR_c_shelf_11 hS) ?_
      refine x_iload_n (pc := 100) dX10_act_100 rfl rfl ?_
      refine y_iald (pc := 101) (i := c_shelf_actTold) (n := 150) dX10_act_101 (sN_c_shelf_actTold hS) (sT_c_shelf_actTold hS) (sL_c_shelf_actTold hS) h.1 ?_
      have h := h.2
      exact y_iret (pc := 102) dX10_act_102 rfl ⟨Nat.le_refl _, Nat.le_refl _⟩ h
    by_cases e5 : w32 (v2) = 5
    · have h := h.2.2.2.2.2.1 e5
      refine x_tabIn (pc := 26) (off := 77) (t := 103) dX10_act_26 5 e5 (by decide) (by decide) rfl (by decide) ?_
      refine x_aload_n (pc := 103) dX10_act_103 rfl rfl ?_
      refine x_getR (pc := 104) (i := c_shelf) (a := c_shelf_actAmounts) fl_X10_220 dX10_act_104 (sN_c_shelf hS) (sT_c_shelf hS) rfl (sR_c_shelf_12 hS) ?_
      refine x_iload_n (pc := 107) dX10_act_107 rfl rfl ?_
      refine y_iald (pc := 108) (i := c_shelf_actAmounts) (n := 150) dX10_act_108 (sN_c_shelf_actAmounts hS) (sT_c_shelf_actAmounts hS) (sL_c_shelf_actAmounts hS) h.1 ?_
      have h := h.2
      exact y_iret (pc := 109) dX10_act_109 rfl ⟨Nat.le_refl _, Nat.le_refl _⟩ h
    by_cases e6 : w32 (v2) = 6
    · have h := h.2.2.2.2.2.2.1 e6
      refine x_tabIn (pc := 26) (off := 84) (t := 110) dX10_act_26 6 e6 (by decide) (by decide) rfl (by decide) ?_
      refine x_aload_n (pc := 110) dX10_act_110 rfl rfl ?_
      refine x_getR (pc := 111) (i := c_shelf) (a := c_shelf_actCosts) fl_X10_223 dX10_act_111 (sN_c_shelf hS) (sT_c_shelf hS) rfl (sR_c_shelf_13 hS) ?_
      refine x_iload_n (pc := 114) dX10_act_114 rfl rfl ?_
      refine y_iald (pc := 115) (i := c_shelf_actCosts) (n := 150) dX10_act_115 (sN_c_shelf_actCosts hS) (sT_c_shelf_actCosts hS) (sL_c_shelf_actCosts hS) h.1 ?_
      have h := h.2
      exact y_iret (pc := 116) dX10_act_116 rfl ⟨Nat.le_refl _, Nat.le_refl _⟩ h
    have hd9 : w32 (v2) < 0 ∨ 6 < w32 (v2) := by omega
    have h := h.2.2.2.2.2.2.2 hd9
    refine x_tabOut (pc := 26) (t := 117) dX10_act_26 hd9 (by decide) ?_
    refine x_bipush (pc := 117) dX10_act_117 (by decide) ?_
    exact y_iret (pc := 119) dX10_act_119 rfl ⟨Nat.le_refl _, Nat.le_refl _⟩ h
set_option maxHeartbeats 4000000 in
set_option maxRecDepth 100000 in
theorem b_H_back {G : XG} {S : XS} {I : XI} {v1 : Int} {R : Int → XI → Prop} (hS : xSh S)  (h : Sh_hasRoom G S I (fun r2 I1 => ((w32 (r2) = 0 → R ((-1)) I1) ∧ (¬ (w32 (r2) = 0) → Sh_hasBook G S I1 (v1) (fun r4 I3 => ((w32 (r4) = 0 → R ((-1)) I3) ∧ (¬ (w32 (r4) = 0) → Sh_holder G S I3 (v1) (I c_told 9) (99) (fun r6 I5 => ((w32 (r6) = w32 ((-1)) → R ((-1)) I5) ∧ (¬ (w32 (r6) = w32 ((-1))) → Sh_addAct G S I5 (v1) (2) ((-1)) (I c_told 9) (I c_told 9) (0) (0) (fun r8 I7 => R (r8) I7))))))))))) : H_back G S I v1 R := by
  refine x_start [some (vr G c_obj), some (vi (v1)), none, none] (by decide) (Nat.le_of_ble_eq_true rfl) rfl ?_
  refine x_aload_n (pc := 0) dX10_back_0 rfl rfl ?_
  refine x_getR (pc := 1) (i := c_obj) (a := c_told) fl_X10_12 dX10_back_1 (sN_c_obj hS) (sT_c_obj hS) rfl (sR_c_obj_0 hS) ?_
  refine x_getR (pc := 4) (i := c_told) (a := c_shelf) fl_X10_154 dX10_back_4 (sN_c_told hS) (sT_c_told hS) rfl (sR_c_told_2 hS) ?_
  refine x_astore_n (pc := 7) (L' := [some (vr G c_obj), some (vi (v1)), some (vr G c_shelf), none]) dX10_back_7 rfl (by decide) (xst1 rfl rfl rfl) ?_
  refine x_aload_n (pc := 8) dX10_back_8 rfl rfl ?_
  refine x_getR (pc := 9) (i := c_obj) (a := c_told) fl_X10_12 dX10_back_9 (sN_c_obj hS) (sT_c_obj hS) rfl (sR_c_obj_0 hS) ?_
  refine x_getI (pc := 12) (i := c_told) fl_X10_92 dX10_back_12 (sN_c_told hS) (sT_c_told hS) rfl ?_
  refine x_istore_n (pc := 15) (L' := [some (vr G c_obj), some (vi (v1)), some (vr G c_shelf), some (vi (I c_told 9))]) dX10_back_15 rfl (by decide) (xst1 rfl rfl rfl) ?_
  refine x_aload_n (pc := 16) dX10_back_16 rfl rfl ?_
  refine y_Vi (pc := 17) (i := c_shelf) (As := []) (rest := []) ok_X6_hasRoom ml_X10_164 dX10_back_17 (sN_c_shelf hS) (sT_c_shelf hS) (by decide) rfl rfl rfl ⟨rfl, rfl⟩ ⟨by decide, by decide⟩ ⟨Nat.le_refl _, Nat.le_refl _⟩ (Nat.le_of_ble_eq_true rfl) rfl h (fun r2 I1 h => ?_)
  refine x_if_eq (pc := 20) (t := 43) dX10_back_20 (by decide) (fun e => ?_) (fun e => ?_)
  · have h := h.1 e
    refine x_iconst (pc := 43) dX10_back_43 ?_
    exact y_iret (pc := 44) dX10_back_44 rfl ⟨Nat.le_refl _, Nat.le_refl _⟩ h
  · have h := h.2 e
    refine x_aload_n (pc := 23) dX10_back_23 rfl rfl ?_
    refine x_iload_n (pc := 24) dX10_back_24 rfl rfl ?_
    refine y_Vi (pc := 25) (i := c_shelf) (As := [vi (v1)]) (rest := []) ok_X6_hasBook ml_X10_168 dX10_back_25 (sN_c_shelf hS) (sT_c_shelf hS) (by decide) rfl rfl rfl ⟨rfl, rfl⟩ ⟨by decide, by decide⟩ ⟨Nat.le_refl _, Nat.le_refl _⟩ (Nat.le_of_ble_eq_true rfl) rfl h (fun r4 I3 h => ?_)
    refine x_if_eq (pc := 28) (t := 43) dX10_back_28 (by decide) (fun e => ?_) (fun e => ?_)
    · have h := h.1 e
      refine x_iconst (pc := 43) dX10_back_43 ?_
      exact y_iret (pc := 44) dX10_back_44 rfl ⟨Nat.le_refl _, Nat.le_refl _⟩ h
    · have h := h.2 e
      refine x_aload_n (pc := 31) dX10_back_31 rfl rfl ?_
      refine x_iload_n (pc := 32) dX10_back_32 rfl rfl ?_
      refine x_iload_n (pc := 33) dX10_back_33 rfl rfl ?_
      refine x_bipush (pc := 34) dX10_back_34 (by decide) ?_
      refine y_Vi (pc := 36) (i := c_shelf) (As := [vi (v1), vi (I c_told 9), vi (99)]) (rest := []) ok_X6_holder ml_X10_171 dX10_back_36 (sN_c_shelf hS) (sT_c_shelf hS) (by decide) rfl rfl rfl ⟨rfl, rfl⟩ ⟨by decide, by decide⟩ ⟨Nat.le_refl _, Nat.le_refl _⟩ (Nat.le_of_ble_eq_true rfl) rfl h (fun r6 I5 h => ?_)
      refine x_iconst (pc := 39) dX10_back_39 ?_
      refine x_icmp_ne (pc := 40) (t := 45) dX10_back_40 (by decide) (fun e => ?_) (fun e => ?_)
      · have h := h.1 e
        refine x_iconst (pc := 43) dX10_back_43 ?_
        exact y_iret (pc := 44) dX10_back_44 rfl ⟨Nat.le_refl _, Nat.le_refl _⟩ h
      · have h := h.2 e
        refine x_aload_n (pc := 45) dX10_back_45 rfl rfl ?_
        refine x_iload_n (pc := 46) dX10_back_46 rfl rfl ?_
        refine x_iconst (pc := 47) dX10_back_47 ?_
        refine x_iconst (pc := 48) dX10_back_48 ?_
        refine x_iload_n (pc := 49) dX10_back_49 rfl rfl ?_
        refine x_iload_n (pc := 50) dX10_back_50 rfl rfl ?_
        refine x_iconst (pc := 51) dX10_back_51 ?_
        refine x_iconst (pc := 52) dX10_back_52 ?_
        refine y_Vi (pc := 53) (i := c_shelf) (As := [vi (v1), vi (2), vi ((-1)), vi (I c_told 9), vi (I c_told 9), vi (0), vi (0)]) (rest := []) ok_X6_addAct ml_X10_195 dX10_back_53 (sN_c_shelf hS) (sT_c_shelf hS) (by decide) rfl rfl rfl ⟨rfl, rfl⟩ ⟨by decide, by decide⟩ ⟨Nat.le_refl _, Nat.le_refl _⟩ (Nat.le_of_ble_eq_true rfl) rfl h (fun r8 I7 h => ?_)
        exact y_iret (pc := 56) dX10_back_56 rfl ⟨Nat.le_refl _, Nat.le_refl _⟩ h
set_option maxHeartbeats 4000000 in
set_option maxRecDepth 100000 in
theorem b_H_book {G : XG} {S : XS} {I : XI} {v1 : Int} {v2 : Int} {v3 : Int} {v4 : Int} {v5 : Int} {R : Int → XI → Prop} (hS : xSh S)  (h : H_isIn G S I (v1) (0) (7) (fun r2 I1 => ((w32 (r2) = 0 → R ((-1)) I1) ∧ (¬ (w32 (r2) = 0) → H_isIn G S I1 (v2) (0) (3) (fun r4 I3 => ((w32 (r4) = 0 → R ((-1)) I3) ∧ (¬ (w32 (r4) = 0) → H_isIn G S I3 (v3) (0) (9) (fun r6 I5 => ((w32 (r6) = 0 → R ((-1)) I5) ∧ (¬ (w32 (r6) = 0) → H_isIn G S I5 (v4) (1) (400) (fun r8 I7 => ((w32 (r8) = 0 → R ((-1)) I7) ∧ (¬ (w32 (r8) = 0) → H_isIn G S I7 (v5) (1) (2000) (fun r10 I9 => ((w32 (r10) = 0 → R ((-1)) I9) ∧ (¬ (w32 (r10) = 0) → Sh_addBook G S I9 (v1) (v2) (v3) (v4) (v5) (fun r12 I11 => R (r12) I11))))))))))))))))) : H_book G S I v1 v2 v3 v4 v5 R := by
  refine x_start [some (vr G c_obj), some (vi (v1)), some (vi (v2)), some (vi (v3)), some (vi (v4)), some (vi (v5))] (by decide) (Nat.le_of_ble_eq_true rfl) rfl ?_
  refine x_iload_n (pc := 0) dX10_book_0 rfl rfl ?_
  refine x_iconst (pc := 1) dX10_book_1 ?_
  refine x_bipush (pc := 2) dX10_book_2 (by decide) ?_
  refine y_Si (pc := 4) (As := [vi (v1), vi (0), vi (7)]) (rest := []) ok_X10_isIn ml_X10_77 dX10_book_4 rfl ⟨rfl, rfl⟩ ⟨by decide, by decide⟩ ⟨Nat.le_refl _, Nat.le_refl _⟩ (Nat.le_of_ble_eq_true rfl) rfl h (fun r2 I1 h => ?_)
  refine x_if_eq (pc := 7) (t := 53) dX10_book_7 (by decide) (fun e => ?_) (fun e => ?_)
  · have h := h.1 e
    refine x_iconst (pc := 53) dX10_book_53 ?_
    exact y_iret (pc := 54) dX10_book_54 rfl ⟨Nat.le_refl _, Nat.le_refl _⟩ h
  · have h := h.2 e
    refine x_iload_n (pc := 10) dX10_book_10 rfl rfl ?_
    refine x_iconst (pc := 11) dX10_book_11 ?_
    refine x_iconst (pc := 12) dX10_book_12 ?_
    refine y_Si (pc := 13) (As := [vi (v2), vi (0), vi (3)]) (rest := []) ok_X10_isIn ml_X10_77 dX10_book_13 rfl ⟨rfl, rfl⟩ ⟨by decide, by decide⟩ ⟨Nat.le_refl _, Nat.le_refl _⟩ (Nat.le_of_ble_eq_true rfl) rfl h (fun r4 I3 h => ?_)
    refine x_if_eq (pc := 16) (t := 53) dX10_book_16 (by decide) (fun e => ?_) (fun e => ?_)
    · have h := h.1 e
      refine x_iconst (pc := 53) dX10_book_53 ?_
      exact y_iret (pc := 54) dX10_book_54 rfl ⟨Nat.le_refl _, Nat.le_refl _⟩ h
    · have h := h.2 e
      refine x_iload_n (pc := 19) dX10_book_19 rfl rfl ?_
      refine x_iconst (pc := 20) dX10_book_20 ?_
      refine x_bipush (pc := 21) dX10_book_21 (by decide) ?_
      refine y_Si (pc := 23) (As := [vi (v3), vi (0), vi (9)]) (rest := []) ok_X10_isIn ml_X10_77 dX10_book_23 rfl ⟨rfl, rfl⟩ ⟨by decide, by decide⟩ ⟨Nat.le_refl _, Nat.le_refl _⟩ (Nat.le_of_ble_eq_true rfl) rfl h (fun r6 I5 h => ?_)
      refine x_if_eq (pc := 26) (t := 53) dX10_book_26 (by decide) (fun e => ?_) (fun e => ?_)
      · have h := h.1 e
        refine x_iconst (pc := 53) dX10_book_53 ?_
        exact y_iret (pc := 54) dX10_book_54 rfl ⟨Nat.le_refl _, Nat.le_refl _⟩ h
      · have h := h.2 e
        refine x_iload (pc := 29) dX10_book_29 rfl ?_
        refine x_iconst (pc := 31) dX10_book_31 ?_
        refine x_sipush (pc := 32) dX10_book_32 (by decide) ?_
        refine y_Si (pc := 35) (As := [vi (v4), vi (1), vi (400)]) (rest := []) ok_X10_isIn ml_X10_77 dX10_book_35 rfl ⟨rfl, rfl⟩ ⟨by decide, by decide⟩ ⟨Nat.le_refl _, Nat.le_refl _⟩ (Nat.le_of_ble_eq_true rfl) rfl h (fun r8 I7 h => ?_)
        refine x_if_eq (pc := 38) (t := 53) dX10_book_38 (by decide) (fun e => ?_) (fun e => ?_)
        · have h := h.1 e
          refine x_iconst (pc := 53) dX10_book_53 ?_
          exact y_iret (pc := 54) dX10_book_54 rfl ⟨Nat.le_refl _, Nat.le_refl _⟩ h
        · have h := h.2 e
          refine x_iload (pc := 41) dX10_book_41 rfl ?_
          refine x_iconst (pc := 43) dX10_book_43 ?_
          refine x_sipush (pc := 44) dX10_book_44 (by decide) ?_
          refine y_Si (pc := 47) (As := [vi (v5), vi (1), vi (2000)]) (rest := []) ok_X10_isIn ml_X10_77 dX10_book_47 rfl ⟨rfl, rfl⟩ ⟨by decide, by decide⟩ ⟨Nat.le_refl _, Nat.le_refl _⟩ (Nat.le_of_ble_eq_true rfl) rfl h (fun r10 I9 h => ?_)
          refine x_if_ne (pc := 50) (t := 55) dX10_book_50 (by decide) (fun e => ?_) (fun e => ?_)
          · have h := h.1 e
            refine x_iconst (pc := 53) dX10_book_53 ?_
            exact y_iret (pc := 54) dX10_book_54 rfl ⟨Nat.le_refl _, Nat.le_refl _⟩ h
          · have h := h.2 e
            refine x_aload_n (pc := 55) dX10_book_55 rfl rfl ?_
            refine x_getR (pc := 56) (i := c_obj) (a := c_told) fl_X10_12 dX10_book_56 (sN_c_obj hS) (sT_c_obj hS) rfl (sR_c_obj_0 hS) ?_
            refine x_getR (pc := 59) (i := c_told) (a := c_shelf) fl_X10_154 dX10_book_59 (sN_c_told hS) (sT_c_told hS) rfl (sR_c_told_2 hS) ?_
            refine x_iload_n (pc := 62) dX10_book_62 rfl rfl ?_
            refine x_iload_n (pc := 63) dX10_book_63 rfl rfl ?_
            refine x_iload_n (pc := 64) dX10_book_64 rfl rfl ?_
            refine x_iload (pc := 65) dX10_book_65 rfl ?_
            refine x_iload (pc := 67) dX10_book_67 rfl ?_
            refine y_Vi (pc := 69) (i := c_shelf) (As := [vi (v1), vi (v2), vi (v3), vi (v4), vi (v5)]) (rest := []) ok_X6_addBook ml_X10_158 dX10_book_69 (sN_c_shelf hS) (sT_c_shelf hS) (by decide) rfl rfl rfl ⟨rfl, rfl⟩ ⟨by decide, by decide⟩ ⟨Nat.le_refl _, Nat.le_refl _⟩ (Nat.le_of_ble_eq_true rfl) rfl h (fun r12 I11 h => ?_)
            exact y_iret (pc := 72) dX10_book_72 rfl ⟨Nat.le_refl _, Nat.le_refl _⟩ h
set_option maxHeartbeats 4000000 in
set_option maxRecDepth 100000 in
theorem b_H_camp {G : XG} {S : XS} {I : XI} {v1 : Int} {v2 : Int} {R : Int → XI → Prop} (hS : xSh S)  (h : La_hasCell G S I (v1) (fun r2 I1 => ((w32 (r2) = 0 → R ((-1)) I1) ∧ (¬ (w32 (r2) = 0) → H_isIn G S I1 (v2) (0) (3) (fun r4 I3 => ((w32 (r4) = 0 → R ((-1)) I3) ∧ (¬ (w32 (r4) = 0) → H_forgetParts G S I3 (fun I5 => He_addCamp G S I5 (v1) (v2) (I5 c_told 9) (fun r7 I6 => R (r7) I6))))))))) : H_camp G S I v1 v2 R := by
  refine x_start [some (vr G c_obj), some (vi (v1)), some (vi (v2))] (by decide) (Nat.le_of_ble_eq_true rfl) rfl ?_
  refine x_aload_n (pc := 0) dX10_camp_0 rfl rfl ?_
  refine x_getR (pc := 1) (i := c_obj) (a := c_told) fl_X10_12 dX10_camp_1 (sN_c_obj hS) (sT_c_obj hS) rfl (sR_c_obj_0 hS) ?_
  refine x_getR (pc := 4) (i := c_told) (a := c_land) fl_X10_60 dX10_camp_4 (sN_c_told hS) (sT_c_told hS) rfl (sR_c_told_0 hS) ?_
  refine x_iload_n (pc := 7) dX10_camp_7 rfl rfl ?_
  refine y_Vi (pc := 8) (i := c_land) (As := [vi (v1)]) (rest := []) ok_X2_hasCell ml_X10_73 dX10_camp_8 (sN_c_land hS) (sT_c_land hS) (by decide) rfl rfl rfl ⟨rfl, rfl⟩ ⟨by decide, by decide⟩ ⟨Nat.le_refl _, Nat.le_refl _⟩ (Nat.le_of_ble_eq_true rfl) rfl h (fun r2 I1 h => ?_)
  refine x_if_eq (pc := 11) (t := 23) dX10_camp_11 (by decide) (fun e => ?_) (fun e => ?_)
  · have h := h.1 e
    refine x_iconst (pc := 23) dX10_camp_23 ?_
    exact y_iret (pc := 24) dX10_camp_24 rfl ⟨Nat.le_refl _, Nat.le_refl _⟩ h
  · have h := h.2 e
    refine x_iload_n (pc := 14) dX10_camp_14 rfl rfl ?_
    refine x_iconst (pc := 15) dX10_camp_15 ?_
    refine x_iconst (pc := 16) dX10_camp_16 ?_
    refine y_Si (pc := 17) (As := [vi (v2), vi (0), vi (3)]) (rest := []) ok_X10_isIn ml_X10_77 dX10_camp_17 rfl ⟨rfl, rfl⟩ ⟨by decide, by decide⟩ ⟨Nat.le_refl _, Nat.le_refl _⟩ (Nat.le_of_ble_eq_true rfl) rfl h (fun r4 I3 h => ?_)
    refine x_if_ne (pc := 20) (t := 25) dX10_camp_20 (by decide) (fun e => ?_) (fun e => ?_)
    · have h := h.1 e
      refine x_iconst (pc := 23) dX10_camp_23 ?_
      exact y_iret (pc := 24) dX10_camp_24 rfl ⟨Nat.le_refl _, Nat.le_refl _⟩ h
    · have h := h.2 e
      refine x_aload_n (pc := 25) dX10_camp_25 rfl rfl ?_
      refine y_Vv (pc := 26) (i := c_obj) (As := []) (rest := []) ok_X10_forgetParts ml_X10_85 dX10_camp_26 (sN_c_obj hS) (sT_c_obj hS) (by decide) rfl rfl rfl ⟨rfl, rfl⟩ ⟨by decide, by decide⟩ ⟨Nat.le_refl _, Nat.le_refl _⟩ (Nat.le_of_ble_eq_true rfl) rfl h (fun I5 h => ?_)
      refine x_aload_n (pc := 29) dX10_camp_29 rfl rfl ?_
      refine x_getR (pc := 30) (i := c_obj) (a := c_told) fl_X10_12 dX10_camp_30 (sN_c_obj hS) (sT_c_obj hS) rfl (sR_c_obj_0 hS) ?_
      refine x_getR (pc := 33) (i := c_told) (a := c_herds) fl_X10_88 dX10_camp_33 (sN_c_told hS) (sT_c_told hS) rfl (sR_c_told_1 hS) ?_
      refine x_iload_n (pc := 36) dX10_camp_36 rfl rfl ?_
      refine x_iload_n (pc := 37) dX10_camp_37 rfl rfl ?_
      refine x_aload_n (pc := 38) dX10_camp_38 rfl rfl ?_
      refine x_getR (pc := 39) (i := c_obj) (a := c_told) fl_X10_12 dX10_camp_39 (sN_c_obj hS) (sT_c_obj hS) rfl (sR_c_obj_0 hS) ?_
      refine x_getI (pc := 42) (i := c_told) fl_X10_92 dX10_camp_42 (sN_c_told hS) (sT_c_told hS) rfl ?_
      refine y_Vi (pc := 45) (i := c_herds) (As := [vi (v1), vi (v2), vi (I5 c_told 9)]) (rest := []) ok_X1_addCamp ml_X10_96 dX10_camp_45 (sN_c_herds hS) (sT_c_herds hS) (by decide) rfl rfl rfl ⟨rfl, rfl⟩ ⟨by decide, by decide⟩ ⟨Nat.le_refl _, Nat.le_refl _⟩ (Nat.le_of_ble_eq_true rfl) rfl h (fun r7 I6 h => ?_)
      exact y_iret (pc := 48) dX10_camp_48 rfl ⟨Nat.le_refl _, Nat.le_refl _⟩ h
set_option maxHeartbeats 4000000 in
set_option maxRecDepth 100000 in
theorem b_H_cell {G : XG} {S : XS} {I : XI} {v1 : Int} {R : Int → XI → Prop} (hS : xSh S)  (h : La_addCell G S I (v1) (fun r2 I1 => H_forgetWays G S I1 (fun I3 => R (r2) I3))) : H_cell G S I v1 R := by
  refine x_start [some (vr G c_obj), some (vi (v1)), none] (by decide) (Nat.le_of_ble_eq_true rfl) rfl ?_
  refine x_aload_n (pc := 0) dX10_cell_0 rfl rfl ?_
  refine x_getR (pc := 1) (i := c_obj) (a := c_told) fl_X10_12 dX10_cell_1 (sN_c_obj hS) (sT_c_obj hS) rfl (sR_c_obj_0 hS) ?_
  refine x_getR (pc := 4) (i := c_told) (a := c_land) fl_X10_60 dX10_cell_4 (sN_c_told hS) (sT_c_told hS) rfl (sR_c_told_0 hS) ?_
  refine x_iload_n (pc := 7) dX10_cell_7 rfl rfl ?_
  refine y_Vi (pc := 8) (i := c_land) (As := [vi (v1)]) (rest := []) ok_X2_addCell ml_X10_64 dX10_cell_8 (sN_c_land hS) (sT_c_land hS) (by decide) rfl rfl rfl ⟨rfl, rfl⟩ ⟨by decide, by decide⟩ ⟨Nat.le_refl _, Nat.le_refl _⟩ (Nat.le_of_ble_eq_true rfl) rfl h (fun r2 I1 h => ?_)
  refine x_istore_n (pc := 11) (L' := [some (vr G c_obj), some (vi (v1)), some (vi (r2))]) dX10_cell_11 rfl (by decide) (xst1 rfl rfl rfl) ?_
  refine x_aload_n (pc := 12) dX10_cell_12 rfl rfl ?_
  refine y_Vv (pc := 13) (i := c_obj) (As := []) (rest := []) ok_X10_forgetWays ml_X10_70 dX10_cell_13 (sN_c_obj hS) (sT_c_obj hS) (by decide) rfl rfl rfl ⟨rfl, rfl⟩ ⟨by decide, by decide⟩ ⟨Nat.le_refl _, Nat.le_refl _⟩ (Nat.le_of_ble_eq_true rfl) rfl h (fun I3 h => ?_)
  refine x_iload_n (pc := 16) dX10_cell_16 rfl rfl ?_
  exact y_iret (pc := 17) dX10_cell_17 rfl ⟨Nat.le_refl _, Nat.le_refl _⟩ h
set_option maxHeartbeats 4000000 in
set_option maxRecDepth 100000 in
theorem b_H_count {G : XG} {S : XS} {I : XI} {v1 : Int} {R : Int → XI → Prop} (hS : xSh S)  (h : ((w32 (v1) = 0 → R (I c_land 0) I) ∧ (w32 (v1) = 1 → R (I c_herds 0) I) ∧ (w32 (v1) = 2 → R (I c_shelf 0) I) ∧ (w32 (v1) = 3 → R (I c_herds 5) I) ∧ (w32 (v1) = 4 → R (I c_shelf 6) I) ∧ (w32 (v1) = 5 → R (I c_readers 0) I) ∧ (w32 (v1) = 6 → R (I c_told 9) I) ∧ (w32 (v1) = 7 → R (I c_told 10) I) ∧ (w32 (v1) = 8 → R (I c_rules 0) I) ∧ (w32 (v1) = 9 → H_limit G S I (fun r2 I1 => Sh_heldByAll G S I1 (I c_told 9) (r2) (fun r4 I3 => R (r4) I3))) ∧ (w32 (v1) = 10 → H_limit G S I (fun r6 I5 => H_countUpTo G S I5 (I c_herds 5) (r6) (fun r8 I7 => R (r8) I7))) ∧ (w32 (v1) = 11 → H_limit G S I (fun r10 I9 => H_countUpTo2 G S I9 (I c_shelf 6) (r10) (fun r12 I11 => R (r12) I11))) ∧ ((w32 (v1) < 0 ∨ 11 < w32 (v1)) → R ((-2)) I))) : H_count G S I v1 R := by
  refine x_start [some (vr G c_obj), some (vi (v1))] (by decide) (Nat.le_of_ble_eq_true rfl) rfl ?_
  refine x_iload_n (pc := 0) dX10_count_0 rfl rfl ?_
  by_cases e0 : w32 (v1) = 0
  · have h := h.1 e0
    refine x_tabIn (pc := 1) (off := 63) (t := 64) dX10_count_1 0 e0 (by decide) (by decide) rfl (by decide) ?_
    refine x_aload_n (pc := 64) dX10_count_64 rfl rfl ?_
    refine x_getR (pc := 65) (i := c_obj) (a := c_told) fl_X10_12 dX10_count_65 (sN_c_obj hS) (sT_c_obj hS) rfl (sR_c_obj_0 hS) ?_
    refine x_getR (pc := 68) (i := c_told) (a := c_land) fl_X10_60 dX10_count_68 (sN_c_told hS) (sT_c_told hS) rfl (sR_c_told_0 hS) ?_
    refine x_getI (pc := 71) (i := c_land) fl_X10_347 dX10_count_71 (sN_c_land hS) (sT_c_land hS) rfl ?_
    exact y_iret (pc := 74) dX10_count_74 rfl ⟨Nat.le_refl _, Nat.le_refl _⟩ h
  by_cases e1 : w32 (v1) = 1
  · have h := h.2.1 e1
    refine x_tabIn (pc := 1) (off := 74) (t := 75) dX10_count_1 1 e1 (by decide) (by decide) rfl (by decide) ?_
    refine x_aload_n (pc := 75) dX10_count_75 rfl rfl ?_
    refine x_getR (pc := 76) (i := c_obj) (a := c_told) fl_X10_12 dX10_count_76 (sN_c_obj hS) (sT_c_obj hS) rfl (sR_c_obj_0 hS) ?_
    refine x_getR (pc := 79) (i := c_told) (a := c_herds) fl_X10_88 dX10_count_79 (sN_c_told hS) (sT_c_told hS) rfl (sR_c_told_1 hS) ?_
    refine x_getI (pc := 82) (i := c_herds) fl_X10_354 dX10_count_82 (sN_c_herds hS) (sT_c_herds hS) rfl ?_
    exact y_iret (pc := 85) dX10_count_85 rfl ⟨Nat.le_refl _, Nat.le_refl _⟩ h
  by_cases e2 : w32 (v1) = 2
  · have h := h.2.2.1 e2
    refine x_tabIn (pc := 1) (off := 85) (t := 86) dX10_count_1 2 e2 (by decide) (by decide) rfl (by decide) ?_
    refine x_aload_n (pc := 86) dX10_count_86 rfl rfl ?_
    refine x_getR (pc := 87) (i := c_obj) (a := c_told) fl_X10_12 dX10_count_87 (sN_c_obj hS) (sT_c_obj hS) rfl (sR_c_obj_0 hS) ?_
    refine x_getR (pc := 90) (i := c_told) (a := c_shelf) fl_X10_154 dX10_count_90 (sN_c_told hS) (sT_c_told hS) rfl (sR_c_told_2 hS) ?_
    refine x_getI (pc := 93) (i := c_shelf) fl_X10_356 dX10_count_93 (sN_c_shelf hS) (sT_c_shelf hS) rfl ?_
    exact y_iret (pc := 96) dX10_count_96 rfl ⟨Nat.le_refl _, Nat.le_refl _⟩ h
  by_cases e3 : w32 (v1) = 3
  · have h := h.2.2.2.1 e3
    refine x_tabIn (pc := 1) (off := 96) (t := 97) dX10_count_1 3 e3 (by decide) (by decide) rfl (by decide) ?_
    refine x_aload_n (pc := 97) dX10_count_97 rfl rfl ?_
    refine x_getR (pc := 98) (i := c_obj) (a := c_told) fl_X10_12 dX10_count_98 (sN_c_obj hS) (sT_c_obj hS) rfl (sR_c_obj_0 hS) ?_
    refine x_getR (pc := 101) (i := c_told) (a := c_herds) fl_X10_88 dX10_count_101 (sN_c_told hS) (sT_c_told hS) rfl (sR_c_told_1 hS) ?_
    refine x_getI (pc := 104) (i := c_herds) fl_X10_358 dX10_count_104 (sN_c_herds hS) (sT_c_herds hS) rfl ?_
    exact y_iret (pc := 107) dX10_count_107 rfl ⟨Nat.le_refl _, Nat.le_refl _⟩ h
  by_cases e4 : w32 (v1) = 4
  · have h := h.2.2.2.2.1 e4
    refine x_tabIn (pc := 1) (off := 107) (t := 108) dX10_count_1 4 e4 (by decide) (by decide) rfl (by decide) ?_
    refine x_aload_n (pc := 108) dX10_count_108 rfl rfl ?_
    refine x_getR (pc := 109) (i := c_obj) (a := c_told) fl_X10_12 dX10_count_109 (sN_c_obj hS) (sT_c_obj hS) rfl (sR_c_obj_0 hS) ?_
    refine x_getR (pc := 112) (i := c_told) (a := c_shelf) fl_X10_154 dX10_count_112 (sN_c_told hS) (sT_c_told hS) rfl (sR_c_told_2 hS) ?_
    refine x_getI (pc := 115) (i := c_shelf) fl_X10_202 dX10_count_115 (sN_c_shelf hS) (sT_c_shelf hS) rfl ?_
    exact y_iret (pc := 118) dX10_count_118 rfl ⟨Nat.le_refl _, Nat.le_refl _⟩ h
  by_cases e5 : w32 (v1) = 5
  · have h := h.2.2.2.2.2.1 e5
    refine x_tabIn (pc := 1) (off := 118) (t := 119) dX10_count_1 5 e5 (by decide) (by decide) rfl (by decide) ?_
    refine x_aload_n (pc := 119) dX10_count_119 rfl rfl ?_
    refine x_getR (pc := 120) (i := c_obj) (a := c_told) fl_X10_12 dX10_count_120 (sN_c_obj hS) (sT_c_obj hS) rfl (sR_c_obj_0 hS) ?_
    refine x_getR (pc := 123) (i := c_told) (a := c_readers) fl_X10_310 dX10_count_123 (sN_c_told hS) (sT_c_told hS) rfl (sR_c_told_4 hS) ?_
    refine x_getI (pc := 126) (i := c_readers) fl_X10_361 dX10_count_126 (sN_c_readers hS) (sT_c_readers hS) rfl ?_
    exact y_iret (pc := 129) dX10_count_129 rfl ⟨Nat.le_refl _, Nat.le_refl _⟩ h
  by_cases e6 : w32 (v1) = 6
  · have h := h.2.2.2.2.2.2.1 e6
    refine x_tabIn (pc := 1) (off := 129) (t := 130) dX10_count_1 6 e6 (by decide) (by decide) rfl (by decide) ?_
    refine x_aload_n (pc := 130) dX10_count_130 rfl rfl ?_
    refine x_getR (pc := 131) (i := c_obj) (a := c_told) fl_X10_12 dX10_count_131 (sN_c_obj hS) (sT_c_obj hS) rfl (sR_c_obj_0 hS) ?_
    refine x_getI (pc := 134) (i := c_told) fl_X10_92 dX10_count_134 (sN_c_told hS) (sT_c_told hS) rfl ?_
    exact y_iret (pc := 137) dX10_count_137 rfl ⟨Nat.le_refl _, Nat.le_refl _⟩ h
  by_cases e7 : w32 (v1) = 7
  · have h := h.2.2.2.2.2.2.2.1 e7
    refine x_tabIn (pc := 1) (off := 137) (t := 138) dX10_count_1 7 e7 (by decide) (by decide) rfl (by decide) ?_
    refine x_aload_n (pc := 138) dX10_count_138 rfl rfl ?_
    refine x_getR (pc := 139) (i := c_obj) (a := c_told) fl_X10_12 dX10_count_139 (sN_c_obj hS) (sT_c_obj hS) rfl (sR_c_obj_0 hS) ?_
    refine x_getI (pc := 142) (i := c_told) fl_X10_115 dX10_count_142 (sN_c_told hS) (sT_c_told hS) rfl ?_
    exact y_iret (pc := 145) dX10_count_145 rfl ⟨Nat.le_refl _, Nat.le_refl _⟩ h
  by_cases e8 : w32 (v1) = 8
  · have h := h.2.2.2.2.2.2.2.2.1 e8
    refine x_tabIn (pc := 1) (off := 145) (t := 146) dX10_count_1 8 e8 (by decide) (by decide) rfl (by decide) ?_
    refine x_aload_n (pc := 146) dX10_count_146 rfl rfl ?_
    refine x_getR (pc := 147) (i := c_obj) (a := c_told) fl_X10_12 dX10_count_147 (sN_c_obj hS) (sT_c_obj hS) rfl (sR_c_obj_0 hS) ?_
    refine x_getR (pc := 150) (i := c_told) (a := c_rules) fl_X10_181 dX10_count_150 (sN_c_told hS) (sT_c_told hS) rfl (sR_c_told_3 hS) ?_
    refine x_getI (pc := 153) (i := c_rules) fl_X10_275 dX10_count_153 (sN_c_rules hS) (sT_c_rules hS) rfl ?_
    exact y_iret (pc := 156) dX10_count_156 rfl ⟨Nat.le_refl _, Nat.le_refl _⟩ h
  by_cases e9 : w32 (v1) = 9
  · have h := h.2.2.2.2.2.2.2.2.2.1 e9
    refine x_tabIn (pc := 1) (off := 156) (t := 157) dX10_count_1 9 e9 (by decide) (by decide) rfl (by decide) ?_
    refine x_aload_n (pc := 157) dX10_count_157 rfl rfl ?_
    refine x_getR (pc := 158) (i := c_obj) (a := c_told) fl_X10_12 dX10_count_158 (sN_c_obj hS) (sT_c_obj hS) rfl (sR_c_obj_0 hS) ?_
    refine x_getR (pc := 161) (i := c_told) (a := c_shelf) fl_X10_154 dX10_count_161 (sN_c_told hS) (sT_c_told hS) rfl (sR_c_told_2 hS) ?_
    refine x_aload_n (pc := 164) dX10_count_164 rfl rfl ?_
    refine x_getR (pc := 165) (i := c_obj) (a := c_told) fl_X10_12 dX10_count_165 (sN_c_obj hS) (sT_c_obj hS) rfl (sR_c_obj_0 hS) ?_
    refine x_getI (pc := 168) (i := c_told) fl_X10_92 dX10_count_168 (sN_c_told hS) (sT_c_told hS) rfl ?_
    refine x_aload_n (pc := 171) dX10_count_171 rfl rfl ?_
    refine y_Vi (pc := 172) (i := c_obj) (As := []) (rest := [vi (I c_told 9), vr G c_shelf]) ok_X10_limit ml_X10_132 dX10_count_172 (sN_c_obj hS) (sT_c_obj hS) (by decide) rfl rfl rfl ⟨rfl, rfl⟩ ⟨by decide, by decide⟩ ⟨Nat.le_refl _, Nat.le_refl _⟩ (Nat.le_of_ble_eq_true rfl) rfl h (fun r2 I1 h => ?_)
    refine y_Vi (pc := 175) (i := c_shelf) (As := [vi (I c_told 9), vi (r2)]) (rest := []) ok_X6_heldByAll ml_X10_363 dX10_count_175 (sN_c_shelf hS) (sT_c_shelf hS) (by decide) rfl rfl rfl ⟨rfl, rfl⟩ ⟨by decide, by decide⟩ ⟨Nat.le_refl _, Nat.le_refl _⟩ (Nat.le_of_ble_eq_true rfl) rfl h (fun r4 I3 h => ?_)
    exact y_iret (pc := 178) dX10_count_178 rfl ⟨Nat.le_refl _, Nat.le_refl _⟩ h
  by_cases e10 : w32 (v1) = 10
  · have h := h.2.2.2.2.2.2.2.2.2.2.1 e10
    refine x_tabIn (pc := 1) (off := 178) (t := 179) dX10_count_1 10 e10 (by decide) (by decide) rfl (by decide) ?_
    refine x_aload_n (pc := 179) dX10_count_179 rfl rfl ?_
    refine x_getR (pc := 180) (i := c_obj) (a := c_told) fl_X10_12 dX10_count_180 (sN_c_obj hS) (sT_c_obj hS) rfl (sR_c_obj_0 hS) ?_
    refine x_getR (pc := 183) (i := c_told) (a := c_herds) fl_X10_88 dX10_count_183 (sN_c_told hS) (sT_c_told hS) rfl (sR_c_told_1 hS) ?_
    refine x_getR (pc := 186) (i := c_herds) (a := c_herds_newsTold) fl_X10_367 dX10_count_186 (sN_c_herds hS) (sT_c_herds hS) rfl (sR_c_herds_10 hS) ?_
    refine x_aload_n (pc := 189) dX10_count_189 rfl rfl ?_
    refine x_getR (pc := 190) (i := c_obj) (a := c_told) fl_X10_12 dX10_count_190 (sN_c_obj hS) (sT_c_obj hS) rfl (sR_c_obj_0 hS) ?_
    refine x_getR (pc := 193) (i := c_told) (a := c_herds) fl_X10_88 dX10_count_193 (sN_c_told hS) (sT_c_told hS) rfl (sR_c_told_1 hS) ?_
    refine x_getI (pc := 196) (i := c_herds) fl_X10_358 dX10_count_196 (sN_c_herds hS) (sT_c_herds hS) rfl ?_
    refine x_aload_n (pc := 199) dX10_count_199 rfl rfl ?_
    refine y_Vi (pc := 200) (i := c_obj) (As := []) (rest := [vi (I c_herds 5), vr G c_herds_newsTold]) ok_X10_limit ml_X10_132 dX10_count_200 (sN_c_obj hS) (sT_c_obj hS) (by decide) rfl rfl rfl ⟨rfl, rfl⟩ ⟨by decide, by decide⟩ ⟨Nat.le_refl _, Nat.le_refl _⟩ (Nat.le_of_ble_eq_true rfl) rfl h (fun r6 I5 h => ?_)
    refine y_Si (pc := 203) (As := [vr G c_herds_newsTold, vi (I c_herds 5), vi (r6)]) (rest := []) ok_X10_countUpTo ml_X10_370 dX10_count_203 rfl ⟨rfl, rfl⟩ ⟨by decide, by decide⟩ ⟨Nat.le_refl _, Nat.le_refl _⟩ (Nat.le_of_ble_eq_true rfl) rfl h (fun r8 I7 h => ?_)
    exact y_iret (pc := 206) dX10_count_206 rfl ⟨Nat.le_refl _, Nat.le_refl _⟩ h
  by_cases e11 : w32 (v1) = 11
  · have h := h.2.2.2.2.2.2.2.2.2.2.2.1 e11
    refine x_tabIn (pc := 1) (off := 206) (t := 207) dX10_count_1 11 e11 (by decide) (by decide) rfl (by decide) ?_
    refine x_aload_n (pc := 207) dX10_count_207 rfl rfl ?_
    refine x_getR (pc := 208) (i := c_obj) (a := c_told) fl_X10_12 dX10_count_208 (sN_c_obj hS) (sT_c_obj hS) rfl (sR_c_obj_0 hS) ?_
    refine x_getR (pc := 211) (i := c_told) (a := c_shelf) fl_X10_154 dX10_count_211 (sN_c_told hS) (sT_c_told hS) rfl (sR_c_told_2 hS) ?_
    refine x_getR (pc := 214) (i := c_shelf) (a := c_shelf_actTold) fl_X10_217 dX10_count_214 (sN_c_shelf hS) (sT_c_shelf hS) rfl (sR_c_shelf_11 hS) ?_
    refine x_aload_n (pc := 217) dX10_count_217 rfl rfl ?_
    refine x_getR (pc := 218) (i := c_obj) (a := c_told) fl_X10_12 dX10_count_218 (sN_c_obj hS) (sT_c_obj hS) rfl (sR_c_obj_0 hS) ?_
    refine x_getR (pc := 221) (i := c_told) (a := c_shelf) fl_X10_154 dX10_count_221 (sN_c_told hS) (sT_c_told hS) rfl (sR_c_told_2 hS) ?_
    refine x_getI (pc := 224) (i := c_shelf) fl_X10_202 dX10_count_224 (sN_c_shelf hS) (sT_c_shelf hS) rfl ?_
    refine x_aload_n (pc := 227) dX10_count_227 rfl rfl ?_
    refine y_Vi (pc := 228) (i := c_obj) (As := []) (rest := [vi (I c_shelf 6), vr G c_shelf_actTold]) ok_X10_limit ml_X10_132 dX10_count_228 (sN_c_obj hS) (sT_c_obj hS) (by decide) rfl rfl rfl ⟨rfl, rfl⟩ ⟨by decide, by decide⟩ ⟨Nat.le_refl _, Nat.le_refl _⟩ (Nat.le_of_ble_eq_true rfl) rfl h (fun r10 I9 h => ?_)
    refine y_Si (pc := 231) (As := [vr G c_shelf_actTold, vi (I c_shelf 6), vi (r10)]) (rest := []) ok_X10_countUpTo ml_X10_370 dX10_count_231 rfl ⟨rfl, rfl⟩ ⟨by decide, by decide⟩ ⟨Nat.le_refl _, Nat.le_refl _⟩ (Nat.le_of_ble_eq_true rfl) rfl h (fun r12 I11 h => ?_)
    exact y_iret (pc := 234) dX10_count_234 rfl ⟨Nat.le_refl _, Nat.le_refl _⟩ h
  have hd9 : w32 (v1) < 0 ∨ 11 < w32 (v1) := by omega
  have h := h.2.2.2.2.2.2.2.2.2.2.2.2 hd9
  refine x_tabOut (pc := 1) (t := 235) dX10_count_1 hd9 (by decide) ?_
  refine x_bipush (pc := 235) dX10_count_235 (by decide) ?_
  exact y_iret (pc := 237) dX10_count_237 rfl ⟨Nat.le_refl _, Nat.le_refl _⟩ h
set_option maxHeartbeats 4000000 in
set_option maxRecDepth 100000 in
theorem b_H_dry {G : XG} {S : XS} {I : XI} {v1 : Int} {v2 : Int} {R : Int → XI → Prop} (hS : xSh S)  (h : ((w32 (v2) = 0 → H_dry_k9 G S I (v1) (0) R) ∧ (¬ (w32 (v2) = 0) → H_dry_k9 G S I (v1) (1) R))) : H_dry G S I v1 v2 R := by
  refine x_start [some (vr G c_obj), some (vi (v1)), some (vi (v2)), none] (by decide) (Nat.le_of_ble_eq_true rfl) rfl ?_
  refine x_iload_n (pc := 0) dX10_dry_0 rfl rfl ?_
  refine x_if_eq (pc := 1) (t := 8) dX10_dry_1 (by decide) (fun e => ?_) (fun e => ?_)
  · have h := h.1 e
    refine x_iconst (pc := 8) dX10_dry_8 ?_
    refine x_less (L' := [some (vr G c_obj), some (vi (v1)), none, none]) (And.intro rfl (And.intro rfl trivial)) ?_
    exact h
  · have h := h.2 e
    refine x_iconst (pc := 4) dX10_dry_4 ?_
    refine x_goto (pc := 5) (t := 9) dX10_dry_5 (by decide) ?_
    refine x_less (L' := [some (vr G c_obj), some (vi (v1)), none, none]) (And.intro rfl (And.intro rfl trivial)) ?_
    exact h
set_option maxHeartbeats 4000000 in
set_option maxRecDepth 100000 in
theorem b_H_dry_k9 {G : XG} {S : XS}  {I : XI} {v1 : Int} {s0 : Int} {R : Int → XI → Prop} (hS : xSh S)  (h : H_isWeek G S I (v1) (fun r2 I1 => ((w32 (r2) = 0 → R (0) I1) ∧ (¬ (w32 (r2) = 0) → (inb (v1) 100 ∧ ((w32 (I1 c_land_dry (ix (v1))) = w32 (s0) → R (0) I1) ∧ (¬ (w32 (I1 c_land_dry (ix (v1))) = w32 (s0)) → (inb (v1) 100 ∧ (∀ I3 : XI, I3 = up I1 c_land_dry (ix (v1)) (s0) → R (1) I3))))))))) : H_dry_k9 G S  I v1 s0 R := by
  unfold H_dry_k9
  refine x_istore_n (pc := 9) (L' := [some (vr G c_obj), some (vi (v1)), none, some (vi (s0))]) dX10_dry_9 rfl (by decide) (xst1 rfl rfl trivial) ?_
  refine x_iload_n (pc := 10) dX10_dry_10 rfl rfl ?_
  refine y_Si (pc := 11) (As := [vi (v1)]) (rest := []) ok_X10_isWeek ml_X10_102 dX10_dry_11 rfl ⟨rfl, rfl⟩ ⟨by decide, by decide⟩ ⟨Nat.le_refl _, Nat.le_refl _⟩ (Nat.le_of_ble_eq_true rfl) rfl h (fun r2 I1 h => ?_)
  refine x_if_eq (pc := 14) (t := 33) dX10_dry_14 (by decide) (fun e => ?_) (fun e => ?_)
  · have h := h.1 e
    refine x_iconst (pc := 33) dX10_dry_33 ?_
    exact y_zret (pc := 34) dX10_dry_34 rfl ⟨Nat.le_refl _, Nat.le_refl _⟩ (Or.inl rfl) h
  · have h := h.2 e
    refine x_aload_n (pc := 17) dX10_dry_17 rfl rfl ?_
    refine x_getR (pc := 18) (i := c_obj) (a := c_told) fl_X10_12 dX10_dry_18 (sN_c_obj hS) (sT_c_obj hS) rfl (sR_c_obj_0 hS) ?_
    refine x_getR (pc := 21) (i := c_told) (a := c_land) fl_X10_60 dX10_dry_21 (sN_c_told hS) (sT_c_told hS) rfl (sR_c_told_0 hS) ?_
    refine x_getR (pc := 24) (i := c_land) (a := c_land_dry) fl_X10_109 dX10_dry_24 (sN_c_land hS) (sT_c_land hS) rfl (sR_c_land_8 hS) ?_
    refine x_iload_n (pc := 27) dX10_dry_27 rfl rfl ?_
    refine y_iald (pc := 28) (i := c_land_dry) (n := 100) dX10_dry_28 (sN_c_land_dry hS) (sT_c_land_dry hS) (sL_c_land_dry hS) h.1 ?_
    have h := h.2
    refine x_iload_n (pc := 29) dX10_dry_29 rfl rfl ?_
    refine x_icmp_ne (pc := 30) (t := 35) dX10_dry_30 (by decide) (fun e => ?_) (fun e => ?_)
    · have h := h.1 e
      refine x_iconst (pc := 33) dX10_dry_33 ?_
      exact y_zret (pc := 34) dX10_dry_34 rfl ⟨Nat.le_refl _, Nat.le_refl _⟩ (Or.inl rfl) h
    · have h := h.2 e
      refine x_aload_n (pc := 35) dX10_dry_35 rfl rfl ?_
      refine x_getR (pc := 36) (i := c_obj) (a := c_told) fl_X10_12 dX10_dry_36 (sN_c_obj hS) (sT_c_obj hS) rfl (sR_c_obj_0 hS) ?_
      refine x_getR (pc := 39) (i := c_told) (a := c_land) fl_X10_60 dX10_dry_39 (sN_c_told hS) (sT_c_told hS) rfl (sR_c_told_0 hS) ?_
      refine x_getR (pc := 42) (i := c_land) (a := c_land_dry) fl_X10_109 dX10_dry_42 (sN_c_land hS) (sT_c_land hS) rfl (sR_c_land_8 hS) ?_
      refine x_iload_n (pc := 45) dX10_dry_45 rfl rfl ?_
      refine x_iload_n (pc := 46) dX10_dry_46 rfl rfl ?_
      refine y_iast (pc := 47) (i := c_land_dry) (n := 100) dX10_dry_47 (sN_c_land_dry hS) (sT_c_land_dry hS) (sL_c_land_dry hS) h.1 ?_
      have h := h.2
      have h := h _ rfl
      generalize up I1 c_land_dry (ix (v1)) (s0) = I3 at h ⊢
      refine x_iconst (pc := 48) dX10_dry_48 ?_
      exact y_zret (pc := 49) dX10_dry_49 rfl ⟨Nat.le_refl _, Nat.le_refl _⟩ (Or.inr rfl) h
set_option maxHeartbeats 4000000 in
set_option maxRecDepth 100000 in
theorem b_H_due {G : XG} {S : XS} {I : XI} {v1 : Int} {v2 : Int} {R : Int → XI → Prop} (hS : xSh S)  (h : Sh_hasBook G S I (v1) (fun r2 I1 => ((w32 (r2) = 0 → R ((-1)) I1) ∧ (¬ (w32 (r2) = 0) → H_isWeek G S I1 (v2) (fun r4 I3 => ((w32 (r4) = 0 → R ((-1)) I3) ∧ (¬ (w32 (r4) = 0) → H_limit G S I3 (fun r6 I5 => Sh_holder G S I5 (v1) (v2) (r6) (fun r8 I7 => ((w32 (r8) = w32 ((-1)) → R ((-1)) I7) ∧ (¬ (w32 (r8) = w32 ((-1))) → H_limit G S I7 (fun r10 I9 => Sh_dueWeek G S I9 (v1) (v2) (r10) (fun r12 I11 => R (r12) I11))))))))))))) : H_due G S I v1 v2 R := by
  refine x_start [some (vr G c_obj), some (vi (v1)), some (vi (v2)), none] (by decide) (Nat.le_of_ble_eq_true rfl) rfl ?_
  refine x_aload_n (pc := 0) dX10_due_0 rfl rfl ?_
  refine x_getR (pc := 1) (i := c_obj) (a := c_told) fl_X10_12 dX10_due_1 (sN_c_obj hS) (sT_c_obj hS) rfl (sR_c_obj_0 hS) ?_
  refine x_getR (pc := 4) (i := c_told) (a := c_shelf) fl_X10_154 dX10_due_4 (sN_c_told hS) (sT_c_told hS) rfl (sR_c_told_2 hS) ?_
  refine x_astore_n (pc := 7) (L' := [some (vr G c_obj), some (vi (v1)), some (vi (v2)), some (vr G c_shelf)]) dX10_due_7 rfl (by decide) (xst1 rfl rfl rfl) ?_
  refine x_aload_n (pc := 8) dX10_due_8 rfl rfl ?_
  refine x_iload_n (pc := 9) dX10_due_9 rfl rfl ?_
  refine y_Vi (pc := 10) (i := c_shelf) (As := [vi (v1)]) (rest := []) ok_X6_hasBook ml_X10_168 dX10_due_10 (sN_c_shelf hS) (sT_c_shelf hS) (by decide) rfl rfl rfl ⟨rfl, rfl⟩ ⟨by decide, by decide⟩ ⟨Nat.le_refl _, Nat.le_refl _⟩ (Nat.le_of_ble_eq_true rfl) rfl h (fun r2 I1 h => ?_)
  refine x_if_eq (pc := 13) (t := 37) dX10_due_13 (by decide) (fun e => ?_) (fun e => ?_)
  · have h := h.1 e
    refine x_iconst (pc := 37) dX10_due_37 ?_
    exact y_iret (pc := 38) dX10_due_38 rfl ⟨Nat.le_refl _, Nat.le_refl _⟩ h
  · have h := h.2 e
    refine x_iload_n (pc := 16) dX10_due_16 rfl rfl ?_
    refine y_Si (pc := 17) (As := [vi (v2)]) (rest := []) ok_X10_isWeek ml_X10_102 dX10_due_17 rfl ⟨rfl, rfl⟩ ⟨by decide, by decide⟩ ⟨Nat.le_refl _, Nat.le_refl _⟩ (Nat.le_of_ble_eq_true rfl) rfl h (fun r4 I3 h => ?_)
    refine x_if_eq (pc := 20) (t := 37) dX10_due_20 (by decide) (fun e => ?_) (fun e => ?_)
    · have h := h.1 e
      refine x_iconst (pc := 37) dX10_due_37 ?_
      exact y_iret (pc := 38) dX10_due_38 rfl ⟨Nat.le_refl _, Nat.le_refl _⟩ h
    · have h := h.2 e
      refine x_aload_n (pc := 23) dX10_due_23 rfl rfl ?_
      refine x_iload_n (pc := 24) dX10_due_24 rfl rfl ?_
      refine x_iload_n (pc := 25) dX10_due_25 rfl rfl ?_
      refine x_aload_n (pc := 26) dX10_due_26 rfl rfl ?_
      refine y_Vi (pc := 27) (i := c_obj) (As := []) (rest := [vi (v2), vi (v1), vr G c_shelf]) ok_X10_limit ml_X10_132 dX10_due_27 (sN_c_obj hS) (sT_c_obj hS) (by decide) rfl rfl rfl ⟨rfl, rfl⟩ ⟨by decide, by decide⟩ ⟨Nat.le_refl _, Nat.le_refl _⟩ (Nat.le_of_ble_eq_true rfl) rfl h (fun r6 I5 h => ?_)
      refine y_Vi (pc := 30) (i := c_shelf) (As := [vi (v1), vi (v2), vi (r6)]) (rest := []) ok_X6_holder ml_X10_171 dX10_due_30 (sN_c_shelf hS) (sT_c_shelf hS) (by decide) rfl rfl rfl ⟨rfl, rfl⟩ ⟨by decide, by decide⟩ ⟨Nat.le_refl _, Nat.le_refl _⟩ (Nat.le_of_ble_eq_true rfl) rfl h (fun r8 I7 h => ?_)
      refine x_iconst (pc := 33) dX10_due_33 ?_
      refine x_icmp_ne (pc := 34) (t := 39) dX10_due_34 (by decide) (fun e => ?_) (fun e => ?_)
      · have h := h.1 e
        refine x_iconst (pc := 37) dX10_due_37 ?_
        exact y_iret (pc := 38) dX10_due_38 rfl ⟨Nat.le_refl _, Nat.le_refl _⟩ h
      · have h := h.2 e
        refine x_aload_n (pc := 39) dX10_due_39 rfl rfl ?_
        refine x_iload_n (pc := 40) dX10_due_40 rfl rfl ?_
        refine x_iload_n (pc := 41) dX10_due_41 rfl rfl ?_
        refine x_aload_n (pc := 42) dX10_due_42 rfl rfl ?_
        refine y_Vi (pc := 43) (i := c_obj) (As := []) (rest := [vi (v2), vi (v1), vr G c_shelf]) ok_X10_limit ml_X10_132 dX10_due_43 (sN_c_obj hS) (sT_c_obj hS) (by decide) rfl rfl rfl ⟨rfl, rfl⟩ ⟨by decide, by decide⟩ ⟨Nat.le_refl _, Nat.le_refl _⟩ (Nat.le_of_ble_eq_true rfl) rfl h (fun r10 I9 h => ?_)
        refine x_aload_n (pc := 46) dX10_due_46 rfl rfl ?_
        refine x_getR (pc := 47) (i := c_obj) (a := c_told) fl_X10_12 dX10_due_47 (sN_c_obj hS) (sT_c_obj hS) rfl (sR_c_obj_0 hS) ?_
        refine x_getR (pc := 50) (i := c_told) (a := c_land) fl_X10_60 dX10_due_50 (sN_c_told hS) (sT_c_told hS) rfl (sR_c_told_0 hS) ?_
        refine x_getR (pc := 53) (i := c_land) (a := c_land_dry) fl_X10_109 dX10_due_53 (sN_c_land hS) (sT_c_land hS) rfl (sR_c_land_8 hS) ?_
        refine y_Vi (pc := 56) (i := c_shelf) (As := [vi (v1), vi (v2), vi (r10), vr G c_land_dry]) (rest := []) ok_X6_dueWeek ml_X10_229 dX10_due_56 (sN_c_shelf hS) (sT_c_shelf hS) (by decide) rfl rfl rfl ⟨rfl, rfl⟩ ⟨by decide, by decide⟩ ⟨Nat.le_refl _, Nat.le_refl _⟩ (Nat.le_of_ble_eq_true rfl) rfl h (fun r12 I11 h => ?_)
        exact y_iret (pc := 59) dX10_due_59 rfl ⟨Nat.le_refl _, Nat.le_refl _⟩ h
set_option maxHeartbeats 4000000 in
set_option maxRecDepth 100000 in
theorem b_H_end {G : XG} {S : XS} {I : XI} {v1 : Int} {R : Int → XI → Prop} (hS : xSh S)  (h : H_isIn G S I (v1) (0) (I c_told 6) (fun r2 I1 => ((w32 (r2) = 0 → R ((-1)) I1) ∧ (¬ (w32 (r2) = 0) → (∀ I3 : XI, I3 = up I1 c_told 6 (v1) → R (v1) I3))))) : H_end G S I v1 R := by
  refine x_start [some (vr G c_obj), some (vi (v1))] (by decide) (Nat.le_of_ble_eq_true rfl) rfl ?_
  refine x_iload_n (pc := 0) dX10_end_0 rfl rfl ?_
  refine x_iconst (pc := 1) dX10_end_1 ?_
  refine x_aload_n (pc := 2) dX10_end_2 rfl rfl ?_
  refine x_getR (pc := 3) (i := c_obj) (a := c_told) fl_X10_12 dX10_end_3 (sN_c_obj hS) (sT_c_obj hS) rfl (sR_c_obj_0 hS) ?_
  refine x_getI (pc := 6) (i := c_told) fl_X10_245 dX10_end_6 (sN_c_told hS) (sT_c_told hS) rfl ?_
  refine y_Si (pc := 9) (As := [vi (v1), vi (0), vi (I c_told 6)]) (rest := []) ok_X10_isIn ml_X10_77 dX10_end_9 rfl ⟨rfl, rfl⟩ ⟨by decide, by decide⟩ ⟨Nat.le_refl _, Nat.le_refl _⟩ (Nat.le_of_ble_eq_true rfl) rfl h (fun r2 I1 h => ?_)
  refine x_if_ne (pc := 12) (t := 17) dX10_end_12 (by decide) (fun e => ?_) (fun e => ?_)
  · have h := h.1 e
    refine x_iconst (pc := 15) dX10_end_15 ?_
    exact y_iret (pc := 16) dX10_end_16 rfl ⟨Nat.le_refl _, Nat.le_refl _⟩ h
  · have h := h.2 e
    refine x_aload_n (pc := 17) dX10_end_17 rfl rfl ?_
    refine x_getR (pc := 18) (i := c_obj) (a := c_told) fl_X10_12 dX10_end_18 (sN_c_obj hS) (sT_c_obj hS) rfl (sR_c_obj_0 hS) ?_
    refine x_iload_n (pc := 21) dX10_end_21 rfl rfl ?_
    refine x_putI (pc := 22) (i := c_told) fl_X10_245 dX10_end_22 (sN_c_told hS) (sT_c_told hS) rfl ?_
    have h := h _ rfl
    generalize up I1 c_told 6 (v1) = I3 at h ⊢
    refine x_iload_n (pc := 25) dX10_end_25 rfl rfl ?_
    exact y_iret (pc := 26) dX10_end_26 rfl ⟨Nat.le_refl _, Nat.le_refl _⟩ h
set_option maxHeartbeats 4000000 in
set_option maxRecDepth 100000 in
theorem b_H_fault {G : XG} {S : XS} {I : XI} {v1 : Int} {R : Int → XI → Prop} (hS : xSh S)  (h : ((w32 (v1) = 0 → R (I c_told 7) I) ∧ (w32 (v1) = 1 → R (I c_told 8) I) ∧ (¬ (w32 (v1) = 0) ∧ ¬ (w32 (v1) = 1) → R ((-1)) I))) : H_fault G S I v1 R := by
  refine x_start [some (vr G c_obj), some (vi (v1))] (by decide) (Nat.le_of_ble_eq_true rfl) rfl ?_
  refine x_iload_n (pc := 0) dX10_fault_0 rfl rfl ?_
  by_cases e0 : w32 (v1) = 0
  · have h := h.1 e0
    refine x_look (pc := 1) (off := 27) (t := 28) dX10_fault_1 (by decide) (by rw [e0]; rfl) (by decide) ?_
    refine x_aload_n (pc := 28) dX10_fault_28 rfl rfl ?_
    refine x_getR (pc := 29) (i := c_obj) (a := c_told) fl_X10_12 dX10_fault_29 (sN_c_obj hS) (sT_c_obj hS) rfl (sR_c_obj_0 hS) ?_
    refine x_getI (pc := 32) (i := c_told) fl_X10_261 dX10_fault_32 (sN_c_told hS) (sT_c_told hS) rfl ?_
    exact y_iret (pc := 35) dX10_fault_35 rfl ⟨Nat.le_refl _, Nat.le_refl _⟩ h
  by_cases e1 : w32 (v1) = 1
  · have h := h.2.1 e1
    refine x_look (pc := 1) (off := 35) (t := 36) dX10_fault_1 (by decide) (by rw [e1]; rfl) (by decide) ?_
    refine x_aload_n (pc := 36) dX10_fault_36 rfl rfl ?_
    refine x_getR (pc := 37) (i := c_obj) (a := c_told) fl_X10_12 dX10_fault_37 (sN_c_obj hS) (sT_c_obj hS) rfl (sR_c_obj_0 hS) ?_
    refine x_getI (pc := 40) (i := c_told) fl_X10_265 dX10_fault_40 (sN_c_told hS) (sT_c_told hS) rfl ?_
    exact y_iret (pc := 43) dX10_fault_43 rfl ⟨Nat.le_refl _, Nat.le_refl _⟩ h
  have h := h.2.2 ⟨e0, e1⟩
  refine x_look (pc := 1) (off := 43) (t := 44) dX10_fault_1 (by decide) (by simp [Op.lookupswitch.offset, Ne.symm e0, Ne.symm e1]) (by decide) ?_
  refine x_iconst (pc := 44) dX10_fault_44 ?_
  exact y_iret (pc := 45) dX10_fault_45 rfl ⟨Nat.le_refl _, Nat.le_refl _⟩ h
set_option maxHeartbeats 4000000 in
set_option maxRecDepth 100000 in
theorem b_H_feed {G : XG} {S : XS} {I : XI} {v1 : Int} {v2 : Int} {v3 : Int} {v4 : Int} {v5 : Int} {R : Int → XI → Prop} (hS : xSh S)  (h : ((w32 (I c_told 6) ≤ w32 (480) → To_addBytes G S I (v1) (fun I1 => To_addBytes G S I1 (v2) (fun I2 => To_addBytes G S I2 (v3) (fun I3 => To_addBytes G S I3 (v4) (fun I4 => To_addBytes G S I4 (v5) (fun I5 => R (I5 c_told 6) I5)))))) ∧ (¬ (w32 (I c_told 6) ≤ w32 (480)) → R ((-1)) I))) : H_feed G S I v1 v2 v3 v4 v5 R := by
  refine x_start [some (vr G c_obj), some (vi (v1)), some (vi (v2)), some (vi (v3)), some (vi (v4)), some (vi (v5))] (by decide) (Nat.le_of_ble_eq_true rfl) rfl ?_
  refine x_aload_n (pc := 0) dX10_feed_0 rfl rfl ?_
  refine x_getR (pc := 1) (i := c_obj) (a := c_told) fl_X10_12 dX10_feed_1 (sN_c_obj hS) (sT_c_obj hS) rfl (sR_c_obj_0 hS) ?_
  refine x_getI (pc := 4) (i := c_told) fl_X10_245 dX10_feed_4 (sN_c_told hS) (sT_c_told hS) rfl ?_
  refine x_sipush (pc := 7) dX10_feed_7 (by decide) ?_
  refine x_icmp_le (pc := 10) (t := 15) dX10_feed_10 (by decide) (fun e => ?_) (fun e => ?_)
  · have h := h.1 e
    refine x_aload_n (pc := 15) dX10_feed_15 rfl rfl ?_
    refine x_getR (pc := 16) (i := c_obj) (a := c_told) fl_X10_12 dX10_feed_16 (sN_c_obj hS) (sT_c_obj hS) rfl (sR_c_obj_0 hS) ?_
    refine x_iload_n (pc := 19) dX10_feed_19 rfl rfl ?_
    refine y_Vv (pc := 20) (i := c_told) (As := [vi (v1)]) (rest := []) ok_X7_addBytes ml_X10_248 dX10_feed_20 (sN_c_told hS) (sT_c_told hS) (by decide) rfl rfl rfl ⟨rfl, rfl⟩ ⟨by decide, by decide⟩ ⟨Nat.le_refl _, Nat.le_refl _⟩ (Nat.le_of_ble_eq_true rfl) rfl h (fun I1 h => ?_)
    refine x_aload_n (pc := 23) dX10_feed_23 rfl rfl ?_
    refine x_getR (pc := 24) (i := c_obj) (a := c_told) fl_X10_12 dX10_feed_24 (sN_c_obj hS) (sT_c_obj hS) rfl (sR_c_obj_0 hS) ?_
    refine x_iload_n (pc := 27) dX10_feed_27 rfl rfl ?_
    refine y_Vv (pc := 28) (i := c_told) (As := [vi (v2)]) (rest := []) ok_X7_addBytes ml_X10_248 dX10_feed_28 (sN_c_told hS) (sT_c_told hS) (by decide) rfl rfl rfl ⟨rfl, rfl⟩ ⟨by decide, by decide⟩ ⟨Nat.le_refl _, Nat.le_refl _⟩ (Nat.le_of_ble_eq_true rfl) rfl h (fun I2 h => ?_)
    refine x_aload_n (pc := 31) dX10_feed_31 rfl rfl ?_
    refine x_getR (pc := 32) (i := c_obj) (a := c_told) fl_X10_12 dX10_feed_32 (sN_c_obj hS) (sT_c_obj hS) rfl (sR_c_obj_0 hS) ?_
    refine x_iload_n (pc := 35) dX10_feed_35 rfl rfl ?_
    refine y_Vv (pc := 36) (i := c_told) (As := [vi (v3)]) (rest := []) ok_X7_addBytes ml_X10_248 dX10_feed_36 (sN_c_told hS) (sT_c_told hS) (by decide) rfl rfl rfl ⟨rfl, rfl⟩ ⟨by decide, by decide⟩ ⟨Nat.le_refl _, Nat.le_refl _⟩ (Nat.le_of_ble_eq_true rfl) rfl h (fun I3 h => ?_)
    refine x_aload_n (pc := 39) dX10_feed_39 rfl rfl ?_
    refine x_getR (pc := 40) (i := c_obj) (a := c_told) fl_X10_12 dX10_feed_40 (sN_c_obj hS) (sT_c_obj hS) rfl (sR_c_obj_0 hS) ?_
    refine x_iload (pc := 43) dX10_feed_43 rfl ?_
    refine y_Vv (pc := 45) (i := c_told) (As := [vi (v4)]) (rest := []) ok_X7_addBytes ml_X10_248 dX10_feed_45 (sN_c_told hS) (sT_c_told hS) (by decide) rfl rfl rfl ⟨rfl, rfl⟩ ⟨by decide, by decide⟩ ⟨Nat.le_refl _, Nat.le_refl _⟩ (Nat.le_of_ble_eq_true rfl) rfl h (fun I4 h => ?_)
    refine x_aload_n (pc := 48) dX10_feed_48 rfl rfl ?_
    refine x_getR (pc := 49) (i := c_obj) (a := c_told) fl_X10_12 dX10_feed_49 (sN_c_obj hS) (sT_c_obj hS) rfl (sR_c_obj_0 hS) ?_
    refine x_iload (pc := 52) dX10_feed_52 rfl ?_
    refine y_Vv (pc := 54) (i := c_told) (As := [vi (v5)]) (rest := []) ok_X7_addBytes ml_X10_248 dX10_feed_54 (sN_c_told hS) (sT_c_told hS) (by decide) rfl rfl rfl ⟨rfl, rfl⟩ ⟨by decide, by decide⟩ ⟨Nat.le_refl _, Nat.le_refl _⟩ (Nat.le_of_ble_eq_true rfl) rfl h (fun I5 h => ?_)
    refine x_aload_n (pc := 57) dX10_feed_57 rfl rfl ?_
    refine x_getR (pc := 58) (i := c_obj) (a := c_told) fl_X10_12 dX10_feed_58 (sN_c_obj hS) (sT_c_obj hS) rfl (sR_c_obj_0 hS) ?_
    refine x_getI (pc := 61) (i := c_told) fl_X10_245 dX10_feed_61 (sN_c_told hS) (sT_c_told hS) rfl ?_
    exact y_iret (pc := 64) dX10_feed_64 rfl ⟨Nat.le_refl _, Nat.le_refl _⟩ h
  · have h := h.2 e
    refine x_iconst (pc := 13) dX10_feed_13 ?_
    exact y_iret (pc := 14) dX10_feed_14 rfl ⟨Nat.le_refl _, Nat.le_refl _⟩ h
set_option maxHeartbeats 4000000 in
set_option maxRecDepth 100000 in
theorem b_H_forgetParts {G : XG} {S : XS} {I : XI}  {R : XI → Prop} (hS : xSh S)  (h : Wn_forget G S I (fun I1 => Wt_forget G S I1 (fun I2 => R I2))) : H_forgetParts G S I  R := by
  refine x_start [some (vr G c_obj)] (by decide) (Nat.le_of_ble_eq_true rfl) rfl ?_
  refine x_aload_n (pc := 0) dX10_forgetParts_0 rfl rfl ?_
  refine x_getR (pc := 1) (i := c_obj) (a := c_now) fl_X10_25 dX10_forgetParts_1 (sN_c_obj hS) (sT_c_obj hS) rfl (sR_c_obj_2 hS) ?_
  refine y_Vv (pc := 4) (i := c_now) (As := []) (rest := []) ok_X9_forget ml_X10_377 dX10_forgetParts_4 (sN_c_now hS) (sT_c_now hS) (by decide) rfl rfl rfl ⟨rfl, rfl⟩ ⟨by decide, by decide⟩ ⟨Nat.le_refl _, Nat.le_refl _⟩ (Nat.le_of_ble_eq_true rfl) rfl h (fun I1 h => ?_)
  refine x_aload_n (pc := 7) dX10_forgetParts_7 rfl rfl ?_
  refine x_getR (pc := 8) (i := c_obj) (a := c_then) fl_X10_29 dX10_forgetParts_8 (sN_c_obj hS) (sT_c_obj hS) rfl (sR_c_obj_3 hS) ?_
  refine y_Vv (pc := 11) (i := c_then) (As := []) (rest := []) ok_X9_forget ml_X10_377 dX10_forgetParts_11 (sN_c_then hS) (sT_c_then hS) (by decide) rfl rfl rfl ⟨rfl, rfl⟩ ⟨by decide, by decide⟩ ⟨Nat.le_refl _, Nat.le_refl _⟩ (Nat.le_of_ble_eq_true rfl) rfl h (fun I2 h => ?_)
  exact y_vret (pc := 14) dX10_forgetParts_14 rfl ⟨Nat.le_refl _, Nat.le_refl _⟩ h
set_option maxHeartbeats 4000000 in
set_option maxRecDepth 100000 in
theorem b_H_forgetWays {G : XG} {S : XS} {I : XI}  {R : XI → Prop} (hS : xSh S)  (h : H_forgetParts G S I (fun I1 => Wa_forget G S I1 (fun I2 => R I2))) : H_forgetWays G S I  R := by
  refine x_start [some (vr G c_obj)] (by decide) (Nat.le_of_ble_eq_true rfl) rfl ?_
  refine x_aload_n (pc := 0) dX10_forgetWays_0 rfl rfl ?_
  refine y_Vv (pc := 1) (i := c_obj) (As := []) (rest := []) ok_X10_forgetParts ml_X10_85 dX10_forgetWays_1 (sN_c_obj hS) (sT_c_obj hS) (by decide) rfl rfl rfl ⟨rfl, rfl⟩ ⟨by decide, by decide⟩ ⟨Nat.le_refl _, Nat.le_refl _⟩ (Nat.le_of_ble_eq_true rfl) rfl h (fun I1 h => ?_)
  refine x_aload_n (pc := 4) dX10_forgetWays_4 rfl rfl ?_
  refine x_getR (pc := 5) (i := c_obj) (a := c_walks) fl_X10_35 dX10_forgetWays_5 (sN_c_obj hS) (sT_c_obj hS) rfl (sR_c_obj_4 hS) ?_
  refine y_Vv (pc := 8) (i := c_walks) (As := []) (rest := []) ok_X8_forget ml_X10_380 dX10_forgetWays_8 (sN_c_walks hS) (sT_c_walks hS) (by decide) rfl rfl rfl ⟨rfl, rfl⟩ ⟨by decide, by decide⟩ ⟨Nat.le_refl _, Nat.le_refl _⟩ (Nat.le_of_ble_eq_true rfl) rfl h (fun I2 h => ?_)
  exact y_vret (pc := 11) dX10_forgetWays_11 rfl ⟨Nat.le_refl _, Nat.le_refl _⟩ h
set_option maxHeartbeats 4000000 in
set_option maxRecDepth 100000 in
theorem b_H_gatherBook {G : XG} {S : XS} {I : XI} {v1 : Int} {v2 : Int} {v3 : Int} {v4 : Int} {R : XI → Prop} (hS : xSh S)  (h : (inb (v2) 24 ∧ (inb (v1) 6 ∧ ((w32 (I c_shelf_tongues (ix (v2))) = w32 (I c_herds_tongues (ix (v1))) → H_gatherBook_k41 G S I (v2) (v3) (v4) (1) (0) R) ∧ (¬ (w32 (I c_shelf_tongues (ix (v2))) = w32 (I c_herds_tongues (ix (v1)))) → H_gatherBook_k41 G S I (v2) (v3) (v4) (0) (0) R))))) : H_gatherBook G S I v1 v2 v3 v4 R := by
  refine x_start [some (vr G c_obj), some (vi (v1)), some (vi (v2)), some (vi (v3)), some (vi (v4)), none] (by decide) (Nat.le_of_ble_eq_true rfl) rfl ?_
  refine x_aload_n (pc := 0) dX10_gatherBook_0 rfl rfl ?_
  refine x_getR (pc := 1) (i := c_obj) (a := c_told) fl_X10_12 dX10_gatherBook_1 (sN_c_obj hS) (sT_c_obj hS) rfl (sR_c_obj_0 hS) ?_
  refine x_getR (pc := 4) (i := c_told) (a := c_shelf) fl_X10_154 dX10_gatherBook_4 (sN_c_told hS) (sT_c_told hS) rfl (sR_c_told_2 hS) ?_
  refine x_astore (pc := 7) (L' := [some (vr G c_obj), some (vi (v1)), some (vi (v2)), some (vi (v3)), some (vi (v4)), some (vr G c_shelf)]) dX10_gatherBook_7 (by decide) (xst1 rfl rfl rfl) ?_
  refine x_aload_n (pc := 9) dX10_gatherBook_9 rfl rfl ?_
  refine x_getR (pc := 10) (i := c_obj) (a := c_facts) fl_X10_53 dX10_gatherBook_10 (sN_c_obj hS) (sT_c_obj hS) rfl (sR_c_obj_7 hS) ?_
  refine x_iconst (pc := 13) dX10_gatherBook_13 ?_
  refine x_aload (pc := 14) dX10_gatherBook_14 rfl ?_
  refine x_getR (pc := 16) (i := c_shelf) (a := c_shelf_tongues) fl_X10_387 dX10_gatherBook_16 (sN_c_shelf hS) (sT_c_shelf hS) rfl (sR_c_shelf_2 hS) ?_
  refine x_iload_n (pc := 19) dX10_gatherBook_19 rfl rfl ?_
  refine y_iald (pc := 20) (i := c_shelf_tongues) (n := 24) dX10_gatherBook_20 (sN_c_shelf_tongues hS) (sT_c_shelf_tongues hS) (sL_c_shelf_tongues hS) h.1 ?_
  have h := h.2
  refine x_aload_n (pc := 21) dX10_gatherBook_21 rfl rfl ?_
  refine x_getR (pc := 22) (i := c_obj) (a := c_told) fl_X10_12 dX10_gatherBook_22 (sN_c_obj hS) (sT_c_obj hS) rfl (sR_c_obj_0 hS) ?_
  refine x_getR (pc := 25) (i := c_told) (a := c_herds) fl_X10_88 dX10_gatherBook_25 (sN_c_told hS) (sT_c_told hS) rfl (sR_c_told_1 hS) ?_
  refine x_getR (pc := 28) (i := c_herds) (a := c_herds_tongues) fl_X10_390 dX10_gatherBook_28 (sN_c_herds hS) (sT_c_herds hS) rfl (sR_c_herds_1 hS) ?_
  refine x_iload_n (pc := 31) dX10_gatherBook_31 rfl rfl ?_
  refine y_iald (pc := 32) (i := c_herds_tongues) (n := 6) dX10_gatherBook_32 (sN_c_herds_tongues hS) (sT_c_herds_tongues hS) (sL_c_herds_tongues hS) h.1 ?_
  have h := h.2
  refine x_icmp_ne (pc := 33) (t := 40) dX10_gatherBook_33 (by decide) (fun e => ?_) (fun e => ?_)
  · have h := h.1 e
    refine x_iconst (pc := 36) dX10_gatherBook_36 ?_
    refine x_goto (pc := 37) (t := 41) dX10_gatherBook_37 (by decide) ?_
    refine x_less (L' := [some (vr G c_obj), none, some (vi (v2)), some (vi (v3)), some (vi (v4)), some (vr G c_shelf)]) (And.intro rfl (And.intro rfl (And.intro rfl (And.intro rfl (And.intro rfl trivial))))) ?_
    exact h
  · have h := h.2 e
    refine x_iconst (pc := 40) dX10_gatherBook_40 ?_
    refine x_less (L' := [some (vr G c_obj), none, some (vi (v2)), some (vi (v3)), some (vi (v4)), some (vr G c_shelf)]) (And.intro rfl (And.intro rfl (And.intro rfl (And.intro rfl (And.intro rfl trivial))))) ?_
    exact h
set_option maxHeartbeats 4000000 in
set_option maxRecDepth 100000 in
theorem b_H_gatherBook_k41 {G : XG} {S : XS}  {I : XI} {v2 : Int} {v3 : Int} {v4 : Int} {s0 : Int} {s1 : Int} {R : XI → Prop} (hS : xSh S)  (h : (inb (s1) 10 ∧ (∀ I1 : XI, I1 = up I c_facts (ix (s1)) (s0) → (inb (v2) 24 ∧ (∀ I2 : XI, I2 = up I1 c_facts 5 (I1 c_shelf_kinds (ix (v2))) → (inb (v2) 24 ∧ (∀ I3 : XI, I3 = up I2 c_facts 6 (I2 c_shelf_levels (ix (v2))) → Sh_pagesLeft G S I3 (v2) (v3) (v4) (fun r5 I4 => (∀ I6 : XI, I6 = up I4 c_facts 7 (r5) → R I6))))))))) : H_gatherBook_k41 G S  I v2 v3 v4 s0 s1 R := by
  unfold H_gatherBook_k41
  refine y_iast (pc := 41) (i := c_facts) (n := 10) dX10_gatherBook_41 (sN_c_facts hS) (sT_c_facts hS) (sL_c_facts hS) h.1 ?_
  have h := h.2
  have h := h _ rfl
  generalize up I c_facts (ix (s1)) (s0) = I1 at h ⊢
  refine x_aload_n (pc := 42) dX10_gatherBook_42 rfl rfl ?_
  refine x_getR (pc := 43) (i := c_obj) (a := c_facts) fl_X10_53 dX10_gatherBook_43 (sN_c_obj hS) (sT_c_obj hS) rfl (sR_c_obj_7 hS) ?_
  refine x_iconst (pc := 46) dX10_gatherBook_46 ?_
  refine x_aload (pc := 47) dX10_gatherBook_47 rfl ?_
  refine x_getR (pc := 49) (i := c_shelf) (a := c_shelf_kinds) fl_X10_391 dX10_gatherBook_49 (sN_c_shelf hS) (sT_c_shelf hS) rfl (sR_c_shelf_1 hS) ?_
  refine x_iload_n (pc := 52) dX10_gatherBook_52 rfl rfl ?_
  refine y_iald (pc := 53) (i := c_shelf_kinds) (n := 24) dX10_gatherBook_53 (sN_c_shelf_kinds hS) (sT_c_shelf_kinds hS) (sL_c_shelf_kinds hS) h.1 ?_
  have h := h.2
  refine y_iast (pc := 54) (i := c_facts) (n := 10) dX10_gatherBook_54 (sN_c_facts hS) (sT_c_facts hS) (sL_c_facts hS) (inb_nat (k := 5) (by decide) (by decide)) ?_
  rw [show ix 5 = 5 from rfl]
  have h := h _ rfl
  generalize up I1 c_facts 5 (I1 c_shelf_kinds (ix (v2))) = I2 at h ⊢
  refine x_aload_n (pc := 55) dX10_gatherBook_55 rfl rfl ?_
  refine x_getR (pc := 56) (i := c_obj) (a := c_facts) fl_X10_53 dX10_gatherBook_56 (sN_c_obj hS) (sT_c_obj hS) rfl (sR_c_obj_7 hS) ?_
  refine x_bipush (pc := 59) dX10_gatherBook_59 (by decide) ?_
  refine x_aload (pc := 61) dX10_gatherBook_61 rfl ?_
  refine x_getR (pc := 63) (i := c_shelf) (a := c_shelf_levels) fl_X10_394 dX10_gatherBook_63 (sN_c_shelf hS) (sT_c_shelf hS) rfl (sR_c_shelf_3 hS) ?_
  refine x_iload_n (pc := 66) dX10_gatherBook_66 rfl rfl ?_
  refine y_iald (pc := 67) (i := c_shelf_levels) (n := 24) dX10_gatherBook_67 (sN_c_shelf_levels hS) (sT_c_shelf_levels hS) (sL_c_shelf_levels hS) h.1 ?_
  have h := h.2
  refine y_iast (pc := 68) (i := c_facts) (n := 10) dX10_gatherBook_68 (sN_c_facts hS) (sT_c_facts hS) (sL_c_facts hS) (inb_nat (k := 6) (by decide) (by decide)) ?_
  rw [show ix 6 = 6 from rfl]
  have h := h _ rfl
  generalize up I2 c_facts 6 (I2 c_shelf_levels (ix (v2))) = I3 at h ⊢
  refine x_aload_n (pc := 69) dX10_gatherBook_69 rfl rfl ?_
  refine x_getR (pc := 70) (i := c_obj) (a := c_facts) fl_X10_53 dX10_gatherBook_70 (sN_c_obj hS) (sT_c_obj hS) rfl (sR_c_obj_7 hS) ?_
  refine x_bipush (pc := 73) dX10_gatherBook_73 (by decide) ?_
  refine x_aload (pc := 75) dX10_gatherBook_75 rfl ?_
  refine x_iload_n (pc := 77) dX10_gatherBook_77 rfl rfl ?_
  refine x_iload_n (pc := 78) dX10_gatherBook_78 rfl rfl ?_
  refine x_iload (pc := 79) dX10_gatherBook_79 rfl ?_
  refine y_Vi (pc := 81) (i := c_shelf) (As := [vi (v2), vi (v3), vi (v4)]) (rest := [vi (7), vr G c_facts]) ok_X6_pagesLeft ml_X10_199 dX10_gatherBook_81 (sN_c_shelf hS) (sT_c_shelf hS) (by decide) rfl rfl rfl ⟨rfl, rfl⟩ ⟨by decide, by decide⟩ ⟨Nat.le_refl _, Nat.le_refl _⟩ (Nat.le_of_ble_eq_true rfl) rfl h (fun r5 I4 h => ?_)
  refine y_iast (pc := 84) (i := c_facts) (n := 10) dX10_gatherBook_84 (sN_c_facts hS) (sT_c_facts hS) (sL_c_facts hS) (inb_nat (k := 7) (by decide) (by decide)) ?_
  rw [show ix 7 = 7 from rfl]
  have h := h _ rfl
  generalize up I4 c_facts 7 (r5) = I6 at h ⊢
  exact y_vret (pc := 85) dX10_gatherBook_85 rfl ⟨Nat.le_refl _, Nat.le_refl _⟩ h
set_option maxHeartbeats 4000000 in
set_option maxRecDepth 100000 in
theorem b_H_gatherCamp {G : XG} {S : XS} {I : XI} {v1 : Int} {v2 : Int} {v3 : Int} {R : XI → Prop} (hS : xSh S)  (h : (inb (v2) 100 ∧ (∀ I1 : XI, I1 = up I c_facts 1 (I c_land_dry (ix (v2))) → (∀ I2 : XI, I2 = up I1 c_facts 2 (0) → (inb (v1) 6 ∧ ((w32 (v2) < w32 (I2 c_herds_firstWeeks (ix (v1))) → H_gatherCamp_k84 G S I2 (v1) (v2) (v3) R) ∧ (¬ (w32 (v2) < w32 (I2 c_herds_firstWeeks (ix (v1)))) → H_whereBy G S I2 (v3) (fun r4 I3 => ((r4 = c_now ∨ r4 = c_then) ∧ (r4 = c_now → Wn_likeliestOf G S I3 (v1) (v2) (fun r6 I5 => La_hasWell G S I5 (r6) (fun r8 I7 => ((w32 (r8) = 0 → H_gatherCamp_k84 G S I7 (v1) (v2) (v3) R) ∧ (¬ (w32 (r8) = 0) → (∀ I9 : XI, I9 = up I7 c_facts 2 (1) → H_gatherCamp_k84 G S I9 (v1) (v2) (v3) R)))))) ∧ (r4 = c_then → Wt_likeliestOf G S I3 (v1) (v2) (fun r11 I10 => La_hasWell G S I10 (r11) (fun r13 I12 => ((w32 (r13) = 0 → H_gatherCamp_k84 G S I12 (v1) (v2) (v3) R) ∧ (¬ (w32 (r13) = 0) → (∀ I14 : XI, I14 = up I12 c_facts 2 (1) → H_gatherCamp_k84 G S I14 (v1) (v2) (v3) R))))))))))))))) : H_gatherCamp G S I v1 v2 v3 R := by
  refine x_start [some (vr G c_obj), some (vi (v1)), some (vi (v2)), some (vi (v3)), none] (by decide) (Nat.le_of_ble_eq_true rfl) rfl ?_
  refine x_aload_n (pc := 0) dX10_gatherCamp_0 rfl rfl ?_
  refine x_getR (pc := 1) (i := c_obj) (a := c_told) fl_X10_12 dX10_gatherCamp_1 (sN_c_obj hS) (sT_c_obj hS) rfl (sR_c_obj_0 hS) ?_
  refine x_getR (pc := 4) (i := c_told) (a := c_shelf) fl_X10_154 dX10_gatherCamp_4 (sN_c_told hS) (sT_c_told hS) rfl (sR_c_told_2 hS) ?_
  refine x_astore (pc := 7) (L' := [some (vr G c_obj), some (vi (v1)), some (vi (v2)), some (vi (v3)), some (vr G c_shelf)]) dX10_gatherCamp_7 (by decide) (xst1 rfl rfl rfl) ?_
  refine x_aload_n (pc := 9) dX10_gatherCamp_9 rfl rfl ?_
  refine x_getR (pc := 10) (i := c_obj) (a := c_facts) fl_X10_53 dX10_gatherCamp_10 (sN_c_obj hS) (sT_c_obj hS) rfl (sR_c_obj_7 hS) ?_
  refine x_iconst (pc := 13) dX10_gatherCamp_13 ?_
  refine x_aload_n (pc := 14) dX10_gatherCamp_14 rfl rfl ?_
  refine x_getR (pc := 15) (i := c_obj) (a := c_told) fl_X10_12 dX10_gatherCamp_15 (sN_c_obj hS) (sT_c_obj hS) rfl (sR_c_obj_0 hS) ?_
  refine x_getR (pc := 18) (i := c_told) (a := c_land) fl_X10_60 dX10_gatherCamp_18 (sN_c_told hS) (sT_c_told hS) rfl (sR_c_told_0 hS) ?_
  refine x_getR (pc := 21) (i := c_land) (a := c_land_dry) fl_X10_109 dX10_gatherCamp_21 (sN_c_land hS) (sT_c_land hS) rfl (sR_c_land_8 hS) ?_
  refine x_iload_n (pc := 24) dX10_gatherCamp_24 rfl rfl ?_
  refine y_iald (pc := 25) (i := c_land_dry) (n := 100) dX10_gatherCamp_25 (sN_c_land_dry hS) (sT_c_land_dry hS) (sL_c_land_dry hS) h.1 ?_
  have h := h.2
  refine y_iast (pc := 26) (i := c_facts) (n := 10) dX10_gatherCamp_26 (sN_c_facts hS) (sT_c_facts hS) (sL_c_facts hS) (inb_nat (k := 1) (by decide) (by decide)) ?_
  rw [show ix 1 = 1 from rfl]
  have h := h _ rfl
  generalize up I c_facts 1 (I c_land_dry (ix (v2))) = I1 at h ⊢
  refine x_aload_n (pc := 27) dX10_gatherCamp_27 rfl rfl ?_
  refine x_getR (pc := 28) (i := c_obj) (a := c_facts) fl_X10_53 dX10_gatherCamp_28 (sN_c_obj hS) (sT_c_obj hS) rfl (sR_c_obj_7 hS) ?_
  refine x_iconst (pc := 31) dX10_gatherCamp_31 ?_
  refine x_iconst (pc := 32) dX10_gatherCamp_32 ?_
  refine y_iast (pc := 33) (i := c_facts) (n := 10) dX10_gatherCamp_33 (sN_c_facts hS) (sT_c_facts hS) (sL_c_facts hS) (inb_nat (k := 2) (by decide) (by decide)) ?_
  rw [show ix 2 = 2 from rfl]
  have h := h _ rfl
  generalize up I1 c_facts 2 (0) = I2 at h ⊢
  refine x_iload_n (pc := 34) dX10_gatherCamp_34 rfl rfl ?_
  refine x_aload_n (pc := 35) dX10_gatherCamp_35 rfl rfl ?_
  refine x_getR (pc := 36) (i := c_obj) (a := c_told) fl_X10_12 dX10_gatherCamp_36 (sN_c_obj hS) (sT_c_obj hS) rfl (sR_c_obj_0 hS) ?_
  refine x_getR (pc := 39) (i := c_told) (a := c_herds) fl_X10_88 dX10_gatherCamp_39 (sN_c_told hS) (sT_c_told hS) rfl (sR_c_told_1 hS) ?_
  refine x_getR (pc := 42) (i := c_herds) (a := c_herds_firstWeeks) fl_X10_121 dX10_gatherCamp_42 (sN_c_herds hS) (sT_c_herds hS) rfl (sR_c_herds_3 hS) ?_
  refine x_iload_n (pc := 45) dX10_gatherCamp_45 rfl rfl ?_
  refine y_iald (pc := 46) (i := c_herds_firstWeeks) (n := 6) dX10_gatherCamp_46 (sN_c_herds_firstWeeks hS) (sT_c_herds_firstWeeks hS) (sL_c_herds_firstWeeks hS) h.1 ?_
  have h := h.2
  refine x_icmp_lt (pc := 47) (t := 84) dX10_gatherCamp_47 (by decide) (fun e => ?_) (fun e => ?_)
  · have h := h.1 e
    exact h
  · have h := h.2 e
    refine x_aload_n (pc := 50) dX10_gatherCamp_50 rfl rfl ?_
    refine x_getR (pc := 51) (i := c_obj) (a := c_told) fl_X10_12 dX10_gatherCamp_51 (sN_c_obj hS) (sT_c_obj hS) rfl (sR_c_obj_0 hS) ?_
    refine x_getR (pc := 54) (i := c_told) (a := c_land) fl_X10_60 dX10_gatherCamp_54 (sN_c_told hS) (sT_c_told hS) rfl (sR_c_told_0 hS) ?_
    refine x_aload_n (pc := 57) dX10_gatherCamp_57 rfl rfl ?_
    refine x_iload_n (pc := 58) dX10_gatherCamp_58 rfl rfl ?_
    refine y_Vr (pc := 59) (i := c_obj) (As := [vi (v3)]) (rest := [vr G c_land]) ok_X10_whereBy ml_X10_136 dX10_gatherCamp_59 (sN_c_obj hS) (sT_c_obj hS) (by decide) rfl rfl rfl ⟨rfl, rfl⟩ ⟨by decide, by decide⟩ ⟨Nat.le_refl _, Nat.le_refl _⟩ (Nat.le_of_ble_eq_true rfl) rfl h (fun r4 I3 h => ?_)
    rcases h.1 with e | e
    · subst e
      have h := h.2.1 rfl
      refine x_aload_n (pc := 62) dX10_gatherCamp_62 rfl rfl ?_
      refine x_getR (pc := 63) (i := c_obj) (a := c_told) fl_X10_12 dX10_gatherCamp_63 (sN_c_obj hS) (sT_c_obj hS) rfl (sR_c_obj_0 hS) ?_
      refine x_iload_n (pc := 66) dX10_gatherCamp_66 rfl rfl ?_
      refine x_iload_n (pc := 67) dX10_gatherCamp_67 rfl rfl ?_
      refine y_Vi (pc := 68) (i := c_now) (As := [vr G c_told, vi (v1), vi (v2)]) (rest := [vr G c_land]) ok_X9_likeliestOf ml_X10_147 dX10_gatherCamp_68 (sN_c_now hS) (sT_c_now hS) (by decide) rfl rfl rfl ⟨rfl, rfl⟩ ⟨by decide, by decide⟩ ⟨Nat.le_refl _, Nat.le_refl _⟩ (Nat.le_of_ble_eq_true rfl) rfl h (fun r6 I5 h => ?_)
      refine y_Vi (pc := 71) (i := c_land) (As := [vi (r6)]) (rest := []) ok_X2_hasWell ml_X10_384 dX10_gatherCamp_71 (sN_c_land hS) (sT_c_land hS) (by decide) rfl rfl rfl ⟨rfl, rfl⟩ ⟨by decide, by decide⟩ ⟨Nat.le_refl _, Nat.le_refl _⟩ (Nat.le_of_ble_eq_true rfl) rfl h (fun r8 I7 h => ?_)
      refine x_if_eq (pc := 74) (t := 84) dX10_gatherCamp_74 (by decide) (fun e => ?_) (fun e => ?_)
      · have h := h.1 e
        exact h
      · have h := h.2 e
        refine x_aload_n (pc := 77) dX10_gatherCamp_77 rfl rfl ?_
        refine x_getR (pc := 78) (i := c_obj) (a := c_facts) fl_X10_53 dX10_gatherCamp_78 (sN_c_obj hS) (sT_c_obj hS) rfl (sR_c_obj_7 hS) ?_
        refine x_iconst (pc := 81) dX10_gatherCamp_81 ?_
        refine x_iconst (pc := 82) dX10_gatherCamp_82 ?_
        refine y_iast (pc := 83) (i := c_facts) (n := 10) dX10_gatherCamp_83 (sN_c_facts hS) (sT_c_facts hS) (sL_c_facts hS) (inb_nat (k := 2) (by decide) (by decide)) ?_
        rw [show ix 2 = 2 from rfl]
        have h := h _ rfl
        generalize up I7 c_facts 2 (1) = I9 at h ⊢
        exact h
    · subst e
      have h := h.2.2 rfl
      refine x_aload_n (pc := 62) dX10_gatherCamp_62 rfl rfl ?_
      refine x_getR (pc := 63) (i := c_obj) (a := c_told) fl_X10_12 dX10_gatherCamp_63 (sN_c_obj hS) (sT_c_obj hS) rfl (sR_c_obj_0 hS) ?_
      refine x_iload_n (pc := 66) dX10_gatherCamp_66 rfl rfl ?_
      refine x_iload_n (pc := 67) dX10_gatherCamp_67 rfl rfl ?_
      refine y_Vi (pc := 68) (i := c_then) (As := [vr G c_told, vi (v1), vi (v2)]) (rest := [vr G c_land]) ok_X9_likeliestOf ml_X10_147 dX10_gatherCamp_68 (sN_c_then hS) (sT_c_then hS) (by decide) rfl rfl rfl ⟨rfl, rfl⟩ ⟨by decide, by decide⟩ ⟨Nat.le_refl _, Nat.le_refl _⟩ (Nat.le_of_ble_eq_true rfl) rfl h (fun r11 I10 h => ?_)
      refine y_Vi (pc := 71) (i := c_land) (As := [vi (r11)]) (rest := []) ok_X2_hasWell ml_X10_384 dX10_gatherCamp_71 (sN_c_land hS) (sT_c_land hS) (by decide) rfl rfl rfl ⟨rfl, rfl⟩ ⟨by decide, by decide⟩ ⟨Nat.le_refl _, Nat.le_refl _⟩ (Nat.le_of_ble_eq_true rfl) rfl h (fun r13 I12 h => ?_)
      refine x_if_eq (pc := 74) (t := 84) dX10_gatherCamp_74 (by decide) (fun e => ?_) (fun e => ?_)
      · have h := h.1 e
        exact h
      · have h := h.2 e
        refine x_aload_n (pc := 77) dX10_gatherCamp_77 rfl rfl ?_
        refine x_getR (pc := 78) (i := c_obj) (a := c_facts) fl_X10_53 dX10_gatherCamp_78 (sN_c_obj hS) (sT_c_obj hS) rfl (sR_c_obj_7 hS) ?_
        refine x_iconst (pc := 81) dX10_gatherCamp_81 ?_
        refine x_iconst (pc := 82) dX10_gatherCamp_82 ?_
        refine y_iast (pc := 83) (i := c_facts) (n := 10) dX10_gatherCamp_83 (sN_c_facts hS) (sT_c_facts hS) (sL_c_facts hS) (inb_nat (k := 2) (by decide) (by decide)) ?_
        rw [show ix 2 = 2 from rfl]
        have h := h _ rfl
        generalize up I12 c_facts 2 (1) = I14 at h ⊢
        exact h
set_option maxHeartbeats 4000000 in
set_option maxRecDepth 100000 in
theorem b_H_gatherCamp_k84 {G : XG} {S : XS}  {I : XI} {v1 : Int} {v2 : Int} {v3 : Int} {R : XI → Prop} (hS : xSh S)  (h : Sh_heldBy G S I (v1) (v2) (v3) (fun r16 I15 => (∀ I17 : XI, I17 = up I15 c_facts 3 (r16) → Sh_lateWith G S I17 (v1) (v2) (v3) (fun r19 I18 => (∀ I20 : XI, I20 = up I18 c_facts 4 (r19) → Sh_tornBy G S I20 (v1) (v2) (v3) (fun r22 I21 => (∀ I23 : XI, I23 = up I21 c_facts 8 (r22) → (∀ I24 : XI, I24 = up I23 c_facts 9 (v2) → R I24)))))))) : H_gatherCamp_k84 G S  I v1 v2 v3 R := by
  unfold H_gatherCamp_k84
  refine x_aload_n (pc := 84) dX10_gatherCamp_84 rfl rfl ?_
  refine x_getR (pc := 85) (i := c_obj) (a := c_facts) fl_X10_53 dX10_gatherCamp_85 (sN_c_obj hS) (sT_c_obj hS) rfl (sR_c_obj_7 hS) ?_
  refine x_iconst (pc := 88) dX10_gatherCamp_88 ?_
  refine x_aload (pc := 89) dX10_gatherCamp_89 rfl ?_
  refine x_iload_n (pc := 91) dX10_gatherCamp_91 rfl rfl ?_
  refine x_iload_n (pc := 92) dX10_gatherCamp_92 rfl rfl ?_
  refine x_iload_n (pc := 93) dX10_gatherCamp_93 rfl rfl ?_
  refine y_Vi (pc := 94) (i := c_shelf) (As := [vi (v1), vi (v2), vi (v3)]) (rest := [vi (3), vr G c_facts]) ok_X6_heldBy ml_X10_233 dX10_gatherCamp_94 (sN_c_shelf hS) (sT_c_shelf hS) (by decide) rfl rfl rfl ⟨rfl, rfl⟩ ⟨by decide, by decide⟩ ⟨Nat.le_refl _, Nat.le_refl _⟩ (Nat.le_of_ble_eq_true rfl) rfl h (fun r16 I15 h => ?_)
  refine y_iast (pc := 97) (i := c_facts) (n := 10) dX10_gatherCamp_97 (sN_c_facts hS) (sT_c_facts hS) (sL_c_facts hS) (inb_nat (k := 3) (by decide) (by decide)) ?_
  rw [show ix 3 = 3 from rfl]
  have h := h _ rfl
  generalize up I15 c_facts 3 (r16) = I17 at h ⊢
  refine x_aload_n (pc := 98) dX10_gatherCamp_98 rfl rfl ?_
  refine x_getR (pc := 99) (i := c_obj) (a := c_facts) fl_X10_53 dX10_gatherCamp_99 (sN_c_obj hS) (sT_c_obj hS) rfl (sR_c_obj_7 hS) ?_
  refine x_iconst (pc := 102) dX10_gatherCamp_102 ?_
  refine x_aload (pc := 103) dX10_gatherCamp_103 rfl ?_
  refine x_iload_n (pc := 105) dX10_gatherCamp_105 rfl rfl ?_
  refine x_iload_n (pc := 106) dX10_gatherCamp_106 rfl rfl ?_
  refine x_iload_n (pc := 107) dX10_gatherCamp_107 rfl rfl ?_
  refine x_aload_n (pc := 108) dX10_gatherCamp_108 rfl rfl ?_
  refine x_getR (pc := 109) (i := c_obj) (a := c_told) fl_X10_12 dX10_gatherCamp_109 (sN_c_obj hS) (sT_c_obj hS) rfl (sR_c_obj_0 hS) ?_
  refine x_getR (pc := 112) (i := c_told) (a := c_land) fl_X10_60 dX10_gatherCamp_112 (sN_c_told hS) (sT_c_told hS) rfl (sR_c_told_0 hS) ?_
  refine x_getR (pc := 115) (i := c_land) (a := c_land_dry) fl_X10_109 dX10_gatherCamp_115 (sN_c_land hS) (sT_c_land hS) rfl (sR_c_land_8 hS) ?_
  refine y_Vi (pc := 118) (i := c_shelf) (As := [vi (v1), vi (v2), vi (v3), vr G c_land_dry]) (rest := [vi (4), vr G c_facts]) ok_X6_lateWith ml_X10_236 dX10_gatherCamp_118 (sN_c_shelf hS) (sT_c_shelf hS) (by decide) rfl rfl rfl ⟨rfl, rfl⟩ ⟨by decide, by decide⟩ ⟨Nat.le_refl _, Nat.le_refl _⟩ (Nat.le_of_ble_eq_true rfl) rfl h (fun r19 I18 h => ?_)
  refine y_iast (pc := 121) (i := c_facts) (n := 10) dX10_gatherCamp_121 (sN_c_facts hS) (sT_c_facts hS) (sL_c_facts hS) (inb_nat (k := 4) (by decide) (by decide)) ?_
  rw [show ix 4 = 4 from rfl]
  have h := h _ rfl
  generalize up I18 c_facts 4 (r19) = I20 at h ⊢
  refine x_aload_n (pc := 122) dX10_gatherCamp_122 rfl rfl ?_
  refine x_getR (pc := 123) (i := c_obj) (a := c_facts) fl_X10_53 dX10_gatherCamp_123 (sN_c_obj hS) (sT_c_obj hS) rfl (sR_c_obj_7 hS) ?_
  refine x_bipush (pc := 126) dX10_gatherCamp_126 (by decide) ?_
  refine x_aload (pc := 128) dX10_gatherCamp_128 rfl ?_
  refine x_iload_n (pc := 130) dX10_gatherCamp_130 rfl rfl ?_
  refine x_iload_n (pc := 131) dX10_gatherCamp_131 rfl rfl ?_
  refine x_iload_n (pc := 132) dX10_gatherCamp_132 rfl rfl ?_
  refine y_Vi (pc := 133) (i := c_shelf) (As := [vi (v1), vi (v2), vi (v3)]) (rest := [vi (8), vr G c_facts]) ok_X6_tornBy ml_X10_239 dX10_gatherCamp_133 (sN_c_shelf hS) (sT_c_shelf hS) (by decide) rfl rfl rfl ⟨rfl, rfl⟩ ⟨by decide, by decide⟩ ⟨Nat.le_refl _, Nat.le_refl _⟩ (Nat.le_of_ble_eq_true rfl) rfl h (fun r22 I21 h => ?_)
  refine y_iast (pc := 136) (i := c_facts) (n := 10) dX10_gatherCamp_136 (sN_c_facts hS) (sT_c_facts hS) (sL_c_facts hS) (inb_nat (k := 8) (by decide) (by decide)) ?_
  rw [show ix 8 = 8 from rfl]
  have h := h _ rfl
  generalize up I21 c_facts 8 (r22) = I23 at h ⊢
  refine x_aload_n (pc := 137) dX10_gatherCamp_137 rfl rfl ?_
  refine x_getR (pc := 138) (i := c_obj) (a := c_facts) fl_X10_53 dX10_gatherCamp_138 (sN_c_obj hS) (sT_c_obj hS) rfl (sR_c_obj_7 hS) ?_
  refine x_bipush (pc := 141) dX10_gatherCamp_141 (by decide) ?_
  refine x_iload_n (pc := 143) dX10_gatherCamp_143 rfl rfl ?_
  refine y_iast (pc := 144) (i := c_facts) (n := 10) dX10_gatherCamp_144 (sN_c_facts hS) (sT_c_facts hS) (sL_c_facts hS) (inb_nat (k := 9) (by decide) (by decide)) ?_
  rw [show ix 9 = 9 from rfl]
  have h := h _ rfl
  generalize up I23 c_facts 9 (v2) = I24 at h ⊢
  exact y_vret (pc := 145) dX10_gatherCamp_145 rfl ⟨Nat.le_refl _, Nat.le_refl _⟩ h
set_option maxHeartbeats 4000000 in
set_option maxRecDepth 100000 in
theorem b_H_giver {G : XG} {S : XS} {I : XI} {v1 : Int} {R : Int → XI → Prop} (hS : xSh S)  (h : H_isIn G S I (v1) (0) (7) (fun r2 I1 => ((w32 (r2) = 0 → R ((-1)) I1) ∧ (¬ (w32 (r2) = 0) → Re_readersOf G S I1 (v1) (fun r4 I3 => H_isFew G S I3 (r4) (fun r6 I5 => ((w32 (r6) = 0 → H_hiddenBesides G S I5 (fun r8 I7 => ((w32 (v1) = w32 (r8) → R ((-3)) I7) ∧ (¬ (w32 (v1) = w32 (r8)) → R (r4) I7)))) ∧ (¬ (w32 (r6) = 0) → R ((-3)) I5)))))))) : H_giver G S I v1 R := by
  refine x_start [some (vr G c_obj), some (vi (v1)), none] (by decide) (Nat.le_of_ble_eq_true rfl) rfl ?_
  refine x_iload_n (pc := 0) dX10_giver_0 rfl rfl ?_
  refine x_iconst (pc := 1) dX10_giver_1 ?_
  refine x_bipush (pc := 2) dX10_giver_2 (by decide) ?_
  refine y_Si (pc := 4) (As := [vi (v1), vi (0), vi (7)]) (rest := []) ok_X10_isIn ml_X10_77 dX10_giver_4 rfl ⟨rfl, rfl⟩ ⟨by decide, by decide⟩ ⟨Nat.le_refl _, Nat.le_refl _⟩ (Nat.le_of_ble_eq_true rfl) rfl h (fun r2 I1 h => ?_)
  refine x_if_ne (pc := 7) (t := 12) dX10_giver_7 (by decide) (fun e => ?_) (fun e => ?_)
  · have h := h.1 e
    refine x_iconst (pc := 10) dX10_giver_10 ?_
    exact y_iret (pc := 11) dX10_giver_11 rfl ⟨Nat.le_refl _, Nat.le_refl _⟩ h
  · have h := h.2 e
    refine x_aload_n (pc := 12) dX10_giver_12 rfl rfl ?_
    refine x_getR (pc := 13) (i := c_obj) (a := c_told) fl_X10_12 dX10_giver_13 (sN_c_obj hS) (sT_c_obj hS) rfl (sR_c_obj_0 hS) ?_
    refine x_getR (pc := 16) (i := c_told) (a := c_readers) fl_X10_310 dX10_giver_16 (sN_c_told hS) (sT_c_told hS) rfl (sR_c_told_4 hS) ?_
    refine x_iload_n (pc := 19) dX10_giver_19 rfl rfl ?_
    refine x_aload_n (pc := 20) dX10_giver_20 rfl rfl ?_
    refine x_getR (pc := 21) (i := c_obj) (a := c_told) fl_X10_12 dX10_giver_21 (sN_c_obj hS) (sT_c_obj hS) rfl (sR_c_obj_0 hS) ?_
    refine x_getR (pc := 24) (i := c_told) (a := c_shelf) fl_X10_154 dX10_giver_24 (sN_c_told hS) (sT_c_told hS) rfl (sR_c_told_2 hS) ?_
    refine y_Vi (pc := 27) (i := c_readers) (As := [vi (v1), vr G c_shelf]) (rest := []) ok_X4_readersOf ml_X10_338 dX10_giver_27 (sN_c_readers hS) (sT_c_readers hS) (by decide) rfl rfl rfl ⟨rfl, rfl⟩ ⟨by decide, by decide⟩ ⟨Nat.le_refl _, Nat.le_refl _⟩ (Nat.le_of_ble_eq_true rfl) rfl h (fun r4 I3 h => ?_)
    refine x_istore_n (pc := 30) (L' := [some (vr G c_obj), some (vi (v1)), some (vi (r4))]) dX10_giver_30 rfl (by decide) (xst1 rfl rfl rfl) ?_
    refine x_iload_n (pc := 31) dX10_giver_31 rfl rfl ?_
    refine y_Si (pc := 32) (As := [vi (r4)]) (rest := []) ok_X10_isFew ml_X10_341 dX10_giver_32 rfl ⟨rfl, rfl⟩ ⟨by decide, by decide⟩ ⟨Nat.le_refl _, Nat.le_refl _⟩ (Nat.le_of_ble_eq_true rfl) rfl h (fun r6 I5 h => ?_)
    refine x_if_ne (pc := 35) (t := 46) dX10_giver_35 (by decide) (fun e => ?_) (fun e => ?_)
    · have h := h.1 e
      refine x_iload_n (pc := 38) dX10_giver_38 rfl rfl ?_
      refine x_aload_n (pc := 39) dX10_giver_39 rfl rfl ?_
      refine y_Vi (pc := 40) (i := c_obj) (As := []) (rest := [vi (v1)]) ok_X10_hiddenBesides ml_X10_344 dX10_giver_40 (sN_c_obj hS) (sT_c_obj hS) (by decide) rfl rfl rfl ⟨rfl, rfl⟩ ⟨by decide, by decide⟩ ⟨Nat.le_refl _, Nat.le_refl _⟩ (Nat.le_of_ble_eq_true rfl) rfl h (fun r8 I7 h => ?_)
      refine x_icmp_ne (pc := 43) (t := 49) dX10_giver_43 (by decide) (fun e => ?_) (fun e => ?_)
      · have h := h.1 e
        refine x_bipush (pc := 46) dX10_giver_46 (by decide) ?_
        exact y_iret (pc := 48) dX10_giver_48 rfl ⟨Nat.le_refl _, Nat.le_refl _⟩ h
      · have h := h.2 e
        refine x_iload_n (pc := 49) dX10_giver_49 rfl rfl ?_
        exact y_iret (pc := 50) dX10_giver_50 rfl ⟨Nat.le_refl _, Nat.le_refl _⟩ h
    · have h := h.2 e
      refine x_bipush (pc := 46) dX10_giver_46 (by decide) ?_
      exact y_iret (pc := 48) dX10_giver_48 rfl ⟨Nat.le_refl _, Nat.le_refl _⟩ h
set_option maxHeartbeats 4000000 in
set_option maxRecDepth 100000 in
theorem b_H_grass {G : XG} {S : XS} {I : XI} {v1 : Int} {v2 : Int} {v3 : Int} {R : Int → XI → Prop} (hS : xSh S)  (h : La_hasCell G S I (v1) (fun r2 I1 => ((w32 (r2) = 0 → R (0) I1) ∧ (¬ (w32 (r2) = 0) → H_isWeek G S I1 (v2) (fun r4 I3 => ((w32 (r4) = 0 → R (0) I3) ∧ (¬ (w32 (r4) = 0) → H_isIn G S I3 (v3) (0) (99) (fun r6 I5 => ((w32 (r6) = 0 → R (0) I5) ∧ (¬ (w32 (r6) = 0) → H_forgetParts G S I5 (fun I7 => La_addGrass G S I7 (v1) (v2) (v3) (I7 c_told 9) (fun r9 I8 => (((r9) = 0 ∨ (r9) = 1) ∧ R (r9) I8))))))))))))) : H_grass G S I v1 v2 v3 R := by
  refine x_start [some (vr G c_obj), some (vi (v1)), some (vi (v2)), some (vi (v3))] (by decide) (Nat.le_of_ble_eq_true rfl) rfl ?_
  refine x_aload_n (pc := 0) dX10_grass_0 rfl rfl ?_
  refine x_getR (pc := 1) (i := c_obj) (a := c_told) fl_X10_12 dX10_grass_1 (sN_c_obj hS) (sT_c_obj hS) rfl (sR_c_obj_0 hS) ?_
  refine x_getR (pc := 4) (i := c_told) (a := c_land) fl_X10_60 dX10_grass_4 (sN_c_told hS) (sT_c_told hS) rfl (sR_c_told_0 hS) ?_
  refine x_iload_n (pc := 7) dX10_grass_7 rfl rfl ?_
  refine y_Vi (pc := 8) (i := c_land) (As := [vi (v1)]) (rest := []) ok_X2_hasCell ml_X10_73 dX10_grass_8 (sN_c_land hS) (sT_c_land hS) (by decide) rfl rfl rfl ⟨rfl, rfl⟩ ⟨by decide, by decide⟩ ⟨Nat.le_refl _, Nat.le_refl _⟩ (Nat.le_of_ble_eq_true rfl) rfl h (fun r2 I1 h => ?_)
  refine x_if_eq (pc := 11) (t := 31) dX10_grass_11 (by decide) (fun e => ?_) (fun e => ?_)
  · have h := h.1 e
    refine x_iconst (pc := 31) dX10_grass_31 ?_
    exact y_zret (pc := 32) dX10_grass_32 rfl ⟨Nat.le_refl _, Nat.le_refl _⟩ (Or.inl rfl) h
  · have h := h.2 e
    refine x_iload_n (pc := 14) dX10_grass_14 rfl rfl ?_
    refine y_Si (pc := 15) (As := [vi (v2)]) (rest := []) ok_X10_isWeek ml_X10_102 dX10_grass_15 rfl ⟨rfl, rfl⟩ ⟨by decide, by decide⟩ ⟨Nat.le_refl _, Nat.le_refl _⟩ (Nat.le_of_ble_eq_true rfl) rfl h (fun r4 I3 h => ?_)
    refine x_if_eq (pc := 18) (t := 31) dX10_grass_18 (by decide) (fun e => ?_) (fun e => ?_)
    · have h := h.1 e
      refine x_iconst (pc := 31) dX10_grass_31 ?_
      exact y_zret (pc := 32) dX10_grass_32 rfl ⟨Nat.le_refl _, Nat.le_refl _⟩ (Or.inl rfl) h
    · have h := h.2 e
      refine x_iload_n (pc := 21) dX10_grass_21 rfl rfl ?_
      refine x_iconst (pc := 22) dX10_grass_22 ?_
      refine x_bipush (pc := 23) dX10_grass_23 (by decide) ?_
      refine y_Si (pc := 25) (As := [vi (v3), vi (0), vi (99)]) (rest := []) ok_X10_isIn ml_X10_77 dX10_grass_25 rfl ⟨rfl, rfl⟩ ⟨by decide, by decide⟩ ⟨Nat.le_refl _, Nat.le_refl _⟩ (Nat.le_of_ble_eq_true rfl) rfl h (fun r6 I5 h => ?_)
      refine x_if_ne (pc := 28) (t := 33) dX10_grass_28 (by decide) (fun e => ?_) (fun e => ?_)
      · have h := h.1 e
        refine x_iconst (pc := 31) dX10_grass_31 ?_
        exact y_zret (pc := 32) dX10_grass_32 rfl ⟨Nat.le_refl _, Nat.le_refl _⟩ (Or.inl rfl) h
      · have h := h.2 e
        refine x_aload_n (pc := 33) dX10_grass_33 rfl rfl ?_
        refine y_Vv (pc := 34) (i := c_obj) (As := []) (rest := []) ok_X10_forgetParts ml_X10_85 dX10_grass_34 (sN_c_obj hS) (sT_c_obj hS) (by decide) rfl rfl rfl ⟨rfl, rfl⟩ ⟨by decide, by decide⟩ ⟨Nat.le_refl _, Nat.le_refl _⟩ (Nat.le_of_ble_eq_true rfl) rfl h (fun I7 h => ?_)
        refine x_aload_n (pc := 37) dX10_grass_37 rfl rfl ?_
        refine x_getR (pc := 38) (i := c_obj) (a := c_told) fl_X10_12 dX10_grass_38 (sN_c_obj hS) (sT_c_obj hS) rfl (sR_c_obj_0 hS) ?_
        refine x_getR (pc := 41) (i := c_told) (a := c_land) fl_X10_60 dX10_grass_41 (sN_c_told hS) (sT_c_told hS) rfl (sR_c_told_0 hS) ?_
        refine x_iload_n (pc := 44) dX10_grass_44 rfl rfl ?_
        refine x_iload_n (pc := 45) dX10_grass_45 rfl rfl ?_
        refine x_iload_n (pc := 46) dX10_grass_46 rfl rfl ?_
        refine x_aload_n (pc := 47) dX10_grass_47 rfl rfl ?_
        refine x_getR (pc := 48) (i := c_obj) (a := c_told) fl_X10_12 dX10_grass_48 (sN_c_obj hS) (sT_c_obj hS) rfl (sR_c_obj_0 hS) ?_
        refine x_getI (pc := 51) (i := c_told) fl_X10_92 dX10_grass_51 (sN_c_told hS) (sT_c_told hS) rfl ?_
        refine y_Vi (pc := 54) (i := c_land) (As := [vi (v1), vi (v2), vi (v3), vi (I7 c_told 9)]) (rest := []) ok_X2_addGrass ml_X10_105 dX10_grass_54 (sN_c_land hS) (sT_c_land hS) (by decide) rfl rfl rfl ⟨rfl, rfl⟩ ⟨by decide, by decide⟩ ⟨Nat.le_refl _, Nat.le_refl _⟩ (Nat.le_of_ble_eq_true rfl) rfl h (fun r9 I8 h => ?_)
        exact y_zret (pc := 57) dX10_grass_57 rfl ⟨Nat.le_refl _, Nat.le_refl _⟩ h.1 h.2
set_option maxHeartbeats 4000000 in
set_option maxRecDepth 100000 in
theorem b_H_had {G : XG} {S : XS} {I : XI} {v1 : Int} {v2 : Int} {R : Int → XI → Prop} (hS : xSh S)  (h : Sh_hasBook G S I (v1) (fun r2 I1 => ((w32 (r2) = 0 → R ((-1)) I1) ∧ (¬ (w32 (r2) = 0) → H_limit G S I1 (fun r4 I3 => Sh_holderInRow G S I3 (v1) (v2) (r4) (fun r6 I5 => R (r6) I5)))))) : H_had G S I v1 v2 R := by
  refine x_start [some (vr G c_obj), some (vi (v1)), some (vi (v2))] (by decide) (Nat.le_of_ble_eq_true rfl) rfl ?_
  refine x_aload_n (pc := 0) dX10_had_0 rfl rfl ?_
  refine x_getR (pc := 1) (i := c_obj) (a := c_told) fl_X10_12 dX10_had_1 (sN_c_obj hS) (sT_c_obj hS) rfl (sR_c_obj_0 hS) ?_
  refine x_getR (pc := 4) (i := c_told) (a := c_shelf) fl_X10_154 dX10_had_4 (sN_c_told hS) (sT_c_told hS) rfl (sR_c_told_2 hS) ?_
  refine x_iload_n (pc := 7) dX10_had_7 rfl rfl ?_
  refine y_Vi (pc := 8) (i := c_shelf) (As := [vi (v1)]) (rest := []) ok_X6_hasBook ml_X10_168 dX10_had_8 (sN_c_shelf hS) (sT_c_shelf hS) (by decide) rfl rfl rfl ⟨rfl, rfl⟩ ⟨by decide, by decide⟩ ⟨Nat.le_refl _, Nat.le_refl _⟩ (Nat.le_of_ble_eq_true rfl) rfl h (fun r2 I1 h => ?_)
  refine x_if_eq (pc := 11) (t := 33) dX10_had_11 (by decide) (fun e => ?_) (fun e => ?_)
  · have h := h.1 e
    refine x_iconst (pc := 33) dX10_had_33 ?_
    exact y_iret (pc := 34) dX10_had_34 rfl ⟨Nat.le_refl _, Nat.le_refl _⟩ h
  · have h := h.2 e
    refine x_aload_n (pc := 14) dX10_had_14 rfl rfl ?_
    refine x_getR (pc := 15) (i := c_obj) (a := c_told) fl_X10_12 dX10_had_15 (sN_c_obj hS) (sT_c_obj hS) rfl (sR_c_obj_0 hS) ?_
    refine x_getR (pc := 18) (i := c_told) (a := c_shelf) fl_X10_154 dX10_had_18 (sN_c_told hS) (sT_c_told hS) rfl (sR_c_told_2 hS) ?_
    refine x_iload_n (pc := 21) dX10_had_21 rfl rfl ?_
    refine x_iload_n (pc := 22) dX10_had_22 rfl rfl ?_
    refine x_aload_n (pc := 23) dX10_had_23 rfl rfl ?_
    refine y_Vi (pc := 24) (i := c_obj) (As := []) (rest := [vi (v2), vi (v1), vr G c_shelf]) ok_X10_limit ml_X10_132 dX10_had_24 (sN_c_obj hS) (sT_c_obj hS) (by decide) rfl rfl rfl ⟨rfl, rfl⟩ ⟨by decide, by decide⟩ ⟨Nat.le_refl _, Nat.le_refl _⟩ (Nat.le_of_ble_eq_true rfl) rfl h (fun r4 I3 h => ?_)
    refine y_Vi (pc := 27) (i := c_shelf) (As := [vi (v1), vi (v2), vi (r4)]) (rest := []) ok_X6_holderInRow ml_X10_226 dX10_had_27 (sN_c_shelf hS) (sT_c_shelf hS) (by decide) rfl rfl rfl ⟨rfl, rfl⟩ ⟨by decide, by decide⟩ ⟨Nat.le_refl _, Nat.le_refl _⟩ (Nat.le_of_ble_eq_true rfl) rfl h (fun r6 I5 h => ?_)
    refine x_goto (pc := 30) (t := 34) dX10_had_30 (by decide) ?_
    exact y_iret (pc := 34) dX10_had_34 rfl ⟨Nat.le_refl _, Nat.le_refl _⟩ h
set_option maxHeartbeats 4000000 in
set_option maxRecDepth 100000 in
theorem b_H_hiddenBesides {G : XG} {S : XS} {I : XI}  {R : Int → XI → Prop} (hS : xSh S)  (h : H_hiddenBesides_k10 G S I (0) ((-1)) (13) (0) R) : H_hiddenBesides G S I  R := by
  refine x_start [some (vr G c_obj), none, none, none, none, none] (by decide) (Nat.le_of_ble_eq_true rfl) rfl ?_
  refine x_iconst (pc := 0) dX10_hiddenBesides_0 ?_
  refine x_istore_n (pc := 1) (L' := [some (vr G c_obj), some (vi (0)), none, none, none, none]) dX10_hiddenBesides_1 rfl (by decide) (xst1 rfl rfl rfl) ?_
  refine x_iconst (pc := 2) dX10_hiddenBesides_2 ?_
  refine x_istore_n (pc := 3) (L' := [some (vr G c_obj), some (vi (0)), some (vi ((-1))), none, none, none]) dX10_hiddenBesides_3 rfl (by decide) (xst1 rfl rfl rfl) ?_
  refine x_bipush (pc := 4) dX10_hiddenBesides_4 (by decide) ?_
  refine x_istore_n (pc := 6) (L' := [some (vr G c_obj), some (vi (0)), some (vi ((-1))), some (vi (13)), none, none]) dX10_hiddenBesides_6 rfl (by decide) (xst1 rfl rfl rfl) ?_
  refine x_iconst (pc := 7) dX10_hiddenBesides_7 ?_
  refine x_istore (pc := 8) (L' := [some (vr G c_obj), some (vi (0)), some (vi ((-1))), some (vi (13)), some (vi (0)), none]) dX10_hiddenBesides_8 (by decide) (xst1 rfl rfl rfl) ?_
  exact h
set_option maxHeartbeats 4000000 in
set_option maxRecDepth 100000 in
theorem b_H_hiddenBesides_k10 {G : XG} {S : XS}  {I : XI} {v1 : Int} {v2 : Int} {v3 : Int} {v4 : Int} {R : Int → XI → Prop} (hS : xSh S)  (h : ((w32 (8) ≤ w32 (v4) → ((w32 (v1) = w32 (1) → R (v2) I) ∧ (¬ (w32 (v1) = w32 (1)) → R ((-1)) I))) ∧ (¬ (w32 (8) ≤ w32 (v4)) → Re_readersOf G S I (v4) (fun r2 I1 => H_isFew G S I1 (r2) (fun r4 I3 => ((w32 (r4) = 0 → ((w32 (r2) ≤ 0 → H_hiddenBesides_k10 G S I3 (v1) (v2) (v3) (v4 + 1) R) ∧ (¬ (w32 (r2) ≤ 0) → ((w32 (v3) ≤ w32 (r2) → H_hiddenBesides_k10 G S I3 (v1) (v2) (v3) (v4 + 1) R) ∧ (¬ (w32 (v3) ≤ w32 (r2)) → H_hiddenBesides_k10 G S I3 (v1) (v4) (r2) (v4 + 1) R))))) ∧ (¬ (w32 (r4) = 0) → H_hiddenBesides_k10 G S I3 (v1 + 1) (v2) (v3) (v4 + 1) R))))))) : H_hiddenBesides_k10 G S  I v1 v2 v3 v4 R := by
  unfold H_hiddenBesides_k10
  refine x_iload (pc := 10) dX10_hiddenBesides_10 rfl ?_
  refine x_bipush (pc := 12) dX10_hiddenBesides_12 (by decide) ?_
  refine x_icmp_ge (pc := 14) (t := 75) dX10_hiddenBesides_14 (by decide) (fun e => ?_) (fun e => ?_)
  · have h := h.1 e
    refine x_iload_n (pc := 75) dX10_hiddenBesides_75 rfl rfl ?_
    refine x_iconst (pc := 76) dX10_hiddenBesides_76 ?_
    refine x_icmp_ne (pc := 77) (t := 84) dX10_hiddenBesides_77 (by decide) (fun e => ?_) (fun e => ?_)
    · have h := h.1 e
      refine x_iload_n (pc := 80) dX10_hiddenBesides_80 rfl rfl ?_
      refine x_goto (pc := 81) (t := 85) dX10_hiddenBesides_81 (by decide) ?_
      exact y_iret (pc := 85) dX10_hiddenBesides_85 rfl ⟨Nat.le_refl _, Nat.le_refl _⟩ h
    · have h := h.2 e
      refine x_iconst (pc := 84) dX10_hiddenBesides_84 ?_
      exact y_iret (pc := 85) dX10_hiddenBesides_85 rfl ⟨Nat.le_refl _, Nat.le_refl _⟩ h
  · have h := h.2 e
    refine x_aload_n (pc := 17) dX10_hiddenBesides_17 rfl rfl ?_
    refine x_getR (pc := 18) (i := c_obj) (a := c_told) fl_X10_12 dX10_hiddenBesides_18 (sN_c_obj hS) (sT_c_obj hS) rfl (sR_c_obj_0 hS) ?_
    refine x_getR (pc := 21) (i := c_told) (a := c_readers) fl_X10_310 dX10_hiddenBesides_21 (sN_c_told hS) (sT_c_told hS) rfl (sR_c_told_4 hS) ?_
    refine x_iload (pc := 24) dX10_hiddenBesides_24 rfl ?_
    refine x_aload_n (pc := 26) dX10_hiddenBesides_26 rfl rfl ?_
    refine x_getR (pc := 27) (i := c_obj) (a := c_told) fl_X10_12 dX10_hiddenBesides_27 (sN_c_obj hS) (sT_c_obj hS) rfl (sR_c_obj_0 hS) ?_
    refine x_getR (pc := 30) (i := c_told) (a := c_shelf) fl_X10_154 dX10_hiddenBesides_30 (sN_c_told hS) (sT_c_told hS) rfl (sR_c_told_2 hS) ?_
    refine y_Vi (pc := 33) (i := c_readers) (As := [vi (v4), vr G c_shelf]) (rest := []) ok_X4_readersOf ml_X10_338 dX10_hiddenBesides_33 (sN_c_readers hS) (sT_c_readers hS) (by decide) rfl rfl rfl ⟨rfl, rfl⟩ ⟨by decide, by decide⟩ ⟨Nat.le_refl _, Nat.le_refl _⟩ (Nat.le_of_ble_eq_true rfl) rfl h (fun r2 I1 h => ?_)
    refine x_istore (pc := 36) (L' := [some (vr G c_obj), some (vi (v1)), some (vi (v2)), some (vi (v3)), some (vi (v4)), some (vi (r2))]) dX10_hiddenBesides_36 (by decide) (xst1 rfl rfl rfl) ?_
    refine x_iload (pc := 38) dX10_hiddenBesides_38 rfl ?_
    refine y_Si (pc := 40) (As := [vi (r2)]) (rest := []) ok_X10_isFew ml_X10_341 dX10_hiddenBesides_40 rfl ⟨rfl, rfl⟩ ⟨by decide, by decide⟩ ⟨Nat.le_refl _, Nat.le_refl _⟩ (Nat.le_of_ble_eq_true rfl) rfl h (fun r4 I3 h => ?_)
    refine x_if_eq (pc := 43) (t := 52) dX10_hiddenBesides_43 (by decide) (fun e => ?_) (fun e => ?_)
    · have h := h.1 e
      refine x_iload (pc := 52) dX10_hiddenBesides_52 rfl ?_
      refine x_if_le (pc := 54) (t := 69) dX10_hiddenBesides_54 (by decide) (fun e => ?_) (fun e => ?_)
      · have h := h.1 e
        refine x_iinc (pc := 69) (L' := [some (vr G c_obj), some (vi (v1)), some (vi (v2)), some (vi (v3)), some (vi (v4 + 1)), some (vi (r2))]) dX10_hiddenBesides_69 rfl (by decide) (xst1 rfl rfl rfl) ?_
        refine x_goto (pc := 72) (t := 10) dX10_hiddenBesides_72 (by decide) ?_
        refine x_less (L' := [some (vr G c_obj), some (vi (v1)), some (vi (v2)), some (vi (v3)), some (vi (v4 + 1)), none]) (And.intro rfl (And.intro rfl (And.intro rfl (And.intro rfl (And.intro rfl trivial))))) ?_
        exact h
      · have h := h.2 e
        refine x_iload (pc := 57) dX10_hiddenBesides_57 rfl ?_
        refine x_iload_n (pc := 59) dX10_hiddenBesides_59 rfl rfl ?_
        refine x_icmp_ge (pc := 60) (t := 69) dX10_hiddenBesides_60 (by decide) (fun e => ?_) (fun e => ?_)
        · have h := h.1 e
          refine x_iinc (pc := 69) (L' := [some (vr G c_obj), some (vi (v1)), some (vi (v2)), some (vi (v3)), some (vi (v4 + 1)), some (vi (r2))]) dX10_hiddenBesides_69 rfl (by decide) (xst1 rfl rfl rfl) ?_
          refine x_goto (pc := 72) (t := 10) dX10_hiddenBesides_72 (by decide) ?_
          refine x_less (L' := [some (vr G c_obj), some (vi (v1)), some (vi (v2)), some (vi (v3)), some (vi (v4 + 1)), none]) (And.intro rfl (And.intro rfl (And.intro rfl (And.intro rfl (And.intro rfl trivial))))) ?_
          exact h
        · have h := h.2 e
          refine x_iload (pc := 63) dX10_hiddenBesides_63 rfl ?_
          refine x_istore_n (pc := 65) (L' := [some (vr G c_obj), some (vi (v1)), some (vi (v4)), some (vi (v3)), some (vi (v4)), some (vi (r2))]) dX10_hiddenBesides_65 rfl (by decide) (xst1 rfl rfl rfl) ?_
          refine x_iload (pc := 66) dX10_hiddenBesides_66 rfl ?_
          refine x_istore_n (pc := 68) (L' := [some (vr G c_obj), some (vi (v1)), some (vi (v4)), some (vi (r2)), some (vi (v4)), some (vi (r2))]) dX10_hiddenBesides_68 rfl (by decide) (xst1 rfl rfl rfl) ?_
          refine x_iinc (pc := 69) (L' := [some (vr G c_obj), some (vi (v1)), some (vi (v4)), some (vi (r2)), some (vi (v4 + 1)), some (vi (r2))]) dX10_hiddenBesides_69 rfl (by decide) (xst1 rfl rfl rfl) ?_
          refine x_goto (pc := 72) (t := 10) dX10_hiddenBesides_72 (by decide) ?_
          refine x_less (L' := [some (vr G c_obj), some (vi (v1)), some (vi (v4)), some (vi (r2)), some (vi (v4 + 1)), none]) (And.intro rfl (And.intro rfl (And.intro rfl (And.intro rfl (And.intro rfl trivial))))) ?_
          exact h
    · have h := h.2 e
      refine x_iinc (pc := 46) (L' := [some (vr G c_obj), some (vi (v1 + 1)), some (vi (v2)), some (vi (v3)), some (vi (v4)), some (vi (r2))]) dX10_hiddenBesides_46 rfl (by decide) (xst1 rfl rfl rfl) ?_
      refine x_goto (pc := 49) (t := 69) dX10_hiddenBesides_49 (by decide) ?_
      refine x_iinc (pc := 69) (L' := [some (vr G c_obj), some (vi (v1 + 1)), some (vi (v2)), some (vi (v3)), some (vi (v4 + 1)), some (vi (r2))]) dX10_hiddenBesides_69 rfl (by decide) (xst1 rfl rfl rfl) ?_
      refine x_goto (pc := 72) (t := 10) dX10_hiddenBesides_72 (by decide) ?_
      refine x_less (L' := [some (vr G c_obj), some (vi (v1 + 1)), some (vi (v2)), some (vi (v3)), some (vi (v4 + 1)), none]) (And.intro rfl (And.intro rfl (And.intro rfl (And.intro rfl (And.intro rfl trivial))))) ?_
      exact h
set_option maxHeartbeats 4000000 in
set_option maxRecDepth 100000 in
theorem b_H_house {G : XG} {S : XS} {I : XI} {v1 : Int} {v2 : Int} {v3 : Int} {R : Int → XI → Prop} (hS : xSh S)  (h : H_isWeek G S I (v1) (fun r2 I1 => ((w32 (r2) = 0 → R ((-1)) I1) ∧ (¬ (w32 (r2) = 0) → H_isWeek G S I1 (v2) (fun r4 I3 => ((w32 (r4) = 0 → R ((-1)) I3) ∧ (¬ (w32 (r4) = 0) → ((w32 (v2) < w32 (v1) → R ((-1)) I3) ∧ (¬ (w32 (v2) < w32 (v1)) → ((w32 (I3 c_land 0) = 0 → R ((-1)) I3) ∧ (¬ (w32 (I3 c_land 0) = 0) → H_sumParts G S I3 (v1) (v2) (fun I5 => H_house_k46 G S I5 (v3) (0) (1) R)))))))))))) : H_house G S I v1 v2 v3 R := by
  refine x_start [some (vr G c_obj), some (vi (v1)), some (vi (v2)), some (vi (v3)), none, none] (by decide) (Nat.le_of_ble_eq_true rfl) rfl ?_
  refine x_iload_n (pc := 0) dX10_house_0 rfl rfl ?_
  refine y_Si (pc := 1) (As := [vi (v1)]) (rest := []) ok_X10_isWeek ml_X10_102 dX10_house_1 rfl ⟨rfl, rfl⟩ ⟨by decide, by decide⟩ ⟨Nat.le_refl _, Nat.le_refl _⟩ (Nat.le_of_ble_eq_true rfl) rfl h (fun r2 I1 h => ?_)
  refine x_if_eq (pc := 4) (t := 32) dX10_house_4 (by decide) (fun e => ?_) (fun e => ?_)
  · have h := h.1 e
    refine x_iconst (pc := 32) dX10_house_32 ?_
    exact y_iret (pc := 33) dX10_house_33 rfl ⟨Nat.le_refl _, Nat.le_refl _⟩ h
  · have h := h.2 e
    refine x_iload_n (pc := 7) dX10_house_7 rfl rfl ?_
    refine y_Si (pc := 8) (As := [vi (v2)]) (rest := []) ok_X10_isWeek ml_X10_102 dX10_house_8 rfl ⟨rfl, rfl⟩ ⟨by decide, by decide⟩ ⟨Nat.le_refl _, Nat.le_refl _⟩ (Nat.le_of_ble_eq_true rfl) rfl h (fun r4 I3 h => ?_)
    refine x_if_eq (pc := 11) (t := 32) dX10_house_11 (by decide) (fun e => ?_) (fun e => ?_)
    · have h := h.1 e
      refine x_iconst (pc := 32) dX10_house_32 ?_
      exact y_iret (pc := 33) dX10_house_33 rfl ⟨Nat.le_refl _, Nat.le_refl _⟩ h
    · have h := h.2 e
      refine x_iload_n (pc := 14) dX10_house_14 rfl rfl ?_
      refine x_iload_n (pc := 15) dX10_house_15 rfl rfl ?_
      refine x_icmp_gt (pc := 16) (t := 32) dX10_house_16 (by decide) (fun e => ?_) (fun e => ?_)
      · have h := h.1 e
        refine x_iconst (pc := 32) dX10_house_32 ?_
        exact y_iret (pc := 33) dX10_house_33 rfl ⟨Nat.le_refl _, Nat.le_refl _⟩ h
      · have h := h.2 e
        refine x_aload_n (pc := 19) dX10_house_19 rfl rfl ?_
        refine x_getR (pc := 20) (i := c_obj) (a := c_told) fl_X10_12 dX10_house_20 (sN_c_obj hS) (sT_c_obj hS) rfl (sR_c_obj_0 hS) ?_
        refine x_getR (pc := 23) (i := c_told) (a := c_land) fl_X10_60 dX10_house_23 (sN_c_told hS) (sT_c_told hS) rfl (sR_c_told_0 hS) ?_
        refine x_getI (pc := 26) (i := c_land) fl_X10_347 dX10_house_26 (sN_c_land hS) (sT_c_land hS) rfl ?_
        refine x_if_ne (pc := 29) (t := 34) dX10_house_29 (by decide) (fun e => ?_) (fun e => ?_)
        · have h := h.1 e
          refine x_iconst (pc := 32) dX10_house_32 ?_
          exact y_iret (pc := 33) dX10_house_33 rfl ⟨Nat.le_refl _, Nat.le_refl _⟩ h
        · have h := h.2 e
          refine x_aload_n (pc := 34) dX10_house_34 rfl rfl ?_
          refine x_iload_n (pc := 35) dX10_house_35 rfl rfl ?_
          refine x_iload_n (pc := 36) dX10_house_36 rfl rfl ?_
          refine y_Vv (pc := 37) (i := c_obj) (As := [vi (v1), vi (v2)]) (rest := []) ok_X10_sumParts ml_X10_350 dX10_house_37 (sN_c_obj hS) (sT_c_obj hS) (by decide) rfl rfl rfl ⟨rfl, rfl⟩ ⟨by decide, by decide⟩ ⟨Nat.le_refl _, Nat.le_refl _⟩ (Nat.le_of_ble_eq_true rfl) rfl h (fun I5 h => ?_)
          refine x_iconst (pc := 40) dX10_house_40 ?_
          refine x_istore (pc := 41) (L' := [some (vr G c_obj), some (vi (v1)), some (vi (v2)), some (vi (v3)), some (vi (0)), none]) dX10_house_41 (by decide) (xst1 rfl rfl rfl) ?_
          refine x_iconst (pc := 43) dX10_house_43 ?_
          refine x_istore (pc := 44) (L' := [some (vr G c_obj), some (vi (v1)), some (vi (v2)), some (vi (v3)), some (vi (0)), some (vi (1))]) dX10_house_44 (by decide) (xst1 rfl rfl rfl) ?_
          refine x_less (L' := [some (vr G c_obj), none, none, some (vi (v3)), some (vi (0)), some (vi (1))]) (And.intro rfl (And.intro rfl (And.intro rfl (And.intro rfl trivial)))) ?_
          exact h
set_option maxHeartbeats 4000000 in
set_option maxRecDepth 100000 in
theorem b_H_house_k46 {G : XG} {S : XS}  {I : XI} {v3 : Int} {v4 : Int} {v5 : Int} {R : Int → XI → Prop} (hS : xSh S)  (h : ((w32 (I c_land 0) ≤ w32 (v5) → ((w32 (v3) = 0 → R (v4) I) ∧ (w32 (v3) = 1 → (inb (v4) 10 ∧ R (I c_sums (ix (v4))) I)) ∧ (¬ (w32 (v3) = 0) ∧ ¬ (w32 (v3) = 1) → R ((-1)) I))) ∧ (¬ (w32 (I c_land 0) ≤ w32 (v5)) → (inb (v5) 10 ∧ (inb (v4) 10 ∧ ((w32 (I c_sums (ix (v5))) ≤ w32 (I c_sums (ix (v4))) → H_house_k46 G S I (v3) (v4) (v5 + 1) R) ∧ (¬ (w32 (I c_sums (ix (v5))) ≤ w32 (I c_sums (ix (v4)))) → H_house_k46 G S I (v3) (v5) (v5 + 1) R))))))) : H_house_k46 G S  I v3 v4 v5 R := by
  unfold H_house_k46
  refine x_iload (pc := 46) dX10_house_46 rfl ?_
  refine x_aload_n (pc := 48) dX10_house_48 rfl rfl ?_
  refine x_getR (pc := 49) (i := c_obj) (a := c_told) fl_X10_12 dX10_house_49 (sN_c_obj hS) (sT_c_obj hS) rfl (sR_c_obj_0 hS) ?_
  refine x_getR (pc := 52) (i := c_told) (a := c_land) fl_X10_60 dX10_house_52 (sN_c_told hS) (sT_c_told hS) rfl (sR_c_told_0 hS) ?_
  refine x_getI (pc := 55) (i := c_land) fl_X10_347 dX10_house_55 (sN_c_land hS) (sT_c_land hS) rfl ?_
  refine x_icmp_ge (pc := 58) (t := 88) dX10_house_58 (by decide) (fun e => ?_) (fun e => ?_)
  · have h := h.1 e
    refine x_iload_n (pc := 88) dX10_house_88 rfl rfl ?_
    by_cases e0 : w32 (v3) = 0
    · have h := h.1 e0
      refine x_look (pc := 89) (off := 27) (t := 116) dX10_house_89 (by decide) (by rw [e0]; rfl) (by decide) ?_
      refine x_iload (pc := 116) dX10_house_116 rfl ?_
      exact y_iret (pc := 118) dX10_house_118 rfl ⟨Nat.le_refl _, Nat.le_refl _⟩ h
    by_cases e1 : w32 (v3) = 1
    · have h := h.2.1 e1
      refine x_look (pc := 89) (off := 30) (t := 119) dX10_house_89 (by decide) (by rw [e1]; rfl) (by decide) ?_
      refine x_aload_n (pc := 119) dX10_house_119 rfl rfl ?_
      refine x_getR (pc := 120) (i := c_obj) (a := c_sums) fl_X10_57 dX10_house_120 (sN_c_obj hS) (sT_c_obj hS) rfl (sR_c_obj_8 hS) ?_
      refine x_iload (pc := 123) dX10_house_123 rfl ?_
      refine y_iald (pc := 125) (i := c_sums) (n := 10) dX10_house_125 (sN_c_sums hS) (sT_c_sums hS) (sL_c_sums hS) h.1 ?_
      have h := h.2
      exact y_iret (pc := 126) dX10_house_126 rfl ⟨Nat.le_refl _, Nat.le_refl _⟩ h
    have h := h.2.2 ⟨e0, e1⟩
    refine x_look (pc := 89) (off := 38) (t := 127) dX10_house_89 (by decide) (by simp [Op.lookupswitch.offset, Ne.symm e0, Ne.symm e1]) (by decide) ?_
    refine x_iconst (pc := 127) dX10_house_127 ?_
    exact y_iret (pc := 128) dX10_house_128 rfl ⟨Nat.le_refl _, Nat.le_refl _⟩ h
  · have h := h.2 e
    refine x_aload_n (pc := 61) dX10_house_61 rfl rfl ?_
    refine x_getR (pc := 62) (i := c_obj) (a := c_sums) fl_X10_57 dX10_house_62 (sN_c_obj hS) (sT_c_obj hS) rfl (sR_c_obj_8 hS) ?_
    refine x_iload (pc := 65) dX10_house_65 rfl ?_
    refine y_iald (pc := 67) (i := c_sums) (n := 10) dX10_house_67 (sN_c_sums hS) (sT_c_sums hS) (sL_c_sums hS) h.1 ?_
    have h := h.2
    refine x_aload_n (pc := 68) dX10_house_68 rfl rfl ?_
    refine x_getR (pc := 69) (i := c_obj) (a := c_sums) fl_X10_57 dX10_house_69 (sN_c_obj hS) (sT_c_obj hS) rfl (sR_c_obj_8 hS) ?_
    refine x_iload (pc := 72) dX10_house_72 rfl ?_
    refine y_iald (pc := 74) (i := c_sums) (n := 10) dX10_house_74 (sN_c_sums hS) (sT_c_sums hS) (sL_c_sums hS) h.1 ?_
    have h := h.2
    refine x_icmp_le (pc := 75) (t := 82) dX10_house_75 (by decide) (fun e => ?_) (fun e => ?_)
    · have h := h.1 e
      refine x_iinc (pc := 82) (L' := [some (vr G c_obj), none, none, some (vi (v3)), some (vi (v4)), some (vi (v5 + 1))]) dX10_house_82 rfl (by decide) (xst1 rfl rfl rfl) ?_
      refine x_goto (pc := 85) (t := 46) dX10_house_85 (by decide) ?_
      exact h
    · have h := h.2 e
      refine x_iload (pc := 78) dX10_house_78 rfl ?_
      refine x_istore (pc := 80) (L' := [some (vr G c_obj), none, none, some (vi (v3)), some (vi (v5)), some (vi (v5))]) dX10_house_80 (by decide) (xst1 rfl rfl rfl) ?_
      refine x_iinc (pc := 82) (L' := [some (vr G c_obj), none, none, some (vi (v3)), some (vi (v5)), some (vi (v5 + 1))]) dX10_house_82 rfl (by decide) (xst1 rfl rfl rfl) ?_
      refine x_goto (pc := 85) (t := 46) dX10_house_85 (by decide) ?_
      exact h
set_option maxHeartbeats 4000000 in
set_option maxRecDepth 100000 in
theorem b_H_isFew {G : XG} {S : XS} {I : XI} {v0 : Int} {R : Int → XI → Prop} (hS : xSh S)  (h : ((w32 (v0) = w32 (1) → R (1) I) ∧ (¬ (w32 (v0) = w32 (1)) → ((w32 (v0) = w32 (2) → R (1) I) ∧ (¬ (w32 (v0) = w32 (2)) → R (0) I))))) : H_isFew G S I v0 R := by
  refine x_start [some (vi (v0))] (by decide) (Nat.le_of_ble_eq_true rfl) rfl ?_
  refine x_iload_n (pc := 0) dX10_isFew_0 rfl rfl ?_
  refine x_iconst (pc := 1) dX10_isFew_1 ?_
  refine x_icmp_eq (pc := 2) (t := 10) dX10_isFew_2 (by decide) (fun e => ?_) (fun e => ?_)
  · have h := h.1 e
    refine x_iconst (pc := 10) dX10_isFew_10 ?_
    refine x_goto (pc := 11) (t := 15) dX10_isFew_11 (by decide) ?_
    exact y_zret (pc := 15) dX10_isFew_15 rfl ⟨Nat.le_refl _, Nat.le_refl _⟩ (Or.inr rfl) h
  · have h := h.2 e
    refine x_iload_n (pc := 5) dX10_isFew_5 rfl rfl ?_
    refine x_iconst (pc := 6) dX10_isFew_6 ?_
    refine x_icmp_ne (pc := 7) (t := 14) dX10_isFew_7 (by decide) (fun e => ?_) (fun e => ?_)
    · have h := h.1 e
      refine x_iconst (pc := 10) dX10_isFew_10 ?_
      refine x_goto (pc := 11) (t := 15) dX10_isFew_11 (by decide) ?_
      exact y_zret (pc := 15) dX10_isFew_15 rfl ⟨Nat.le_refl _, Nat.le_refl _⟩ (Or.inr rfl) h
    · have h := h.2 e
      refine x_iconst (pc := 14) dX10_isFew_14 ?_
      exact y_zret (pc := 15) dX10_isFew_15 rfl ⟨Nat.le_refl _, Nat.le_refl _⟩ (Or.inl rfl) h
set_option maxHeartbeats 4000000 in
set_option maxRecDepth 100000 in
theorem b_H_isIn {G : XG} {S : XS} {I : XI} {v0 : Int} {v1 : Int} {v2 : Int} {R : Int → XI → Prop} (hS : xSh S)  (h : ((w32 (v0) < w32 (v1) → R (0) I) ∧ (¬ (w32 (v0) < w32 (v1)) → ((w32 (v2) < w32 (v0) → R (0) I) ∧ (¬ (w32 (v2) < w32 (v0)) → R (1) I))))) : H_isIn G S I v0 v1 v2 R := by
  refine x_start [some (vi (v0)), some (vi (v1)), some (vi (v2))] (by decide) (Nat.le_of_ble_eq_true rfl) rfl ?_
  refine x_iload_n (pc := 0) dX10_isIn_0 rfl rfl ?_
  refine x_iload_n (pc := 1) dX10_isIn_1 rfl rfl ?_
  refine x_icmp_lt (pc := 2) (t := 14) dX10_isIn_2 (by decide) (fun e => ?_) (fun e => ?_)
  · have h := h.1 e
    refine x_iconst (pc := 14) dX10_isIn_14 ?_
    exact y_zret (pc := 15) dX10_isIn_15 rfl ⟨Nat.le_refl _, Nat.le_refl _⟩ (Or.inl rfl) h
  · have h := h.2 e
    refine x_iload_n (pc := 5) dX10_isIn_5 rfl rfl ?_
    refine x_iload_n (pc := 6) dX10_isIn_6 rfl rfl ?_
    refine x_icmp_gt (pc := 7) (t := 14) dX10_isIn_7 (by decide) (fun e => ?_) (fun e => ?_)
    · have h := h.1 e
      refine x_iconst (pc := 14) dX10_isIn_14 ?_
      exact y_zret (pc := 15) dX10_isIn_15 rfl ⟨Nat.le_refl _, Nat.le_refl _⟩ (Or.inl rfl) h
    · have h := h.2 e
      refine x_iconst (pc := 10) dX10_isIn_10 ?_
      refine x_goto (pc := 11) (t := 15) dX10_isIn_11 (by decide) ?_
      exact y_zret (pc := 15) dX10_isIn_15 rfl ⟨Nat.le_refl _, Nat.le_refl _⟩ (Or.inr rfl) h
set_option maxHeartbeats 4000000 in
set_option maxRecDepth 100000 in
theorem b_H_isPast {G : XG} {S : XS} {I : XI} {v1 : Int} {R : Int → XI → Prop} (hS : xSh S)  (h : H_isIn G S I (v1) (0) (I c_told 9) (fun r2 I1 => (((r2) = 0 ∨ (r2) = 1) ∧ R (r2) I1))) : H_isPast G S I v1 R := by
  refine x_start [some (vr G c_obj), some (vi (v1))] (by decide) (Nat.le_of_ble_eq_true rfl) rfl ?_
  refine x_iload_n (pc := 0) dX10_isPast_0 rfl rfl ?_
  refine x_iconst (pc := 1) dX10_isPast_1 ?_
  refine x_aload_n (pc := 2) dX10_isPast_2 rfl rfl ?_
  refine x_getR (pc := 3) (i := c_obj) (a := c_told) fl_X10_12 dX10_isPast_3 (sN_c_obj hS) (sT_c_obj hS) rfl (sR_c_obj_0 hS) ?_
  refine x_getI (pc := 6) (i := c_told) fl_X10_92 dX10_isPast_6 (sN_c_told hS) (sT_c_told hS) rfl ?_
  refine y_Si (pc := 9) (As := [vi (v1), vi (0), vi (I c_told 9)]) (rest := []) ok_X10_isIn ml_X10_77 dX10_isPast_9 rfl ⟨rfl, rfl⟩ ⟨by decide, by decide⟩ ⟨Nat.le_refl _, Nat.le_refl _⟩ (Nat.le_of_ble_eq_true rfl) rfl h (fun r2 I1 h => ?_)
  exact y_zret (pc := 12) dX10_isPast_12 rfl ⟨Nat.le_refl _, Nat.le_refl _⟩ h.1 h.2
