set_option maxHeartbeats 4000000 in
set_option maxRecDepth 100000 in
theorem b_H_isThere {G : XG} {S : XS} {I : XI} {v1 : Int} {v2 : Int} {R : Int → XI → Prop} (hS : xSh S)  (h : He_hasCamp G S I (v1) (fun r2 I1 => ((w32 (r2) = 0 → R (0) I1) ∧ (¬ (w32 (r2) = 0) → H_isWeek G S I1 (v2) (fun r4 I3 => ((w32 (r4) = 0 → R (0) I3) ∧ (¬ (w32 (r4) = 0) → (inb (v1) 6 ∧ ((w32 (v2) < w32 (I3 c_herds_firstWeeks (ix (v1))) → R (0) I3) ∧ (¬ (w32 (v2) < w32 (I3 c_herds_firstWeeks (ix (v1)))) → R (1) I3)))))))))) : H_isThere G S I v1 v2 R := by
  refine x_start [some (vr G c_obj), some (vi (v1)), some (vi (v2))] (by decide) (Nat.le_of_ble_eq_true rfl) rfl ?_
  refine x_aload_n (pc := 0) dX10_isThere_0 rfl rfl ?_
  refine x_getR (pc := 1) (i := c_obj) (a := c_told) fl_X10_12 dX10_isThere_1 (sN_c_obj hS) (sT_c_obj hS) rfl (sR_c_obj_0 hS) ?_
  refine x_getR (pc := 4) (i := c_told) (a := c_herds) fl_X10_88 dX10_isThere_4 (sN_c_told hS) (sT_c_told hS) rfl (sR_c_told_1 hS) ?_
  refine x_iload_n (pc := 7) dX10_isThere_7 rfl rfl ?_
  refine y_Vi (pc := 8) (i := c_herds) (As := [vi (v1)]) (rest := []) ok_X1_hasCamp ml_X10_118 dX10_isThere_8 (sN_c_herds hS) (sT_c_herds hS) (by decide) rfl rfl rfl ⟨rfl, rfl⟩ ⟨by decide, by decide⟩ ⟨Nat.le_refl _, Nat.le_refl _⟩ (Nat.le_of_ble_eq_true rfl) rfl h (fun r2 I1 h => ?_)
  refine x_if_eq (pc := 11) (t := 41) dX10_isThere_11 (by decide) (fun e => ?_) (fun e => ?_)
  · have h := h.1 e
    refine x_iconst (pc := 41) dX10_isThere_41 ?_
    exact y_zret (pc := 42) dX10_isThere_42 rfl ⟨Nat.le_refl _, Nat.le_refl _⟩ (Or.inl rfl) h
  · have h := h.2 e
    refine x_iload_n (pc := 14) dX10_isThere_14 rfl rfl ?_
    refine y_Si (pc := 15) (As := [vi (v2)]) (rest := []) ok_X10_isWeek ml_X10_102 dX10_isThere_15 rfl ⟨rfl, rfl⟩ ⟨by decide, by decide⟩ ⟨Nat.le_refl _, Nat.le_refl _⟩ (Nat.le_of_ble_eq_true rfl) rfl h (fun r4 I3 h => ?_)
    refine x_if_eq (pc := 18) (t := 41) dX10_isThere_18 (by decide) (fun e => ?_) (fun e => ?_)
    · have h := h.1 e
      refine x_iconst (pc := 41) dX10_isThere_41 ?_
      exact y_zret (pc := 42) dX10_isThere_42 rfl ⟨Nat.le_refl _, Nat.le_refl _⟩ (Or.inl rfl) h
    · have h := h.2 e
      refine x_iload_n (pc := 21) dX10_isThere_21 rfl rfl ?_
      refine x_aload_n (pc := 22) dX10_isThere_22 rfl rfl ?_
      refine x_getR (pc := 23) (i := c_obj) (a := c_told) fl_X10_12 dX10_isThere_23 (sN_c_obj hS) (sT_c_obj hS) rfl (sR_c_obj_0 hS) ?_
      refine x_getR (pc := 26) (i := c_told) (a := c_herds) fl_X10_88 dX10_isThere_26 (sN_c_told hS) (sT_c_told hS) rfl (sR_c_told_1 hS) ?_
      refine x_getR (pc := 29) (i := c_herds) (a := c_herds_firstWeeks) fl_X10_121 dX10_isThere_29 (sN_c_herds hS) (sT_c_herds hS) rfl (sR_c_herds_3 hS) ?_
      refine x_iload_n (pc := 32) dX10_isThere_32 rfl rfl ?_
      refine y_iald (pc := 33) (i := c_herds_firstWeeks) (n := 6) dX10_isThere_33 (sN_c_herds_firstWeeks hS) (sT_c_herds_firstWeeks hS) (sL_c_herds_firstWeeks hS) h.1 ?_
      have h := h.2
      refine x_icmp_lt (pc := 34) (t := 41) dX10_isThere_34 (by decide) (fun e => ?_) (fun e => ?_)
      · have h := h.1 e
        refine x_iconst (pc := 41) dX10_isThere_41 ?_
        exact y_zret (pc := 42) dX10_isThere_42 rfl ⟨Nat.le_refl _, Nat.le_refl _⟩ (Or.inl rfl) h
      · have h := h.2 e
        refine x_iconst (pc := 37) dX10_isThere_37 ?_
        refine x_goto (pc := 38) (t := 42) dX10_isThere_38 (by decide) ?_
        exact y_zret (pc := 42) dX10_isThere_42 rfl ⟨Nat.le_refl _, Nat.le_refl _⟩ (Or.inr rfl) h
set_option maxHeartbeats 4000000 in
set_option maxRecDepth 100000 in
theorem b_H_isWeek {G : XG} {S : XS} {I : XI} {v0 : Int} {R : Int → XI → Prop} (hS : xSh S)  (h : H_isIn G S I (v0) (0) (99) (fun r2 I1 => (((r2) = 0 ∨ (r2) = 1) ∧ R (r2) I1))) : H_isWeek G S I v0 R := by
  refine x_start [some (vi (v0))] (by decide) (Nat.le_of_ble_eq_true rfl) rfl ?_
  refine x_iload_n (pc := 0) dX10_isWeek_0 rfl rfl ?_
  refine x_iconst (pc := 1) dX10_isWeek_1 ?_
  refine x_bipush (pc := 2) dX10_isWeek_2 (by decide) ?_
  refine y_Si (pc := 4) (As := [vi (v0), vi (0), vi (99)]) (rest := []) ok_X10_isIn ml_X10_77 dX10_isWeek_4 rfl ⟨rfl, rfl⟩ ⟨by decide, by decide⟩ ⟨Nat.le_refl _, Nat.le_refl _⟩ (Nat.le_of_ble_eq_true rfl) rfl h (fun r2 I1 h => ?_)
  exact y_zret (pc := 7) dX10_isWeek_7 rfl ⟨Nat.le_refl _, Nat.le_refl _⟩ h.1 h.2
set_option maxHeartbeats 4000000 in
set_option maxRecDepth 100000 in
theorem b_H_learns {G : XG} {S : XS} {I : XI} {v1 : Int} {v2 : Int} {R : Int → XI → Prop} (hS : xSh S)  (h : Re_hasReader G S I (v1) (fun r2 I1 => ((w32 (r2) = 0 → R ((-2)) I1) ∧ (¬ (w32 (r2) = 0) → ((w32 (v2) = 0 → (inb (v1) 12 ∧ R (I1 c_readers_camps (ix (v1))) I1)) ∧ (w32 (v2) = 1 → Re_levelOf G S I1 (v1) (fun r4 I3 => R (r4) I3)) ∧ (w32 (v2) = 2 → (inb (v1) 12 ∧ R (I1 c_readers_books (ix (v1))) I1)) ∧ (w32 (v2) = 3 → H_nextFor G S I1 (v1) (fun r6 I5 => R (r6) I5)) ∧ ((w32 (v2) < 0 ∨ 3 < w32 (v2)) → R ((-2)) I1)))))) : H_learns G S I v1 v2 R := by
  refine x_start [some (vr G c_obj), some (vi (v1)), some (vi (v2)), none] (by decide) (Nat.le_of_ble_eq_true rfl) rfl ?_
  refine x_aload_n (pc := 0) dX10_learns_0 rfl rfl ?_
  refine x_getR (pc := 1) (i := c_obj) (a := c_told) fl_X10_12 dX10_learns_1 (sN_c_obj hS) (sT_c_obj hS) rfl (sR_c_obj_0 hS) ?_
  refine x_getR (pc := 4) (i := c_told) (a := c_readers) fl_X10_310 dX10_learns_4 (sN_c_told hS) (sT_c_told hS) rfl (sR_c_told_4 hS) ?_
  refine x_astore_n (pc := 7) (L' := [some (vr G c_obj), some (vi (v1)), some (vi (v2)), some (vr G c_readers)]) dX10_learns_7 rfl (by decide) (xst1 rfl rfl rfl) ?_
  refine x_aload_n (pc := 8) dX10_learns_8 rfl rfl ?_
  refine x_iload_n (pc := 9) dX10_learns_9 rfl rfl ?_
  refine y_Vi (pc := 10) (i := c_readers) (As := [vi (v1)]) (rest := []) ok_X4_hasReader ml_X10_319 dX10_learns_10 (sN_c_readers hS) (sT_c_readers hS) (by decide) rfl rfl rfl ⟨rfl, rfl⟩ ⟨by decide, by decide⟩ ⟨Nat.le_refl _, Nat.le_refl _⟩ (Nat.le_of_ble_eq_true rfl) rfl h (fun r2 I1 h => ?_)
  refine x_if_ne (pc := 13) (t := 19) dX10_learns_13 (by decide) (fun e => ?_) (fun e => ?_)
  · have h := h.1 e
    refine x_bipush (pc := 16) dX10_learns_16 (by decide) ?_
    exact y_iret (pc := 18) dX10_learns_18 rfl ⟨Nat.le_refl _, Nat.le_refl _⟩ h
  · have h := h.2 e
    refine x_iload_n (pc := 19) dX10_learns_19 rfl rfl ?_
    by_cases e0 : w32 (v2) = 0
    · have h := h.1 e0
      refine x_tabIn (pc := 20) (off := 32) (t := 52) dX10_learns_20 0 e0 (by decide) (by decide) rfl (by decide) ?_
      refine x_aload_n (pc := 52) dX10_learns_52 rfl rfl ?_
      refine x_getR (pc := 53) (i := c_readers) (a := c_readers_camps) fl_X10_328 dX10_learns_53 (sN_c_readers hS) (sT_c_readers hS) rfl (sR_c_readers_1 hS) ?_
      refine x_iload_n (pc := 56) dX10_learns_56 rfl rfl ?_
      refine y_iald (pc := 57) (i := c_readers_camps) (n := 12) dX10_learns_57 (sN_c_readers_camps hS) (sT_c_readers_camps hS) (sL_c_readers_camps hS) h.1 ?_
      have h := h.2
      exact y_iret (pc := 58) dX10_learns_58 rfl ⟨Nat.le_refl _, Nat.le_refl _⟩ h
    by_cases e1 : w32 (v2) = 1
    · have h := h.2.1 e1
      refine x_tabIn (pc := 20) (off := 39) (t := 59) dX10_learns_20 1 e1 (by decide) (by decide) rfl (by decide) ?_
      refine x_aload_n (pc := 59) dX10_learns_59 rfl rfl ?_
      refine x_iload_n (pc := 60) dX10_learns_60 rfl rfl ?_
      refine x_aload_n (pc := 61) dX10_learns_61 rfl rfl ?_
      refine x_getR (pc := 62) (i := c_obj) (a := c_told) fl_X10_12 dX10_learns_62 (sN_c_obj hS) (sT_c_obj hS) rfl (sR_c_obj_0 hS) ?_
      refine x_getR (pc := 65) (i := c_told) (a := c_shelf) fl_X10_154 dX10_learns_65 (sN_c_told hS) (sT_c_told hS) rfl (sR_c_told_2 hS) ?_
      refine y_Vi (pc := 68) (i := c_readers) (As := [vi (v1), vr G c_shelf]) (rest := []) ok_X4_levelOf ml_X10_331 dX10_learns_68 (sN_c_readers hS) (sT_c_readers hS) (by decide) rfl rfl rfl ⟨rfl, rfl⟩ ⟨by decide, by decide⟩ ⟨Nat.le_refl _, Nat.le_refl _⟩ (Nat.le_of_ble_eq_true rfl) rfl h (fun r4 I3 h => ?_)
      exact y_iret (pc := 71) dX10_learns_71 rfl ⟨Nat.le_refl _, Nat.le_refl _⟩ h
    by_cases e2 : w32 (v2) = 2
    · have h := h.2.2.1 e2
      refine x_tabIn (pc := 20) (off := 52) (t := 72) dX10_learns_20 2 e2 (by decide) (by decide) rfl (by decide) ?_
      refine x_aload_n (pc := 72) dX10_learns_72 rfl rfl ?_
      refine x_getR (pc := 73) (i := c_readers) (a := c_readers_books) fl_X10_325 dX10_learns_73 (sN_c_readers hS) (sT_c_readers hS) rfl (sR_c_readers_2 hS) ?_
      refine x_iload_n (pc := 76) dX10_learns_76 rfl rfl ?_
      refine y_iald (pc := 77) (i := c_readers_books) (n := 12) dX10_learns_77 (sN_c_readers_books hS) (sT_c_readers_books hS) (sL_c_readers_books hS) h.1 ?_
      have h := h.2
      exact y_iret (pc := 78) dX10_learns_78 rfl ⟨Nat.le_refl _, Nat.le_refl _⟩ h
    by_cases e3 : w32 (v2) = 3
    · have h := h.2.2.2.1 e3
      refine x_tabIn (pc := 20) (off := 59) (t := 79) dX10_learns_20 3 e3 (by decide) (by decide) rfl (by decide) ?_
      refine x_aload_n (pc := 79) dX10_learns_79 rfl rfl ?_
      refine x_iload_n (pc := 80) dX10_learns_80 rfl rfl ?_
      refine y_Vi (pc := 81) (i := c_obj) (As := [vi (v1)]) (rest := []) ok_X10_nextFor ml_X10_335 dX10_learns_81 (sN_c_obj hS) (sT_c_obj hS) (by decide) rfl rfl rfl ⟨rfl, rfl⟩ ⟨by decide, by decide⟩ ⟨Nat.le_refl _, Nat.le_refl _⟩ (Nat.le_of_ble_eq_true rfl) rfl h (fun r6 I5 h => ?_)
      exact y_iret (pc := 84) dX10_learns_84 rfl ⟨Nat.le_refl _, Nat.le_refl _⟩ h
    have hd9 : w32 (v2) < 0 ∨ 3 < w32 (v2) := by omega
    have h := h.2.2.2.2 hd9
    refine x_tabOut (pc := 20) (t := 85) dX10_learns_20 hd9 (by decide) ?_
    refine x_bipush (pc := 85) dX10_learns_85 (by decide) ?_
    exact y_iret (pc := 87) dX10_learns_87 rfl ⟨Nat.le_refl _, Nat.le_refl _⟩ h
set_option maxHeartbeats 4000000 in
set_option maxRecDepth 100000 in
theorem b_H_lend {G : XG} {S : XS} {I : XI} {v1 : Int} {v2 : Int} {R : Int → XI → Prop} (hS : xSh S)  (h : Sh_hasRoom G S I (fun r2 I1 => ((w32 (r2) = 0 → R ((-1)) I1) ∧ (¬ (w32 (r2) = 0) → Sh_hasBook G S I1 (v1) (fun r4 I3 => ((w32 (r4) = 0 → R ((-1)) I3) ∧ (¬ (w32 (r4) = 0) → He_hasCamp G S I3 (v2) (fun r6 I5 => ((w32 (r6) = 0 → R ((-1)) I5) ∧ (¬ (w32 (r6) = 0) → Sh_holder G S I5 (v1) (I c_told 9) (99) (fun r8 I7 => ((w32 (r8) = w32 ((-1)) → H_gatherCamp G S I7 (v2) (I c_told 9) (99) (fun I9 => H_gatherBook G S I9 (v2) (v1) (I c_told 9) (99) (fun I10 => Ru_firstThatHolds G S I10 (0) (fun r12 I11 => ((w32 (r12) = w32 ((-1)) → Ru_numberBy G S I11 (1) (4) (fun r14 I13 => Sh_addAct G S I13 (v1) (0) (v2) (I c_told 9) (I c_told 9) (r14) (0) (fun r16 I15 => R (r16) I15))) ∧ (¬ (w32 (r12) = w32 ((-1))) → R ((-1)) I11)))))) ∧ (¬ (w32 (r8) = w32 ((-1))) → R ((-1)) I7))))))))))))) : H_lend G S I v1 v2 R := by
  refine x_start [some (vr G c_obj), some (vi (v1)), some (vi (v2)), none, none, none] (by decide) (Nat.le_of_ble_eq_true rfl) rfl ?_
  refine x_aload_n (pc := 0) dX10_lend_0 rfl rfl ?_
  refine x_getR (pc := 1) (i := c_obj) (a := c_told) fl_X10_12 dX10_lend_1 (sN_c_obj hS) (sT_c_obj hS) rfl (sR_c_obj_0 hS) ?_
  refine x_getR (pc := 4) (i := c_told) (a := c_shelf) fl_X10_154 dX10_lend_4 (sN_c_told hS) (sT_c_told hS) rfl (sR_c_told_2 hS) ?_
  refine x_astore_n (pc := 7) (L' := [some (vr G c_obj), some (vi (v1)), some (vi (v2)), some (vr G c_shelf), none, none]) dX10_lend_7 rfl (by decide) (xst1 rfl rfl rfl) ?_
  refine x_aload_n (pc := 8) dX10_lend_8 rfl rfl ?_
  refine x_getR (pc := 9) (i := c_obj) (a := c_told) fl_X10_12 dX10_lend_9 (sN_c_obj hS) (sT_c_obj hS) rfl (sR_c_obj_0 hS) ?_
  refine x_getI (pc := 12) (i := c_told) fl_X10_92 dX10_lend_12 (sN_c_told hS) (sT_c_told hS) rfl ?_
  refine x_istore (pc := 15) (L' := [some (vr G c_obj), some (vi (v1)), some (vi (v2)), some (vr G c_shelf), some (vi (I c_told 9)), none]) dX10_lend_15 (by decide) (xst1 rfl rfl rfl) ?_
  refine x_aload_n (pc := 17) dX10_lend_17 rfl rfl ?_
  refine y_Vi (pc := 18) (i := c_shelf) (As := []) (rest := []) ok_X6_hasRoom ml_X10_164 dX10_lend_18 (sN_c_shelf hS) (sT_c_shelf hS) (by decide) rfl rfl rfl ⟨rfl, rfl⟩ ⟨by decide, by decide⟩ ⟨Nat.le_refl _, Nat.le_refl _⟩ (Nat.le_of_ble_eq_true rfl) rfl h (fun r2 I1 h => ?_)
  refine x_if_eq (pc := 21) (t := 59) dX10_lend_21 (by decide) (fun e => ?_) (fun e => ?_)
  · have h := h.1 e
    refine x_iconst (pc := 59) dX10_lend_59 ?_
    exact y_iret (pc := 60) dX10_lend_60 rfl ⟨Nat.le_refl _, Nat.le_refl _⟩ h
  · have h := h.2 e
    refine x_aload_n (pc := 24) dX10_lend_24 rfl rfl ?_
    refine x_iload_n (pc := 25) dX10_lend_25 rfl rfl ?_
    refine y_Vi (pc := 26) (i := c_shelf) (As := [vi (v1)]) (rest := []) ok_X6_hasBook ml_X10_168 dX10_lend_26 (sN_c_shelf hS) (sT_c_shelf hS) (by decide) rfl rfl rfl ⟨rfl, rfl⟩ ⟨by decide, by decide⟩ ⟨Nat.le_refl _, Nat.le_refl _⟩ (Nat.le_of_ble_eq_true rfl) rfl h (fun r4 I3 h => ?_)
    refine x_if_eq (pc := 29) (t := 59) dX10_lend_29 (by decide) (fun e => ?_) (fun e => ?_)
    · have h := h.1 e
      refine x_iconst (pc := 59) dX10_lend_59 ?_
      exact y_iret (pc := 60) dX10_lend_60 rfl ⟨Nat.le_refl _, Nat.le_refl _⟩ h
    · have h := h.2 e
      refine x_aload_n (pc := 32) dX10_lend_32 rfl rfl ?_
      refine x_getR (pc := 33) (i := c_obj) (a := c_told) fl_X10_12 dX10_lend_33 (sN_c_obj hS) (sT_c_obj hS) rfl (sR_c_obj_0 hS) ?_
      refine x_getR (pc := 36) (i := c_told) (a := c_herds) fl_X10_88 dX10_lend_36 (sN_c_told hS) (sT_c_told hS) rfl (sR_c_told_1 hS) ?_
      refine x_iload_n (pc := 39) dX10_lend_39 rfl rfl ?_
      refine y_Vi (pc := 40) (i := c_herds) (As := [vi (v2)]) (rest := []) ok_X1_hasCamp ml_X10_118 dX10_lend_40 (sN_c_herds hS) (sT_c_herds hS) (by decide) rfl rfl rfl ⟨rfl, rfl⟩ ⟨by decide, by decide⟩ ⟨Nat.le_refl _, Nat.le_refl _⟩ (Nat.le_of_ble_eq_true rfl) rfl h (fun r6 I5 h => ?_)
      refine x_if_eq (pc := 43) (t := 59) dX10_lend_43 (by decide) (fun e => ?_) (fun e => ?_)
      · have h := h.1 e
        refine x_iconst (pc := 59) dX10_lend_59 ?_
        exact y_iret (pc := 60) dX10_lend_60 rfl ⟨Nat.le_refl _, Nat.le_refl _⟩ h
      · have h := h.2 e
        refine x_aload_n (pc := 46) dX10_lend_46 rfl rfl ?_
        refine x_iload_n (pc := 47) dX10_lend_47 rfl rfl ?_
        refine x_iload (pc := 48) dX10_lend_48 rfl ?_
        refine x_bipush (pc := 50) dX10_lend_50 (by decide) ?_
        refine y_Vi (pc := 52) (i := c_shelf) (As := [vi (v1), vi (I c_told 9), vi (99)]) (rest := []) ok_X6_holder ml_X10_171 dX10_lend_52 (sN_c_shelf hS) (sT_c_shelf hS) (by decide) rfl rfl rfl ⟨rfl, rfl⟩ ⟨by decide, by decide⟩ ⟨Nat.le_refl _, Nat.le_refl _⟩ (Nat.le_of_ble_eq_true rfl) rfl h (fun r8 I7 h => ?_)
        refine x_iconst (pc := 55) dX10_lend_55 ?_
        refine x_icmp_eq (pc := 56) (t := 61) dX10_lend_56 (by decide) (fun e => ?_) (fun e => ?_)
        · have h := h.1 e
          refine x_aload_n (pc := 61) dX10_lend_61 rfl rfl ?_
          refine x_iload_n (pc := 62) dX10_lend_62 rfl rfl ?_
          refine x_iload (pc := 63) dX10_lend_63 rfl ?_
          refine x_bipush (pc := 65) dX10_lend_65 (by decide) ?_
          refine y_Vv (pc := 67) (i := c_obj) (As := [vi (v2), vi (I c_told 9), vi (99)]) (rest := []) ok_X10_gatherCamp ml_X10_174 dX10_lend_67 (sN_c_obj hS) (sT_c_obj hS) (by decide) rfl rfl rfl ⟨rfl, rfl⟩ ⟨by decide, by decide⟩ ⟨Nat.le_refl _, Nat.le_refl _⟩ (Nat.le_of_ble_eq_true rfl) rfl h (fun I9 h => ?_)
          refine x_aload_n (pc := 70) dX10_lend_70 rfl rfl ?_
          refine x_iload_n (pc := 71) dX10_lend_71 rfl rfl ?_
          refine x_iload_n (pc := 72) dX10_lend_72 rfl rfl ?_
          refine x_iload (pc := 73) dX10_lend_73 rfl ?_
          refine x_bipush (pc := 75) dX10_lend_75 (by decide) ?_
          refine y_Vv (pc := 77) (i := c_obj) (As := [vi (v2), vi (v1), vi (I c_told 9), vi (99)]) (rest := []) ok_X10_gatherBook ml_X10_177 dX10_lend_77 (sN_c_obj hS) (sT_c_obj hS) (by decide) rfl rfl rfl ⟨rfl, rfl⟩ ⟨by decide, by decide⟩ ⟨Nat.le_refl _, Nat.le_refl _⟩ (Nat.le_of_ble_eq_true rfl) rfl h (fun I10 h => ?_)
          refine x_aload_n (pc := 80) dX10_lend_80 rfl rfl ?_
          refine x_getR (pc := 81) (i := c_obj) (a := c_told) fl_X10_12 dX10_lend_81 (sN_c_obj hS) (sT_c_obj hS) rfl (sR_c_obj_0 hS) ?_
          refine x_getR (pc := 84) (i := c_told) (a := c_rules) fl_X10_181 dX10_lend_84 (sN_c_told hS) (sT_c_told hS) rfl (sR_c_told_3 hS) ?_
          refine x_iconst (pc := 87) dX10_lend_87 ?_
          refine x_aload_n (pc := 88) dX10_lend_88 rfl rfl ?_
          refine x_getR (pc := 89) (i := c_obj) (a := c_facts) fl_X10_53 dX10_lend_89 (sN_c_obj hS) (sT_c_obj hS) rfl (sR_c_obj_7 hS) ?_
          refine y_Vi (pc := 92) (i := c_rules) (As := [vi (0), vr G c_facts]) (rest := []) ok_X5_firstThatHolds ml_X10_185 dX10_lend_92 (sN_c_rules hS) (sT_c_rules hS) (by decide) rfl rfl rfl ⟨rfl, rfl⟩ ⟨by decide, by decide⟩ ⟨Nat.le_refl _, Nat.le_refl _⟩ (Nat.le_of_ble_eq_true rfl) rfl h (fun r12 I11 h => ?_)
          refine x_iconst (pc := 95) dX10_lend_95 ?_
          refine x_icmp_eq (pc := 96) (t := 101) dX10_lend_96 (by decide) (fun e => ?_) (fun e => ?_)
          · have h := h.1 e
            refine x_aload_n (pc := 101) dX10_lend_101 rfl rfl ?_
            refine x_getR (pc := 102) (i := c_obj) (a := c_told) fl_X10_12 dX10_lend_102 (sN_c_obj hS) (sT_c_obj hS) rfl (sR_c_obj_0 hS) ?_
            refine x_getR (pc := 105) (i := c_told) (a := c_rules) fl_X10_181 dX10_lend_105 (sN_c_told hS) (sT_c_told hS) rfl (sR_c_told_3 hS) ?_
            refine x_iconst (pc := 108) dX10_lend_108 ?_
            refine x_aload_n (pc := 109) dX10_lend_109 rfl rfl ?_
            refine x_getR (pc := 110) (i := c_obj) (a := c_facts) fl_X10_53 dX10_lend_110 (sN_c_obj hS) (sT_c_obj hS) rfl (sR_c_obj_7 hS) ?_
            refine x_iconst (pc := 113) dX10_lend_113 ?_
            refine y_Vi (pc := 114) (i := c_rules) (As := [vi (1), vr G c_facts, vi (4)]) (rest := []) ok_X5_numberBy ml_X10_191 dX10_lend_114 (sN_c_rules hS) (sT_c_rules hS) (by decide) rfl rfl rfl ⟨rfl, rfl⟩ ⟨by decide, by decide⟩ ⟨Nat.le_refl _, Nat.le_refl _⟩ (Nat.le_of_ble_eq_true rfl) rfl h (fun r14 I13 h => ?_)
            refine x_istore (pc := 117) (L' := [some (vr G c_obj), some (vi (v1)), some (vi (v2)), some (vr G c_shelf), some (vi (I c_told 9)), some (vi (r14))]) dX10_lend_117 (by decide) (xst1 rfl rfl rfl) ?_
            refine x_aload_n (pc := 119) dX10_lend_119 rfl rfl ?_
            refine x_iload_n (pc := 120) dX10_lend_120 rfl rfl ?_
            refine x_iconst (pc := 121) dX10_lend_121 ?_
            refine x_iload_n (pc := 122) dX10_lend_122 rfl rfl ?_
            refine x_iload (pc := 123) dX10_lend_123 rfl ?_
            refine x_iload (pc := 125) dX10_lend_125 rfl ?_
            refine x_iload (pc := 127) dX10_lend_127 rfl ?_
            refine x_iconst (pc := 129) dX10_lend_129 ?_
            refine y_Vi (pc := 130) (i := c_shelf) (As := [vi (v1), vi (0), vi (v2), vi (I c_told 9), vi (I c_told 9), vi (r14), vi (0)]) (rest := []) ok_X6_addAct ml_X10_195 dX10_lend_130 (sN_c_shelf hS) (sT_c_shelf hS) (by decide) rfl rfl rfl ⟨rfl, rfl⟩ ⟨by decide, by decide⟩ ⟨Nat.le_refl _, Nat.le_refl _⟩ (Nat.le_of_ble_eq_true rfl) rfl h (fun r16 I15 h => ?_)
            exact y_iret (pc := 133) dX10_lend_133 rfl ⟨Nat.le_refl _, Nat.le_refl _⟩ h
          · have h := h.2 e
            refine x_iconst (pc := 99) dX10_lend_99 ?_
            exact y_iret (pc := 100) dX10_lend_100 rfl ⟨Nat.le_refl _, Nat.le_refl _⟩ h
        · have h := h.2 e
          refine x_iconst (pc := 59) dX10_lend_59 ?_
          exact y_iret (pc := 60) dX10_lend_60 rfl ⟨Nat.le_refl _, Nat.le_refl _⟩ h
set_option maxHeartbeats 4000000 in
set_option maxRecDepth 100000 in
theorem b_H_likeliest {G : XG} {S : XS} {I : XI} {v1 : Int} {v2 : Int} {R : Int → XI → Prop} (hS : xSh S)  (h : H_isThere G S I (v1) (v2) (fun r2 I1 => ((w32 (r2) = 0 → R ((-1)) I1) ∧ (¬ (w32 (r2) = 0) → H_limit G S I1 (fun r4 I3 => H_whereBy G S I3 (r4) (fun r6 I5 => ((r6 = c_now ∨ r6 = c_then) ∧ (r6 = c_now → Wn_likeliestOf G S I5 (v1) (v2) (fun r8 I7 => R (r8) I7)) ∧ (r6 = c_then → Wt_likeliestOf G S I5 (v1) (v2) (fun r10 I9 => R (r10) I9))))))))) : H_likeliest G S I v1 v2 R := by
  refine x_start [some (vr G c_obj), some (vi (v1)), some (vi (v2))] (by decide) (Nat.le_of_ble_eq_true rfl) rfl ?_
  refine x_aload_n (pc := 0) dX10_likeliest_0 rfl rfl ?_
  refine x_iload_n (pc := 1) dX10_likeliest_1 rfl rfl ?_
  refine x_iload_n (pc := 2) dX10_likeliest_2 rfl rfl ?_
  refine y_Vi (pc := 3) (i := c_obj) (As := [vi (v1), vi (v2)]) (rest := []) ok_X10_isThere ml_X10_128 dX10_likeliest_3 (sN_c_obj hS) (sT_c_obj hS) (by decide) rfl rfl rfl ⟨rfl, rfl⟩ ⟨by decide, by decide⟩ ⟨Nat.le_refl _, Nat.le_refl _⟩ (Nat.le_of_ble_eq_true rfl) rfl h (fun r2 I1 h => ?_)
  refine x_if_eq (pc := 6) (t := 29) dX10_likeliest_6 (by decide) (fun e => ?_) (fun e => ?_)
  · have h := h.1 e
    refine x_iconst (pc := 29) dX10_likeliest_29 ?_
    exact y_iret (pc := 30) dX10_likeliest_30 rfl ⟨Nat.le_refl _, Nat.le_refl _⟩ h
  · have h := h.2 e
    refine x_aload_n (pc := 9) dX10_likeliest_9 rfl rfl ?_
    refine x_aload_n (pc := 10) dX10_likeliest_10 rfl rfl ?_
    refine y_Vi (pc := 11) (i := c_obj) (As := []) (rest := [vr G c_obj]) ok_X10_limit ml_X10_132 dX10_likeliest_11 (sN_c_obj hS) (sT_c_obj hS) (by decide) rfl rfl rfl ⟨rfl, rfl⟩ ⟨by decide, by decide⟩ ⟨Nat.le_refl _, Nat.le_refl _⟩ (Nat.le_of_ble_eq_true rfl) rfl h (fun r4 I3 h => ?_)
    refine y_Vr (pc := 14) (i := c_obj) (As := [vi (r4)]) (rest := []) ok_X10_whereBy ml_X10_136 dX10_likeliest_14 (sN_c_obj hS) (sT_c_obj hS) (by decide) rfl rfl rfl ⟨rfl, rfl⟩ ⟨by decide, by decide⟩ ⟨Nat.le_refl _, Nat.le_refl _⟩ (Nat.le_of_ble_eq_true rfl) rfl h (fun r6 I5 h => ?_)
    rcases h.1 with e | e
    · subst e
      have h := h.2.1 rfl
      refine x_aload_n (pc := 17) dX10_likeliest_17 rfl rfl ?_
      refine x_getR (pc := 18) (i := c_obj) (a := c_told) fl_X10_12 dX10_likeliest_18 (sN_c_obj hS) (sT_c_obj hS) rfl (sR_c_obj_0 hS) ?_
      refine x_iload_n (pc := 21) dX10_likeliest_21 rfl rfl ?_
      refine x_iload_n (pc := 22) dX10_likeliest_22 rfl rfl ?_
      refine y_Vi (pc := 23) (i := c_now) (As := [vr G c_told, vi (v1), vi (v2)]) (rest := []) ok_X9_likeliestOf ml_X10_147 dX10_likeliest_23 (sN_c_now hS) (sT_c_now hS) (by decide) rfl rfl rfl ⟨rfl, rfl⟩ ⟨by decide, by decide⟩ ⟨Nat.le_refl _, Nat.le_refl _⟩ (Nat.le_of_ble_eq_true rfl) rfl h (fun r8 I7 h => ?_)
      refine x_goto (pc := 26) (t := 30) dX10_likeliest_26 (by decide) ?_
      exact y_iret (pc := 30) dX10_likeliest_30 rfl ⟨Nat.le_refl _, Nat.le_refl _⟩ h
    · subst e
      have h := h.2.2 rfl
      refine x_aload_n (pc := 17) dX10_likeliest_17 rfl rfl ?_
      refine x_getR (pc := 18) (i := c_obj) (a := c_told) fl_X10_12 dX10_likeliest_18 (sN_c_obj hS) (sT_c_obj hS) rfl (sR_c_obj_0 hS) ?_
      refine x_iload_n (pc := 21) dX10_likeliest_21 rfl rfl ?_
      refine x_iload_n (pc := 22) dX10_likeliest_22 rfl rfl ?_
      refine y_Vi (pc := 23) (i := c_then) (As := [vr G c_told, vi (v1), vi (v2)]) (rest := []) ok_X9_likeliestOf ml_X10_147 dX10_likeliest_23 (sN_c_then hS) (sT_c_then hS) (by decide) rfl rfl rfl ⟨rfl, rfl⟩ ⟨by decide, by decide⟩ ⟨Nat.le_refl _, Nat.le_refl _⟩ (Nat.le_of_ble_eq_true rfl) rfl h (fun r10 I9 h => ?_)
      refine x_goto (pc := 26) (t := 30) dX10_likeliest_26 (by decide) ?_
      exact y_iret (pc := 30) dX10_likeliest_30 rfl ⟨Nat.le_refl _, Nat.le_refl _⟩ h
set_option maxHeartbeats 4000000 in
set_option maxRecDepth 100000 in
theorem b_H_limit {G : XG} {S : XS} {I : XI}  {R : Int → XI → Prop} (hS : xSh S)  (h : ((w32 (I c_told 10) = w32 ((-1)) → R (99) I) ∧ (¬ (w32 (I c_told 10) = w32 ((-1))) → R (I c_told 10) I))) : H_limit G S I  R := by
  refine x_start [some (vr G c_obj)] (by decide) (Nat.le_of_ble_eq_true rfl) rfl ?_
  refine x_aload_n (pc := 0) dX10_limit_0 rfl rfl ?_
  refine x_getR (pc := 1) (i := c_obj) (a := c_told) fl_X10_12 dX10_limit_1 (sN_c_obj hS) (sT_c_obj hS) rfl (sR_c_obj_0 hS) ?_
  refine x_getI (pc := 4) (i := c_told) fl_X10_115 dX10_limit_4 (sN_c_told hS) (sT_c_told hS) rfl ?_
  refine x_iconst (pc := 7) dX10_limit_7 ?_
  refine x_icmp_ne (pc := 8) (t := 16) dX10_limit_8 (by decide) (fun e => ?_) (fun e => ?_)
  · have h := h.1 e
    refine x_bipush (pc := 11) dX10_limit_11 (by decide) ?_
    refine x_goto (pc := 13) (t := 23) dX10_limit_13 (by decide) ?_
    exact y_iret (pc := 23) dX10_limit_23 rfl ⟨Nat.le_refl _, Nat.le_refl _⟩ h
  · have h := h.2 e
    refine x_aload_n (pc := 16) dX10_limit_16 rfl rfl ?_
    refine x_getR (pc := 17) (i := c_obj) (a := c_told) fl_X10_12 dX10_limit_17 (sN_c_obj hS) (sT_c_obj hS) rfl (sR_c_obj_0 hS) ?_
    refine x_getI (pc := 20) (i := c_told) fl_X10_115 dX10_limit_20 (sN_c_told hS) (sT_c_told hS) rfl ?_
    exact y_iret (pc := 23) dX10_limit_23 rfl ⟨Nat.le_refl _, Nat.le_refl _⟩ h
set_option maxHeartbeats 4000000 in
set_option maxRecDepth 100000 in
theorem b_H_load {G : XG} {S : XS} {I : XI} {v1 : Int} {v2 : Int} {v3 : Int} {R : Int → XI → Prop} (hS : xSh S)  (h : He_hasCamp G S I (v1) (fun r2 I1 => ((w32 (r2) = 0 → R ((-1)) I1) ∧ (¬ (w32 (r2) = 0) → H_isIn G S I1 (v2) (1) (20000) (fun r4 I3 => ((w32 (r4) = 0 → R ((-1)) I3) ∧ (¬ (w32 (r4) = 0) → H_isIn G S I3 (v3) (0) (2) (fun r6 I5 => ((w32 (r6) = 0 → R ((-1)) I5) ∧ (¬ (w32 (r6) = 0) → H_limit G S I5 (fun r8 I7 => H_gatherCamp G S I7 (v1) (I5 c_told 9) (r8) (fun I9 => H_offerBooks G S I9 (v1) (fun I10 => Bo_choose G S I10 (v1) (v2) (fun I11 => ((w32 (v3) = 0 → R (I11 c_box 0) I11) ∧ (w32 (v3) = 1 → R (I11 c_box 1) I11) ∧ (¬ (w32 (v3) = 0) ∧ ¬ (w32 (v3) = 1) → R (I11 c_box 2) I11)))))))))))))))) : H_load G S I v1 v2 v3 R := by
  refine x_start [some (vr G c_obj), some (vi (v1)), some (vi (v2)), some (vi (v3))] (by decide) (Nat.le_of_ble_eq_true rfl) rfl ?_
  refine x_aload_n (pc := 0) dX10_load_0 rfl rfl ?_
  refine x_getR (pc := 1) (i := c_obj) (a := c_told) fl_X10_12 dX10_load_1 (sN_c_obj hS) (sT_c_obj hS) rfl (sR_c_obj_0 hS) ?_
  refine x_getR (pc := 4) (i := c_told) (a := c_herds) fl_X10_88 dX10_load_4 (sN_c_told hS) (sT_c_told hS) rfl (sR_c_told_1 hS) ?_
  refine x_iload_n (pc := 7) dX10_load_7 rfl rfl ?_
  refine y_Vi (pc := 8) (i := c_herds) (As := [vi (v1)]) (rest := []) ok_X1_hasCamp ml_X10_118 dX10_load_8 (sN_c_herds hS) (sT_c_herds hS) (by decide) rfl rfl rfl ⟨rfl, rfl⟩ ⟨by decide, by decide⟩ ⟨Nat.le_refl _, Nat.le_refl _⟩ (Nat.le_of_ble_eq_true rfl) rfl h (fun r2 I1 h => ?_)
  refine x_if_eq (pc := 11) (t := 34) dX10_load_11 (by decide) (fun e => ?_) (fun e => ?_)
  · have h := h.1 e
    refine x_iconst (pc := 34) dX10_load_34 ?_
    exact y_iret (pc := 35) dX10_load_35 rfl ⟨Nat.le_refl _, Nat.le_refl _⟩ h
  · have h := h.2 e
    refine x_iload_n (pc := 14) dX10_load_14 rfl rfl ?_
    refine x_iconst (pc := 15) dX10_load_15 ?_
    refine x_sipush (pc := 16) dX10_load_16 (by decide) ?_
    refine y_Si (pc := 19) (As := [vi (v2), vi (1), vi (20000)]) (rest := []) ok_X10_isIn ml_X10_77 dX10_load_19 rfl ⟨rfl, rfl⟩ ⟨by decide, by decide⟩ ⟨Nat.le_refl _, Nat.le_refl _⟩ (Nat.le_of_ble_eq_true rfl) rfl h (fun r4 I3 h => ?_)
    refine x_if_eq (pc := 22) (t := 34) dX10_load_22 (by decide) (fun e => ?_) (fun e => ?_)
    · have h := h.1 e
      refine x_iconst (pc := 34) dX10_load_34 ?_
      exact y_iret (pc := 35) dX10_load_35 rfl ⟨Nat.le_refl _, Nat.le_refl _⟩ h
    · have h := h.2 e
      refine x_iload_n (pc := 25) dX10_load_25 rfl rfl ?_
      refine x_iconst (pc := 26) dX10_load_26 ?_
      refine x_iconst (pc := 27) dX10_load_27 ?_
      refine y_Si (pc := 28) (As := [vi (v3), vi (0), vi (2)]) (rest := []) ok_X10_isIn ml_X10_77 dX10_load_28 rfl ⟨rfl, rfl⟩ ⟨by decide, by decide⟩ ⟨Nat.le_refl _, Nat.le_refl _⟩ (Nat.le_of_ble_eq_true rfl) rfl h (fun r6 I5 h => ?_)
      refine x_if_ne (pc := 31) (t := 36) dX10_load_31 (by decide) (fun e => ?_) (fun e => ?_)
      · have h := h.1 e
        refine x_iconst (pc := 34) dX10_load_34 ?_
        exact y_iret (pc := 35) dX10_load_35 rfl ⟨Nat.le_refl _, Nat.le_refl _⟩ h
      · have h := h.2 e
        refine x_aload_n (pc := 36) dX10_load_36 rfl rfl ?_
        refine x_iload_n (pc := 37) dX10_load_37 rfl rfl ?_
        refine x_aload_n (pc := 38) dX10_load_38 rfl rfl ?_
        refine x_getR (pc := 39) (i := c_obj) (a := c_told) fl_X10_12 dX10_load_39 (sN_c_obj hS) (sT_c_obj hS) rfl (sR_c_obj_0 hS) ?_
        refine x_getI (pc := 42) (i := c_told) fl_X10_92 dX10_load_42 (sN_c_told hS) (sT_c_told hS) rfl ?_
        refine x_aload_n (pc := 45) dX10_load_45 rfl rfl ?_
        refine y_Vi (pc := 46) (i := c_obj) (As := []) (rest := [vi (I5 c_told 9), vi (v1), vr G c_obj]) ok_X10_limit ml_X10_132 dX10_load_46 (sN_c_obj hS) (sT_c_obj hS) (by decide) rfl rfl rfl ⟨rfl, rfl⟩ ⟨by decide, by decide⟩ ⟨Nat.le_refl _, Nat.le_refl _⟩ (Nat.le_of_ble_eq_true rfl) rfl h (fun r8 I7 h => ?_)
        refine y_Vv (pc := 49) (i := c_obj) (As := [vi (v1), vi (I5 c_told 9), vi (r8)]) (rest := []) ok_X10_gatherCamp ml_X10_174 dX10_load_49 (sN_c_obj hS) (sT_c_obj hS) (by decide) rfl rfl rfl ⟨rfl, rfl⟩ ⟨by decide, by decide⟩ ⟨Nat.le_refl _, Nat.le_refl _⟩ (Nat.le_of_ble_eq_true rfl) rfl h (fun I9 h => ?_)
        refine x_aload_n (pc := 52) dX10_load_52 rfl rfl ?_
        refine x_iload_n (pc := 53) dX10_load_53 rfl rfl ?_
        refine y_Vv (pc := 54) (i := c_obj) (As := [vi (v1)]) (rest := []) ok_X10_offerBooks ml_X10_297 dX10_load_54 (sN_c_obj hS) (sT_c_obj hS) (by decide) rfl rfl rfl ⟨rfl, rfl⟩ ⟨by decide, by decide⟩ ⟨Nat.le_refl _, Nat.le_refl _⟩ (Nat.le_of_ble_eq_true rfl) rfl h (fun I10 h => ?_)
        refine x_aload_n (pc := 57) dX10_load_57 rfl rfl ?_
        refine x_getR (pc := 58) (i := c_obj) (a := c_box) fl_X10_49 dX10_load_58 (sN_c_obj hS) (sT_c_obj hS) rfl (sR_c_obj_6 hS) ?_
        refine x_aload_n (pc := 61) dX10_load_61 rfl rfl ?_
        refine x_getR (pc := 62) (i := c_obj) (a := c_told) fl_X10_12 dX10_load_62 (sN_c_obj hS) (sT_c_obj hS) rfl (sR_c_obj_0 hS) ?_
        refine x_iload_n (pc := 65) dX10_load_65 rfl rfl ?_
        refine x_iload_n (pc := 66) dX10_load_66 rfl rfl ?_
        refine y_Vv (pc := 67) (i := c_box) (As := [vr G c_told, vi (v1), vi (v2)]) (rest := []) ok_X0_choose ml_X10_300 dX10_load_67 (sN_c_box hS) (sT_c_box hS) (by decide) rfl rfl rfl ⟨rfl, rfl⟩ ⟨by decide, by decide⟩ ⟨Nat.le_refl _, Nat.le_refl _⟩ (Nat.le_of_ble_eq_true rfl) rfl h (fun I11 h => ?_)
        refine x_iload_n (pc := 70) dX10_load_70 rfl rfl ?_
        by_cases e0 : w32 (v3) = 0
        · have h := h.1 e0
          refine x_look (pc := 71) (off := 25) (t := 96) dX10_load_71 (by decide) (by rw [e0]; rfl) (by decide) ?_
          refine x_aload_n (pc := 96) dX10_load_96 rfl rfl ?_
          refine x_getR (pc := 97) (i := c_obj) (a := c_box) fl_X10_49 dX10_load_97 (sN_c_obj hS) (sT_c_obj hS) rfl (sR_c_obj_6 hS) ?_
          refine x_getI (pc := 100) (i := c_box) fl_X10_303 dX10_load_100 (sN_c_box hS) (sT_c_box hS) rfl ?_
          exact y_iret (pc := 103) dX10_load_103 rfl ⟨Nat.le_refl _, Nat.le_refl _⟩ h
        by_cases e1 : w32 (v3) = 1
        · have h := h.2.1 e1
          refine x_look (pc := 71) (off := 33) (t := 104) dX10_load_71 (by decide) (by rw [e1]; rfl) (by decide) ?_
          refine x_aload_n (pc := 104) dX10_load_104 rfl rfl ?_
          refine x_getR (pc := 105) (i := c_obj) (a := c_box) fl_X10_49 dX10_load_105 (sN_c_obj hS) (sT_c_obj hS) rfl (sR_c_obj_6 hS) ?_
          refine x_getI (pc := 108) (i := c_box) fl_X10_306 dX10_load_108 (sN_c_box hS) (sT_c_box hS) rfl ?_
          exact y_iret (pc := 111) dX10_load_111 rfl ⟨Nat.le_refl _, Nat.le_refl _⟩ h
        have h := h.2.2 ⟨e0, e1⟩
        refine x_look (pc := 71) (off := 41) (t := 112) dX10_load_71 (by decide) (by simp [Op.lookupswitch.offset, Ne.symm e0, Ne.symm e1]) (by decide) ?_
        refine x_aload_n (pc := 112) dX10_load_112 rfl rfl ?_
        refine x_getR (pc := 113) (i := c_obj) (a := c_box) fl_X10_49 dX10_load_113 (sN_c_obj hS) (sT_c_obj hS) rfl (sR_c_obj_6 hS) ?_
        refine x_getI (pc := 116) (i := c_box) fl_X10_309 dX10_load_116 (sN_c_box hS) (sT_c_box hS) rfl ?_
        exact y_iret (pc := 119) dX10_load_119 rfl ⟨Nat.le_refl _, Nat.le_refl _⟩ h
set_option maxHeartbeats 4000000 in
set_option maxRecDepth 100000 in
theorem b_H_news {G : XG} {S : XS} {I : XI} {v1 : Int} {v2 : Int} {v3 : Int} {v4 : Int} {R : Int → XI → Prop} (hS : xSh S)  (h : He_hasCamp G S I (v1) (fun r2 I1 => ((w32 (r2) = 0 → R ((-1)) I1) ∧ (¬ (w32 (r2) = 0) → La_hasCell G S I1 (v2) (fun r4 I3 => ((w32 (r4) = 0 → R ((-1)) I3) ∧ (¬ (w32 (r4) = 0) → H_isPast G S I3 (v3) (fun r6 I5 => ((w32 (r6) = 0 → R ((-1)) I5) ∧ (¬ (w32 (r6) = 0) → (inb (v1) 6 ∧ ((w32 (I5 c_herds_firstWeeks (ix (v1))) ≤ w32 (v3) → H_forgetParts G S I5 (fun I7 => He_addNews G S I7 (v1) (v2) (v3) (v4) (I7 c_told 9) (fun r9 I8 => R (r9) I8))) ∧ (¬ (w32 (I5 c_herds_firstWeeks (ix (v1))) ≤ w32 (v3)) → R ((-1)) I5))))))))))))) : H_news G S I v1 v2 v3 v4 R := by
  refine x_start [some (vr G c_obj), some (vi (v1)), some (vi (v2)), some (vi (v3)), some (vi (v4)), none] (by decide) (Nat.le_of_ble_eq_true rfl) rfl ?_
  refine x_aload_n (pc := 0) dX10_news_0 rfl rfl ?_
  refine x_getR (pc := 1) (i := c_obj) (a := c_told) fl_X10_12 dX10_news_1 (sN_c_obj hS) (sT_c_obj hS) rfl (sR_c_obj_0 hS) ?_
  refine x_getR (pc := 4) (i := c_told) (a := c_herds) fl_X10_88 dX10_news_4 (sN_c_told hS) (sT_c_told hS) rfl (sR_c_told_1 hS) ?_
  refine x_astore (pc := 7) (L' := [some (vr G c_obj), some (vi (v1)), some (vi (v2)), some (vi (v3)), some (vi (v4)), some (vr G c_herds)]) dX10_news_7 (by decide) (xst1 rfl rfl rfl) ?_
  refine x_aload (pc := 9) dX10_news_9 rfl ?_
  refine x_iload_n (pc := 11) dX10_news_11 rfl rfl ?_
  refine y_Vi (pc := 12) (i := c_herds) (As := [vi (v1)]) (rest := []) ok_X1_hasCamp ml_X10_118 dX10_news_12 (sN_c_herds hS) (sT_c_herds hS) (by decide) rfl rfl rfl ⟨rfl, rfl⟩ ⟨by decide, by decide⟩ ⟨Nat.le_refl _, Nat.le_refl _⟩ (Nat.le_of_ble_eq_true rfl) rfl h (fun r2 I1 h => ?_)
  refine x_if_eq (pc := 15) (t := 51) dX10_news_15 (by decide) (fun e => ?_) (fun e => ?_)
  · have h := h.1 e
    refine x_iconst (pc := 51) dX10_news_51 ?_
    exact y_iret (pc := 52) dX10_news_52 rfl ⟨Nat.le_refl _, Nat.le_refl _⟩ h
  · have h := h.2 e
    refine x_aload_n (pc := 18) dX10_news_18 rfl rfl ?_
    refine x_getR (pc := 19) (i := c_obj) (a := c_told) fl_X10_12 dX10_news_19 (sN_c_obj hS) (sT_c_obj hS) rfl (sR_c_obj_0 hS) ?_
    refine x_getR (pc := 22) (i := c_told) (a := c_land) fl_X10_60 dX10_news_22 (sN_c_told hS) (sT_c_told hS) rfl (sR_c_told_0 hS) ?_
    refine x_iload_n (pc := 25) dX10_news_25 rfl rfl ?_
    refine y_Vi (pc := 26) (i := c_land) (As := [vi (v2)]) (rest := []) ok_X2_hasCell ml_X10_73 dX10_news_26 (sN_c_land hS) (sT_c_land hS) (by decide) rfl rfl rfl ⟨rfl, rfl⟩ ⟨by decide, by decide⟩ ⟨Nat.le_refl _, Nat.le_refl _⟩ (Nat.le_of_ble_eq_true rfl) rfl h (fun r4 I3 h => ?_)
    refine x_if_eq (pc := 29) (t := 51) dX10_news_29 (by decide) (fun e => ?_) (fun e => ?_)
    · have h := h.1 e
      refine x_iconst (pc := 51) dX10_news_51 ?_
      exact y_iret (pc := 52) dX10_news_52 rfl ⟨Nat.le_refl _, Nat.le_refl _⟩ h
    · have h := h.2 e
      refine x_aload_n (pc := 32) dX10_news_32 rfl rfl ?_
      refine x_iload_n (pc := 33) dX10_news_33 rfl rfl ?_
      refine y_Vi (pc := 34) (i := c_obj) (As := [vi (v3)]) (rest := []) ok_X10_isPast ml_X10_112 dX10_news_34 (sN_c_obj hS) (sT_c_obj hS) (by decide) rfl rfl rfl ⟨rfl, rfl⟩ ⟨by decide, by decide⟩ ⟨Nat.le_refl _, Nat.le_refl _⟩ (Nat.le_of_ble_eq_true rfl) rfl h (fun r6 I5 h => ?_)
      refine x_if_eq (pc := 37) (t := 51) dX10_news_37 (by decide) (fun e => ?_) (fun e => ?_)
      · have h := h.1 e
        refine x_iconst (pc := 51) dX10_news_51 ?_
        exact y_iret (pc := 52) dX10_news_52 rfl ⟨Nat.le_refl _, Nat.le_refl _⟩ h
      · have h := h.2 e
        refine x_iload_n (pc := 40) dX10_news_40 rfl rfl ?_
        refine x_aload (pc := 41) dX10_news_41 rfl ?_
        refine x_getR (pc := 43) (i := c_herds) (a := c_herds_firstWeeks) fl_X10_121 dX10_news_43 (sN_c_herds hS) (sT_c_herds hS) rfl (sR_c_herds_3 hS) ?_
        refine x_iload_n (pc := 46) dX10_news_46 rfl rfl ?_
        refine y_iald (pc := 47) (i := c_herds_firstWeeks) (n := 6) dX10_news_47 (sN_c_herds_firstWeeks hS) (sT_c_herds_firstWeeks hS) (sL_c_herds_firstWeeks hS) h.1 ?_
        have h := h.2
        refine x_icmp_ge (pc := 48) (t := 53) dX10_news_48 (by decide) (fun e => ?_) (fun e => ?_)
        · have h := h.1 e
          refine x_aload_n (pc := 53) dX10_news_53 rfl rfl ?_
          refine y_Vv (pc := 54) (i := c_obj) (As := []) (rest := []) ok_X10_forgetParts ml_X10_85 dX10_news_54 (sN_c_obj hS) (sT_c_obj hS) (by decide) rfl rfl rfl ⟨rfl, rfl⟩ ⟨by decide, by decide⟩ ⟨Nat.le_refl _, Nat.le_refl _⟩ (Nat.le_of_ble_eq_true rfl) rfl h (fun I7 h => ?_)
          refine x_aload (pc := 57) dX10_news_57 rfl ?_
          refine x_iload_n (pc := 59) dX10_news_59 rfl rfl ?_
          refine x_iload_n (pc := 60) dX10_news_60 rfl rfl ?_
          refine x_iload_n (pc := 61) dX10_news_61 rfl rfl ?_
          refine x_iload (pc := 62) dX10_news_62 rfl ?_
          refine x_aload_n (pc := 64) dX10_news_64 rfl rfl ?_
          refine x_getR (pc := 65) (i := c_obj) (a := c_told) fl_X10_12 dX10_news_65 (sN_c_obj hS) (sT_c_obj hS) rfl (sR_c_obj_0 hS) ?_
          refine x_getI (pc := 68) (i := c_told) fl_X10_92 dX10_news_68 (sN_c_told hS) (sT_c_told hS) rfl ?_
          refine y_Vi (pc := 71) (i := c_herds) (As := [vi (v1), vi (v2), vi (v3), vi (v4), vi (I7 c_told 9)]) (rest := []) ok_X1_addNews ml_X10_124 dX10_news_71 (sN_c_herds hS) (sT_c_herds hS) (by decide) rfl rfl rfl ⟨rfl, rfl⟩ ⟨by decide, by decide⟩ ⟨Nat.le_refl _, Nat.le_refl _⟩ (Nat.le_of_ble_eq_true rfl) rfl h (fun r9 I8 h => ?_)
          exact y_iret (pc := 74) dX10_news_74 rfl ⟨Nat.le_refl _, Nat.le_refl _⟩ h
        · have h := h.2 e
          refine x_iconst (pc := 51) dX10_news_51 ?_
          exact y_iret (pc := 52) dX10_news_52 rfl ⟨Nat.le_refl _, Nat.le_refl _⟩ h
set_option maxHeartbeats 4000000 in
set_option maxRecDepth 100000 in
theorem b_H_nextFor {G : XG} {S : XS} {I : XI} {v1 : Int} {R : Int → XI → Prop} (hS : xSh S)  (h : (inb (v1) 12 ∧ (inb (I c_readers_camps (ix (v1))) 6 ∧ Re_levelOf G S I (v1) (fun r2 I1 => H_nextFor_k58 G S I1 (v1) (I c_herds_tongues (ix (I c_readers_camps (ix (v1))))) ((r2) + (1)) ((-1)) (11) (0) R)))) : H_nextFor G S I v1 R := by
  refine x_start [some (vr G c_obj), some (vi (v1)), none, none, none, none, none, none, none] (by decide) (Nat.le_of_ble_eq_true rfl) rfl ?_
  refine x_aload_n (pc := 0) dX10_nextFor_0 rfl rfl ?_
  refine x_getR (pc := 1) (i := c_obj) (a := c_told) fl_X10_12 dX10_nextFor_1 (sN_c_obj hS) (sT_c_obj hS) rfl (sR_c_obj_0 hS) ?_
  refine x_getR (pc := 4) (i := c_told) (a := c_shelf) fl_X10_154 dX10_nextFor_4 (sN_c_told hS) (sT_c_told hS) rfl (sR_c_told_2 hS) ?_
  refine x_astore_n (pc := 7) (L' := [some (vr G c_obj), some (vi (v1)), some (vr G c_shelf), none, none, none, none, none, none]) dX10_nextFor_7 rfl (by decide) (xst1 rfl rfl rfl) ?_
  refine x_aload_n (pc := 8) dX10_nextFor_8 rfl rfl ?_
  refine x_getR (pc := 9) (i := c_obj) (a := c_told) fl_X10_12 dX10_nextFor_9 (sN_c_obj hS) (sT_c_obj hS) rfl (sR_c_obj_0 hS) ?_
  refine x_getR (pc := 12) (i := c_told) (a := c_herds) fl_X10_88 dX10_nextFor_12 (sN_c_told hS) (sT_c_told hS) rfl (sR_c_told_1 hS) ?_
  refine x_getR (pc := 15) (i := c_herds) (a := c_herds_tongues) fl_X10_390 dX10_nextFor_15 (sN_c_herds hS) (sT_c_herds hS) rfl (sR_c_herds_1 hS) ?_
  refine x_aload_n (pc := 18) dX10_nextFor_18 rfl rfl ?_
  refine x_getR (pc := 19) (i := c_obj) (a := c_told) fl_X10_12 dX10_nextFor_19 (sN_c_obj hS) (sT_c_obj hS) rfl (sR_c_obj_0 hS) ?_
  refine x_getR (pc := 22) (i := c_told) (a := c_readers) fl_X10_310 dX10_nextFor_22 (sN_c_told hS) (sT_c_told hS) rfl (sR_c_told_4 hS) ?_
  refine x_getR (pc := 25) (i := c_readers) (a := c_readers_camps) fl_X10_328 dX10_nextFor_25 (sN_c_readers hS) (sT_c_readers hS) rfl (sR_c_readers_1 hS) ?_
  refine x_iload_n (pc := 28) dX10_nextFor_28 rfl rfl ?_
  refine y_iald (pc := 29) (i := c_readers_camps) (n := 12) dX10_nextFor_29 (sN_c_readers_camps hS) (sT_c_readers_camps hS) (sL_c_readers_camps hS) h.1 ?_
  have h := h.2
  refine y_iald (pc := 30) (i := c_herds_tongues) (n := 6) dX10_nextFor_30 (sN_c_herds_tongues hS) (sT_c_herds_tongues hS) (sL_c_herds_tongues hS) h.1 ?_
  have h := h.2
  refine x_istore_n (pc := 31) (L' := [some (vr G c_obj), some (vi (v1)), some (vr G c_shelf), some (vi (I c_herds_tongues (ix (I c_readers_camps (ix (v1)))))), none, none, none, none, none]) dX10_nextFor_31 rfl (by decide) (xst1 rfl rfl rfl) ?_
  refine x_aload_n (pc := 32) dX10_nextFor_32 rfl rfl ?_
  refine x_getR (pc := 33) (i := c_obj) (a := c_told) fl_X10_12 dX10_nextFor_33 (sN_c_obj hS) (sT_c_obj hS) rfl (sR_c_obj_0 hS) ?_
  refine x_getR (pc := 36) (i := c_told) (a := c_readers) fl_X10_310 dX10_nextFor_36 (sN_c_told hS) (sT_c_told hS) rfl (sR_c_told_4 hS) ?_
  refine x_iload_n (pc := 39) dX10_nextFor_39 rfl rfl ?_
  refine x_aload_n (pc := 40) dX10_nextFor_40 rfl rfl ?_
  refine y_Vi (pc := 41) (i := c_readers) (As := [vi (v1), vr G c_shelf]) (rest := []) ok_X4_levelOf ml_X10_331 dX10_nextFor_41 (sN_c_readers hS) (sT_c_readers hS) (by decide) rfl rfl rfl ⟨rfl, rfl⟩ ⟨by decide, by decide⟩ ⟨Nat.le_refl _, Nat.le_refl _⟩ (Nat.le_of_ble_eq_true rfl) rfl h (fun r2 I1 h => ?_)
  refine x_iconst (pc := 44) dX10_nextFor_44 ?_
  refine x_iadd (pc := 45) dX10_nextFor_45 ?_
  refine x_istore (pc := 46) (L' := [some (vr G c_obj), some (vi (v1)), some (vr G c_shelf), some (vi (I c_herds_tongues (ix (I c_readers_camps (ix (v1)))))), some (vi ((r2) + (1))), none, none, none, none]) dX10_nextFor_46 (by decide) (xst1 rfl rfl rfl) ?_
  refine x_iconst (pc := 48) dX10_nextFor_48 ?_
  refine x_istore (pc := 49) (L' := [some (vr G c_obj), some (vi (v1)), some (vr G c_shelf), some (vi (I c_herds_tongues (ix (I c_readers_camps (ix (v1)))))), some (vi ((r2) + (1))), some (vi ((-1))), none, none, none]) dX10_nextFor_49 (by decide) (xst1 rfl rfl rfl) ?_
  refine x_bipush (pc := 51) dX10_nextFor_51 (by decide) ?_
  refine x_istore (pc := 53) (L' := [some (vr G c_obj), some (vi (v1)), some (vr G c_shelf), some (vi (I c_herds_tongues (ix (I c_readers_camps (ix (v1)))))), some (vi ((r2) + (1))), some (vi ((-1))), some (vi (11)), none, none]) dX10_nextFor_53 (by decide) (xst1 rfl rfl rfl) ?_
  refine x_iconst (pc := 55) dX10_nextFor_55 ?_
  refine x_istore (pc := 56) (L' := [some (vr G c_obj), some (vi (v1)), some (vr G c_shelf), some (vi (I c_herds_tongues (ix (I c_readers_camps (ix (v1)))))), some (vi ((r2) + (1))), some (vi ((-1))), some (vi (11)), some (vi (0)), none]) dX10_nextFor_56 (by decide) (xst1 rfl rfl rfl) ?_
  exact h
set_option maxHeartbeats 4000000 in
set_option maxRecDepth 100000 in
theorem b_H_nextFor_k58 {G : XG} {S : XS}  {I : XI} {v1 : Int} {v3 : Int} {v4 : Int} {v5 : Int} {v6 : Int} {v7 : Int} {R : Int → XI → Prop} (hS : xSh S)  (h : ((w32 (I c_shelf 0) ≤ w32 (v7) → R (v5) I) ∧ (¬ (w32 (I c_shelf 0) ≤ w32 (v7)) → (inb (v7) 24 ∧ ((w32 (v6) ≤ w32 (if 0 ≤ w32 ((I c_shelf_levels (ix (v7))) - (v4)) then (I c_shelf_levels (ix (v7))) - (v4) else 0 - ((I c_shelf_levels (ix (v7))) - (v4))) → H_nextFor_k58 G S I (v1) (v3) (v4) (v5) (v6) (v7 + 1) R) ∧ (¬ (w32 (v6) ≤ w32 (if 0 ≤ w32 ((I c_shelf_levels (ix (v7))) - (v4)) then (I c_shelf_levels (ix (v7))) - (v4) else 0 - ((I c_shelf_levels (ix (v7))) - (v4)))) → (inb (v7) 24 ∧ ((w32 (I c_shelf_tongues (ix (v7))) = w32 (v3) → Re_hasRead G S I (v1) (v7) (fun r4 I3 => ((w32 (r4) = 0 → H_limit G S I3 (fun r6 I5 => Sh_holder G S I5 (v7) (I3 c_told 9) (r6) (fun r8 I7 => ((w32 (r8) = w32 ((-1)) → H_nextFor_k58 G S I7 (v1) (v3) (v4) (v7) (if 0 ≤ w32 ((I c_shelf_levels (ix (v7))) - (v4)) then (I c_shelf_levels (ix (v7))) - (v4) else 0 - ((I c_shelf_levels (ix (v7))) - (v4))) (v7 + 1) R) ∧ (¬ (w32 (r8) = w32 ((-1))) → H_nextFor_k58 G S I7 (v1) (v3) (v4) (v5) (v6) (v7 + 1) R))))) ∧ (¬ (w32 (r4) = 0) → H_nextFor_k58 G S I3 (v1) (v3) (v4) (v5) (v6) (v7 + 1) R)))) ∧ (¬ (w32 (I c_shelf_tongues (ix (v7))) = w32 (v3)) → H_nextFor_k58 G S I (v1) (v3) (v4) (v5) (v6) (v7 + 1) R))))))))) : H_nextFor_k58 G S  I v1 v3 v4 v5 v6 v7 R := by
  unfold H_nextFor_k58
  refine x_iload (pc := 58) dX10_nextFor_58 rfl ?_
  refine x_aload_n (pc := 60) dX10_nextFor_60 rfl rfl ?_
  refine x_getI (pc := 61) (i := c_shelf) fl_X10_356 dX10_nextFor_61 (sN_c_shelf hS) (sT_c_shelf hS) rfl ?_
  refine x_icmp_ge (pc := 64) (t := 151) dX10_nextFor_64 (by decide) (fun e => ?_) (fun e => ?_)
  · have h := h.1 e
    refine x_iload (pc := 151) dX10_nextFor_151 rfl ?_
    exact y_iret (pc := 153) dX10_nextFor_153 rfl ⟨Nat.le_refl _, Nat.le_refl _⟩ h
  · have h := h.2 e
    refine x_aload_n (pc := 67) dX10_nextFor_67 rfl rfl ?_
    refine x_getR (pc := 68) (i := c_shelf) (a := c_shelf_levels) fl_X10_394 dX10_nextFor_68 (sN_c_shelf hS) (sT_c_shelf hS) rfl (sR_c_shelf_3 hS) ?_
    refine x_iload (pc := 71) dX10_nextFor_71 rfl ?_
    refine y_iald (pc := 73) (i := c_shelf_levels) (n := 24) dX10_nextFor_73 (sN_c_shelf_levels hS) (sT_c_shelf_levels hS) (sL_c_shelf_levels hS) h.1 ?_
    have h := h.2
    refine x_iload (pc := 74) dX10_nextFor_74 rfl ?_
    refine x_isub (pc := 76) dX10_nextFor_76 ?_
    refine x_abs (pc := 77) ⟨ml_X10_420, w_abss, w_mi, w_absc⟩ dX10_nextFor_77 ⟨by decide, Nat.le_of_ble_eq_true rfl, Nat.le_refl _, Nat.le_refl _⟩ ?_
    refine x_istore (pc := 80) (L' := [some (vr G c_obj), some (vi (v1)), some (vr G c_shelf), some (vi (v3)), some (vi (v4)), some (vi (v5)), some (vi (v6)), some (vi (v7)), some (vi (if 0 ≤ w32 ((I c_shelf_levels (ix (v7))) - (v4)) then (I c_shelf_levels (ix (v7))) - (v4) else 0 - ((I c_shelf_levels (ix (v7))) - (v4))))]) dX10_nextFor_80 (by decide) (xst1 rfl rfl rfl) ?_
    refine x_iload (pc := 82) dX10_nextFor_82 rfl ?_
    refine x_iload (pc := 84) dX10_nextFor_84 rfl ?_
    refine x_icmp_ge (pc := 86) (t := 145) dX10_nextFor_86 (by decide) (fun e => ?_) (fun e => ?_)
    · have h := h.1 e
      refine x_iinc (pc := 145) (L' := [some (vr G c_obj), some (vi (v1)), some (vr G c_shelf), some (vi (v3)), some (vi (v4)), some (vi (v5)), some (vi (v6)), some (vi (v7 + 1)), some (vi (if 0 ≤ w32 ((I c_shelf_levels (ix (v7))) - (v4)) then (I c_shelf_levels (ix (v7))) - (v4) else 0 - ((I c_shelf_levels (ix (v7))) - (v4))))]) dX10_nextFor_145 rfl (by decide) (xst1 rfl rfl rfl) ?_
      refine x_goto (pc := 148) (t := 58) dX10_nextFor_148 (by decide) ?_
      refine x_less (L' := [some (vr G c_obj), some (vi (v1)), some (vr G c_shelf), some (vi (v3)), some (vi (v4)), some (vi (v5)), some (vi (v6)), some (vi (v7 + 1)), none]) (And.intro rfl (And.intro rfl (And.intro rfl (And.intro rfl (And.intro rfl (And.intro rfl (And.intro rfl (And.intro rfl trivial)))))))) ?_
      exact h
    · have h := h.2 e
      refine x_aload_n (pc := 89) dX10_nextFor_89 rfl rfl ?_
      refine x_getR (pc := 90) (i := c_shelf) (a := c_shelf_tongues) fl_X10_387 dX10_nextFor_90 (sN_c_shelf hS) (sT_c_shelf hS) rfl (sR_c_shelf_2 hS) ?_
      refine x_iload (pc := 93) dX10_nextFor_93 rfl ?_
      refine y_iald (pc := 95) (i := c_shelf_tongues) (n := 24) dX10_nextFor_95 (sN_c_shelf_tongues hS) (sT_c_shelf_tongues hS) (sL_c_shelf_tongues hS) h.1 ?_
      have h := h.2
      refine x_iload_n (pc := 96) dX10_nextFor_96 rfl rfl ?_
      refine x_icmp_ne (pc := 97) (t := 145) dX10_nextFor_97 (by decide) (fun e => ?_) (fun e => ?_)
      · have h := h.1 e
        refine x_aload_n (pc := 100) dX10_nextFor_100 rfl rfl ?_
        refine x_getR (pc := 101) (i := c_obj) (a := c_told) fl_X10_12 dX10_nextFor_101 (sN_c_obj hS) (sT_c_obj hS) rfl (sR_c_obj_0 hS) ?_
        refine x_getR (pc := 104) (i := c_told) (a := c_readers) fl_X10_310 dX10_nextFor_104 (sN_c_told hS) (sT_c_told hS) rfl (sR_c_told_4 hS) ?_
        refine x_iload_n (pc := 107) dX10_nextFor_107 rfl rfl ?_
        refine x_iload (pc := 108) dX10_nextFor_108 rfl ?_
        refine y_Vi (pc := 110) (i := c_readers) (As := [vi (v1), vi (v7)]) (rest := []) ok_X4_hasRead ml_X10_322 dX10_nextFor_110 (sN_c_readers hS) (sT_c_readers hS) (by decide) rfl rfl rfl ⟨rfl, rfl⟩ ⟨by decide, by decide⟩ ⟨Nat.le_refl _, Nat.le_refl _⟩ (Nat.le_of_ble_eq_true rfl) rfl h (fun r4 I3 h => ?_)
        refine x_if_ne (pc := 113) (t := 145) dX10_nextFor_113 (by decide) (fun e => ?_) (fun e => ?_)
        · have h := h.1 e
          refine x_aload_n (pc := 116) dX10_nextFor_116 rfl rfl ?_
          refine x_iload (pc := 117) dX10_nextFor_117 rfl ?_
          refine x_aload_n (pc := 119) dX10_nextFor_119 rfl rfl ?_
          refine x_getR (pc := 120) (i := c_obj) (a := c_told) fl_X10_12 dX10_nextFor_120 (sN_c_obj hS) (sT_c_obj hS) rfl (sR_c_obj_0 hS) ?_
          refine x_getI (pc := 123) (i := c_told) fl_X10_92 dX10_nextFor_123 (sN_c_told hS) (sT_c_told hS) rfl ?_
          refine x_aload_n (pc := 126) dX10_nextFor_126 rfl rfl ?_
          refine y_Vi (pc := 127) (i := c_obj) (As := []) (rest := [vi (I3 c_told 9), vi (v7), vr G c_shelf]) ok_X10_limit ml_X10_132 dX10_nextFor_127 (sN_c_obj hS) (sT_c_obj hS) (by decide) rfl rfl rfl ⟨rfl, rfl⟩ ⟨by decide, by decide⟩ ⟨Nat.le_refl _, Nat.le_refl _⟩ (Nat.le_of_ble_eq_true rfl) rfl h (fun r6 I5 h => ?_)
          refine y_Vi (pc := 130) (i := c_shelf) (As := [vi (v7), vi (I3 c_told 9), vi (r6)]) (rest := []) ok_X6_holder ml_X10_171 dX10_nextFor_130 (sN_c_shelf hS) (sT_c_shelf hS) (by decide) rfl rfl rfl ⟨rfl, rfl⟩ ⟨by decide, by decide⟩ ⟨Nat.le_refl _, Nat.le_refl _⟩ (Nat.le_of_ble_eq_true rfl) rfl h (fun r8 I7 h => ?_)
          refine x_iconst (pc := 133) dX10_nextFor_133 ?_
          refine x_icmp_ne (pc := 134) (t := 145) dX10_nextFor_134 (by decide) (fun e => ?_) (fun e => ?_)
          · have h := h.1 e
            refine x_iload (pc := 137) dX10_nextFor_137 rfl ?_
            refine x_istore (pc := 139) (L' := [some (vr G c_obj), some (vi (v1)), some (vr G c_shelf), some (vi (v3)), some (vi (v4)), some (vi (v7)), some (vi (v6)), some (vi (v7)), some (vi (if 0 ≤ w32 ((I c_shelf_levels (ix (v7))) - (v4)) then (I c_shelf_levels (ix (v7))) - (v4) else 0 - ((I c_shelf_levels (ix (v7))) - (v4))))]) dX10_nextFor_139 (by decide) (xst1 rfl rfl rfl) ?_
            refine x_iload (pc := 141) dX10_nextFor_141 rfl ?_
            refine x_istore (pc := 143) (L' := [some (vr G c_obj), some (vi (v1)), some (vr G c_shelf), some (vi (v3)), some (vi (v4)), some (vi (v7)), some (vi (if 0 ≤ w32 ((I c_shelf_levels (ix (v7))) - (v4)) then (I c_shelf_levels (ix (v7))) - (v4) else 0 - ((I c_shelf_levels (ix (v7))) - (v4)))), some (vi (v7)), some (vi (if 0 ≤ w32 ((I c_shelf_levels (ix (v7))) - (v4)) then (I c_shelf_levels (ix (v7))) - (v4) else 0 - ((I c_shelf_levels (ix (v7))) - (v4))))]) dX10_nextFor_143 (by decide) (xst1 rfl rfl rfl) ?_
            refine x_iinc (pc := 145) (L' := [some (vr G c_obj), some (vi (v1)), some (vr G c_shelf), some (vi (v3)), some (vi (v4)), some (vi (v7)), some (vi (if 0 ≤ w32 ((I c_shelf_levels (ix (v7))) - (v4)) then (I c_shelf_levels (ix (v7))) - (v4) else 0 - ((I c_shelf_levels (ix (v7))) - (v4)))), some (vi (v7 + 1)), some (vi (if 0 ≤ w32 ((I c_shelf_levels (ix (v7))) - (v4)) then (I c_shelf_levels (ix (v7))) - (v4) else 0 - ((I c_shelf_levels (ix (v7))) - (v4))))]) dX10_nextFor_145 rfl (by decide) (xst1 rfl rfl rfl) ?_
            refine x_goto (pc := 148) (t := 58) dX10_nextFor_148 (by decide) ?_
            refine x_less (L' := [some (vr G c_obj), some (vi (v1)), some (vr G c_shelf), some (vi (v3)), some (vi (v4)), some (vi (v7)), some (vi (if 0 ≤ w32 ((I c_shelf_levels (ix (v7))) - (v4)) then (I c_shelf_levels (ix (v7))) - (v4) else 0 - ((I c_shelf_levels (ix (v7))) - (v4)))), some (vi (v7 + 1)), none]) (And.intro rfl (And.intro rfl (And.intro rfl (And.intro rfl (And.intro rfl (And.intro rfl (And.intro rfl (And.intro rfl trivial)))))))) ?_
            exact h
          · have h := h.2 e
            refine x_iinc (pc := 145) (L' := [some (vr G c_obj), some (vi (v1)), some (vr G c_shelf), some (vi (v3)), some (vi (v4)), some (vi (v5)), some (vi (v6)), some (vi (v7 + 1)), some (vi (if 0 ≤ w32 ((I c_shelf_levels (ix (v7))) - (v4)) then (I c_shelf_levels (ix (v7))) - (v4) else 0 - ((I c_shelf_levels (ix (v7))) - (v4))))]) dX10_nextFor_145 rfl (by decide) (xst1 rfl rfl rfl) ?_
            refine x_goto (pc := 148) (t := 58) dX10_nextFor_148 (by decide) ?_
            refine x_less (L' := [some (vr G c_obj), some (vi (v1)), some (vr G c_shelf), some (vi (v3)), some (vi (v4)), some (vi (v5)), some (vi (v6)), some (vi (v7 + 1)), none]) (And.intro rfl (And.intro rfl (And.intro rfl (And.intro rfl (And.intro rfl (And.intro rfl (And.intro rfl (And.intro rfl trivial)))))))) ?_
            exact h
        · have h := h.2 e
          refine x_iinc (pc := 145) (L' := [some (vr G c_obj), some (vi (v1)), some (vr G c_shelf), some (vi (v3)), some (vi (v4)), some (vi (v5)), some (vi (v6)), some (vi (v7 + 1)), some (vi (if 0 ≤ w32 ((I c_shelf_levels (ix (v7))) - (v4)) then (I c_shelf_levels (ix (v7))) - (v4) else 0 - ((I c_shelf_levels (ix (v7))) - (v4))))]) dX10_nextFor_145 rfl (by decide) (xst1 rfl rfl rfl) ?_
          refine x_goto (pc := 148) (t := 58) dX10_nextFor_148 (by decide) ?_
          refine x_less (L' := [some (vr G c_obj), some (vi (v1)), some (vr G c_shelf), some (vi (v3)), some (vi (v4)), some (vi (v5)), some (vi (v6)), some (vi (v7 + 1)), none]) (And.intro rfl (And.intro rfl (And.intro rfl (And.intro rfl (And.intro rfl (And.intro rfl (And.intro rfl (And.intro rfl trivial)))))))) ?_
          exact h
      · have h := h.2 e
        refine x_iinc (pc := 145) (L' := [some (vr G c_obj), some (vi (v1)), some (vr G c_shelf), some (vi (v3)), some (vi (v4)), some (vi (v5)), some (vi (v6)), some (vi (v7 + 1)), some (vi (if 0 ≤ w32 ((I c_shelf_levels (ix (v7))) - (v4)) then (I c_shelf_levels (ix (v7))) - (v4) else 0 - ((I c_shelf_levels (ix (v7))) - (v4))))]) dX10_nextFor_145 rfl (by decide) (xst1 rfl rfl rfl) ?_
        refine x_goto (pc := 148) (t := 58) dX10_nextFor_148 (by decide) ?_
        refine x_less (L' := [some (vr G c_obj), some (vi (v1)), some (vr G c_shelf), some (vi (v3)), some (vi (v4)), some (vi (v5)), some (vi (v6)), some (vi (v7 + 1)), none]) (And.intro rfl (And.intro rfl (And.intro rfl (And.intro rfl (And.intro rfl (And.intro rfl (And.intro rfl (And.intro rfl trivial)))))))) ?_
        exact h
set_option maxHeartbeats 4000000 in
set_option maxRecDepth 100000 in
theorem b_H_offerBooks {G : XG} {S : XS} {I : XI} {v1 : Int} {R : XI → Prop} (hS : xSh S)  (h : Bo_clear G S I (fun I1 => H_offerBooks_k26 G S I1 (v1) (I c_told 9) (0) R)) : H_offerBooks G S I v1 R := by
  refine x_start [some (vr G c_obj), some (vi (v1)), none, none, none] (by decide) (Nat.le_of_ble_eq_true rfl) rfl ?_
  refine x_aload_n (pc := 0) dX10_offerBooks_0 rfl rfl ?_
  refine x_getR (pc := 1) (i := c_obj) (a := c_told) fl_X10_12 dX10_offerBooks_1 (sN_c_obj hS) (sT_c_obj hS) rfl (sR_c_obj_0 hS) ?_
  refine x_getR (pc := 4) (i := c_told) (a := c_shelf) fl_X10_154 dX10_offerBooks_4 (sN_c_told hS) (sT_c_told hS) rfl (sR_c_told_2 hS) ?_
  refine x_astore_n (pc := 7) (L' := [some (vr G c_obj), some (vi (v1)), some (vr G c_shelf), none, none]) dX10_offerBooks_7 rfl (by decide) (xst1 rfl rfl rfl) ?_
  refine x_aload_n (pc := 8) dX10_offerBooks_8 rfl rfl ?_
  refine x_getR (pc := 9) (i := c_obj) (a := c_told) fl_X10_12 dX10_offerBooks_9 (sN_c_obj hS) (sT_c_obj hS) rfl (sR_c_obj_0 hS) ?_
  refine x_getI (pc := 12) (i := c_told) fl_X10_92 dX10_offerBooks_12 (sN_c_told hS) (sT_c_told hS) rfl ?_
  refine x_istore_n (pc := 15) (L' := [some (vr G c_obj), some (vi (v1)), some (vr G c_shelf), some (vi (I c_told 9)), none]) dX10_offerBooks_15 rfl (by decide) (xst1 rfl rfl rfl) ?_
  refine x_aload_n (pc := 16) dX10_offerBooks_16 rfl rfl ?_
  refine x_getR (pc := 17) (i := c_obj) (a := c_box) fl_X10_49 dX10_offerBooks_17 (sN_c_obj hS) (sT_c_obj hS) rfl (sR_c_obj_6 hS) ?_
  refine y_Vv (pc := 20) (i := c_box) (As := []) (rest := []) ok_X0_clear ml_X10_410 dX10_offerBooks_20 (sN_c_box hS) (sT_c_box hS) (by decide) rfl rfl rfl ⟨rfl, rfl⟩ ⟨by decide, by decide⟩ ⟨Nat.le_refl _, Nat.le_refl _⟩ (Nat.le_of_ble_eq_true rfl) rfl h (fun I1 h => ?_)
  refine x_iconst (pc := 23) dX10_offerBooks_23 ?_
  refine x_istore (pc := 24) (L' := [some (vr G c_obj), some (vi (v1)), some (vr G c_shelf), some (vi (I c_told 9)), some (vi (0))]) dX10_offerBooks_24 (by decide) (xst1 rfl rfl rfl) ?_
  exact h
set_option maxHeartbeats 4000000 in
set_option maxRecDepth 100000 in
theorem b_H_offerBooks_k26 {G : XG} {S : XS}  {I : XI} {v1 : Int} {v3 : Int} {v4 : Int} {R : XI → Prop} (hS : xSh S)  (h : ((w32 (I c_shelf 0) ≤ w32 (v4) → R I) ∧ (¬ (w32 (I c_shelf 0) ≤ w32 (v4)) → H_limit G S I (fun r3 I2 => H_gatherBook G S I2 (v1) (v4) (v3) (r3) (fun I4 => ((w32 (I4 c_facts 0) = w32 (1) → H_limit G S I4 (fun r6 I5 => Sh_holder G S I5 (v4) (v3) (r6) (fun r8 I7 => ((w32 (r8) = w32 ((-1)) → H_limit G S I7 (fun r10 I9 => Sh_everHad G S I9 (v4) (v1) (r10) (fun r12 I11 => ((w32 (r12) = 0 → Ru_firstThatHolds G S I11 (0) (fun r14 I13 => ((w32 (r14) = w32 ((-1)) → Bo_offer G S I13 (v4) (fun I15 => H_offerBooks_k26 G S I15 (v1) (v3) (v4 + 1) R)) ∧ (¬ (w32 (r14) = w32 ((-1))) → H_offerBooks_k26 G S I13 (v1) (v3) (v4 + 1) R)))) ∧ (¬ (w32 (r12) = 0) → H_offerBooks_k26 G S I11 (v1) (v3) (v4 + 1) R))))) ∧ (¬ (w32 (r8) = w32 ((-1))) → H_offerBooks_k26 G S I7 (v1) (v3) (v4 + 1) R))))) ∧ (¬ (w32 (I4 c_facts 0) = w32 (1)) → H_offerBooks_k26 G S I4 (v1) (v3) (v4 + 1) R))))))) : H_offerBooks_k26 G S  I v1 v3 v4 R := by
  unfold H_offerBooks_k26
  refine x_iload (pc := 26) dX10_offerBooks_26 rfl ?_
  refine x_aload_n (pc := 28) dX10_offerBooks_28 rfl rfl ?_
  refine x_getI (pc := 29) (i := c_shelf) fl_X10_356 dX10_offerBooks_29 (sN_c_shelf hS) (sT_c_shelf hS) rfl ?_
  refine x_icmp_ge (pc := 32) (t := 121) dX10_offerBooks_32 (by decide) (fun e => ?_) (fun e => ?_)
  · have h := h.1 e
    exact y_vret (pc := 121) dX10_offerBooks_121 rfl ⟨Nat.le_refl _, Nat.le_refl _⟩ h
  · have h := h.2 e
    refine x_aload_n (pc := 35) dX10_offerBooks_35 rfl rfl ?_
    refine x_iload_n (pc := 36) dX10_offerBooks_36 rfl rfl ?_
    refine x_iload (pc := 37) dX10_offerBooks_37 rfl ?_
    refine x_iload_n (pc := 39) dX10_offerBooks_39 rfl rfl ?_
    refine x_aload_n (pc := 40) dX10_offerBooks_40 rfl rfl ?_
    refine y_Vi (pc := 41) (i := c_obj) (As := []) (rest := [vi (v3), vi (v4), vi (v1), vr G c_obj]) ok_X10_limit ml_X10_132 dX10_offerBooks_41 (sN_c_obj hS) (sT_c_obj hS) (by decide) rfl rfl rfl ⟨rfl, rfl⟩ ⟨by decide, by decide⟩ ⟨Nat.le_refl _, Nat.le_refl _⟩ (Nat.le_of_ble_eq_true rfl) rfl h (fun r3 I2 h => ?_)
    refine y_Vv (pc := 44) (i := c_obj) (As := [vi (v1), vi (v4), vi (v3), vi (r3)]) (rest := []) ok_X10_gatherBook ml_X10_177 dX10_offerBooks_44 (sN_c_obj hS) (sT_c_obj hS) (by decide) rfl rfl rfl ⟨rfl, rfl⟩ ⟨by decide, by decide⟩ ⟨Nat.le_refl _, Nat.le_refl _⟩ (Nat.le_of_ble_eq_true rfl) rfl h (fun I4 h => ?_)
    refine x_aload_n (pc := 47) dX10_offerBooks_47 rfl rfl ?_
    refine x_getR (pc := 48) (i := c_obj) (a := c_facts) fl_X10_53 dX10_offerBooks_48 (sN_c_obj hS) (sT_c_obj hS) rfl (sR_c_obj_7 hS) ?_
    refine x_iconst (pc := 51) dX10_offerBooks_51 ?_
    refine y_iald (pc := 52) (i := c_facts) (n := 10) dX10_offerBooks_52 (sN_c_facts hS) (sT_c_facts hS) (sL_c_facts hS) (inb_nat (k := 0) (by decide) (by decide)) ?_
    rw [show ix 0 = 0 from rfl]
    refine x_iconst (pc := 53) dX10_offerBooks_53 ?_
    refine x_icmp_ne (pc := 54) (t := 115) dX10_offerBooks_54 (by decide) (fun e => ?_) (fun e => ?_)
    · have h := h.1 e
      refine x_aload_n (pc := 57) dX10_offerBooks_57 rfl rfl ?_
      refine x_iload (pc := 58) dX10_offerBooks_58 rfl ?_
      refine x_iload_n (pc := 60) dX10_offerBooks_60 rfl rfl ?_
      refine x_aload_n (pc := 61) dX10_offerBooks_61 rfl rfl ?_
      refine y_Vi (pc := 62) (i := c_obj) (As := []) (rest := [vi (v3), vi (v4), vr G c_shelf]) ok_X10_limit ml_X10_132 dX10_offerBooks_62 (sN_c_obj hS) (sT_c_obj hS) (by decide) rfl rfl rfl ⟨rfl, rfl⟩ ⟨by decide, by decide⟩ ⟨Nat.le_refl _, Nat.le_refl _⟩ (Nat.le_of_ble_eq_true rfl) rfl h (fun r6 I5 h => ?_)
      refine y_Vi (pc := 65) (i := c_shelf) (As := [vi (v4), vi (v3), vi (r6)]) (rest := []) ok_X6_holder ml_X10_171 dX10_offerBooks_65 (sN_c_shelf hS) (sT_c_shelf hS) (by decide) rfl rfl rfl ⟨rfl, rfl⟩ ⟨by decide, by decide⟩ ⟨Nat.le_refl _, Nat.le_refl _⟩ (Nat.le_of_ble_eq_true rfl) rfl h (fun r8 I7 h => ?_)
      refine x_iconst (pc := 68) dX10_offerBooks_68 ?_
      refine x_icmp_ne (pc := 69) (t := 115) dX10_offerBooks_69 (by decide) (fun e => ?_) (fun e => ?_)
      · have h := h.1 e
        refine x_aload_n (pc := 72) dX10_offerBooks_72 rfl rfl ?_
        refine x_iload (pc := 73) dX10_offerBooks_73 rfl ?_
        refine x_iload_n (pc := 75) dX10_offerBooks_75 rfl rfl ?_
        refine x_aload_n (pc := 76) dX10_offerBooks_76 rfl rfl ?_
        refine y_Vi (pc := 77) (i := c_obj) (As := []) (rest := [vi (v1), vi (v4), vr G c_shelf]) ok_X10_limit ml_X10_132 dX10_offerBooks_77 (sN_c_obj hS) (sT_c_obj hS) (by decide) rfl rfl rfl ⟨rfl, rfl⟩ ⟨by decide, by decide⟩ ⟨Nat.le_refl _, Nat.le_refl _⟩ (Nat.le_of_ble_eq_true rfl) rfl h (fun r10 I9 h => ?_)
        refine y_Vi (pc := 80) (i := c_shelf) (As := [vi (v4), vi (v1), vi (r10)]) (rest := []) ok_X6_everHad ml_X10_413 dX10_offerBooks_80 (sN_c_shelf hS) (sT_c_shelf hS) (by decide) rfl rfl rfl ⟨rfl, rfl⟩ ⟨by decide, by decide⟩ ⟨Nat.le_refl _, Nat.le_refl _⟩ (Nat.le_of_ble_eq_true rfl) rfl h (fun r12 I11 h => ?_)
        refine x_if_ne (pc := 83) (t := 115) dX10_offerBooks_83 (by decide) (fun e => ?_) (fun e => ?_)
        · have h := h.1 e
          refine x_aload_n (pc := 86) dX10_offerBooks_86 rfl rfl ?_
          refine x_getR (pc := 87) (i := c_obj) (a := c_told) fl_X10_12 dX10_offerBooks_87 (sN_c_obj hS) (sT_c_obj hS) rfl (sR_c_obj_0 hS) ?_
          refine x_getR (pc := 90) (i := c_told) (a := c_rules) fl_X10_181 dX10_offerBooks_90 (sN_c_told hS) (sT_c_told hS) rfl (sR_c_told_3 hS) ?_
          refine x_iconst (pc := 93) dX10_offerBooks_93 ?_
          refine x_aload_n (pc := 94) dX10_offerBooks_94 rfl rfl ?_
          refine x_getR (pc := 95) (i := c_obj) (a := c_facts) fl_X10_53 dX10_offerBooks_95 (sN_c_obj hS) (sT_c_obj hS) rfl (sR_c_obj_7 hS) ?_
          refine y_Vi (pc := 98) (i := c_rules) (As := [vi (0), vr G c_facts]) (rest := []) ok_X5_firstThatHolds ml_X10_185 dX10_offerBooks_98 (sN_c_rules hS) (sT_c_rules hS) (by decide) rfl rfl rfl ⟨rfl, rfl⟩ ⟨by decide, by decide⟩ ⟨Nat.le_refl _, Nat.le_refl _⟩ (Nat.le_of_ble_eq_true rfl) rfl h (fun r14 I13 h => ?_)
          refine x_iconst (pc := 101) dX10_offerBooks_101 ?_
          refine x_icmp_ne (pc := 102) (t := 115) dX10_offerBooks_102 (by decide) (fun e => ?_) (fun e => ?_)
          · have h := h.1 e
            refine x_aload_n (pc := 105) dX10_offerBooks_105 rfl rfl ?_
            refine x_getR (pc := 106) (i := c_obj) (a := c_box) fl_X10_49 dX10_offerBooks_106 (sN_c_obj hS) (sT_c_obj hS) rfl (sR_c_obj_6 hS) ?_
            refine x_aload_n (pc := 109) dX10_offerBooks_109 rfl rfl ?_
            refine x_iload (pc := 110) dX10_offerBooks_110 rfl ?_
            refine y_Vv (pc := 112) (i := c_box) (As := [vr G c_shelf, vi (v4)]) (rest := []) ok_X0_offer ml_X10_416 dX10_offerBooks_112 (sN_c_box hS) (sT_c_box hS) (by decide) rfl rfl rfl ⟨rfl, rfl⟩ ⟨by decide, by decide⟩ ⟨Nat.le_refl _, Nat.le_refl _⟩ (Nat.le_of_ble_eq_true rfl) rfl h (fun I15 h => ?_)
            refine x_iinc (pc := 115) (L' := [some (vr G c_obj), some (vi (v1)), some (vr G c_shelf), some (vi (v3)), some (vi (v4 + 1))]) dX10_offerBooks_115 rfl (by decide) (xst1 rfl rfl rfl) ?_
            refine x_goto (pc := 118) (t := 26) dX10_offerBooks_118 (by decide) ?_
            exact h
          · have h := h.2 e
            refine x_iinc (pc := 115) (L' := [some (vr G c_obj), some (vi (v1)), some (vr G c_shelf), some (vi (v3)), some (vi (v4 + 1))]) dX10_offerBooks_115 rfl (by decide) (xst1 rfl rfl rfl) ?_
            refine x_goto (pc := 118) (t := 26) dX10_offerBooks_118 (by decide) ?_
            exact h
        · have h := h.2 e
          refine x_iinc (pc := 115) (L' := [some (vr G c_obj), some (vi (v1)), some (vr G c_shelf), some (vi (v3)), some (vi (v4 + 1))]) dX10_offerBooks_115 rfl (by decide) (xst1 rfl rfl rfl) ?_
          refine x_goto (pc := 118) (t := 26) dX10_offerBooks_118 (by decide) ?_
          exact h
      · have h := h.2 e
        refine x_iinc (pc := 115) (L' := [some (vr G c_obj), some (vi (v1)), some (vr G c_shelf), some (vi (v3)), some (vi (v4 + 1))]) dX10_offerBooks_115 rfl (by decide) (xst1 rfl rfl rfl) ?_
        refine x_goto (pc := 118) (t := 26) dX10_offerBooks_118 (by decide) ?_
        exact h
    · have h := h.2 e
      refine x_iinc (pc := 115) (L' := [some (vr G c_obj), some (vi (v1)), some (vr G c_shelf), some (vi (v3)), some (vi (v4 + 1))]) dX10_offerBooks_115 rfl (by decide) (xst1 rfl rfl rfl) ?_
      refine x_goto (pc := 118) (t := 26) dX10_offerBooks_118 (by decide) ?_
      exact h
set_option maxHeartbeats 4000000 in
set_option maxRecDepth 100000 in
theorem b_H_owes {G : XG} {S : XS} {I : XI} {v1 : Int} {v2 : Int} {v3 : Int} {R : Int → XI → Prop} (hS : xSh S)  (h : He_hasCamp G S I (v1) (fun r2 I1 => ((w32 (r2) = 0 → R ((-1)) I1) ∧ (¬ (w32 (r2) = 0) → H_isWeek G S I1 (v2) (fun r4 I3 => ((w32 (r4) = 0 → R ((-1)) I3) ∧ (¬ (w32 (r4) = 0) → ((w32 (v3) = 0 → H_limit G S I3 (fun r6 I5 => Sh_heldBy G S I5 (v1) (v2) (r6) (fun r8 I7 => R (r8) I7))) ∧ (w32 (v3) = 1 → H_limit G S I3 (fun r10 I9 => Sh_lateWith G S I9 (v1) (v2) (r10) (fun r12 I11 => R (r12) I11))) ∧ (w32 (v3) = 2 → H_limit G S I3 (fun r14 I13 => Sh_tornBy G S I13 (v1) (v2) (r14) (fun r16 I15 => R (r16) I15))) ∧ (w32 (v3) = 3 → H_limit G S I3 (fun r18 I17 => Sh_owedBy G S I17 (v1) (v2) (r18) (fun r20 I19 => R (r20) I19))) ∧ ((w32 (v3) < 0 ∨ 3 < w32 (v3)) → R ((-1)) I3))))))))) : H_owes G S I v1 v2 v3 R := by
  refine x_start [some (vr G c_obj), some (vi (v1)), some (vi (v2)), some (vi (v3)), none] (by decide) (Nat.le_of_ble_eq_true rfl) rfl ?_
  refine x_aload_n (pc := 0) dX10_owes_0 rfl rfl ?_
  refine x_getR (pc := 1) (i := c_obj) (a := c_told) fl_X10_12 dX10_owes_1 (sN_c_obj hS) (sT_c_obj hS) rfl (sR_c_obj_0 hS) ?_
  refine x_getR (pc := 4) (i := c_told) (a := c_shelf) fl_X10_154 dX10_owes_4 (sN_c_told hS) (sT_c_told hS) rfl (sR_c_told_2 hS) ?_
  refine x_astore (pc := 7) (L' := [some (vr G c_obj), some (vi (v1)), some (vi (v2)), some (vi (v3)), some (vr G c_shelf)]) dX10_owes_7 (by decide) (xst1 rfl rfl rfl) ?_
  refine x_aload_n (pc := 9) dX10_owes_9 rfl rfl ?_
  refine x_getR (pc := 10) (i := c_obj) (a := c_told) fl_X10_12 dX10_owes_10 (sN_c_obj hS) (sT_c_obj hS) rfl (sR_c_obj_0 hS) ?_
  refine x_getR (pc := 13) (i := c_told) (a := c_herds) fl_X10_88 dX10_owes_13 (sN_c_told hS) (sT_c_told hS) rfl (sR_c_told_1 hS) ?_
  refine x_iload_n (pc := 16) dX10_owes_16 rfl rfl ?_
  refine y_Vi (pc := 17) (i := c_herds) (As := [vi (v1)]) (rest := []) ok_X1_hasCamp ml_X10_118 dX10_owes_17 (sN_c_herds hS) (sT_c_herds hS) (by decide) rfl rfl rfl ⟨rfl, rfl⟩ ⟨by decide, by decide⟩ ⟨Nat.le_refl _, Nat.le_refl _⟩ (Nat.le_of_ble_eq_true rfl) rfl h (fun r2 I1 h => ?_)
  refine x_if_eq (pc := 20) (t := 30) dX10_owes_20 (by decide) (fun e => ?_) (fun e => ?_)
  · have h := h.1 e
    refine x_iconst (pc := 30) dX10_owes_30 ?_
    exact y_iret (pc := 31) dX10_owes_31 rfl ⟨Nat.le_refl _, Nat.le_refl _⟩ h
  · have h := h.2 e
    refine x_iload_n (pc := 23) dX10_owes_23 rfl rfl ?_
    refine y_Si (pc := 24) (As := [vi (v2)]) (rest := []) ok_X10_isWeek ml_X10_102 dX10_owes_24 rfl ⟨rfl, rfl⟩ ⟨by decide, by decide⟩ ⟨Nat.le_refl _, Nat.le_refl _⟩ (Nat.le_of_ble_eq_true rfl) rfl h (fun r4 I3 h => ?_)
    refine x_if_ne (pc := 27) (t := 32) dX10_owes_27 (by decide) (fun e => ?_) (fun e => ?_)
    · have h := h.1 e
      refine x_iconst (pc := 30) dX10_owes_30 ?_
      exact y_iret (pc := 31) dX10_owes_31 rfl ⟨Nat.le_refl _, Nat.le_refl _⟩ h
    · have h := h.2 e
      refine x_iload_n (pc := 32) dX10_owes_32 rfl rfl ?_
      by_cases e0 : w32 (v3) = 0
      · have h := h.1 e0
        refine x_tabIn (pc := 33) (off := 31) (t := 64) dX10_owes_33 0 e0 (by decide) (by decide) rfl (by decide) ?_
        refine x_aload (pc := 64) dX10_owes_64 rfl ?_
        refine x_iload_n (pc := 66) dX10_owes_66 rfl rfl ?_
        refine x_iload_n (pc := 67) dX10_owes_67 rfl rfl ?_
        refine x_aload_n (pc := 68) dX10_owes_68 rfl rfl ?_
        refine y_Vi (pc := 69) (i := c_obj) (As := []) (rest := [vi (v2), vi (v1), vr G c_shelf]) ok_X10_limit ml_X10_132 dX10_owes_69 (sN_c_obj hS) (sT_c_obj hS) (by decide) rfl rfl rfl ⟨rfl, rfl⟩ ⟨by decide, by decide⟩ ⟨Nat.le_refl _, Nat.le_refl _⟩ (Nat.le_of_ble_eq_true rfl) rfl h (fun r6 I5 h => ?_)
        refine y_Vi (pc := 72) (i := c_shelf) (As := [vi (v1), vi (v2), vi (r6)]) (rest := []) ok_X6_heldBy ml_X10_233 dX10_owes_72 (sN_c_shelf hS) (sT_c_shelf hS) (by decide) rfl rfl rfl ⟨rfl, rfl⟩ ⟨by decide, by decide⟩ ⟨Nat.le_refl _, Nat.le_refl _⟩ (Nat.le_of_ble_eq_true rfl) rfl h (fun r8 I7 h => ?_)
        exact y_iret (pc := 75) dX10_owes_75 rfl ⟨Nat.le_refl _, Nat.le_refl _⟩ h
      by_cases e1 : w32 (v3) = 1
      · have h := h.2.1 e1
        refine x_tabIn (pc := 33) (off := 43) (t := 76) dX10_owes_33 1 e1 (by decide) (by decide) rfl (by decide) ?_
        refine x_aload (pc := 76) dX10_owes_76 rfl ?_
        refine x_iload_n (pc := 78) dX10_owes_78 rfl rfl ?_
        refine x_iload_n (pc := 79) dX10_owes_79 rfl rfl ?_
        refine x_aload_n (pc := 80) dX10_owes_80 rfl rfl ?_
        refine y_Vi (pc := 81) (i := c_obj) (As := []) (rest := [vi (v2), vi (v1), vr G c_shelf]) ok_X10_limit ml_X10_132 dX10_owes_81 (sN_c_obj hS) (sT_c_obj hS) (by decide) rfl rfl rfl ⟨rfl, rfl⟩ ⟨by decide, by decide⟩ ⟨Nat.le_refl _, Nat.le_refl _⟩ (Nat.le_of_ble_eq_true rfl) rfl h (fun r10 I9 h => ?_)
        refine x_aload_n (pc := 84) dX10_owes_84 rfl rfl ?_
        refine x_getR (pc := 85) (i := c_obj) (a := c_told) fl_X10_12 dX10_owes_85 (sN_c_obj hS) (sT_c_obj hS) rfl (sR_c_obj_0 hS) ?_
        refine x_getR (pc := 88) (i := c_told) (a := c_land) fl_X10_60 dX10_owes_88 (sN_c_told hS) (sT_c_told hS) rfl (sR_c_told_0 hS) ?_
        refine x_getR (pc := 91) (i := c_land) (a := c_land_dry) fl_X10_109 dX10_owes_91 (sN_c_land hS) (sT_c_land hS) rfl (sR_c_land_8 hS) ?_
        refine y_Vi (pc := 94) (i := c_shelf) (As := [vi (v1), vi (v2), vi (r10), vr G c_land_dry]) (rest := []) ok_X6_lateWith ml_X10_236 dX10_owes_94 (sN_c_shelf hS) (sT_c_shelf hS) (by decide) rfl rfl rfl ⟨rfl, rfl⟩ ⟨by decide, by decide⟩ ⟨Nat.le_refl _, Nat.le_refl _⟩ (Nat.le_of_ble_eq_true rfl) rfl h (fun r12 I11 h => ?_)
        exact y_iret (pc := 97) dX10_owes_97 rfl ⟨Nat.le_refl _, Nat.le_refl _⟩ h
      by_cases e2 : w32 (v3) = 2
      · have h := h.2.2.1 e2
        refine x_tabIn (pc := 33) (off := 65) (t := 98) dX10_owes_33 2 e2 (by decide) (by decide) rfl (by decide) ?_
        refine x_aload (pc := 98) dX10_owes_98 rfl ?_
        refine x_iload_n (pc := 100) dX10_owes_100 rfl rfl ?_
        refine x_iload_n (pc := 101) dX10_owes_101 rfl rfl ?_
        refine x_aload_n (pc := 102) dX10_owes_102 rfl rfl ?_
        refine y_Vi (pc := 103) (i := c_obj) (As := []) (rest := [vi (v2), vi (v1), vr G c_shelf]) ok_X10_limit ml_X10_132 dX10_owes_103 (sN_c_obj hS) (sT_c_obj hS) (by decide) rfl rfl rfl ⟨rfl, rfl⟩ ⟨by decide, by decide⟩ ⟨Nat.le_refl _, Nat.le_refl _⟩ (Nat.le_of_ble_eq_true rfl) rfl h (fun r14 I13 h => ?_)
        refine y_Vi (pc := 106) (i := c_shelf) (As := [vi (v1), vi (v2), vi (r14)]) (rest := []) ok_X6_tornBy ml_X10_239 dX10_owes_106 (sN_c_shelf hS) (sT_c_shelf hS) (by decide) rfl rfl rfl ⟨rfl, rfl⟩ ⟨by decide, by decide⟩ ⟨Nat.le_refl _, Nat.le_refl _⟩ (Nat.le_of_ble_eq_true rfl) rfl h (fun r16 I15 h => ?_)
        exact y_iret (pc := 109) dX10_owes_109 rfl ⟨Nat.le_refl _, Nat.le_refl _⟩ h
      by_cases e3 : w32 (v3) = 3
      · have h := h.2.2.2.1 e3
        refine x_tabIn (pc := 33) (off := 77) (t := 110) dX10_owes_33 3 e3 (by decide) (by decide) rfl (by decide) ?_
        refine x_aload (pc := 110) dX10_owes_110 rfl ?_
        refine x_iload_n (pc := 112) dX10_owes_112 rfl rfl ?_
        refine x_iload_n (pc := 113) dX10_owes_113 rfl rfl ?_
        refine x_aload_n (pc := 114) dX10_owes_114 rfl rfl ?_
        refine y_Vi (pc := 115) (i := c_obj) (As := []) (rest := [vi (v2), vi (v1), vr G c_shelf]) ok_X10_limit ml_X10_132 dX10_owes_115 (sN_c_obj hS) (sT_c_obj hS) (by decide) rfl rfl rfl ⟨rfl, rfl⟩ ⟨by decide, by decide⟩ ⟨Nat.le_refl _, Nat.le_refl _⟩ (Nat.le_of_ble_eq_true rfl) rfl h (fun r18 I17 h => ?_)
        refine y_Vi (pc := 118) (i := c_shelf) (As := [vi (v1), vi (v2), vi (r18)]) (rest := []) ok_X6_owedBy ml_X10_242 dX10_owes_118 (sN_c_shelf hS) (sT_c_shelf hS) (by decide) rfl rfl rfl ⟨rfl, rfl⟩ ⟨by decide, by decide⟩ ⟨Nat.le_refl _, Nat.le_refl _⟩ (Nat.le_of_ble_eq_true rfl) rfl h (fun r20 I19 h => ?_)
        exact y_iret (pc := 121) dX10_owes_121 rfl ⟨Nat.le_refl _, Nat.le_refl _⟩ h
      have hd9 : w32 (v3) < 0 ∨ 3 < w32 (v3) := by omega
      have h := h.2.2.2.2 hd9
      refine x_tabOut (pc := 33) (t := 122) dX10_owes_33 hd9 (by decide) ?_
      refine x_iconst (pc := 122) dX10_owes_122 ?_
      exact y_iret (pc := 123) dX10_owes_123 rfl ⟨Nat.le_refl _, Nat.le_refl _⟩ h
set_option maxHeartbeats 4000000 in
set_option maxRecDepth 100000 in
theorem b_H_parts {G : XG} {S : XS} {I : XI} {v1 : Int} {v2 : Int} {v3 : Int} {R : Int → XI → Prop} (hS : xSh S)  (h : H_isThere G S I (v1) (v3) (fun r2 I1 => ((w32 (r2) = 0 → R ((-1)) I1) ∧ (¬ (w32 (r2) = 0) → La_hasCell G S I1 (v2) (fun r4 I3 => ((w32 (r4) = 0 → R ((-1)) I3) ∧ (¬ (w32 (r4) = 0) → H_limit G S I3 (fun r6 I5 => H_whereBy G S I5 (r6) (fun r8 I7 => ((r8 = c_now ∨ r8 = c_then) ∧ (r8 = c_now → Wn_reach G S I7 (v1) (v3) (fun I9 => Wn_partsAt G S I9 (v1) (v2) (v3) (fun r11 I10 => R (r11) I10))) ∧ (r8 = c_then → Wt_reach G S I7 (v1) (v3) (fun I12 => Wt_partsAt G S I12 (v1) (v2) (v3) (fun r14 I13 => R (r14) I13))))))))))))) : H_parts G S I v1 v2 v3 R := by
  refine x_start [some (vr G c_obj), some (vi (v1)), some (vi (v2)), some (vi (v3)), none] (by decide) (Nat.le_of_ble_eq_true rfl) rfl ?_
  refine x_aload_n (pc := 0) dX10_parts_0 rfl rfl ?_
  refine x_iload_n (pc := 1) dX10_parts_1 rfl rfl ?_
  refine x_iload_n (pc := 2) dX10_parts_2 rfl rfl ?_
  refine y_Vi (pc := 3) (i := c_obj) (As := [vi (v1), vi (v3)]) (rest := []) ok_X10_isThere ml_X10_128 dX10_parts_3 (sN_c_obj hS) (sT_c_obj hS) (by decide) rfl rfl rfl ⟨rfl, rfl⟩ ⟨by decide, by decide⟩ ⟨Nat.le_refl _, Nat.le_refl _⟩ (Nat.le_of_ble_eq_true rfl) rfl h (fun r2 I1 h => ?_)
  refine x_if_eq (pc := 6) (t := 23) dX10_parts_6 (by decide) (fun e => ?_) (fun e => ?_)
  · have h := h.1 e
    refine x_iconst (pc := 23) dX10_parts_23 ?_
    exact y_iret (pc := 24) dX10_parts_24 rfl ⟨Nat.le_refl _, Nat.le_refl _⟩ h
  · have h := h.2 e
    refine x_aload_n (pc := 9) dX10_parts_9 rfl rfl ?_
    refine x_getR (pc := 10) (i := c_obj) (a := c_told) fl_X10_12 dX10_parts_10 (sN_c_obj hS) (sT_c_obj hS) rfl (sR_c_obj_0 hS) ?_
    refine x_getR (pc := 13) (i := c_told) (a := c_land) fl_X10_60 dX10_parts_13 (sN_c_told hS) (sT_c_told hS) rfl (sR_c_told_0 hS) ?_
    refine x_iload_n (pc := 16) dX10_parts_16 rfl rfl ?_
    refine y_Vi (pc := 17) (i := c_land) (As := [vi (v2)]) (rest := []) ok_X2_hasCell ml_X10_73 dX10_parts_17 (sN_c_land hS) (sT_c_land hS) (by decide) rfl rfl rfl ⟨rfl, rfl⟩ ⟨by decide, by decide⟩ ⟨Nat.le_refl _, Nat.le_refl _⟩ (Nat.le_of_ble_eq_true rfl) rfl h (fun r4 I3 h => ?_)
    refine x_if_ne (pc := 20) (t := 25) dX10_parts_20 (by decide) (fun e => ?_) (fun e => ?_)
    · have h := h.1 e
      refine x_iconst (pc := 23) dX10_parts_23 ?_
      exact y_iret (pc := 24) dX10_parts_24 rfl ⟨Nat.le_refl _, Nat.le_refl _⟩ h
    · have h := h.2 e
      refine x_aload_n (pc := 25) dX10_parts_25 rfl rfl ?_
      refine x_aload_n (pc := 26) dX10_parts_26 rfl rfl ?_
      refine y_Vi (pc := 27) (i := c_obj) (As := []) (rest := [vr G c_obj]) ok_X10_limit ml_X10_132 dX10_parts_27 (sN_c_obj hS) (sT_c_obj hS) (by decide) rfl rfl rfl ⟨rfl, rfl⟩ ⟨by decide, by decide⟩ ⟨Nat.le_refl _, Nat.le_refl _⟩ (Nat.le_of_ble_eq_true rfl) rfl h (fun r6 I5 h => ?_)
      refine y_Vr (pc := 30) (i := c_obj) (As := [vi (r6)]) (rest := []) ok_X10_whereBy ml_X10_136 dX10_parts_30 (sN_c_obj hS) (sT_c_obj hS) (by decide) rfl rfl rfl ⟨rfl, rfl⟩ ⟨by decide, by decide⟩ ⟨Nat.le_refl _, Nat.le_refl _⟩ (Nat.le_of_ble_eq_true rfl) rfl h (fun r8 I7 h => ?_)
      rcases h.1 with e | e
      · subst e
        have h := h.2.1 rfl
        refine x_astore (pc := 33) (L' := [some (vr G c_obj), some (vi (v1)), some (vi (v2)), some (vi (v3)), some (vr G c_now)]) dX10_parts_33 (by decide) (xst1 rfl rfl rfl) ?_
        refine x_aload (pc := 35) dX10_parts_35 rfl ?_
        refine x_aload_n (pc := 37) dX10_parts_37 rfl rfl ?_
        refine x_getR (pc := 38) (i := c_obj) (a := c_told) fl_X10_12 dX10_parts_38 (sN_c_obj hS) (sT_c_obj hS) rfl (sR_c_obj_0 hS) ?_
        refine x_iload_n (pc := 41) dX10_parts_41 rfl rfl ?_
        refine x_iload_n (pc := 42) dX10_parts_42 rfl rfl ?_
        refine y_Vv (pc := 43) (i := c_now) (As := [vr G c_told, vi (v1), vi (v3)]) (rest := []) ok_X9_reach ml_X10_140 dX10_parts_43 (sN_c_now hS) (sT_c_now hS) (by decide) rfl rfl rfl ⟨rfl, rfl⟩ ⟨by decide, by decide⟩ ⟨Nat.le_refl _, Nat.le_refl _⟩ (Nat.le_of_ble_eq_true rfl) rfl h (fun I9 h => ?_)
        refine x_aload (pc := 46) dX10_parts_46 rfl ?_
        refine x_iload_n (pc := 48) dX10_parts_48 rfl rfl ?_
        refine x_iload_n (pc := 49) dX10_parts_49 rfl rfl ?_
        refine x_iload_n (pc := 50) dX10_parts_50 rfl rfl ?_
        refine y_Vi (pc := 51) (i := c_now) (As := [vi (v1), vi (v2), vi (v3)]) (rest := []) ok_X9_partsAt ml_X10_144 dX10_parts_51 (sN_c_now hS) (sT_c_now hS) (by decide) rfl rfl rfl ⟨rfl, rfl⟩ ⟨by decide, by decide⟩ ⟨Nat.le_refl _, Nat.le_refl _⟩ (Nat.le_of_ble_eq_true rfl) rfl h (fun r11 I10 h => ?_)
        exact y_iret (pc := 54) dX10_parts_54 rfl ⟨Nat.le_refl _, Nat.le_refl _⟩ h
      · subst e
        have h := h.2.2 rfl
        refine x_astore (pc := 33) (L' := [some (vr G c_obj), some (vi (v1)), some (vi (v2)), some (vi (v3)), some (vr G c_then)]) dX10_parts_33 (by decide) (xst1 rfl rfl rfl) ?_
        refine x_aload (pc := 35) dX10_parts_35 rfl ?_
        refine x_aload_n (pc := 37) dX10_parts_37 rfl rfl ?_
        refine x_getR (pc := 38) (i := c_obj) (a := c_told) fl_X10_12 dX10_parts_38 (sN_c_obj hS) (sT_c_obj hS) rfl (sR_c_obj_0 hS) ?_
        refine x_iload_n (pc := 41) dX10_parts_41 rfl rfl ?_
        refine x_iload_n (pc := 42) dX10_parts_42 rfl rfl ?_
        refine y_Vv (pc := 43) (i := c_then) (As := [vr G c_told, vi (v1), vi (v3)]) (rest := []) ok_X9_reach ml_X10_140 dX10_parts_43 (sN_c_then hS) (sT_c_then hS) (by decide) rfl rfl rfl ⟨rfl, rfl⟩ ⟨by decide, by decide⟩ ⟨Nat.le_refl _, Nat.le_refl _⟩ (Nat.le_of_ble_eq_true rfl) rfl h (fun I12 h => ?_)
        refine x_aload (pc := 46) dX10_parts_46 rfl ?_
        refine x_iload_n (pc := 48) dX10_parts_48 rfl rfl ?_
        refine x_iload_n (pc := 49) dX10_parts_49 rfl rfl ?_
        refine x_iload_n (pc := 50) dX10_parts_50 rfl rfl ?_
        refine y_Vi (pc := 51) (i := c_then) (As := [vi (v1), vi (v2), vi (v3)]) (rest := []) ok_X9_partsAt ml_X10_144 dX10_parts_51 (sN_c_then hS) (sT_c_then hS) (by decide) rfl rfl rfl ⟨rfl, rfl⟩ ⟨by decide, by decide⟩ ⟨Nat.le_refl _, Nat.le_refl _⟩ (Nat.le_of_ble_eq_true rfl) rfl h (fun r14 I13 h => ?_)
        exact y_iret (pc := 54) dX10_parts_54 rfl ⟨Nat.le_refl _, Nat.le_refl _⟩ h
set_option maxHeartbeats 4000000 in
set_option maxRecDepth 100000 in
theorem b_H_pass {G : XG} {S : XS} {I : XI} {v1 : Int} {v2 : Int} {v3 : Int} {R : Int → XI → Prop} (hS : xSh S)  (h : Sh_hasRoom G S I (fun r2 I1 => ((w32 (r2) = 0 → R ((-1)) I1) ∧ (¬ (w32 (r2) = 0) → Sh_hasBook G S I1 (v1) (fun r4 I3 => ((w32 (r4) = 0 → R ((-1)) I3) ∧ (¬ (w32 (r4) = 0) → He_hasCamp G S I3 (v2) (fun r6 I5 => ((w32 (r6) = 0 → R ((-1)) I5) ∧ (¬ (w32 (r6) = 0) → H_isPast G S I5 (v3) (fun r8 I7 => ((w32 (r8) = 0 → R ((-1)) I7) ∧ (¬ (w32 (r8) = 0) → Sh_holder G S I7 (v1) (v3) (99) (fun r10 I9 => ((w32 (r10) = w32 ((-1)) → R ((-1)) I9) ∧ (¬ (w32 (r10) = w32 ((-1))) → ((w32 (r10) = w32 (v2) → R ((-1)) I9) ∧ (¬ (w32 (r10) = w32 (v2)) → Sh_addAct G S I9 (v1) (1) (v2) (v3) (I9 c_told 9) (0) (0) (fun r12 I11 => R (r12) I11))))))))))))))))))) : H_pass G S I v1 v2 v3 R := by
  refine x_start [some (vr G c_obj), some (vi (v1)), some (vi (v2)), some (vi (v3)), none, none] (by decide) (Nat.le_of_ble_eq_true rfl) rfl ?_
  refine x_aload_n (pc := 0) dX10_pass_0 rfl rfl ?_
  refine x_getR (pc := 1) (i := c_obj) (a := c_told) fl_X10_12 dX10_pass_1 (sN_c_obj hS) (sT_c_obj hS) rfl (sR_c_obj_0 hS) ?_
  refine x_getR (pc := 4) (i := c_told) (a := c_shelf) fl_X10_154 dX10_pass_4 (sN_c_told hS) (sT_c_told hS) rfl (sR_c_told_2 hS) ?_
  refine x_astore (pc := 7) (L' := [some (vr G c_obj), some (vi (v1)), some (vi (v2)), some (vi (v3)), some (vr G c_shelf), none]) dX10_pass_7 (by decide) (xst1 rfl rfl rfl) ?_
  refine x_aload (pc := 9) dX10_pass_9 rfl ?_
  refine y_Vi (pc := 11) (i := c_shelf) (As := []) (rest := []) ok_X6_hasRoom ml_X10_164 dX10_pass_11 (sN_c_shelf hS) (sT_c_shelf hS) (by decide) rfl rfl rfl ⟨rfl, rfl⟩ ⟨by decide, by decide⟩ ⟨Nat.le_refl _, Nat.le_refl _⟩ (Nat.le_of_ble_eq_true rfl) rfl h (fun r2 I1 h => ?_)
  refine x_if_eq (pc := 14) (t := 48) dX10_pass_14 (by decide) (fun e => ?_) (fun e => ?_)
  · have h := h.1 e
    refine x_iconst (pc := 48) dX10_pass_48 ?_
    exact y_iret (pc := 49) dX10_pass_49 rfl ⟨Nat.le_refl _, Nat.le_refl _⟩ h
  · have h := h.2 e
    refine x_aload (pc := 17) dX10_pass_17 rfl ?_
    refine x_iload_n (pc := 19) dX10_pass_19 rfl rfl ?_
    refine y_Vi (pc := 20) (i := c_shelf) (As := [vi (v1)]) (rest := []) ok_X6_hasBook ml_X10_168 dX10_pass_20 (sN_c_shelf hS) (sT_c_shelf hS) (by decide) rfl rfl rfl ⟨rfl, rfl⟩ ⟨by decide, by decide⟩ ⟨Nat.le_refl _, Nat.le_refl _⟩ (Nat.le_of_ble_eq_true rfl) rfl h (fun r4 I3 h => ?_)
    refine x_if_eq (pc := 23) (t := 48) dX10_pass_23 (by decide) (fun e => ?_) (fun e => ?_)
    · have h := h.1 e
      refine x_iconst (pc := 48) dX10_pass_48 ?_
      exact y_iret (pc := 49) dX10_pass_49 rfl ⟨Nat.le_refl _, Nat.le_refl _⟩ h
    · have h := h.2 e
      refine x_aload_n (pc := 26) dX10_pass_26 rfl rfl ?_
      refine x_getR (pc := 27) (i := c_obj) (a := c_told) fl_X10_12 dX10_pass_27 (sN_c_obj hS) (sT_c_obj hS) rfl (sR_c_obj_0 hS) ?_
      refine x_getR (pc := 30) (i := c_told) (a := c_herds) fl_X10_88 dX10_pass_30 (sN_c_told hS) (sT_c_told hS) rfl (sR_c_told_1 hS) ?_
      refine x_iload_n (pc := 33) dX10_pass_33 rfl rfl ?_
      refine y_Vi (pc := 34) (i := c_herds) (As := [vi (v2)]) (rest := []) ok_X1_hasCamp ml_X10_118 dX10_pass_34 (sN_c_herds hS) (sT_c_herds hS) (by decide) rfl rfl rfl ⟨rfl, rfl⟩ ⟨by decide, by decide⟩ ⟨Nat.le_refl _, Nat.le_refl _⟩ (Nat.le_of_ble_eq_true rfl) rfl h (fun r6 I5 h => ?_)
      refine x_if_eq (pc := 37) (t := 48) dX10_pass_37 (by decide) (fun e => ?_) (fun e => ?_)
      · have h := h.1 e
        refine x_iconst (pc := 48) dX10_pass_48 ?_
        exact y_iret (pc := 49) dX10_pass_49 rfl ⟨Nat.le_refl _, Nat.le_refl _⟩ h
      · have h := h.2 e
        refine x_aload_n (pc := 40) dX10_pass_40 rfl rfl ?_
        refine x_iload_n (pc := 41) dX10_pass_41 rfl rfl ?_
        refine y_Vi (pc := 42) (i := c_obj) (As := [vi (v3)]) (rest := []) ok_X10_isPast ml_X10_112 dX10_pass_42 (sN_c_obj hS) (sT_c_obj hS) (by decide) rfl rfl rfl ⟨rfl, rfl⟩ ⟨by decide, by decide⟩ ⟨Nat.le_refl _, Nat.le_refl _⟩ (Nat.le_of_ble_eq_true rfl) rfl h (fun r8 I7 h => ?_)
        refine x_if_ne (pc := 45) (t := 50) dX10_pass_45 (by decide) (fun e => ?_) (fun e => ?_)
        · have h := h.1 e
          refine x_iconst (pc := 48) dX10_pass_48 ?_
          exact y_iret (pc := 49) dX10_pass_49 rfl ⟨Nat.le_refl _, Nat.le_refl _⟩ h
        · have h := h.2 e
          refine x_aload (pc := 50) dX10_pass_50 rfl ?_
          refine x_iload_n (pc := 52) dX10_pass_52 rfl rfl ?_
          refine x_iload_n (pc := 53) dX10_pass_53 rfl rfl ?_
          refine x_bipush (pc := 54) dX10_pass_54 (by decide) ?_
          refine y_Vi (pc := 56) (i := c_shelf) (As := [vi (v1), vi (v3), vi (99)]) (rest := []) ok_X6_holder ml_X10_171 dX10_pass_56 (sN_c_shelf hS) (sT_c_shelf hS) (by decide) rfl rfl rfl ⟨rfl, rfl⟩ ⟨by decide, by decide⟩ ⟨Nat.le_refl _, Nat.le_refl _⟩ (Nat.le_of_ble_eq_true rfl) rfl h (fun r10 I9 h => ?_)
          refine x_istore (pc := 59) (L' := [some (vr G c_obj), some (vi (v1)), some (vi (v2)), some (vi (v3)), some (vr G c_shelf), some (vi (r10))]) dX10_pass_59 (by decide) (xst1 rfl rfl rfl) ?_
          refine x_iload (pc := 61) dX10_pass_61 rfl ?_
          refine x_iconst (pc := 63) dX10_pass_63 ?_
          refine x_icmp_eq (pc := 64) (t := 73) dX10_pass_64 (by decide) (fun e => ?_) (fun e => ?_)
          · have h := h.1 e
            refine x_iconst (pc := 73) dX10_pass_73 ?_
            exact y_iret (pc := 74) dX10_pass_74 rfl ⟨Nat.le_refl _, Nat.le_refl _⟩ h
          · have h := h.2 e
            refine x_iload (pc := 67) dX10_pass_67 rfl ?_
            refine x_iload_n (pc := 69) dX10_pass_69 rfl rfl ?_
            refine x_icmp_ne (pc := 70) (t := 75) dX10_pass_70 (by decide) (fun e => ?_) (fun e => ?_)
            · have h := h.1 e
              refine x_iconst (pc := 73) dX10_pass_73 ?_
              exact y_iret (pc := 74) dX10_pass_74 rfl ⟨Nat.le_refl _, Nat.le_refl _⟩ h
            · have h := h.2 e
              refine x_aload (pc := 75) dX10_pass_75 rfl ?_
              refine x_iload_n (pc := 77) dX10_pass_77 rfl rfl ?_
              refine x_iconst (pc := 78) dX10_pass_78 ?_
              refine x_iload_n (pc := 79) dX10_pass_79 rfl rfl ?_
              refine x_iload_n (pc := 80) dX10_pass_80 rfl rfl ?_
              refine x_aload_n (pc := 81) dX10_pass_81 rfl rfl ?_
              refine x_getR (pc := 82) (i := c_obj) (a := c_told) fl_X10_12 dX10_pass_82 (sN_c_obj hS) (sT_c_obj hS) rfl (sR_c_obj_0 hS) ?_
              refine x_getI (pc := 85) (i := c_told) fl_X10_92 dX10_pass_85 (sN_c_told hS) (sT_c_told hS) rfl ?_
              refine x_iconst (pc := 88) dX10_pass_88 ?_
              refine x_iconst (pc := 89) dX10_pass_89 ?_
              refine y_Vi (pc := 90) (i := c_shelf) (As := [vi (v1), vi (1), vi (v2), vi (v3), vi (I9 c_told 9), vi (0), vi (0)]) (rest := []) ok_X6_addAct ml_X10_195 dX10_pass_90 (sN_c_shelf hS) (sT_c_shelf hS) (by decide) rfl rfl rfl ⟨rfl, rfl⟩ ⟨by decide, by decide⟩ ⟨Nat.le_refl _, Nat.le_refl _⟩ (Nat.le_of_ble_eq_true rfl) rfl h (fun r12 I11 h => ?_)
              exact y_iret (pc := 93) dX10_pass_93 rfl ⟨Nat.le_refl _, Nat.le_refl _⟩ h
set_option maxHeartbeats 4000000 in
set_option maxRecDepth 100000 in
theorem b_H_quarrel {G : XG} {S : XS} {I : XI} {v1 : Int} {v2 : Int} {R : Int → XI → Prop} (hS : xSh S)  (h : He_hasCamp G S I (v1) (fun r2 I1 => ((w32 (r2) = 0 → R ((-1)) I1) ∧ (¬ (w32 (r2) = 0) → H_limit G S I1 (fun r4 I3 => H_whereBy G S I3 (r4) (fun r6 I5 => ((r6 = c_now ∨ r6 = c_then) ∧ (r6 = c_now → Wn_quarrelOf G S I5 (v1) (v2) (fun r8 I7 => R (r8) I7)) ∧ (r6 = c_then → Wt_quarrelOf G S I5 (v1) (v2) (fun r10 I9 => R (r10) I9))))))))) : H_quarrel G S I v1 v2 R := by
  refine x_start [some (vr G c_obj), some (vi (v1)), some (vi (v2))] (by decide) (Nat.le_of_ble_eq_true rfl) rfl ?_
  refine x_aload_n (pc := 0) dX10_quarrel_0 rfl rfl ?_
  refine x_getR (pc := 1) (i := c_obj) (a := c_told) fl_X10_12 dX10_quarrel_1 (sN_c_obj hS) (sT_c_obj hS) rfl (sR_c_obj_0 hS) ?_
  refine x_getR (pc := 4) (i := c_told) (a := c_herds) fl_X10_88 dX10_quarrel_4 (sN_c_told hS) (sT_c_told hS) rfl (sR_c_told_1 hS) ?_
  refine x_iload_n (pc := 7) dX10_quarrel_7 rfl rfl ?_
  refine y_Vi (pc := 8) (i := c_herds) (As := [vi (v1)]) (rest := []) ok_X1_hasCamp ml_X10_118 dX10_quarrel_8 (sN_c_herds hS) (sT_c_herds hS) (by decide) rfl rfl rfl ⟨rfl, rfl⟩ ⟨by decide, by decide⟩ ⟨Nat.le_refl _, Nat.le_refl _⟩ (Nat.le_of_ble_eq_true rfl) rfl h (fun r2 I1 h => ?_)
  refine x_if_eq (pc := 11) (t := 34) dX10_quarrel_11 (by decide) (fun e => ?_) (fun e => ?_)
  · have h := h.1 e
    refine x_iconst (pc := 34) dX10_quarrel_34 ?_
    exact y_iret (pc := 35) dX10_quarrel_35 rfl ⟨Nat.le_refl _, Nat.le_refl _⟩ h
  · have h := h.2 e
    refine x_aload_n (pc := 14) dX10_quarrel_14 rfl rfl ?_
    refine x_aload_n (pc := 15) dX10_quarrel_15 rfl rfl ?_
    refine y_Vi (pc := 16) (i := c_obj) (As := []) (rest := [vr G c_obj]) ok_X10_limit ml_X10_132 dX10_quarrel_16 (sN_c_obj hS) (sT_c_obj hS) (by decide) rfl rfl rfl ⟨rfl, rfl⟩ ⟨by decide, by decide⟩ ⟨Nat.le_refl _, Nat.le_refl _⟩ (Nat.le_of_ble_eq_true rfl) rfl h (fun r4 I3 h => ?_)
    refine y_Vr (pc := 19) (i := c_obj) (As := [vi (r4)]) (rest := []) ok_X10_whereBy ml_X10_136 dX10_quarrel_19 (sN_c_obj hS) (sT_c_obj hS) (by decide) rfl rfl rfl ⟨rfl, rfl⟩ ⟨by decide, by decide⟩ ⟨Nat.le_refl _, Nat.le_refl _⟩ (Nat.le_of_ble_eq_true rfl) rfl h (fun r6 I5 h => ?_)
    rcases h.1 with e | e
    · subst e
      have h := h.2.1 rfl
      refine x_aload_n (pc := 22) dX10_quarrel_22 rfl rfl ?_
      refine x_getR (pc := 23) (i := c_obj) (a := c_told) fl_X10_12 dX10_quarrel_23 (sN_c_obj hS) (sT_c_obj hS) rfl (sR_c_obj_0 hS) ?_
      refine x_iload_n (pc := 26) dX10_quarrel_26 rfl rfl ?_
      refine x_iload_n (pc := 27) dX10_quarrel_27 rfl rfl ?_
      refine y_Vi (pc := 28) (i := c_now) (As := [vr G c_told, vi (v1), vi (v2)]) (rest := []) ok_X9_quarrelOf ml_X10_151 dX10_quarrel_28 (sN_c_now hS) (sT_c_now hS) (by decide) rfl rfl rfl ⟨rfl, rfl⟩ ⟨by decide, by decide⟩ ⟨Nat.le_refl _, Nat.le_refl _⟩ (Nat.le_of_ble_eq_true rfl) rfl h (fun r8 I7 h => ?_)
      refine x_goto (pc := 31) (t := 35) dX10_quarrel_31 (by decide) ?_
      exact y_iret (pc := 35) dX10_quarrel_35 rfl ⟨Nat.le_refl _, Nat.le_refl _⟩ h
    · subst e
      have h := h.2.2 rfl
      refine x_aload_n (pc := 22) dX10_quarrel_22 rfl rfl ?_
      refine x_getR (pc := 23) (i := c_obj) (a := c_told) fl_X10_12 dX10_quarrel_23 (sN_c_obj hS) (sT_c_obj hS) rfl (sR_c_obj_0 hS) ?_
      refine x_iload_n (pc := 26) dX10_quarrel_26 rfl rfl ?_
      refine x_iload_n (pc := 27) dX10_quarrel_27 rfl rfl ?_
      refine y_Vi (pc := 28) (i := c_then) (As := [vr G c_told, vi (v1), vi (v2)]) (rest := []) ok_X9_quarrelOf ml_X10_151 dX10_quarrel_28 (sN_c_then hS) (sT_c_then hS) (by decide) rfl rfl rfl ⟨rfl, rfl⟩ ⟨by decide, by decide⟩ ⟨Nat.le_refl _, Nat.le_refl _⟩ (Nat.le_of_ble_eq_true rfl) rfl h (fun r10 I9 h => ?_)
      refine x_goto (pc := 31) (t := 35) dX10_quarrel_31 (by decide) ?_
      exact y_iret (pc := 35) dX10_quarrel_35 rfl ⟨Nat.le_refl _, Nat.le_refl _⟩ h
set_option maxHeartbeats 4000000 in
set_option maxRecDepth 100000 in
theorem b_H_read {G : XG} {S : XS} {I : XI} {v1 : Int} {v2 : Int} {R : Int → XI → Prop} (hS : xSh S)  (h : Re_hasReader G S I (v1) (fun r2 I1 => ((w32 (r2) = 0 → R (0) I1) ∧ (¬ (w32 (r2) = 0) → Sh_hasBook G S I1 (v2) (fun r4 I3 => ((w32 (r4) = 0 → R (0) I3) ∧ (¬ (w32 (r4) = 0) → Re_hasRead G S I3 (v1) (v2) (fun r6 I5 => ((w32 (r6) = 0 → (inb (v1) 12 ∧ (inb (v1) 12 ∧ (∀ I7 : XI, I7 = up I5 c_readers_books (ix (v1)) (ior (I5 c_readers_books (ix (v1))) (ishl (1) (v2))) → R (1) I7)))) ∧ (¬ (w32 (r6) = 0) → R (0) I5)))))))))) : H_read G S I v1 v2 R := by
  refine x_start [some (vr G c_obj), some (vi (v1)), some (vi (v2))] (by decide) (Nat.le_of_ble_eq_true rfl) rfl ?_
  refine x_aload_n (pc := 0) dX10_read_0 rfl rfl ?_
  refine x_getR (pc := 1) (i := c_obj) (a := c_told) fl_X10_12 dX10_read_1 (sN_c_obj hS) (sT_c_obj hS) rfl (sR_c_obj_0 hS) ?_
  refine x_getR (pc := 4) (i := c_told) (a := c_readers) fl_X10_310 dX10_read_4 (sN_c_told hS) (sT_c_told hS) rfl (sR_c_told_4 hS) ?_
  refine x_iload_n (pc := 7) dX10_read_7 rfl rfl ?_
  refine y_Vi (pc := 8) (i := c_readers) (As := [vi (v1)]) (rest := []) ok_X4_hasReader ml_X10_319 dX10_read_8 (sN_c_readers hS) (sT_c_readers hS) (by decide) rfl rfl rfl ⟨rfl, rfl⟩ ⟨by decide, by decide⟩ ⟨Nat.le_refl _, Nat.le_refl _⟩ (Nat.le_of_ble_eq_true rfl) rfl h (fun r2 I1 h => ?_)
  refine x_if_eq (pc := 11) (t := 43) dX10_read_11 (by decide) (fun e => ?_) (fun e => ?_)
  · have h := h.1 e
    refine x_iconst (pc := 43) dX10_read_43 ?_
    exact y_zret (pc := 44) dX10_read_44 rfl ⟨Nat.le_refl _, Nat.le_refl _⟩ (Or.inl rfl) h
  · have h := h.2 e
    refine x_aload_n (pc := 14) dX10_read_14 rfl rfl ?_
    refine x_getR (pc := 15) (i := c_obj) (a := c_told) fl_X10_12 dX10_read_15 (sN_c_obj hS) (sT_c_obj hS) rfl (sR_c_obj_0 hS) ?_
    refine x_getR (pc := 18) (i := c_told) (a := c_shelf) fl_X10_154 dX10_read_18 (sN_c_told hS) (sT_c_told hS) rfl (sR_c_told_2 hS) ?_
    refine x_iload_n (pc := 21) dX10_read_21 rfl rfl ?_
    refine y_Vi (pc := 22) (i := c_shelf) (As := [vi (v2)]) (rest := []) ok_X6_hasBook ml_X10_168 dX10_read_22 (sN_c_shelf hS) (sT_c_shelf hS) (by decide) rfl rfl rfl ⟨rfl, rfl⟩ ⟨by decide, by decide⟩ ⟨Nat.le_refl _, Nat.le_refl _⟩ (Nat.le_of_ble_eq_true rfl) rfl h (fun r4 I3 h => ?_)
    refine x_if_eq (pc := 25) (t := 43) dX10_read_25 (by decide) (fun e => ?_) (fun e => ?_)
    · have h := h.1 e
      refine x_iconst (pc := 43) dX10_read_43 ?_
      exact y_zret (pc := 44) dX10_read_44 rfl ⟨Nat.le_refl _, Nat.le_refl _⟩ (Or.inl rfl) h
    · have h := h.2 e
      refine x_aload_n (pc := 28) dX10_read_28 rfl rfl ?_
      refine x_getR (pc := 29) (i := c_obj) (a := c_told) fl_X10_12 dX10_read_29 (sN_c_obj hS) (sT_c_obj hS) rfl (sR_c_obj_0 hS) ?_
      refine x_getR (pc := 32) (i := c_told) (a := c_readers) fl_X10_310 dX10_read_32 (sN_c_told hS) (sT_c_told hS) rfl (sR_c_told_4 hS) ?_
      refine x_iload_n (pc := 35) dX10_read_35 rfl rfl ?_
      refine x_iload_n (pc := 36) dX10_read_36 rfl rfl ?_
      refine y_Vi (pc := 37) (i := c_readers) (As := [vi (v1), vi (v2)]) (rest := []) ok_X4_hasRead ml_X10_322 dX10_read_37 (sN_c_readers hS) (sT_c_readers hS) (by decide) rfl rfl rfl ⟨rfl, rfl⟩ ⟨by decide, by decide⟩ ⟨Nat.le_refl _, Nat.le_refl _⟩ (Nat.le_of_ble_eq_true rfl) rfl h (fun r6 I5 h => ?_)
      refine x_if_eq (pc := 40) (t := 45) dX10_read_40 (by decide) (fun e => ?_) (fun e => ?_)
      · have h := h.1 e
        refine x_aload_n (pc := 45) dX10_read_45 rfl rfl ?_
        refine x_getR (pc := 46) (i := c_obj) (a := c_told) fl_X10_12 dX10_read_46 (sN_c_obj hS) (sT_c_obj hS) rfl (sR_c_obj_0 hS) ?_
        refine x_getR (pc := 49) (i := c_told) (a := c_readers) fl_X10_310 dX10_read_49 (sN_c_told hS) (sT_c_told hS) rfl (sR_c_told_4 hS) ?_
        refine x_getR (pc := 52) (i := c_readers) (a := c_readers_books) fl_X10_325 dX10_read_52 (sN_c_readers hS) (sT_c_readers hS) rfl (sR_c_readers_2 hS) ?_
        refine x_iload_n (pc := 55) dX10_read_55 rfl rfl ?_
        refine x_dup2 (pc := 56) dX10_read_56 rfl rfl ?_
        refine y_iald (pc := 57) (i := c_readers_books) (n := 12) dX10_read_57 (sN_c_readers_books hS) (sT_c_readers_books hS) (sL_c_readers_books hS) h.1 ?_
        have h := h.2
        refine x_iconst (pc := 58) dX10_read_58 ?_
        refine x_iload_n (pc := 59) dX10_read_59 rfl rfl ?_
        refine x_ishl (pc := 60) dX10_read_60 ?_
        refine x_ior (pc := 61) dX10_read_61 ?_
        refine y_iast (pc := 62) (i := c_readers_books) (n := 12) dX10_read_62 (sN_c_readers_books hS) (sT_c_readers_books hS) (sL_c_readers_books hS) h.1 ?_
        have h := h.2
        have h := h _ rfl
        generalize up I5 c_readers_books (ix (v1)) (ior (I5 c_readers_books (ix (v1))) (ishl (1) (v2))) = I7 at h ⊢
        refine x_iconst (pc := 63) dX10_read_63 ?_
        exact y_zret (pc := 64) dX10_read_64 rfl ⟨Nat.le_refl _, Nat.le_refl _⟩ (Or.inr rfl) h
      · have h := h.2 e
        refine x_iconst (pc := 43) dX10_read_43 ?_
        exact y_zret (pc := 44) dX10_read_44 rfl ⟨Nat.le_refl _, Nat.le_refl _⟩ (Or.inl rfl) h
set_option maxHeartbeats 4000000 in
set_option maxRecDepth 100000 in
theorem b_H_reader {G : XG} {S : XS} {I : XI} {v1 : Int} {R : Int → XI → Prop} (hS : xSh S)  (h : He_hasCamp G S I (v1) (fun r2 I1 => ((w32 (r2) = 0 → R ((-1)) I1) ∧ (¬ (w32 (r2) = 0) → Re_addReader G S I1 (v1) (fun r4 I3 => R (r4) I3))))) : H_reader G S I v1 R := by
  refine x_start [some (vr G c_obj), some (vi (v1))] (by decide) (Nat.le_of_ble_eq_true rfl) rfl ?_
  refine x_aload_n (pc := 0) dX10_reader_0 rfl rfl ?_
  refine x_getR (pc := 1) (i := c_obj) (a := c_told) fl_X10_12 dX10_reader_1 (sN_c_obj hS) (sT_c_obj hS) rfl (sR_c_obj_0 hS) ?_
  refine x_getR (pc := 4) (i := c_told) (a := c_herds) fl_X10_88 dX10_reader_4 (sN_c_told hS) (sT_c_told hS) rfl (sR_c_told_1 hS) ?_
  refine x_iload_n (pc := 7) dX10_reader_7 rfl rfl ?_
  refine y_Vi (pc := 8) (i := c_herds) (As := [vi (v1)]) (rest := []) ok_X1_hasCamp ml_X10_118 dX10_reader_8 (sN_c_herds hS) (sT_c_herds hS) (by decide) rfl rfl rfl ⟨rfl, rfl⟩ ⟨by decide, by decide⟩ ⟨Nat.le_refl _, Nat.le_refl _⟩ (Nat.le_of_ble_eq_true rfl) rfl h (fun r2 I1 h => ?_)
  refine x_if_eq (pc := 11) (t := 28) dX10_reader_11 (by decide) (fun e => ?_) (fun e => ?_)
  · have h := h.1 e
    refine x_iconst (pc := 28) dX10_reader_28 ?_
    exact y_iret (pc := 29) dX10_reader_29 rfl ⟨Nat.le_refl _, Nat.le_refl _⟩ h
  · have h := h.2 e
    refine x_aload_n (pc := 14) dX10_reader_14 rfl rfl ?_
    refine x_getR (pc := 15) (i := c_obj) (a := c_told) fl_X10_12 dX10_reader_15 (sN_c_obj hS) (sT_c_obj hS) rfl (sR_c_obj_0 hS) ?_
    refine x_getR (pc := 18) (i := c_told) (a := c_readers) fl_X10_310 dX10_reader_18 (sN_c_told hS) (sT_c_told hS) rfl (sR_c_told_4 hS) ?_
    refine x_iload_n (pc := 21) dX10_reader_21 rfl rfl ?_
    refine y_Vi (pc := 22) (i := c_readers) (As := [vi (v1)]) (rest := []) ok_X4_addReader ml_X10_314 dX10_reader_22 (sN_c_readers hS) (sT_c_readers hS) (by decide) rfl rfl rfl ⟨rfl, rfl⟩ ⟨by decide, by decide⟩ ⟨Nat.le_refl _, Nat.le_refl _⟩ (Nat.le_of_ble_eq_true rfl) rfl h (fun r4 I3 h => ?_)
    refine x_goto (pc := 25) (t := 29) dX10_reader_25 (by decide) ?_
    exact y_iret (pc := 29) dX10_reader_29 rfl ⟨Nat.le_refl _, Nat.le_refl _⟩ h
set_option maxHeartbeats 4000000 in
set_option maxRecDepth 100000 in
theorem b_H_round {G : XG} {S : XS} {I : XI} {v1 : Int} {v2 : Int} {v3 : Int} {R : Int → XI → Prop} (hS : xSh S)  (h : H_walkRound G S I (v1) (v2) (fun r2 I1 => ((w32 (r2) = 0 → R ((-1)) I1) ∧ (¬ (w32 (r2) = 0) → ((w32 (v3) = 0 → R (I1 c_walks 2) I1) ∧ (w32 (v3) = 1 → R (I1 c_walks 1) I1) ∧ (w32 (v3) = 2 → R (ishl (I1 c_walks 0) (1)) I1) ∧ ((w32 (v3) < 0 ∨ 2 < w32 (v3)) → R ((-1)) I1)))))) : H_round G S I v1 v2 v3 R := by
  refine x_start [some (vr G c_obj), some (vi (v1)), some (vi (v2)), some (vi (v3))] (by decide) (Nat.le_of_ble_eq_true rfl) rfl ?_
  refine x_aload_n (pc := 0) dX10_round_0 rfl rfl ?_
  refine x_iload_n (pc := 1) dX10_round_1 rfl rfl ?_
  refine x_iload_n (pc := 2) dX10_round_2 rfl rfl ?_
  refine y_Vi (pc := 3) (i := c_obj) (As := [vi (v1), vi (v2)]) (rest := []) ok_X10_walkRound ml_X10_278 dX10_round_3 (sN_c_obj hS) (sT_c_obj hS) (by decide) rfl rfl rfl ⟨rfl, rfl⟩ ⟨by decide, by decide⟩ ⟨Nat.le_refl _, Nat.le_refl _⟩ (Nat.le_of_ble_eq_true rfl) rfl h (fun r2 I1 h => ?_)
  refine x_if_ne (pc := 6) (t := 11) dX10_round_6 (by decide) (fun e => ?_) (fun e => ?_)
  · have h := h.1 e
    refine x_iconst (pc := 9) dX10_round_9 ?_
    exact y_iret (pc := 10) dX10_round_10 rfl ⟨Nat.le_refl _, Nat.le_refl _⟩ h
  · have h := h.2 e
    refine x_iload_n (pc := 11) dX10_round_11 rfl rfl ?_
    by_cases e0 : w32 (v3) = 0
    · have h := h.1 e0
      refine x_tabIn (pc := 12) (off := 28) (t := 40) dX10_round_12 0 e0 (by decide) (by decide) rfl (by decide) ?_
      refine x_aload_n (pc := 40) dX10_round_40 rfl rfl ?_
      refine x_getR (pc := 41) (i := c_obj) (a := c_walks) fl_X10_35 dX10_round_41 (sN_c_obj hS) (sT_c_obj hS) rfl (sR_c_obj_4 hS) ?_
      refine x_getI (pc := 44) (i := c_walks) fl_X10_281 dX10_round_44 (sN_c_walks hS) (sT_c_walks hS) rfl ?_
      exact y_iret (pc := 47) dX10_round_47 rfl ⟨Nat.le_refl _, Nat.le_refl _⟩ h
    by_cases e1 : w32 (v3) = 1
    · have h := h.2.1 e1
      refine x_tabIn (pc := 12) (off := 36) (t := 48) dX10_round_12 1 e1 (by decide) (by decide) rfl (by decide) ?_
      refine x_aload_n (pc := 48) dX10_round_48 rfl rfl ?_
      refine x_getR (pc := 49) (i := c_obj) (a := c_walks) fl_X10_35 dX10_round_49 (sN_c_obj hS) (sT_c_obj hS) rfl (sR_c_obj_4 hS) ?_
      refine x_getI (pc := 52) (i := c_walks) fl_X10_284 dX10_round_52 (sN_c_walks hS) (sT_c_walks hS) rfl ?_
      exact y_iret (pc := 55) dX10_round_55 rfl ⟨Nat.le_refl _, Nat.le_refl _⟩ h
    by_cases e2 : w32 (v3) = 2
    · have h := h.2.2.1 e2
      refine x_tabIn (pc := 12) (off := 44) (t := 56) dX10_round_12 2 e2 (by decide) (by decide) rfl (by decide) ?_
      refine x_aload_n (pc := 56) dX10_round_56 rfl rfl ?_
      refine x_getR (pc := 57) (i := c_obj) (a := c_walks) fl_X10_35 dX10_round_57 (sN_c_obj hS) (sT_c_obj hS) rfl (sR_c_obj_4 hS) ?_
      refine x_getI (pc := 60) (i := c_walks) fl_X10_287 dX10_round_60 (sN_c_walks hS) (sT_c_walks hS) rfl ?_
      refine x_iconst (pc := 63) dX10_round_63 ?_
      refine x_ishl (pc := 64) dX10_round_64 ?_
      exact y_iret (pc := 65) dX10_round_65 rfl ⟨Nat.le_refl _, Nat.le_refl _⟩ h
    have hd9 : w32 (v3) < 0 ∨ 2 < w32 (v3) := by omega
    have h := h.2.2.2 hd9
    refine x_tabOut (pc := 12) (t := 66) dX10_round_12 hd9 (by decide) ?_
    refine x_iconst (pc := 66) dX10_round_66 ?_
    exact y_iret (pc := 67) dX10_round_67 rfl ⟨Nat.le_refl _, Nat.le_refl _⟩ h
set_option maxHeartbeats 4000000 in
set_option maxRecDepth 100000 in
theorem b_H_rule {G : XG} {S : XS} {I : XI} {v1 : Int} {v2 : Int} {v3 : Int} {v4 : Int} {R : Int → XI → Prop} (hS : xSh S)  (h : H_isThere G S I (v1) (v3) (fun r2 I1 => ((w32 (r2) = 0 → R ((-2)) I1) ∧ (¬ (w32 (r2) = 0) → Sh_hasBook G S I1 (v2) (fun r4 I3 => ((w32 (r4) = 0 → R ((-2)) I3) ∧ (¬ (w32 (r4) = 0) → H_isIn G S I3 (v4) (0) (2) (fun r6 I5 => ((w32 (r6) = 0 → R ((-2)) I5) ∧ (¬ (w32 (r6) = 0) → H_limit G S I5 (fun r8 I7 => H_gatherCamp G S I7 (v1) (v3) (r8) (fun I9 => H_limit G S I9 (fun r11 I10 => H_gatherBook G S I10 (v1) (v2) (v3) (r11) (fun I12 => ((w32 (v4) = 0 → Ru_firstThatHolds G S I12 (0) (fun r14 I13 => R (r14) I13)) ∧ (w32 (v4) = 1 → Ru_numberBy G S I12 (1) (4) (fun r16 I15 => R (r16) I15)) ∧ (¬ (w32 (v4) = 0) ∧ ¬ (w32 (v4) = 1) → Ru_numberBy G S I12 (2) (0) (fun r18 I17 => R (r18) I17))))))))))))))))) : H_rule G S I v1 v2 v3 v4 R := by
  refine x_start [some (vr G c_obj), some (vi (v1)), some (vi (v2)), some (vi (v3)), some (vi (v4))] (by decide) (Nat.le_of_ble_eq_true rfl) rfl ?_
  refine x_aload_n (pc := 0) dX10_rule_0 rfl rfl ?_
  refine x_iload_n (pc := 1) dX10_rule_1 rfl rfl ?_
  refine x_iload_n (pc := 2) dX10_rule_2 rfl rfl ?_
  refine y_Vi (pc := 3) (i := c_obj) (As := [vi (v1), vi (v3)]) (rest := []) ok_X10_isThere ml_X10_128 dX10_rule_3 (sN_c_obj hS) (sT_c_obj hS) (by decide) rfl rfl rfl ⟨rfl, rfl⟩ ⟨by decide, by decide⟩ ⟨Nat.le_refl _, Nat.le_refl _⟩ (Nat.le_of_ble_eq_true rfl) rfl h (fun r2 I1 h => ?_)
  refine x_if_eq (pc := 6) (t := 33) dX10_rule_6 (by decide) (fun e => ?_) (fun e => ?_)
  · have h := h.1 e
    refine x_bipush (pc := 33) dX10_rule_33 (by decide) ?_
    exact y_iret (pc := 35) dX10_rule_35 rfl ⟨Nat.le_refl _, Nat.le_refl _⟩ h
  · have h := h.2 e
    refine x_aload_n (pc := 9) dX10_rule_9 rfl rfl ?_
    refine x_getR (pc := 10) (i := c_obj) (a := c_told) fl_X10_12 dX10_rule_10 (sN_c_obj hS) (sT_c_obj hS) rfl (sR_c_obj_0 hS) ?_
    refine x_getR (pc := 13) (i := c_told) (a := c_shelf) fl_X10_154 dX10_rule_13 (sN_c_told hS) (sT_c_told hS) rfl (sR_c_told_2 hS) ?_
    refine x_iload_n (pc := 16) dX10_rule_16 rfl rfl ?_
    refine y_Vi (pc := 17) (i := c_shelf) (As := [vi (v2)]) (rest := []) ok_X6_hasBook ml_X10_168 dX10_rule_17 (sN_c_shelf hS) (sT_c_shelf hS) (by decide) rfl rfl rfl ⟨rfl, rfl⟩ ⟨by decide, by decide⟩ ⟨Nat.le_refl _, Nat.le_refl _⟩ (Nat.le_of_ble_eq_true rfl) rfl h (fun r4 I3 h => ?_)
    refine x_if_eq (pc := 20) (t := 33) dX10_rule_20 (by decide) (fun e => ?_) (fun e => ?_)
    · have h := h.1 e
      refine x_bipush (pc := 33) dX10_rule_33 (by decide) ?_
      exact y_iret (pc := 35) dX10_rule_35 rfl ⟨Nat.le_refl _, Nat.le_refl _⟩ h
    · have h := h.2 e
      refine x_iload (pc := 23) dX10_rule_23 rfl ?_
      refine x_iconst (pc := 25) dX10_rule_25 ?_
      refine x_iconst (pc := 26) dX10_rule_26 ?_
      refine y_Si (pc := 27) (As := [vi (v4), vi (0), vi (2)]) (rest := []) ok_X10_isIn ml_X10_77 dX10_rule_27 rfl ⟨rfl, rfl⟩ ⟨by decide, by decide⟩ ⟨Nat.le_refl _, Nat.le_refl _⟩ (Nat.le_of_ble_eq_true rfl) rfl h (fun r6 I5 h => ?_)
      refine x_if_ne (pc := 30) (t := 36) dX10_rule_30 (by decide) (fun e => ?_) (fun e => ?_)
      · have h := h.1 e
        refine x_bipush (pc := 33) dX10_rule_33 (by decide) ?_
        exact y_iret (pc := 35) dX10_rule_35 rfl ⟨Nat.le_refl _, Nat.le_refl _⟩ h
      · have h := h.2 e
        refine x_aload_n (pc := 36) dX10_rule_36 rfl rfl ?_
        refine x_iload_n (pc := 37) dX10_rule_37 rfl rfl ?_
        refine x_iload_n (pc := 38) dX10_rule_38 rfl rfl ?_
        refine x_aload_n (pc := 39) dX10_rule_39 rfl rfl ?_
        refine y_Vi (pc := 40) (i := c_obj) (As := []) (rest := [vi (v3), vi (v1), vr G c_obj]) ok_X10_limit ml_X10_132 dX10_rule_40 (sN_c_obj hS) (sT_c_obj hS) (by decide) rfl rfl rfl ⟨rfl, rfl⟩ ⟨by decide, by decide⟩ ⟨Nat.le_refl _, Nat.le_refl _⟩ (Nat.le_of_ble_eq_true rfl) rfl h (fun r8 I7 h => ?_)
        refine y_Vv (pc := 43) (i := c_obj) (As := [vi (v1), vi (v3), vi (r8)]) (rest := []) ok_X10_gatherCamp ml_X10_174 dX10_rule_43 (sN_c_obj hS) (sT_c_obj hS) (by decide) rfl rfl rfl ⟨rfl, rfl⟩ ⟨by decide, by decide⟩ ⟨Nat.le_refl _, Nat.le_refl _⟩ (Nat.le_of_ble_eq_true rfl) rfl h (fun I9 h => ?_)
        refine x_aload_n (pc := 46) dX10_rule_46 rfl rfl ?_
        refine x_iload_n (pc := 47) dX10_rule_47 rfl rfl ?_
        refine x_iload_n (pc := 48) dX10_rule_48 rfl rfl ?_
        refine x_iload_n (pc := 49) dX10_rule_49 rfl rfl ?_
        refine x_aload_n (pc := 50) dX10_rule_50 rfl rfl ?_
        refine y_Vi (pc := 51) (i := c_obj) (As := []) (rest := [vi (v3), vi (v2), vi (v1), vr G c_obj]) ok_X10_limit ml_X10_132 dX10_rule_51 (sN_c_obj hS) (sT_c_obj hS) (by decide) rfl rfl rfl ⟨rfl, rfl⟩ ⟨by decide, by decide⟩ ⟨Nat.le_refl _, Nat.le_refl _⟩ (Nat.le_of_ble_eq_true rfl) rfl h (fun r11 I10 h => ?_)
        refine y_Vv (pc := 54) (i := c_obj) (As := [vi (v1), vi (v2), vi (v3), vi (r11)]) (rest := []) ok_X10_gatherBook ml_X10_177 dX10_rule_54 (sN_c_obj hS) (sT_c_obj hS) (by decide) rfl rfl rfl ⟨rfl, rfl⟩ ⟨by decide, by decide⟩ ⟨Nat.le_refl _, Nat.le_refl _⟩ (Nat.le_of_ble_eq_true rfl) rfl h (fun I12 h => ?_)
        refine x_iload (pc := 57) dX10_rule_57 rfl ?_
        by_cases e0 : w32 (v4) = 0
        · have h := h.1 e0
          refine x_look (pc := 59) (off := 25) (t := 84) dX10_rule_59 (by decide) (by rw [e0]; rfl) (by decide) ?_
          refine x_aload_n (pc := 84) dX10_rule_84 rfl rfl ?_
          refine x_getR (pc := 85) (i := c_obj) (a := c_told) fl_X10_12 dX10_rule_85 (sN_c_obj hS) (sT_c_obj hS) rfl (sR_c_obj_0 hS) ?_
          refine x_getR (pc := 88) (i := c_told) (a := c_rules) fl_X10_181 dX10_rule_88 (sN_c_told hS) (sT_c_told hS) rfl (sR_c_told_3 hS) ?_
          refine x_iconst (pc := 91) dX10_rule_91 ?_
          refine x_aload_n (pc := 92) dX10_rule_92 rfl rfl ?_
          refine x_getR (pc := 93) (i := c_obj) (a := c_facts) fl_X10_53 dX10_rule_93 (sN_c_obj hS) (sT_c_obj hS) rfl (sR_c_obj_7 hS) ?_
          refine y_Vi (pc := 96) (i := c_rules) (As := [vi (0), vr G c_facts]) (rest := []) ok_X5_firstThatHolds ml_X10_185 dX10_rule_96 (sN_c_rules hS) (sT_c_rules hS) (by decide) rfl rfl rfl ⟨rfl, rfl⟩ ⟨by decide, by decide⟩ ⟨Nat.le_refl _, Nat.le_refl _⟩ (Nat.le_of_ble_eq_true rfl) rfl h (fun r14 I13 h => ?_)
          exact y_iret (pc := 99) dX10_rule_99 rfl ⟨Nat.le_refl _, Nat.le_refl _⟩ h
        by_cases e1 : w32 (v4) = 1
        · have h := h.2.1 e1
          refine x_look (pc := 59) (off := 41) (t := 100) dX10_rule_59 (by decide) (by rw [e1]; rfl) (by decide) ?_
          refine x_aload_n (pc := 100) dX10_rule_100 rfl rfl ?_
          refine x_getR (pc := 101) (i := c_obj) (a := c_told) fl_X10_12 dX10_rule_101 (sN_c_obj hS) (sT_c_obj hS) rfl (sR_c_obj_0 hS) ?_
          refine x_getR (pc := 104) (i := c_told) (a := c_rules) fl_X10_181 dX10_rule_104 (sN_c_told hS) (sT_c_told hS) rfl (sR_c_told_3 hS) ?_
          refine x_iconst (pc := 107) dX10_rule_107 ?_
          refine x_aload_n (pc := 108) dX10_rule_108 rfl rfl ?_
          refine x_getR (pc := 109) (i := c_obj) (a := c_facts) fl_X10_53 dX10_rule_109 (sN_c_obj hS) (sT_c_obj hS) rfl (sR_c_obj_7 hS) ?_
          refine x_iconst (pc := 112) dX10_rule_112 ?_
          refine y_Vi (pc := 113) (i := c_rules) (As := [vi (1), vr G c_facts, vi (4)]) (rest := []) ok_X5_numberBy ml_X10_191 dX10_rule_113 (sN_c_rules hS) (sT_c_rules hS) (by decide) rfl rfl rfl ⟨rfl, rfl⟩ ⟨by decide, by decide⟩ ⟨Nat.le_refl _, Nat.le_refl _⟩ (Nat.le_of_ble_eq_true rfl) rfl h (fun r16 I15 h => ?_)
          exact y_iret (pc := 116) dX10_rule_116 rfl ⟨Nat.le_refl _, Nat.le_refl _⟩ h
        have h := h.2.2 ⟨e0, e1⟩
        refine x_look (pc := 59) (off := 58) (t := 117) dX10_rule_59 (by decide) (by simp [Op.lookupswitch.offset, Ne.symm e0, Ne.symm e1]) (by decide) ?_
        refine x_aload_n (pc := 117) dX10_rule_117 rfl rfl ?_
        refine x_getR (pc := 118) (i := c_obj) (a := c_told) fl_X10_12 dX10_rule_118 (sN_c_obj hS) (sT_c_obj hS) rfl (sR_c_obj_0 hS) ?_
        refine x_getR (pc := 121) (i := c_told) (a := c_rules) fl_X10_181 dX10_rule_121 (sN_c_told hS) (sT_c_told hS) rfl (sR_c_told_3 hS) ?_
        refine x_iconst (pc := 124) dX10_rule_124 ?_
        refine x_aload_n (pc := 125) dX10_rule_125 rfl rfl ?_
        refine x_getR (pc := 126) (i := c_obj) (a := c_facts) fl_X10_53 dX10_rule_126 (sN_c_obj hS) (sT_c_obj hS) rfl (sR_c_obj_7 hS) ?_
        refine x_iconst (pc := 129) dX10_rule_129 ?_
        refine y_Vi (pc := 130) (i := c_rules) (As := [vi (2), vr G c_facts, vi (0)]) (rest := []) ok_X5_numberBy ml_X10_191 dX10_rule_130 (sN_c_rules hS) (sT_c_rules hS) (by decide) rfl rfl rfl ⟨rfl, rfl⟩ ⟨by decide, by decide⟩ ⟨Nat.le_refl _, Nat.le_refl _⟩ (Nat.le_of_ble_eq_true rfl) rfl h (fun r18 I17 h => ?_)
        exact y_iret (pc := 133) dX10_rule_133 rfl ⟨Nat.le_refl _, Nat.le_refl _⟩ h
