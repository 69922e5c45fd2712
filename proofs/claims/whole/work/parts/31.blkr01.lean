set_option maxHeartbeats 4000000 in
set_option maxRecDepth 100000 in
theorem b_R_act {G : XG} {S : XS} {I : XI} {v1 : Int} {v2 : Int} {R : Int → XI → Prop} (hS : xSh S)  (h : (∀ I1 : XI, I1 = up I r_obj 0 (0) → R_in G S I1 (v1) (0) ((I1 r_acts 0) - (1)) (fun r3 I2 => ((w32 (r3) = 0 → R ((-2)) I2) ∧ (¬ (w32 (r3) = 0) → ((w32 (v2) = 0 → (inb (v1) 600 ∧ R (I2 r_actBook (ix (v1))) I2)) ∧ (w32 (v2) = 1 → (inb (v1) 600 ∧ R (I2 r_actKind (ix (v1))) I2)) ∧ (w32 (v2) = 2 → (inb (v1) 600 ∧ R (I2 r_actCamp (ix (v1))) I2)) ∧ (w32 (v2) = 3 → (inb (v1) 600 ∧ R (I2 r_actWeek (ix (v1))) I2)) ∧ (w32 (v2) = 4 → (inb (v1) 600 ∧ R (I2 r_actTold (ix (v1))) I2)) ∧ (w32 (v2) = 5 → (inb (v1) 600 ∧ R (I2 r_actMany (ix (v1))) I2)) ∧ (w32 (v2) = 6 → (inb (v1) 600 ∧ R (I2 r_actCost (ix (v1))) I2)) ∧ ((w32 (v2) < 0 ∨ 6 < w32 (v2)) → R ((-2)) I2))))))) : R_act G S I v1 v2 R := by
  refine x_start [some (vr G r_obj), some (vi (v1)), some (vi (v2))] (by decide) (Nat.le_of_ble_eq_true rfl) rfl ?_
  refine x_aload_n (pc := 0) dX11_act_0 rfl rfl ?_
  refine x_iconst (pc := 1) dX11_act_1 ?_
  refine x_putI (pc := 2) (i := r_obj) fl_X11_220 dX11_act_2 (sN_r_obj hS) (sT_r_obj hS) rfl ?_
  have h := h _ rfl
  generalize up I r_obj 0 (0) = I1 at h ⊢
  refine x_iload_n (pc := 5) dX11_act_5 rfl rfl ?_
  refine x_iconst (pc := 6) dX11_act_6 ?_
  refine x_aload_n (pc := 7) dX11_act_7 rfl rfl ?_
  refine x_getR (pc := 8) (i := r_obj) (a := r_acts) fl_X11_105 dX11_act_8 (sN_r_obj hS) (sT_r_obj hS) rfl (sR_r_obj_32 hS) ?_
  refine x_iconst (pc := 11) dX11_act_11 ?_
  refine y_iald (pc := 12) (i := r_acts) (n := 4) dX11_act_12 (sN_r_acts hS) (sT_r_acts hS) (sL_r_acts hS) (inb_nat (k := 0) (by decide) (by decide)) ?_
  rw [show ix 0 = 0 from rfl]
  refine x_iconst (pc := 13) dX11_act_13 ?_
  refine x_isub (pc := 14) dX11_act_14 ?_
  refine y_Si (pc := 15) (As := [vi (v1), vi (0), vi ((I1 r_acts 0) - (1))]) (rest := []) ok_X11_in ml_X11_232 dX11_act_15 rfl ⟨rfl, rfl⟩ ⟨by decide, by decide⟩ ⟨Nat.le_refl _, Nat.le_refl _⟩ (Nat.le_of_ble_eq_true rfl) rfl h (fun r3 I2 h => ?_)
  refine x_if_ne (pc := 18) (t := 24) dX11_act_18 (by decide) (fun e => ?_) (fun e => ?_)
  · have h := h.1 e
    refine x_bipush (pc := 21) dX11_act_21 (by decide) ?_
    exact y_iret (pc := 23) dX11_act_23 rfl ⟨Nat.le_refl _, Nat.le_refl _⟩ h
  · have h := h.2 e
    refine x_iload_n (pc := 24) dX11_act_24 rfl rfl ?_
    by_cases e0 : w32 (v2) = 0
    · have h := h.1 e0
      refine x_tabIn (pc := 25) (off := 43) (t := 68) dX11_act_25 0 e0 (by decide) (by decide) rfl (by decide) ?_
      refine x_aload_n (pc := 68) dX11_act_68 rfl rfl ?_
      refine x_getR (pc := 69) (i := r_obj) (a := r_actBook) fl_X11_108 dX11_act_69 (sN_r_obj hS) (sT_r_obj hS) rfl (sR_r_obj_33 hS) ?_
      refine x_iload_n (pc := 72) dX11_act_72 rfl rfl ?_
      refine y_iald (pc := 73) (i := r_actBook) (n := 600) dX11_act_73 (sN_r_actBook hS) (sT_r_actBook hS) (sL_r_actBook hS) h.1 ?_
      have h := h.2
      exact y_iret (pc := 74) dX11_act_74 rfl ⟨Nat.le_refl _, Nat.le_refl _⟩ h
    by_cases e1 : w32 (v2) = 1
    · have h := h.2.1 e1
      refine x_tabIn (pc := 25) (off := 50) (t := 75) dX11_act_25 1 e1 (by decide) (by decide) rfl (by decide) ?_
      refine x_aload_n (pc := 75) dX11_act_75 rfl rfl ?_
      refine x_getR (pc := 76) (i := r_obj) (a := r_actKind) fl_X11_111 dX11_act_76 (sN_r_obj hS) (sT_r_obj hS) rfl (sR_r_obj_34 hS) ?_
      refine x_iload_n (pc := 79) dX11_act_79 rfl rfl ?_
      refine y_iald (pc := 80) (i := r_actKind) (n := 600) dX11_act_80 (sN_r_actKind hS) (sT_r_actKind hS) (sL_r_actKind hS) h.1 ?_
      have h := h.2
      exact y_iret (pc := 81) dX11_act_81 rfl ⟨Nat.le_refl _, Nat.le_refl _⟩ h
    by_cases e2 : w32 (v2) = 2
    · have h := h.2.2.1 e2
      refine x_tabIn (pc := 25) (off := 57) (t := 82) dX11_act_25 2 e2 (by decide) (by decide) rfl (by decide) ?_
      refine x_aload_n (pc := 82) dX11_act_82 rfl rfl ?_
      refine x_getR (pc := 83) (i := r_obj) (a := r_actCamp) fl_X11_114 dX11_act_83 (sN_r_obj hS) (sT_r_obj hS) rfl (sR_r_obj_35 hS) ?_
      refine x_iload_n (pc := 86) dX11_act_86 rfl rfl ?_
      refine y_iald (pc := 87) (i := r_actCamp) (n := 600) dX11_act_87 (sN_r_actCamp hS) (sT_r_actCamp hS) (sL_r_actCamp hS) h.1 ?_
      have h := h.2
      exact y_iret (pc := 88) dX11_act_88 rfl ⟨Nat.le_refl _, Nat.le_refl _⟩ h
    by_cases e3 : w32 (v2) = 3
    · have h := h.2.2.2.1 e3
      refine x_tabIn (pc := 25) (off := 64) (t := 89) dX11_act_25 3 e3 (by decide) (by decide) rfl (by decide) ?_
      refine x_aload_n (pc := 89) dX11_act_89 rfl rfl ?_
      refine x_getR (pc := 90) (i := r_obj) (a := r_actWeek) fl_X11_117 dX11_act_90 (sN_r_obj hS) (sT_r_obj hS) rfl (sR_r_obj_36 hS) ?_
      refine x_iload_n (pc := 93) dX11_act_93 rfl rfl ?_
      refine y_iald (pc := 94) (i := r_actWeek) (n := 600) dX11_act_94 (sN_r_actWeek hS) (sT_r_actWeek hS) (sL_r_actWeek hS) h.1 ?_
      have h := h.2
      exact y_iret (pc := 95) dX11_act_95 rfl ⟨Nat.le_refl _, Nat.le_refl _⟩ h
    by_cases e4 : w32 (v2) = 4
    · have h := h.2.2.2.2.1 e4
      refine x_tabIn (pc := 25) (off := 71) (t := 96) dX11_act_25 4 e4 (by decide) (by decide) rfl (by decide) ?_
      refine x_aload_n (pc := 96) dX11_act_96 rfl rfl ?_
      refine x_getR (pc := 97) (i := r_obj) (a := r_actTold) fl_X11_120 dX11_act_97 (sN_r_obj hS) (sT_r_obj hS) rfl (sR_r_obj_37 hS) ?_
      refine x_iload_n (pc := 100) dX11_act_100 rfl rfl ?_
      refine y_iald (pc := 101) (i := r_actTold) (n := 600) dX11_act_101 (sN_r_actTold hS) (sT_r_actTold hS) (sL_r_actTold hS) h.1 ?_
      have h := h.2
      exact y_iret (pc := 102) dX11_act_102 rfl ⟨Nat.le_refl _, Nat.le_refl _⟩ h
    by_cases e5 : w32 (v2) = 5
    · have h := h.2.2.2.2.2.1 e5
      refine x_tabIn (pc := 25) (off := 78) (t := 103) dX11_act_25 5 e5 (by decide) (by decide) rfl (by decide) ?_
      refine x_aload_n (pc := 103) dX11_act_103 rfl rfl ?_
      refine x_getR (pc := 104) (i := r_obj) (a := r_actMany) fl_X11_123 dX11_act_104 (sN_r_obj hS) (sT_r_obj hS) rfl (sR_r_obj_38 hS) ?_
      refine x_iload_n (pc := 107) dX11_act_107 rfl rfl ?_
      refine y_iald (pc := 108) (i := r_actMany) (n := 600) dX11_act_108 (sN_r_actMany hS) (sT_r_actMany hS) (sL_r_actMany hS) h.1 ?_
      have h := h.2
      exact y_iret (pc := 109) dX11_act_109 rfl ⟨Nat.le_refl _, Nat.le_refl _⟩ h
    by_cases e6 : w32 (v2) = 6
    · have h := h.2.2.2.2.2.2.1 e6
      refine x_tabIn (pc := 25) (off := 85) (t := 110) dX11_act_25 6 e6 (by decide) (by decide) rfl (by decide) ?_
      refine x_aload_n (pc := 110) dX11_act_110 rfl rfl ?_
      refine x_getR (pc := 111) (i := r_obj) (a := r_actCost) fl_X11_126 dX11_act_111 (sN_r_obj hS) (sT_r_obj hS) rfl (sR_r_obj_39 hS) ?_
      refine x_iload_n (pc := 114) dX11_act_114 rfl rfl ?_
      refine y_iald (pc := 115) (i := r_actCost) (n := 600) dX11_act_115 (sN_r_actCost hS) (sT_r_actCost hS) (sL_r_actCost hS) h.1 ?_
      have h := h.2
      exact y_iret (pc := 116) dX11_act_116 rfl ⟨Nat.le_refl _, Nat.le_refl _⟩ h
    have hd9 : w32 (v2) < 0 ∨ 6 < w32 (v2) := by omega
    have h := h.2.2.2.2.2.2.2 hd9
    refine x_tabOut (pc := 25) (t := 117) dX11_act_25 hd9 (by decide) ?_
    refine x_bipush (pc := 117) dX11_act_117 (by decide) ?_
    exact y_iret (pc := 119) dX11_act_119 rfl ⟨Nat.le_refl _, Nat.le_refl _⟩ h
set_option maxHeartbeats 4000000 in
set_option maxRecDepth 100000 in
theorem b_R_again {G : XG} {S : XS} {I : XI} {v1 : Int} {R : Int → XI → Prop} (hS : xSh S)  (h : (∀ I1 : XI, I1 = up I r_obj 0 (0) → R_in G S I1 (v1) (0) (2) (fun r3 I2 => ((w32 (r3) = 0 → R (0) I2) ∧ (¬ (w32 (r3) = 0) → (inb (v1) 3 ∧ ((w32 (I2 r_kept (ix (v1))) = 0 → R (0) I2) ∧ (¬ (w32 (I2 r_kept (ix (v1))) = 0) → R_copy G S I2 ((v1) + (1)) (0) (fun I4 => R (1) I4))))))))) : R_again G S I v1 R := by
  refine x_start [some (vr G r_obj), some (vi (v1))] (by decide) (Nat.le_of_ble_eq_true rfl) rfl ?_
  refine x_aload_n (pc := 0) dX11_again_0 rfl rfl ?_
  refine x_iconst (pc := 1) dX11_again_1 ?_
  refine x_putI (pc := 2) (i := r_obj) fl_X11_220 dX11_again_2 (sN_r_obj hS) (sT_r_obj hS) rfl ?_
  have h := h _ rfl
  generalize up I r_obj 0 (0) = I1 at h ⊢
  refine x_iload_n (pc := 5) dX11_again_5 rfl rfl ?_
  refine x_iconst (pc := 6) dX11_again_6 ?_
  refine x_iconst (pc := 7) dX11_again_7 ?_
  refine y_Si (pc := 8) (As := [vi (v1), vi (0), vi (2)]) (rest := []) ok_X11_in ml_X11_232 dX11_again_8 rfl ⟨rfl, rfl⟩ ⟨by decide, by decide⟩ ⟨Nat.le_refl _, Nat.le_refl _⟩ (Nat.le_of_ble_eq_true rfl) rfl h (fun r3 I2 h => ?_)
  refine x_if_eq (pc := 11) (t := 23) dX11_again_11 (by decide) (fun e => ?_) (fun e => ?_)
  · have h := h.1 e
    refine x_iconst (pc := 23) dX11_again_23 ?_
    exact y_zret (pc := 24) dX11_again_24 rfl ⟨Nat.le_refl _, Nat.le_refl _⟩ (Or.inl rfl) h
  · have h := h.2 e
    refine x_aload_n (pc := 14) dX11_again_14 rfl rfl ?_
    refine x_getR (pc := 15) (i := r_obj) (a := r_kept) fl_X11_217 dX11_again_15 (sN_r_obj hS) (sT_r_obj hS) rfl (sR_r_obj_83 hS) ?_
    refine x_iload_n (pc := 18) dX11_again_18 rfl rfl ?_
    refine y_zald (pc := 19) (i := r_kept) (n := 3) dX11_again_19 (sN_r_kept hS) (sT_r_kept hS) (sL_r_kept hS) h.1 ?_
    have h := h.2
    refine x_if_ne (pc := 20) (t := 25) dX11_again_20 (by decide) (fun e => ?_) (fun e => ?_)
    · have h := h.1 e
      refine x_iconst (pc := 23) dX11_again_23 ?_
      exact y_zret (pc := 24) dX11_again_24 rfl ⟨Nat.le_refl _, Nat.le_refl _⟩ (Or.inl rfl) h
    · have h := h.2 e
      refine x_aload_n (pc := 25) dX11_again_25 rfl rfl ?_
      refine x_iload_n (pc := 26) dX11_again_26 rfl rfl ?_
      refine x_iconst (pc := 27) dX11_again_27 ?_
      refine x_iadd (pc := 28) dX11_again_28 ?_
      refine x_iconst (pc := 29) dX11_again_29 ?_
      refine y_Vv (pc := 30) (i := r_obj) (As := [vi ((v1) + (1)), vi (0)]) (rest := []) ok_X11_copy ml_X11_475 dX11_again_30 (sN_r_obj hS) (sT_r_obj hS) (by decide) rfl rfl rfl ⟨rfl, rfl⟩ ⟨by decide, by decide⟩ ⟨Nat.le_refl _, Nat.le_refl _⟩ (Nat.le_of_ble_eq_true rfl) rfl h (fun I4 h => ?_)
      refine x_iconst (pc := 33) dX11_again_33 ?_
      exact y_zret (pc := 34) dX11_again_34 rfl ⟨Nat.le_refl _, Nat.le_refl _⟩ (Or.inr rfl) h
set_option maxHeartbeats 4000000 in
set_option maxRecDepth 100000 in
theorem b_R_back {G : XG} {S : XS} {I : XI} {v1 : Int} {R : Int → XI → Prop} (hS : xSh S)  (h : (∀ I1 : XI, I1 = up I r_obj 0 (0) → ((w32 (I1 r_acts 0) = w32 (150) → R ((-1)) I1) ∧ (¬ (w32 (I1 r_acts 0) = w32 (150)) → R_isBook G S I1 (v1) (fun r3 I2 => ((w32 (r3) = 0 → R ((-1)) I2) ∧ (¬ (w32 (r3) = 0) → R_whoHas G S I2 (v1) (I2 r_now 0) (I2 r_now 0) (fun r5 I4 => ((w32 (r5) = w32 ((-1)) → R ((-1)) I4) ∧ (¬ (w32 (r5) = w32 ((-1))) → R_tellAct G S I4 (v1) (2) ((-1)) (I4 r_now 0) (0) (0) (fun r7 I6 => R (r7) I6))))))))))) : R_back G S I v1 R := by
  refine x_start [some (vr G r_obj), some (vi (v1))] (by decide) (Nat.le_of_ble_eq_true rfl) rfl ?_
  refine x_aload_n (pc := 0) dX11_back_0 rfl rfl ?_
  refine x_iconst (pc := 1) dX11_back_1 ?_
  refine x_putI (pc := 2) (i := r_obj) fl_X11_220 dX11_back_2 (sN_r_obj hS) (sT_r_obj hS) rfl ?_
  have h := h _ rfl
  generalize up I r_obj 0 (0) = I1 at h ⊢
  refine x_aload_n (pc := 5) dX11_back_5 rfl rfl ?_
  refine x_getR (pc := 6) (i := r_obj) (a := r_acts) fl_X11_105 dX11_back_6 (sN_r_obj hS) (sT_r_obj hS) rfl (sR_r_obj_32 hS) ?_
  refine x_iconst (pc := 9) dX11_back_9 ?_
  refine y_iald (pc := 10) (i := r_acts) (n := 4) dX11_back_10 (sN_r_acts hS) (sT_r_acts hS) (sL_r_acts hS) (inb_nat (k := 0) (by decide) (by decide)) ?_
  rw [show ix 0 = 0 from rfl]
  refine x_sipush (pc := 11) dX11_back_11 (by decide) ?_
  refine x_icmp_eq (pc := 14) (t := 46) dX11_back_14 (by decide) (fun e => ?_) (fun e => ?_)
  · have h := h.1 e
    refine x_iconst (pc := 46) dX11_back_46 ?_
    exact y_iret (pc := 47) dX11_back_47 rfl ⟨Nat.le_refl _, Nat.le_refl _⟩ h
  · have h := h.2 e
    refine x_aload_n (pc := 17) dX11_back_17 rfl rfl ?_
    refine x_iload_n (pc := 18) dX11_back_18 rfl rfl ?_
    refine y_Vi (pc := 19) (i := r_obj) (As := [vi (v1)]) (rest := []) ok_X11_isBook ml_X11_317 dX11_back_19 (sN_r_obj hS) (sT_r_obj hS) (by decide) rfl rfl rfl ⟨rfl, rfl⟩ ⟨by decide, by decide⟩ ⟨Nat.le_refl _, Nat.le_refl _⟩ (Nat.le_of_ble_eq_true rfl) rfl h (fun r3 I2 h => ?_)
    refine x_if_eq (pc := 22) (t := 46) dX11_back_22 (by decide) (fun e => ?_) (fun e => ?_)
    · have h := h.1 e
      refine x_iconst (pc := 46) dX11_back_46 ?_
      exact y_iret (pc := 47) dX11_back_47 rfl ⟨Nat.le_refl _, Nat.le_refl _⟩ h
    · have h := h.2 e
      refine x_aload_n (pc := 25) dX11_back_25 rfl rfl ?_
      refine x_iload_n (pc := 26) dX11_back_26 rfl rfl ?_
      refine x_aload_n (pc := 27) dX11_back_27 rfl rfl ?_
      refine x_getR (pc := 28) (i := r_obj) (a := r_now) fl_X11_23 dX11_back_28 (sN_r_obj hS) (sT_r_obj hS) rfl (sR_r_obj_5 hS) ?_
      refine x_iconst (pc := 31) dX11_back_31 ?_
      refine y_iald (pc := 32) (i := r_now) (n := 4) dX11_back_32 (sN_r_now hS) (sT_r_now hS) (sL_r_now hS) (inb_nat (k := 0) (by decide) (by decide)) ?_
      rw [show ix 0 = 0 from rfl]
      refine x_aload_n (pc := 33) dX11_back_33 rfl rfl ?_
      refine x_getR (pc := 34) (i := r_obj) (a := r_now) fl_X11_23 dX11_back_34 (sN_r_obj hS) (sT_r_obj hS) rfl (sR_r_obj_5 hS) ?_
      refine x_iconst (pc := 37) dX11_back_37 ?_
      refine y_iald (pc := 38) (i := r_now) (n := 4) dX11_back_38 (sN_r_now hS) (sT_r_now hS) (sL_r_now hS) (inb_nat (k := 0) (by decide) (by decide)) ?_
      rw [show ix 0 = 0 from rfl]
      refine y_Vi (pc := 39) (i := r_obj) (As := [vi (v1), vi (I2 r_now 0), vi (I2 r_now 0)]) (rest := []) ok_X11_whoHas ml_X11_297 dX11_back_39 (sN_r_obj hS) (sT_r_obj hS) (by decide) rfl rfl rfl ⟨rfl, rfl⟩ ⟨by decide, by decide⟩ ⟨Nat.le_refl _, Nat.le_refl _⟩ (Nat.le_of_ble_eq_true rfl) rfl h (fun r5 I4 h => ?_)
      refine x_iconst (pc := 42) dX11_back_42 ?_
      refine x_icmp_ne (pc := 43) (t := 48) dX11_back_43 (by decide) (fun e => ?_) (fun e => ?_)
      · have h := h.1 e
        refine x_iconst (pc := 46) dX11_back_46 ?_
        exact y_iret (pc := 47) dX11_back_47 rfl ⟨Nat.le_refl _, Nat.le_refl _⟩ h
      · have h := h.2 e
        refine x_aload_n (pc := 48) dX11_back_48 rfl rfl ?_
        refine x_iload_n (pc := 49) dX11_back_49 rfl rfl ?_
        refine x_iconst (pc := 50) dX11_back_50 ?_
        refine x_iconst (pc := 51) dX11_back_51 ?_
        refine x_aload_n (pc := 52) dX11_back_52 rfl rfl ?_
        refine x_getR (pc := 53) (i := r_obj) (a := r_now) fl_X11_23 dX11_back_53 (sN_r_obj hS) (sT_r_obj hS) rfl (sR_r_obj_5 hS) ?_
        refine x_iconst (pc := 56) dX11_back_56 ?_
        refine y_iald (pc := 57) (i := r_now) (n := 4) dX11_back_57 (sN_r_now hS) (sT_r_now hS) (sL_r_now hS) (inb_nat (k := 0) (by decide) (by decide)) ?_
        rw [show ix 0 = 0 from rfl]
        refine x_iconst (pc := 58) dX11_back_58 ?_
        refine x_iconst (pc := 59) dX11_back_59 ?_
        refine y_Vi (pc := 60) (i := r_obj) (As := [vi (v1), vi (2), vi ((-1)), vi (I4 r_now 0), vi (0), vi (0)]) (rest := []) ok_X11_tellAct ml_X11_328 dX11_back_60 (sN_r_obj hS) (sT_r_obj hS) (by decide) rfl rfl rfl ⟨rfl, rfl⟩ ⟨by decide, by decide⟩ ⟨Nat.le_refl _, Nat.le_refl _⟩ (Nat.le_of_ble_eq_true rfl) rfl h (fun r7 I6 h => ?_)
        exact y_iret (pc := 63) dX11_back_63 rfl ⟨Nat.le_refl _, Nat.le_refl _⟩ h
set_option maxHeartbeats 4000000 in
set_option maxRecDepth 100000 in
theorem b_R_begin {G : XG} {S : XS} {I : XI} {v1 : Int} {v2 : Int} {R : XI → Prop} (hS : xSh S)  (h : (∀ I1 : XI, I1 = up I r_obj 56 (0) → R_begin_k7 G S I1 (v1) (v2) (0) R)) : R_begin G S I v1 v2 R := by
  refine x_start [some (vr G r_obj), some (vi (v1)), some (vi (v2)), none] (by decide) (Nat.le_of_ble_eq_true rfl) rfl ?_
  refine x_aload_n (pc := 0) dX11_begin_0 rfl rfl ?_
  refine x_iconst (pc := 1) dX11_begin_1 ?_
  refine x_putI (pc := 2) (i := r_obj) fl_X11_257 dX11_begin_2 (sN_r_obj hS) (sT_r_obj hS) rfl ?_
  have h := h _ rfl
  generalize up I r_obj 56 (0) = I1 at h ⊢
  refine x_iconst (pc := 5) dX11_begin_5 ?_
  refine x_istore_n (pc := 6) (L' := [some (vr G r_obj), some (vi (v1)), some (vi (v2)), some (vi (0))]) dX11_begin_6 rfl (by decide) (xst1 rfl rfl rfl) ?_
  exact h
set_option maxHeartbeats 4000000 in
set_option maxRecDepth 100000 in
theorem b_R_begin_k7 {G : XG} {S : XS}  {I : XI} {v1 : Int} {v2 : Int} {v3 : Int} {R : XI → Prop} (hS : xSh S)  (h : ((w32 (10) ≤ w32 (v3) → (inb (v1) 24 ∧ R_hearAll G S I (v1) (I r_campWeek (ix (v1))) (v2) (fun I2 => R I2))) ∧ (¬ (w32 (10) ≤ w32 (v3)) → (inb (v1) 24 ∧ ((w32 (v3) = w32 (I r_campCell (ix (v1))) → (inb (v3) 10 ∧ (∀ I3 : XI, I3 = up I r_parts (ix (v3)) (1000000) → R_begin_k7 G S I3 (v1) (v2) (v3 + 1) R))) ∧ (¬ (w32 (v3) = w32 (I r_campCell (ix (v1)))) → (inb (v3) 10 ∧ (∀ I4 : XI, I4 = up I r_parts (ix (v3)) (0) → R_begin_k7 G S I4 (v1) (v2) (v3 + 1) R)))))))) : R_begin_k7 G S  I v1 v2 v3 R := by
  unfold R_begin_k7
  refine x_iload_n (pc := 7) dX11_begin_7 rfl rfl ?_
  refine x_bipush (pc := 8) dX11_begin_8 (by decide) ?_
  refine x_icmp_ge (pc := 10) (t := 42) dX11_begin_10 (by decide) (fun e => ?_) (fun e => ?_)
  · have h := h.1 e
    refine x_aload_n (pc := 42) dX11_begin_42 rfl rfl ?_
    refine x_iload_n (pc := 43) dX11_begin_43 rfl rfl ?_
    refine x_aload_n (pc := 44) dX11_begin_44 rfl rfl ?_
    refine x_getR (pc := 45) (i := r_obj) (a := r_campWeek) fl_X11_48 dX11_begin_45 (sN_r_obj hS) (sT_r_obj hS) rfl (sR_r_obj_13 hS) ?_
    refine x_iload_n (pc := 48) dX11_begin_48 rfl rfl ?_
    refine y_iald (pc := 49) (i := r_campWeek) (n := 24) dX11_begin_49 (sN_r_campWeek hS) (sT_r_campWeek hS) (sL_r_campWeek hS) h.1 ?_
    have h := h.2
    refine x_iload_n (pc := 50) dX11_begin_50 rfl rfl ?_
    refine y_Vv (pc := 51) (i := r_obj) (As := [vi (v1), vi (I r_campWeek (ix (v1))), vi (v2)]) (rest := []) ok_X11_hearAll ml_X11_265 dX11_begin_51 (sN_r_obj hS) (sT_r_obj hS) (by decide) rfl rfl rfl ⟨rfl, rfl⟩ ⟨by decide, by decide⟩ ⟨Nat.le_refl _, Nat.le_refl _⟩ (Nat.le_of_ble_eq_true rfl) rfl h (fun I2 h => ?_)
    exact y_vret (pc := 54) dX11_begin_54 rfl ⟨Nat.le_refl _, Nat.le_refl _⟩ h
  · have h := h.2 e
    refine x_aload_n (pc := 13) dX11_begin_13 rfl rfl ?_
    refine x_getR (pc := 14) (i := r_obj) (a := r_parts) fl_X11_165 dX11_begin_14 (sN_r_obj hS) (sT_r_obj hS) rfl (sR_r_obj_52 hS) ?_
    refine x_iload_n (pc := 17) dX11_begin_17 rfl rfl ?_
    refine x_iload_n (pc := 18) dX11_begin_18 rfl rfl ?_
    refine x_aload_n (pc := 19) dX11_begin_19 rfl rfl ?_
    refine x_getR (pc := 20) (i := r_obj) (a := r_campCell) fl_X11_45 dX11_begin_20 (sN_r_obj hS) (sT_r_obj hS) rfl (sR_r_obj_12 hS) ?_
    refine x_iload_n (pc := 23) dX11_begin_23 rfl rfl ?_
    refine y_iald (pc := 24) (i := r_campCell) (n := 24) dX11_begin_24 (sN_r_campCell hS) (sT_r_campCell hS) (sL_r_campCell hS) h.1 ?_
    have h := h.2
    refine x_icmp_ne (pc := 25) (t := 34) dX11_begin_25 (by decide) (fun e => ?_) (fun e => ?_)
    · have h := h.1 e
      refine x_ldcw (pc := 28) (z := 1000000) dX11_begin_28 ko_X11_256 rfl ?_
      refine x_goto (pc := 31) (t := 35) dX11_begin_31 (by decide) ?_
      refine y_iast (pc := 35) (i := r_parts) (n := 10) dX11_begin_35 (sN_r_parts hS) (sT_r_parts hS) (sL_r_parts hS) h.1 ?_
      have h := h.2
      have h := h _ rfl
      generalize up I r_parts (ix (v3)) (1000000) = I3 at h ⊢
      refine x_iinc (pc := 36) (L' := [some (vr G r_obj), some (vi (v1)), some (vi (v2)), some (vi (v3 + 1))]) dX11_begin_36 rfl (by decide) (xst1 rfl rfl rfl) ?_
      refine x_goto (pc := 39) (t := 7) dX11_begin_39 (by decide) ?_
      exact h
    · have h := h.2 e
      refine x_iconst (pc := 34) dX11_begin_34 ?_
      refine y_iast (pc := 35) (i := r_parts) (n := 10) dX11_begin_35 (sN_r_parts hS) (sT_r_parts hS) (sL_r_parts hS) h.1 ?_
      have h := h.2
      have h := h _ rfl
      generalize up I r_parts (ix (v3)) (0) = I4 at h ⊢
      refine x_iinc (pc := 36) (L' := [some (vr G r_obj), some (vi (v1)), some (vi (v2)), some (vi (v3 + 1))]) dX11_begin_36 rfl (by decide) (xst1 rfl rfl rfl) ?_
      refine x_goto (pc := 39) (t := 7) dX11_begin_39 (by decide) ?_
      exact h
set_option maxHeartbeats 4000000 in
set_option maxRecDepth 100000 in
theorem b_R_book {G : XG} {S : XS} {I : XI} {v1 : Int} {v2 : Int} {v3 : Int} {v4 : Int} {v5 : Int} {R : Int → XI → Prop} (hS : xSh S)  (h : (∀ I1 : XI, I1 = up I r_obj 0 (0) → ((w32 (I1 r_books 0) = w32 (24) → R ((-1)) I1) ∧ (¬ (w32 (I1 r_books 0) = w32 (24)) → R_in G S I1 (v1) (0) (7) (fun r3 I2 => ((w32 (r3) = 0 → R ((-1)) I2) ∧ (¬ (w32 (r3) = 0) → R_in G S I2 (v2) (0) (3) (fun r5 I4 => ((w32 (r5) = 0 → R ((-1)) I4) ∧ (¬ (w32 (r5) = 0) → R_in G S I4 (v3) (0) (9) (fun r7 I6 => ((w32 (r7) = 0 → R ((-1)) I6) ∧ (¬ (w32 (r7) = 0) → R_in G S I6 (v4) (1) (400) (fun r9 I8 => ((w32 (r9) = 0 → R ((-1)) I8) ∧ (¬ (w32 (r9) = 0) → R_in G S I8 (v5) (1) (2000) (fun r11 I10 => ((w32 (r11) = 0 → R ((-1)) I10) ∧ (¬ (w32 (r11) = 0) → (∀ I12 : XI, I12 = up I10 r_books 0 ((I10 r_books 0) + (1)) → (inb (I10 r_books 0) 96 ∧ (∀ I13 : XI, I13 = up I12 r_bookKind (ix (I10 r_books 0)) (v1) → (inb (I10 r_books 0) 96 ∧ (∀ I14 : XI, I14 = up I13 r_bookTongue (ix (I10 r_books 0)) (v2) → (inb (I10 r_books 0) 96 ∧ (∀ I15 : XI, I15 = up I14 r_bookLevel (ix (I10 r_books 0)) (v3) → (inb (I10 r_books 0) 96 ∧ (∀ I16 : XI, I16 = up I15 r_bookPages (ix (I10 r_books 0)) (v4) → (inb (I10 r_books 0) 96 ∧ (∀ I17 : XI, I17 = up I16 r_bookGrams (ix (I10 r_books 0)) (v5) → R (I10 r_books 0) I17)))))))))))))))))))))))))))))) : R_book G S I v1 v2 v3 v4 v5 R := by
  refine x_start [some (vr G r_obj), some (vi (v1)), some (vi (v2)), some (vi (v3)), some (vi (v4)), some (vi (v5)), none] (by decide) (Nat.le_of_ble_eq_true rfl) rfl ?_
  refine x_aload_n (pc := 0) dX11_book_0 rfl rfl ?_
  refine x_iconst (pc := 1) dX11_book_1 ?_
  refine x_putI (pc := 2) (i := r_obj) fl_X11_220 dX11_book_2 (sN_r_obj hS) (sT_r_obj hS) rfl ?_
  have h := h _ rfl
  generalize up I r_obj 0 (0) = I1 at h ⊢
  refine x_aload_n (pc := 5) dX11_book_5 rfl rfl ?_
  refine x_getR (pc := 6) (i := r_obj) (a := r_books) fl_X11_87 dX11_book_6 (sN_r_obj hS) (sT_r_obj hS) rfl (sR_r_obj_26 hS) ?_
  refine x_iconst (pc := 9) dX11_book_9 ?_
  refine y_iald (pc := 10) (i := r_books) (n := 4) dX11_book_10 (sN_r_books hS) (sT_r_books hS) (sL_r_books hS) (inb_nat (k := 0) (by decide) (by decide)) ?_
  rw [show ix 0 = 0 from rfl]
  refine x_bipush (pc := 11) dX11_book_11 (by decide) ?_
  refine x_icmp_eq (pc := 13) (t := 69) dX11_book_13 (by decide) (fun e => ?_) (fun e => ?_)
  · have h := h.1 e
    refine x_iconst (pc := 69) dX11_book_69 ?_
    exact y_iret (pc := 70) dX11_book_70 rfl ⟨Nat.le_refl _, Nat.le_refl _⟩ h
  · have h := h.2 e
    refine x_iload_n (pc := 16) dX11_book_16 rfl rfl ?_
    refine x_iconst (pc := 17) dX11_book_17 ?_
    refine x_bipush (pc := 18) dX11_book_18 (by decide) ?_
    refine y_Si (pc := 20) (As := [vi (v1), vi (0), vi (7)]) (rest := []) ok_X11_in ml_X11_232 dX11_book_20 rfl ⟨rfl, rfl⟩ ⟨by decide, by decide⟩ ⟨Nat.le_refl _, Nat.le_refl _⟩ (Nat.le_of_ble_eq_true rfl) rfl h (fun r3 I2 h => ?_)
    refine x_if_eq (pc := 23) (t := 69) dX11_book_23 (by decide) (fun e => ?_) (fun e => ?_)
    · have h := h.1 e
      refine x_iconst (pc := 69) dX11_book_69 ?_
      exact y_iret (pc := 70) dX11_book_70 rfl ⟨Nat.le_refl _, Nat.le_refl _⟩ h
    · have h := h.2 e
      refine x_iload_n (pc := 26) dX11_book_26 rfl rfl ?_
      refine x_iconst (pc := 27) dX11_book_27 ?_
      refine x_iconst (pc := 28) dX11_book_28 ?_
      refine y_Si (pc := 29) (As := [vi (v2), vi (0), vi (3)]) (rest := []) ok_X11_in ml_X11_232 dX11_book_29 rfl ⟨rfl, rfl⟩ ⟨by decide, by decide⟩ ⟨Nat.le_refl _, Nat.le_refl _⟩ (Nat.le_of_ble_eq_true rfl) rfl h (fun r5 I4 h => ?_)
      refine x_if_eq (pc := 32) (t := 69) dX11_book_32 (by decide) (fun e => ?_) (fun e => ?_)
      · have h := h.1 e
        refine x_iconst (pc := 69) dX11_book_69 ?_
        exact y_iret (pc := 70) dX11_book_70 rfl ⟨Nat.le_refl _, Nat.le_refl _⟩ h
      · have h := h.2 e
        refine x_iload_n (pc := 35) dX11_book_35 rfl rfl ?_
        refine x_iconst (pc := 36) dX11_book_36 ?_
        refine x_bipush (pc := 37) dX11_book_37 (by decide) ?_
        refine y_Si (pc := 39) (As := [vi (v3), vi (0), vi (9)]) (rest := []) ok_X11_in ml_X11_232 dX11_book_39 rfl ⟨rfl, rfl⟩ ⟨by decide, by decide⟩ ⟨Nat.le_refl _, Nat.le_refl _⟩ (Nat.le_of_ble_eq_true rfl) rfl h (fun r7 I6 h => ?_)
        refine x_if_eq (pc := 42) (t := 69) dX11_book_42 (by decide) (fun e => ?_) (fun e => ?_)
        · have h := h.1 e
          refine x_iconst (pc := 69) dX11_book_69 ?_
          exact y_iret (pc := 70) dX11_book_70 rfl ⟨Nat.le_refl _, Nat.le_refl _⟩ h
        · have h := h.2 e
          refine x_iload (pc := 45) dX11_book_45 rfl ?_
          refine x_iconst (pc := 47) dX11_book_47 ?_
          refine x_sipush (pc := 48) dX11_book_48 (by decide) ?_
          refine y_Si (pc := 51) (As := [vi (v4), vi (1), vi (400)]) (rest := []) ok_X11_in ml_X11_232 dX11_book_51 rfl ⟨rfl, rfl⟩ ⟨by decide, by decide⟩ ⟨Nat.le_refl _, Nat.le_refl _⟩ (Nat.le_of_ble_eq_true rfl) rfl h (fun r9 I8 h => ?_)
          refine x_if_eq (pc := 54) (t := 69) dX11_book_54 (by decide) (fun e => ?_) (fun e => ?_)
          · have h := h.1 e
            refine x_iconst (pc := 69) dX11_book_69 ?_
            exact y_iret (pc := 70) dX11_book_70 rfl ⟨Nat.le_refl _, Nat.le_refl _⟩ h
          · have h := h.2 e
            refine x_iload (pc := 57) dX11_book_57 rfl ?_
            refine x_iconst (pc := 59) dX11_book_59 ?_
            refine x_sipush (pc := 60) dX11_book_60 (by decide) ?_
            refine y_Si (pc := 63) (As := [vi (v5), vi (1), vi (2000)]) (rest := []) ok_X11_in ml_X11_232 dX11_book_63 rfl ⟨rfl, rfl⟩ ⟨by decide, by decide⟩ ⟨Nat.le_refl _, Nat.le_refl _⟩ (Nat.le_of_ble_eq_true rfl) rfl h (fun r11 I10 h => ?_)
            refine x_if_ne (pc := 66) (t := 71) dX11_book_66 (by decide) (fun e => ?_) (fun e => ?_)
            · have h := h.1 e
              refine x_iconst (pc := 69) dX11_book_69 ?_
              exact y_iret (pc := 70) dX11_book_70 rfl ⟨Nat.le_refl _, Nat.le_refl _⟩ h
            · have h := h.2 e
              refine x_aload_n (pc := 71) dX11_book_71 rfl rfl ?_
              refine x_getR (pc := 72) (i := r_obj) (a := r_books) fl_X11_87 dX11_book_72 (sN_r_obj hS) (sT_r_obj hS) rfl (sR_r_obj_26 hS) ?_
              refine x_iconst (pc := 75) dX11_book_75 ?_
              refine y_iald (pc := 76) (i := r_books) (n := 4) dX11_book_76 (sN_r_books hS) (sT_r_books hS) (sL_r_books hS) (inb_nat (k := 0) (by decide) (by decide)) ?_
              rw [show ix 0 = 0 from rfl]
              refine x_istore (pc := 77) (L' := [some (vr G r_obj), some (vi (v1)), some (vi (v2)), some (vi (v3)), some (vi (v4)), some (vi (v5)), some (vi (I10 r_books 0))]) dX11_book_77 (by decide) (xst1 rfl rfl rfl) ?_
              refine x_aload_n (pc := 79) dX11_book_79 rfl rfl ?_
              refine x_getR (pc := 80) (i := r_obj) (a := r_books) fl_X11_87 dX11_book_80 (sN_r_obj hS) (sT_r_obj hS) rfl (sR_r_obj_26 hS) ?_
              refine x_iconst (pc := 83) dX11_book_83 ?_
              refine x_dup2 (pc := 84) dX11_book_84 rfl rfl ?_
              refine y_iald (pc := 85) (i := r_books) (n := 4) dX11_book_85 (sN_r_books hS) (sT_r_books hS) (sL_r_books hS) (inb_nat (k := 0) (by decide) (by decide)) ?_
              rw [show ix 0 = 0 from rfl]
              refine x_iconst (pc := 86) dX11_book_86 ?_
              refine x_iadd (pc := 87) dX11_book_87 ?_
              refine y_iast (pc := 88) (i := r_books) (n := 4) dX11_book_88 (sN_r_books hS) (sT_r_books hS) (sL_r_books hS) (inb_nat (k := 0) (by decide) (by decide)) ?_
              rw [show ix 0 = 0 from rfl]
              have h := h _ rfl
              generalize up I10 r_books 0 ((I10 r_books 0) + (1)) = I12 at h ⊢
              refine x_aload_n (pc := 89) dX11_book_89 rfl rfl ?_
              refine x_getR (pc := 90) (i := r_obj) (a := r_bookKind) fl_X11_90 dX11_book_90 (sN_r_obj hS) (sT_r_obj hS) rfl (sR_r_obj_27 hS) ?_
              refine x_iload (pc := 93) dX11_book_93 rfl ?_
              refine x_iload_n (pc := 95) dX11_book_95 rfl rfl ?_
              refine y_iast (pc := 96) (i := r_bookKind) (n := 96) dX11_book_96 (sN_r_bookKind hS) (sT_r_bookKind hS) (sL_r_bookKind hS) h.1 ?_
              have h := h.2
              have h := h _ rfl
              generalize up I12 r_bookKind (ix (I10 r_books 0)) (v1) = I13 at h ⊢
              refine x_aload_n (pc := 97) dX11_book_97 rfl rfl ?_
              refine x_getR (pc := 98) (i := r_obj) (a := r_bookTongue) fl_X11_93 dX11_book_98 (sN_r_obj hS) (sT_r_obj hS) rfl (sR_r_obj_28 hS) ?_
              refine x_iload (pc := 101) dX11_book_101 rfl ?_
              refine x_iload_n (pc := 103) dX11_book_103 rfl rfl ?_
              refine y_iast (pc := 104) (i := r_bookTongue) (n := 96) dX11_book_104 (sN_r_bookTongue hS) (sT_r_bookTongue hS) (sL_r_bookTongue hS) h.1 ?_
              have h := h.2
              have h := h _ rfl
              generalize up I13 r_bookTongue (ix (I10 r_books 0)) (v2) = I14 at h ⊢
              refine x_aload_n (pc := 105) dX11_book_105 rfl rfl ?_
              refine x_getR (pc := 106) (i := r_obj) (a := r_bookLevel) fl_X11_96 dX11_book_106 (sN_r_obj hS) (sT_r_obj hS) rfl (sR_r_obj_29 hS) ?_
              refine x_iload (pc := 109) dX11_book_109 rfl ?_
              refine x_iload_n (pc := 111) dX11_book_111 rfl rfl ?_
              refine y_iast (pc := 112) (i := r_bookLevel) (n := 96) dX11_book_112 (sN_r_bookLevel hS) (sT_r_bookLevel hS) (sL_r_bookLevel hS) h.1 ?_
              have h := h.2
              have h := h _ rfl
              generalize up I14 r_bookLevel (ix (I10 r_books 0)) (v3) = I15 at h ⊢
              refine x_aload_n (pc := 113) dX11_book_113 rfl rfl ?_
              refine x_getR (pc := 114) (i := r_obj) (a := r_bookPages) fl_X11_99 dX11_book_114 (sN_r_obj hS) (sT_r_obj hS) rfl (sR_r_obj_30 hS) ?_
              refine x_iload (pc := 117) dX11_book_117 rfl ?_
              refine x_iload (pc := 119) dX11_book_119 rfl ?_
              refine y_iast (pc := 121) (i := r_bookPages) (n := 96) dX11_book_121 (sN_r_bookPages hS) (sT_r_bookPages hS) (sL_r_bookPages hS) h.1 ?_
              have h := h.2
              have h := h _ rfl
              generalize up I15 r_bookPages (ix (I10 r_books 0)) (v4) = I16 at h ⊢
              refine x_aload_n (pc := 122) dX11_book_122 rfl rfl ?_
              refine x_getR (pc := 123) (i := r_obj) (a := r_bookGrams) fl_X11_102 dX11_book_123 (sN_r_obj hS) (sT_r_obj hS) rfl (sR_r_obj_31 hS) ?_
              refine x_iload (pc := 126) dX11_book_126 rfl ?_
              refine x_iload (pc := 128) dX11_book_128 rfl ?_
              refine y_iast (pc := 130) (i := r_bookGrams) (n := 96) dX11_book_130 (sN_r_bookGrams hS) (sT_r_bookGrams hS) (sL_r_bookGrams hS) h.1 ?_
              have h := h.2
              have h := h _ rfl
              generalize up I16 r_bookGrams (ix (I10 r_books 0)) (v5) = I17 at h ⊢
              refine x_iload (pc := 131) dX11_book_131 rfl ?_
              exact y_iret (pc := 133) dX11_book_133 rfl ⟨Nat.le_refl _, Nat.le_refl _⟩ h
set_option maxHeartbeats 4000000 in
set_option maxRecDepth 100000 in
theorem b_R_camp {G : XG} {S : XS} {I : XI} {v1 : Int} {v2 : Int} {R : Int → XI → Prop} (hS : xSh S)  (h : (∀ I1 : XI, I1 = up I r_obj 0 (0) → ((w32 (I1 r_camps 0) = w32 (6) → R ((-1)) I1) ∧ (¬ (w32 (I1 r_camps 0) = w32 (6)) → R_isCell G S I1 (v1) (fun r3 I2 => ((w32 (r3) = 0 → R ((-1)) I2) ∧ (¬ (w32 (r3) = 0) → R_in G S I2 (v2) (0) (3) (fun r5 I4 => ((w32 (r5) = 0 → R ((-1)) I4) ∧ (¬ (w32 (r5) = 0) → (∀ I6 : XI, I6 = up I4 r_camps 0 ((I4 r_camps 0) + (1)) → (inb (I4 r_camps 0) 24 ∧ (∀ I7 : XI, I7 = up I6 r_campTongue (ix (I4 r_camps 0)) (v2) → (inb (I4 r_camps 0) 24 ∧ (∀ I8 : XI, I8 = up I7 r_campCell (ix (I4 r_camps 0)) (v1) → (inb (I4 r_camps 0) 24 ∧ (∀ I9 : XI, I9 = up I8 r_campWeek (ix (I4 r_camps 0)) (I8 r_now 0) → R (I4 r_camps 0) I9))))))))))))))))) : R_camp G S I v1 v2 R := by
  refine x_start [some (vr G r_obj), some (vi (v1)), some (vi (v2)), none] (by decide) (Nat.le_of_ble_eq_true rfl) rfl ?_
  refine x_aload_n (pc := 0) dX11_camp_0 rfl rfl ?_
  refine x_iconst (pc := 1) dX11_camp_1 ?_
  refine x_putI (pc := 2) (i := r_obj) fl_X11_220 dX11_camp_2 (sN_r_obj hS) (sT_r_obj hS) rfl ?_
  have h := h _ rfl
  generalize up I r_obj 0 (0) = I1 at h ⊢
  refine x_aload_n (pc := 5) dX11_camp_5 rfl rfl ?_
  refine x_getR (pc := 6) (i := r_obj) (a := r_camps) fl_X11_39 dX11_camp_6 (sN_r_obj hS) (sT_r_obj hS) rfl (sR_r_obj_10 hS) ?_
  refine x_iconst (pc := 9) dX11_camp_9 ?_
  refine y_iald (pc := 10) (i := r_camps) (n := 4) dX11_camp_10 (sN_r_camps hS) (sT_r_camps hS) (sL_r_camps hS) (inb_nat (k := 0) (by decide) (by decide)) ?_
  rw [show ix 0 = 0 from rfl]
  refine x_bipush (pc := 11) dX11_camp_11 (by decide) ?_
  refine x_icmp_eq (pc := 13) (t := 33) dX11_camp_13 (by decide) (fun e => ?_) (fun e => ?_)
  · have h := h.1 e
    refine x_iconst (pc := 33) dX11_camp_33 ?_
    exact y_iret (pc := 34) dX11_camp_34 rfl ⟨Nat.le_refl _, Nat.le_refl _⟩ h
  · have h := h.2 e
    refine x_aload_n (pc := 16) dX11_camp_16 rfl rfl ?_
    refine x_iload_n (pc := 17) dX11_camp_17 rfl rfl ?_
    refine y_Vi (pc := 18) (i := r_obj) (As := [vi (v1)]) (rest := []) ok_X11_isCell ml_X11_236 dX11_camp_18 (sN_r_obj hS) (sT_r_obj hS) (by decide) rfl rfl rfl ⟨rfl, rfl⟩ ⟨by decide, by decide⟩ ⟨Nat.le_refl _, Nat.le_refl _⟩ (Nat.le_of_ble_eq_true rfl) rfl h (fun r3 I2 h => ?_)
    refine x_if_eq (pc := 21) (t := 33) dX11_camp_21 (by decide) (fun e => ?_) (fun e => ?_)
    · have h := h.1 e
      refine x_iconst (pc := 33) dX11_camp_33 ?_
      exact y_iret (pc := 34) dX11_camp_34 rfl ⟨Nat.le_refl _, Nat.le_refl _⟩ h
    · have h := h.2 e
      refine x_iload_n (pc := 24) dX11_camp_24 rfl rfl ?_
      refine x_iconst (pc := 25) dX11_camp_25 ?_
      refine x_iconst (pc := 26) dX11_camp_26 ?_
      refine y_Si (pc := 27) (As := [vi (v2), vi (0), vi (3)]) (rest := []) ok_X11_in ml_X11_232 dX11_camp_27 rfl ⟨rfl, rfl⟩ ⟨by decide, by decide⟩ ⟨Nat.le_refl _, Nat.le_refl _⟩ (Nat.le_of_ble_eq_true rfl) rfl h (fun r5 I4 h => ?_)
      refine x_if_ne (pc := 30) (t := 35) dX11_camp_30 (by decide) (fun e => ?_) (fun e => ?_)
      · have h := h.1 e
        refine x_iconst (pc := 33) dX11_camp_33 ?_
        exact y_iret (pc := 34) dX11_camp_34 rfl ⟨Nat.le_refl _, Nat.le_refl _⟩ h
      · have h := h.2 e
        refine x_aload_n (pc := 35) dX11_camp_35 rfl rfl ?_
        refine x_getR (pc := 36) (i := r_obj) (a := r_camps) fl_X11_39 dX11_camp_36 (sN_r_obj hS) (sT_r_obj hS) rfl (sR_r_obj_10 hS) ?_
        refine x_iconst (pc := 39) dX11_camp_39 ?_
        refine y_iald (pc := 40) (i := r_camps) (n := 4) dX11_camp_40 (sN_r_camps hS) (sT_r_camps hS) (sL_r_camps hS) (inb_nat (k := 0) (by decide) (by decide)) ?_
        rw [show ix 0 = 0 from rfl]
        refine x_istore_n (pc := 41) (L' := [some (vr G r_obj), some (vi (v1)), some (vi (v2)), some (vi (I4 r_camps 0))]) dX11_camp_41 rfl (by decide) (xst1 rfl rfl rfl) ?_
        refine x_aload_n (pc := 42) dX11_camp_42 rfl rfl ?_
        refine x_getR (pc := 43) (i := r_obj) (a := r_camps) fl_X11_39 dX11_camp_43 (sN_r_obj hS) (sT_r_obj hS) rfl (sR_r_obj_10 hS) ?_
        refine x_iconst (pc := 46) dX11_camp_46 ?_
        refine x_dup2 (pc := 47) dX11_camp_47 rfl rfl ?_
        refine y_iald (pc := 48) (i := r_camps) (n := 4) dX11_camp_48 (sN_r_camps hS) (sT_r_camps hS) (sL_r_camps hS) (inb_nat (k := 0) (by decide) (by decide)) ?_
        rw [show ix 0 = 0 from rfl]
        refine x_iconst (pc := 49) dX11_camp_49 ?_
        refine x_iadd (pc := 50) dX11_camp_50 ?_
        refine y_iast (pc := 51) (i := r_camps) (n := 4) dX11_camp_51 (sN_r_camps hS) (sT_r_camps hS) (sL_r_camps hS) (inb_nat (k := 0) (by decide) (by decide)) ?_
        rw [show ix 0 = 0 from rfl]
        have h := h _ rfl
        generalize up I4 r_camps 0 ((I4 r_camps 0) + (1)) = I6 at h ⊢
        refine x_aload_n (pc := 52) dX11_camp_52 rfl rfl ?_
        refine x_getR (pc := 53) (i := r_obj) (a := r_campTongue) fl_X11_42 dX11_camp_53 (sN_r_obj hS) (sT_r_obj hS) rfl (sR_r_obj_11 hS) ?_
        refine x_iload_n (pc := 56) dX11_camp_56 rfl rfl ?_
        refine x_iload_n (pc := 57) dX11_camp_57 rfl rfl ?_
        refine y_iast (pc := 58) (i := r_campTongue) (n := 24) dX11_camp_58 (sN_r_campTongue hS) (sT_r_campTongue hS) (sL_r_campTongue hS) h.1 ?_
        have h := h.2
        have h := h _ rfl
        generalize up I6 r_campTongue (ix (I4 r_camps 0)) (v2) = I7 at h ⊢
        refine x_aload_n (pc := 59) dX11_camp_59 rfl rfl ?_
        refine x_getR (pc := 60) (i := r_obj) (a := r_campCell) fl_X11_45 dX11_camp_60 (sN_r_obj hS) (sT_r_obj hS) rfl (sR_r_obj_12 hS) ?_
        refine x_iload_n (pc := 63) dX11_camp_63 rfl rfl ?_
        refine x_iload_n (pc := 64) dX11_camp_64 rfl rfl ?_
        refine y_iast (pc := 65) (i := r_campCell) (n := 24) dX11_camp_65 (sN_r_campCell hS) (sT_r_campCell hS) (sL_r_campCell hS) h.1 ?_
        have h := h.2
        have h := h _ rfl
        generalize up I7 r_campCell (ix (I4 r_camps 0)) (v1) = I8 at h ⊢
        refine x_aload_n (pc := 66) dX11_camp_66 rfl rfl ?_
        refine x_getR (pc := 67) (i := r_obj) (a := r_campWeek) fl_X11_48 dX11_camp_67 (sN_r_obj hS) (sT_r_obj hS) rfl (sR_r_obj_13 hS) ?_
        refine x_iload_n (pc := 70) dX11_camp_70 rfl rfl ?_
        refine x_aload_n (pc := 71) dX11_camp_71 rfl rfl ?_
        refine x_getR (pc := 72) (i := r_obj) (a := r_now) fl_X11_23 dX11_camp_72 (sN_r_obj hS) (sT_r_obj hS) rfl (sR_r_obj_5 hS) ?_
        refine x_iconst (pc := 75) dX11_camp_75 ?_
        refine y_iald (pc := 76) (i := r_now) (n := 4) dX11_camp_76 (sN_r_now hS) (sT_r_now hS) (sL_r_now hS) (inb_nat (k := 0) (by decide) (by decide)) ?_
        rw [show ix 0 = 0 from rfl]
        refine y_iast (pc := 77) (i := r_campWeek) (n := 24) dX11_camp_77 (sN_r_campWeek hS) (sT_r_campWeek hS) (sL_r_campWeek hS) h.1 ?_
        have h := h.2
        have h := h _ rfl
        generalize up I8 r_campWeek (ix (I4 r_camps 0)) (I8 r_now 0) = I9 at h ⊢
        refine x_iload_n (pc := 78) dX11_camp_78 rfl rfl ?_
        exact y_iret (pc := 79) dX11_camp_79 rfl ⟨Nat.le_refl _, Nat.le_refl _⟩ h
set_option maxHeartbeats 4000000 in
set_option maxRecDepth 100000 in
theorem b_R_cell {G : XG} {S : XS} {I : XI} {v1 : Int} {R : Int → XI → Prop} (hS : xSh S)  (h : (∀ I1 : XI, I1 = up I r_obj 0 (0) → ((w32 (I1 r_cells 0) = w32 (10) → R ((-1)) I1) ∧ (¬ (w32 (I1 r_cells 0) = w32 (10)) → (∀ I2 : XI, I2 = up I1 r_cells 0 ((I1 r_cells 0) + (1)) → (((v1) = 0 ∨ (v1) = 1) ∧ (inb (I1 r_cells 0) 40 ∧ (∀ I3 : XI, I3 = up I2 r_wells (ix (I1 r_cells 0)) (v1) → R (I1 r_cells 0) I3)))))))) : R_cell G S I v1 R := by
  refine x_start [some (vr G r_obj), some (vi (v1)), none] (by decide) (Nat.le_of_ble_eq_true rfl) rfl ?_
  refine x_aload_n (pc := 0) dX11_cell_0 rfl rfl ?_
  refine x_iconst (pc := 1) dX11_cell_1 ?_
  refine x_putI (pc := 2) (i := r_obj) fl_X11_220 dX11_cell_2 (sN_r_obj hS) (sT_r_obj hS) rfl ?_
  have h := h _ rfl
  generalize up I r_obj 0 (0) = I1 at h ⊢
  refine x_aload_n (pc := 5) dX11_cell_5 rfl rfl ?_
  refine x_getR (pc := 6) (i := r_obj) (a := r_cells) fl_X11_29 dX11_cell_6 (sN_r_obj hS) (sT_r_obj hS) rfl (sR_r_obj_7 hS) ?_
  refine x_iconst (pc := 9) dX11_cell_9 ?_
  refine y_iald (pc := 10) (i := r_cells) (n := 4) dX11_cell_10 (sN_r_cells hS) (sT_r_cells hS) (sL_r_cells hS) (inb_nat (k := 0) (by decide) (by decide)) ?_
  rw [show ix 0 = 0 from rfl]
  refine x_bipush (pc := 11) dX11_cell_11 (by decide) ?_
  refine x_icmp_ne (pc := 13) (t := 18) dX11_cell_13 (by decide) (fun e => ?_) (fun e => ?_)
  · have h := h.1 e
    refine x_iconst (pc := 16) dX11_cell_16 ?_
    exact y_iret (pc := 17) dX11_cell_17 rfl ⟨Nat.le_refl _, Nat.le_refl _⟩ h
  · have h := h.2 e
    refine x_aload_n (pc := 18) dX11_cell_18 rfl rfl ?_
    refine x_getR (pc := 19) (i := r_obj) (a := r_cells) fl_X11_29 dX11_cell_19 (sN_r_obj hS) (sT_r_obj hS) rfl (sR_r_obj_7 hS) ?_
    refine x_iconst (pc := 22) dX11_cell_22 ?_
    refine y_iald (pc := 23) (i := r_cells) (n := 4) dX11_cell_23 (sN_r_cells hS) (sT_r_cells hS) (sL_r_cells hS) (inb_nat (k := 0) (by decide) (by decide)) ?_
    rw [show ix 0 = 0 from rfl]
    refine x_istore_n (pc := 24) (L' := [some (vr G r_obj), some (vi (v1)), some (vi (I1 r_cells 0))]) dX11_cell_24 rfl (by decide) (xst1 rfl rfl rfl) ?_
    refine x_aload_n (pc := 25) dX11_cell_25 rfl rfl ?_
    refine x_getR (pc := 26) (i := r_obj) (a := r_cells) fl_X11_29 dX11_cell_26 (sN_r_obj hS) (sT_r_obj hS) rfl (sR_r_obj_7 hS) ?_
    refine x_iconst (pc := 29) dX11_cell_29 ?_
    refine x_dup2 (pc := 30) dX11_cell_30 rfl rfl ?_
    refine y_iald (pc := 31) (i := r_cells) (n := 4) dX11_cell_31 (sN_r_cells hS) (sT_r_cells hS) (sL_r_cells hS) (inb_nat (k := 0) (by decide) (by decide)) ?_
    rw [show ix 0 = 0 from rfl]
    refine x_iconst (pc := 32) dX11_cell_32 ?_
    refine x_iadd (pc := 33) dX11_cell_33 ?_
    refine y_iast (pc := 34) (i := r_cells) (n := 4) dX11_cell_34 (sN_r_cells hS) (sT_r_cells hS) (sL_r_cells hS) (inb_nat (k := 0) (by decide) (by decide)) ?_
    rw [show ix 0 = 0 from rfl]
    have h := h _ rfl
    generalize up I1 r_cells 0 ((I1 r_cells 0) + (1)) = I2 at h ⊢
    refine x_aload_n (pc := 35) dX11_cell_35 rfl rfl ?_
    refine x_getR (pc := 36) (i := r_obj) (a := r_wells) fl_X11_32 dX11_cell_36 (sN_r_obj hS) (sT_r_obj hS) rfl (sR_r_obj_8 hS) ?_
    refine x_iload_n (pc := 39) dX11_cell_39 rfl rfl ?_
    refine x_iload_n (pc := 40) dX11_cell_40 rfl rfl ?_
    have hz := h.1
    have h := h.2
    refine y_zast (pc := 41) (i := r_wells) (n := 40) dX11_cell_41 (sN_r_wells hS) (sT_r_wells hS) (sL_r_wells hS) h.1 hz ?_
    have h := h.2
    have h := h _ rfl
    generalize up I2 r_wells (ix (I1 r_cells 0)) (v1) = I3 at h ⊢
    refine x_iload_n (pc := 42) dX11_cell_42 rfl rfl ?_
    exact y_iret (pc := 43) dX11_cell_43 rfl ⟨Nat.le_refl _, Nat.le_refl _⟩ h
set_option maxHeartbeats 4000000 in
set_option maxRecDepth 100000 in
theorem b_R_cheaper {G : XG} {S : XS} {I : XI} {v0 : Int} {v1 : Int} {R : Int → XI → Prop} (hS : xSh S)  (h : ((w32 (v1) ≤ w32 (v0) → R (v1) I) ∧ (¬ (w32 (v1) ≤ w32 (v0)) → R (v0) I))) : R_cheaper G S I v0 v1 R := by
  refine x_start [some (vi (v0)), some (vi (v1))] (by decide) (Nat.le_of_ble_eq_true rfl) rfl ?_
  refine x_iload_n (pc := 0) dX11_cheaper_0 rfl rfl ?_
  refine x_iload_n (pc := 1) dX11_cheaper_1 rfl rfl ?_
  refine x_icmp_ge (pc := 2) (t := 9) dX11_cheaper_2 (by decide) (fun e => ?_) (fun e => ?_)
  · have h := h.1 e
    refine x_iload_n (pc := 9) dX11_cheaper_9 rfl rfl ?_
    exact y_iret (pc := 10) dX11_cheaper_10 rfl ⟨Nat.le_refl _, Nat.le_refl _⟩ h
  · have h := h.2 e
    refine x_iload_n (pc := 5) dX11_cheaper_5 rfl rfl ?_
    refine x_goto (pc := 6) (t := 10) dX11_cheaper_6 (by decide) ?_
    exact y_iret (pc := 10) dX11_cheaper_10 rfl ⟨Nat.le_refl _, Nat.le_refl _⟩ h
set_option maxHeartbeats 4000000 in
set_option maxRecDepth 100000 in
theorem b_R_copy {G : XG} {S : XS} {I : XI} {v1 : Int} {v2 : Int} {R : XI → Prop} (hS : xSh S)  (h : R_copy_k2 G S I (v1) (v2) (0) R) : R_copy G S I v1 v2 R := by
  refine x_start [some (vr G r_obj), some (vi (v1)), some (vi (v2)), none] (by decide) (Nat.le_of_ble_eq_true rfl) rfl ?_
  refine x_iconst (pc := 0) dX11_copy_0 ?_
  refine x_istore_n (pc := 1) (L' := [some (vr G r_obj), some (vi (v1)), some (vi (v2)), some (vi (0))]) dX11_copy_1 rfl (by decide) (xst1 rfl rfl rfl) ?_
  exact h
set_option maxHeartbeats 4000000 in
set_option maxRecDepth 100000 in
theorem b_R_copy_k2 {G : XG} {S : XS}  {I : XI} {v1 : Int} {v2 : Int} {v3 : Int} {R : XI → Prop} (hS : xSh S)  (h : ((w32 (500) ≤ w32 (v3) → R_move G S I (r_size) (1) (v1) (v2) (fun I1 => R_move G S I1 (r_fault) (1) (v1) (v2) (fun I2 => R_move G S I2 (r_faultPlace) (1) (v1) (v2) (fun I3 => R_move G S I3 (r_now) (1) (v1) (v2) (fun I4 => R_move G S I4 (r_viewed) (1) (v1) (v2) (fun I5 => R_move G S I5 (r_cells) (1) (v1) (v2) (fun I6 => R_moveFlags G S I6 (r_wells) (10) (v1) (v2) (fun I7 => R_move G S I7 (r_ways) (100) (v1) (v2) (fun I8 => R_move G S I8 (r_camps) (1) (v1) (v2) (fun I9 => R_move G S I9 (r_campTongue) (6) (v1) (v2) (fun I10 => R_move G S I10 (r_campCell) (6) (v1) (v2) (fun I11 => R_move G S I11 (r_campWeek) (6) (v1) (v2) (fun I12 => R_move G S I12 (r_grasses) (1) (v1) (v2) (fun I13 => R_move G S I13 (r_grassCell) (60) (v1) (v2) (fun I14 => R_move G S I14 (r_grassWeek) (60) (v1) (v2) (fun I15 => R_move G S I15 (r_grassIs) (60) (v1) (v2) (fun I16 => R_move G S I16 (r_grassTold) (60) (v1) (v2) (fun I17 => R_moveFlags G S I17 (r_dryWeek) (100) (v1) (v2) (fun I18 => R_move G S I18 (r_newsMany) (1) (v1) (v2) (fun I19 => R_move G S I19 (r_newsCamp) (60) (v1) (v2) (fun I20 => R_move G S I20 (r_newsCell) (60) (v1) (v2) (fun I21 => R_move G S I21 (r_newsWeek) (60) (v1) (v2) (fun I22 => R_moveFlags G S I22 (r_newsSeen) (60) (v1) (v2) (fun I23 => R_move G S I23 (r_newsTold) (60) (v1) (v2) (fun I24 => R_move G S I24 (r_books) (1) (v1) (v2) (fun I25 => R_move G S I25 (r_bookKind) (24) (v1) (v2) (fun I26 => R_move G S I26 (r_bookTongue) (24) (v1) (v2) (fun I27 => R_move G S I27 (r_bookLevel) (24) (v1) (v2) (fun I28 => R_move G S I28 (r_bookPages) (24) (v1) (v2) (fun I29 => R_move G S I29 (r_bookGrams) (24) (v1) (v2) (fun I30 => R_move G S I30 (r_acts) (1) (v1) (v2) (fun I31 => R_move G S I31 (r_actBook) (150) (v1) (v2) (fun I32 => R_move G S I32 (r_actKind) (150) (v1) (v2) (fun I33 => R_move G S I33 (r_actCamp) (150) (v1) (v2) (fun I34 => R_move G S I34 (r_actWeek) (150) (v1) (v2) (fun I35 => R_move G S I35 (r_actTold) (150) (v1) (v2) (fun I36 => R_move G S I36 (r_actMany) (150) (v1) (v2) (fun I37 => R_move G S I37 (r_actCost) (150) (v1) (v2) (fun I38 => R_move G S I38 (r_lines) (1) (v1) (v2) (fun I39 => R_move G S I39 (r_lineAct) (16) (v1) (v2) (fun I40 => R_move G S I40 (r_lineNumber) (16) (v1) (v2) (fun I41 => R_move G S I41 (r_lineTests) (16) (v1) (v2) (fun I42 => R_move G S I42 (r_testWhat) (64) (v1) (v2) (fun I43 => R_move G S I43 (r_testSign) (64) (v1) (v2) (fun I44 => R_move G S I44 (r_testThan) (64) (v1) (v2) (fun I45 => R_moveFlags G S I45 (r_testNot) (64) (v1) (v2) (fun I46 => R_move G S I46 (r_wishes) (48) (v1) (v2) (fun I47 => R_move G S I47 (r_readers) (1) (v1) (v2) (fun I48 => R_move G S I48 (r_readerCamp) (12) (v1) (v2) (fun I49 => R_move G S I49 (r_readerBooks) (12) (v1) (v2) (fun I50 => R I50))))))))))))))))))))))))))))))))))))))))))))))))))) ∧ (¬ (w32 (500) ≤ w32 (v3)) → (inb (((500) * (v1)) + (v3)) 2000 ∧ (inb (((500) * (v2)) + (v3)) 2000 ∧ (∀ I51 : XI, I51 = up I r_tape (ix (((500) * (v2)) + (v3))) ((I r_tape (ix (((500) * (v1)) + (v3)))).bmod 256) → R_copy_k2 G S I51 (v1) (v2) (v3 + 1) R)))))) : R_copy_k2 G S  I v1 v2 v3 R := by
  unfold R_copy_k2
  refine x_iload_n (pc := 2) dX11_copy_2 rfl rfl ?_
  refine x_sipush (pc := 3) dX11_copy_3 (by decide) ?_
  refine x_icmp_ge (pc := 6) (t := 39) dX11_copy_6 (by decide) (fun e => ?_) (fun e => ?_)
  · have h := h.1 e
    refine x_aload_n (pc := 39) dX11_copy_39 rfl rfl ?_
    refine x_getR (pc := 40) (i := r_obj) (a := r_size) fl_X11_13 dX11_copy_40 (sN_r_obj hS) (sT_r_obj hS) rfl (sR_r_obj_2 hS) ?_
    refine x_iconst (pc := 43) dX11_copy_43 ?_
    refine x_iload_n (pc := 44) dX11_copy_44 rfl rfl ?_
    refine x_iload_n (pc := 45) dX11_copy_45 rfl rfl ?_
    refine y_Sv (pc := 46) (As := [vr G r_size, vi (1), vi (v1), vi (v2)]) (rest := []) ok_X11_move ml_X11_224 dX11_copy_46 rfl ⟨rfl, rfl⟩ ⟨by decide, by decide⟩ ⟨Nat.le_refl _, Nat.le_refl _⟩ (Nat.le_of_ble_eq_true rfl) rfl h (fun I1 h => ?_)
    refine x_aload_n (pc := 49) dX11_copy_49 rfl rfl ?_
    refine x_getR (pc := 50) (i := r_obj) (a := r_fault) fl_X11_17 dX11_copy_50 (sN_r_obj hS) (sT_r_obj hS) rfl (sR_r_obj_3 hS) ?_
    refine x_iconst (pc := 53) dX11_copy_53 ?_
    refine x_iload_n (pc := 54) dX11_copy_54 rfl rfl ?_
    refine x_iload_n (pc := 55) dX11_copy_55 rfl rfl ?_
    refine y_Sv (pc := 56) (As := [vr G r_fault, vi (1), vi (v1), vi (v2)]) (rest := []) ok_X11_move ml_X11_224 dX11_copy_56 rfl ⟨rfl, rfl⟩ ⟨by decide, by decide⟩ ⟨Nat.le_refl _, Nat.le_refl _⟩ (Nat.le_of_ble_eq_true rfl) rfl h (fun I2 h => ?_)
    refine x_aload_n (pc := 59) dX11_copy_59 rfl rfl ?_
    refine x_getR (pc := 60) (i := r_obj) (a := r_faultPlace) fl_X11_20 dX11_copy_60 (sN_r_obj hS) (sT_r_obj hS) rfl (sR_r_obj_4 hS) ?_
    refine x_iconst (pc := 63) dX11_copy_63 ?_
    refine x_iload_n (pc := 64) dX11_copy_64 rfl rfl ?_
    refine x_iload_n (pc := 65) dX11_copy_65 rfl rfl ?_
    refine y_Sv (pc := 66) (As := [vr G r_faultPlace, vi (1), vi (v1), vi (v2)]) (rest := []) ok_X11_move ml_X11_224 dX11_copy_66 rfl ⟨rfl, rfl⟩ ⟨by decide, by decide⟩ ⟨Nat.le_refl _, Nat.le_refl _⟩ (Nat.le_of_ble_eq_true rfl) rfl h (fun I3 h => ?_)
    refine x_aload_n (pc := 69) dX11_copy_69 rfl rfl ?_
    refine x_getR (pc := 70) (i := r_obj) (a := r_now) fl_X11_23 dX11_copy_70 (sN_r_obj hS) (sT_r_obj hS) rfl (sR_r_obj_5 hS) ?_
    refine x_iconst (pc := 73) dX11_copy_73 ?_
    refine x_iload_n (pc := 74) dX11_copy_74 rfl rfl ?_
    refine x_iload_n (pc := 75) dX11_copy_75 rfl rfl ?_
    refine y_Sv (pc := 76) (As := [vr G r_now, vi (1), vi (v1), vi (v2)]) (rest := []) ok_X11_move ml_X11_224 dX11_copy_76 rfl ⟨rfl, rfl⟩ ⟨by decide, by decide⟩ ⟨Nat.le_refl _, Nat.le_refl _⟩ (Nat.le_of_ble_eq_true rfl) rfl h (fun I4 h => ?_)
    refine x_aload_n (pc := 79) dX11_copy_79 rfl rfl ?_
    refine x_getR (pc := 80) (i := r_obj) (a := r_viewed) fl_X11_26 dX11_copy_80 (sN_r_obj hS) (sT_r_obj hS) rfl (sR_r_obj_6 hS) ?_
    refine x_iconst (pc := 83) dX11_copy_83 ?_
    refine x_iload_n (pc := 84) dX11_copy_84 rfl rfl ?_
    refine x_iload_n (pc := 85) dX11_copy_85 rfl rfl ?_
    refine y_Sv (pc := 86) (As := [vr G r_viewed, vi (1), vi (v1), vi (v2)]) (rest := []) ok_X11_move ml_X11_224 dX11_copy_86 rfl ⟨rfl, rfl⟩ ⟨by decide, by decide⟩ ⟨Nat.le_refl _, Nat.le_refl _⟩ (Nat.le_of_ble_eq_true rfl) rfl h (fun I5 h => ?_)
    refine x_aload_n (pc := 89) dX11_copy_89 rfl rfl ?_
    refine x_getR (pc := 90) (i := r_obj) (a := r_cells) fl_X11_29 dX11_copy_90 (sN_r_obj hS) (sT_r_obj hS) rfl (sR_r_obj_7 hS) ?_
    refine x_iconst (pc := 93) dX11_copy_93 ?_
    refine x_iload_n (pc := 94) dX11_copy_94 rfl rfl ?_
    refine x_iload_n (pc := 95) dX11_copy_95 rfl rfl ?_
    refine y_Sv (pc := 96) (As := [vr G r_cells, vi (1), vi (v1), vi (v2)]) (rest := []) ok_X11_move ml_X11_224 dX11_copy_96 rfl ⟨rfl, rfl⟩ ⟨by decide, by decide⟩ ⟨Nat.le_refl _, Nat.le_refl _⟩ (Nat.le_of_ble_eq_true rfl) rfl h (fun I6 h => ?_)
    refine x_aload_n (pc := 99) dX11_copy_99 rfl rfl ?_
    refine x_getR (pc := 100) (i := r_obj) (a := r_wells) fl_X11_32 dX11_copy_100 (sN_r_obj hS) (sT_r_obj hS) rfl (sR_r_obj_8 hS) ?_
    refine x_bipush (pc := 103) dX11_copy_103 (by decide) ?_
    refine x_iload_n (pc := 105) dX11_copy_105 rfl rfl ?_
    refine x_iload_n (pc := 106) dX11_copy_106 rfl rfl ?_
    refine y_Sv (pc := 107) (As := [vr G r_wells, vi (10), vi (v1), vi (v2)]) (rest := []) ok_X11_moveFlags ml_X11_228 dX11_copy_107 rfl ⟨rfl, rfl⟩ ⟨by decide, by decide⟩ ⟨Nat.le_refl _, Nat.le_refl _⟩ (Nat.le_of_ble_eq_true rfl) rfl h (fun I7 h => ?_)
    refine x_aload_n (pc := 110) dX11_copy_110 rfl rfl ?_
    refine x_getR (pc := 111) (i := r_obj) (a := r_ways) fl_X11_36 dX11_copy_111 (sN_r_obj hS) (sT_r_obj hS) rfl (sR_r_obj_9 hS) ?_
    refine x_bipush (pc := 114) dX11_copy_114 (by decide) ?_
    refine x_iload_n (pc := 116) dX11_copy_116 rfl rfl ?_
    refine x_iload_n (pc := 117) dX11_copy_117 rfl rfl ?_
    refine y_Sv (pc := 118) (As := [vr G r_ways, vi (100), vi (v1), vi (v2)]) (rest := []) ok_X11_move ml_X11_224 dX11_copy_118 rfl ⟨rfl, rfl⟩ ⟨by decide, by decide⟩ ⟨Nat.le_refl _, Nat.le_refl _⟩ (Nat.le_of_ble_eq_true rfl) rfl h (fun I8 h => ?_)
    refine x_aload_n (pc := 121) dX11_copy_121 rfl rfl ?_
    refine x_getR (pc := 122) (i := r_obj) (a := r_camps) fl_X11_39 dX11_copy_122 (sN_r_obj hS) (sT_r_obj hS) rfl (sR_r_obj_10 hS) ?_
    refine x_iconst (pc := 125) dX11_copy_125 ?_
    refine x_iload_n (pc := 126) dX11_copy_126 rfl rfl ?_
    refine x_iload_n (pc := 127) dX11_copy_127 rfl rfl ?_
    refine y_Sv (pc := 128) (As := [vr G r_camps, vi (1), vi (v1), vi (v2)]) (rest := []) ok_X11_move ml_X11_224 dX11_copy_128 rfl ⟨rfl, rfl⟩ ⟨by decide, by decide⟩ ⟨Nat.le_refl _, Nat.le_refl _⟩ (Nat.le_of_ble_eq_true rfl) rfl h (fun I9 h => ?_)
    refine x_aload_n (pc := 131) dX11_copy_131 rfl rfl ?_
    refine x_getR (pc := 132) (i := r_obj) (a := r_campTongue) fl_X11_42 dX11_copy_132 (sN_r_obj hS) (sT_r_obj hS) rfl (sR_r_obj_11 hS) ?_
    refine x_bipush (pc := 135) dX11_copy_135 (by decide) ?_
    refine x_iload_n (pc := 137) dX11_copy_137 rfl rfl ?_
    refine x_iload_n (pc := 138) dX11_copy_138 rfl rfl ?_
    refine y_Sv (pc := 139) (As := [vr G r_campTongue, vi (6), vi (v1), vi (v2)]) (rest := []) ok_X11_move ml_X11_224 dX11_copy_139 rfl ⟨rfl, rfl⟩ ⟨by decide, by decide⟩ ⟨Nat.le_refl _, Nat.le_refl _⟩ (Nat.le_of_ble_eq_true rfl) rfl h (fun I10 h => ?_)
    refine x_aload_n (pc := 142) dX11_copy_142 rfl rfl ?_
    refine x_getR (pc := 143) (i := r_obj) (a := r_campCell) fl_X11_45 dX11_copy_143 (sN_r_obj hS) (sT_r_obj hS) rfl (sR_r_obj_12 hS) ?_
    refine x_bipush (pc := 146) dX11_copy_146 (by decide) ?_
    refine x_iload_n (pc := 148) dX11_copy_148 rfl rfl ?_
    refine x_iload_n (pc := 149) dX11_copy_149 rfl rfl ?_
    refine y_Sv (pc := 150) (As := [vr G r_campCell, vi (6), vi (v1), vi (v2)]) (rest := []) ok_X11_move ml_X11_224 dX11_copy_150 rfl ⟨rfl, rfl⟩ ⟨by decide, by decide⟩ ⟨Nat.le_refl _, Nat.le_refl _⟩ (Nat.le_of_ble_eq_true rfl) rfl h (fun I11 h => ?_)
    refine x_aload_n (pc := 153) dX11_copy_153 rfl rfl ?_
    refine x_getR (pc := 154) (i := r_obj) (a := r_campWeek) fl_X11_48 dX11_copy_154 (sN_r_obj hS) (sT_r_obj hS) rfl (sR_r_obj_13 hS) ?_
    refine x_bipush (pc := 157) dX11_copy_157 (by decide) ?_
    refine x_iload_n (pc := 159) dX11_copy_159 rfl rfl ?_
    refine x_iload_n (pc := 160) dX11_copy_160 rfl rfl ?_
    refine y_Sv (pc := 161) (As := [vr G r_campWeek, vi (6), vi (v1), vi (v2)]) (rest := []) ok_X11_move ml_X11_224 dX11_copy_161 rfl ⟨rfl, rfl⟩ ⟨by decide, by decide⟩ ⟨Nat.le_refl _, Nat.le_refl _⟩ (Nat.le_of_ble_eq_true rfl) rfl h (fun I12 h => ?_)
    refine x_aload_n (pc := 164) dX11_copy_164 rfl rfl ?_
    refine x_getR (pc := 165) (i := r_obj) (a := r_grasses) fl_X11_51 dX11_copy_165 (sN_r_obj hS) (sT_r_obj hS) rfl (sR_r_obj_14 hS) ?_
    refine x_iconst (pc := 168) dX11_copy_168 ?_
    refine x_iload_n (pc := 169) dX11_copy_169 rfl rfl ?_
    refine x_iload_n (pc := 170) dX11_copy_170 rfl rfl ?_
    refine y_Sv (pc := 171) (As := [vr G r_grasses, vi (1), vi (v1), vi (v2)]) (rest := []) ok_X11_move ml_X11_224 dX11_copy_171 rfl ⟨rfl, rfl⟩ ⟨by decide, by decide⟩ ⟨Nat.le_refl _, Nat.le_refl _⟩ (Nat.le_of_ble_eq_true rfl) rfl h (fun I13 h => ?_)
    refine x_aload_n (pc := 174) dX11_copy_174 rfl rfl ?_
    refine x_getR (pc := 175) (i := r_obj) (a := r_grassCell) fl_X11_54 dX11_copy_175 (sN_r_obj hS) (sT_r_obj hS) rfl (sR_r_obj_15 hS) ?_
    refine x_bipush (pc := 178) dX11_copy_178 (by decide) ?_
    refine x_iload_n (pc := 180) dX11_copy_180 rfl rfl ?_
    refine x_iload_n (pc := 181) dX11_copy_181 rfl rfl ?_
    refine y_Sv (pc := 182) (As := [vr G r_grassCell, vi (60), vi (v1), vi (v2)]) (rest := []) ok_X11_move ml_X11_224 dX11_copy_182 rfl ⟨rfl, rfl⟩ ⟨by decide, by decide⟩ ⟨Nat.le_refl _, Nat.le_refl _⟩ (Nat.le_of_ble_eq_true rfl) rfl h (fun I14 h => ?_)
    refine x_aload_n (pc := 185) dX11_copy_185 rfl rfl ?_
    refine x_getR (pc := 186) (i := r_obj) (a := r_grassWeek) fl_X11_57 dX11_copy_186 (sN_r_obj hS) (sT_r_obj hS) rfl (sR_r_obj_16 hS) ?_
    refine x_bipush (pc := 189) dX11_copy_189 (by decide) ?_
    refine x_iload_n (pc := 191) dX11_copy_191 rfl rfl ?_
    refine x_iload_n (pc := 192) dX11_copy_192 rfl rfl ?_
    refine y_Sv (pc := 193) (As := [vr G r_grassWeek, vi (60), vi (v1), vi (v2)]) (rest := []) ok_X11_move ml_X11_224 dX11_copy_193 rfl ⟨rfl, rfl⟩ ⟨by decide, by decide⟩ ⟨Nat.le_refl _, Nat.le_refl _⟩ (Nat.le_of_ble_eq_true rfl) rfl h (fun I15 h => ?_)
    refine x_aload_n (pc := 196) dX11_copy_196 rfl rfl ?_
    refine x_getR (pc := 197) (i := r_obj) (a := r_grassIs) fl_X11_60 dX11_copy_197 (sN_r_obj hS) (sT_r_obj hS) rfl (sR_r_obj_17 hS) ?_
    refine x_bipush (pc := 200) dX11_copy_200 (by decide) ?_
    refine x_iload_n (pc := 202) dX11_copy_202 rfl rfl ?_
    refine x_iload_n (pc := 203) dX11_copy_203 rfl rfl ?_
    refine y_Sv (pc := 204) (As := [vr G r_grassIs, vi (60), vi (v1), vi (v2)]) (rest := []) ok_X11_move ml_X11_224 dX11_copy_204 rfl ⟨rfl, rfl⟩ ⟨by decide, by decide⟩ ⟨Nat.le_refl _, Nat.le_refl _⟩ (Nat.le_of_ble_eq_true rfl) rfl h (fun I16 h => ?_)
    refine x_aload_n (pc := 207) dX11_copy_207 rfl rfl ?_
    refine x_getR (pc := 208) (i := r_obj) (a := r_grassTold) fl_X11_63 dX11_copy_208 (sN_r_obj hS) (sT_r_obj hS) rfl (sR_r_obj_18 hS) ?_
    refine x_bipush (pc := 211) dX11_copy_211 (by decide) ?_
    refine x_iload_n (pc := 213) dX11_copy_213 rfl rfl ?_
    refine x_iload_n (pc := 214) dX11_copy_214 rfl rfl ?_
    refine y_Sv (pc := 215) (As := [vr G r_grassTold, vi (60), vi (v1), vi (v2)]) (rest := []) ok_X11_move ml_X11_224 dX11_copy_215 rfl ⟨rfl, rfl⟩ ⟨by decide, by decide⟩ ⟨Nat.le_refl _, Nat.le_refl _⟩ (Nat.le_of_ble_eq_true rfl) rfl h (fun I17 h => ?_)
    refine x_aload_n (pc := 218) dX11_copy_218 rfl rfl ?_
    refine x_getR (pc := 219) (i := r_obj) (a := r_dryWeek) fl_X11_66 dX11_copy_219 (sN_r_obj hS) (sT_r_obj hS) rfl (sR_r_obj_19 hS) ?_
    refine x_bipush (pc := 222) dX11_copy_222 (by decide) ?_
    refine x_iload_n (pc := 224) dX11_copy_224 rfl rfl ?_
    refine x_iload_n (pc := 225) dX11_copy_225 rfl rfl ?_
    refine y_Sv (pc := 226) (As := [vr G r_dryWeek, vi (100), vi (v1), vi (v2)]) (rest := []) ok_X11_moveFlags ml_X11_228 dX11_copy_226 rfl ⟨rfl, rfl⟩ ⟨by decide, by decide⟩ ⟨Nat.le_refl _, Nat.le_refl _⟩ (Nat.le_of_ble_eq_true rfl) rfl h (fun I18 h => ?_)
    refine x_aload_n (pc := 229) dX11_copy_229 rfl rfl ?_
    refine x_getR (pc := 230) (i := r_obj) (a := r_newsMany) fl_X11_69 dX11_copy_230 (sN_r_obj hS) (sT_r_obj hS) rfl (sR_r_obj_20 hS) ?_
    refine x_iconst (pc := 233) dX11_copy_233 ?_
    refine x_iload_n (pc := 234) dX11_copy_234 rfl rfl ?_
    refine x_iload_n (pc := 235) dX11_copy_235 rfl rfl ?_
    refine y_Sv (pc := 236) (As := [vr G r_newsMany, vi (1), vi (v1), vi (v2)]) (rest := []) ok_X11_move ml_X11_224 dX11_copy_236 rfl ⟨rfl, rfl⟩ ⟨by decide, by decide⟩ ⟨Nat.le_refl _, Nat.le_refl _⟩ (Nat.le_of_ble_eq_true rfl) rfl h (fun I19 h => ?_)
    refine x_aload_n (pc := 239) dX11_copy_239 rfl rfl ?_
    refine x_getR (pc := 240) (i := r_obj) (a := r_newsCamp) fl_X11_72 dX11_copy_240 (sN_r_obj hS) (sT_r_obj hS) rfl (sR_r_obj_21 hS) ?_
    refine x_bipush (pc := 243) dX11_copy_243 (by decide) ?_
    refine x_iload_n (pc := 245) dX11_copy_245 rfl rfl ?_
    refine x_iload_n (pc := 246) dX11_copy_246 rfl rfl ?_
    refine y_Sv (pc := 247) (As := [vr G r_newsCamp, vi (60), vi (v1), vi (v2)]) (rest := []) ok_X11_move ml_X11_224 dX11_copy_247 rfl ⟨rfl, rfl⟩ ⟨by decide, by decide⟩ ⟨Nat.le_refl _, Nat.le_refl _⟩ (Nat.le_of_ble_eq_true rfl) rfl h (fun I20 h => ?_)
    refine x_aload_n (pc := 250) dX11_copy_250 rfl rfl ?_
    refine x_getR (pc := 251) (i := r_obj) (a := r_newsCell) fl_X11_75 dX11_copy_251 (sN_r_obj hS) (sT_r_obj hS) rfl (sR_r_obj_22 hS) ?_
    refine x_bipush (pc := 254) dX11_copy_254 (by decide) ?_
    refine x_iload_n (pc := 256) dX11_copy_256 rfl rfl ?_
    refine x_iload_n (pc := 257) dX11_copy_257 rfl rfl ?_
    refine y_Sv (pc := 258) (As := [vr G r_newsCell, vi (60), vi (v1), vi (v2)]) (rest := []) ok_X11_move ml_X11_224 dX11_copy_258 rfl ⟨rfl, rfl⟩ ⟨by decide, by decide⟩ ⟨Nat.le_refl _, Nat.le_refl _⟩ (Nat.le_of_ble_eq_true rfl) rfl h (fun I21 h => ?_)
    refine x_aload_n (pc := 261) dX11_copy_261 rfl rfl ?_
    refine x_getR (pc := 262) (i := r_obj) (a := r_newsWeek) fl_X11_78 dX11_copy_262 (sN_r_obj hS) (sT_r_obj hS) rfl (sR_r_obj_23 hS) ?_
    refine x_bipush (pc := 265) dX11_copy_265 (by decide) ?_
    refine x_iload_n (pc := 267) dX11_copy_267 rfl rfl ?_
    refine x_iload_n (pc := 268) dX11_copy_268 rfl rfl ?_
    refine y_Sv (pc := 269) (As := [vr G r_newsWeek, vi (60), vi (v1), vi (v2)]) (rest := []) ok_X11_move ml_X11_224 dX11_copy_269 rfl ⟨rfl, rfl⟩ ⟨by decide, by decide⟩ ⟨Nat.le_refl _, Nat.le_refl _⟩ (Nat.le_of_ble_eq_true rfl) rfl h (fun I22 h => ?_)
    refine x_aload_n (pc := 272) dX11_copy_272 rfl rfl ?_
    refine x_getR (pc := 273) (i := r_obj) (a := r_newsSeen) fl_X11_81 dX11_copy_273 (sN_r_obj hS) (sT_r_obj hS) rfl (sR_r_obj_24 hS) ?_
    refine x_bipush (pc := 276) dX11_copy_276 (by decide) ?_
    refine x_iload_n (pc := 278) dX11_copy_278 rfl rfl ?_
    refine x_iload_n (pc := 279) dX11_copy_279 rfl rfl ?_
    refine y_Sv (pc := 280) (As := [vr G r_newsSeen, vi (60), vi (v1), vi (v2)]) (rest := []) ok_X11_moveFlags ml_X11_228 dX11_copy_280 rfl ⟨rfl, rfl⟩ ⟨by decide, by decide⟩ ⟨Nat.le_refl _, Nat.le_refl _⟩ (Nat.le_of_ble_eq_true rfl) rfl h (fun I23 h => ?_)
    refine x_aload_n (pc := 283) dX11_copy_283 rfl rfl ?_
    refine x_getR (pc := 284) (i := r_obj) (a := r_newsTold) fl_X11_84 dX11_copy_284 (sN_r_obj hS) (sT_r_obj hS) rfl (sR_r_obj_25 hS) ?_
    refine x_bipush (pc := 287) dX11_copy_287 (by decide) ?_
    refine x_iload_n (pc := 289) dX11_copy_289 rfl rfl ?_
    refine x_iload_n (pc := 290) dX11_copy_290 rfl rfl ?_
    refine y_Sv (pc := 291) (As := [vr G r_newsTold, vi (60), vi (v1), vi (v2)]) (rest := []) ok_X11_move ml_X11_224 dX11_copy_291 rfl ⟨rfl, rfl⟩ ⟨by decide, by decide⟩ ⟨Nat.le_refl _, Nat.le_refl _⟩ (Nat.le_of_ble_eq_true rfl) rfl h (fun I24 h => ?_)
    refine x_aload_n (pc := 294) dX11_copy_294 rfl rfl ?_
    refine x_getR (pc := 295) (i := r_obj) (a := r_books) fl_X11_87 dX11_copy_295 (sN_r_obj hS) (sT_r_obj hS) rfl (sR_r_obj_26 hS) ?_
    refine x_iconst (pc := 298) dX11_copy_298 ?_
    refine x_iload_n (pc := 299) dX11_copy_299 rfl rfl ?_
    refine x_iload_n (pc := 300) dX11_copy_300 rfl rfl ?_
    refine y_Sv (pc := 301) (As := [vr G r_books, vi (1), vi (v1), vi (v2)]) (rest := []) ok_X11_move ml_X11_224 dX11_copy_301 rfl ⟨rfl, rfl⟩ ⟨by decide, by decide⟩ ⟨Nat.le_refl _, Nat.le_refl _⟩ (Nat.le_of_ble_eq_true rfl) rfl h (fun I25 h => ?_)
    refine x_aload_n (pc := 304) dX11_copy_304 rfl rfl ?_
    refine x_getR (pc := 305) (i := r_obj) (a := r_bookKind) fl_X11_90 dX11_copy_305 (sN_r_obj hS) (sT_r_obj hS) rfl (sR_r_obj_27 hS) ?_
    refine x_bipush (pc := 308) dX11_copy_308 (by decide) ?_
    refine x_iload_n (pc := 310) dX11_copy_310 rfl rfl ?_
    refine x_iload_n (pc := 311) dX11_copy_311 rfl rfl ?_
    refine y_Sv (pc := 312) (As := [vr G r_bookKind, vi (24), vi (v1), vi (v2)]) (rest := []) ok_X11_move ml_X11_224 dX11_copy_312 rfl ⟨rfl, rfl⟩ ⟨by decide, by decide⟩ ⟨Nat.le_refl _, Nat.le_refl _⟩ (Nat.le_of_ble_eq_true rfl) rfl h (fun I26 h => ?_)
    refine x_aload_n (pc := 315) dX11_copy_315 rfl rfl ?_
    refine x_getR (pc := 316) (i := r_obj) (a := r_bookTongue) fl_X11_93 dX11_copy_316 (sN_r_obj hS) (sT_r_obj hS) rfl (sR_r_obj_28 hS) ?_
    refine x_bipush (pc := 319) dX11_copy_319 (by decide) ?_
    refine x_iload_n (pc := 321) dX11_copy_321 rfl rfl ?_
    refine x_iload_n (pc := 322) dX11_copy_322 rfl rfl ?_
    refine y_Sv (pc := 323) (As := [vr G r_bookTongue, vi (24), vi (v1), vi (v2)]) (rest := []) ok_X11_move ml_X11_224 dX11_copy_323 rfl ⟨rfl, rfl⟩ ⟨by decide, by decide⟩ ⟨Nat.le_refl _, Nat.le_refl _⟩ (Nat.le_of_ble_eq_true rfl) rfl h (fun I27 h => ?_)
    refine x_aload_n (pc := 326) dX11_copy_326 rfl rfl ?_
    refine x_getR (pc := 327) (i := r_obj) (a := r_bookLevel) fl_X11_96 dX11_copy_327 (sN_r_obj hS) (sT_r_obj hS) rfl (sR_r_obj_29 hS) ?_
    refine x_bipush (pc := 330) dX11_copy_330 (by decide) ?_
    refine x_iload_n (pc := 332) dX11_copy_332 rfl rfl ?_
    refine x_iload_n (pc := 333) dX11_copy_333 rfl rfl ?_
    refine y_Sv (pc := 334) (As := [vr G r_bookLevel, vi (24), vi (v1), vi (v2)]) (rest := []) ok_X11_move ml_X11_224 dX11_copy_334 rfl ⟨rfl, rfl⟩ ⟨by decide, by decide⟩ ⟨Nat.le_refl _, Nat.le_refl _⟩ (Nat.le_of_ble_eq_true rfl) rfl h (fun I28 h => ?_)
    refine x_aload_n (pc := 337) dX11_copy_337 rfl rfl ?_
    refine x_getR (pc := 338) (i := r_obj) (a := r_bookPages) fl_X11_99 dX11_copy_338 (sN_r_obj hS) (sT_r_obj hS) rfl (sR_r_obj_30 hS) ?_
    refine x_bipush (pc := 341) dX11_copy_341 (by decide) ?_
    refine x_iload_n (pc := 343) dX11_copy_343 rfl rfl ?_
    refine x_iload_n (pc := 344) dX11_copy_344 rfl rfl ?_
    refine y_Sv (pc := 345) (As := [vr G r_bookPages, vi (24), vi (v1), vi (v2)]) (rest := []) ok_X11_move ml_X11_224 dX11_copy_345 rfl ⟨rfl, rfl⟩ ⟨by decide, by decide⟩ ⟨Nat.le_refl _, Nat.le_refl _⟩ (Nat.le_of_ble_eq_true rfl) rfl h (fun I29 h => ?_)
    refine x_aload_n (pc := 348) dX11_copy_348 rfl rfl ?_
    refine x_getR (pc := 349) (i := r_obj) (a := r_bookGrams) fl_X11_102 dX11_copy_349 (sN_r_obj hS) (sT_r_obj hS) rfl (sR_r_obj_31 hS) ?_
    refine x_bipush (pc := 352) dX11_copy_352 (by decide) ?_
    refine x_iload_n (pc := 354) dX11_copy_354 rfl rfl ?_
    refine x_iload_n (pc := 355) dX11_copy_355 rfl rfl ?_
    refine y_Sv (pc := 356) (As := [vr G r_bookGrams, vi (24), vi (v1), vi (v2)]) (rest := []) ok_X11_move ml_X11_224 dX11_copy_356 rfl ⟨rfl, rfl⟩ ⟨by decide, by decide⟩ ⟨Nat.le_refl _, Nat.le_refl _⟩ (Nat.le_of_ble_eq_true rfl) rfl h (fun I30 h => ?_)
    refine x_aload_n (pc := 359) dX11_copy_359 rfl rfl ?_
    refine x_getR (pc := 360) (i := r_obj) (a := r_acts) fl_X11_105 dX11_copy_360 (sN_r_obj hS) (sT_r_obj hS) rfl (sR_r_obj_32 hS) ?_
    refine x_iconst (pc := 363) dX11_copy_363 ?_
    refine x_iload_n (pc := 364) dX11_copy_364 rfl rfl ?_
    refine x_iload_n (pc := 365) dX11_copy_365 rfl rfl ?_
    refine y_Sv (pc := 366) (As := [vr G r_acts, vi (1), vi (v1), vi (v2)]) (rest := []) ok_X11_move ml_X11_224 dX11_copy_366 rfl ⟨rfl, rfl⟩ ⟨by decide, by decide⟩ ⟨Nat.le_refl _, Nat.le_refl _⟩ (Nat.le_of_ble_eq_true rfl) rfl h (fun I31 h => ?_)
    refine x_aload_n (pc := 369) dX11_copy_369 rfl rfl ?_
    refine x_getR (pc := 370) (i := r_obj) (a := r_actBook) fl_X11_108 dX11_copy_370 (sN_r_obj hS) (sT_r_obj hS) rfl (sR_r_obj_33 hS) ?_
    refine x_sipush (pc := 373) dX11_copy_373 (by decide) ?_
    refine x_iload_n (pc := 376) dX11_copy_376 rfl rfl ?_
    refine x_iload_n (pc := 377) dX11_copy_377 rfl rfl ?_
    refine y_Sv (pc := 378) (As := [vr G r_actBook, vi (150), vi (v1), vi (v2)]) (rest := []) ok_X11_move ml_X11_224 dX11_copy_378 rfl ⟨rfl, rfl⟩ ⟨by decide, by decide⟩ ⟨Nat.le_refl _, Nat.le_refl _⟩ (Nat.le_of_ble_eq_true rfl) rfl h (fun I32 h => ?_)
    refine x_aload_n (pc := 381) dX11_copy_381 rfl rfl ?_
    refine x_getR (pc := 382) (i := r_obj) (a := r_actKind) fl_X11_111 dX11_copy_382 (sN_r_obj hS) (sT_r_obj hS) rfl (sR_r_obj_34 hS) ?_
    refine x_sipush (pc := 385) dX11_copy_385 (by decide) ?_
    refine x_iload_n (pc := 388) dX11_copy_388 rfl rfl ?_
    refine x_iload_n (pc := 389) dX11_copy_389 rfl rfl ?_
    refine y_Sv (pc := 390) (As := [vr G r_actKind, vi (150), vi (v1), vi (v2)]) (rest := []) ok_X11_move ml_X11_224 dX11_copy_390 rfl ⟨rfl, rfl⟩ ⟨by decide, by decide⟩ ⟨Nat.le_refl _, Nat.le_refl _⟩ (Nat.le_of_ble_eq_true rfl) rfl h (fun I33 h => ?_)
    refine x_aload_n (pc := 393) dX11_copy_393 rfl rfl ?_
    refine x_getR (pc := 394) (i := r_obj) (a := r_actCamp) fl_X11_114 dX11_copy_394 (sN_r_obj hS) (sT_r_obj hS) rfl (sR_r_obj_35 hS) ?_
    refine x_sipush (pc := 397) dX11_copy_397 (by decide) ?_
    refine x_iload_n (pc := 400) dX11_copy_400 rfl rfl ?_
    refine x_iload_n (pc := 401) dX11_copy_401 rfl rfl ?_
    refine y_Sv (pc := 402) (As := [vr G r_actCamp, vi (150), vi (v1), vi (v2)]) (rest := []) ok_X11_move ml_X11_224 dX11_copy_402 rfl ⟨rfl, rfl⟩ ⟨by decide, by decide⟩ ⟨Nat.le_refl _, Nat.le_refl _⟩ (Nat.le_of_ble_eq_true rfl) rfl h (fun I34 h => ?_)
    refine x_aload_n (pc := 405) dX11_copy_405 rfl rfl ?_
    refine x_getR (pc := 406) (i := r_obj) (a := r_actWeek) fl_X11_117 dX11_copy_406 (sN_r_obj hS) (sT_r_obj hS) rfl (sR_r_obj_36 hS) ?_
    refine x_sipush (pc := 409) dX11_copy_409 (by decide) ?_
    refine x_iload_n (pc := 412) dX11_copy_412 rfl rfl ?_
    refine x_iload_n (pc := 413) dX11_copy_413 rfl rfl ?_
    refine y_Sv (pc := 414) (As := [vr G r_actWeek, vi (150), vi (v1), vi (v2)]) (rest := []) ok_X11_move ml_X11_224 dX11_copy_414 rfl ⟨rfl, rfl⟩ ⟨by decide, by decide⟩ ⟨Nat.le_refl _, Nat.le_refl _⟩ (Nat.le_of_ble_eq_true rfl) rfl h (fun I35 h => ?_)
    refine x_aload_n (pc := 417) dX11_copy_417 rfl rfl ?_
    refine x_getR (pc := 418) (i := r_obj) (a := r_actTold) fl_X11_120 dX11_copy_418 (sN_r_obj hS) (sT_r_obj hS) rfl (sR_r_obj_37 hS) ?_
    refine x_sipush (pc := 421) dX11_copy_421 (by decide) ?_
    refine x_iload_n (pc := 424) dX11_copy_424 rfl rfl ?_
    refine x_iload_n (pc := 425) dX11_copy_425 rfl rfl ?_
    refine y_Sv (pc := 426) (As := [vr G r_actTold, vi (150), vi (v1), vi (v2)]) (rest := []) ok_X11_move ml_X11_224 dX11_copy_426 rfl ⟨rfl, rfl⟩ ⟨by decide, by decide⟩ ⟨Nat.le_refl _, Nat.le_refl _⟩ (Nat.le_of_ble_eq_true rfl) rfl h (fun I36 h => ?_)
    refine x_aload_n (pc := 429) dX11_copy_429 rfl rfl ?_
    refine x_getR (pc := 430) (i := r_obj) (a := r_actMany) fl_X11_123 dX11_copy_430 (sN_r_obj hS) (sT_r_obj hS) rfl (sR_r_obj_38 hS) ?_
    refine x_sipush (pc := 433) dX11_copy_433 (by decide) ?_
    refine x_iload_n (pc := 436) dX11_copy_436 rfl rfl ?_
    refine x_iload_n (pc := 437) dX11_copy_437 rfl rfl ?_
    refine y_Sv (pc := 438) (As := [vr G r_actMany, vi (150), vi (v1), vi (v2)]) (rest := []) ok_X11_move ml_X11_224 dX11_copy_438 rfl ⟨rfl, rfl⟩ ⟨by decide, by decide⟩ ⟨Nat.le_refl _, Nat.le_refl _⟩ (Nat.le_of_ble_eq_true rfl) rfl h (fun I37 h => ?_)
    refine x_aload_n (pc := 441) dX11_copy_441 rfl rfl ?_
    refine x_getR (pc := 442) (i := r_obj) (a := r_actCost) fl_X11_126 dX11_copy_442 (sN_r_obj hS) (sT_r_obj hS) rfl (sR_r_obj_39 hS) ?_
    refine x_sipush (pc := 445) dX11_copy_445 (by decide) ?_
    refine x_iload_n (pc := 448) dX11_copy_448 rfl rfl ?_
    refine x_iload_n (pc := 449) dX11_copy_449 rfl rfl ?_
    refine y_Sv (pc := 450) (As := [vr G r_actCost, vi (150), vi (v1), vi (v2)]) (rest := []) ok_X11_move ml_X11_224 dX11_copy_450 rfl ⟨rfl, rfl⟩ ⟨by decide, by decide⟩ ⟨Nat.le_refl _, Nat.le_refl _⟩ (Nat.le_of_ble_eq_true rfl) rfl h (fun I38 h => ?_)
    refine x_aload_n (pc := 453) dX11_copy_453 rfl rfl ?_
    refine x_getR (pc := 454) (i := r_obj) (a := r_lines) fl_X11_129 dX11_copy_454 (sN_r_obj hS) (sT_r_obj hS) rfl (sR_r_obj_40 hS) ?_
    refine x_iconst (pc := 457) dX11_copy_457 ?_
    refine x_iload_n (pc := 458) dX11_copy_458 rfl rfl ?_
    refine x_iload_n (pc := 459) dX11_copy_459 rfl rfl ?_
    refine y_Sv (pc := 460) (As := [vr G r_lines, vi (1), vi (v1), vi (v2)]) (rest := []) ok_X11_move ml_X11_224 dX11_copy_460 rfl ⟨rfl, rfl⟩ ⟨by decide, by decide⟩ ⟨Nat.le_refl _, Nat.le_refl _⟩ (Nat.le_of_ble_eq_true rfl) rfl h (fun I39 h => ?_)
    refine x_aload_n (pc := 463) dX11_copy_463 rfl rfl ?_
    refine x_getR (pc := 464) (i := r_obj) (a := r_lineAct) fl_X11_132 dX11_copy_464 (sN_r_obj hS) (sT_r_obj hS) rfl (sR_r_obj_41 hS) ?_
    refine x_bipush (pc := 467) dX11_copy_467 (by decide) ?_
    refine x_iload_n (pc := 469) dX11_copy_469 rfl rfl ?_
    refine x_iload_n (pc := 470) dX11_copy_470 rfl rfl ?_
    refine y_Sv (pc := 471) (As := [vr G r_lineAct, vi (16), vi (v1), vi (v2)]) (rest := []) ok_X11_move ml_X11_224 dX11_copy_471 rfl ⟨rfl, rfl⟩ ⟨by decide, by decide⟩ ⟨Nat.le_refl _, Nat.le_refl _⟩ (Nat.le_of_ble_eq_true rfl) rfl h (fun I40 h => ?_)
    refine x_aload_n (pc := 474) dX11_copy_474 rfl rfl ?_
    refine x_getR (pc := 475) (i := r_obj) (a := r_lineNumber) fl_X11_135 dX11_copy_475 (sN_r_obj hS) (sT_r_obj hS) rfl (sR_r_obj_42 hS) ?_
    refine x_bipush (pc := 478) dX11_copy_478 (by decide) ?_
    refine x_iload_n (pc := 480) dX11_copy_480 rfl rfl ?_
    refine x_iload_n (pc := 481) dX11_copy_481 rfl rfl ?_
    refine y_Sv (pc := 482) (As := [vr G r_lineNumber, vi (16), vi (v1), vi (v2)]) (rest := []) ok_X11_move ml_X11_224 dX11_copy_482 rfl ⟨rfl, rfl⟩ ⟨by decide, by decide⟩ ⟨Nat.le_refl _, Nat.le_refl _⟩ (Nat.le_of_ble_eq_true rfl) rfl h (fun I41 h => ?_)
    refine x_aload_n (pc := 485) dX11_copy_485 rfl rfl ?_
    refine x_getR (pc := 486) (i := r_obj) (a := r_lineTests) fl_X11_138 dX11_copy_486 (sN_r_obj hS) (sT_r_obj hS) rfl (sR_r_obj_43 hS) ?_
    refine x_bipush (pc := 489) dX11_copy_489 (by decide) ?_
    refine x_iload_n (pc := 491) dX11_copy_491 rfl rfl ?_
    refine x_iload_n (pc := 492) dX11_copy_492 rfl rfl ?_
    refine y_Sv (pc := 493) (As := [vr G r_lineTests, vi (16), vi (v1), vi (v2)]) (rest := []) ok_X11_move ml_X11_224 dX11_copy_493 rfl ⟨rfl, rfl⟩ ⟨by decide, by decide⟩ ⟨Nat.le_refl _, Nat.le_refl _⟩ (Nat.le_of_ble_eq_true rfl) rfl h (fun I42 h => ?_)
    refine x_aload_n (pc := 496) dX11_copy_496 rfl rfl ?_
    refine x_getR (pc := 497) (i := r_obj) (a := r_testWhat) fl_X11_141 dX11_copy_497 (sN_r_obj hS) (sT_r_obj hS) rfl (sR_r_obj_44 hS) ?_
    refine x_bipush (pc := 500) dX11_copy_500 (by decide) ?_
    refine x_iload_n (pc := 502) dX11_copy_502 rfl rfl ?_
    refine x_iload_n (pc := 503) dX11_copy_503 rfl rfl ?_
    refine y_Sv (pc := 504) (As := [vr G r_testWhat, vi (64), vi (v1), vi (v2)]) (rest := []) ok_X11_move ml_X11_224 dX11_copy_504 rfl ⟨rfl, rfl⟩ ⟨by decide, by decide⟩ ⟨Nat.le_refl _, Nat.le_refl _⟩ (Nat.le_of_ble_eq_true rfl) rfl h (fun I43 h => ?_)
    refine x_aload_n (pc := 507) dX11_copy_507 rfl rfl ?_
    refine x_getR (pc := 508) (i := r_obj) (a := r_testSign) fl_X11_144 dX11_copy_508 (sN_r_obj hS) (sT_r_obj hS) rfl (sR_r_obj_45 hS) ?_
    refine x_bipush (pc := 511) dX11_copy_511 (by decide) ?_
    refine x_iload_n (pc := 513) dX11_copy_513 rfl rfl ?_
    refine x_iload_n (pc := 514) dX11_copy_514 rfl rfl ?_
    refine y_Sv (pc := 515) (As := [vr G r_testSign, vi (64), vi (v1), vi (v2)]) (rest := []) ok_X11_move ml_X11_224 dX11_copy_515 rfl ⟨rfl, rfl⟩ ⟨by decide, by decide⟩ ⟨Nat.le_refl _, Nat.le_refl _⟩ (Nat.le_of_ble_eq_true rfl) rfl h (fun I44 h => ?_)
    refine x_aload_n (pc := 518) dX11_copy_518 rfl rfl ?_
    refine x_getR (pc := 519) (i := r_obj) (a := r_testThan) fl_X11_147 dX11_copy_519 (sN_r_obj hS) (sT_r_obj hS) rfl (sR_r_obj_46 hS) ?_
    refine x_bipush (pc := 522) dX11_copy_522 (by decide) ?_
    refine x_iload_n (pc := 524) dX11_copy_524 rfl rfl ?_
    refine x_iload_n (pc := 525) dX11_copy_525 rfl rfl ?_
    refine y_Sv (pc := 526) (As := [vr G r_testThan, vi (64), vi (v1), vi (v2)]) (rest := []) ok_X11_move ml_X11_224 dX11_copy_526 rfl ⟨rfl, rfl⟩ ⟨by decide, by decide⟩ ⟨Nat.le_refl _, Nat.le_refl _⟩ (Nat.le_of_ble_eq_true rfl) rfl h (fun I45 h => ?_)
    refine x_aload_n (pc := 529) dX11_copy_529 rfl rfl ?_
    refine x_getR (pc := 530) (i := r_obj) (a := r_testNot) fl_X11_150 dX11_copy_530 (sN_r_obj hS) (sT_r_obj hS) rfl (sR_r_obj_47 hS) ?_
    refine x_bipush (pc := 533) dX11_copy_533 (by decide) ?_
    refine x_iload_n (pc := 535) dX11_copy_535 rfl rfl ?_
    refine x_iload_n (pc := 536) dX11_copy_536 rfl rfl ?_
    refine y_Sv (pc := 537) (As := [vr G r_testNot, vi (64), vi (v1), vi (v2)]) (rest := []) ok_X11_moveFlags ml_X11_228 dX11_copy_537 rfl ⟨rfl, rfl⟩ ⟨by decide, by decide⟩ ⟨Nat.le_refl _, Nat.le_refl _⟩ (Nat.le_of_ble_eq_true rfl) rfl h (fun I46 h => ?_)
    refine x_aload_n (pc := 540) dX11_copy_540 rfl rfl ?_
    refine x_getR (pc := 541) (i := r_obj) (a := r_wishes) fl_X11_153 dX11_copy_541 (sN_r_obj hS) (sT_r_obj hS) rfl (sR_r_obj_48 hS) ?_
    refine x_bipush (pc := 544) dX11_copy_544 (by decide) ?_
    refine x_iload_n (pc := 546) dX11_copy_546 rfl rfl ?_
    refine x_iload_n (pc := 547) dX11_copy_547 rfl rfl ?_
    refine y_Sv (pc := 548) (As := [vr G r_wishes, vi (48), vi (v1), vi (v2)]) (rest := []) ok_X11_move ml_X11_224 dX11_copy_548 rfl ⟨rfl, rfl⟩ ⟨by decide, by decide⟩ ⟨Nat.le_refl _, Nat.le_refl _⟩ (Nat.le_of_ble_eq_true rfl) rfl h (fun I47 h => ?_)
    refine x_aload_n (pc := 551) dX11_copy_551 rfl rfl ?_
    refine x_getR (pc := 552) (i := r_obj) (a := r_readers) fl_X11_156 dX11_copy_552 (sN_r_obj hS) (sT_r_obj hS) rfl (sR_r_obj_49 hS) ?_
    refine x_iconst (pc := 555) dX11_copy_555 ?_
    refine x_iload_n (pc := 556) dX11_copy_556 rfl rfl ?_
    refine x_iload_n (pc := 557) dX11_copy_557 rfl rfl ?_
    refine y_Sv (pc := 558) (As := [vr G r_readers, vi (1), vi (v1), vi (v2)]) (rest := []) ok_X11_move ml_X11_224 dX11_copy_558 rfl ⟨rfl, rfl⟩ ⟨by decide, by decide⟩ ⟨Nat.le_refl _, Nat.le_refl _⟩ (Nat.le_of_ble_eq_true rfl) rfl h (fun I48 h => ?_)
    refine x_aload_n (pc := 561) dX11_copy_561 rfl rfl ?_
    refine x_getR (pc := 562) (i := r_obj) (a := r_readerCamp) fl_X11_159 dX11_copy_562 (sN_r_obj hS) (sT_r_obj hS) rfl (sR_r_obj_50 hS) ?_
    refine x_bipush (pc := 565) dX11_copy_565 (by decide) ?_
    refine x_iload_n (pc := 567) dX11_copy_567 rfl rfl ?_
    refine x_iload_n (pc := 568) dX11_copy_568 rfl rfl ?_
    refine y_Sv (pc := 569) (As := [vr G r_readerCamp, vi (12), vi (v1), vi (v2)]) (rest := []) ok_X11_move ml_X11_224 dX11_copy_569 rfl ⟨rfl, rfl⟩ ⟨by decide, by decide⟩ ⟨Nat.le_refl _, Nat.le_refl _⟩ (Nat.le_of_ble_eq_true rfl) rfl h (fun I49 h => ?_)
    refine x_aload_n (pc := 572) dX11_copy_572 rfl rfl ?_
    refine x_getR (pc := 573) (i := r_obj) (a := r_readerBooks) fl_X11_162 dX11_copy_573 (sN_r_obj hS) (sT_r_obj hS) rfl (sR_r_obj_51 hS) ?_
    refine x_bipush (pc := 576) dX11_copy_576 (by decide) ?_
    refine x_iload_n (pc := 578) dX11_copy_578 rfl rfl ?_
    refine x_iload_n (pc := 579) dX11_copy_579 rfl rfl ?_
    refine y_Sv (pc := 580) (As := [vr G r_readerBooks, vi (12), vi (v1), vi (v2)]) (rest := []) ok_X11_move ml_X11_224 dX11_copy_580 rfl ⟨rfl, rfl⟩ ⟨by decide, by decide⟩ ⟨Nat.le_refl _, Nat.le_refl _⟩ (Nat.le_of_ble_eq_true rfl) rfl h (fun I50 h => ?_)
    exact y_vret (pc := 583) dX11_copy_583 rfl ⟨Nat.le_refl _, Nat.le_refl _⟩ h
  · have h := h.2 e
    refine x_aload_n (pc := 9) dX11_copy_9 rfl rfl ?_
    refine x_getR (pc := 10) (i := r_obj) (a := r_tape) fl_X11_7 dX11_copy_10 (sN_r_obj hS) (sT_r_obj hS) rfl (sR_r_obj_1 hS) ?_
    refine x_sipush (pc := 13) dX11_copy_13 (by decide) ?_
    refine x_iload_n (pc := 16) dX11_copy_16 rfl rfl ?_
    refine x_imul (pc := 17) dX11_copy_17 ?_
    refine x_iload_n (pc := 18) dX11_copy_18 rfl rfl ?_
    refine x_iadd (pc := 19) dX11_copy_19 ?_
    refine x_aload_n (pc := 20) dX11_copy_20 rfl rfl ?_
    refine x_getR (pc := 21) (i := r_obj) (a := r_tape) fl_X11_7 dX11_copy_21 (sN_r_obj hS) (sT_r_obj hS) rfl (sR_r_obj_1 hS) ?_
    refine x_sipush (pc := 24) dX11_copy_24 (by decide) ?_
    refine x_iload_n (pc := 27) dX11_copy_27 rfl rfl ?_
    refine x_imul (pc := 28) dX11_copy_28 ?_
    refine x_iload_n (pc := 29) dX11_copy_29 rfl rfl ?_
    refine x_iadd (pc := 30) dX11_copy_30 ?_
    refine y_bald (pc := 31) (i := r_tape) (n := 2000) dX11_copy_31 (sN_r_tape hS) (sT_r_tape hS) (sL_r_tape hS) h.1 ?_
    have h := h.2
    refine y_bast (pc := 32) (i := r_tape) (n := 2000) dX11_copy_32 (sN_r_tape hS) (sT_r_tape hS) (sL_r_tape hS) h.1 ?_
    have h := h.2
    have h := h _ rfl
    generalize up I r_tape (ix (((500) * (v2)) + (v3))) ((I r_tape (ix (((500) * (v1)) + (v3)))).bmod 256) = I51 at h ⊢
    refine x_iinc (pc := 33) (L' := [some (vr G r_obj), some (vi (v1)), some (vi (v2)), some (vi (v3 + 1))]) dX11_copy_33 rfl (by decide) (xst1 rfl rfl rfl) ?_
    refine x_goto (pc := 36) (t := 2) dX11_copy_36 (by decide) ?_
    exact h
set_option maxHeartbeats 4000000 in
set_option maxRecDepth 100000 in
theorem b_R_count {G : XG} {S : XS} {I : XI} {v1 : Int} {R : Int → XI → Prop} (hS : xSh S)  (h : (∀ I1 : XI, I1 = up I r_obj 0 (0) → ((w32 (v1) = 0 → R (I1 r_cells 0) I1) ∧ (w32 (v1) = 1 → R (I1 r_camps 0) I1) ∧ (w32 (v1) = 2 → R (I1 r_books 0) I1) ∧ (w32 (v1) = 3 → R (I1 r_newsMany 0) I1) ∧ (w32 (v1) = 4 → R (I1 r_acts 0) I1) ∧ (w32 (v1) = 5 → R (I1 r_readers 0) I1) ∧ (w32 (v1) = 6 → R (I1 r_now 0) I1) ∧ (w32 (v1) = 7 → R (I1 r_viewed 0) I1) ∧ (w32 (v1) = 8 → R (I1 r_lines 0) I1) ∧ (w32 (v1) = 9 → R_count_k137 G S I1 (0) (0) R) ∧ (w32 (v1) = 10 → R_count_k184 G S I1 (0) (0) R) ∧ (w32 (v1) = 11 → R_count_k225 G S I1 (0) (0) R) ∧ ((w32 (v1) < 0 ∨ 11 < w32 (v1)) → R ((-2)) I1)))) : R_count G S I v1 R := by
  refine x_start [some (vr G r_obj), some (vi (v1)), none, none] (by decide) (Nat.le_of_ble_eq_true rfl) rfl ?_
  refine x_aload_n (pc := 0) dX11_count_0 rfl rfl ?_
  refine x_iconst (pc := 1) dX11_count_1 ?_
  refine x_putI (pc := 2) (i := r_obj) fl_X11_220 dX11_count_2 (sN_r_obj hS) (sT_r_obj hS) rfl ?_
  have h := h _ rfl
  generalize up I r_obj 0 (0) = I1 at h ⊢
  refine x_iconst (pc := 5) dX11_count_5 ?_
  refine x_istore_n (pc := 6) (L' := [some (vr G r_obj), some (vi (v1)), some (vi (0)), none]) dX11_count_6 rfl (by decide) (xst1 rfl rfl rfl) ?_
  refine x_iload_n (pc := 7) dX11_count_7 rfl rfl ?_
  by_cases e0 : w32 (v1) = 0
  · have h := h.1 e0
    refine x_tabIn (pc := 8) (off := 64) (t := 72) dX11_count_8 0 e0 (by decide) (by decide) rfl (by decide) ?_
    refine x_aload_n (pc := 72) dX11_count_72 rfl rfl ?_
    refine x_getR (pc := 73) (i := r_obj) (a := r_cells) fl_X11_29 dX11_count_73 (sN_r_obj hS) (sT_r_obj hS) rfl (sR_r_obj_7 hS) ?_
    refine x_iconst (pc := 76) dX11_count_76 ?_
    refine y_iald (pc := 77) (i := r_cells) (n := 4) dX11_count_77 (sN_r_cells hS) (sT_r_cells hS) (sL_r_cells hS) (inb_nat (k := 0) (by decide) (by decide)) ?_
    rw [show ix 0 = 0 from rfl]
    exact y_iret (pc := 78) dX11_count_78 rfl ⟨Nat.le_refl _, Nat.le_refl _⟩ h
  by_cases e1 : w32 (v1) = 1
  · have h := h.2.1 e1
    refine x_tabIn (pc := 8) (off := 71) (t := 79) dX11_count_8 1 e1 (by decide) (by decide) rfl (by decide) ?_
    refine x_aload_n (pc := 79) dX11_count_79 rfl rfl ?_
    refine x_getR (pc := 80) (i := r_obj) (a := r_camps) fl_X11_39 dX11_count_80 (sN_r_obj hS) (sT_r_obj hS) rfl (sR_r_obj_10 hS) ?_
    refine x_iconst (pc := 83) dX11_count_83 ?_
    refine y_iald (pc := 84) (i := r_camps) (n := 4) dX11_count_84 (sN_r_camps hS) (sT_r_camps hS) (sL_r_camps hS) (inb_nat (k := 0) (by decide) (by decide)) ?_
    rw [show ix 0 = 0 from rfl]
    exact y_iret (pc := 85) dX11_count_85 rfl ⟨Nat.le_refl _, Nat.le_refl _⟩ h
  by_cases e2 : w32 (v1) = 2
  · have h := h.2.2.1 e2
    refine x_tabIn (pc := 8) (off := 78) (t := 86) dX11_count_8 2 e2 (by decide) (by decide) rfl (by decide) ?_
    refine x_aload_n (pc := 86) dX11_count_86 rfl rfl ?_
    refine x_getR (pc := 87) (i := r_obj) (a := r_books) fl_X11_87 dX11_count_87 (sN_r_obj hS) (sT_r_obj hS) rfl (sR_r_obj_26 hS) ?_
    refine x_iconst (pc := 90) dX11_count_90 ?_
    refine y_iald (pc := 91) (i := r_books) (n := 4) dX11_count_91 (sN_r_books hS) (sT_r_books hS) (sL_r_books hS) (inb_nat (k := 0) (by decide) (by decide)) ?_
    rw [show ix 0 = 0 from rfl]
    exact y_iret (pc := 92) dX11_count_92 rfl ⟨Nat.le_refl _, Nat.le_refl _⟩ h
  by_cases e3 : w32 (v1) = 3
  · have h := h.2.2.2.1 e3
    refine x_tabIn (pc := 8) (off := 85) (t := 93) dX11_count_8 3 e3 (by decide) (by decide) rfl (by decide) ?_
    refine x_aload_n (pc := 93) dX11_count_93 rfl rfl ?_
    refine x_getR (pc := 94) (i := r_obj) (a := r_newsMany) fl_X11_69 dX11_count_94 (sN_r_obj hS) (sT_r_obj hS) rfl (sR_r_obj_20 hS) ?_
    refine x_iconst (pc := 97) dX11_count_97 ?_
    refine y_iald (pc := 98) (i := r_newsMany) (n := 4) dX11_count_98 (sN_r_newsMany hS) (sT_r_newsMany hS) (sL_r_newsMany hS) (inb_nat (k := 0) (by decide) (by decide)) ?_
    rw [show ix 0 = 0 from rfl]
    exact y_iret (pc := 99) dX11_count_99 rfl ⟨Nat.le_refl _, Nat.le_refl _⟩ h
  by_cases e4 : w32 (v1) = 4
  · have h := h.2.2.2.2.1 e4
    refine x_tabIn (pc := 8) (off := 92) (t := 100) dX11_count_8 4 e4 (by decide) (by decide) rfl (by decide) ?_
    refine x_aload_n (pc := 100) dX11_count_100 rfl rfl ?_
    refine x_getR (pc := 101) (i := r_obj) (a := r_acts) fl_X11_105 dX11_count_101 (sN_r_obj hS) (sT_r_obj hS) rfl (sR_r_obj_32 hS) ?_
    refine x_iconst (pc := 104) dX11_count_104 ?_
    refine y_iald (pc := 105) (i := r_acts) (n := 4) dX11_count_105 (sN_r_acts hS) (sT_r_acts hS) (sL_r_acts hS) (inb_nat (k := 0) (by decide) (by decide)) ?_
    rw [show ix 0 = 0 from rfl]
    exact y_iret (pc := 106) dX11_count_106 rfl ⟨Nat.le_refl _, Nat.le_refl _⟩ h
  by_cases e5 : w32 (v1) = 5
  · have h := h.2.2.2.2.2.1 e5
    refine x_tabIn (pc := 8) (off := 99) (t := 107) dX11_count_8 5 e5 (by decide) (by decide) rfl (by decide) ?_
    refine x_aload_n (pc := 107) dX11_count_107 rfl rfl ?_
    refine x_getR (pc := 108) (i := r_obj) (a := r_readers) fl_X11_156 dX11_count_108 (sN_r_obj hS) (sT_r_obj hS) rfl (sR_r_obj_49 hS) ?_
    refine x_iconst (pc := 111) dX11_count_111 ?_
    refine y_iald (pc := 112) (i := r_readers) (n := 4) dX11_count_112 (sN_r_readers hS) (sT_r_readers hS) (sL_r_readers hS) (inb_nat (k := 0) (by decide) (by decide)) ?_
    rw [show ix 0 = 0 from rfl]
    exact y_iret (pc := 113) dX11_count_113 rfl ⟨Nat.le_refl _, Nat.le_refl _⟩ h
  by_cases e6 : w32 (v1) = 6
  · have h := h.2.2.2.2.2.2.1 e6
    refine x_tabIn (pc := 8) (off := 106) (t := 114) dX11_count_8 6 e6 (by decide) (by decide) rfl (by decide) ?_
    refine x_aload_n (pc := 114) dX11_count_114 rfl rfl ?_
    refine x_getR (pc := 115) (i := r_obj) (a := r_now) fl_X11_23 dX11_count_115 (sN_r_obj hS) (sT_r_obj hS) rfl (sR_r_obj_5 hS) ?_
    refine x_iconst (pc := 118) dX11_count_118 ?_
    refine y_iald (pc := 119) (i := r_now) (n := 4) dX11_count_119 (sN_r_now hS) (sT_r_now hS) (sL_r_now hS) (inb_nat (k := 0) (by decide) (by decide)) ?_
    rw [show ix 0 = 0 from rfl]
    exact y_iret (pc := 120) dX11_count_120 rfl ⟨Nat.le_refl _, Nat.le_refl _⟩ h
  by_cases e7 : w32 (v1) = 7
  · have h := h.2.2.2.2.2.2.2.1 e7
    refine x_tabIn (pc := 8) (off := 113) (t := 121) dX11_count_8 7 e7 (by decide) (by decide) rfl (by decide) ?_
    refine x_aload_n (pc := 121) dX11_count_121 rfl rfl ?_
    refine x_getR (pc := 122) (i := r_obj) (a := r_viewed) fl_X11_26 dX11_count_122 (sN_r_obj hS) (sT_r_obj hS) rfl (sR_r_obj_6 hS) ?_
    refine x_iconst (pc := 125) dX11_count_125 ?_
    refine y_iald (pc := 126) (i := r_viewed) (n := 4) dX11_count_126 (sN_r_viewed hS) (sT_r_viewed hS) (sL_r_viewed hS) (inb_nat (k := 0) (by decide) (by decide)) ?_
    rw [show ix 0 = 0 from rfl]
    exact y_iret (pc := 127) dX11_count_127 rfl ⟨Nat.le_refl _, Nat.le_refl _⟩ h
  by_cases e8 : w32 (v1) = 8
  · have h := h.2.2.2.2.2.2.2.2.1 e8
    refine x_tabIn (pc := 8) (off := 120) (t := 128) dX11_count_8 8 e8 (by decide) (by decide) rfl (by decide) ?_
    refine x_aload_n (pc := 128) dX11_count_128 rfl rfl ?_
    refine x_getR (pc := 129) (i := r_obj) (a := r_lines) fl_X11_129 dX11_count_129 (sN_r_obj hS) (sT_r_obj hS) rfl (sR_r_obj_40 hS) ?_
    refine x_iconst (pc := 132) dX11_count_132 ?_
    refine y_iald (pc := 133) (i := r_lines) (n := 4) dX11_count_133 (sN_r_lines hS) (sT_r_lines hS) (sL_r_lines hS) (inb_nat (k := 0) (by decide) (by decide)) ?_
    rw [show ix 0 = 0 from rfl]
    exact y_iret (pc := 134) dX11_count_134 rfl ⟨Nat.le_refl _, Nat.le_refl _⟩ h
  by_cases e9 : w32 (v1) = 9
  · have h := h.2.2.2.2.2.2.2.2.2.1 e9
    refine x_tabIn (pc := 8) (off := 127) (t := 135) dX11_count_8 9 e9 (by decide) (by decide) rfl (by decide) ?_
    refine x_iconst (pc := 135) dX11_count_135 ?_
    refine x_istore_n (pc := 136) (L' := [some (vr G r_obj), some (vi (v1)), some (vi (0)), some (vi (0))]) dX11_count_136 rfl (by decide) (xst1 rfl rfl rfl) ?_
    refine x_less (L' := [some (vr G r_obj), none, some (vi (0)), some (vi (0))]) (And.intro rfl (And.intro rfl (And.intro rfl trivial))) ?_
    exact h
  by_cases e10 : w32 (v1) = 10
  · have h := h.2.2.2.2.2.2.2.2.2.2.1 e10
    refine x_tabIn (pc := 8) (off := 174) (t := 182) dX11_count_8 10 e10 (by decide) (by decide) rfl (by decide) ?_
    refine x_iconst (pc := 182) dX11_count_182 ?_
    refine x_istore_n (pc := 183) (L' := [some (vr G r_obj), some (vi (v1)), some (vi (0)), some (vi (0))]) dX11_count_183 rfl (by decide) (xst1 rfl rfl rfl) ?_
    refine x_less (L' := [some (vr G r_obj), none, some (vi (0)), some (vi (0))]) (And.intro rfl (And.intro rfl (And.intro rfl trivial))) ?_
    exact h
  by_cases e11 : w32 (v1) = 11
  · have h := h.2.2.2.2.2.2.2.2.2.2.2.1 e11
    refine x_tabIn (pc := 8) (off := 215) (t := 223) dX11_count_8 11 e11 (by decide) (by decide) rfl (by decide) ?_
    refine x_iconst (pc := 223) dX11_count_223 ?_
    refine x_istore_n (pc := 224) (L' := [some (vr G r_obj), some (vi (v1)), some (vi (0)), some (vi (0))]) dX11_count_224 rfl (by decide) (xst1 rfl rfl rfl) ?_
    refine x_less (L' := [some (vr G r_obj), none, some (vi (0)), some (vi (0))]) (And.intro rfl (And.intro rfl (And.intro rfl trivial))) ?_
    exact h
  have hd9 : w32 (v1) < 0 ∨ 11 < w32 (v1) := by omega
  have h := h.2.2.2.2.2.2.2.2.2.2.2.2 hd9
  refine x_tabOut (pc := 8) (t := 264) dX11_count_8 hd9 (by decide) ?_
  refine x_bipush (pc := 264) dX11_count_264 (by decide) ?_
  exact y_iret (pc := 266) dX11_count_266 rfl ⟨Nat.le_refl _, Nat.le_refl _⟩ h
set_option maxHeartbeats 4000000 in
set_option maxRecDepth 100000 in
theorem b_R_count_k137 {G : XG} {S : XS}  {I : XI} {v2 : Int} {v3 : Int} {R : Int → XI → Prop} (hS : xSh S)  (h : ((w32 (I r_books 0) ≤ w32 (v3) → R (v2) I) ∧ (¬ (w32 (I r_books 0) ≤ w32 (v3)) → R_viewWeek G S I (fun r3 I2 => R_whoHas G S I2 (v3) (I r_now 0) (r3) (fun r5 I4 => ((w32 (r5) = w32 ((-1)) → R_count_k137 G S I4 ((v2) + (0)) (v3 + 1) R) ∧ (¬ (w32 (r5) = w32 ((-1))) → R_count_k137 G S I4 ((v2) + (1)) (v3 + 1) R))))))) : R_count_k137 G S  I v2 v3 R := by
  unfold R_count_k137
  refine x_iload_n (pc := 137) dX11_count_137 rfl rfl ?_
  refine x_aload_n (pc := 138) dX11_count_138 rfl rfl ?_
  refine x_getR (pc := 139) (i := r_obj) (a := r_books) fl_X11_87 dX11_count_139 (sN_r_obj hS) (sT_r_obj hS) rfl (sR_r_obj_26 hS) ?_
  refine x_iconst (pc := 142) dX11_count_142 ?_
  refine y_iald (pc := 143) (i := r_books) (n := 4) dX11_count_143 (sN_r_books hS) (sT_r_books hS) (sL_r_books hS) (inb_nat (k := 0) (by decide) (by decide)) ?_
  rw [show ix 0 = 0 from rfl]
  refine x_icmp_ge (pc := 144) (t := 180) dX11_count_144 (by decide) (fun e => ?_) (fun e => ?_)
  · have h := h.1 e
    refine x_iload_n (pc := 180) dX11_count_180 rfl rfl ?_
    exact y_iret (pc := 181) dX11_count_181 rfl ⟨Nat.le_refl _, Nat.le_refl _⟩ h
  · have h := h.2 e
    refine x_iload_n (pc := 147) dX11_count_147 rfl rfl ?_
    refine x_aload_n (pc := 148) dX11_count_148 rfl rfl ?_
    refine x_iload_n (pc := 149) dX11_count_149 rfl rfl ?_
    refine x_aload_n (pc := 150) dX11_count_150 rfl rfl ?_
    refine x_getR (pc := 151) (i := r_obj) (a := r_now) fl_X11_23 dX11_count_151 (sN_r_obj hS) (sT_r_obj hS) rfl (sR_r_obj_5 hS) ?_
    refine x_iconst (pc := 154) dX11_count_154 ?_
    refine y_iald (pc := 155) (i := r_now) (n := 4) dX11_count_155 (sN_r_now hS) (sT_r_now hS) (sL_r_now hS) (inb_nat (k := 0) (by decide) (by decide)) ?_
    rw [show ix 0 = 0 from rfl]
    refine x_aload_n (pc := 156) dX11_count_156 rfl rfl ?_
    refine y_Vi (pc := 157) (i := r_obj) (As := []) (rest := [vi (I r_now 0), vi (v3), vr G r_obj, vi (v2)]) ok_X11_viewWeek ml_X11_283 dX11_count_157 (sN_r_obj hS) (sT_r_obj hS) (by decide) rfl rfl rfl ⟨rfl, rfl⟩ ⟨by decide, by decide⟩ ⟨Nat.le_refl _, Nat.le_refl _⟩ (Nat.le_of_ble_eq_true rfl) rfl h (fun r3 I2 h => ?_)
    refine y_Vi (pc := 160) (i := r_obj) (As := [vi (v3), vi (I r_now 0), vi (r3)]) (rest := [vi (v2)]) ok_X11_whoHas ml_X11_297 dX11_count_160 (sN_r_obj hS) (sT_r_obj hS) (by decide) rfl rfl rfl ⟨rfl, rfl⟩ ⟨by decide, by decide⟩ ⟨Nat.le_refl _, Nat.le_refl _⟩ (Nat.le_of_ble_eq_true rfl) rfl h (fun r5 I4 h => ?_)
    refine x_iconst (pc := 163) dX11_count_163 ?_
    refine x_icmp_eq (pc := 164) (t := 171) dX11_count_164 (by decide) (fun e => ?_) (fun e => ?_)
    · have h := h.1 e
      refine x_iconst (pc := 171) dX11_count_171 ?_
      refine x_iadd (pc := 172) dX11_count_172 ?_
      refine x_istore_n (pc := 173) (L' := [some (vr G r_obj), none, some (vi ((v2) + (0))), some (vi (v3))]) dX11_count_173 rfl (by decide) (xst1 rfl rfl trivial) ?_
      refine x_iinc (pc := 174) (L' := [some (vr G r_obj), none, some (vi ((v2) + (0))), some (vi (v3 + 1))]) dX11_count_174 rfl (by decide) (xst1 rfl rfl rfl) ?_
      refine x_goto (pc := 177) (t := 137) dX11_count_177 (by decide) ?_
      exact h
    · have h := h.2 e
      refine x_iconst (pc := 167) dX11_count_167 ?_
      refine x_goto (pc := 168) (t := 172) dX11_count_168 (by decide) ?_
      refine x_iadd (pc := 172) dX11_count_172 ?_
      refine x_istore_n (pc := 173) (L' := [some (vr G r_obj), none, some (vi ((v2) + (1))), some (vi (v3))]) dX11_count_173 rfl (by decide) (xst1 rfl rfl trivial) ?_
      refine x_iinc (pc := 174) (L' := [some (vr G r_obj), none, some (vi ((v2) + (1))), some (vi (v3 + 1))]) dX11_count_174 rfl (by decide) (xst1 rfl rfl rfl) ?_
      refine x_goto (pc := 177) (t := 137) dX11_count_177 (by decide) ?_
      exact h
set_option maxHeartbeats 4000000 in
set_option maxRecDepth 100000 in
theorem b_R_count_k184 {G : XG} {S : XS}  {I : XI} {v2 : Int} {v3 : Int} {R : Int → XI → Prop} (hS : xSh S)  (h : ((w32 (I r_newsMany 0) ≤ w32 (v3) → R (v2) I) ∧ (¬ (w32 (I r_newsMany 0) ≤ w32 (v3)) → (inb (v3) 240 ∧ R_viewWeek G S I (fun r7 I6 => ((w32 (r7) < w32 (I r_newsTold (ix (v3))) → R_count_k184 G S I6 ((v2) + (0)) (v3 + 1) R) ∧ (¬ (w32 (r7) < w32 (I r_newsTold (ix (v3)))) → R_count_k184 G S I6 ((v2) + (1)) (v3 + 1) R))))))) : R_count_k184 G S  I v2 v3 R := by
  unfold R_count_k184
  refine x_iload_n (pc := 184) dX11_count_184 rfl rfl ?_
  refine x_aload_n (pc := 185) dX11_count_185 rfl rfl ?_
  refine x_getR (pc := 186) (i := r_obj) (a := r_newsMany) fl_X11_69 dX11_count_186 (sN_r_obj hS) (sT_r_obj hS) rfl (sR_r_obj_20 hS) ?_
  refine x_iconst (pc := 189) dX11_count_189 ?_
  refine y_iald (pc := 190) (i := r_newsMany) (n := 4) dX11_count_190 (sN_r_newsMany hS) (sT_r_newsMany hS) (sL_r_newsMany hS) (inb_nat (k := 0) (by decide) (by decide)) ?_
  rw [show ix 0 = 0 from rfl]
  refine x_icmp_ge (pc := 191) (t := 221) dX11_count_191 (by decide) (fun e => ?_) (fun e => ?_)
  · have h := h.1 e
    refine x_iload_n (pc := 221) dX11_count_221 rfl rfl ?_
    exact y_iret (pc := 222) dX11_count_222 rfl ⟨Nat.le_refl _, Nat.le_refl _⟩ h
  · have h := h.2 e
    refine x_iload_n (pc := 194) dX11_count_194 rfl rfl ?_
    refine x_aload_n (pc := 195) dX11_count_195 rfl rfl ?_
    refine x_getR (pc := 196) (i := r_obj) (a := r_newsTold) fl_X11_84 dX11_count_196 (sN_r_obj hS) (sT_r_obj hS) rfl (sR_r_obj_25 hS) ?_
    refine x_iload_n (pc := 199) dX11_count_199 rfl rfl ?_
    refine y_iald (pc := 200) (i := r_newsTold) (n := 240) dX11_count_200 (sN_r_newsTold hS) (sT_r_newsTold hS) (sL_r_newsTold hS) h.1 ?_
    have h := h.2
    refine x_aload_n (pc := 201) dX11_count_201 rfl rfl ?_
    refine y_Vi (pc := 202) (i := r_obj) (As := []) (rest := [vi (I r_newsTold (ix (v3))), vi (v2)]) ok_X11_viewWeek ml_X11_283 dX11_count_202 (sN_r_obj hS) (sT_r_obj hS) (by decide) rfl rfl rfl ⟨rfl, rfl⟩ ⟨by decide, by decide⟩ ⟨Nat.le_refl _, Nat.le_refl _⟩ (Nat.le_of_ble_eq_true rfl) rfl h (fun r7 I6 h => ?_)
    refine x_icmp_gt (pc := 205) (t := 212) dX11_count_205 (by decide) (fun e => ?_) (fun e => ?_)
    · have h := h.1 e
      refine x_iconst (pc := 212) dX11_count_212 ?_
      refine x_iadd (pc := 213) dX11_count_213 ?_
      refine x_istore_n (pc := 214) (L' := [some (vr G r_obj), none, some (vi ((v2) + (0))), some (vi (v3))]) dX11_count_214 rfl (by decide) (xst1 rfl rfl trivial) ?_
      refine x_iinc (pc := 215) (L' := [some (vr G r_obj), none, some (vi ((v2) + (0))), some (vi (v3 + 1))]) dX11_count_215 rfl (by decide) (xst1 rfl rfl rfl) ?_
      refine x_goto (pc := 218) (t := 184) dX11_count_218 (by decide) ?_
      exact h
    · have h := h.2 e
      refine x_iconst (pc := 208) dX11_count_208 ?_
      refine x_goto (pc := 209) (t := 213) dX11_count_209 (by decide) ?_
      refine x_iadd (pc := 213) dX11_count_213 ?_
      refine x_istore_n (pc := 214) (L' := [some (vr G r_obj), none, some (vi ((v2) + (1))), some (vi (v3))]) dX11_count_214 rfl (by decide) (xst1 rfl rfl trivial) ?_
      refine x_iinc (pc := 215) (L' := [some (vr G r_obj), none, some (vi ((v2) + (1))), some (vi (v3 + 1))]) dX11_count_215 rfl (by decide) (xst1 rfl rfl rfl) ?_
      refine x_goto (pc := 218) (t := 184) dX11_count_218 (by decide) ?_
      exact h
set_option maxHeartbeats 4000000 in
set_option maxRecDepth 100000 in
theorem b_R_count_k225 {G : XG} {S : XS}  {I : XI} {v2 : Int} {v3 : Int} {R : Int → XI → Prop} (hS : xSh S)  (h : ((w32 (I r_acts 0) ≤ w32 (v3) → R (v2) I) ∧ (¬ (w32 (I r_acts 0) ≤ w32 (v3)) → (inb (v3) 600 ∧ R_viewWeek G S I (fun r9 I8 => ((w32 (r9) < w32 (I r_actTold (ix (v3))) → R_count_k225 G S I8 ((v2) + (0)) (v3 + 1) R) ∧ (¬ (w32 (r9) < w32 (I r_actTold (ix (v3)))) → R_count_k225 G S I8 ((v2) + (1)) (v3 + 1) R))))))) : R_count_k225 G S  I v2 v3 R := by
  unfold R_count_k225
  refine x_iload_n (pc := 225) dX11_count_225 rfl rfl ?_
  refine x_aload_n (pc := 226) dX11_count_226 rfl rfl ?_
  refine x_getR (pc := 227) (i := r_obj) (a := r_acts) fl_X11_105 dX11_count_227 (sN_r_obj hS) (sT_r_obj hS) rfl (sR_r_obj_32 hS) ?_
  refine x_iconst (pc := 230) dX11_count_230 ?_
  refine y_iald (pc := 231) (i := r_acts) (n := 4) dX11_count_231 (sN_r_acts hS) (sT_r_acts hS) (sL_r_acts hS) (inb_nat (k := 0) (by decide) (by decide)) ?_
  rw [show ix 0 = 0 from rfl]
  refine x_icmp_ge (pc := 232) (t := 262) dX11_count_232 (by decide) (fun e => ?_) (fun e => ?_)
  · have h := h.1 e
    refine x_iload_n (pc := 262) dX11_count_262 rfl rfl ?_
    exact y_iret (pc := 263) dX11_count_263 rfl ⟨Nat.le_refl _, Nat.le_refl _⟩ h
  · have h := h.2 e
    refine x_iload_n (pc := 235) dX11_count_235 rfl rfl ?_
    refine x_aload_n (pc := 236) dX11_count_236 rfl rfl ?_
    refine x_getR (pc := 237) (i := r_obj) (a := r_actTold) fl_X11_120 dX11_count_237 (sN_r_obj hS) (sT_r_obj hS) rfl (sR_r_obj_37 hS) ?_
    refine x_iload_n (pc := 240) dX11_count_240 rfl rfl ?_
    refine y_iald (pc := 241) (i := r_actTold) (n := 600) dX11_count_241 (sN_r_actTold hS) (sT_r_actTold hS) (sL_r_actTold hS) h.1 ?_
    have h := h.2
    refine x_aload_n (pc := 242) dX11_count_242 rfl rfl ?_
    refine y_Vi (pc := 243) (i := r_obj) (As := []) (rest := [vi (I r_actTold (ix (v3))), vi (v2)]) ok_X11_viewWeek ml_X11_283 dX11_count_243 (sN_r_obj hS) (sT_r_obj hS) (by decide) rfl rfl rfl ⟨rfl, rfl⟩ ⟨by decide, by decide⟩ ⟨Nat.le_refl _, Nat.le_refl _⟩ (Nat.le_of_ble_eq_true rfl) rfl h (fun r9 I8 h => ?_)
    refine x_icmp_gt (pc := 246) (t := 253) dX11_count_246 (by decide) (fun e => ?_) (fun e => ?_)
    · have h := h.1 e
      refine x_iconst (pc := 253) dX11_count_253 ?_
      refine x_iadd (pc := 254) dX11_count_254 ?_
      refine x_istore_n (pc := 255) (L' := [some (vr G r_obj), none, some (vi ((v2) + (0))), some (vi (v3))]) dX11_count_255 rfl (by decide) (xst1 rfl rfl trivial) ?_
      refine x_iinc (pc := 256) (L' := [some (vr G r_obj), none, some (vi ((v2) + (0))), some (vi (v3 + 1))]) dX11_count_256 rfl (by decide) (xst1 rfl rfl rfl) ?_
      refine x_goto (pc := 259) (t := 225) dX11_count_259 (by decide) ?_
      exact h
    · have h := h.2 e
      refine x_iconst (pc := 249) dX11_count_249 ?_
      refine x_goto (pc := 250) (t := 254) dX11_count_250 (by decide) ?_
      refine x_iadd (pc := 254) dX11_count_254 ?_
      refine x_istore_n (pc := 255) (L' := [some (vr G r_obj), none, some (vi ((v2) + (1))), some (vi (v3))]) dX11_count_255 rfl (by decide) (xst1 rfl rfl trivial) ?_
      refine x_iinc (pc := 256) (L' := [some (vr G r_obj), none, some (vi ((v2) + (1))), some (vi (v3 + 1))]) dX11_count_256 rfl (by decide) (xst1 rfl rfl rfl) ?_
      refine x_goto (pc := 259) (t := 225) dX11_count_259 (by decide) ?_
      exact h
set_option maxHeartbeats 4000000 in
set_option maxRecDepth 100000 in
theorem b_R_daysOf {G : XG} {S : XS} {I : XI} {v1 : Int} {R : Int → XI → Prop} (hS : xSh S)  (h : ((w32 (v1) = 0 → R_daysOf_k14 G S I (v1) (0) (1) R) ∧ (¬ (w32 (v1) = 0) → R_daysOf_k14 G S I (v1) (1000000) (1) R))) : R_daysOf G S I v1 R := by
  refine x_start [some (vr G r_obj), some (vi (v1)), none, none] (by decide) (Nat.le_of_ble_eq_true rfl) rfl ?_
  refine x_iload_n (pc := 0) dX11_daysOf_0 rfl rfl ?_
  refine x_if_ne (pc := 1) (t := 8) dX11_daysOf_1 (by decide) (fun e => ?_) (fun e => ?_)
  · have h := h.1 e
    refine x_iconst (pc := 4) dX11_daysOf_4 ?_
    refine x_goto (pc := 5) (t := 11) dX11_daysOf_5 (by decide) ?_
    refine x_istore_n (pc := 11) (L' := [some (vr G r_obj), some (vi (v1)), some (vi (0)), none]) dX11_daysOf_11 rfl (by decide) (xst1 rfl rfl rfl) ?_
    refine x_iconst (pc := 12) dX11_daysOf_12 ?_
    refine x_istore_n (pc := 13) (L' := [some (vr G r_obj), some (vi (v1)), some (vi (0)), some (vi (1))]) dX11_daysOf_13 rfl (by decide) (xst1 rfl rfl rfl) ?_
    exact h
  · have h := h.2 e
    refine x_ldcw (pc := 8) (z := 1000000) dX11_daysOf_8 ko_X11_256 rfl ?_
    refine x_istore_n (pc := 11) (L' := [some (vr G r_obj), some (vi (v1)), some (vi (1000000)), none]) dX11_daysOf_11 rfl (by decide) (xst1 rfl rfl rfl) ?_
    refine x_iconst (pc := 12) dX11_daysOf_12 ?_
    refine x_istore_n (pc := 13) (L' := [some (vr G r_obj), some (vi (v1)), some (vi (1000000)), some (vi (1))]) dX11_daysOf_13 rfl (by decide) (xst1 rfl rfl rfl) ?_
    exact h
set_option maxHeartbeats 4000000 in
set_option maxRecDepth 100000 in
theorem b_R_daysOf_k14 {G : XG} {S : XS}  {I : XI} {v1 : Int} {v2 : Int} {v3 : Int} {R : Int → XI → Prop} (hS : xSh S)  (h : ((w32 (10) ≤ w32 (v3) → R (v2) I) ∧ (¬ (w32 (10) ≤ w32 (v3)) → ((w32 (iand (ishr (v1) ((v3) - (1))) (1)) = 0 → R_daysOf_k14 G S I (v1) (v2) (v3 + 1) R) ∧ (¬ (w32 (iand (ishr (v1) ((v3) - (1))) (1)) = 0) → (inb (((10) * (v1)) + (v3)) 5120 ∧ (inb (v3) 100 ∧ R_cheaper G S I (v2) ((I r_least (ix (((10) * (v1)) + (v3)))) + (I r_far (ix (v3)))) (fun r2 I1 => R_daysOf_k14 G S I1 (v1) (r2) (v3 + 1) R)))))))) : R_daysOf_k14 G S  I v1 v2 v3 R := by
  unfold R_daysOf_k14
  refine x_iload_n (pc := 14) dX11_daysOf_14 rfl rfl ?_
  refine x_bipush (pc := 15) dX11_daysOf_15 (by decide) ?_
  refine x_icmp_ge (pc := 17) (t := 59) dX11_daysOf_17 (by decide) (fun e => ?_) (fun e => ?_)
  · have h := h.1 e
    refine x_iload_n (pc := 59) dX11_daysOf_59 rfl rfl ?_
    exact y_iret (pc := 60) dX11_daysOf_60 rfl ⟨Nat.le_refl _, Nat.le_refl _⟩ h
  · have h := h.2 e
    refine x_iload_n (pc := 20) dX11_daysOf_20 rfl rfl ?_
    refine x_iload_n (pc := 21) dX11_daysOf_21 rfl rfl ?_
    refine x_iconst (pc := 22) dX11_daysOf_22 ?_
    refine x_isub (pc := 23) dX11_daysOf_23 ?_
    refine x_ishr (pc := 24) dX11_daysOf_24 ?_
    refine x_iconst (pc := 25) dX11_daysOf_25 ?_
    refine x_iand (pc := 26) dX11_daysOf_26 ?_
    refine x_if_eq (pc := 27) (t := 53) dX11_daysOf_27 (by decide) (fun e => ?_) (fun e => ?_)
    · have h := h.1 e
      refine x_iinc (pc := 53) (L' := [some (vr G r_obj), some (vi (v1)), some (vi (v2)), some (vi (v3 + 1))]) dX11_daysOf_53 rfl (by decide) (xst1 rfl rfl rfl) ?_
      refine x_goto (pc := 56) (t := 14) dX11_daysOf_56 (by decide) ?_
      exact h
    · have h := h.2 e
      refine x_iload_n (pc := 30) dX11_daysOf_30 rfl rfl ?_
      refine x_aload_n (pc := 31) dX11_daysOf_31 rfl rfl ?_
      refine x_getR (pc := 32) (i := r_obj) (a := r_least) fl_X11_208 dX11_daysOf_32 (sN_r_obj hS) (sT_r_obj hS) rfl (sR_r_obj_77 hS) ?_
      refine x_bipush (pc := 35) dX11_daysOf_35 (by decide) ?_
      refine x_iload_n (pc := 37) dX11_daysOf_37 rfl rfl ?_
      refine x_imul (pc := 38) dX11_daysOf_38 ?_
      refine x_iload_n (pc := 39) dX11_daysOf_39 rfl rfl ?_
      refine x_iadd (pc := 40) dX11_daysOf_40 ?_
      refine y_iald (pc := 41) (i := r_least) (n := 5120) dX11_daysOf_41 (sN_r_least hS) (sT_r_least hS) (sL_r_least hS) h.1 ?_
      have h := h.2
      refine x_aload_n (pc := 42) dX11_daysOf_42 rfl rfl ?_
      refine x_getR (pc := 43) (i := r_obj) (a := r_far) fl_X11_205 dX11_daysOf_43 (sN_r_obj hS) (sT_r_obj hS) rfl (sR_r_obj_76 hS) ?_
      refine x_iload_n (pc := 46) dX11_daysOf_46 rfl rfl ?_
      refine y_iald (pc := 47) (i := r_far) (n := 100) dX11_daysOf_47 (sN_r_far hS) (sT_r_far hS) (sL_r_far hS) h.1 ?_
      have h := h.2
      refine x_iadd (pc := 48) dX11_daysOf_48 ?_
      refine y_Si (pc := 49) (As := [vi (v2), vi ((I r_least (ix (((10) * (v1)) + (v3)))) + (I r_far (ix (v3))))]) (rest := []) ok_X11_cheaper ml_X11_430 dX11_daysOf_49 rfl ⟨rfl, rfl⟩ ⟨by decide, by decide⟩ ⟨Nat.le_refl _, Nat.le_refl _⟩ (Nat.le_of_ble_eq_true rfl) rfl h (fun r2 I1 h => ?_)
      refine x_istore_n (pc := 52) (L' := [some (vr G r_obj), some (vi (v1)), some (vi (r2)), some (vi (v3))]) dX11_daysOf_52 rfl (by decide) (xst1 rfl rfl rfl) ?_
      refine x_iinc (pc := 53) (L' := [some (vr G r_obj), some (vi (v1)), some (vi (r2)), some (vi (v3 + 1))]) dX11_daysOf_53 rfl (by decide) (xst1 rfl rfl rfl) ?_
      refine x_goto (pc := 56) (t := 14) dX11_daysOf_56 (by decide) ?_
      exact h
set_option maxHeartbeats 4000000 in
set_option maxRecDepth 100000 in
theorem b_R_dry {G : XG} {S : XS} {I : XI} {v1 : Int} {v2 : Int} {R : Int → XI → Prop} (hS : xSh S)  (h : (∀ I1 : XI, I1 = up I r_obj 0 (0) → R_isWeek G S I1 (v1) (fun r3 I2 => ((w32 (r3) = 0 → R (0) I2) ∧ (¬ (w32 (r3) = 0) → (inb (v1) 400 ∧ ((w32 (I2 r_dryWeek (ix (v1))) = w32 (v2) → R (0) I2) ∧ (¬ (w32 (I2 r_dryWeek (ix (v1))) = w32 (v2)) → (((v2) = 0 ∨ (v2) = 1) ∧ (inb (v1) 400 ∧ (∀ I4 : XI, I4 = up I2 r_dryWeek (ix (v1)) (v2) → R (1) I4))))))))))) : R_dry G S I v1 v2 R := by
  refine x_start [some (vr G r_obj), some (vi (v1)), some (vi (v2))] (by decide) (Nat.le_of_ble_eq_true rfl) rfl ?_
  refine x_aload_n (pc := 0) dX11_dry_0 rfl rfl ?_
  refine x_iconst (pc := 1) dX11_dry_1 ?_
  refine x_putI (pc := 2) (i := r_obj) fl_X11_220 dX11_dry_2 (sN_r_obj hS) (sT_r_obj hS) rfl ?_
  have h := h _ rfl
  generalize up I r_obj 0 (0) = I1 at h ⊢
  refine x_iload_n (pc := 5) dX11_dry_5 rfl rfl ?_
  refine y_Si (pc := 6) (As := [vi (v1)]) (rest := []) ok_X11_isWeek ml_X11_240 dX11_dry_6 rfl ⟨rfl, rfl⟩ ⟨by decide, by decide⟩ ⟨Nat.le_refl _, Nat.le_refl _⟩ (Nat.le_of_ble_eq_true rfl) rfl h (fun r3 I2 h => ?_)
  refine x_if_eq (pc := 9) (t := 22) dX11_dry_9 (by decide) (fun e => ?_) (fun e => ?_)
  · have h := h.1 e
    refine x_iconst (pc := 22) dX11_dry_22 ?_
    exact y_zret (pc := 23) dX11_dry_23 rfl ⟨Nat.le_refl _, Nat.le_refl _⟩ (Or.inl rfl) h
  · have h := h.2 e
    refine x_aload_n (pc := 12) dX11_dry_12 rfl rfl ?_
    refine x_getR (pc := 13) (i := r_obj) (a := r_dryWeek) fl_X11_66 dX11_dry_13 (sN_r_obj hS) (sT_r_obj hS) rfl (sR_r_obj_19 hS) ?_
    refine x_iload_n (pc := 16) dX11_dry_16 rfl rfl ?_
    refine y_zald (pc := 17) (i := r_dryWeek) (n := 400) dX11_dry_17 (sN_r_dryWeek hS) (sT_r_dryWeek hS) (sL_r_dryWeek hS) h.1 ?_
    have h := h.2
    refine x_iload_n (pc := 18) dX11_dry_18 rfl rfl ?_
    refine x_icmp_ne (pc := 19) (t := 24) dX11_dry_19 (by decide) (fun e => ?_) (fun e => ?_)
    · have h := h.1 e
      refine x_iconst (pc := 22) dX11_dry_22 ?_
      exact y_zret (pc := 23) dX11_dry_23 rfl ⟨Nat.le_refl _, Nat.le_refl _⟩ (Or.inl rfl) h
    · have h := h.2 e
      refine x_aload_n (pc := 24) dX11_dry_24 rfl rfl ?_
      refine x_getR (pc := 25) (i := r_obj) (a := r_dryWeek) fl_X11_66 dX11_dry_25 (sN_r_obj hS) (sT_r_obj hS) rfl (sR_r_obj_19 hS) ?_
      refine x_iload_n (pc := 28) dX11_dry_28 rfl rfl ?_
      refine x_iload_n (pc := 29) dX11_dry_29 rfl rfl ?_
      have hz := h.1
      have h := h.2
      refine y_zast (pc := 30) (i := r_dryWeek) (n := 400) dX11_dry_30 (sN_r_dryWeek hS) (sT_r_dryWeek hS) (sL_r_dryWeek hS) h.1 hz ?_
      have h := h.2
      have h := h _ rfl
      generalize up I2 r_dryWeek (ix (v1)) (v2) = I4 at h ⊢
      refine x_iconst (pc := 31) dX11_dry_31 ?_
      exact y_zret (pc := 32) dX11_dry_32 rfl ⟨Nat.le_refl _, Nat.le_refl _⟩ (Or.inr rfl) h
