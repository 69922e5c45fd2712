set_option maxHeartbeats 4000000 in
set_option maxRecDepth 100000 in
theorem b_R_due {G : XG} {S : XS} {I : XI} {v1 : Int} {v2 : Int} {R : Int → XI → Prop} (hS : xSh S)  (h : (∀ I1 : XI, I1 = up I r_obj 0 (0) → R_isBook G S I1 (v1) (fun r3 I2 => ((w32 (r3) = 0 → R ((-1)) I2) ∧ (¬ (w32 (r3) = 0) → R_isWeek G S I2 (v2) (fun r5 I4 => ((w32 (r5) = 0 → R ((-1)) I4) ∧ (¬ (w32 (r5) = 0) → R_viewWeek G S I4 (fun r7 I6 => R_dueOf G S I6 (v1) (v2) (r7) (fun r9 I8 => R (r9) I8)))))))))) : R_due G S I v1 v2 R := by
  refine x_start [some (vr G r_obj), some (vi (v1)), some (vi (v2))] (by decide) (Nat.le_of_ble_eq_true rfl) rfl ?_
  refine x_aload_n (pc := 0) dX11_due_0 rfl rfl ?_
  refine x_iconst (pc := 1) dX11_due_1 ?_
  refine x_putI (pc := 2) (i := r_obj) fl_X11_220 dX11_due_2 (sN_r_obj hS) (sT_r_obj hS) rfl ?_
  have h := h _ rfl
  generalize up I r_obj 0 (0) = I1 at h ⊢
  refine x_aload_n (pc := 5) dX11_due_5 rfl rfl ?_
  refine x_iload_n (pc := 6) dX11_due_6 rfl rfl ?_
  refine y_Vi (pc := 7) (i := r_obj) (As := [vi (v1)]) (rest := []) ok_X11_isBook ml_X11_317 dX11_due_7 (sN_r_obj hS) (sT_r_obj hS) (by decide) rfl rfl rfl ⟨rfl, rfl⟩ ⟨by decide, by decide⟩ ⟨Nat.le_refl _, Nat.le_refl _⟩ (Nat.le_of_ble_eq_true rfl) rfl h (fun r3 I2 h => ?_)
  refine x_if_eq (pc := 10) (t := 33) dX11_due_10 (by decide) (fun e => ?_) (fun e => ?_)
  · have h := h.1 e
    refine x_iconst (pc := 33) dX11_due_33 ?_
    exact y_iret (pc := 34) dX11_due_34 rfl ⟨Nat.le_refl _, Nat.le_refl _⟩ h
  · have h := h.2 e
    refine x_iload_n (pc := 13) dX11_due_13 rfl rfl ?_
    refine y_Si (pc := 14) (As := [vi (v2)]) (rest := []) ok_X11_isWeek ml_X11_240 dX11_due_14 rfl ⟨rfl, rfl⟩ ⟨by decide, by decide⟩ ⟨Nat.le_refl _, Nat.le_refl _⟩ (Nat.le_of_ble_eq_true rfl) rfl h (fun r5 I4 h => ?_)
    refine x_if_eq (pc := 17) (t := 33) dX11_due_17 (by decide) (fun e => ?_) (fun e => ?_)
    · have h := h.1 e
      refine x_iconst (pc := 33) dX11_due_33 ?_
      exact y_iret (pc := 34) dX11_due_34 rfl ⟨Nat.le_refl _, Nat.le_refl _⟩ h
    · have h := h.2 e
      refine x_aload_n (pc := 20) dX11_due_20 rfl rfl ?_
      refine x_iload_n (pc := 21) dX11_due_21 rfl rfl ?_
      refine x_iload_n (pc := 22) dX11_due_22 rfl rfl ?_
      refine x_aload_n (pc := 23) dX11_due_23 rfl rfl ?_
      refine y_Vi (pc := 24) (i := r_obj) (As := []) (rest := [vi (v2), vi (v1), vr G r_obj]) ok_X11_viewWeek ml_X11_283 dX11_due_24 (sN_r_obj hS) (sT_r_obj hS) (by decide) rfl rfl rfl ⟨rfl, rfl⟩ ⟨by decide, by decide⟩ ⟨Nat.le_refl _, Nat.le_refl _⟩ (Nat.le_of_ble_eq_true rfl) rfl h (fun r7 I6 h => ?_)
      refine y_Vi (pc := 27) (i := r_obj) (As := [vi (v1), vi (v2), vi (r7)]) (rest := []) ok_X11_dueOf ml_X11_300 dX11_due_27 (sN_r_obj hS) (sT_r_obj hS) (by decide) rfl rfl rfl ⟨rfl, rfl⟩ ⟨by decide, by decide⟩ ⟨Nat.le_refl _, Nat.le_refl _⟩ (Nat.le_of_ble_eq_true rfl) rfl h (fun r9 I8 h => ?_)
      refine x_goto (pc := 30) (t := 34) dX11_due_30 (by decide) ?_
      exact y_iret (pc := 34) dX11_due_34 rfl ⟨Nat.le_refl _, Nat.le_refl _⟩ h
set_option maxHeartbeats 4000000 in
set_option maxRecDepth 100000 in
theorem b_R_dueOf {G : XG} {S : XS} {I : XI} {v1 : Int} {v2 : Int} {v3 : Int} {R : Int → XI → Prop} (hS : xSh S)  (h : R_whoHas G S I (v1) (v2) (v3) (fun r2 I1 => ((w32 (r2) = w32 ((-1)) → R ((-1)) I1) ∧ (¬ (w32 (r2) = w32 ((-1))) → R_lastAct G S I1 (v1) (v2) (v3) (1) (fun r4 I3 => ((w32 (r4) = w32 ((-1)) → R ((-2)) I3) ∧ (¬ (w32 (r4) = w32 ((-1))) → (inb (r4) 600 ∧ (inb (r4) 600 ∧ R_dueOf_k50 G S I3 (I3 r_actMany (ix (r4))) (I3 r_actWeek (ix (r4))) R))))))))) : R_dueOf G S I v1 v2 v3 R := by
  refine x_start [some (vr G r_obj), some (vi (v1)), some (vi (v2)), some (vi (v3)), none, none, none] (by decide) (Nat.le_of_ble_eq_true rfl) rfl ?_
  refine x_aload_n (pc := 0) dX11_dueOf_0 rfl rfl ?_
  refine x_iload_n (pc := 1) dX11_dueOf_1 rfl rfl ?_
  refine x_iload_n (pc := 2) dX11_dueOf_2 rfl rfl ?_
  refine x_iload_n (pc := 3) dX11_dueOf_3 rfl rfl ?_
  refine y_Vi (pc := 4) (i := r_obj) (As := [vi (v1), vi (v2), vi (v3)]) (rest := []) ok_X11_whoHas ml_X11_297 dX11_dueOf_4 (sN_r_obj hS) (sT_r_obj hS) (by decide) rfl rfl rfl ⟨rfl, rfl⟩ ⟨by decide, by decide⟩ ⟨Nat.le_refl _, Nat.le_refl _⟩ (Nat.le_of_ble_eq_true rfl) rfl h (fun r2 I1 h => ?_)
  refine x_iconst (pc := 7) dX11_dueOf_7 ?_
  refine x_icmp_ne (pc := 8) (t := 13) dX11_dueOf_8 (by decide) (fun e => ?_) (fun e => ?_)
  · have h := h.1 e
    refine x_iconst (pc := 11) dX11_dueOf_11 ?_
    exact y_iret (pc := 12) dX11_dueOf_12 rfl ⟨Nat.le_refl _, Nat.le_refl _⟩ h
  · have h := h.2 e
    refine x_aload_n (pc := 13) dX11_dueOf_13 rfl rfl ?_
    refine x_iload_n (pc := 14) dX11_dueOf_14 rfl rfl ?_
    refine x_iload_n (pc := 15) dX11_dueOf_15 rfl rfl ?_
    refine x_iload_n (pc := 16) dX11_dueOf_16 rfl rfl ?_
    refine x_iconst (pc := 17) dX11_dueOf_17 ?_
    refine y_Vi (pc := 18) (i := r_obj) (As := [vi (v1), vi (v2), vi (v3), vi (1)]) (rest := []) ok_X11_lastAct ml_X11_293 dX11_dueOf_18 (sN_r_obj hS) (sT_r_obj hS) (by decide) rfl rfl rfl ⟨rfl, rfl⟩ ⟨by decide, by decide⟩ ⟨Nat.le_refl _, Nat.le_refl _⟩ (Nat.le_of_ble_eq_true rfl) rfl h (fun r4 I3 h => ?_)
    refine x_istore (pc := 21) (L' := [some (vr G r_obj), some (vi (v1)), some (vi (v2)), some (vi (v3)), some (vi (r4)), none, none]) dX11_dueOf_21 (by decide) (xst1 rfl rfl rfl) ?_
    refine x_iload (pc := 23) dX11_dueOf_23 rfl ?_
    refine x_iconst (pc := 25) dX11_dueOf_25 ?_
    refine x_icmp_ne (pc := 26) (t := 32) dX11_dueOf_26 (by decide) (fun e => ?_) (fun e => ?_)
    · have h := h.1 e
      refine x_bipush (pc := 29) dX11_dueOf_29 (by decide) ?_
      exact y_iret (pc := 31) dX11_dueOf_31 rfl ⟨Nat.le_refl _, Nat.le_refl _⟩ h
    · have h := h.2 e
      refine x_aload_n (pc := 32) dX11_dueOf_32 rfl rfl ?_
      refine x_getR (pc := 33) (i := r_obj) (a := r_actMany) fl_X11_123 dX11_dueOf_33 (sN_r_obj hS) (sT_r_obj hS) rfl (sR_r_obj_38 hS) ?_
      refine x_iload (pc := 36) dX11_dueOf_36 rfl ?_
      refine y_iald (pc := 38) (i := r_actMany) (n := 600) dX11_dueOf_38 (sN_r_actMany hS) (sT_r_actMany hS) (sL_r_actMany hS) h.1 ?_
      have h := h.2
      refine x_istore (pc := 39) (L' := [some (vr G r_obj), some (vi (v1)), some (vi (v2)), some (vi (v3)), some (vi (r4)), some (vi (I3 r_actMany (ix (r4)))), none]) dX11_dueOf_39 (by decide) (xst1 rfl rfl rfl) ?_
      refine x_aload_n (pc := 41) dX11_dueOf_41 rfl rfl ?_
      refine x_getR (pc := 42) (i := r_obj) (a := r_actWeek) fl_X11_117 dX11_dueOf_42 (sN_r_obj hS) (sT_r_obj hS) rfl (sR_r_obj_36 hS) ?_
      refine x_iload (pc := 45) dX11_dueOf_45 rfl ?_
      refine y_iald (pc := 47) (i := r_actWeek) (n := 600) dX11_dueOf_47 (sN_r_actWeek hS) (sT_r_actWeek hS) (sL_r_actWeek hS) h.1 ?_
      have h := h.2
      refine x_istore (pc := 48) (L' := [some (vr G r_obj), some (vi (v1)), some (vi (v2)), some (vi (v3)), some (vi (r4)), some (vi (I3 r_actMany (ix (r4)))), some (vi (I3 r_actWeek (ix (r4))))]) dX11_dueOf_48 (by decide) (xst1 rfl rfl rfl) ?_
      refine x_less (L' := [some (vr G r_obj), none, none, none, none, some (vi (I3 r_actMany (ix (r4)))), some (vi (I3 r_actWeek (ix (r4))))]) (And.intro rfl (And.intro rfl (And.intro rfl trivial))) ?_
      exact h
set_option maxHeartbeats 4000000 in
set_option maxRecDepth 100000 in
theorem b_R_dueOf_k50 {G : XG} {S : XS}  {I : XI} {v5 : Int} {v6 : Int} {R : Int → XI → Prop} (hS : xSh S)  (h : ((w32 (v5) ≤ 0 → R (v6) I) ∧ (¬ (w32 (v5) ≤ 0) → ((w32 (100) ≤ w32 (v6) → R (v6) I) ∧ (¬ (w32 (100) ≤ w32 (v6)) → ((w32 (100) ≤ w32 (v6 + 1) → R_dueOf_k50 G S I ((v5) - (0)) (v6 + 1) R) ∧ (¬ (w32 (100) ≤ w32 (v6 + 1)) → (inb (v6 + 1) 400 ∧ ((w32 (I r_dryWeek (ix (v6 + 1))) = 0 → R_dueOf_k50 G S I ((v5) - (1)) (v6 + 1) R) ∧ (¬ (w32 (I r_dryWeek (ix (v6 + 1))) = 0) → R_dueOf_k50 G S I ((v5) - (0)) (v6 + 1) R)))))))))) : R_dueOf_k50 G S  I v5 v6 R := by
  unfold R_dueOf_k50
  refine x_iload (pc := 50) dX11_dueOf_50 rfl ?_
  refine x_if_le (pc := 52) (t := 95) dX11_dueOf_52 (by decide) (fun e => ?_) (fun e => ?_)
  · have h := h.1 e
    refine x_iload (pc := 95) dX11_dueOf_95 rfl ?_
    exact y_iret (pc := 97) dX11_dueOf_97 rfl ⟨Nat.le_refl _, Nat.le_refl _⟩ h
  · have h := h.2 e
    refine x_iload (pc := 55) dX11_dueOf_55 rfl ?_
    refine x_bipush (pc := 57) dX11_dueOf_57 (by decide) ?_
    refine x_icmp_ge (pc := 59) (t := 95) dX11_dueOf_59 (by decide) (fun e => ?_) (fun e => ?_)
    · have h := h.1 e
      refine x_iload (pc := 95) dX11_dueOf_95 rfl ?_
      exact y_iret (pc := 97) dX11_dueOf_97 rfl ⟨Nat.le_refl _, Nat.le_refl _⟩ h
    · have h := h.2 e
      refine x_iinc (pc := 62) (L' := [some (vr G r_obj), none, none, none, none, some (vi (v5)), some (vi (v6 + 1))]) dX11_dueOf_62 rfl (by decide) (xst1 rfl rfl rfl) ?_
      refine x_iload (pc := 65) dX11_dueOf_65 rfl ?_
      refine x_iload (pc := 67) dX11_dueOf_67 rfl ?_
      refine x_bipush (pc := 69) dX11_dueOf_69 (by decide) ?_
      refine x_icmp_ge (pc := 71) (t := 88) dX11_dueOf_71 (by decide) (fun e => ?_) (fun e => ?_)
      · have h := h.1 e
        refine x_iconst (pc := 88) dX11_dueOf_88 ?_
        refine x_isub (pc := 89) dX11_dueOf_89 ?_
        refine x_istore (pc := 90) (L' := [some (vr G r_obj), none, none, none, none, some (vi ((v5) - (0))), some (vi (v6 + 1))]) dX11_dueOf_90 (by decide) (xst1 rfl rfl trivial) ?_
        refine x_goto (pc := 92) (t := 50) dX11_dueOf_92 (by decide) ?_
        exact h
      · have h := h.2 e
        refine x_aload_n (pc := 74) dX11_dueOf_74 rfl rfl ?_
        refine x_getR (pc := 75) (i := r_obj) (a := r_dryWeek) fl_X11_66 dX11_dueOf_75 (sN_r_obj hS) (sT_r_obj hS) rfl (sR_r_obj_19 hS) ?_
        refine x_iload (pc := 78) dX11_dueOf_78 rfl ?_
        refine y_zald (pc := 80) (i := r_dryWeek) (n := 400) dX11_dueOf_80 (sN_r_dryWeek hS) (sT_r_dryWeek hS) (sL_r_dryWeek hS) h.1 ?_
        have h := h.2
        refine x_if_ne (pc := 81) (t := 88) dX11_dueOf_81 (by decide) (fun e => ?_) (fun e => ?_)
        · have h := h.1 e
          refine x_iconst (pc := 84) dX11_dueOf_84 ?_
          refine x_goto (pc := 85) (t := 89) dX11_dueOf_85 (by decide) ?_
          refine x_isub (pc := 89) dX11_dueOf_89 ?_
          refine x_istore (pc := 90) (L' := [some (vr G r_obj), none, none, none, none, some (vi ((v5) - (1))), some (vi (v6 + 1))]) dX11_dueOf_90 (by decide) (xst1 rfl rfl trivial) ?_
          refine x_goto (pc := 92) (t := 50) dX11_dueOf_92 (by decide) ?_
          exact h
        · have h := h.2 e
          refine x_iconst (pc := 88) dX11_dueOf_88 ?_
          refine x_isub (pc := 89) dX11_dueOf_89 ?_
          refine x_istore (pc := 90) (L' := [some (vr G r_obj), none, none, none, none, some (vi ((v5) - (0))), some (vi (v6 + 1))]) dX11_dueOf_90 (by decide) (xst1 rfl rfl trivial) ?_
          refine x_goto (pc := 92) (t := 50) dX11_dueOf_92 (by decide) ?_
          exact h
set_option maxHeartbeats 4000000 in
set_option maxRecDepth 100000 in
theorem b_R_end {G : XG} {S : XS} {I : XI} {v1 : Int} {R : Int → XI → Prop} (hS : xSh S)  (h : (∀ I1 : XI, I1 = up I r_obj 0 (0) → R_in G S I1 (v1) (0) (I1 r_size 0) (fun r3 I2 => ((w32 (r3) = 0 → R ((-1)) I2) ∧ (¬ (w32 (r3) = 0) → (∀ I4 : XI, I4 = up I2 r_size 0 (v1) → R (v1) I4)))))) : R_end G S I v1 R := by
  refine x_start [some (vr G r_obj), some (vi (v1))] (by decide) (Nat.le_of_ble_eq_true rfl) rfl ?_
  refine x_aload_n (pc := 0) dX11_end_0 rfl rfl ?_
  refine x_iconst (pc := 1) dX11_end_1 ?_
  refine x_putI (pc := 2) (i := r_obj) fl_X11_220 dX11_end_2 (sN_r_obj hS) (sT_r_obj hS) rfl ?_
  have h := h _ rfl
  generalize up I r_obj 0 (0) = I1 at h ⊢
  refine x_iload_n (pc := 5) dX11_end_5 rfl rfl ?_
  refine x_iconst (pc := 6) dX11_end_6 ?_
  refine x_aload_n (pc := 7) dX11_end_7 rfl rfl ?_
  refine x_getR (pc := 8) (i := r_obj) (a := r_size) fl_X11_13 dX11_end_8 (sN_r_obj hS) (sT_r_obj hS) rfl (sR_r_obj_2 hS) ?_
  refine x_iconst (pc := 11) dX11_end_11 ?_
  refine y_iald (pc := 12) (i := r_size) (n := 4) dX11_end_12 (sN_r_size hS) (sT_r_size hS) (sL_r_size hS) (inb_nat (k := 0) (by decide) (by decide)) ?_
  rw [show ix 0 = 0 from rfl]
  refine y_Si (pc := 13) (As := [vi (v1), vi (0), vi (I1 r_size 0)]) (rest := []) ok_X11_in ml_X11_232 dX11_end_13 rfl ⟨rfl, rfl⟩ ⟨by decide, by decide⟩ ⟨Nat.le_refl _, Nat.le_refl _⟩ (Nat.le_of_ble_eq_true rfl) rfl h (fun r3 I2 h => ?_)
  refine x_if_ne (pc := 16) (t := 21) dX11_end_16 (by decide) (fun e => ?_) (fun e => ?_)
  · have h := h.1 e
    refine x_iconst (pc := 19) dX11_end_19 ?_
    exact y_iret (pc := 20) dX11_end_20 rfl ⟨Nat.le_refl _, Nat.le_refl _⟩ h
  · have h := h.2 e
    refine x_aload_n (pc := 21) dX11_end_21 rfl rfl ?_
    refine x_getR (pc := 22) (i := r_obj) (a := r_size) fl_X11_13 dX11_end_22 (sN_r_obj hS) (sT_r_obj hS) rfl (sR_r_obj_2 hS) ?_
    refine x_iconst (pc := 25) dX11_end_25 ?_
    refine x_iload_n (pc := 26) dX11_end_26 rfl rfl ?_
    refine y_iast (pc := 27) (i := r_size) (n := 4) dX11_end_27 (sN_r_size hS) (sT_r_size hS) (sL_r_size hS) (inb_nat (k := 0) (by decide) (by decide)) ?_
    rw [show ix 0 = 0 from rfl]
    have h := h _ rfl
    generalize up I2 r_size 0 (v1) = I4 at h ⊢
    refine x_iload_n (pc := 28) dX11_end_28 rfl rfl ?_
    exact y_iret (pc := 29) dX11_end_29 rfl ⟨Nat.le_refl _, Nat.le_refl _⟩ h
set_option maxHeartbeats 4000000 in
set_option maxRecDepth 100000 in
theorem b_R_everHad {G : XG} {S : XS} {I : XI} {v1 : Int} {v2 : Int} {R : Int → XI → Prop} (hS : xSh S)  (h : R_everHad_k2 G S I (v1) (v2) (0) R) : R_everHad G S I v1 v2 R := by
  refine x_start [some (vr G r_obj), some (vi (v1)), some (vi (v2)), none] (by decide) (Nat.le_of_ble_eq_true rfl) rfl ?_
  refine x_iconst (pc := 0) dX11_everHad_0 ?_
  refine x_istore_n (pc := 1) (L' := [some (vr G r_obj), some (vi (v1)), some (vi (v2)), some (vi (0))]) dX11_everHad_1 rfl (by decide) (xst1 rfl rfl rfl) ?_
  exact h
set_option maxHeartbeats 4000000 in
set_option maxRecDepth 100000 in
theorem b_R_everHad_k2 {G : XG} {S : XS}  {I : XI} {v1 : Int} {v2 : Int} {v3 : Int} {R : Int → XI → Prop} (hS : xSh S)  (h : ((w32 (I r_acts 0) ≤ w32 (v3) → R (0) I) ∧ (¬ (w32 (I r_acts 0) ≤ w32 (v3)) → R_gives G S I (v3) (v2) (fun r2 I1 => ((w32 (r2) = 0 → R_everHad_k2 G S I1 (v1) (v2) (v3 + 1) R) ∧ (¬ (w32 (r2) = 0) → (inb (v3) 600 ∧ ((w32 (I1 r_actCamp (ix (v3))) = w32 (v1) → R (1) I1) ∧ (¬ (w32 (I1 r_actCamp (ix (v3))) = w32 (v1)) → R_everHad_k2 G S I1 (v1) (v2) (v3 + 1) R))))))))) : R_everHad_k2 G S  I v1 v2 v3 R := by
  unfold R_everHad_k2
  refine x_iload_n (pc := 2) dX11_everHad_2 rfl rfl ?_
  refine x_aload_n (pc := 3) dX11_everHad_3 rfl rfl ?_
  refine x_getR (pc := 4) (i := r_obj) (a := r_acts) fl_X11_105 dX11_everHad_4 (sN_r_obj hS) (sT_r_obj hS) rfl (sR_r_obj_32 hS) ?_
  refine x_iconst (pc := 7) dX11_everHad_7 ?_
  refine y_iald (pc := 8) (i := r_acts) (n := 4) dX11_everHad_8 (sN_r_acts hS) (sT_r_acts hS) (sL_r_acts hS) (inb_nat (k := 0) (by decide) (by decide)) ?_
  rw [show ix 0 = 0 from rfl]
  refine x_icmp_ge (pc := 9) (t := 39) dX11_everHad_9 (by decide) (fun e => ?_) (fun e => ?_)
  · have h := h.1 e
    refine x_iconst (pc := 39) dX11_everHad_39 ?_
    exact y_zret (pc := 40) dX11_everHad_40 rfl ⟨Nat.le_refl _, Nat.le_refl _⟩ (Or.inl rfl) h
  · have h := h.2 e
    refine x_aload_n (pc := 12) dX11_everHad_12 rfl rfl ?_
    refine x_iload_n (pc := 13) dX11_everHad_13 rfl rfl ?_
    refine x_iload_n (pc := 14) dX11_everHad_14 rfl rfl ?_
    refine y_Vi (pc := 15) (i := r_obj) (As := [vi (v3), vi (v2)]) (rest := []) ok_X11_gives ml_X11_332 dX11_everHad_15 (sN_r_obj hS) (sT_r_obj hS) (by decide) rfl rfl rfl ⟨rfl, rfl⟩ ⟨by decide, by decide⟩ ⟨Nat.le_refl _, Nat.le_refl _⟩ (Nat.le_of_ble_eq_true rfl) rfl h (fun r2 I1 h => ?_)
    refine x_if_eq (pc := 18) (t := 33) dX11_everHad_18 (by decide) (fun e => ?_) (fun e => ?_)
    · have h := h.1 e
      refine x_iinc (pc := 33) (L' := [some (vr G r_obj), some (vi (v1)), some (vi (v2)), some (vi (v3 + 1))]) dX11_everHad_33 rfl (by decide) (xst1 rfl rfl rfl) ?_
      refine x_goto (pc := 36) (t := 2) dX11_everHad_36 (by decide) ?_
      exact h
    · have h := h.2 e
      refine x_aload_n (pc := 21) dX11_everHad_21 rfl rfl ?_
      refine x_getR (pc := 22) (i := r_obj) (a := r_actCamp) fl_X11_114 dX11_everHad_22 (sN_r_obj hS) (sT_r_obj hS) rfl (sR_r_obj_35 hS) ?_
      refine x_iload_n (pc := 25) dX11_everHad_25 rfl rfl ?_
      refine y_iald (pc := 26) (i := r_actCamp) (n := 600) dX11_everHad_26 (sN_r_actCamp hS) (sT_r_actCamp hS) (sL_r_actCamp hS) h.1 ?_
      have h := h.2
      refine x_iload_n (pc := 27) dX11_everHad_27 rfl rfl ?_
      refine x_icmp_ne (pc := 28) (t := 33) dX11_everHad_28 (by decide) (fun e => ?_) (fun e => ?_)
      · have h := h.1 e
        refine x_iconst (pc := 31) dX11_everHad_31 ?_
        exact y_zret (pc := 32) dX11_everHad_32 rfl ⟨Nat.le_refl _, Nat.le_refl _⟩ (Or.inr rfl) h
      · have h := h.2 e
        refine x_iinc (pc := 33) (L' := [some (vr G r_obj), some (vi (v1)), some (vi (v2)), some (vi (v3 + 1))]) dX11_everHad_33 rfl (by decide) (xst1 rfl rfl rfl) ?_
        refine x_goto (pc := 36) (t := 2) dX11_everHad_36 (by decide) ?_
        exact h
set_option maxHeartbeats 4000000 in
set_option maxRecDepth 100000 in
theorem b_R_fault {G : XG} {S : XS} {I : XI} {v1 : Int} {R : Int → XI → Prop} (hS : xSh S)  (h : (∀ I1 : XI, I1 = up I r_obj 0 (0) → ((w32 (v1) = 0 → R (I1 r_fault 0) I1) ∧ (¬ (w32 (v1) = 0) → ((w32 (v1) = w32 (1) → R (I1 r_faultPlace 0) I1) ∧ (¬ (w32 (v1) = w32 (1)) → R ((-1)) I1)))))) : R_fault G S I v1 R := by
  refine x_start [some (vr G r_obj), some (vi (v1))] (by decide) (Nat.le_of_ble_eq_true rfl) rfl ?_
  refine x_aload_n (pc := 0) dX11_fault_0 rfl rfl ?_
  refine x_iconst (pc := 1) dX11_fault_1 ?_
  refine x_putI (pc := 2) (i := r_obj) fl_X11_220 dX11_fault_2 (sN_r_obj hS) (sT_r_obj hS) rfl ?_
  have h := h _ rfl
  generalize up I r_obj 0 (0) = I1 at h ⊢
  refine x_iload_n (pc := 5) dX11_fault_5 rfl rfl ?_
  refine x_if_ne (pc := 6) (t := 18) dX11_fault_6 (by decide) (fun e => ?_) (fun e => ?_)
  · have h := h.1 e
    refine x_aload_n (pc := 9) dX11_fault_9 rfl rfl ?_
    refine x_getR (pc := 10) (i := r_obj) (a := r_fault) fl_X11_17 dX11_fault_10 (sN_r_obj hS) (sT_r_obj hS) rfl (sR_r_obj_3 hS) ?_
    refine x_iconst (pc := 13) dX11_fault_13 ?_
    refine y_iald (pc := 14) (i := r_fault) (n := 4) dX11_fault_14 (sN_r_fault hS) (sT_r_fault hS) (sL_r_fault hS) (inb_nat (k := 0) (by decide) (by decide)) ?_
    rw [show ix 0 = 0 from rfl]
    refine x_goto (pc := 15) (t := 33) dX11_fault_15 (by decide) ?_
    exact y_iret (pc := 33) dX11_fault_33 rfl ⟨Nat.le_refl _, Nat.le_refl _⟩ h
  · have h := h.2 e
    refine x_iload_n (pc := 18) dX11_fault_18 rfl rfl ?_
    refine x_iconst (pc := 19) dX11_fault_19 ?_
    refine x_icmp_ne (pc := 20) (t := 32) dX11_fault_20 (by decide) (fun e => ?_) (fun e => ?_)
    · have h := h.1 e
      refine x_aload_n (pc := 23) dX11_fault_23 rfl rfl ?_
      refine x_getR (pc := 24) (i := r_obj) (a := r_faultPlace) fl_X11_20 dX11_fault_24 (sN_r_obj hS) (sT_r_obj hS) rfl (sR_r_obj_4 hS) ?_
      refine x_iconst (pc := 27) dX11_fault_27 ?_
      refine y_iald (pc := 28) (i := r_faultPlace) (n := 4) dX11_fault_28 (sN_r_faultPlace hS) (sT_r_faultPlace hS) (sL_r_faultPlace hS) (inb_nat (k := 0) (by decide) (by decide)) ?_
      rw [show ix 0 = 0 from rfl]
      refine x_goto (pc := 29) (t := 33) dX11_fault_29 (by decide) ?_
      exact y_iret (pc := 33) dX11_fault_33 rfl ⟨Nat.le_refl _, Nat.le_refl _⟩ h
    · have h := h.2 e
      refine x_iconst (pc := 32) dX11_fault_32 ?_
      exact y_iret (pc := 33) dX11_fault_33 rfl ⟨Nat.le_refl _, Nat.le_refl _⟩ h
set_option maxHeartbeats 4000000 in
set_option maxRecDepth 100000 in
theorem b_R_feed {G : XG} {S : XS} {I : XI} {v1 : Int} {v2 : Int} {v3 : Int} {v4 : Int} {v5 : Int} {R : Int → XI → Prop} (hS : xSh S)  (h : (∀ I1 : XI, I1 = up I r_obj 0 (0) → ((w32 ((I1 r_size 0) + (20)) ≤ w32 (500) → R_four G S I1 (v1) (fun I2 => R_four G S I2 (v2) (fun I3 => R_four G S I3 (v3) (fun I4 => R_four G S I4 (v4) (fun I5 => R_four G S I5 (v5) (fun I6 => R (I6 r_size 0) I6)))))) ∧ (¬ (w32 ((I1 r_size 0) + (20)) ≤ w32 (500)) → R ((-1)) I1)))) : R_feed G S I v1 v2 v3 v4 v5 R := by
  refine x_start [some (vr G r_obj), some (vi (v1)), some (vi (v2)), some (vi (v3)), some (vi (v4)), some (vi (v5))] (by decide) (Nat.le_of_ble_eq_true rfl) rfl ?_
  refine x_aload_n (pc := 0) dX11_feed_0 rfl rfl ?_
  refine x_iconst (pc := 1) dX11_feed_1 ?_
  refine x_putI (pc := 2) (i := r_obj) fl_X11_220 dX11_feed_2 (sN_r_obj hS) (sT_r_obj hS) rfl ?_
  have h := h _ rfl
  generalize up I r_obj 0 (0) = I1 at h ⊢
  refine x_aload_n (pc := 5) dX11_feed_5 rfl rfl ?_
  refine x_getR (pc := 6) (i := r_obj) (a := r_size) fl_X11_13 dX11_feed_6 (sN_r_obj hS) (sT_r_obj hS) rfl (sR_r_obj_2 hS) ?_
  refine x_iconst (pc := 9) dX11_feed_9 ?_
  refine y_iald (pc := 10) (i := r_size) (n := 4) dX11_feed_10 (sN_r_size hS) (sT_r_size hS) (sL_r_size hS) (inb_nat (k := 0) (by decide) (by decide)) ?_
  rw [show ix 0 = 0 from rfl]
  refine x_bipush (pc := 11) dX11_feed_11 (by decide) ?_
  refine x_iadd (pc := 13) dX11_feed_13 ?_
  refine x_sipush (pc := 14) dX11_feed_14 (by decide) ?_
  refine x_icmp_le (pc := 17) (t := 22) dX11_feed_17 (by decide) (fun e => ?_) (fun e => ?_)
  · have h := h.1 e
    refine x_aload_n (pc := 22) dX11_feed_22 rfl rfl ?_
    refine x_iload_n (pc := 23) dX11_feed_23 rfl rfl ?_
    refine y_Vv (pc := 24) (i := r_obj) (As := [vi (v1)]) (rest := []) ok_X11_four ml_X11_335 dX11_feed_24 (sN_r_obj hS) (sT_r_obj hS) (by decide) rfl rfl rfl ⟨rfl, rfl⟩ ⟨by decide, by decide⟩ ⟨Nat.le_refl _, Nat.le_refl _⟩ (Nat.le_of_ble_eq_true rfl) rfl h (fun I2 h => ?_)
    refine x_aload_n (pc := 27) dX11_feed_27 rfl rfl ?_
    refine x_iload_n (pc := 28) dX11_feed_28 rfl rfl ?_
    refine y_Vv (pc := 29) (i := r_obj) (As := [vi (v2)]) (rest := []) ok_X11_four ml_X11_335 dX11_feed_29 (sN_r_obj hS) (sT_r_obj hS) (by decide) rfl rfl rfl ⟨rfl, rfl⟩ ⟨by decide, by decide⟩ ⟨Nat.le_refl _, Nat.le_refl _⟩ (Nat.le_of_ble_eq_true rfl) rfl h (fun I3 h => ?_)
    refine x_aload_n (pc := 32) dX11_feed_32 rfl rfl ?_
    refine x_iload_n (pc := 33) dX11_feed_33 rfl rfl ?_
    refine y_Vv (pc := 34) (i := r_obj) (As := [vi (v3)]) (rest := []) ok_X11_four ml_X11_335 dX11_feed_34 (sN_r_obj hS) (sT_r_obj hS) (by decide) rfl rfl rfl ⟨rfl, rfl⟩ ⟨by decide, by decide⟩ ⟨Nat.le_refl _, Nat.le_refl _⟩ (Nat.le_of_ble_eq_true rfl) rfl h (fun I4 h => ?_)
    refine x_aload_n (pc := 37) dX11_feed_37 rfl rfl ?_
    refine x_iload (pc := 38) dX11_feed_38 rfl ?_
    refine y_Vv (pc := 40) (i := r_obj) (As := [vi (v4)]) (rest := []) ok_X11_four ml_X11_335 dX11_feed_40 (sN_r_obj hS) (sT_r_obj hS) (by decide) rfl rfl rfl ⟨rfl, rfl⟩ ⟨by decide, by decide⟩ ⟨Nat.le_refl _, Nat.le_refl _⟩ (Nat.le_of_ble_eq_true rfl) rfl h (fun I5 h => ?_)
    refine x_aload_n (pc := 43) dX11_feed_43 rfl rfl ?_
    refine x_iload (pc := 44) dX11_feed_44 rfl ?_
    refine y_Vv (pc := 46) (i := r_obj) (As := [vi (v5)]) (rest := []) ok_X11_four ml_X11_335 dX11_feed_46 (sN_r_obj hS) (sT_r_obj hS) (by decide) rfl rfl rfl ⟨rfl, rfl⟩ ⟨by decide, by decide⟩ ⟨Nat.le_refl _, Nat.le_refl _⟩ (Nat.le_of_ble_eq_true rfl) rfl h (fun I6 h => ?_)
    refine x_aload_n (pc := 49) dX11_feed_49 rfl rfl ?_
    refine x_getR (pc := 50) (i := r_obj) (a := r_size) fl_X11_13 dX11_feed_50 (sN_r_obj hS) (sT_r_obj hS) rfl (sR_r_obj_2 hS) ?_
    refine x_iconst (pc := 53) dX11_feed_53 ?_
    refine y_iald (pc := 54) (i := r_size) (n := 4) dX11_feed_54 (sN_r_size hS) (sT_r_size hS) (sL_r_size hS) (inb_nat (k := 0) (by decide) (by decide)) ?_
    rw [show ix 0 = 0 from rfl]
    exact y_iret (pc := 55) dX11_feed_55 rfl ⟨Nat.le_refl _, Nat.le_refl _⟩ h
  · have h := h.2 e
    refine x_iconst (pc := 20) dX11_feed_20 ?_
    exact y_iret (pc := 21) dX11_feed_21 rfl ⟨Nat.le_refl _, Nat.le_refl _⟩ h
set_option maxHeartbeats 4000000 in
set_option maxRecDepth 100000 in
theorem b_R_findFar {G : XG} {S : XS} {I : XI}  {R : XI → Prop} (hS : xSh S)  (h : R_findFar_k2 G S I (0) R) : R_findFar G S I  R := by
  refine x_start [some (vr G r_obj), none, none, none] (by decide) (Nat.le_of_ble_eq_true rfl) rfl ?_
  refine x_iconst (pc := 0) dX11_findFar_0 ?_
  refine x_istore_n (pc := 1) (L' := [some (vr G r_obj), some (vi (0)), none, none]) dX11_findFar_1 rfl (by decide) (xst1 rfl rfl rfl) ?_
  exact h
set_option maxHeartbeats 4000000 in
set_option maxRecDepth 100000 in
theorem b_R_findFar_k2 {G : XG} {S : XS}  {I : XI} {v1 : Int} {R : XI → Prop} (hS : xSh S)  (h : ((w32 (100) ≤ w32 (v1) → R_findFar_k58 G S I (0) R) ∧ (¬ (w32 (100) ≤ w32 (v1)) → (w32 (10) ≠ 0 ∧ (w32 (10) ≠ 0 ∧ ((w32 (idiv (v1) (10)) = w32 (irem (v1) (10)) → (inb (v1) 100 ∧ (∀ I1 : XI, I1 = up I r_far (ix (v1)) (0) → R_findFar_k2 G S I1 (v1 + 1) R))) ∧ (¬ (w32 (idiv (v1) (10)) = w32 (irem (v1) (10))) → (inb (v1) 400 ∧ ((w32 (I r_ways (ix (v1))) ≤ 0 → (inb (v1) 100 ∧ (∀ I2 : XI, I2 = up I r_far (ix (v1)) (1000000) → R_findFar_k2 G S I2 (v1 + 1) R))) ∧ (¬ (w32 (I r_ways (ix (v1))) ≤ 0) → (inb (v1) 400 ∧ (inb (v1) 100 ∧ (∀ I3 : XI, I3 = up I r_far (ix (v1)) (I r_ways (ix (v1))) → R_findFar_k2 G S I3 (v1 + 1) R))))))))))))) : R_findFar_k2 G S  I v1 R := by
  unfold R_findFar_k2
  refine x_iload_n (pc := 2) dX11_findFar_2 rfl rfl ?_
  refine x_bipush (pc := 3) dX11_findFar_3 (by decide) ?_
  refine x_icmp_ge (pc := 5) (t := 56) dX11_findFar_5 (by decide) (fun e => ?_) (fun e => ?_)
  · have h := h.1 e
    refine x_iconst (pc := 56) dX11_findFar_56 ?_
    refine x_istore_n (pc := 57) (L' := [some (vr G r_obj), some (vi (0)), none, none]) dX11_findFar_57 rfl (by decide) (xst1 rfl rfl rfl) ?_
    exact h
  · have h := h.2 e
    refine x_aload_n (pc := 8) dX11_findFar_8 rfl rfl ?_
    refine x_getR (pc := 9) (i := r_obj) (a := r_far) fl_X11_205 dX11_findFar_9 (sN_r_obj hS) (sT_r_obj hS) rfl (sR_r_obj_76 hS) ?_
    refine x_iload_n (pc := 12) dX11_findFar_12 rfl rfl ?_
    refine x_iload_n (pc := 13) dX11_findFar_13 rfl rfl ?_
    refine x_bipush (pc := 14) dX11_findFar_14 (by decide) ?_
    refine x_idiv (pc := 16) dX11_findFar_16 h.1 ?_
    have h := h.2
    refine x_iload_n (pc := 17) dX11_findFar_17 rfl rfl ?_
    refine x_bipush (pc := 18) dX11_findFar_18 (by decide) ?_
    refine x_irem (pc := 20) dX11_findFar_20 h.1 ?_
    have h := h.2
    refine x_icmp_ne (pc := 21) (t := 28) dX11_findFar_21 (by decide) (fun e => ?_) (fun e => ?_)
    · have h := h.1 e
      refine x_iconst (pc := 24) dX11_findFar_24 ?_
      refine x_goto (pc := 25) (t := 49) dX11_findFar_25 (by decide) ?_
      refine y_iast (pc := 49) (i := r_far) (n := 100) dX11_findFar_49 (sN_r_far hS) (sT_r_far hS) (sL_r_far hS) h.1 ?_
      have h := h.2
      have h := h _ rfl
      generalize up I r_far (ix (v1)) (0) = I1 at h ⊢
      refine x_iinc (pc := 50) (L' := [some (vr G r_obj), some (vi (v1 + 1)), none, none]) dX11_findFar_50 rfl (by decide) (xst1 rfl rfl rfl) ?_
      refine x_goto (pc := 53) (t := 2) dX11_findFar_53 (by decide) ?_
      exact h
    · have h := h.2 e
      refine x_aload_n (pc := 28) dX11_findFar_28 rfl rfl ?_
      refine x_getR (pc := 29) (i := r_obj) (a := r_ways) fl_X11_36 dX11_findFar_29 (sN_r_obj hS) (sT_r_obj hS) rfl (sR_r_obj_9 hS) ?_
      refine x_iload_n (pc := 32) dX11_findFar_32 rfl rfl ?_
      refine y_iald (pc := 33) (i := r_ways) (n := 400) dX11_findFar_33 (sN_r_ways hS) (sT_r_ways hS) (sL_r_ways hS) h.1 ?_
      have h := h.2
      refine x_if_le (pc := 34) (t := 46) dX11_findFar_34 (by decide) (fun e => ?_) (fun e => ?_)
      · have h := h.1 e
        refine x_ldcw (pc := 46) (z := 1000000) dX11_findFar_46 ko_X11_256 rfl ?_
        refine y_iast (pc := 49) (i := r_far) (n := 100) dX11_findFar_49 (sN_r_far hS) (sT_r_far hS) (sL_r_far hS) h.1 ?_
        have h := h.2
        have h := h _ rfl
        generalize up I r_far (ix (v1)) (1000000) = I2 at h ⊢
        refine x_iinc (pc := 50) (L' := [some (vr G r_obj), some (vi (v1 + 1)), none, none]) dX11_findFar_50 rfl (by decide) (xst1 rfl rfl rfl) ?_
        refine x_goto (pc := 53) (t := 2) dX11_findFar_53 (by decide) ?_
        exact h
      · have h := h.2 e
        refine x_aload_n (pc := 37) dX11_findFar_37 rfl rfl ?_
        refine x_getR (pc := 38) (i := r_obj) (a := r_ways) fl_X11_36 dX11_findFar_38 (sN_r_obj hS) (sT_r_obj hS) rfl (sR_r_obj_9 hS) ?_
        refine x_iload_n (pc := 41) dX11_findFar_41 rfl rfl ?_
        refine y_iald (pc := 42) (i := r_ways) (n := 400) dX11_findFar_42 (sN_r_ways hS) (sT_r_ways hS) (sL_r_ways hS) h.1 ?_
        have h := h.2
        refine x_goto (pc := 43) (t := 49) dX11_findFar_43 (by decide) ?_
        refine y_iast (pc := 49) (i := r_far) (n := 100) dX11_findFar_49 (sN_r_far hS) (sT_r_far hS) (sL_r_far hS) h.1 ?_
        have h := h.2
        have h := h _ rfl
        generalize up I r_far (ix (v1)) (I r_ways (ix (v1))) = I3 at h ⊢
        refine x_iinc (pc := 50) (L' := [some (vr G r_obj), some (vi (v1 + 1)), none, none]) dX11_findFar_50 rfl (by decide) (xst1 rfl rfl rfl) ?_
        refine x_goto (pc := 53) (t := 2) dX11_findFar_53 (by decide) ?_
        exact h
set_option maxHeartbeats 4000000 in
set_option maxRecDepth 100000 in
theorem b_R_findFar_k58 {G : XG} {S : XS}  {I : XI} {v1 : Int} {R : XI → Prop} (hS : xSh S)  (h : ((w32 (10) ≤ w32 (v1) → R I) ∧ (¬ (w32 (10) ≤ w32 (v1)) → R_findFar_k66 G S I (v1) (0) R))) : R_findFar_k58 G S  I v1 R := by
  unfold R_findFar_k58
  refine x_iload_n (pc := 58) dX11_findFar_58 rfl rfl ?_
  refine x_bipush (pc := 59) dX11_findFar_59 (by decide) ?_
  refine x_icmp_ge (pc := 61) (t := 139) dX11_findFar_61 (by decide) (fun e => ?_) (fun e => ?_)
  · have h := h.1 e
    exact y_vret (pc := 139) dX11_findFar_139 rfl ⟨Nat.le_refl _, Nat.le_refl _⟩ h
  · have h := h.2 e
    refine x_iconst (pc := 64) dX11_findFar_64 ?_
    refine x_istore_n (pc := 65) (L' := [some (vr G r_obj), some (vi (v1)), some (vi (0)), none]) dX11_findFar_65 rfl (by decide) (xst1 rfl rfl rfl) ?_
    exact h
set_option maxHeartbeats 4000000 in
set_option maxRecDepth 100000 in
theorem b_R_findFar_k66 {G : XG} {S : XS}  {I : XI} {v1 : Int} {v2 : Int} {R : XI → Prop} (hS : xSh S)  (h : ((w32 (100) ≤ w32 (v2) → R_findFar_k58 G S I (v1 + 1) R) ∧ (¬ (w32 (100) ≤ w32 (v2)) → (w32 (10) ≠ 0 ∧ (inb (((v2) - (irem (v2) (10))) + (v1)) 100 ∧ (w32 (10) ≠ 0 ∧ (inb (((10) * (v1)) + (irem (v2) (10))) 100 ∧ (inb (v2) 100 ∧ ((w32 (I r_far (ix (v2))) ≤ w32 ((I r_far (ix (((v2) - (irem (v2) (10))) + (v1)))) + (I r_far (ix (((10) * (v1)) + (irem (v2) (10)))))) → (inb (v2) 100 ∧ (inb (v2) 100 ∧ (∀ I4 : XI, I4 = up I r_far (ix (v2)) (I r_far (ix (v2))) → R_findFar_k66 G S I4 (v1) (v2 + 1) R)))) ∧ (¬ (w32 (I r_far (ix (v2))) ≤ w32 ((I r_far (ix (((v2) - (irem (v2) (10))) + (v1)))) + (I r_far (ix (((10) * (v1)) + (irem (v2) (10))))))) → (inb (v2) 100 ∧ (∀ I5 : XI, I5 = up I r_far (ix (v2)) ((I r_far (ix (((v2) - (irem (v2) (10))) + (v1)))) + (I r_far (ix (((10) * (v1)) + (irem (v2) (10)))))) → R_findFar_k66 G S I5 (v1) (v2 + 1) R)))))))))))) : R_findFar_k66 G S  I v1 v2 R := by
  unfold R_findFar_k66
  refine x_iload_n (pc := 66) dX11_findFar_66 rfl rfl ?_
  refine x_bipush (pc := 67) dX11_findFar_67 (by decide) ?_
  refine x_icmp_ge (pc := 69) (t := 133) dX11_findFar_69 (by decide) (fun e => ?_) (fun e => ?_)
  · have h := h.1 e
    refine x_iinc (pc := 133) (L' := [some (vr G r_obj), some (vi (v1 + 1)), some (vi (v2)), none]) dX11_findFar_133 rfl (by decide) (xst1 rfl rfl rfl) ?_
    refine x_goto (pc := 136) (t := 58) dX11_findFar_136 (by decide) ?_
    refine x_less (L' := [some (vr G r_obj), some (vi (v1 + 1)), none, none]) (And.intro rfl (And.intro rfl trivial)) ?_
    exact h
  · have h := h.2 e
    refine x_aload_n (pc := 72) dX11_findFar_72 rfl rfl ?_
    refine x_getR (pc := 73) (i := r_obj) (a := r_far) fl_X11_205 dX11_findFar_73 (sN_r_obj hS) (sT_r_obj hS) rfl (sR_r_obj_76 hS) ?_
    refine x_iload_n (pc := 76) dX11_findFar_76 rfl rfl ?_
    refine x_iload_n (pc := 77) dX11_findFar_77 rfl rfl ?_
    refine x_bipush (pc := 78) dX11_findFar_78 (by decide) ?_
    refine x_irem (pc := 80) dX11_findFar_80 h.1 ?_
    have h := h.2
    refine x_isub (pc := 81) dX11_findFar_81 ?_
    refine x_iload_n (pc := 82) dX11_findFar_82 rfl rfl ?_
    refine x_iadd (pc := 83) dX11_findFar_83 ?_
    refine y_iald (pc := 84) (i := r_far) (n := 100) dX11_findFar_84 (sN_r_far hS) (sT_r_far hS) (sL_r_far hS) h.1 ?_
    have h := h.2
    refine x_aload_n (pc := 85) dX11_findFar_85 rfl rfl ?_
    refine x_getR (pc := 86) (i := r_obj) (a := r_far) fl_X11_205 dX11_findFar_86 (sN_r_obj hS) (sT_r_obj hS) rfl (sR_r_obj_76 hS) ?_
    refine x_bipush (pc := 89) dX11_findFar_89 (by decide) ?_
    refine x_iload_n (pc := 91) dX11_findFar_91 rfl rfl ?_
    refine x_imul (pc := 92) dX11_findFar_92 ?_
    refine x_iload_n (pc := 93) dX11_findFar_93 rfl rfl ?_
    refine x_bipush (pc := 94) dX11_findFar_94 (by decide) ?_
    refine x_irem (pc := 96) dX11_findFar_96 h.1 ?_
    have h := h.2
    refine x_iadd (pc := 97) dX11_findFar_97 ?_
    refine y_iald (pc := 98) (i := r_far) (n := 100) dX11_findFar_98 (sN_r_far hS) (sT_r_far hS) (sL_r_far hS) h.1 ?_
    have h := h.2
    refine x_iadd (pc := 99) dX11_findFar_99 ?_
    refine x_istore_n (pc := 100) (L' := [some (vr G r_obj), some (vi (v1)), some (vi (v2)), some (vi ((I r_far (ix (((v2) - (irem (v2) (10))) + (v1)))) + (I r_far (ix (((10) * (v1)) + (irem (v2) (10)))))))]) dX11_findFar_100 rfl (by decide) (xst1 rfl rfl rfl) ?_
    refine x_aload_n (pc := 101) dX11_findFar_101 rfl rfl ?_
    refine x_getR (pc := 102) (i := r_obj) (a := r_far) fl_X11_205 dX11_findFar_102 (sN_r_obj hS) (sT_r_obj hS) rfl (sR_r_obj_76 hS) ?_
    refine x_iload_n (pc := 105) dX11_findFar_105 rfl rfl ?_
    refine x_iload_n (pc := 106) dX11_findFar_106 rfl rfl ?_
    refine x_aload_n (pc := 107) dX11_findFar_107 rfl rfl ?_
    refine x_getR (pc := 108) (i := r_obj) (a := r_far) fl_X11_205 dX11_findFar_108 (sN_r_obj hS) (sT_r_obj hS) rfl (sR_r_obj_76 hS) ?_
    refine x_iload_n (pc := 111) dX11_findFar_111 rfl rfl ?_
    refine y_iald (pc := 112) (i := r_far) (n := 100) dX11_findFar_112 (sN_r_far hS) (sT_r_far hS) (sL_r_far hS) h.1 ?_
    have h := h.2
    refine x_icmp_ge (pc := 113) (t := 120) dX11_findFar_113 (by decide) (fun e => ?_) (fun e => ?_)
    · have h := h.1 e
      refine x_aload_n (pc := 120) dX11_findFar_120 rfl rfl ?_
      refine x_getR (pc := 121) (i := r_obj) (a := r_far) fl_X11_205 dX11_findFar_121 (sN_r_obj hS) (sT_r_obj hS) rfl (sR_r_obj_76 hS) ?_
      refine x_iload_n (pc := 124) dX11_findFar_124 rfl rfl ?_
      refine y_iald (pc := 125) (i := r_far) (n := 100) dX11_findFar_125 (sN_r_far hS) (sT_r_far hS) (sL_r_far hS) h.1 ?_
      have h := h.2
      refine y_iast (pc := 126) (i := r_far) (n := 100) dX11_findFar_126 (sN_r_far hS) (sT_r_far hS) (sL_r_far hS) h.1 ?_
      have h := h.2
      have h := h _ rfl
      generalize up I r_far (ix (v2)) (I r_far (ix (v2))) = I4 at h ⊢
      refine x_iinc (pc := 127) (L' := [some (vr G r_obj), some (vi (v1)), some (vi (v2 + 1)), some (vi ((I r_far (ix (((v2) - (irem (v2) (10))) + (v1)))) + (I r_far (ix (((10) * (v1)) + (irem (v2) (10)))))))]) dX11_findFar_127 rfl (by decide) (xst1 rfl rfl rfl) ?_
      refine x_goto (pc := 130) (t := 66) dX11_findFar_130 (by decide) ?_
      refine x_less (L' := [some (vr G r_obj), some (vi (v1)), some (vi (v2 + 1)), none]) (And.intro rfl (And.intro rfl (And.intro rfl trivial))) ?_
      exact h
    · have h := h.2 e
      refine x_iload_n (pc := 116) dX11_findFar_116 rfl rfl ?_
      refine x_goto (pc := 117) (t := 126) dX11_findFar_117 (by decide) ?_
      refine y_iast (pc := 126) (i := r_far) (n := 100) dX11_findFar_126 (sN_r_far hS) (sT_r_far hS) (sL_r_far hS) h.1 ?_
      have h := h.2
      have h := h _ rfl
      generalize up I r_far (ix (v2)) ((I r_far (ix (((v2) - (irem (v2) (10))) + (v1)))) + (I r_far (ix (((10) * (v1)) + (irem (v2) (10)))))) = I5 at h ⊢
      refine x_iinc (pc := 127) (L' := [some (vr G r_obj), some (vi (v1)), some (vi (v2 + 1)), some (vi ((I r_far (ix (((v2) - (irem (v2) (10))) + (v1)))) + (I r_far (ix (((10) * (v1)) + (irem (v2) (10)))))))]) dX11_findFar_127 rfl (by decide) (xst1 rfl rfl rfl) ?_
      refine x_goto (pc := 130) (t := 66) dX11_findFar_130 (by decide) ?_
      refine x_less (L' := [some (vr G r_obj), some (vi (v1)), some (vi (v2 + 1)), none]) (And.intro rfl (And.intro rfl (And.intro rfl trivial))) ?_
      exact h
set_option maxHeartbeats 4000000 in
set_option maxRecDepth 100000 in
theorem b_R_findLeast {G : XG} {S : XS} {I : XI}  {R : XI → Prop} (hS : xSh S)  (h : R_findLeast_k2 G S I (1) R) : R_findLeast G S I  R := by
  refine x_start [some (vr G r_obj), none, none, none, none, none] (by decide) (Nat.le_of_ble_eq_true rfl) rfl ?_
  refine x_iconst (pc := 0) dX11_findLeast_0 ?_
  refine x_istore_n (pc := 1) (L' := [some (vr G r_obj), some (vi (1)), none, none, none, none]) dX11_findLeast_1 rfl (by decide) (xst1 rfl rfl rfl) ?_
  exact h
set_option maxHeartbeats 4000000 in
set_option maxRecDepth 100000 in
theorem b_R_findLeast_k2 {G : XG} {S : XS}  {I : XI} {v1 : Int} {R : XI → Prop} (hS : xSh S)  (h : ((w32 (512) ≤ w32 (v1) → R I) ∧ (¬ (w32 (512) ≤ w32 (v1)) → R_findLeast_k11 G S I (v1) (1) R))) : R_findLeast_k2 G S  I v1 R := by
  unfold R_findLeast_k2
  refine x_iload_n (pc := 2) dX11_findLeast_2 rfl rfl ?_
  refine x_sipush (pc := 3) dX11_findLeast_3 (by decide) ?_
  refine x_icmp_ge (pc := 6) (t := 156) dX11_findLeast_6 (by decide) (fun e => ?_) (fun e => ?_)
  · have h := h.1 e
    exact y_vret (pc := 156) dX11_findLeast_156 rfl ⟨Nat.le_refl _, Nat.le_refl _⟩ h
  · have h := h.2 e
    refine x_iconst (pc := 9) dX11_findLeast_9 ?_
    refine x_istore_n (pc := 10) (L' := [some (vr G r_obj), some (vi (v1)), some (vi (1)), none, none, none]) dX11_findLeast_10 rfl (by decide) (xst1 rfl rfl rfl) ?_
    exact h
set_option maxHeartbeats 4000000 in
set_option maxRecDepth 100000 in
theorem b_R_findLeast_k11 {G : XG} {S : XS}  {I : XI} {v1 : Int} {v2 : Int} {R : XI → Prop} (hS : xSh S)  (h : ((w32 (10) ≤ w32 (v2) → R_findLeast_k2 G S I (v1 + 1) R) ∧ (¬ (w32 (10) ≤ w32 (v2)) → ((w32 (v1) = w32 (ishl (1) ((v2) - (1))) → (inb (v2) 100 ∧ (inb (((10) * (v1)) + (v2)) 5120 ∧ (∀ I1 : XI, I1 = up I r_least (ix (((10) * (v1)) + (v2))) (I r_far (ix (v2))) → R_findLeast_k58 G S I1 (v1) (v2) (((10) * (v1)) + (v2)) (ishl (1) ((v2) - (1))) (1) R)))) ∧ (¬ (w32 (v1) = w32 (ishl (1) ((v2) - (1)))) → (inb (((10) * (v1)) + (v2)) 5120 ∧ (∀ I2 : XI, I2 = up I r_least (ix (((10) * (v1)) + (v2))) (1000000) → R_findLeast_k58 G S I2 (v1) (v2) (((10) * (v1)) + (v2)) (ishl (1) ((v2) - (1))) (1) R))))))) : R_findLeast_k11 G S  I v1 v2 R := by
  unfold R_findLeast_k11
  refine x_iload_n (pc := 11) dX11_findLeast_11 rfl rfl ?_
  refine x_bipush (pc := 12) dX11_findLeast_12 (by decide) ?_
  refine x_icmp_ge (pc := 14) (t := 150) dX11_findLeast_14 (by decide) (fun e => ?_) (fun e => ?_)
  · have h := h.1 e
    refine x_iinc (pc := 150) (L' := [some (vr G r_obj), some (vi (v1 + 1)), some (vi (v2)), none, none, none]) dX11_findLeast_150 rfl (by decide) (xst1 rfl rfl rfl) ?_
    refine x_goto (pc := 153) (t := 2) dX11_findLeast_153 (by decide) ?_
    refine x_less (L' := [some (vr G r_obj), some (vi (v1 + 1)), none, none, none, none]) (And.intro rfl (And.intro rfl trivial)) ?_
    exact h
  · have h := h.2 e
    refine x_bipush (pc := 17) dX11_findLeast_17 (by decide) ?_
    refine x_iload_n (pc := 19) dX11_findLeast_19 rfl rfl ?_
    refine x_imul (pc := 20) dX11_findLeast_20 ?_
    refine x_iload_n (pc := 21) dX11_findLeast_21 rfl rfl ?_
    refine x_iadd (pc := 22) dX11_findLeast_22 ?_
    refine x_istore_n (pc := 23) (L' := [some (vr G r_obj), some (vi (v1)), some (vi (v2)), some (vi (((10) * (v1)) + (v2))), none, none]) dX11_findLeast_23 rfl (by decide) (xst1 rfl rfl rfl) ?_
    refine x_iconst (pc := 24) dX11_findLeast_24 ?_
    refine x_iload_n (pc := 25) dX11_findLeast_25 rfl rfl ?_
    refine x_iconst (pc := 26) dX11_findLeast_26 ?_
    refine x_isub (pc := 27) dX11_findLeast_27 ?_
    refine x_ishl (pc := 28) dX11_findLeast_28 ?_
    refine x_istore (pc := 29) (L' := [some (vr G r_obj), some (vi (v1)), some (vi (v2)), some (vi (((10) * (v1)) + (v2))), some (vi (ishl (1) ((v2) - (1)))), none]) dX11_findLeast_29 (by decide) (xst1 rfl rfl rfl) ?_
    refine x_aload_n (pc := 31) dX11_findLeast_31 rfl rfl ?_
    refine x_getR (pc := 32) (i := r_obj) (a := r_least) fl_X11_208 dX11_findLeast_32 (sN_r_obj hS) (sT_r_obj hS) rfl (sR_r_obj_77 hS) ?_
    refine x_iload_n (pc := 35) dX11_findLeast_35 rfl rfl ?_
    refine x_iload_n (pc := 36) dX11_findLeast_36 rfl rfl ?_
    refine x_iload (pc := 37) dX11_findLeast_37 rfl ?_
    refine x_icmp_ne (pc := 39) (t := 51) dX11_findLeast_39 (by decide) (fun e => ?_) (fun e => ?_)
    · have h := h.1 e
      refine x_aload_n (pc := 42) dX11_findLeast_42 rfl rfl ?_
      refine x_getR (pc := 43) (i := r_obj) (a := r_far) fl_X11_205 dX11_findLeast_43 (sN_r_obj hS) (sT_r_obj hS) rfl (sR_r_obj_76 hS) ?_
      refine x_iload_n (pc := 46) dX11_findLeast_46 rfl rfl ?_
      refine y_iald (pc := 47) (i := r_far) (n := 100) dX11_findLeast_47 (sN_r_far hS) (sT_r_far hS) (sL_r_far hS) h.1 ?_
      have h := h.2
      refine x_goto (pc := 48) (t := 54) dX11_findLeast_48 (by decide) ?_
      refine y_iast (pc := 54) (i := r_least) (n := 5120) dX11_findLeast_54 (sN_r_least hS) (sT_r_least hS) (sL_r_least hS) h.1 ?_
      have h := h.2
      have h := h _ rfl
      generalize up I r_least (ix (((10) * (v1)) + (v2))) (I r_far (ix (v2))) = I1 at h ⊢
      refine x_iconst (pc := 55) dX11_findLeast_55 ?_
      refine x_istore (pc := 56) (L' := [some (vr G r_obj), some (vi (v1)), some (vi (v2)), some (vi (((10) * (v1)) + (v2))), some (vi (ishl (1) ((v2) - (1)))), some (vi (1))]) dX11_findLeast_56 (by decide) (xst1 rfl rfl rfl) ?_
      exact h
    · have h := h.2 e
      refine x_ldcw (pc := 51) (z := 1000000) dX11_findLeast_51 ko_X11_256 rfl ?_
      refine y_iast (pc := 54) (i := r_least) (n := 5120) dX11_findLeast_54 (sN_r_least hS) (sT_r_least hS) (sL_r_least hS) h.1 ?_
      have h := h.2
      have h := h _ rfl
      generalize up I r_least (ix (((10) * (v1)) + (v2))) (1000000) = I2 at h ⊢
      refine x_iconst (pc := 55) dX11_findLeast_55 ?_
      refine x_istore (pc := 56) (L' := [some (vr G r_obj), some (vi (v1)), some (vi (v2)), some (vi (((10) * (v1)) + (v2))), some (vi (ishl (1) ((v2) - (1)))), some (vi (1))]) dX11_findLeast_56 (by decide) (xst1 rfl rfl rfl) ?_
      exact h
set_option maxHeartbeats 4000000 in
set_option maxRecDepth 100000 in
theorem b_R_findLeast_k58 {G : XG} {S : XS}  {I : XI} {v1 : Int} {v2 : Int} {v3 : Int} {v4 : Int} {v5 : Int} {R : XI → Prop} (hS : xSh S)  (h : ((w32 (10) ≤ w32 (v5) → R_findLeast_k11 G S I (v1) (v2 + 1) R) ∧ (¬ (w32 (10) ≤ w32 (v5)) → ((w32 (iand (v1) (v4)) = 0 → R_findLeast_k11 G S I (v1) (v2 + 1) R) ∧ (¬ (w32 (iand (v1) (v4)) = 0) → ((w32 (v1) = w32 (v4) → R_findLeast_k11 G S I (v1) (v2 + 1) R) ∧ (¬ (w32 (v1) = w32 (v4)) → ((w32 (v5) = w32 (v2) → R_findLeast_k58 G S I (v1) (v2) (v3) (v4) (v5 + 1) R) ∧ (¬ (w32 (v5) = w32 (v2)) → ((w32 (iand (ishr (v1) ((v5) - (1))) (1)) = 0 → R_findLeast_k58 G S I (v1) (v2) (v3) (v4) (v5 + 1) R) ∧ (¬ (w32 (iand (ishr (v1) ((v5) - (1))) (1)) = 0) → (inb (v3) 5120 ∧ (inb (((10) * (ixor (v1) (v4))) + (v5)) 5120 ∧ (inb (((10) * (v5)) + (v2)) 100 ∧ R_cheaper G S I (I r_least (ix (v3))) ((I r_least (ix (((10) * (ixor (v1) (v4))) + (v5)))) + (I r_far (ix (((10) * (v5)) + (v2))))) (fun r4 I3 => (inb (v3) 5120 ∧ (∀ I5 : XI, I5 = up I3 r_least (ix (v3)) (r4) → R_findLeast_k58 G S I5 (v1) (v2) (v3) (v4) (v5 + 1) R))))))))))))))))) : R_findLeast_k58 G S  I v1 v2 v3 v4 v5 R := by
  unfold R_findLeast_k58
  refine x_iload (pc := 58) dX11_findLeast_58 rfl ?_
  refine x_bipush (pc := 60) dX11_findLeast_60 (by decide) ?_
  refine x_icmp_ge (pc := 62) (t := 144) dX11_findLeast_62 (by decide) (fun e => ?_) (fun e => ?_)
  · have h := h.1 e
    refine x_iinc (pc := 144) (L' := [some (vr G r_obj), some (vi (v1)), some (vi (v2 + 1)), some (vi (v3)), some (vi (v4)), some (vi (v5))]) dX11_findLeast_144 rfl (by decide) (xst1 rfl rfl rfl) ?_
    refine x_goto (pc := 147) (t := 11) dX11_findLeast_147 (by decide) ?_
    refine x_less (L' := [some (vr G r_obj), some (vi (v1)), some (vi (v2 + 1)), none, none, none]) (And.intro rfl (And.intro rfl (And.intro rfl trivial))) ?_
    exact h
  · have h := h.2 e
    refine x_iload_n (pc := 65) dX11_findLeast_65 rfl rfl ?_
    refine x_iload (pc := 66) dX11_findLeast_66 rfl ?_
    refine x_iand (pc := 68) dX11_findLeast_68 ?_
    refine x_if_eq (pc := 69) (t := 144) dX11_findLeast_69 (by decide) (fun e => ?_) (fun e => ?_)
    · have h := h.1 e
      refine x_iinc (pc := 144) (L' := [some (vr G r_obj), some (vi (v1)), some (vi (v2 + 1)), some (vi (v3)), some (vi (v4)), some (vi (v5))]) dX11_findLeast_144 rfl (by decide) (xst1 rfl rfl rfl) ?_
      refine x_goto (pc := 147) (t := 11) dX11_findLeast_147 (by decide) ?_
      refine x_less (L' := [some (vr G r_obj), some (vi (v1)), some (vi (v2 + 1)), none, none, none]) (And.intro rfl (And.intro rfl (And.intro rfl trivial))) ?_
      exact h
    · have h := h.2 e
      refine x_iload_n (pc := 72) dX11_findLeast_72 rfl rfl ?_
      refine x_iload (pc := 73) dX11_findLeast_73 rfl ?_
      refine x_icmp_eq (pc := 75) (t := 144) dX11_findLeast_75 (by decide) (fun e => ?_) (fun e => ?_)
      · have h := h.1 e
        refine x_iinc (pc := 144) (L' := [some (vr G r_obj), some (vi (v1)), some (vi (v2 + 1)), some (vi (v3)), some (vi (v4)), some (vi (v5))]) dX11_findLeast_144 rfl (by decide) (xst1 rfl rfl rfl) ?_
        refine x_goto (pc := 147) (t := 11) dX11_findLeast_147 (by decide) ?_
        refine x_less (L' := [some (vr G r_obj), some (vi (v1)), some (vi (v2 + 1)), none, none, none]) (And.intro rfl (And.intro rfl (And.intro rfl trivial))) ?_
        exact h
      · have h := h.2 e
        refine x_iload (pc := 78) dX11_findLeast_78 rfl ?_
        refine x_iload_n (pc := 80) dX11_findLeast_80 rfl rfl ?_
        refine x_icmp_eq (pc := 81) (t := 138) dX11_findLeast_81 (by decide) (fun e => ?_) (fun e => ?_)
        · have h := h.1 e
          refine x_iinc (pc := 138) (L' := [some (vr G r_obj), some (vi (v1)), some (vi (v2)), some (vi (v3)), some (vi (v4)), some (vi (v5 + 1))]) dX11_findLeast_138 rfl (by decide) (xst1 rfl rfl rfl) ?_
          refine x_goto (pc := 141) (t := 58) dX11_findLeast_141 (by decide) ?_
          exact h
        · have h := h.2 e
          refine x_iload_n (pc := 84) dX11_findLeast_84 rfl rfl ?_
          refine x_iload (pc := 85) dX11_findLeast_85 rfl ?_
          refine x_iconst (pc := 87) dX11_findLeast_87 ?_
          refine x_isub (pc := 88) dX11_findLeast_88 ?_
          refine x_ishr (pc := 89) dX11_findLeast_89 ?_
          refine x_iconst (pc := 90) dX11_findLeast_90 ?_
          refine x_iand (pc := 91) dX11_findLeast_91 ?_
          refine x_if_eq (pc := 92) (t := 138) dX11_findLeast_92 (by decide) (fun e => ?_) (fun e => ?_)
          · have h := h.1 e
            refine x_iinc (pc := 138) (L' := [some (vr G r_obj), some (vi (v1)), some (vi (v2)), some (vi (v3)), some (vi (v4)), some (vi (v5 + 1))]) dX11_findLeast_138 rfl (by decide) (xst1 rfl rfl rfl) ?_
            refine x_goto (pc := 141) (t := 58) dX11_findLeast_141 (by decide) ?_
            exact h
          · have h := h.2 e
            refine x_aload_n (pc := 95) dX11_findLeast_95 rfl rfl ?_
            refine x_getR (pc := 96) (i := r_obj) (a := r_least) fl_X11_208 dX11_findLeast_96 (sN_r_obj hS) (sT_r_obj hS) rfl (sR_r_obj_77 hS) ?_
            refine x_iload_n (pc := 99) dX11_findLeast_99 rfl rfl ?_
            refine x_aload_n (pc := 100) dX11_findLeast_100 rfl rfl ?_
            refine x_getR (pc := 101) (i := r_obj) (a := r_least) fl_X11_208 dX11_findLeast_101 (sN_r_obj hS) (sT_r_obj hS) rfl (sR_r_obj_77 hS) ?_
            refine x_iload_n (pc := 104) dX11_findLeast_104 rfl rfl ?_
            refine y_iald (pc := 105) (i := r_least) (n := 5120) dX11_findLeast_105 (sN_r_least hS) (sT_r_least hS) (sL_r_least hS) h.1 ?_
            have h := h.2
            refine x_aload_n (pc := 106) dX11_findLeast_106 rfl rfl ?_
            refine x_getR (pc := 107) (i := r_obj) (a := r_least) fl_X11_208 dX11_findLeast_107 (sN_r_obj hS) (sT_r_obj hS) rfl (sR_r_obj_77 hS) ?_
            refine x_bipush (pc := 110) dX11_findLeast_110 (by decide) ?_
            refine x_iload_n (pc := 112) dX11_findLeast_112 rfl rfl ?_
            refine x_iload (pc := 113) dX11_findLeast_113 rfl ?_
            refine x_ixor (pc := 115) dX11_findLeast_115 ?_
            refine x_imul (pc := 116) dX11_findLeast_116 ?_
            refine x_iload (pc := 117) dX11_findLeast_117 rfl ?_
            refine x_iadd (pc := 119) dX11_findLeast_119 ?_
            refine y_iald (pc := 120) (i := r_least) (n := 5120) dX11_findLeast_120 (sN_r_least hS) (sT_r_least hS) (sL_r_least hS) h.1 ?_
            have h := h.2
            refine x_aload_n (pc := 121) dX11_findLeast_121 rfl rfl ?_
            refine x_getR (pc := 122) (i := r_obj) (a := r_far) fl_X11_205 dX11_findLeast_122 (sN_r_obj hS) (sT_r_obj hS) rfl (sR_r_obj_76 hS) ?_
            refine x_bipush (pc := 125) dX11_findLeast_125 (by decide) ?_
            refine x_iload (pc := 127) dX11_findLeast_127 rfl ?_
            refine x_imul (pc := 129) dX11_findLeast_129 ?_
            refine x_iload_n (pc := 130) dX11_findLeast_130 rfl rfl ?_
            refine x_iadd (pc := 131) dX11_findLeast_131 ?_
            refine y_iald (pc := 132) (i := r_far) (n := 100) dX11_findLeast_132 (sN_r_far hS) (sT_r_far hS) (sL_r_far hS) h.1 ?_
            have h := h.2
            refine x_iadd (pc := 133) dX11_findLeast_133 ?_
            refine y_Si (pc := 134) (As := [vi (I r_least (ix (v3))), vi ((I r_least (ix (((10) * (ixor (v1) (v4))) + (v5)))) + (I r_far (ix (((10) * (v5)) + (v2)))))]) (rest := [vi (v3), vr G r_least]) ok_X11_cheaper ml_X11_430 dX11_findLeast_134 rfl ⟨rfl, rfl⟩ ⟨by decide, by decide⟩ ⟨Nat.le_refl _, Nat.le_refl _⟩ (Nat.le_of_ble_eq_true rfl) rfl h (fun r4 I3 h => ?_)
            refine y_iast (pc := 137) (i := r_least) (n := 5120) dX11_findLeast_137 (sN_r_least hS) (sT_r_least hS) (sL_r_least hS) h.1 ?_
            have h := h.2
            have h := h _ rfl
            generalize up I3 r_least (ix (v3)) (r4) = I5 at h ⊢
            refine x_iinc (pc := 138) (L' := [some (vr G r_obj), some (vi (v1)), some (vi (v2)), some (vi (v3)), some (vi (v4)), some (vi (v5 + 1))]) dX11_findLeast_138 rfl (by decide) (xst1 rfl rfl rfl) ?_
            refine x_goto (pc := 141) (t := 58) dX11_findLeast_141 (by decide) ?_
            exact h
set_option maxHeartbeats 4000000 in
set_option maxRecDepth 100000 in
theorem b_R_findLightest {G : XG} {S : XS} {I : XI} {v1 : Int} {R : XI → Prop} (hS : xSh S)  (h : R_findLightest_k2 G S I (v1) (0) R) : R_findLightest G S I v1 R := by
  refine x_start [some (vr G r_obj), some (vi (v1)), none, none] (by decide) (Nat.le_of_ble_eq_true rfl) rfl ?_
  refine x_iconst (pc := 0) dX11_findLightest_0 ?_
  refine x_istore_n (pc := 1) (L' := [some (vr G r_obj), some (vi (v1)), some (vi (0)), none]) dX11_findLightest_1 rfl (by decide) (xst1 rfl rfl rfl) ?_
  exact h
set_option maxHeartbeats 4000000 in
set_option maxRecDepth 100000 in
theorem b_R_findLightest_k2 {G : XG} {S : XS}  {I : XI} {v1 : Int} {v2 : Int} {R : XI → Prop} (hS : xSh S)  (h : ((w32 (8) ≤ w32 (v2) → R_findLightest_k23 G S I (v1) (0) R) ∧ (¬ (w32 (8) ≤ w32 (v2)) → (inb (v2) 8 ∧ (∀ I1 : XI, I1 = up I r_lightest (ix (v2)) ((-1)) → R_findLightest_k2 G S I1 (v1) (v2 + 1) R))))) : R_findLightest_k2 G S  I v1 v2 R := by
  unfold R_findLightest_k2
  refine x_iload_n (pc := 2) dX11_findLightest_2 rfl rfl ?_
  refine x_bipush (pc := 3) dX11_findLightest_3 (by decide) ?_
  refine x_icmp_ge (pc := 5) (t := 21) dX11_findLightest_5 (by decide) (fun e => ?_) (fun e => ?_)
  · have h := h.1 e
    refine x_iconst (pc := 21) dX11_findLightest_21 ?_
    refine x_istore_n (pc := 22) (L' := [some (vr G r_obj), some (vi (v1)), some (vi (0)), none]) dX11_findLightest_22 rfl (by decide) (xst1 rfl rfl rfl) ?_
    exact h
  · have h := h.2 e
    refine x_aload_n (pc := 8) dX11_findLightest_8 rfl rfl ?_
    refine x_getR (pc := 9) (i := r_obj) (a := r_lightest) fl_X11_214 dX11_findLightest_9 (sN_r_obj hS) (sT_r_obj hS) rfl (sR_r_obj_82 hS) ?_
    refine x_iload_n (pc := 12) dX11_findLightest_12 rfl rfl ?_
    refine x_iconst (pc := 13) dX11_findLightest_13 ?_
    refine y_iast (pc := 14) (i := r_lightest) (n := 8) dX11_findLightest_14 (sN_r_lightest hS) (sT_r_lightest hS) (sL_r_lightest hS) h.1 ?_
    have h := h.2
    have h := h _ rfl
    generalize up I r_lightest (ix (v2)) ((-1)) = I1 at h ⊢
    refine x_iinc (pc := 15) (L' := [some (vr G r_obj), some (vi (v1)), some (vi (v2 + 1)), none]) dX11_findLightest_15 rfl (by decide) (xst1 rfl rfl rfl) ?_
    refine x_goto (pc := 18) (t := 2) dX11_findLightest_18 (by decide) ?_
    exact h
set_option maxHeartbeats 4000000 in
set_option maxRecDepth 100000 in
theorem b_R_findLightest_k23 {G : XG} {S : XS}  {I : XI} {v1 : Int} {v2 : Int} {R : XI → Prop} (hS : xSh S)  (h : ((w32 (I r_books 0) ≤ w32 (v2) → R I) ∧ (¬ (w32 (I r_books 0) ≤ w32 (v2)) → R_viewWeek G S I (fun r3 I2 => R_whoHas G S I2 (v2) (I r_now 0) (r3) (fun r5 I4 => ((w32 (r5) = w32 ((-1)) → (inb (v2) 96 ∧ (inb (v1) 24 ∧ ((w32 (I4 r_bookTongue (ix (v2))) = w32 (I4 r_campTongue (ix (v1))) → R_everHad G S I4 (v1) (v2) (fun r7 I6 => ((w32 (r7) = 0 → R_viewWeek G S I6 (fun r9 I8 => R_look G S I8 (v1) (v2) (I6 r_now 0) (r9) (fun I10 => (inb (v2) 96 ∧ R_lineOf G S I10 (0) (fun r12 I11 => ((w32 (r12) = w32 ((-1)) → (inb (I10 r_bookKind (ix (v2))) 8 ∧ ((w32 (I11 r_lightest (ix (I10 r_bookKind (ix (v2))))) = w32 ((-1)) → (inb (I10 r_bookKind (ix (v2))) 8 ∧ (∀ I13 : XI, I13 = up I11 r_lightest (ix (I10 r_bookKind (ix (v2)))) (v2) → R_findLightest_k23 G S I13 (v1) (v2 + 1) R))) ∧ (¬ (w32 (I11 r_lightest (ix (I10 r_bookKind (ix (v2))))) = w32 ((-1))) → (inb (v2) 96 ∧ (inb (I10 r_bookKind (ix (v2))) 8 ∧ (inb (I11 r_lightest (ix (I10 r_bookKind (ix (v2))))) 96 ∧ ((w32 (I11 r_bookGrams (ix (I11 r_lightest (ix (I10 r_bookKind (ix (v2))))))) ≤ w32 (I11 r_bookGrams (ix (v2))) → R_findLightest_k23 G S I11 (v1) (v2 + 1) R) ∧ (¬ (w32 (I11 r_bookGrams (ix (I11 r_lightest (ix (I10 r_bookKind (ix (v2))))))) ≤ w32 (I11 r_bookGrams (ix (v2)))) → (inb (I10 r_bookKind (ix (v2))) 8 ∧ (∀ I14 : XI, I14 = up I11 r_lightest (ix (I10 r_bookKind (ix (v2)))) (v2) → R_findLightest_k23 G S I14 (v1) (v2 + 1) R))))))))))) ∧ (¬ (w32 (r12) = w32 ((-1))) → R_findLightest_k23 G S I11 (v1) (v2 + 1) R))))))) ∧ (¬ (w32 (r7) = 0) → R_findLightest_k23 G S I6 (v1) (v2 + 1) R)))) ∧ (¬ (w32 (I4 r_bookTongue (ix (v2))) = w32 (I4 r_campTongue (ix (v1)))) → R_findLightest_k23 G S I4 (v1) (v2 + 1) R))))) ∧ (¬ (w32 (r5) = w32 ((-1))) → R_findLightest_k23 G S I4 (v1) (v2 + 1) R))))))) : R_findLightest_k23 G S  I v1 v2 R := by
  unfold R_findLightest_k23
  refine x_iload_n (pc := 23) dX11_findLightest_23 rfl rfl ?_
  refine x_aload_n (pc := 24) dX11_findLightest_24 rfl rfl ?_
  refine x_getR (pc := 25) (i := r_obj) (a := r_books) fl_X11_87 dX11_findLightest_25 (sN_r_obj hS) (sT_r_obj hS) rfl (sR_r_obj_26 hS) ?_
  refine x_iconst (pc := 28) dX11_findLightest_28 ?_
  refine y_iald (pc := 29) (i := r_books) (n := 4) dX11_findLightest_29 (sN_r_books hS) (sT_r_books hS) (sL_r_books hS) (inb_nat (k := 0) (by decide) (by decide)) ?_
  rw [show ix 0 = 0 from rfl]
  refine x_icmp_ge (pc := 30) (t := 154) dX11_findLightest_30 (by decide) (fun e => ?_) (fun e => ?_)
  · have h := h.1 e
    exact y_vret (pc := 154) dX11_findLightest_154 rfl ⟨Nat.le_refl _, Nat.le_refl _⟩ h
  · have h := h.2 e
    refine x_aload_n (pc := 33) dX11_findLightest_33 rfl rfl ?_
    refine x_iload_n (pc := 34) dX11_findLightest_34 rfl rfl ?_
    refine x_aload_n (pc := 35) dX11_findLightest_35 rfl rfl ?_
    refine x_getR (pc := 36) (i := r_obj) (a := r_now) fl_X11_23 dX11_findLightest_36 (sN_r_obj hS) (sT_r_obj hS) rfl (sR_r_obj_5 hS) ?_
    refine x_iconst (pc := 39) dX11_findLightest_39 ?_
    refine y_iald (pc := 40) (i := r_now) (n := 4) dX11_findLightest_40 (sN_r_now hS) (sT_r_now hS) (sL_r_now hS) (inb_nat (k := 0) (by decide) (by decide)) ?_
    rw [show ix 0 = 0 from rfl]
    refine x_aload_n (pc := 41) dX11_findLightest_41 rfl rfl ?_
    refine y_Vi (pc := 42) (i := r_obj) (As := []) (rest := [vi (I r_now 0), vi (v2), vr G r_obj]) ok_X11_viewWeek ml_X11_283 dX11_findLightest_42 (sN_r_obj hS) (sT_r_obj hS) (by decide) rfl rfl rfl ⟨rfl, rfl⟩ ⟨by decide, by decide⟩ ⟨Nat.le_refl _, Nat.le_refl _⟩ (Nat.le_of_ble_eq_true rfl) rfl h (fun r3 I2 h => ?_)
    refine y_Vi (pc := 45) (i := r_obj) (As := [vi (v2), vi (I r_now 0), vi (r3)]) (rest := []) ok_X11_whoHas ml_X11_297 dX11_findLightest_45 (sN_r_obj hS) (sT_r_obj hS) (by decide) rfl rfl rfl ⟨rfl, rfl⟩ ⟨by decide, by decide⟩ ⟨Nat.le_refl _, Nat.le_refl _⟩ (Nat.le_of_ble_eq_true rfl) rfl h (fun r5 I4 h => ?_)
    refine x_iconst (pc := 48) dX11_findLightest_48 ?_
    refine x_icmp_ne (pc := 49) (t := 148) dX11_findLightest_49 (by decide) (fun e => ?_) (fun e => ?_)
    · have h := h.1 e
      refine x_aload_n (pc := 52) dX11_findLightest_52 rfl rfl ?_
      refine x_getR (pc := 53) (i := r_obj) (a := r_bookTongue) fl_X11_93 dX11_findLightest_53 (sN_r_obj hS) (sT_r_obj hS) rfl (sR_r_obj_28 hS) ?_
      refine x_iload_n (pc := 56) dX11_findLightest_56 rfl rfl ?_
      refine y_iald (pc := 57) (i := r_bookTongue) (n := 96) dX11_findLightest_57 (sN_r_bookTongue hS) (sT_r_bookTongue hS) (sL_r_bookTongue hS) h.1 ?_
      have h := h.2
      refine x_aload_n (pc := 58) dX11_findLightest_58 rfl rfl ?_
      refine x_getR (pc := 59) (i := r_obj) (a := r_campTongue) fl_X11_42 dX11_findLightest_59 (sN_r_obj hS) (sT_r_obj hS) rfl (sR_r_obj_11 hS) ?_
      refine x_iload_n (pc := 62) dX11_findLightest_62 rfl rfl ?_
      refine y_iald (pc := 63) (i := r_campTongue) (n := 24) dX11_findLightest_63 (sN_r_campTongue hS) (sT_r_campTongue hS) (sL_r_campTongue hS) h.1 ?_
      have h := h.2
      refine x_icmp_ne (pc := 64) (t := 148) dX11_findLightest_64 (by decide) (fun e => ?_) (fun e => ?_)
      · have h := h.1 e
        refine x_aload_n (pc := 67) dX11_findLightest_67 rfl rfl ?_
        refine x_iload_n (pc := 68) dX11_findLightest_68 rfl rfl ?_
        refine x_iload_n (pc := 69) dX11_findLightest_69 rfl rfl ?_
        refine y_Vi (pc := 70) (i := r_obj) (As := [vi (v1), vi (v2)]) (rest := []) ok_X11_everHad ml_X11_454 dX11_findLightest_70 (sN_r_obj hS) (sT_r_obj hS) (by decide) rfl rfl rfl ⟨rfl, rfl⟩ ⟨by decide, by decide⟩ ⟨Nat.le_refl _, Nat.le_refl _⟩ (Nat.le_of_ble_eq_true rfl) rfl h (fun r7 I6 h => ?_)
        refine x_if_eq (pc := 73) (t := 79) dX11_findLightest_73 (by decide) (fun e => ?_) (fun e => ?_)
        · have h := h.1 e
          refine x_aload_n (pc := 79) dX11_findLightest_79 rfl rfl ?_
          refine x_iload_n (pc := 80) dX11_findLightest_80 rfl rfl ?_
          refine x_iload_n (pc := 81) dX11_findLightest_81 rfl rfl ?_
          refine x_aload_n (pc := 82) dX11_findLightest_82 rfl rfl ?_
          refine x_getR (pc := 83) (i := r_obj) (a := r_now) fl_X11_23 dX11_findLightest_83 (sN_r_obj hS) (sT_r_obj hS) rfl (sR_r_obj_5 hS) ?_
          refine x_iconst (pc := 86) dX11_findLightest_86 ?_
          refine y_iald (pc := 87) (i := r_now) (n := 4) dX11_findLightest_87 (sN_r_now hS) (sT_r_now hS) (sL_r_now hS) (inb_nat (k := 0) (by decide) (by decide)) ?_
          rw [show ix 0 = 0 from rfl]
          refine x_aload_n (pc := 88) dX11_findLightest_88 rfl rfl ?_
          refine y_Vi (pc := 89) (i := r_obj) (As := []) (rest := [vi (I6 r_now 0), vi (v2), vi (v1), vr G r_obj]) ok_X11_viewWeek ml_X11_283 dX11_findLightest_89 (sN_r_obj hS) (sT_r_obj hS) (by decide) rfl rfl rfl ⟨rfl, rfl⟩ ⟨by decide, by decide⟩ ⟨Nat.le_refl _, Nat.le_refl _⟩ (Nat.le_of_ble_eq_true rfl) rfl h (fun r9 I8 h => ?_)
          refine y_Vv (pc := 92) (i := r_obj) (As := [vi (v1), vi (v2), vi (I6 r_now 0), vi (r9)]) (rest := []) ok_X11_look ml_X11_320 dX11_findLightest_92 (sN_r_obj hS) (sT_r_obj hS) (by decide) rfl rfl rfl ⟨rfl, rfl⟩ ⟨by decide, by decide⟩ ⟨Nat.le_refl _, Nat.le_refl _⟩ (Nat.le_of_ble_eq_true rfl) rfl h (fun I10 h => ?_)
          refine x_aload_n (pc := 95) dX11_findLightest_95 rfl rfl ?_
          refine x_getR (pc := 96) (i := r_obj) (a := r_bookKind) fl_X11_90 dX11_findLightest_96 (sN_r_obj hS) (sT_r_obj hS) rfl (sR_r_obj_27 hS) ?_
          refine x_iload_n (pc := 99) dX11_findLightest_99 rfl rfl ?_
          refine y_iald (pc := 100) (i := r_bookKind) (n := 96) dX11_findLightest_100 (sN_r_bookKind hS) (sT_r_bookKind hS) (sL_r_bookKind hS) h.1 ?_
          have h := h.2
          refine x_istore_n (pc := 101) (L' := [some (vr G r_obj), some (vi (v1)), some (vi (v2)), some (vi (I10 r_bookKind (ix (v2))))]) dX11_findLightest_101 rfl (by decide) (xst1 rfl rfl rfl) ?_
          refine x_aload_n (pc := 102) dX11_findLightest_102 rfl rfl ?_
          refine x_iconst (pc := 103) dX11_findLightest_103 ?_
          refine y_Vi (pc := 104) (i := r_obj) (As := [vi (0)]) (rest := []) ok_X11_lineOf ml_X11_313 dX11_findLightest_104 (sN_r_obj hS) (sT_r_obj hS) (by decide) rfl rfl rfl ⟨rfl, rfl⟩ ⟨by decide, by decide⟩ ⟨Nat.le_refl _, Nat.le_refl _⟩ (Nat.le_of_ble_eq_true rfl) rfl h (fun r12 I11 h => ?_)
          refine x_iconst (pc := 107) dX11_findLightest_107 ?_
          refine x_icmp_ne (pc := 108) (t := 148) dX11_findLightest_108 (by decide) (fun e => ?_) (fun e => ?_)
          · have h := h.1 e
            refine x_aload_n (pc := 111) dX11_findLightest_111 rfl rfl ?_
            refine x_getR (pc := 112) (i := r_obj) (a := r_lightest) fl_X11_214 dX11_findLightest_112 (sN_r_obj hS) (sT_r_obj hS) rfl (sR_r_obj_82 hS) ?_
            refine x_iload_n (pc := 115) dX11_findLightest_115 rfl rfl ?_
            refine y_iald (pc := 116) (i := r_lightest) (n := 8) dX11_findLightest_116 (sN_r_lightest hS) (sT_r_lightest hS) (sL_r_lightest hS) h.1 ?_
            have h := h.2
            refine x_iconst (pc := 117) dX11_findLightest_117 ?_
            refine x_icmp_eq (pc := 118) (t := 141) dX11_findLightest_118 (by decide) (fun e => ?_) (fun e => ?_)
            · have h := h.1 e
              refine x_aload_n (pc := 141) dX11_findLightest_141 rfl rfl ?_
              refine x_getR (pc := 142) (i := r_obj) (a := r_lightest) fl_X11_214 dX11_findLightest_142 (sN_r_obj hS) (sT_r_obj hS) rfl (sR_r_obj_82 hS) ?_
              refine x_iload_n (pc := 145) dX11_findLightest_145 rfl rfl ?_
              refine x_iload_n (pc := 146) dX11_findLightest_146 rfl rfl ?_
              refine y_iast (pc := 147) (i := r_lightest) (n := 8) dX11_findLightest_147 (sN_r_lightest hS) (sT_r_lightest hS) (sL_r_lightest hS) h.1 ?_
              have h := h.2
              have h := h _ rfl
              generalize up I11 r_lightest (ix (I10 r_bookKind (ix (v2)))) (v2) = I13 at h ⊢
              refine x_iinc (pc := 148) (L' := [some (vr G r_obj), some (vi (v1)), some (vi (v2 + 1)), some (vi (I10 r_bookKind (ix (v2))))]) dX11_findLightest_148 rfl (by decide) (xst1 rfl rfl rfl) ?_
              refine x_goto (pc := 151) (t := 23) dX11_findLightest_151 (by decide) ?_
              refine x_less (L' := [some (vr G r_obj), some (vi (v1)), some (vi (v2 + 1)), none]) (And.intro rfl (And.intro rfl (And.intro rfl trivial))) ?_
              exact h
            · have h := h.2 e
              refine x_aload_n (pc := 121) dX11_findLightest_121 rfl rfl ?_
              refine x_getR (pc := 122) (i := r_obj) (a := r_bookGrams) fl_X11_102 dX11_findLightest_122 (sN_r_obj hS) (sT_r_obj hS) rfl (sR_r_obj_31 hS) ?_
              refine x_iload_n (pc := 125) dX11_findLightest_125 rfl rfl ?_
              refine y_iald (pc := 126) (i := r_bookGrams) (n := 96) dX11_findLightest_126 (sN_r_bookGrams hS) (sT_r_bookGrams hS) (sL_r_bookGrams hS) h.1 ?_
              have h := h.2
              refine x_aload_n (pc := 127) dX11_findLightest_127 rfl rfl ?_
              refine x_getR (pc := 128) (i := r_obj) (a := r_bookGrams) fl_X11_102 dX11_findLightest_128 (sN_r_obj hS) (sT_r_obj hS) rfl (sR_r_obj_31 hS) ?_
              refine x_aload_n (pc := 131) dX11_findLightest_131 rfl rfl ?_
              refine x_getR (pc := 132) (i := r_obj) (a := r_lightest) fl_X11_214 dX11_findLightest_132 (sN_r_obj hS) (sT_r_obj hS) rfl (sR_r_obj_82 hS) ?_
              refine x_iload_n (pc := 135) dX11_findLightest_135 rfl rfl ?_
              refine y_iald (pc := 136) (i := r_lightest) (n := 8) dX11_findLightest_136 (sN_r_lightest hS) (sT_r_lightest hS) (sL_r_lightest hS) h.1 ?_
              have h := h.2
              refine y_iald (pc := 137) (i := r_bookGrams) (n := 96) dX11_findLightest_137 (sN_r_bookGrams hS) (sT_r_bookGrams hS) (sL_r_bookGrams hS) h.1 ?_
              have h := h.2
              refine x_icmp_ge (pc := 138) (t := 148) dX11_findLightest_138 (by decide) (fun e => ?_) (fun e => ?_)
              · have h := h.1 e
                refine x_iinc (pc := 148) (L' := [some (vr G r_obj), some (vi (v1)), some (vi (v2 + 1)), some (vi (I10 r_bookKind (ix (v2))))]) dX11_findLightest_148 rfl (by decide) (xst1 rfl rfl rfl) ?_
                refine x_goto (pc := 151) (t := 23) dX11_findLightest_151 (by decide) ?_
                refine x_less (L' := [some (vr G r_obj), some (vi (v1)), some (vi (v2 + 1)), none]) (And.intro rfl (And.intro rfl (And.intro rfl trivial))) ?_
                exact h
              · have h := h.2 e
                refine x_aload_n (pc := 141) dX11_findLightest_141 rfl rfl ?_
                refine x_getR (pc := 142) (i := r_obj) (a := r_lightest) fl_X11_214 dX11_findLightest_142 (sN_r_obj hS) (sT_r_obj hS) rfl (sR_r_obj_82 hS) ?_
                refine x_iload_n (pc := 145) dX11_findLightest_145 rfl rfl ?_
                refine x_iload_n (pc := 146) dX11_findLightest_146 rfl rfl ?_
                refine y_iast (pc := 147) (i := r_lightest) (n := 8) dX11_findLightest_147 (sN_r_lightest hS) (sT_r_lightest hS) (sL_r_lightest hS) h.1 ?_
                have h := h.2
                have h := h _ rfl
                generalize up I11 r_lightest (ix (I10 r_bookKind (ix (v2)))) (v2) = I14 at h ⊢
                refine x_iinc (pc := 148) (L' := [some (vr G r_obj), some (vi (v1)), some (vi (v2 + 1)), some (vi (I10 r_bookKind (ix (v2))))]) dX11_findLightest_148 rfl (by decide) (xst1 rfl rfl rfl) ?_
                refine x_goto (pc := 151) (t := 23) dX11_findLightest_151 (by decide) ?_
                refine x_less (L' := [some (vr G r_obj), some (vi (v1)), some (vi (v2 + 1)), none]) (And.intro rfl (And.intro rfl (And.intro rfl trivial))) ?_
                exact h
          · have h := h.2 e
            refine x_iinc (pc := 148) (L' := [some (vr G r_obj), some (vi (v1)), some (vi (v2 + 1)), some (vi (I10 r_bookKind (ix (v2))))]) dX11_findLightest_148 rfl (by decide) (xst1 rfl rfl rfl) ?_
            refine x_goto (pc := 151) (t := 23) dX11_findLightest_151 (by decide) ?_
            refine x_less (L' := [some (vr G r_obj), some (vi (v1)), some (vi (v2 + 1)), none]) (And.intro rfl (And.intro rfl (And.intro rfl trivial))) ?_
            exact h
        · have h := h.2 e
          refine x_goto (pc := 76) (t := 148) dX11_findLightest_76 (by decide) ?_
          refine x_iinc (pc := 148) (L' := [some (vr G r_obj), some (vi (v1)), some (vi (v2 + 1)), none]) dX11_findLightest_148 rfl (by decide) (xst1 rfl rfl rfl) ?_
          refine x_goto (pc := 151) (t := 23) dX11_findLightest_151 (by decide) ?_
          exact h
      · have h := h.2 e
        refine x_iinc (pc := 148) (L' := [some (vr G r_obj), some (vi (v1)), some (vi (v2 + 1)), none]) dX11_findLightest_148 rfl (by decide) (xst1 rfl rfl rfl) ?_
        refine x_goto (pc := 151) (t := 23) dX11_findLightest_151 (by decide) ?_
        exact h
    · have h := h.2 e
      refine x_iinc (pc := 148) (L' := [some (vr G r_obj), some (vi (v1)), some (vi (v2 + 1)), none]) dX11_findLightest_148 rfl (by decide) (xst1 rfl rfl rfl) ?_
      refine x_goto (pc := 151) (t := 23) dX11_findLightest_151 (by decide) ?_
      exact h
set_option maxHeartbeats 4000000 in
set_option maxRecDepth 100000 in
theorem b_R_findParts {G : XG} {S : XS} {I : XI} {v1 : Int} {v2 : Int} {v3 : Int} {R : XI → Prop} (hS : xSh S)  (h : R_begin G S I (v1) (v3) (fun I1 => (inb (v1) 24 ∧ R_findParts_k16 G S I1 (v1) (v2) (v3) ((I1 r_campWeek (ix (v1))) + (1)) R))) : R_findParts G S I v1 v2 v3 R := by
  refine x_start [some (vr G r_obj), some (vi (v1)), some (vi (v2)), some (vi (v3)), none] (by decide) (Nat.le_of_ble_eq_true rfl) rfl ?_
  refine x_aload_n (pc := 0) dX11_findParts_0 rfl rfl ?_
  refine x_iload_n (pc := 1) dX11_findParts_1 rfl rfl ?_
  refine x_iload_n (pc := 2) dX11_findParts_2 rfl rfl ?_
  refine y_Vv (pc := 3) (i := r_obj) (As := [vi (v1), vi (v3)]) (rest := []) ok_X11_begin ml_X11_273 dX11_findParts_3 (sN_r_obj hS) (sT_r_obj hS) (by decide) rfl rfl rfl ⟨rfl, rfl⟩ ⟨by decide, by decide⟩ ⟨Nat.le_refl _, Nat.le_refl _⟩ (Nat.le_of_ble_eq_true rfl) rfl h (fun I1 h => ?_)
  refine x_aload_n (pc := 6) dX11_findParts_6 rfl rfl ?_
  refine x_getR (pc := 7) (i := r_obj) (a := r_campWeek) fl_X11_48 dX11_findParts_7 (sN_r_obj hS) (sT_r_obj hS) rfl (sR_r_obj_13 hS) ?_
  refine x_iload_n (pc := 10) dX11_findParts_10 rfl rfl ?_
  refine y_iald (pc := 11) (i := r_campWeek) (n := 24) dX11_findParts_11 (sN_r_campWeek hS) (sT_r_campWeek hS) (sL_r_campWeek hS) h.1 ?_
  have h := h.2
  refine x_iconst (pc := 12) dX11_findParts_12 ?_
  refine x_iadd (pc := 13) dX11_findParts_13 ?_
  refine x_istore (pc := 14) (L' := [some (vr G r_obj), some (vi (v1)), some (vi (v2)), some (vi (v3)), some (vi ((I1 r_campWeek (ix (v1))) + (1)))]) dX11_findParts_14 (by decide) (xst1 rfl rfl rfl) ?_
  exact h
set_option maxHeartbeats 4000000 in
set_option maxRecDepth 100000 in
theorem b_R_findParts_k16 {G : XG} {S : XS}  {I : XI} {v1 : Int} {v2 : Int} {v3 : Int} {v4 : Int} {R : XI → Prop} (hS : xSh S)  (h : ((w32 (v2) < w32 (v4) → R I) ∧ (¬ (w32 (v2) < w32 (v4)) → R_goOn G S I (v1) (v4) (v3) (fun I2 => R_findParts_k16 G S I2 (v1) (v2) (v3) (v4 + 1) R)))) : R_findParts_k16 G S  I v1 v2 v3 v4 R := by
  unfold R_findParts_k16
  refine x_iload (pc := 16) dX11_findParts_16 rfl ?_
  refine x_iload_n (pc := 18) dX11_findParts_18 rfl rfl ?_
  refine x_icmp_gt (pc := 19) (t := 36) dX11_findParts_19 (by decide) (fun e => ?_) (fun e => ?_)
  · have h := h.1 e
    exact y_vret (pc := 36) dX11_findParts_36 rfl ⟨Nat.le_refl _, Nat.le_refl _⟩ h
  · have h := h.2 e
    refine x_aload_n (pc := 22) dX11_findParts_22 rfl rfl ?_
    refine x_iload_n (pc := 23) dX11_findParts_23 rfl rfl ?_
    refine x_iload (pc := 24) dX11_findParts_24 rfl ?_
    refine x_iload_n (pc := 26) dX11_findParts_26 rfl rfl ?_
    refine y_Vv (pc := 27) (i := r_obj) (As := [vi (v1), vi (v4), vi (v3)]) (rest := []) ok_X11_goOn ml_X11_276 dX11_findParts_27 (sN_r_obj hS) (sT_r_obj hS) (by decide) rfl rfl rfl ⟨rfl, rfl⟩ ⟨by decide, by decide⟩ ⟨Nat.le_refl _, Nat.le_refl _⟩ (Nat.le_of_ble_eq_true rfl) rfl h (fun I2 h => ?_)
    refine x_iinc (pc := 30) (L' := [some (vr G r_obj), some (vi (v1)), some (vi (v2)), some (vi (v3)), some (vi (v4 + 1))]) dX11_findParts_30 rfl (by decide) (xst1 rfl rfl rfl) ?_
    refine x_goto (pc := 33) (t := 16) dX11_findParts_33 (by decide) ?_
    exact h
set_option maxHeartbeats 4000000 in
set_option maxRecDepth 100000 in
theorem b_R_findRound {G : XG} {S : XS} {I : XI} {v1 : Int} {v2 : Int} {R : Int → XI → Prop} (hS : xSh S)  (h : R_isWeek G S I (v1) (fun r2 I1 => ((w32 (r2) = 0 → R (0) I1) ∧ (¬ (w32 (r2) = 0) → R_in G S I1 (v2) (1) (60) (fun r4 I3 => ((w32 (r4) = 0 → R (0) I3) ∧ (¬ (w32 (r4) = 0) → ((w32 (I3 r_cells 0) = 0 → R (0) I3) ∧ (¬ (w32 (I3 r_cells 0) = 0) → R_findRound_k30 G S I3 (v1) (v2) (0) R))))))))) : R_findRound G S I v1 v2 R := by
  refine x_start [some (vr G r_obj), some (vi (v1)), some (vi (v2)), none, none, none, none] (by decide) (Nat.le_of_ble_eq_true rfl) rfl ?_
  refine x_iload_n (pc := 0) dX11_findRound_0 rfl rfl ?_
  refine y_Si (pc := 1) (As := [vi (v1)]) (rest := []) ok_X11_isWeek ml_X11_240 dX11_findRound_1 rfl ⟨rfl, rfl⟩ ⟨by decide, by decide⟩ ⟨Nat.le_refl _, Nat.le_refl _⟩ (Nat.le_of_ble_eq_true rfl) rfl h (fun r2 I1 h => ?_)
  refine x_if_eq (pc := 4) (t := 26) dX11_findRound_4 (by decide) (fun e => ?_) (fun e => ?_)
  · have h := h.1 e
    refine x_iconst (pc := 26) dX11_findRound_26 ?_
    exact y_zret (pc := 27) dX11_findRound_27 rfl ⟨Nat.le_refl _, Nat.le_refl _⟩ (Or.inl rfl) h
  · have h := h.2 e
    refine x_iload_n (pc := 7) dX11_findRound_7 rfl rfl ?_
    refine x_iconst (pc := 8) dX11_findRound_8 ?_
    refine x_bipush (pc := 9) dX11_findRound_9 (by decide) ?_
    refine y_Si (pc := 11) (As := [vi (v2), vi (1), vi (60)]) (rest := []) ok_X11_in ml_X11_232 dX11_findRound_11 rfl ⟨rfl, rfl⟩ ⟨by decide, by decide⟩ ⟨Nat.le_refl _, Nat.le_refl _⟩ (Nat.le_of_ble_eq_true rfl) rfl h (fun r4 I3 h => ?_)
    refine x_if_eq (pc := 14) (t := 26) dX11_findRound_14 (by decide) (fun e => ?_) (fun e => ?_)
    · have h := h.1 e
      refine x_iconst (pc := 26) dX11_findRound_26 ?_
      exact y_zret (pc := 27) dX11_findRound_27 rfl ⟨Nat.le_refl _, Nat.le_refl _⟩ (Or.inl rfl) h
    · have h := h.2 e
      refine x_aload_n (pc := 17) dX11_findRound_17 rfl rfl ?_
      refine x_getR (pc := 18) (i := r_obj) (a := r_cells) fl_X11_29 dX11_findRound_18 (sN_r_obj hS) (sT_r_obj hS) rfl (sR_r_obj_7 hS) ?_
      refine x_iconst (pc := 21) dX11_findRound_21 ?_
      refine y_iald (pc := 22) (i := r_cells) (n := 4) dX11_findRound_22 (sN_r_cells hS) (sT_r_cells hS) (sL_r_cells hS) (inb_nat (k := 0) (by decide) (by decide)) ?_
      rw [show ix 0 = 0 from rfl]
      refine x_if_ne (pc := 23) (t := 28) dX11_findRound_23 (by decide) (fun e => ?_) (fun e => ?_)
      · have h := h.1 e
        refine x_iconst (pc := 26) dX11_findRound_26 ?_
        exact y_zret (pc := 27) dX11_findRound_27 rfl ⟨Nat.le_refl _, Nat.le_refl _⟩ (Or.inl rfl) h
      · have h := h.2 e
        refine x_iconst (pc := 28) dX11_findRound_28 ?_
        refine x_istore_n (pc := 29) (L' := [some (vr G r_obj), some (vi (v1)), some (vi (v2)), some (vi (0)), none, none, none]) dX11_findRound_29 rfl (by decide) (xst1 rfl rfl rfl) ?_
        exact h
set_option maxHeartbeats 4000000 in
set_option maxRecDepth 100000 in
theorem b_R_findRound_k30 {G : XG} {S : XS}  {I : XI} {v1 : Int} {v2 : Int} {v3 : Int} {R : Int → XI → Prop} (hS : xSh S)  (h : ((w32 (10) ≤ w32 (v3) → R_findRound_k51 G S I (v1) (v2) (0) R) ∧ (¬ (w32 (10) ≤ w32 (v3)) → (inb (v3) 10 ∧ (∀ I5 : XI, I5 = up I r_meets (ix (v3)) (0) → R_findRound_k30 G S I5 (v1) (v2) (v3 + 1) R))))) : R_findRound_k30 G S  I v1 v2 v3 R := by
  unfold R_findRound_k30
  refine x_iload_n (pc := 30) dX11_findRound_30 rfl rfl ?_
  refine x_bipush (pc := 31) dX11_findRound_31 (by decide) ?_
  refine x_icmp_ge (pc := 33) (t := 49) dX11_findRound_33 (by decide) (fun e => ?_) (fun e => ?_)
  · have h := h.1 e
    refine x_iconst (pc := 49) dX11_findRound_49 ?_
    refine x_istore_n (pc := 50) (L' := [some (vr G r_obj), some (vi (v1)), some (vi (v2)), some (vi (0)), none, none, none]) dX11_findRound_50 rfl (by decide) (xst1 rfl rfl rfl) ?_
    exact h
  · have h := h.2 e
    refine x_aload_n (pc := 36) dX11_findRound_36 rfl rfl ?_
    refine x_getR (pc := 37) (i := r_obj) (a := r_meets) fl_X11_211 dX11_findRound_37 (sN_r_obj hS) (sT_r_obj hS) rfl (sR_r_obj_78 hS) ?_
    refine x_iload_n (pc := 40) dX11_findRound_40 rfl rfl ?_
    refine x_iconst (pc := 41) dX11_findRound_41 ?_
    refine y_iast (pc := 42) (i := r_meets) (n := 10) dX11_findRound_42 (sN_r_meets hS) (sT_r_meets hS) (sL_r_meets hS) h.1 ?_
    have h := h.2
    have h := h _ rfl
    generalize up I r_meets (ix (v3)) (0) = I5 at h ⊢
    refine x_iinc (pc := 43) (L' := [some (vr G r_obj), some (vi (v1)), some (vi (v2)), some (vi (v3 + 1)), none, none, none]) dX11_findRound_43 rfl (by decide) (xst1 rfl rfl rfl) ?_
    refine x_goto (pc := 46) (t := 30) dX11_findRound_46 (by decide) ?_
    exact h
set_option maxHeartbeats 4000000 in
set_option maxRecDepth 100000 in
theorem b_R_findRound_k51 {G : XG} {S : XS}  {I : XI} {v1 : Int} {v2 : Int} {v3 : Int} {R : Int → XI → Prop} (hS : xSh S)  (h : ((w32 (I r_camps 0) ≤ w32 (v3) → R_findFar G S I (fun I6 => R_findLeast G S I6 (fun I7 => (∀ I8 : XI, I8 = up I7 r_obj 79 ((-1)) → (∀ I9 : XI, I9 = up I8 r_obj 80 (0) → (∀ I10 : XI, I10 = up I9 r_obj 81 (0) → R_findRound_k144 G S I10 (v2) (0) R)))))) ∧ (¬ (w32 (I r_camps 0) ≤ w32 (v3)) → R_isThere G S I (v3) (v1) (fun r12 I11 => ((w32 (r12) = 0 → R_findRound_k51 G S I11 (v1) (v2) (v3 + 1) R) ∧ (¬ (w32 (r12) = 0) → R_viewWeek G S I11 (fun r14 I13 => R_findParts G S I13 (v3) (v1) (r14) (fun I15 => R_findRound_k83 G S I15 (v1) (v2) (v3) (0) R)))))))) : R_findRound_k51 G S  I v1 v2 v3 R := by
  unfold R_findRound_k51
  refine x_iload_n (pc := 51) dX11_findRound_51 rfl rfl ?_
  refine x_aload_n (pc := 52) dX11_findRound_52 rfl rfl ?_
  refine x_getR (pc := 53) (i := r_obj) (a := r_camps) fl_X11_39 dX11_findRound_53 (sN_r_obj hS) (sT_r_obj hS) rfl (sR_r_obj_10 hS) ?_
  refine x_iconst (pc := 56) dX11_findRound_56 ?_
  refine y_iald (pc := 57) (i := r_camps) (n := 4) dX11_findRound_57 (sN_r_camps hS) (sT_r_camps hS) (sL_r_camps hS) (inb_nat (k := 0) (by decide) (by decide)) ?_
  rw [show ix 0 = 0 from rfl]
  refine x_icmp_ge (pc := 58) (t := 119) dX11_findRound_58 (by decide) (fun e => ?_) (fun e => ?_)
  · have h := h.1 e
    refine x_aload_n (pc := 119) dX11_findRound_119 rfl rfl ?_
    refine y_Vv (pc := 120) (i := r_obj) (As := []) (rest := []) ok_X11_findFar ml_X11_433 dX11_findRound_120 (sN_r_obj hS) (sT_r_obj hS) (by decide) rfl rfl rfl ⟨rfl, rfl⟩ ⟨by decide, by decide⟩ ⟨Nat.le_refl _, Nat.le_refl _⟩ (Nat.le_of_ble_eq_true rfl) rfl h (fun I6 h => ?_)
    refine x_aload_n (pc := 123) dX11_findRound_123 rfl rfl ?_
    refine y_Vv (pc := 124) (i := r_obj) (As := []) (rest := []) ok_X11_findLeast ml_X11_436 dX11_findRound_124 (sN_r_obj hS) (sT_r_obj hS) (by decide) rfl rfl rfl ⟨rfl, rfl⟩ ⟨by decide, by decide⟩ ⟨Nat.le_refl _, Nat.le_refl _⟩ (Nat.le_of_ble_eq_true rfl) rfl h (fun I7 h => ?_)
    refine x_aload_n (pc := 127) dX11_findRound_127 rfl rfl ?_
    refine x_iconst (pc := 128) dX11_findRound_128 ?_
    refine x_putI (pc := 129) (i := r_obj) fl_X11_439 dX11_findRound_129 (sN_r_obj hS) (sT_r_obj hS) rfl ?_
    have h := h _ rfl
    generalize up I7 r_obj 79 ((-1)) = I8 at h ⊢
    refine x_aload_n (pc := 132) dX11_findRound_132 rfl rfl ?_
    refine x_iconst (pc := 133) dX11_findRound_133 ?_
    refine x_putI (pc := 134) (i := r_obj) fl_X11_442 dX11_findRound_134 (sN_r_obj hS) (sT_r_obj hS) rfl ?_
    have h := h _ rfl
    generalize up I8 r_obj 80 (0) = I9 at h ⊢
    refine x_aload_n (pc := 137) dX11_findRound_137 rfl rfl ?_
    refine x_iconst (pc := 138) dX11_findRound_138 ?_
    refine x_putI (pc := 139) (i := r_obj) fl_X11_445 dX11_findRound_139 (sN_r_obj hS) (sT_r_obj hS) rfl ?_
    have h := h _ rfl
    generalize up I9 r_obj 81 (0) = I10 at h ⊢
    refine x_iconst (pc := 142) dX11_findRound_142 ?_
    refine x_istore_n (pc := 143) (L' := [some (vr G r_obj), some (vi (v1)), some (vi (v2)), some (vi (0)), none, none, none]) dX11_findRound_143 rfl (by decide) (xst1 rfl rfl rfl) ?_
    refine x_less (L' := [some (vr G r_obj), none, some (vi (v2)), some (vi (0)), none, none, none]) (And.intro rfl (And.intro rfl (And.intro rfl trivial))) ?_
    exact h
  · have h := h.2 e
    refine x_aload_n (pc := 61) dX11_findRound_61 rfl rfl ?_
    refine x_iload_n (pc := 62) dX11_findRound_62 rfl rfl ?_
    refine x_iload_n (pc := 63) dX11_findRound_63 rfl rfl ?_
    refine y_Vi (pc := 64) (i := r_obj) (As := [vi (v3), vi (v1)]) (rest := []) ok_X11_isThere ml_X11_279 dX11_findRound_64 (sN_r_obj hS) (sT_r_obj hS) (by decide) rfl rfl rfl ⟨rfl, rfl⟩ ⟨by decide, by decide⟩ ⟨Nat.le_refl _, Nat.le_refl _⟩ (Nat.le_of_ble_eq_true rfl) rfl h (fun r12 I11 h => ?_)
    refine x_if_eq (pc := 67) (t := 113) dX11_findRound_67 (by decide) (fun e => ?_) (fun e => ?_)
    · have h := h.1 e
      refine x_iinc (pc := 113) (L' := [some (vr G r_obj), some (vi (v1)), some (vi (v2)), some (vi (v3 + 1)), none, none, none]) dX11_findRound_113 rfl (by decide) (xst1 rfl rfl rfl) ?_
      refine x_goto (pc := 116) (t := 51) dX11_findRound_116 (by decide) ?_
      exact h
    · have h := h.2 e
      refine x_aload_n (pc := 70) dX11_findRound_70 rfl rfl ?_
      refine x_iload_n (pc := 71) dX11_findRound_71 rfl rfl ?_
      refine x_iload_n (pc := 72) dX11_findRound_72 rfl rfl ?_
      refine x_aload_n (pc := 73) dX11_findRound_73 rfl rfl ?_
      refine y_Vi (pc := 74) (i := r_obj) (As := []) (rest := [vi (v1), vi (v3), vr G r_obj]) ok_X11_viewWeek ml_X11_283 dX11_findRound_74 (sN_r_obj hS) (sT_r_obj hS) (by decide) rfl rfl rfl ⟨rfl, rfl⟩ ⟨by decide, by decide⟩ ⟨Nat.le_refl _, Nat.le_refl _⟩ (Nat.le_of_ble_eq_true rfl) rfl h (fun r14 I13 h => ?_)
      refine y_Vv (pc := 77) (i := r_obj) (As := [vi (v3), vi (v1), vi (r14)]) (rest := []) ok_X11_findParts ml_X11_287 dX11_findRound_77 (sN_r_obj hS) (sT_r_obj hS) (by decide) rfl rfl rfl ⟨rfl, rfl⟩ ⟨by decide, by decide⟩ ⟨Nat.le_refl _, Nat.le_refl _⟩ (Nat.le_of_ble_eq_true rfl) rfl h (fun I15 h => ?_)
      refine x_iconst (pc := 80) dX11_findRound_80 ?_
      refine x_istore (pc := 81) (L' := [some (vr G r_obj), some (vi (v1)), some (vi (v2)), some (vi (v3)), some (vi (0)), none, none]) dX11_findRound_81 (by decide) (xst1 rfl rfl rfl) ?_
      exact h
set_option maxHeartbeats 4000000 in
set_option maxRecDepth 100000 in
theorem b_R_findRound_k144 {G : XG} {S : XS}  {I : XI} {v2 : Int} {v3 : Int} {R : Int → XI → Prop} (hS : xSh S)  (h : ((w32 (512) ≤ w32 (v3) → R (1) I) ∧ (¬ (w32 (512) ≤ w32 (v3)) → ((w32 (I r_wells 0) = 0 → R_findRound_k178 G S I (v2) (v3) (0) (1) (1) R) ∧ (¬ (w32 (I r_wells 0) = 0) → R_findRound_k178 G S I (v2) (v3) (I r_meets 0) (1) (1) R))))) : R_findRound_k144 G S  I v2 v3 R := by
  unfold R_findRound_k144
  refine x_iload_n (pc := 144) dX11_findRound_144 rfl rfl ?_
  refine x_sipush (pc := 145) dX11_findRound_145 (by decide) ?_
  refine x_icmp_ge (pc := 148) (t := 323) dX11_findRound_148 (by decide) (fun e => ?_) (fun e => ?_)
  · have h := h.1 e
    refine x_iconst (pc := 323) dX11_findRound_323 ?_
    exact y_zret (pc := 324) dX11_findRound_324 rfl ⟨Nat.le_refl _, Nat.le_refl _⟩ (Or.inr rfl) h
  · have h := h.2 e
    refine x_aload_n (pc := 151) dX11_findRound_151 rfl rfl ?_
    refine x_getR (pc := 152) (i := r_obj) (a := r_wells) fl_X11_32 dX11_findRound_152 (sN_r_obj hS) (sT_r_obj hS) rfl (sR_r_obj_8 hS) ?_
    refine x_iconst (pc := 155) dX11_findRound_155 ?_
    refine y_zald (pc := 156) (i := r_wells) (n := 40) dX11_findRound_156 (sN_r_wells hS) (sT_r_wells hS) (sL_r_wells hS) (inb_nat (k := 0) (by decide) (by decide)) ?_
    rw [show ix 0 = 0 from rfl]
    refine x_if_eq (pc := 157) (t := 169) dX11_findRound_157 (by decide) (fun e => ?_) (fun e => ?_)
    · have h := h.1 e
      refine x_iconst (pc := 169) dX11_findRound_169 ?_
      refine x_istore (pc := 170) (L' := [some (vr G r_obj), none, some (vi (v2)), some (vi (v3)), some (vi (0)), none, none]) dX11_findRound_170 (by decide) (xst1 rfl rfl rfl) ?_
      refine x_iconst (pc := 172) dX11_findRound_172 ?_
      refine x_istore (pc := 173) (L' := [some (vr G r_obj), none, some (vi (v2)), some (vi (v3)), some (vi (0)), some (vi (1)), none]) dX11_findRound_173 (by decide) (xst1 rfl rfl rfl) ?_
      refine x_iconst (pc := 175) dX11_findRound_175 ?_
      refine x_istore (pc := 176) (L' := [some (vr G r_obj), none, some (vi (v2)), some (vi (v3)), some (vi (0)), some (vi (1)), some (vi (1))]) dX11_findRound_176 (by decide) (xst1 rfl rfl rfl) ?_
      exact h
    · have h := h.2 e
      refine x_aload_n (pc := 160) dX11_findRound_160 rfl rfl ?_
      refine x_getR (pc := 161) (i := r_obj) (a := r_meets) fl_X11_211 dX11_findRound_161 (sN_r_obj hS) (sT_r_obj hS) rfl (sR_r_obj_78 hS) ?_
      refine x_iconst (pc := 164) dX11_findRound_164 ?_
      refine y_iald (pc := 165) (i := r_meets) (n := 10) dX11_findRound_165 (sN_r_meets hS) (sT_r_meets hS) (sL_r_meets hS) (inb_nat (k := 0) (by decide) (by decide)) ?_
      rw [show ix 0 = 0 from rfl]
      refine x_goto (pc := 166) (t := 170) dX11_findRound_166 (by decide) ?_
      refine x_istore (pc := 170) (L' := [some (vr G r_obj), none, some (vi (v2)), some (vi (v3)), some (vi (I r_meets 0)), none, none]) dX11_findRound_170 (by decide) (xst1 rfl rfl rfl) ?_
      refine x_iconst (pc := 172) dX11_findRound_172 ?_
      refine x_istore (pc := 173) (L' := [some (vr G r_obj), none, some (vi (v2)), some (vi (v3)), some (vi (I r_meets 0)), some (vi (1)), none]) dX11_findRound_173 (by decide) (xst1 rfl rfl rfl) ?_
      refine x_iconst (pc := 175) dX11_findRound_175 ?_
      refine x_istore (pc := 176) (L' := [some (vr G r_obj), none, some (vi (v2)), some (vi (v3)), some (vi (I r_meets 0)), some (vi (1)), some (vi (1))]) dX11_findRound_176 (by decide) (xst1 rfl rfl rfl) ?_
      exact h
set_option maxHeartbeats 4000000 in
set_option maxRecDepth 100000 in
theorem b_R_findRound_k83 {G : XG} {S : XS}  {I : XI} {v1 : Int} {v2 : Int} {v3 : Int} {v4 : Int} {R : Int → XI → Prop} (hS : xSh S)  (h : ((w32 (10) ≤ w32 (v4) → R_findRound_k51 G S I (v1) (v2) (v3 + 1) R) ∧ (¬ (w32 (10) ≤ w32 (v4)) → (inb (v4) 10 ∧ (inb (v4) 10 ∧ (inb (v4) 10 ∧ (∀ I16 : XI, I16 = up I r_meets (ix (v4)) ((I r_meets (ix (v4))) + (I r_parts (ix (v4)))) → R_findRound_k83 G S I16 (v1) (v2) (v3) (v4 + 1) R))))))) : R_findRound_k83 G S  I v1 v2 v3 v4 R := by
  unfold R_findRound_k83
  refine x_iload (pc := 83) dX11_findRound_83 rfl ?_
  refine x_bipush (pc := 85) dX11_findRound_85 (by decide) ?_
  refine x_icmp_ge (pc := 87) (t := 113) dX11_findRound_87 (by decide) (fun e => ?_) (fun e => ?_)
  · have h := h.1 e
    refine x_iinc (pc := 113) (L' := [some (vr G r_obj), some (vi (v1)), some (vi (v2)), some (vi (v3 + 1)), some (vi (v4)), none, none]) dX11_findRound_113 rfl (by decide) (xst1 rfl rfl rfl) ?_
    refine x_goto (pc := 116) (t := 51) dX11_findRound_116 (by decide) ?_
    refine x_less (L' := [some (vr G r_obj), some (vi (v1)), some (vi (v2)), some (vi (v3 + 1)), none, none, none]) (And.intro rfl (And.intro rfl (And.intro rfl (And.intro rfl trivial)))) ?_
    exact h
  · have h := h.2 e
    refine x_aload_n (pc := 90) dX11_findRound_90 rfl rfl ?_
    refine x_getR (pc := 91) (i := r_obj) (a := r_meets) fl_X11_211 dX11_findRound_91 (sN_r_obj hS) (sT_r_obj hS) rfl (sR_r_obj_78 hS) ?_
    refine x_iload (pc := 94) dX11_findRound_94 rfl ?_
    refine x_dup2 (pc := 96) dX11_findRound_96 rfl rfl ?_
    refine y_iald (pc := 97) (i := r_meets) (n := 10) dX11_findRound_97 (sN_r_meets hS) (sT_r_meets hS) (sL_r_meets hS) h.1 ?_
    have h := h.2
    refine x_aload_n (pc := 98) dX11_findRound_98 rfl rfl ?_
    refine x_getR (pc := 99) (i := r_obj) (a := r_parts) fl_X11_165 dX11_findRound_99 (sN_r_obj hS) (sT_r_obj hS) rfl (sR_r_obj_52 hS) ?_
    refine x_iload (pc := 102) dX11_findRound_102 rfl ?_
    refine y_iald (pc := 104) (i := r_parts) (n := 10) dX11_findRound_104 (sN_r_parts hS) (sT_r_parts hS) (sL_r_parts hS) h.1 ?_
    have h := h.2
    refine x_iadd (pc := 105) dX11_findRound_105 ?_
    refine y_iast (pc := 106) (i := r_meets) (n := 10) dX11_findRound_106 (sN_r_meets hS) (sT_r_meets hS) (sL_r_meets hS) h.1 ?_
    have h := h.2
    have h := h _ rfl
    generalize up I r_meets (ix (v4)) ((I r_meets (ix (v4))) + (I r_parts (ix (v4)))) = I16 at h ⊢
    refine x_iinc (pc := 107) (L' := [some (vr G r_obj), some (vi (v1)), some (vi (v2)), some (vi (v3)), some (vi (v4 + 1)), none, none]) dX11_findRound_107 rfl (by decide) (xst1 rfl rfl rfl) ?_
    refine x_goto (pc := 110) (t := 83) dX11_findRound_110 (by decide) ?_
    exact h
set_option maxHeartbeats 4000000 in
set_option maxRecDepth 100000 in
theorem b_R_findRound_k178 {G : XG} {S : XS}  {I : XI} {v2 : Int} {v3 : Int} {v4 : Int} {v5 : Int} {v6 : Int} {R : Int → XI → Prop} (hS : xSh S)  (h : ((w32 (10) ≤ w32 (v6) → R_daysOf G S I (v3) (fun r18 I17 => ((w32 (v5) = 0 → R_findRound_k144 G S I17 (v2) (v3 + 1) R) ∧ (¬ (w32 (v5) = 0) → ((w32 (v2) < w32 (r18) → R_findRound_k144 G S I17 (v2) (v3 + 1) R) ∧ (¬ (w32 (v2) < w32 (r18)) → ((w32 (I17 r_obj 79) = w32 ((-1)) → R_findRound_k300 G S I17 (v2) (v3) (v4) (r18) R) ∧ (¬ (w32 (I17 r_obj 79) = w32 ((-1))) → ((w32 (I17 r_obj 80) < w32 (v4) → R_findRound_k300 G S I17 (v2) (v3) (v4) (r18) R) ∧ (¬ (w32 (I17 r_obj 80) < w32 (v4)) → ((w32 (v4) = w32 (I17 r_obj 80) → ((w32 (I17 r_obj 81) ≤ w32 (r18) → R_findRound_k144 G S I17 (v2) (v3 + 1) R) ∧ (¬ (w32 (I17 r_obj 81) ≤ w32 (r18)) → R_findRound_k300 G S I17 (v2) (v3) (v4) (r18) R))) ∧ (¬ (w32 (v4) = w32 (I17 r_obj 80)) → R_findRound_k144 G S I17 (v2) (v3 + 1) R)))))))))))) ∧ (¬ (w32 (10) ≤ w32 (v6)) → ((w32 (iand (ishr (v3) ((v6) - (1))) (1)) = 0 → R_findRound_k178 G S I (v2) (v3) (v4) (v5) (v6 + 1) R) ∧ (¬ (w32 (iand (ishr (v3) ((v6) - (1))) (1)) = 0) → ((w32 (v5) = 0 → R_findRound_k227 G S I (v2) (v3) (v4) (v6) (0) R) ∧ (¬ (w32 (v5) = 0) → ((w32 (I r_cells 0) ≤ w32 (v6) → R_findRound_k227 G S I (v2) (v3) (v4) (v6) (0) R) ∧ (¬ (w32 (I r_cells 0) ≤ w32 (v6)) → (inb (v6) 40 ∧ ((w32 (I r_wells (ix (v6))) = 0 → R_findRound_k227 G S I (v2) (v3) (v4) (v6) (0) R) ∧ (¬ (w32 (I r_wells (ix (v6))) = 0) → R_findRound_k227 G S I (v2) (v3) (v4) (v6) (1) R)))))))))))) : R_findRound_k178 G S  I v2 v3 v4 v5 v6 R := by
  unfold R_findRound_k178
  refine x_iload (pc := 178) dX11_findRound_178 rfl ?_
  refine x_bipush (pc := 180) dX11_findRound_180 (by decide) ?_
  refine x_icmp_ge (pc := 182) (t := 247) dX11_findRound_182 (by decide) (fun e => ?_) (fun e => ?_)
  · have h := h.1 e
    refine x_aload_n (pc := 247) dX11_findRound_247 rfl rfl ?_
    refine x_iload_n (pc := 248) dX11_findRound_248 rfl rfl ?_
    refine y_Vi (pc := 249) (i := r_obj) (As := [vi (v3)]) (rest := []) ok_X11_daysOf ml_X11_448 dX11_findRound_249 (sN_r_obj hS) (sT_r_obj hS) (by decide) rfl rfl rfl ⟨rfl, rfl⟩ ⟨by decide, by decide⟩ ⟨Nat.le_refl _, Nat.le_refl _⟩ (Nat.le_of_ble_eq_true rfl) rfl h (fun r18 I17 h => ?_)
    refine x_istore (pc := 252) (L' := [some (vr G r_obj), none, some (vi (v2)), some (vi (v3)), some (vi (v4)), some (vi (v5)), some (vi (r18))]) dX11_findRound_252 (by decide) (xst1 rfl rfl rfl) ?_
    refine x_iload (pc := 254) dX11_findRound_254 rfl ?_
    refine x_if_eq (pc := 256) (t := 317) dX11_findRound_256 (by decide) (fun e => ?_) (fun e => ?_)
    · have h := h.1 e
      refine x_iinc (pc := 317) (L' := [some (vr G r_obj), none, some (vi (v2)), some (vi (v3 + 1)), some (vi (v4)), some (vi (v5)), some (vi (r18))]) dX11_findRound_317 rfl (by decide) (xst1 rfl rfl rfl) ?_
      refine x_goto (pc := 320) (t := 144) dX11_findRound_320 (by decide) ?_
      refine x_less (L' := [some (vr G r_obj), none, some (vi (v2)), some (vi (v3 + 1)), none, none, none]) (And.intro rfl (And.intro rfl (And.intro rfl trivial))) ?_
      exact h
    · have h := h.2 e
      refine x_iload (pc := 259) dX11_findRound_259 rfl ?_
      refine x_iload_n (pc := 261) dX11_findRound_261 rfl rfl ?_
      refine x_icmp_gt (pc := 262) (t := 317) dX11_findRound_262 (by decide) (fun e => ?_) (fun e => ?_)
      · have h := h.1 e
        refine x_iinc (pc := 317) (L' := [some (vr G r_obj), none, some (vi (v2)), some (vi (v3 + 1)), some (vi (v4)), some (vi (v5)), some (vi (r18))]) dX11_findRound_317 rfl (by decide) (xst1 rfl rfl rfl) ?_
        refine x_goto (pc := 320) (t := 144) dX11_findRound_320 (by decide) ?_
        refine x_less (L' := [some (vr G r_obj), none, some (vi (v2)), some (vi (v3 + 1)), none, none, none]) (And.intro rfl (And.intro rfl (And.intro rfl trivial))) ?_
        exact h
      · have h := h.2 e
        refine x_aload_n (pc := 265) dX11_findRound_265 rfl rfl ?_
        refine x_getI (pc := 266) (i := r_obj) fl_X11_439 dX11_findRound_266 (sN_r_obj hS) (sT_r_obj hS) rfl ?_
        refine x_iconst (pc := 269) dX11_findRound_269 ?_
        refine x_icmp_eq (pc := 270) (t := 300) dX11_findRound_270 (by decide) (fun e => ?_) (fun e => ?_)
        · have h := h.1 e
          refine x_less (L' := [some (vr G r_obj), none, some (vi (v2)), some (vi (v3)), some (vi (v4)), none, some (vi (r18))]) (And.intro rfl (And.intro rfl (And.intro rfl (And.intro rfl (And.intro rfl trivial))))) ?_
          exact h
        · have h := h.2 e
          refine x_iload (pc := 273) dX11_findRound_273 rfl ?_
          refine x_aload_n (pc := 275) dX11_findRound_275 rfl rfl ?_
          refine x_getI (pc := 276) (i := r_obj) fl_X11_442 dX11_findRound_276 (sN_r_obj hS) (sT_r_obj hS) rfl ?_
          refine x_icmp_gt (pc := 279) (t := 300) dX11_findRound_279 (by decide) (fun e => ?_) (fun e => ?_)
          · have h := h.1 e
            refine x_less (L' := [some (vr G r_obj), none, some (vi (v2)), some (vi (v3)), some (vi (v4)), none, some (vi (r18))]) (And.intro rfl (And.intro rfl (And.intro rfl (And.intro rfl (And.intro rfl trivial))))) ?_
            exact h
          · have h := h.2 e
            refine x_iload (pc := 282) dX11_findRound_282 rfl ?_
            refine x_aload_n (pc := 284) dX11_findRound_284 rfl rfl ?_
            refine x_getI (pc := 285) (i := r_obj) fl_X11_442 dX11_findRound_285 (sN_r_obj hS) (sT_r_obj hS) rfl ?_
            refine x_icmp_ne (pc := 288) (t := 317) dX11_findRound_288 (by decide) (fun e => ?_) (fun e => ?_)
            · have h := h.1 e
              refine x_iload (pc := 291) dX11_findRound_291 rfl ?_
              refine x_aload_n (pc := 293) dX11_findRound_293 rfl rfl ?_
              refine x_getI (pc := 294) (i := r_obj) fl_X11_445 dX11_findRound_294 (sN_r_obj hS) (sT_r_obj hS) rfl ?_
              refine x_icmp_ge (pc := 297) (t := 317) dX11_findRound_297 (by decide) (fun e => ?_) (fun e => ?_)
              · have h := h.1 e
                refine x_iinc (pc := 317) (L' := [some (vr G r_obj), none, some (vi (v2)), some (vi (v3 + 1)), some (vi (v4)), some (vi (v5)), some (vi (r18))]) dX11_findRound_317 rfl (by decide) (xst1 rfl rfl rfl) ?_
                refine x_goto (pc := 320) (t := 144) dX11_findRound_320 (by decide) ?_
                refine x_less (L' := [some (vr G r_obj), none, some (vi (v2)), some (vi (v3 + 1)), none, none, none]) (And.intro rfl (And.intro rfl (And.intro rfl trivial))) ?_
                exact h
              · have h := h.2 e
                refine x_less (L' := [some (vr G r_obj), none, some (vi (v2)), some (vi (v3)), some (vi (v4)), none, some (vi (r18))]) (And.intro rfl (And.intro rfl (And.intro rfl (And.intro rfl (And.intro rfl trivial))))) ?_
                exact h
            · have h := h.2 e
              refine x_iinc (pc := 317) (L' := [some (vr G r_obj), none, some (vi (v2)), some (vi (v3 + 1)), some (vi (v4)), some (vi (v5)), some (vi (r18))]) dX11_findRound_317 rfl (by decide) (xst1 rfl rfl rfl) ?_
              refine x_goto (pc := 320) (t := 144) dX11_findRound_320 (by decide) ?_
              refine x_less (L' := [some (vr G r_obj), none, some (vi (v2)), some (vi (v3 + 1)), none, none, none]) (And.intro rfl (And.intro rfl (And.intro rfl trivial))) ?_
              exact h
  · have h := h.2 e
    refine x_iload_n (pc := 185) dX11_findRound_185 rfl rfl ?_
    refine x_iload (pc := 186) dX11_findRound_186 rfl ?_
    refine x_iconst (pc := 188) dX11_findRound_188 ?_
    refine x_isub (pc := 189) dX11_findRound_189 ?_
    refine x_ishr (pc := 190) dX11_findRound_190 ?_
    refine x_iconst (pc := 191) dX11_findRound_191 ?_
    refine x_iand (pc := 192) dX11_findRound_192 ?_
    refine x_if_eq (pc := 193) (t := 241) dX11_findRound_193 (by decide) (fun e => ?_) (fun e => ?_)
    · have h := h.1 e
      refine x_iinc (pc := 241) (L' := [some (vr G r_obj), none, some (vi (v2)), some (vi (v3)), some (vi (v4)), some (vi (v5)), some (vi (v6 + 1))]) dX11_findRound_241 rfl (by decide) (xst1 rfl rfl rfl) ?_
      refine x_goto (pc := 244) (t := 178) dX11_findRound_244 (by decide) ?_
      exact h
    · have h := h.2 e
      refine x_iload (pc := 196) dX11_findRound_196 rfl ?_
      refine x_if_eq (pc := 198) (t := 226) dX11_findRound_198 (by decide) (fun e => ?_) (fun e => ?_)
      · have h := h.1 e
        refine x_iconst (pc := 226) dX11_findRound_226 ?_
        refine x_less (L' := [some (vr G r_obj), none, some (vi (v2)), some (vi (v3)), some (vi (v4)), none, some (vi (v6))]) (And.intro rfl (And.intro rfl (And.intro rfl (And.intro rfl (And.intro rfl trivial))))) ?_
        exact h
      · have h := h.2 e
        refine x_iload (pc := 201) dX11_findRound_201 rfl ?_
        refine x_aload_n (pc := 203) dX11_findRound_203 rfl rfl ?_
        refine x_getR (pc := 204) (i := r_obj) (a := r_cells) fl_X11_29 dX11_findRound_204 (sN_r_obj hS) (sT_r_obj hS) rfl (sR_r_obj_7 hS) ?_
        refine x_iconst (pc := 207) dX11_findRound_207 ?_
        refine y_iald (pc := 208) (i := r_cells) (n := 4) dX11_findRound_208 (sN_r_cells hS) (sT_r_cells hS) (sL_r_cells hS) (inb_nat (k := 0) (by decide) (by decide)) ?_
        rw [show ix 0 = 0 from rfl]
        refine x_icmp_ge (pc := 209) (t := 226) dX11_findRound_209 (by decide) (fun e => ?_) (fun e => ?_)
        · have h := h.1 e
          refine x_iconst (pc := 226) dX11_findRound_226 ?_
          refine x_less (L' := [some (vr G r_obj), none, some (vi (v2)), some (vi (v3)), some (vi (v4)), none, some (vi (v6))]) (And.intro rfl (And.intro rfl (And.intro rfl (And.intro rfl (And.intro rfl trivial))))) ?_
          exact h
        · have h := h.2 e
          refine x_aload_n (pc := 212) dX11_findRound_212 rfl rfl ?_
          refine x_getR (pc := 213) (i := r_obj) (a := r_wells) fl_X11_32 dX11_findRound_213 (sN_r_obj hS) (sT_r_obj hS) rfl (sR_r_obj_8 hS) ?_
          refine x_iload (pc := 216) dX11_findRound_216 rfl ?_
          refine y_zald (pc := 218) (i := r_wells) (n := 40) dX11_findRound_218 (sN_r_wells hS) (sT_r_wells hS) (sL_r_wells hS) h.1 ?_
          have h := h.2
          refine x_if_eq (pc := 219) (t := 226) dX11_findRound_219 (by decide) (fun e => ?_) (fun e => ?_)
          · have h := h.1 e
            refine x_iconst (pc := 226) dX11_findRound_226 ?_
            refine x_less (L' := [some (vr G r_obj), none, some (vi (v2)), some (vi (v3)), some (vi (v4)), none, some (vi (v6))]) (And.intro rfl (And.intro rfl (And.intro rfl (And.intro rfl (And.intro rfl trivial))))) ?_
            exact h
          · have h := h.2 e
            refine x_iconst (pc := 222) dX11_findRound_222 ?_
            refine x_goto (pc := 223) (t := 227) dX11_findRound_223 (by decide) ?_
            refine x_less (L' := [some (vr G r_obj), none, some (vi (v2)), some (vi (v3)), some (vi (v4)), none, some (vi (v6))]) (And.intro rfl (And.intro rfl (And.intro rfl (And.intro rfl (And.intro rfl trivial))))) ?_
            exact h
set_option maxHeartbeats 4000000 in
set_option maxRecDepth 100000 in
theorem b_R_findRound_k300 {G : XG} {S : XS}  {I : XI} {v2 : Int} {v3 : Int} {v4 : Int} {v6 : Int} {R : Int → XI → Prop} (hS : xSh S)  (h : (∀ I19 : XI, I19 = up I r_obj 79 (v3) → (∀ I20 : XI, I20 = up I19 r_obj 80 (v4) → (∀ I21 : XI, I21 = up I20 r_obj 81 (v6) → R_findRound_k144 G S I21 (v2) (v3 + 1) R)))) : R_findRound_k300 G S  I v2 v3 v4 v6 R := by
  unfold R_findRound_k300
  refine x_aload_n (pc := 300) dX11_findRound_300 rfl rfl ?_
  refine x_iload_n (pc := 301) dX11_findRound_301 rfl rfl ?_
  refine x_putI (pc := 302) (i := r_obj) fl_X11_439 dX11_findRound_302 (sN_r_obj hS) (sT_r_obj hS) rfl ?_
  have h := h _ rfl
  generalize up I r_obj 79 (v3) = I19 at h ⊢
  refine x_aload_n (pc := 305) dX11_findRound_305 rfl rfl ?_
  refine x_iload (pc := 306) dX11_findRound_306 rfl ?_
  refine x_putI (pc := 308) (i := r_obj) fl_X11_442 dX11_findRound_308 (sN_r_obj hS) (sT_r_obj hS) rfl ?_
  have h := h _ rfl
  generalize up I19 r_obj 80 (v4) = I20 at h ⊢
  refine x_aload_n (pc := 311) dX11_findRound_311 rfl rfl ?_
  refine x_iload (pc := 312) dX11_findRound_312 rfl ?_
  refine x_putI (pc := 314) (i := r_obj) fl_X11_445 dX11_findRound_314 (sN_r_obj hS) (sT_r_obj hS) rfl ?_
  have h := h _ rfl
  generalize up I20 r_obj 81 (v6) = I21 at h ⊢
  refine x_iinc (pc := 317) (L' := [some (vr G r_obj), none, some (vi (v2)), some (vi (v3 + 1)), some (vi (v4)), none, some (vi (v6))]) dX11_findRound_317 rfl (by decide) (xst1 rfl rfl rfl) ?_
  refine x_goto (pc := 320) (t := 144) dX11_findRound_320 (by decide) ?_
  refine x_less (L' := [some (vr G r_obj), none, some (vi (v2)), some (vi (v3 + 1)), none, none, none]) (And.intro rfl (And.intro rfl (And.intro rfl trivial))) ?_
  exact h
set_option maxHeartbeats 4000000 in
set_option maxRecDepth 100000 in
theorem b_R_findRound_k227 {G : XG} {S : XS}  {I : XI} {v2 : Int} {v3 : Int} {v4 : Int} {v6 : Int} {s0 : Int} {R : Int → XI → Prop} (hS : xSh S)  (h : (inb (v6) 10 ∧ R_findRound_k178 G S I (v2) (v3) ((v4) + (I r_meets (ix (v6)))) (s0) (v6 + 1) R)) : R_findRound_k227 G S  I v2 v3 v4 v6 s0 R := by
  unfold R_findRound_k227
  refine x_istore (pc := 227) (L' := [some (vr G r_obj), none, some (vi (v2)), some (vi (v3)), some (vi (v4)), some (vi (s0)), some (vi (v6))]) dX11_findRound_227 (by decide) (xst1 rfl rfl rfl) ?_
  refine x_iload (pc := 229) dX11_findRound_229 rfl ?_
  refine x_aload_n (pc := 231) dX11_findRound_231 rfl rfl ?_
  refine x_getR (pc := 232) (i := r_obj) (a := r_meets) fl_X11_211 dX11_findRound_232 (sN_r_obj hS) (sT_r_obj hS) rfl (sR_r_obj_78 hS) ?_
  refine x_iload (pc := 235) dX11_findRound_235 rfl ?_
  refine y_iald (pc := 237) (i := r_meets) (n := 10) dX11_findRound_237 (sN_r_meets hS) (sT_r_meets hS) (sL_r_meets hS) h.1 ?_
  have h := h.2
  refine x_iadd (pc := 238) dX11_findRound_238 ?_
  refine x_istore (pc := 239) (L' := [some (vr G r_obj), none, some (vi (v2)), some (vi (v3)), some (vi ((v4) + (I r_meets (ix (v6))))), some (vi (s0)), some (vi (v6))]) dX11_findRound_239 (by decide) (xst1 rfl rfl rfl) ?_
  refine x_iinc (pc := 241) (L' := [some (vr G r_obj), none, some (vi (v2)), some (vi (v3)), some (vi ((v4) + (I r_meets (ix (v6))))), some (vi (s0)), some (vi (v6 + 1))]) dX11_findRound_241 rfl (by decide) (xst1 rfl rfl rfl) ?_
  refine x_goto (pc := 244) (t := 178) dX11_findRound_244 (by decide) ?_
  exact h
set_option maxHeartbeats 4000000 in
set_option maxRecDepth 100000 in
theorem b_R_four {G : XG} {S : XS} {I : XI} {v1 : Int} {R : XI → Prop} (hS : xSh S)  (h : R_four_k3 G S I (v1) (24) R) : R_four G S I v1 R := by
  refine x_start [some (vr G r_obj), some (vi (v1)), none] (by decide) (Nat.le_of_ble_eq_true rfl) rfl ?_
  refine x_bipush (pc := 0) dX11_four_0 (by decide) ?_
  refine x_istore_n (pc := 2) (L' := [some (vr G r_obj), some (vi (v1)), some (vi (24))]) dX11_four_2 rfl (by decide) (xst1 rfl rfl rfl) ?_
  exact h
set_option maxHeartbeats 4000000 in
set_option maxRecDepth 100000 in
theorem b_R_four_k3 {G : XG} {S : XS}  {I : XI} {v1 : Int} {v2 : Int} {R : XI → Prop} (hS : xSh S)  (h : ((w32 (v2) < 0 → R I) ∧ (¬ (w32 (v2) < 0) → (inb (I r_size 0) 2000 ∧ (∀ I1 : XI, I1 = up I r_tape (ix (I r_size 0)) (((ishr (v1) (v2)).bmod 256).bmod 256) → (∀ I2 : XI, I2 = up I1 r_size 0 ((I1 r_size 0) + (1)) → R_four_k3 G S I2 (v1) (v2 + (-8)) R)))))) : R_four_k3 G S  I v1 v2 R := by
  unfold R_four_k3
  refine x_iload_n (pc := 3) dX11_four_3 rfl rfl ?_
  refine x_if_lt (pc := 4) (t := 38) dX11_four_4 (by decide) (fun e => ?_) (fun e => ?_)
  · have h := h.1 e
    exact y_vret (pc := 38) dX11_four_38 rfl ⟨Nat.le_refl _, Nat.le_refl _⟩ h
  · have h := h.2 e
    refine x_aload_n (pc := 7) dX11_four_7 rfl rfl ?_
    refine x_getR (pc := 8) (i := r_obj) (a := r_tape) fl_X11_7 dX11_four_8 (sN_r_obj hS) (sT_r_obj hS) rfl (sR_r_obj_1 hS) ?_
    refine x_aload_n (pc := 11) dX11_four_11 rfl rfl ?_
    refine x_getR (pc := 12) (i := r_obj) (a := r_size) fl_X11_13 dX11_four_12 (sN_r_obj hS) (sT_r_obj hS) rfl (sR_r_obj_2 hS) ?_
    refine x_iconst (pc := 15) dX11_four_15 ?_
    refine y_iald (pc := 16) (i := r_size) (n := 4) dX11_four_16 (sN_r_size hS) (sT_r_size hS) (sL_r_size hS) (inb_nat (k := 0) (by decide) (by decide)) ?_
    rw [show ix 0 = 0 from rfl]
    refine x_iload_n (pc := 17) dX11_four_17 rfl rfl ?_
    refine x_iload_n (pc := 18) dX11_four_18 rfl rfl ?_
    refine x_ishr (pc := 19) dX11_four_19 ?_
    refine x_i2b (pc := 20) dX11_four_20 ?_
    refine y_bast (pc := 21) (i := r_tape) (n := 2000) dX11_four_21 (sN_r_tape hS) (sT_r_tape hS) (sL_r_tape hS) h.1 ?_
    have h := h.2
    have h := h _ rfl
    generalize up I r_tape (ix (I r_size 0)) (((ishr (v1) (v2)).bmod 256).bmod 256) = I1 at h ⊢
    refine x_aload_n (pc := 22) dX11_four_22 rfl rfl ?_
    refine x_getR (pc := 23) (i := r_obj) (a := r_size) fl_X11_13 dX11_four_23 (sN_r_obj hS) (sT_r_obj hS) rfl (sR_r_obj_2 hS) ?_
    refine x_iconst (pc := 26) dX11_four_26 ?_
    refine x_dup2 (pc := 27) dX11_four_27 rfl rfl ?_
    refine y_iald (pc := 28) (i := r_size) (n := 4) dX11_four_28 (sN_r_size hS) (sT_r_size hS) (sL_r_size hS) (inb_nat (k := 0) (by decide) (by decide)) ?_
    rw [show ix 0 = 0 from rfl]
    refine x_iconst (pc := 29) dX11_four_29 ?_
    refine x_iadd (pc := 30) dX11_four_30 ?_
    refine y_iast (pc := 31) (i := r_size) (n := 4) dX11_four_31 (sN_r_size hS) (sT_r_size hS) (sL_r_size hS) (inb_nat (k := 0) (by decide) (by decide)) ?_
    rw [show ix 0 = 0 from rfl]
    have h := h _ rfl
    generalize up I1 r_size 0 ((I1 r_size 0) + (1)) = I2 at h ⊢
    refine x_iinc (pc := 32) (L' := [some (vr G r_obj), some (vi (v1)), some (vi (v2 + (-8)))]) dX11_four_32 rfl (by decide) (xst1 rfl rfl rfl) ?_
    refine x_goto (pc := 35) (t := 3) dX11_four_35 (by decide) ?_
    exact h
set_option maxHeartbeats 4000000 in
set_option maxRecDepth 100000 in
theorem b_R_giver {G : XG} {S : XS} {I : XI} {v1 : Int} {R : Int → XI → Prop} (hS : xSh S)  (h : (∀ I1 : XI, I1 = up I r_obj 0 (0) → R_in G S I1 (v1) (0) (7) (fun r3 I2 => ((w32 (r3) = 0 → R ((-1)) I2) ∧ (¬ (w32 (r3) = 0) → R_giver_k24 G S I2 (v1) (0) ((-1)) (0) R))))) : R_giver G S I v1 R := by
  refine x_start [some (vr G r_obj), some (vi (v1)), none, none, none, none] (by decide) (Nat.le_of_ble_eq_true rfl) rfl ?_
  refine x_aload_n (pc := 0) dX11_giver_0 rfl rfl ?_
  refine x_iconst (pc := 1) dX11_giver_1 ?_
  refine x_putI (pc := 2) (i := r_obj) fl_X11_220 dX11_giver_2 (sN_r_obj hS) (sT_r_obj hS) rfl ?_
  have h := h _ rfl
  generalize up I r_obj 0 (0) = I1 at h ⊢
  refine x_iload_n (pc := 5) dX11_giver_5 rfl rfl ?_
  refine x_iconst (pc := 6) dX11_giver_6 ?_
  refine x_bipush (pc := 7) dX11_giver_7 (by decide) ?_
  refine y_Si (pc := 9) (As := [vi (v1), vi (0), vi (7)]) (rest := []) ok_X11_in ml_X11_232 dX11_giver_9 rfl ⟨rfl, rfl⟩ ⟨by decide, by decide⟩ ⟨Nat.le_refl _, Nat.le_refl _⟩ (Nat.le_of_ble_eq_true rfl) rfl h (fun r3 I2 h => ?_)
  refine x_if_ne (pc := 12) (t := 17) dX11_giver_12 (by decide) (fun e => ?_) (fun e => ?_)
  · have h := h.1 e
    refine x_iconst (pc := 15) dX11_giver_15 ?_
    exact y_iret (pc := 16) dX11_giver_16 rfl ⟨Nat.le_refl _, Nat.le_refl _⟩ h
  · have h := h.2 e
    refine x_iconst (pc := 17) dX11_giver_17 ?_
    refine x_istore_n (pc := 18) (L' := [some (vr G r_obj), some (vi (v1)), some (vi (0)), none, none, none]) dX11_giver_18 rfl (by decide) (xst1 rfl rfl rfl) ?_
    refine x_iconst (pc := 19) dX11_giver_19 ?_
    refine x_istore_n (pc := 20) (L' := [some (vr G r_obj), some (vi (v1)), some (vi (0)), some (vi ((-1))), none, none]) dX11_giver_20 rfl (by decide) (xst1 rfl rfl rfl) ?_
    refine x_iconst (pc := 21) dX11_giver_21 ?_
    refine x_istore (pc := 22) (L' := [some (vr G r_obj), some (vi (v1)), some (vi (0)), some (vi ((-1))), some (vi (0)), none]) dX11_giver_22 (by decide) (xst1 rfl rfl rfl) ?_
    exact h
