set_option maxHeartbeats 4000000 in
set_option maxRecDepth 100000 in
theorem b_R_in {G : XG} {S : XS} {I : XI} {v0 : Int} {v1 : Int} {v2 : Int} {R : Int → XI → Prop} (hS : xSh S)  (h : ((w32 (v0) < w32 (v1) → R (0) I) ∧ (¬ (w32 (v0) < w32 (v1)) → ((w32 (v2) < w32 (v0) → R (0) I) ∧ (¬ (w32 (v2) < w32 (v0)) → R (1) I))))) : R_in G S I v0 v1 v2 R := by
  refine x_start [some (vi (v0)), some (vi (v1)), some (vi (v2))] (by decide) (Nat.le_of_ble_eq_true rfl) rfl ?_
  refine x_iload_n (pc := 0) dX11_in_0 rfl rfl ?_
  refine x_iload_n (pc := 1) dX11_in_1 rfl rfl ?_
  refine x_icmp_lt (pc := 2) (t := 14) dX11_in_2 (by decide) (fun e => ?_) (fun e => ?_)
  · have h := h.1 e
    refine x_iconst (pc := 14) dX11_in_14 ?_
    exact y_zret (pc := 15) dX11_in_15 rfl ⟨Nat.le_refl _, Nat.le_refl _⟩ (Or.inl rfl) h
  · have h := h.2 e
    refine x_iload_n (pc := 5) dX11_in_5 rfl rfl ?_
    refine x_iload_n (pc := 6) dX11_in_6 rfl rfl ?_
    refine x_icmp_gt (pc := 7) (t := 14) dX11_in_7 (by decide) (fun e => ?_) (fun e => ?_)
    · have h := h.1 e
      refine x_iconst (pc := 14) dX11_in_14 ?_
      exact y_zret (pc := 15) dX11_in_15 rfl ⟨Nat.le_refl _, Nat.le_refl _⟩ (Or.inl rfl) h
    · have h := h.2 e
      refine x_iconst (pc := 10) dX11_in_10 ?_
      refine x_goto (pc := 11) (t := 15) dX11_in_11 (by decide) ?_
      exact y_zret (pc := 15) dX11_in_15 rfl ⟨Nat.le_refl _, Nat.le_refl _⟩ (Or.inr rfl) h
set_option maxHeartbeats 4000000 in
set_option maxRecDepth 100000 in
theorem b_R_isBook {G : XG} {S : XS} {I : XI} {v1 : Int} {R : Int → XI → Prop} (hS : xSh S)  (h : R_in G S I (v1) (0) ((I r_books 0) - (1)) (fun r2 I1 => (((r2) = 0 ∨ (r2) = 1) ∧ R (r2) I1))) : R_isBook G S I v1 R := by
  refine x_start [some (vr G r_obj), some (vi (v1))] (by decide) (Nat.le_of_ble_eq_true rfl) rfl ?_
  refine x_iload_n (pc := 0) dX11_isBook_0 rfl rfl ?_
  refine x_iconst (pc := 1) dX11_isBook_1 ?_
  refine x_aload_n (pc := 2) dX11_isBook_2 rfl rfl ?_
  refine x_getR (pc := 3) (i := r_obj) (a := r_books) fl_X11_87 dX11_isBook_3 (sN_r_obj hS) (sT_r_obj hS) rfl (sR_r_obj_26 hS) ?_
  refine x_iconst (pc := 6) dX11_isBook_6 ?_
  refine y_iald (pc := 7) (i := r_books) (n := 4) dX11_isBook_7 (sN_r_books hS) (sT_r_books hS) (sL_r_books hS) (inb_nat (k := 0) (by decide) (by decide)) ?_
  rw [show ix 0 = 0 from rfl]
  refine x_iconst (pc := 8) dX11_isBook_8 ?_
  refine x_isub (pc := 9) dX11_isBook_9 ?_
  refine y_Si (pc := 10) (As := [vi (v1), vi (0), vi ((I r_books 0) - (1))]) (rest := []) ok_X11_in ml_X11_232 dX11_isBook_10 rfl ⟨rfl, rfl⟩ ⟨by decide, by decide⟩ ⟨Nat.le_refl _, Nat.le_refl _⟩ (Nat.le_of_ble_eq_true rfl) rfl h (fun r2 I1 h => ?_)
  exact y_zret (pc := 13) dX11_isBook_13 rfl ⟨Nat.le_refl _, Nat.le_refl _⟩ h.1 h.2
set_option maxHeartbeats 4000000 in
set_option maxRecDepth 100000 in
theorem b_R_isCamp {G : XG} {S : XS} {I : XI} {v1 : Int} {R : Int → XI → Prop} (hS : xSh S)  (h : R_in G S I (v1) (0) ((I r_camps 0) - (1)) (fun r2 I1 => (((r2) = 0 ∨ (r2) = 1) ∧ R (r2) I1))) : R_isCamp G S I v1 R := by
  refine x_start [some (vr G r_obj), some (vi (v1))] (by decide) (Nat.le_of_ble_eq_true rfl) rfl ?_
  refine x_iload_n (pc := 0) dX11_isCamp_0 rfl rfl ?_
  refine x_iconst (pc := 1) dX11_isCamp_1 ?_
  refine x_aload_n (pc := 2) dX11_isCamp_2 rfl rfl ?_
  refine x_getR (pc := 3) (i := r_obj) (a := r_camps) fl_X11_39 dX11_isCamp_3 (sN_r_obj hS) (sT_r_obj hS) rfl (sR_r_obj_10 hS) ?_
  refine x_iconst (pc := 6) dX11_isCamp_6 ?_
  refine y_iald (pc := 7) (i := r_camps) (n := 4) dX11_isCamp_7 (sN_r_camps hS) (sT_r_camps hS) (sL_r_camps hS) (inb_nat (k := 0) (by decide) (by decide)) ?_
  rw [show ix 0 = 0 from rfl]
  refine x_iconst (pc := 8) dX11_isCamp_8 ?_
  refine x_isub (pc := 9) dX11_isCamp_9 ?_
  refine y_Si (pc := 10) (As := [vi (v1), vi (0), vi ((I r_camps 0) - (1))]) (rest := []) ok_X11_in ml_X11_232 dX11_isCamp_10 rfl ⟨rfl, rfl⟩ ⟨by decide, by decide⟩ ⟨Nat.le_refl _, Nat.le_refl _⟩ (Nat.le_of_ble_eq_true rfl) rfl h (fun r2 I1 h => ?_)
  exact y_zret (pc := 13) dX11_isCamp_13 rfl ⟨Nat.le_refl _, Nat.le_refl _⟩ h.1 h.2
set_option maxHeartbeats 4000000 in
set_option maxRecDepth 100000 in
theorem b_R_isCell {G : XG} {S : XS} {I : XI} {v1 : Int} {R : Int → XI → Prop} (hS : xSh S)  (h : R_in G S I (v1) (0) ((I r_cells 0) - (1)) (fun r2 I1 => (((r2) = 0 ∨ (r2) = 1) ∧ R (r2) I1))) : R_isCell G S I v1 R := by
  refine x_start [some (vr G r_obj), some (vi (v1))] (by decide) (Nat.le_of_ble_eq_true rfl) rfl ?_
  refine x_iload_n (pc := 0) dX11_isCell_0 rfl rfl ?_
  refine x_iconst (pc := 1) dX11_isCell_1 ?_
  refine x_aload_n (pc := 2) dX11_isCell_2 rfl rfl ?_
  refine x_getR (pc := 3) (i := r_obj) (a := r_cells) fl_X11_29 dX11_isCell_3 (sN_r_obj hS) (sT_r_obj hS) rfl (sR_r_obj_7 hS) ?_
  refine x_iconst (pc := 6) dX11_isCell_6 ?_
  refine y_iald (pc := 7) (i := r_cells) (n := 4) dX11_isCell_7 (sN_r_cells hS) (sT_r_cells hS) (sL_r_cells hS) (inb_nat (k := 0) (by decide) (by decide)) ?_
  rw [show ix 0 = 0 from rfl]
  refine x_iconst (pc := 8) dX11_isCell_8 ?_
  refine x_isub (pc := 9) dX11_isCell_9 ?_
  refine y_Si (pc := 10) (As := [vi (v1), vi (0), vi ((I r_cells 0) - (1))]) (rest := []) ok_X11_in ml_X11_232 dX11_isCell_10 rfl ⟨rfl, rfl⟩ ⟨by decide, by decide⟩ ⟨Nat.le_refl _, Nat.le_refl _⟩ (Nat.le_of_ble_eq_true rfl) rfl h (fun r2 I1 h => ?_)
  exact y_zret (pc := 13) dX11_isCell_13 rfl ⟨Nat.le_refl _, Nat.le_refl _⟩ h.1 h.2
set_option maxHeartbeats 4000000 in
set_option maxRecDepth 100000 in
theorem b_R_isLate {G : XG} {S : XS} {I : XI} {v1 : Int} {v2 : Int} {v3 : Int} {R : Int → XI → Prop} (hS : xSh S)  (h : R_dueOf G S I (v1) (v2) (v3) (fun r2 I1 => ((w32 (r2) < 0 → R (0) I1) ∧ (¬ (w32 (r2) < 0) → ((w32 (v2) ≤ w32 (r2) → R (0) I1) ∧ (¬ (w32 (v2) ≤ w32 (r2)) → R (1) I1)))))) : R_isLate G S I v1 v2 v3 R := by
  refine x_start [some (vr G r_obj), some (vi (v1)), some (vi (v2)), some (vi (v3)), none] (by decide) (Nat.le_of_ble_eq_true rfl) rfl ?_
  refine x_aload_n (pc := 0) dX11_isLate_0 rfl rfl ?_
  refine x_iload_n (pc := 1) dX11_isLate_1 rfl rfl ?_
  refine x_iload_n (pc := 2) dX11_isLate_2 rfl rfl ?_
  refine x_iload_n (pc := 3) dX11_isLate_3 rfl rfl ?_
  refine y_Vi (pc := 4) (i := r_obj) (As := [vi (v1), vi (v2), vi (v3)]) (rest := []) ok_X11_dueOf ml_X11_300 dX11_isLate_4 (sN_r_obj hS) (sT_r_obj hS) (by decide) rfl rfl rfl ⟨rfl, rfl⟩ ⟨by decide, by decide⟩ ⟨Nat.le_refl _, Nat.le_refl _⟩ (Nat.le_of_ble_eq_true rfl) rfl h (fun r2 I1 h => ?_)
  refine x_istore (pc := 7) (L' := [some (vr G r_obj), some (vi (v1)), some (vi (v2)), some (vi (v3)), some (vi (r2))]) dX11_isLate_7 (by decide) (xst1 rfl rfl rfl) ?_
  refine x_iload (pc := 9) dX11_isLate_9 rfl ?_
  refine x_if_lt (pc := 11) (t := 24) dX11_isLate_11 (by decide) (fun e => ?_) (fun e => ?_)
  · have h := h.1 e
    refine x_iconst (pc := 24) dX11_isLate_24 ?_
    exact y_zret (pc := 25) dX11_isLate_25 rfl ⟨Nat.le_refl _, Nat.le_refl _⟩ (Or.inl rfl) h
  · have h := h.2 e
    refine x_iload_n (pc := 14) dX11_isLate_14 rfl rfl ?_
    refine x_iload (pc := 15) dX11_isLate_15 rfl ?_
    refine x_icmp_le (pc := 17) (t := 24) dX11_isLate_17 (by decide) (fun e => ?_) (fun e => ?_)
    · have h := h.1 e
      refine x_iconst (pc := 24) dX11_isLate_24 ?_
      exact y_zret (pc := 25) dX11_isLate_25 rfl ⟨Nat.le_refl _, Nat.le_refl _⟩ (Or.inl rfl) h
    · have h := h.2 e
      refine x_iconst (pc := 20) dX11_isLate_20 ?_
      refine x_goto (pc := 21) (t := 25) dX11_isLate_21 (by decide) ?_
      exact y_zret (pc := 25) dX11_isLate_25 rfl ⟨Nat.le_refl _, Nat.le_refl _⟩ (Or.inr rfl) h
set_option maxHeartbeats 4000000 in
set_option maxRecDepth 100000 in
theorem b_R_isReader {G : XG} {S : XS} {I : XI} {v1 : Int} {R : Int → XI → Prop} (hS : xSh S)  (h : R_in G S I (v1) (0) ((I r_readers 0) - (1)) (fun r2 I1 => (((r2) = 0 ∨ (r2) = 1) ∧ R (r2) I1))) : R_isReader G S I v1 R := by
  refine x_start [some (vr G r_obj), some (vi (v1))] (by decide) (Nat.le_of_ble_eq_true rfl) rfl ?_
  refine x_iload_n (pc := 0) dX11_isReader_0 rfl rfl ?_
  refine x_iconst (pc := 1) dX11_isReader_1 ?_
  refine x_aload_n (pc := 2) dX11_isReader_2 rfl rfl ?_
  refine x_getR (pc := 3) (i := r_obj) (a := r_readers) fl_X11_156 dX11_isReader_3 (sN_r_obj hS) (sT_r_obj hS) rfl (sR_r_obj_49 hS) ?_
  refine x_iconst (pc := 6) dX11_isReader_6 ?_
  refine y_iald (pc := 7) (i := r_readers) (n := 4) dX11_isReader_7 (sN_r_readers hS) (sT_r_readers hS) (sL_r_readers hS) (inb_nat (k := 0) (by decide) (by decide)) ?_
  rw [show ix 0 = 0 from rfl]
  refine x_iconst (pc := 8) dX11_isReader_8 ?_
  refine x_isub (pc := 9) dX11_isReader_9 ?_
  refine y_Si (pc := 10) (As := [vi (v1), vi (0), vi ((I r_readers 0) - (1))]) (rest := []) ok_X11_in ml_X11_232 dX11_isReader_10 rfl ⟨rfl, rfl⟩ ⟨by decide, by decide⟩ ⟨Nat.le_refl _, Nat.le_refl _⟩ (Nat.le_of_ble_eq_true rfl) rfl h (fun r2 I1 h => ?_)
  exact y_zret (pc := 13) dX11_isReader_13 rfl ⟨Nat.le_refl _, Nat.le_refl _⟩ h.1 h.2
set_option maxHeartbeats 4000000 in
set_option maxRecDepth 100000 in
theorem b_R_isThere {G : XG} {S : XS} {I : XI} {v1 : Int} {v2 : Int} {R : Int → XI → Prop} (hS : xSh S)  (h : R_isCamp G S I (v1) (fun r2 I1 => ((w32 (r2) = 0 → R (0) I1) ∧ (¬ (w32 (r2) = 0) → (inb (v1) 24 ∧ R_in G S I1 (v2) (I1 r_campWeek (ix (v1))) (99) (fun r4 I3 => ((w32 (r4) = 0 → R (0) I3) ∧ (¬ (w32 (r4) = 0) → R (1) I3)))))))) : R_isThere G S I v1 v2 R := by
  refine x_start [some (vr G r_obj), some (vi (v1)), some (vi (v2))] (by decide) (Nat.le_of_ble_eq_true rfl) rfl ?_
  refine x_aload_n (pc := 0) dX11_isThere_0 rfl rfl ?_
  refine x_iload_n (pc := 1) dX11_isThere_1 rfl rfl ?_
  refine y_Vi (pc := 2) (i := r_obj) (As := [vi (v1)]) (rest := []) ok_X11_isCamp ml_X11_243 dX11_isThere_2 (sN_r_obj hS) (sT_r_obj hS) (by decide) rfl rfl rfl ⟨rfl, rfl⟩ ⟨by decide, by decide⟩ ⟨Nat.le_refl _, Nat.le_refl _⟩ (Nat.le_of_ble_eq_true rfl) rfl h (fun r2 I1 h => ?_)
  refine x_if_eq (pc := 5) (t := 27) dX11_isThere_5 (by decide) (fun e => ?_) (fun e => ?_)
  · have h := h.1 e
    refine x_iconst (pc := 27) dX11_isThere_27 ?_
    exact y_zret (pc := 28) dX11_isThere_28 rfl ⟨Nat.le_refl _, Nat.le_refl _⟩ (Or.inl rfl) h
  · have h := h.2 e
    refine x_iload_n (pc := 8) dX11_isThere_8 rfl rfl ?_
    refine x_aload_n (pc := 9) dX11_isThere_9 rfl rfl ?_
    refine x_getR (pc := 10) (i := r_obj) (a := r_campWeek) fl_X11_48 dX11_isThere_10 (sN_r_obj hS) (sT_r_obj hS) rfl (sR_r_obj_13 hS) ?_
    refine x_iload_n (pc := 13) dX11_isThere_13 rfl rfl ?_
    refine y_iald (pc := 14) (i := r_campWeek) (n := 24) dX11_isThere_14 (sN_r_campWeek hS) (sT_r_campWeek hS) (sL_r_campWeek hS) h.1 ?_
    have h := h.2
    refine x_bipush (pc := 15) dX11_isThere_15 (by decide) ?_
    refine y_Si (pc := 17) (As := [vi (v2), vi (I1 r_campWeek (ix (v1))), vi (99)]) (rest := []) ok_X11_in ml_X11_232 dX11_isThere_17 rfl ⟨rfl, rfl⟩ ⟨by decide, by decide⟩ ⟨Nat.le_refl _, Nat.le_refl _⟩ (Nat.le_of_ble_eq_true rfl) rfl h (fun r4 I3 h => ?_)
    refine x_if_eq (pc := 20) (t := 27) dX11_isThere_20 (by decide) (fun e => ?_) (fun e => ?_)
    · have h := h.1 e
      refine x_iconst (pc := 27) dX11_isThere_27 ?_
      exact y_zret (pc := 28) dX11_isThere_28 rfl ⟨Nat.le_refl _, Nat.le_refl _⟩ (Or.inl rfl) h
    · have h := h.2 e
      refine x_iconst (pc := 23) dX11_isThere_23 ?_
      refine x_goto (pc := 24) (t := 28) dX11_isThere_24 (by decide) ?_
      exact y_zret (pc := 28) dX11_isThere_28 rfl ⟨Nat.le_refl _, Nat.le_refl _⟩ (Or.inr rfl) h
set_option maxHeartbeats 4000000 in
set_option maxRecDepth 100000 in
theorem b_R_isWeek {G : XG} {S : XS} {I : XI} {v0 : Int} {R : Int → XI → Prop} (hS : xSh S)  (h : R_in G S I (v0) (0) (99) (fun r2 I1 => (((r2) = 0 ∨ (r2) = 1) ∧ R (r2) I1))) : R_isWeek G S I v0 R := by
  refine x_start [some (vi (v0))] (by decide) (Nat.le_of_ble_eq_true rfl) rfl ?_
  refine x_iload_n (pc := 0) dX11_isWeek_0 rfl rfl ?_
  refine x_iconst (pc := 1) dX11_isWeek_1 ?_
  refine x_bipush (pc := 2) dX11_isWeek_2 (by decide) ?_
  refine y_Si (pc := 4) (As := [vi (v0), vi (0), vi (99)]) (rest := []) ok_X11_in ml_X11_232 dX11_isWeek_4 rfl ⟨rfl, rfl⟩ ⟨by decide, by decide⟩ ⟨Nat.le_refl _, Nat.le_refl _⟩ (Nat.le_of_ble_eq_true rfl) rfl h (fun r2 I1 h => ?_)
  exact y_zret (pc := 7) dX11_isWeek_7 rfl ⟨Nat.le_refl _, Nat.le_refl _⟩ h.1 h.2
set_option maxHeartbeats 4000000 in
set_option maxRecDepth 100000 in
theorem b_R_isWord {G : XG} {S : XS} {I : XI} {v1 : Int} {R : Int → XI → Prop} (hS : xSh S)  (h : ((w32 (I r_obj 62) = w32 (2) → ((w32 (llcmp (I r_obj 64) (v1)) = 0 → R (1) I) ∧ (¬ (w32 (llcmp (I r_obj 64) (v1)) = 0) → R (0) I))) ∧ (¬ (w32 (I r_obj 62) = w32 (2)) → R (0) I))) : R_isWord G S I v1 R := by
  refine x_start [some (vr G r_obj), some (vl (v1)), none] (by decide) (Nat.le_of_ble_eq_true rfl) rfl ?_
  refine x_aload_n (pc := 0) dX11_isWord_0 rfl rfl ?_
  refine x_getI (pc := 1) (i := r_obj) fl_X11_357 dX11_isWord_1 (sN_r_obj hS) (sT_r_obj hS) rfl ?_
  refine x_iconst (pc := 4) dX11_isWord_4 ?_
  refine x_icmp_ne (pc := 5) (t := 21) dX11_isWord_5 (by decide) (fun e => ?_) (fun e => ?_)
  · have h := h.1 e
    refine x_aload_n (pc := 8) dX11_isWord_8 rfl rfl ?_
    refine x_getL (pc := 9) (i := r_obj) fl_X11_353 dX11_isWord_9 (sN_r_obj hS) (sT_r_obj hS) rfl ?_
    refine x_lload_n (pc := 12) dX11_isWord_12 rfl rfl ?_
    refine x_lcmp (pc := 13) dX11_isWord_13 ?_
    refine x_if_ne (pc := 14) (t := 21) dX11_isWord_14 (by decide) (fun e => ?_) (fun e => ?_)
    · have h := h.1 e
      refine x_iconst (pc := 17) dX11_isWord_17 ?_
      refine x_goto (pc := 18) (t := 22) dX11_isWord_18 (by decide) ?_
      exact y_zret (pc := 22) dX11_isWord_22 rfl ⟨Nat.le_refl _, Nat.le_refl _⟩ (Or.inr rfl) h
    · have h := h.2 e
      refine x_iconst (pc := 21) dX11_isWord_21 ?_
      exact y_zret (pc := 22) dX11_isWord_22 rfl ⟨Nat.le_refl _, Nat.le_refl _⟩ (Or.inl rfl) h
  · have h := h.2 e
    refine x_iconst (pc := 21) dX11_isWord_21 ?_
    exact y_zret (pc := 22) dX11_isWord_22 rfl ⟨Nat.le_refl _, Nat.le_refl _⟩ (Or.inl rfl) h
set_option maxHeartbeats 4000000 in
set_option maxRecDepth 100000 in
theorem b_R_lastAct {G : XG} {S : XS} {I : XI} {v1 : Int} {v2 : Int} {v3 : Int} {v4 : Int} {R : Int → XI → Prop} (hS : xSh S)  (h : R_lastAct_k6 G S I (v1) (v2) (v3) (v4) ((-1)) (0) R) : R_lastAct G S I v1 v2 v3 v4 R := by
  refine x_start [some (vr G r_obj), some (vi (v1)), some (vi (v2)), some (vi (v3)), some (vi (v4)), none, none, none] (by decide) (Nat.le_of_ble_eq_true rfl) rfl ?_
  refine x_iconst (pc := 0) dX11_lastAct_0 ?_
  refine x_istore (pc := 1) (L' := [some (vr G r_obj), some (vi (v1)), some (vi (v2)), some (vi (v3)), some (vi (v4)), some (vi ((-1))), none, none]) dX11_lastAct_1 (by decide) (xst1 rfl rfl rfl) ?_
  refine x_iconst (pc := 3) dX11_lastAct_3 ?_
  refine x_istore (pc := 4) (L' := [some (vr G r_obj), some (vi (v1)), some (vi (v2)), some (vi (v3)), some (vi (v4)), some (vi ((-1))), some (vi (0)), none]) dX11_lastAct_4 (by decide) (xst1 rfl rfl rfl) ?_
  exact h
set_option maxHeartbeats 4000000 in
set_option maxRecDepth 100000 in
theorem b_R_lastAct_k6 {G : XG} {S : XS}  {I : XI} {v1 : Int} {v2 : Int} {v3 : Int} {v4 : Int} {v5 : Int} {v6 : Int} {R : Int → XI → Prop} (hS : xSh S)  (h : ((w32 (I r_acts 0) ≤ w32 (v6) → R (v5) I) ∧ (¬ (w32 (I r_acts 0) ≤ w32 (v6)) → ((w32 (v4) = 0 → (inb (v6) 600 ∧ ((w32 (I r_actKind (ix (v6))) = w32 (3) → R_lastAct_k56 G S I (v1) (v2) (v3) (v4) (v5) (v6) (0) R) ∧ (¬ (w32 (I r_actKind (ix (v6))) = w32 (3)) → R_lastAct_k56 G S I (v1) (v2) (v3) (v4) (v5) (v6) (1) R)))) ∧ (¬ (w32 (v4) = 0) → (inb (v6) 600 ∧ ((w32 (I r_actKind (ix (v6))) = 0 → R_lastAct_k56 G S I (v1) (v2) (v3) (v4) (v5) (v6) (1) R) ∧ (¬ (w32 (I r_actKind (ix (v6))) = 0) → R_lastAct_k56 G S I (v1) (v2) (v3) (v4) (v5) (v6) (0) R)))))))) : R_lastAct_k6 G S  I v1 v2 v3 v4 v5 v6 R := by
  unfold R_lastAct_k6
  refine x_iload (pc := 6) dX11_lastAct_6 rfl ?_
  refine x_aload_n (pc := 8) dX11_lastAct_8 rfl rfl ?_
  refine x_getR (pc := 9) (i := r_obj) (a := r_acts) fl_X11_105 dX11_lastAct_9 (sN_r_obj hS) (sT_r_obj hS) rfl (sR_r_obj_32 hS) ?_
  refine x_iconst (pc := 12) dX11_lastAct_12 ?_
  refine y_iald (pc := 13) (i := r_acts) (n := 4) dX11_lastAct_13 (sN_r_acts hS) (sT_r_acts hS) (sL_r_acts hS) (inb_nat (k := 0) (by decide) (by decide)) ?_
  rw [show ix 0 = 0 from rfl]
  refine x_icmp_ge (pc := 14) (t := 129) dX11_lastAct_14 (by decide) (fun e => ?_) (fun e => ?_)
  · have h := h.1 e
    refine x_iload (pc := 129) dX11_lastAct_129 rfl ?_
    exact y_iret (pc := 131) dX11_lastAct_131 rfl ⟨Nat.le_refl _, Nat.le_refl _⟩ h
  · have h := h.2 e
    refine x_iload (pc := 17) dX11_lastAct_17 rfl ?_
    refine x_if_eq (pc := 19) (t := 40) dX11_lastAct_19 (by decide) (fun e => ?_) (fun e => ?_)
    · have h := h.1 e
      refine x_aload_n (pc := 40) dX11_lastAct_40 rfl rfl ?_
      refine x_getR (pc := 41) (i := r_obj) (a := r_actKind) fl_X11_111 dX11_lastAct_41 (sN_r_obj hS) (sT_r_obj hS) rfl (sR_r_obj_34 hS) ?_
      refine x_iload (pc := 44) dX11_lastAct_44 rfl ?_
      refine y_iald (pc := 46) (i := r_actKind) (n := 600) dX11_lastAct_46 (sN_r_actKind hS) (sT_r_actKind hS) (sL_r_actKind hS) h.1 ?_
      have h := h.2
      refine x_iconst (pc := 47) dX11_lastAct_47 ?_
      refine x_icmp_eq (pc := 48) (t := 55) dX11_lastAct_48 (by decide) (fun e => ?_) (fun e => ?_)
      · have h := h.1 e
        refine x_iconst (pc := 55) dX11_lastAct_55 ?_
        exact h
      · have h := h.2 e
        refine x_iconst (pc := 51) dX11_lastAct_51 ?_
        refine x_goto (pc := 52) (t := 56) dX11_lastAct_52 (by decide) ?_
        exact h
    · have h := h.2 e
      refine x_aload_n (pc := 22) dX11_lastAct_22 rfl rfl ?_
      refine x_getR (pc := 23) (i := r_obj) (a := r_actKind) fl_X11_111 dX11_lastAct_23 (sN_r_obj hS) (sT_r_obj hS) rfl (sR_r_obj_34 hS) ?_
      refine x_iload (pc := 26) dX11_lastAct_26 rfl ?_
      refine y_iald (pc := 28) (i := r_actKind) (n := 600) dX11_lastAct_28 (sN_r_actKind hS) (sT_r_actKind hS) (sL_r_actKind hS) h.1 ?_
      have h := h.2
      refine x_if_ne (pc := 29) (t := 36) dX11_lastAct_29 (by decide) (fun e => ?_) (fun e => ?_)
      · have h := h.1 e
        refine x_iconst (pc := 32) dX11_lastAct_32 ?_
        refine x_goto (pc := 33) (t := 56) dX11_lastAct_33 (by decide) ?_
        exact h
      · have h := h.2 e
        refine x_iconst (pc := 36) dX11_lastAct_36 ?_
        refine x_goto (pc := 37) (t := 56) dX11_lastAct_37 (by decide) ?_
        exact h
set_option maxHeartbeats 4000000 in
set_option maxRecDepth 100000 in
theorem b_R_lastAct_k56 {G : XG} {S : XS}  {I : XI} {v1 : Int} {v2 : Int} {v3 : Int} {v4 : Int} {v5 : Int} {v6 : Int} {s0 : Int} {R : Int → XI → Prop} (hS : xSh S)  (h : ((w32 (s0) = 0 → R_lastAct_k6 G S I (v1) (v2) (v3) (v4) (v5) (v6 + 1) R) ∧ (¬ (w32 (s0) = 0) → (inb (v6) 600 ∧ ((w32 (I r_actBook (ix (v6))) = w32 (v1) → (inb (v6) 600 ∧ ((w32 (v2) < w32 (I r_actWeek (ix (v6))) → R_lastAct_k6 G S I (v1) (v2) (v3) (v4) (v5) (v6 + 1) R) ∧ (¬ (w32 (v2) < w32 (I r_actWeek (ix (v6)))) → (inb (v6) 600 ∧ ((w32 (v3) < w32 (I r_actTold (ix (v6))) → R_lastAct_k6 G S I (v1) (v2) (v3) (v4) (v5) (v6 + 1) R) ∧ (¬ (w32 (v3) < w32 (I r_actTold (ix (v6)))) → ((w32 (v5) = w32 ((-1)) → R_lastAct_k6 G S I (v1) (v2) (v3) (v4) (v6) (v6 + 1) R) ∧ (¬ (w32 (v5) = w32 ((-1))) → (inb (v6) 600 ∧ (inb (v5) 600 ∧ ((w32 (I r_actWeek (ix (v6))) < w32 (I r_actWeek (ix (v5))) → R_lastAct_k6 G S I (v1) (v2) (v3) (v4) (v5) (v6 + 1) R) ∧ (¬ (w32 (I r_actWeek (ix (v6))) < w32 (I r_actWeek (ix (v5)))) → R_lastAct_k6 G S I (v1) (v2) (v3) (v4) (v6) (v6 + 1) R))))))))))))) ∧ (¬ (w32 (I r_actBook (ix (v6))) = w32 (v1)) → R_lastAct_k6 G S I (v1) (v2) (v3) (v4) (v5) (v6 + 1) R)))))) : R_lastAct_k56 G S  I v1 v2 v3 v4 v5 v6 s0 R := by
  unfold R_lastAct_k56
  refine x_istore (pc := 56) (L' := [some (vr G r_obj), some (vi (v1)), some (vi (v2)), some (vi (v3)), some (vi (v4)), some (vi (v5)), some (vi (v6)), some (vi (s0))]) dX11_lastAct_56 (by decide) (xst1 rfl rfl rfl) ?_
  refine x_iload (pc := 58) dX11_lastAct_58 rfl ?_
  refine x_if_eq (pc := 60) (t := 123) dX11_lastAct_60 (by decide) (fun e => ?_) (fun e => ?_)
  · have h := h.1 e
    refine x_iinc (pc := 123) (L' := [some (vr G r_obj), some (vi (v1)), some (vi (v2)), some (vi (v3)), some (vi (v4)), some (vi (v5)), some (vi (v6 + 1)), some (vi (s0))]) dX11_lastAct_123 rfl (by decide) (xst1 rfl rfl rfl) ?_
    refine x_goto (pc := 126) (t := 6) dX11_lastAct_126 (by decide) ?_
    refine x_less (L' := [some (vr G r_obj), some (vi (v1)), some (vi (v2)), some (vi (v3)), some (vi (v4)), some (vi (v5)), some (vi (v6 + 1)), none]) (And.intro rfl (And.intro rfl (And.intro rfl (And.intro rfl (And.intro rfl (And.intro rfl (And.intro rfl trivial))))))) ?_
    exact h
  · have h := h.2 e
    refine x_aload_n (pc := 63) dX11_lastAct_63 rfl rfl ?_
    refine x_getR (pc := 64) (i := r_obj) (a := r_actBook) fl_X11_108 dX11_lastAct_64 (sN_r_obj hS) (sT_r_obj hS) rfl (sR_r_obj_33 hS) ?_
    refine x_iload (pc := 67) dX11_lastAct_67 rfl ?_
    refine y_iald (pc := 69) (i := r_actBook) (n := 600) dX11_lastAct_69 (sN_r_actBook hS) (sT_r_actBook hS) (sL_r_actBook hS) h.1 ?_
    have h := h.2
    refine x_iload_n (pc := 70) dX11_lastAct_70 rfl rfl ?_
    refine x_icmp_ne (pc := 71) (t := 123) dX11_lastAct_71 (by decide) (fun e => ?_) (fun e => ?_)
    · have h := h.1 e
      refine x_aload_n (pc := 74) dX11_lastAct_74 rfl rfl ?_
      refine x_getR (pc := 75) (i := r_obj) (a := r_actWeek) fl_X11_117 dX11_lastAct_75 (sN_r_obj hS) (sT_r_obj hS) rfl (sR_r_obj_36 hS) ?_
      refine x_iload (pc := 78) dX11_lastAct_78 rfl ?_
      refine y_iald (pc := 80) (i := r_actWeek) (n := 600) dX11_lastAct_80 (sN_r_actWeek hS) (sT_r_actWeek hS) (sL_r_actWeek hS) h.1 ?_
      have h := h.2
      refine x_iload_n (pc := 81) dX11_lastAct_81 rfl rfl ?_
      refine x_icmp_gt (pc := 82) (t := 123) dX11_lastAct_82 (by decide) (fun e => ?_) (fun e => ?_)
      · have h := h.1 e
        refine x_iinc (pc := 123) (L' := [some (vr G r_obj), some (vi (v1)), some (vi (v2)), some (vi (v3)), some (vi (v4)), some (vi (v5)), some (vi (v6 + 1)), some (vi (s0))]) dX11_lastAct_123 rfl (by decide) (xst1 rfl rfl rfl) ?_
        refine x_goto (pc := 126) (t := 6) dX11_lastAct_126 (by decide) ?_
        refine x_less (L' := [some (vr G r_obj), some (vi (v1)), some (vi (v2)), some (vi (v3)), some (vi (v4)), some (vi (v5)), some (vi (v6 + 1)), none]) (And.intro rfl (And.intro rfl (And.intro rfl (And.intro rfl (And.intro rfl (And.intro rfl (And.intro rfl trivial))))))) ?_
        exact h
      · have h := h.2 e
        refine x_aload_n (pc := 85) dX11_lastAct_85 rfl rfl ?_
        refine x_getR (pc := 86) (i := r_obj) (a := r_actTold) fl_X11_120 dX11_lastAct_86 (sN_r_obj hS) (sT_r_obj hS) rfl (sR_r_obj_37 hS) ?_
        refine x_iload (pc := 89) dX11_lastAct_89 rfl ?_
        refine y_iald (pc := 91) (i := r_actTold) (n := 600) dX11_lastAct_91 (sN_r_actTold hS) (sT_r_actTold hS) (sL_r_actTold hS) h.1 ?_
        have h := h.2
        refine x_iload_n (pc := 92) dX11_lastAct_92 rfl rfl ?_
        refine x_icmp_gt (pc := 93) (t := 123) dX11_lastAct_93 (by decide) (fun e => ?_) (fun e => ?_)
        · have h := h.1 e
          refine x_iinc (pc := 123) (L' := [some (vr G r_obj), some (vi (v1)), some (vi (v2)), some (vi (v3)), some (vi (v4)), some (vi (v5)), some (vi (v6 + 1)), some (vi (s0))]) dX11_lastAct_123 rfl (by decide) (xst1 rfl rfl rfl) ?_
          refine x_goto (pc := 126) (t := 6) dX11_lastAct_126 (by decide) ?_
          refine x_less (L' := [some (vr G r_obj), some (vi (v1)), some (vi (v2)), some (vi (v3)), some (vi (v4)), some (vi (v5)), some (vi (v6 + 1)), none]) (And.intro rfl (And.intro rfl (And.intro rfl (And.intro rfl (And.intro rfl (And.intro rfl (And.intro rfl trivial))))))) ?_
          exact h
        · have h := h.2 e
          refine x_iload (pc := 96) dX11_lastAct_96 rfl ?_
          refine x_iconst (pc := 98) dX11_lastAct_98 ?_
          refine x_icmp_eq (pc := 99) (t := 119) dX11_lastAct_99 (by decide) (fun e => ?_) (fun e => ?_)
          · have h := h.1 e
            refine x_iload (pc := 119) dX11_lastAct_119 rfl ?_
            refine x_istore (pc := 121) (L' := [some (vr G r_obj), some (vi (v1)), some (vi (v2)), some (vi (v3)), some (vi (v4)), some (vi (v6)), some (vi (v6)), some (vi (s0))]) dX11_lastAct_121 (by decide) (xst1 rfl rfl rfl) ?_
            refine x_iinc (pc := 123) (L' := [some (vr G r_obj), some (vi (v1)), some (vi (v2)), some (vi (v3)), some (vi (v4)), some (vi (v6)), some (vi (v6 + 1)), some (vi (s0))]) dX11_lastAct_123 rfl (by decide) (xst1 rfl rfl rfl) ?_
            refine x_goto (pc := 126) (t := 6) dX11_lastAct_126 (by decide) ?_
            refine x_less (L' := [some (vr G r_obj), some (vi (v1)), some (vi (v2)), some (vi (v3)), some (vi (v4)), some (vi (v6)), some (vi (v6 + 1)), none]) (And.intro rfl (And.intro rfl (And.intro rfl (And.intro rfl (And.intro rfl (And.intro rfl (And.intro rfl trivial))))))) ?_
            exact h
          · have h := h.2 e
            refine x_aload_n (pc := 102) dX11_lastAct_102 rfl rfl ?_
            refine x_getR (pc := 103) (i := r_obj) (a := r_actWeek) fl_X11_117 dX11_lastAct_103 (sN_r_obj hS) (sT_r_obj hS) rfl (sR_r_obj_36 hS) ?_
            refine x_iload (pc := 106) dX11_lastAct_106 rfl ?_
            refine y_iald (pc := 108) (i := r_actWeek) (n := 600) dX11_lastAct_108 (sN_r_actWeek hS) (sT_r_actWeek hS) (sL_r_actWeek hS) h.1 ?_
            have h := h.2
            refine x_aload_n (pc := 109) dX11_lastAct_109 rfl rfl ?_
            refine x_getR (pc := 110) (i := r_obj) (a := r_actWeek) fl_X11_117 dX11_lastAct_110 (sN_r_obj hS) (sT_r_obj hS) rfl (sR_r_obj_36 hS) ?_
            refine x_iload (pc := 113) dX11_lastAct_113 rfl ?_
            refine y_iald (pc := 115) (i := r_actWeek) (n := 600) dX11_lastAct_115 (sN_r_actWeek hS) (sT_r_actWeek hS) (sL_r_actWeek hS) h.1 ?_
            have h := h.2
            refine x_icmp_lt (pc := 116) (t := 123) dX11_lastAct_116 (by decide) (fun e => ?_) (fun e => ?_)
            · have h := h.1 e
              refine x_iinc (pc := 123) (L' := [some (vr G r_obj), some (vi (v1)), some (vi (v2)), some (vi (v3)), some (vi (v4)), some (vi (v5)), some (vi (v6 + 1)), some (vi (s0))]) dX11_lastAct_123 rfl (by decide) (xst1 rfl rfl rfl) ?_
              refine x_goto (pc := 126) (t := 6) dX11_lastAct_126 (by decide) ?_
              refine x_less (L' := [some (vr G r_obj), some (vi (v1)), some (vi (v2)), some (vi (v3)), some (vi (v4)), some (vi (v5)), some (vi (v6 + 1)), none]) (And.intro rfl (And.intro rfl (And.intro rfl (And.intro rfl (And.intro rfl (And.intro rfl (And.intro rfl trivial))))))) ?_
              exact h
            · have h := h.2 e
              refine x_iload (pc := 119) dX11_lastAct_119 rfl ?_
              refine x_istore (pc := 121) (L' := [some (vr G r_obj), some (vi (v1)), some (vi (v2)), some (vi (v3)), some (vi (v4)), some (vi (v6)), some (vi (v6)), some (vi (s0))]) dX11_lastAct_121 (by decide) (xst1 rfl rfl rfl) ?_
              refine x_iinc (pc := 123) (L' := [some (vr G r_obj), some (vi (v1)), some (vi (v2)), some (vi (v3)), some (vi (v4)), some (vi (v6)), some (vi (v6 + 1)), some (vi (s0))]) dX11_lastAct_123 rfl (by decide) (xst1 rfl rfl rfl) ?_
              refine x_goto (pc := 126) (t := 6) dX11_lastAct_126 (by decide) ?_
              refine x_less (L' := [some (vr G r_obj), some (vi (v1)), some (vi (v2)), some (vi (v3)), some (vi (v4)), some (vi (v6)), some (vi (v6 + 1)), none]) (And.intro rfl (And.intro rfl (And.intro rfl (And.intro rfl (And.intro rfl (And.intro rfl (And.intro rfl trivial))))))) ?_
              exact h
    · have h := h.2 e
      refine x_iinc (pc := 123) (L' := [some (vr G r_obj), some (vi (v1)), some (vi (v2)), some (vi (v3)), some (vi (v4)), some (vi (v5)), some (vi (v6 + 1)), some (vi (s0))]) dX11_lastAct_123 rfl (by decide) (xst1 rfl rfl rfl) ?_
      refine x_goto (pc := 126) (t := 6) dX11_lastAct_126 (by decide) ?_
      refine x_less (L' := [some (vr G r_obj), some (vi (v1)), some (vi (v2)), some (vi (v3)), some (vi (v4)), some (vi (v5)), some (vi (v6 + 1)), none]) (And.intro rfl (And.intro rfl (And.intro rfl (And.intro rfl (And.intro rfl (And.intro rfl (And.intro rfl trivial))))))) ?_
      exact h
set_option maxHeartbeats 4000000 in
set_option maxRecDepth 100000 in
theorem b_R_later {G : XG} {S : XS} {I : XI} {v1 : Int} {R : XI → Prop} (hS : xSh S)  (h : ((w32 (I r_obj 66) = 0 → (∀ I1 : XI, I1 = up I r_obj 66 (v1) → (∀ I2 : XI, I2 = up I1 r_obj 67 (I1 r_obj 61) → R I2))) ∧ (¬ (w32 (I r_obj 66) = 0) → R I))) : R_later G S I v1 R := by
  refine x_start [some (vr G r_obj), some (vi (v1))] (by decide) (Nat.le_of_ble_eq_true rfl) rfl ?_
  refine x_aload_n (pc := 0) dX11_later_0 rfl rfl ?_
  refine x_getI (pc := 1) (i := r_obj) fl_X11_363 dX11_later_1 (sN_r_obj hS) (sT_r_obj hS) rfl ?_
  refine x_if_ne (pc := 4) (t := 20) dX11_later_4 (by decide) (fun e => ?_) (fun e => ?_)
  · have h := h.1 e
    refine x_aload_n (pc := 7) dX11_later_7 rfl rfl ?_
    refine x_iload_n (pc := 8) dX11_later_8 rfl rfl ?_
    refine x_putI (pc := 9) (i := r_obj) fl_X11_363 dX11_later_9 (sN_r_obj hS) (sT_r_obj hS) rfl ?_
    have h := h _ rfl
    generalize up I r_obj 66 (v1) = I1 at h ⊢
    refine x_aload_n (pc := 12) dX11_later_12 rfl rfl ?_
    refine x_aload_n (pc := 13) dX11_later_13 rfl rfl ?_
    refine x_getI (pc := 14) (i := r_obj) fl_X11_347 dX11_later_14 (sN_r_obj hS) (sT_r_obj hS) rfl ?_
    refine x_putI (pc := 17) (i := r_obj) fl_X11_366 dX11_later_17 (sN_r_obj hS) (sT_r_obj hS) rfl ?_
    have h := h _ rfl
    generalize up I1 r_obj 67 (I1 r_obj 61) = I2 at h ⊢
    exact y_vret (pc := 20) dX11_later_20 rfl ⟨Nat.le_refl _, Nat.le_refl _⟩ h
  · have h := h.2 e
    exact y_vret (pc := 20) dX11_later_20 rfl ⟨Nat.le_refl _, Nat.le_refl _⟩ h
set_option maxHeartbeats 4000000 in
set_option maxRecDepth 100000 in
theorem b_R_learns {G : XG} {S : XS} {I : XI} {v1 : Int} {v2 : Int} {R : Int → XI → Prop} (hS : xSh S)  (h : (∀ I1 : XI, I1 = up I r_obj 0 (0) → R_isReader G S I1 (v1) (fun r3 I2 => ((w32 (r3) = 0 → R ((-2)) I2) ∧ (¬ (w32 (r3) = 0) → ((w32 (v2) = 0 → (inb (v1) 48 ∧ R (I2 r_readerCamp (ix (v1))) I2)) ∧ (w32 (v2) = 1 → R_levelOf G S I2 (v1) (fun r5 I4 => R (r5) I4)) ∧ (w32 (v2) = 2 → (inb (v1) 48 ∧ R (I2 r_readerBooks (ix (v1))) I2)) ∧ (w32 (v2) = 3 → R_nextFor G S I2 (v1) (fun r7 I6 => R (r7) I6)) ∧ ((w32 (v2) < 0 ∨ 3 < w32 (v2)) → R ((-2)) I2))))))) : R_learns G S I v1 v2 R := by
  refine x_start [some (vr G r_obj), some (vi (v1)), some (vi (v2))] (by decide) (Nat.le_of_ble_eq_true rfl) rfl ?_
  refine x_aload_n (pc := 0) dX11_learns_0 rfl rfl ?_
  refine x_iconst (pc := 1) dX11_learns_1 ?_
  refine x_putI (pc := 2) (i := r_obj) fl_X11_220 dX11_learns_2 (sN_r_obj hS) (sT_r_obj hS) rfl ?_
  have h := h _ rfl
  generalize up I r_obj 0 (0) = I1 at h ⊢
  refine x_aload_n (pc := 5) dX11_learns_5 rfl rfl ?_
  refine x_iload_n (pc := 6) dX11_learns_6 rfl rfl ?_
  refine y_Vi (pc := 7) (i := r_obj) (As := [vi (v1)]) (rest := []) ok_X11_isReader ml_X11_460 dX11_learns_7 (sN_r_obj hS) (sT_r_obj hS) (by decide) rfl rfl rfl ⟨rfl, rfl⟩ ⟨by decide, by decide⟩ ⟨Nat.le_refl _, Nat.le_refl _⟩ (Nat.le_of_ble_eq_true rfl) rfl h (fun r3 I2 h => ?_)
  refine x_if_ne (pc := 10) (t := 16) dX11_learns_10 (by decide) (fun e => ?_) (fun e => ?_)
  · have h := h.1 e
    refine x_bipush (pc := 13) dX11_learns_13 (by decide) ?_
    exact y_iret (pc := 15) dX11_learns_15 rfl ⟨Nat.le_refl _, Nat.le_refl _⟩ h
  · have h := h.2 e
    refine x_iload_n (pc := 16) dX11_learns_16 rfl rfl ?_
    by_cases e0 : w32 (v2) = 0
    · have h := h.1 e0
      refine x_tabIn (pc := 17) (off := 31) (t := 48) dX11_learns_17 0 e0 (by decide) (by decide) rfl (by decide) ?_
      refine x_aload_n (pc := 48) dX11_learns_48 rfl rfl ?_
      refine x_getR (pc := 49) (i := r_obj) (a := r_readerCamp) fl_X11_159 dX11_learns_49 (sN_r_obj hS) (sT_r_obj hS) rfl (sR_r_obj_50 hS) ?_
      refine x_iload_n (pc := 52) dX11_learns_52 rfl rfl ?_
      refine y_iald (pc := 53) (i := r_readerCamp) (n := 48) dX11_learns_53 (sN_r_readerCamp hS) (sT_r_readerCamp hS) (sL_r_readerCamp hS) h.1 ?_
      have h := h.2
      exact y_iret (pc := 54) dX11_learns_54 rfl ⟨Nat.le_refl _, Nat.le_refl _⟩ h
    by_cases e1 : w32 (v2) = 1
    · have h := h.2.1 e1
      refine x_tabIn (pc := 17) (off := 38) (t := 55) dX11_learns_17 1 e1 (by decide) (by decide) rfl (by decide) ?_
      refine x_aload_n (pc := 55) dX11_learns_55 rfl rfl ?_
      refine x_iload_n (pc := 56) dX11_learns_56 rfl rfl ?_
      refine y_Vi (pc := 57) (i := r_obj) (As := [vi (v1)]) (rest := []) ok_X11_levelOf ml_X11_466 dX11_learns_57 (sN_r_obj hS) (sT_r_obj hS) (by decide) rfl rfl rfl ⟨rfl, rfl⟩ ⟨by decide, by decide⟩ ⟨Nat.le_refl _, Nat.le_refl _⟩ (Nat.le_of_ble_eq_true rfl) rfl h (fun r5 I4 h => ?_)
      exact y_iret (pc := 60) dX11_learns_60 rfl ⟨Nat.le_refl _, Nat.le_refl _⟩ h
    by_cases e2 : w32 (v2) = 2
    · have h := h.2.2.1 e2
      refine x_tabIn (pc := 17) (off := 44) (t := 61) dX11_learns_17 2 e2 (by decide) (by decide) rfl (by decide) ?_
      refine x_aload_n (pc := 61) dX11_learns_61 rfl rfl ?_
      refine x_getR (pc := 62) (i := r_obj) (a := r_readerBooks) fl_X11_162 dX11_learns_62 (sN_r_obj hS) (sT_r_obj hS) rfl (sR_r_obj_51 hS) ?_
      refine x_iload_n (pc := 65) dX11_learns_65 rfl rfl ?_
      refine y_iald (pc := 66) (i := r_readerBooks) (n := 48) dX11_learns_66 (sN_r_readerBooks hS) (sT_r_readerBooks hS) (sL_r_readerBooks hS) h.1 ?_
      have h := h.2
      exact y_iret (pc := 67) dX11_learns_67 rfl ⟨Nat.le_refl _, Nat.le_refl _⟩ h
    by_cases e3 : w32 (v2) = 3
    · have h := h.2.2.2.1 e3
      refine x_tabIn (pc := 17) (off := 51) (t := 68) dX11_learns_17 3 e3 (by decide) (by decide) rfl (by decide) ?_
      refine x_aload_n (pc := 68) dX11_learns_68 rfl rfl ?_
      refine x_iload_n (pc := 69) dX11_learns_69 rfl rfl ?_
      refine y_Vi (pc := 70) (i := r_obj) (As := [vi (v1)]) (rest := []) ok_X11_nextFor ml_X11_469 dX11_learns_70 (sN_r_obj hS) (sT_r_obj hS) (by decide) rfl rfl rfl ⟨rfl, rfl⟩ ⟨by decide, by decide⟩ ⟨Nat.le_refl _, Nat.le_refl _⟩ (Nat.le_of_ble_eq_true rfl) rfl h (fun r7 I6 h => ?_)
      exact y_iret (pc := 73) dX11_learns_73 rfl ⟨Nat.le_refl _, Nat.le_refl _⟩ h
    have hd9 : w32 (v2) < 0 ∨ 3 < w32 (v2) := by omega
    have h := h.2.2.2.2 hd9
    refine x_tabOut (pc := 17) (t := 74) dX11_learns_17 hd9 (by decide) ?_
    refine x_bipush (pc := 74) dX11_learns_74 (by decide) ?_
    exact y_iret (pc := 76) dX11_learns_76 rfl ⟨Nat.le_refl _, Nat.le_refl _⟩ h
set_option maxHeartbeats 4000000 in
set_option maxRecDepth 100000 in
theorem b_R_lend {G : XG} {S : XS} {I : XI} {v1 : Int} {v2 : Int} {R : Int → XI → Prop} (hS : xSh S)  (h : (∀ I1 : XI, I1 = up I r_obj 0 (0) → ((w32 (I1 r_acts 0) = w32 (150) → R ((-1)) I1) ∧ (¬ (w32 (I1 r_acts 0) = w32 (150)) → R_isBook G S I1 (v1) (fun r3 I2 => ((w32 (r3) = 0 → R ((-1)) I2) ∧ (¬ (w32 (r3) = 0) → R_isCamp G S I2 (v2) (fun r5 I4 => ((w32 (r5) = 0 → R ((-1)) I4) ∧ (¬ (w32 (r5) = 0) → R_whoHas G S I4 (v1) (I4 r_now 0) (I4 r_now 0) (fun r7 I6 => ((w32 (r7) = w32 ((-1)) → R_look G S I6 (v2) (v1) (I6 r_now 0) (I6 r_now 0) (fun I8 => R_lineOf G S I8 (0) (fun r10 I9 => ((w32 (r10) = w32 ((-1)) → R_numberOf G S I9 (1) (4) (fun r12 I11 => R_tellAct G S I11 (v1) (0) (v2) (I9 r_now 0) (r12) (0) (fun r14 I13 => R (r14) I13))) ∧ (¬ (w32 (r10) = w32 ((-1))) → R ((-1)) I9))))) ∧ (¬ (w32 (r7) = w32 ((-1))) → R ((-1)) I6))))))))))))) : R_lend G S I v1 v2 R := by
  refine x_start [some (vr G r_obj), some (vi (v1)), some (vi (v2))] (by decide) (Nat.le_of_ble_eq_true rfl) rfl ?_
  refine x_aload_n (pc := 0) dX11_lend_0 rfl rfl ?_
  refine x_iconst (pc := 1) dX11_lend_1 ?_
  refine x_putI (pc := 2) (i := r_obj) fl_X11_220 dX11_lend_2 (sN_r_obj hS) (sT_r_obj hS) rfl ?_
  have h := h _ rfl
  generalize up I r_obj 0 (0) = I1 at h ⊢
  refine x_aload_n (pc := 5) dX11_lend_5 rfl rfl ?_
  refine x_getR (pc := 6) (i := r_obj) (a := r_acts) fl_X11_105 dX11_lend_6 (sN_r_obj hS) (sT_r_obj hS) rfl (sR_r_obj_32 hS) ?_
  refine x_iconst (pc := 9) dX11_lend_9 ?_
  refine y_iald (pc := 10) (i := r_acts) (n := 4) dX11_lend_10 (sN_r_acts hS) (sT_r_acts hS) (sL_r_acts hS) (inb_nat (k := 0) (by decide) (by decide)) ?_
  rw [show ix 0 = 0 from rfl]
  refine x_sipush (pc := 11) dX11_lend_11 (by decide) ?_
  refine x_icmp_eq (pc := 14) (t := 54) dX11_lend_14 (by decide) (fun e => ?_) (fun e => ?_)
  · have h := h.1 e
    refine x_iconst (pc := 54) dX11_lend_54 ?_
    exact y_iret (pc := 55) dX11_lend_55 rfl ⟨Nat.le_refl _, Nat.le_refl _⟩ h
  · have h := h.2 e
    refine x_aload_n (pc := 17) dX11_lend_17 rfl rfl ?_
    refine x_iload_n (pc := 18) dX11_lend_18 rfl rfl ?_
    refine y_Vi (pc := 19) (i := r_obj) (As := [vi (v1)]) (rest := []) ok_X11_isBook ml_X11_317 dX11_lend_19 (sN_r_obj hS) (sT_r_obj hS) (by decide) rfl rfl rfl ⟨rfl, rfl⟩ ⟨by decide, by decide⟩ ⟨Nat.le_refl _, Nat.le_refl _⟩ (Nat.le_of_ble_eq_true rfl) rfl h (fun r3 I2 h => ?_)
    refine x_if_eq (pc := 22) (t := 54) dX11_lend_22 (by decide) (fun e => ?_) (fun e => ?_)
    · have h := h.1 e
      refine x_iconst (pc := 54) dX11_lend_54 ?_
      exact y_iret (pc := 55) dX11_lend_55 rfl ⟨Nat.le_refl _, Nat.le_refl _⟩ h
    · have h := h.2 e
      refine x_aload_n (pc := 25) dX11_lend_25 rfl rfl ?_
      refine x_iload_n (pc := 26) dX11_lend_26 rfl rfl ?_
      refine y_Vi (pc := 27) (i := r_obj) (As := [vi (v2)]) (rest := []) ok_X11_isCamp ml_X11_243 dX11_lend_27 (sN_r_obj hS) (sT_r_obj hS) (by decide) rfl rfl rfl ⟨rfl, rfl⟩ ⟨by decide, by decide⟩ ⟨Nat.le_refl _, Nat.le_refl _⟩ (Nat.le_of_ble_eq_true rfl) rfl h (fun r5 I4 h => ?_)
      refine x_if_eq (pc := 30) (t := 54) dX11_lend_30 (by decide) (fun e => ?_) (fun e => ?_)
      · have h := h.1 e
        refine x_iconst (pc := 54) dX11_lend_54 ?_
        exact y_iret (pc := 55) dX11_lend_55 rfl ⟨Nat.le_refl _, Nat.le_refl _⟩ h
      · have h := h.2 e
        refine x_aload_n (pc := 33) dX11_lend_33 rfl rfl ?_
        refine x_iload_n (pc := 34) dX11_lend_34 rfl rfl ?_
        refine x_aload_n (pc := 35) dX11_lend_35 rfl rfl ?_
        refine x_getR (pc := 36) (i := r_obj) (a := r_now) fl_X11_23 dX11_lend_36 (sN_r_obj hS) (sT_r_obj hS) rfl (sR_r_obj_5 hS) ?_
        refine x_iconst (pc := 39) dX11_lend_39 ?_
        refine y_iald (pc := 40) (i := r_now) (n := 4) dX11_lend_40 (sN_r_now hS) (sT_r_now hS) (sL_r_now hS) (inb_nat (k := 0) (by decide) (by decide)) ?_
        rw [show ix 0 = 0 from rfl]
        refine x_aload_n (pc := 41) dX11_lend_41 rfl rfl ?_
        refine x_getR (pc := 42) (i := r_obj) (a := r_now) fl_X11_23 dX11_lend_42 (sN_r_obj hS) (sT_r_obj hS) rfl (sR_r_obj_5 hS) ?_
        refine x_iconst (pc := 45) dX11_lend_45 ?_
        refine y_iald (pc := 46) (i := r_now) (n := 4) dX11_lend_46 (sN_r_now hS) (sT_r_now hS) (sL_r_now hS) (inb_nat (k := 0) (by decide) (by decide)) ?_
        rw [show ix 0 = 0 from rfl]
        refine y_Vi (pc := 47) (i := r_obj) (As := [vi (v1), vi (I4 r_now 0), vi (I4 r_now 0)]) (rest := []) ok_X11_whoHas ml_X11_297 dX11_lend_47 (sN_r_obj hS) (sT_r_obj hS) (by decide) rfl rfl rfl ⟨rfl, rfl⟩ ⟨by decide, by decide⟩ ⟨Nat.le_refl _, Nat.le_refl _⟩ (Nat.le_of_ble_eq_true rfl) rfl h (fun r7 I6 h => ?_)
        refine x_iconst (pc := 50) dX11_lend_50 ?_
        refine x_icmp_eq (pc := 51) (t := 56) dX11_lend_51 (by decide) (fun e => ?_) (fun e => ?_)
        · have h := h.1 e
          refine x_aload_n (pc := 56) dX11_lend_56 rfl rfl ?_
          refine x_iload_n (pc := 57) dX11_lend_57 rfl rfl ?_
          refine x_iload_n (pc := 58) dX11_lend_58 rfl rfl ?_
          refine x_aload_n (pc := 59) dX11_lend_59 rfl rfl ?_
          refine x_getR (pc := 60) (i := r_obj) (a := r_now) fl_X11_23 dX11_lend_60 (sN_r_obj hS) (sT_r_obj hS) rfl (sR_r_obj_5 hS) ?_
          refine x_iconst (pc := 63) dX11_lend_63 ?_
          refine y_iald (pc := 64) (i := r_now) (n := 4) dX11_lend_64 (sN_r_now hS) (sT_r_now hS) (sL_r_now hS) (inb_nat (k := 0) (by decide) (by decide)) ?_
          rw [show ix 0 = 0 from rfl]
          refine x_aload_n (pc := 65) dX11_lend_65 rfl rfl ?_
          refine x_getR (pc := 66) (i := r_obj) (a := r_now) fl_X11_23 dX11_lend_66 (sN_r_obj hS) (sT_r_obj hS) rfl (sR_r_obj_5 hS) ?_
          refine x_iconst (pc := 69) dX11_lend_69 ?_
          refine y_iald (pc := 70) (i := r_now) (n := 4) dX11_lend_70 (sN_r_now hS) (sT_r_now hS) (sL_r_now hS) (inb_nat (k := 0) (by decide) (by decide)) ?_
          rw [show ix 0 = 0 from rfl]
          refine y_Vv (pc := 71) (i := r_obj) (As := [vi (v2), vi (v1), vi (I6 r_now 0), vi (I6 r_now 0)]) (rest := []) ok_X11_look ml_X11_320 dX11_lend_71 (sN_r_obj hS) (sT_r_obj hS) (by decide) rfl rfl rfl ⟨rfl, rfl⟩ ⟨by decide, by decide⟩ ⟨Nat.le_refl _, Nat.le_refl _⟩ (Nat.le_of_ble_eq_true rfl) rfl h (fun I8 h => ?_)
          refine x_aload_n (pc := 74) dX11_lend_74 rfl rfl ?_
          refine x_iconst (pc := 75) dX11_lend_75 ?_
          refine y_Vi (pc := 76) (i := r_obj) (As := [vi (0)]) (rest := []) ok_X11_lineOf ml_X11_313 dX11_lend_76 (sN_r_obj hS) (sT_r_obj hS) (by decide) rfl rfl rfl ⟨rfl, rfl⟩ ⟨by decide, by decide⟩ ⟨Nat.le_refl _, Nat.le_refl _⟩ (Nat.le_of_ble_eq_true rfl) rfl h (fun r10 I9 h => ?_)
          refine x_iconst (pc := 79) dX11_lend_79 ?_
          refine x_icmp_eq (pc := 80) (t := 85) dX11_lend_80 (by decide) (fun e => ?_) (fun e => ?_)
          · have h := h.1 e
            refine x_aload_n (pc := 85) dX11_lend_85 rfl rfl ?_
            refine x_iload_n (pc := 86) dX11_lend_86 rfl rfl ?_
            refine x_iconst (pc := 87) dX11_lend_87 ?_
            refine x_iload_n (pc := 88) dX11_lend_88 rfl rfl ?_
            refine x_aload_n (pc := 89) dX11_lend_89 rfl rfl ?_
            refine x_getR (pc := 90) (i := r_obj) (a := r_now) fl_X11_23 dX11_lend_90 (sN_r_obj hS) (sT_r_obj hS) rfl (sR_r_obj_5 hS) ?_
            refine x_iconst (pc := 93) dX11_lend_93 ?_
            refine y_iald (pc := 94) (i := r_now) (n := 4) dX11_lend_94 (sN_r_now hS) (sT_r_now hS) (sL_r_now hS) (inb_nat (k := 0) (by decide) (by decide)) ?_
            rw [show ix 0 = 0 from rfl]
            refine x_aload_n (pc := 95) dX11_lend_95 rfl rfl ?_
            refine x_iconst (pc := 96) dX11_lend_96 ?_
            refine x_iconst (pc := 97) dX11_lend_97 ?_
            refine y_Vi (pc := 98) (i := r_obj) (As := [vi (1), vi (4)]) (rest := [vi (I9 r_now 0), vi (v2), vi (0), vi (v1), vr G r_obj]) ok_X11_numberOf ml_X11_324 dX11_lend_98 (sN_r_obj hS) (sT_r_obj hS) (by decide) rfl rfl rfl ⟨rfl, rfl⟩ ⟨by decide, by decide⟩ ⟨Nat.le_refl _, Nat.le_refl _⟩ (Nat.le_of_ble_eq_true rfl) rfl h (fun r12 I11 h => ?_)
            refine x_iconst (pc := 101) dX11_lend_101 ?_
            refine y_Vi (pc := 102) (i := r_obj) (As := [vi (v1), vi (0), vi (v2), vi (I9 r_now 0), vi (r12), vi (0)]) (rest := []) ok_X11_tellAct ml_X11_328 dX11_lend_102 (sN_r_obj hS) (sT_r_obj hS) (by decide) rfl rfl rfl ⟨rfl, rfl⟩ ⟨by decide, by decide⟩ ⟨Nat.le_refl _, Nat.le_refl _⟩ (Nat.le_of_ble_eq_true rfl) rfl h (fun r14 I13 h => ?_)
            exact y_iret (pc := 105) dX11_lend_105 rfl ⟨Nat.le_refl _, Nat.le_refl _⟩ h
          · have h := h.2 e
            refine x_iconst (pc := 83) dX11_lend_83 ?_
            exact y_iret (pc := 84) dX11_lend_84 rfl ⟨Nat.le_refl _, Nat.le_refl _⟩ h
        · have h := h.2 e
          refine x_iconst (pc := 54) dX11_lend_54 ?_
          exact y_iret (pc := 55) dX11_lend_55 rfl ⟨Nat.le_refl _, Nat.le_refl _⟩ h
set_option maxHeartbeats 4000000 in
set_option maxRecDepth 100000 in
theorem b_R_levelOf {G : XG} {S : XS} {I : XI} {v1 : Int} {R : Int → XI → Prop} (hS : xSh S)  (h : R_levelOf_k4 G S I (v1) (0) (1) R) : R_levelOf G S I v1 R := by
  refine x_start [some (vr G r_obj), some (vi (v1)), none, none, none, none] (by decide) (Nat.le_of_ble_eq_true rfl) rfl ?_
  refine x_iconst (pc := 0) dX11_levelOf_0 ?_
  refine x_istore_n (pc := 1) (L' := [some (vr G r_obj), some (vi (v1)), some (vi (0)), none, none, none]) dX11_levelOf_1 rfl (by decide) (xst1 rfl rfl rfl) ?_
  refine x_iconst (pc := 2) dX11_levelOf_2 ?_
  refine x_istore_n (pc := 3) (L' := [some (vr G r_obj), some (vi (v1)), some (vi (0)), some (vi (1)), none, none]) dX11_levelOf_3 rfl (by decide) (xst1 rfl rfl rfl) ?_
  exact h
set_option maxHeartbeats 4000000 in
set_option maxRecDepth 100000 in
theorem b_R_levelOf_k4 {G : XG} {S : XS}  {I : XI} {v1 : Int} {v2 : Int} {v3 : Int} {R : Int → XI → Prop} (hS : xSh S)  (h : ((w32 (9) < w32 (v3) → R (v2) I) ∧ (¬ (w32 (9) < w32 (v3)) → R_levelOf_k16 G S I (v1) (v2) (v3) (0) (0) R))) : R_levelOf_k4 G S  I v1 v2 v3 R := by
  unfold R_levelOf_k4
  refine x_iload_n (pc := 4) dX11_levelOf_4 rfl rfl ?_
  refine x_bipush (pc := 5) dX11_levelOf_5 (by decide) ?_
  refine x_icmp_gt (pc := 7) (t := 82) dX11_levelOf_7 (by decide) (fun e => ?_) (fun e => ?_)
  · have h := h.1 e
    refine x_iload_n (pc := 82) dX11_levelOf_82 rfl rfl ?_
    exact y_iret (pc := 83) dX11_levelOf_83 rfl ⟨Nat.le_refl _, Nat.le_refl _⟩ h
  · have h := h.2 e
    refine x_iconst (pc := 10) dX11_levelOf_10 ?_
    refine x_istore (pc := 11) (L' := [some (vr G r_obj), some (vi (v1)), some (vi (v2)), some (vi (v3)), some (vi (0)), none]) dX11_levelOf_11 (by decide) (xst1 rfl rfl rfl) ?_
    refine x_iconst (pc := 13) dX11_levelOf_13 ?_
    refine x_istore (pc := 14) (L' := [some (vr G r_obj), some (vi (v1)), some (vi (v2)), some (vi (v3)), some (vi (0)), some (vi (0))]) dX11_levelOf_14 (by decide) (xst1 rfl rfl rfl) ?_
    exact h
set_option maxHeartbeats 4000000 in
set_option maxRecDepth 100000 in
theorem b_R_levelOf_k16 {G : XG} {S : XS}  {I : XI} {v1 : Int} {v2 : Int} {v3 : Int} {v4 : Int} {v5 : Int} {R : Int → XI → Prop} (hS : xSh S)  (h : ((w32 (I r_books 0) ≤ w32 (v5) → ((w32 (v4) < w32 (v3) → R_levelOf_k4 G S I (v1) (v2) (v3 + 1) R) ∧ (¬ (w32 (v4) < w32 (v3)) → R_levelOf_k4 G S I (v1) (v3) (v3 + 1) R))) ∧ (¬ (w32 (I r_books 0) ≤ w32 (v5)) → R_hasRead G S I (v1) (v5) (fun r2 I1 => ((w32 (r2) = 0 → R_levelOf_k16 G S I1 (v1) (v2) (v3) ((v4) + (0)) (v5 + 1) R) ∧ (¬ (w32 (r2) = 0) → (inb (v5) 96 ∧ ((w32 (I1 r_bookLevel (ix (v5))) < w32 (v3) → R_levelOf_k16 G S I1 (v1) (v2) (v3) ((v4) + (0)) (v5 + 1) R) ∧ (¬ (w32 (I1 r_bookLevel (ix (v5))) < w32 (v3)) → R_levelOf_k16 G S I1 (v1) (v2) (v3) ((v4) + (1)) (v5 + 1) R))))))))) : R_levelOf_k16 G S  I v1 v2 v3 v4 v5 R := by
  unfold R_levelOf_k16
  refine x_iload (pc := 16) dX11_levelOf_16 rfl ?_
  refine x_aload_n (pc := 18) dX11_levelOf_18 rfl rfl ?_
  refine x_getR (pc := 19) (i := r_obj) (a := r_books) fl_X11_87 dX11_levelOf_19 (sN_r_obj hS) (sT_r_obj hS) rfl (sR_r_obj_26 hS) ?_
  refine x_iconst (pc := 22) dX11_levelOf_22 ?_
  refine y_iald (pc := 23) (i := r_books) (n := 4) dX11_levelOf_23 (sN_r_books hS) (sT_r_books hS) (sL_r_books hS) (inb_nat (k := 0) (by decide) (by decide)) ?_
  rw [show ix 0 = 0 from rfl]
  refine x_icmp_ge (pc := 24) (t := 64) dX11_levelOf_24 (by decide) (fun e => ?_) (fun e => ?_)
  · have h := h.1 e
    refine x_iload (pc := 64) dX11_levelOf_64 rfl ?_
    refine x_iload_n (pc := 66) dX11_levelOf_66 rfl rfl ?_
    refine x_icmp_lt (pc := 67) (t := 74) dX11_levelOf_67 (by decide) (fun e => ?_) (fun e => ?_)
    · have h := h.1 e
      refine x_iload_n (pc := 74) dX11_levelOf_74 rfl rfl ?_
      refine x_istore_n (pc := 75) (L' := [some (vr G r_obj), some (vi (v1)), some (vi (v2)), some (vi (v3)), some (vi (v4)), some (vi (v5))]) dX11_levelOf_75 rfl (by decide) (xst1 rfl rfl rfl) ?_
      refine x_iinc (pc := 76) (L' := [some (vr G r_obj), some (vi (v1)), some (vi (v2)), some (vi (v3 + 1)), some (vi (v4)), some (vi (v5))]) dX11_levelOf_76 rfl (by decide) (xst1 rfl rfl rfl) ?_
      refine x_goto (pc := 79) (t := 4) dX11_levelOf_79 (by decide) ?_
      refine x_less (L' := [some (vr G r_obj), some (vi (v1)), some (vi (v2)), some (vi (v3 + 1)), none, none]) (And.intro rfl (And.intro rfl (And.intro rfl (And.intro rfl trivial)))) ?_
      exact h
    · have h := h.2 e
      refine x_iload_n (pc := 70) dX11_levelOf_70 rfl rfl ?_
      refine x_goto (pc := 71) (t := 75) dX11_levelOf_71 (by decide) ?_
      refine x_istore_n (pc := 75) (L' := [some (vr G r_obj), some (vi (v1)), some (vi (v3)), some (vi (v3)), some (vi (v4)), some (vi (v5))]) dX11_levelOf_75 rfl (by decide) (xst1 rfl rfl rfl) ?_
      refine x_iinc (pc := 76) (L' := [some (vr G r_obj), some (vi (v1)), some (vi (v3)), some (vi (v3 + 1)), some (vi (v4)), some (vi (v5))]) dX11_levelOf_76 rfl (by decide) (xst1 rfl rfl rfl) ?_
      refine x_goto (pc := 79) (t := 4) dX11_levelOf_79 (by decide) ?_
      refine x_less (L' := [some (vr G r_obj), some (vi (v1)), some (vi (v3)), some (vi (v3 + 1)), none, none]) (And.intro rfl (And.intro rfl (And.intro rfl (And.intro rfl trivial)))) ?_
      exact h
  · have h := h.2 e
    refine x_iload (pc := 27) dX11_levelOf_27 rfl ?_
    refine x_aload_n (pc := 29) dX11_levelOf_29 rfl rfl ?_
    refine x_iload_n (pc := 30) dX11_levelOf_30 rfl rfl ?_
    refine x_iload (pc := 31) dX11_levelOf_31 rfl ?_
    refine y_Vi (pc := 33) (i := r_obj) (As := [vi (v1), vi (v5)]) (rest := [vi (v4)]) ok_X11_hasRead ml_X11_463 dX11_levelOf_33 (sN_r_obj hS) (sT_r_obj hS) (by decide) rfl rfl rfl ⟨rfl, rfl⟩ ⟨by decide, by decide⟩ ⟨Nat.le_refl _, Nat.le_refl _⟩ (Nat.le_of_ble_eq_true rfl) rfl h (fun r2 I1 h => ?_)
    refine x_if_eq (pc := 36) (t := 54) dX11_levelOf_36 (by decide) (fun e => ?_) (fun e => ?_)
    · have h := h.1 e
      refine x_iconst (pc := 54) dX11_levelOf_54 ?_
      refine x_iadd (pc := 55) dX11_levelOf_55 ?_
      refine x_istore (pc := 56) (L' := [some (vr G r_obj), some (vi (v1)), some (vi (v2)), some (vi (v3)), some (vi ((v4) + (0))), some (vi (v5))]) dX11_levelOf_56 (by decide) (xst1 rfl rfl rfl) ?_
      refine x_iinc (pc := 58) (L' := [some (vr G r_obj), some (vi (v1)), some (vi (v2)), some (vi (v3)), some (vi ((v4) + (0))), some (vi (v5 + 1))]) dX11_levelOf_58 rfl (by decide) (xst1 rfl rfl rfl) ?_
      refine x_goto (pc := 61) (t := 16) dX11_levelOf_61 (by decide) ?_
      exact h
    · have h := h.2 e
      refine x_aload_n (pc := 39) dX11_levelOf_39 rfl rfl ?_
      refine x_getR (pc := 40) (i := r_obj) (a := r_bookLevel) fl_X11_96 dX11_levelOf_40 (sN_r_obj hS) (sT_r_obj hS) rfl (sR_r_obj_29 hS) ?_
      refine x_iload (pc := 43) dX11_levelOf_43 rfl ?_
      refine y_iald (pc := 45) (i := r_bookLevel) (n := 96) dX11_levelOf_45 (sN_r_bookLevel hS) (sT_r_bookLevel hS) (sL_r_bookLevel hS) h.1 ?_
      have h := h.2
      refine x_iload_n (pc := 46) dX11_levelOf_46 rfl rfl ?_
      refine x_icmp_lt (pc := 47) (t := 54) dX11_levelOf_47 (by decide) (fun e => ?_) (fun e => ?_)
      · have h := h.1 e
        refine x_iconst (pc := 54) dX11_levelOf_54 ?_
        refine x_iadd (pc := 55) dX11_levelOf_55 ?_
        refine x_istore (pc := 56) (L' := [some (vr G r_obj), some (vi (v1)), some (vi (v2)), some (vi (v3)), some (vi ((v4) + (0))), some (vi (v5))]) dX11_levelOf_56 (by decide) (xst1 rfl rfl rfl) ?_
        refine x_iinc (pc := 58) (L' := [some (vr G r_obj), some (vi (v1)), some (vi (v2)), some (vi (v3)), some (vi ((v4) + (0))), some (vi (v5 + 1))]) dX11_levelOf_58 rfl (by decide) (xst1 rfl rfl rfl) ?_
        refine x_goto (pc := 61) (t := 16) dX11_levelOf_61 (by decide) ?_
        exact h
      · have h := h.2 e
        refine x_iconst (pc := 50) dX11_levelOf_50 ?_
        refine x_goto (pc := 51) (t := 55) dX11_levelOf_51 (by decide) ?_
        refine x_iadd (pc := 55) dX11_levelOf_55 ?_
        refine x_istore (pc := 56) (L' := [some (vr G r_obj), some (vi (v1)), some (vi (v2)), some (vi (v3)), some (vi ((v4) + (1))), some (vi (v5))]) dX11_levelOf_56 (by decide) (xst1 rfl rfl rfl) ?_
        refine x_iinc (pc := 58) (L' := [some (vr G r_obj), some (vi (v1)), some (vi (v2)), some (vi (v3)), some (vi ((v4) + (1))), some (vi (v5 + 1))]) dX11_levelOf_58 rfl (by decide) (xst1 rfl rfl rfl) ?_
        refine x_goto (pc := 61) (t := 16) dX11_levelOf_61 (by decide) ?_
        exact h
set_option maxHeartbeats 4000000 in
set_option maxRecDepth 100000 in
theorem b_R_likeliest {G : XG} {S : XS} {I : XI} {v1 : Int} {v2 : Int} {R : Int → XI → Prop} (hS : xSh S)  (h : (∀ I1 : XI, I1 = up I r_obj 0 (0) → R_isThere G S I1 (v1) (v2) (fun r3 I2 => ((w32 (r3) = 0 → R ((-1)) I2) ∧ (¬ (w32 (r3) = 0) → R_viewWeek G S I2 (fun r5 I4 => R_findParts G S I4 (v1) (v2) (r5) (fun I6 => R_greatest G S I6 (fun r8 I7 => R (r8) I7)))))))) : R_likeliest G S I v1 v2 R := by
  refine x_start [some (vr G r_obj), some (vi (v1)), some (vi (v2))] (by decide) (Nat.le_of_ble_eq_true rfl) rfl ?_
  refine x_aload_n (pc := 0) dX11_likeliest_0 rfl rfl ?_
  refine x_iconst (pc := 1) dX11_likeliest_1 ?_
  refine x_putI (pc := 2) (i := r_obj) fl_X11_220 dX11_likeliest_2 (sN_r_obj hS) (sT_r_obj hS) rfl ?_
  have h := h _ rfl
  generalize up I r_obj 0 (0) = I1 at h ⊢
  refine x_aload_n (pc := 5) dX11_likeliest_5 rfl rfl ?_
  refine x_iload_n (pc := 6) dX11_likeliest_6 rfl rfl ?_
  refine x_iload_n (pc := 7) dX11_likeliest_7 rfl rfl ?_
  refine y_Vi (pc := 8) (i := r_obj) (As := [vi (v1), vi (v2)]) (rest := []) ok_X11_isThere ml_X11_279 dX11_likeliest_8 (sN_r_obj hS) (sT_r_obj hS) (by decide) rfl rfl rfl ⟨rfl, rfl⟩ ⟨by decide, by decide⟩ ⟨Nat.le_refl _, Nat.le_refl _⟩ (Nat.le_of_ble_eq_true rfl) rfl h (fun r3 I2 h => ?_)
  refine x_if_ne (pc := 11) (t := 16) dX11_likeliest_11 (by decide) (fun e => ?_) (fun e => ?_)
  · have h := h.1 e
    refine x_iconst (pc := 14) dX11_likeliest_14 ?_
    exact y_iret (pc := 15) dX11_likeliest_15 rfl ⟨Nat.le_refl _, Nat.le_refl _⟩ h
  · have h := h.2 e
    refine x_aload_n (pc := 16) dX11_likeliest_16 rfl rfl ?_
    refine x_iload_n (pc := 17) dX11_likeliest_17 rfl rfl ?_
    refine x_iload_n (pc := 18) dX11_likeliest_18 rfl rfl ?_
    refine x_aload_n (pc := 19) dX11_likeliest_19 rfl rfl ?_
    refine y_Vi (pc := 20) (i := r_obj) (As := []) (rest := [vi (v2), vi (v1), vr G r_obj]) ok_X11_viewWeek ml_X11_283 dX11_likeliest_20 (sN_r_obj hS) (sT_r_obj hS) (by decide) rfl rfl rfl ⟨rfl, rfl⟩ ⟨by decide, by decide⟩ ⟨Nat.le_refl _, Nat.le_refl _⟩ (Nat.le_of_ble_eq_true rfl) rfl h (fun r5 I4 h => ?_)
    refine y_Vv (pc := 23) (i := r_obj) (As := [vi (v1), vi (v2), vi (r5)]) (rest := []) ok_X11_findParts ml_X11_287 dX11_likeliest_23 (sN_r_obj hS) (sT_r_obj hS) (by decide) rfl rfl rfl ⟨rfl, rfl⟩ ⟨by decide, by decide⟩ ⟨Nat.le_refl _, Nat.le_refl _⟩ (Nat.le_of_ble_eq_true rfl) rfl h (fun I6 h => ?_)
    refine x_aload_n (pc := 26) dX11_likeliest_26 rfl rfl ?_
    refine y_Vi (pc := 27) (i := r_obj) (As := []) (rest := []) ok_X11_greatest ml_X11_290 dX11_likeliest_27 (sN_r_obj hS) (sT_r_obj hS) (by decide) rfl rfl rfl ⟨rfl, rfl⟩ ⟨by decide, by decide⟩ ⟨Nat.le_refl _, Nat.le_refl _⟩ (Nat.le_of_ble_eq_true rfl) rfl h (fun r8 I7 h => ?_)
    exact y_iret (pc := 30) dX11_likeliest_30 rfl ⟨Nat.le_refl _, Nat.le_refl _⟩ h
set_option maxHeartbeats 4000000 in
set_option maxRecDepth 100000 in
theorem b_R_lineOf {G : XG} {S : XS} {I : XI} {v1 : Int} {R : Int → XI → Prop} (hS : xSh S)  (h : R_lineOf_k2 G S I (v1) (0) R) : R_lineOf G S I v1 R := by
  refine x_start [some (vr G r_obj), some (vi (v1)), none, none, none, none, none] (by decide) (Nat.le_of_ble_eq_true rfl) rfl ?_
  refine x_iconst (pc := 0) dX11_lineOf_0 ?_
  refine x_istore_n (pc := 1) (L' := [some (vr G r_obj), some (vi (v1)), some (vi (0)), none, none, none, none]) dX11_lineOf_1 rfl (by decide) (xst1 rfl rfl rfl) ?_
  exact h
set_option maxHeartbeats 4000000 in
set_option maxRecDepth 100000 in
theorem b_R_lineOf_k2 {G : XG} {S : XS}  {I : XI} {v1 : Int} {v2 : Int} {R : Int → XI → Prop} (hS : xSh S)  (h : ((w32 (I r_lines 0) ≤ w32 (v2) → R ((-1)) I) ∧ (¬ (w32 (I r_lines 0) ≤ w32 (v2)) → (inb (v2) 64 ∧ ((w32 (I r_lineAct (ix (v2))) = w32 (v1) → R_lineOf_k33 G S I (v1) (v2) (1) ((4) * (v2)) R) ∧ (¬ (w32 (I r_lineAct (ix (v2))) = w32 (v1)) → R_lineOf_k33 G S I (v1) (v2) (0) ((4) * (v2)) R)))))) : R_lineOf_k2 G S  I v1 v2 R := by
  unfold R_lineOf_k2
  refine x_iload_n (pc := 2) dX11_lineOf_2 rfl rfl ?_
  refine x_aload_n (pc := 3) dX11_lineOf_3 rfl rfl ?_
  refine x_getR (pc := 4) (i := r_obj) (a := r_lines) fl_X11_129 dX11_lineOf_4 (sN_r_obj hS) (sT_r_obj hS) rfl (sR_r_obj_40 hS) ?_
  refine x_iconst (pc := 7) dX11_lineOf_7 ?_
  refine y_iald (pc := 8) (i := r_lines) (n := 4) dX11_lineOf_8 (sN_r_lines hS) (sT_r_lines hS) (sL_r_lines hS) (inb_nat (k := 0) (by decide) (by decide)) ?_
  rw [show ix 0 = 0 from rfl]
  refine x_icmp_ge (pc := 9) (t := 185) dX11_lineOf_9 (by decide) (fun e => ?_) (fun e => ?_)
  · have h := h.1 e
    refine x_iconst (pc := 185) dX11_lineOf_185 ?_
    exact y_iret (pc := 186) dX11_lineOf_186 rfl ⟨Nat.le_refl _, Nat.le_refl _⟩ h
  · have h := h.2 e
    refine x_aload_n (pc := 12) dX11_lineOf_12 rfl rfl ?_
    refine x_getR (pc := 13) (i := r_obj) (a := r_lineAct) fl_X11_132 dX11_lineOf_13 (sN_r_obj hS) (sT_r_obj hS) rfl (sR_r_obj_41 hS) ?_
    refine x_iload_n (pc := 16) dX11_lineOf_16 rfl rfl ?_
    refine y_iald (pc := 17) (i := r_lineAct) (n := 64) dX11_lineOf_17 (sN_r_lineAct hS) (sT_r_lineAct hS) (sL_r_lineAct hS) h.1 ?_
    have h := h.2
    refine x_iload_n (pc := 18) dX11_lineOf_18 rfl rfl ?_
    refine x_icmp_ne (pc := 19) (t := 26) dX11_lineOf_19 (by decide) (fun e => ?_) (fun e => ?_)
    · have h := h.1 e
      refine x_iconst (pc := 22) dX11_lineOf_22 ?_
      refine x_goto (pc := 23) (t := 27) dX11_lineOf_23 (by decide) ?_
      refine x_istore_n (pc := 27) (L' := [some (vr G r_obj), some (vi (v1)), some (vi (v2)), some (vi (1)), none, none, none]) dX11_lineOf_27 rfl (by decide) (xst1 rfl rfl rfl) ?_
      refine x_iconst (pc := 28) dX11_lineOf_28 ?_
      refine x_iload_n (pc := 29) dX11_lineOf_29 rfl rfl ?_
      refine x_imul (pc := 30) dX11_lineOf_30 ?_
      refine x_istore (pc := 31) (L' := [some (vr G r_obj), some (vi (v1)), some (vi (v2)), some (vi (1)), some (vi ((4) * (v2))), none, none]) dX11_lineOf_31 (by decide) (xst1 rfl rfl rfl) ?_
      exact h
    · have h := h.2 e
      refine x_iconst (pc := 26) dX11_lineOf_26 ?_
      refine x_istore_n (pc := 27) (L' := [some (vr G r_obj), some (vi (v1)), some (vi (v2)), some (vi (0)), none, none, none]) dX11_lineOf_27 rfl (by decide) (xst1 rfl rfl rfl) ?_
      refine x_iconst (pc := 28) dX11_lineOf_28 ?_
      refine x_iload_n (pc := 29) dX11_lineOf_29 rfl rfl ?_
      refine x_imul (pc := 30) dX11_lineOf_30 ?_
      refine x_istore (pc := 31) (L' := [some (vr G r_obj), some (vi (v1)), some (vi (v2)), some (vi (0)), some (vi ((4) * (v2))), none, none]) dX11_lineOf_31 (by decide) (xst1 rfl rfl rfl) ?_
      exact h
set_option maxHeartbeats 4000000 in
set_option maxRecDepth 100000 in
theorem b_R_lineOf_k33 {G : XG} {S : XS}  {I : XI} {v1 : Int} {v2 : Int} {v3 : Int} {v4 : Int} {R : Int → XI → Prop} (hS : xSh S)  (h : (inb (v2) 64 ∧ ((w32 (((4) * (v2)) + (I r_lineTests (ix (v2)))) ≤ w32 (v4) → ((w32 (v3) = 0 → R_lineOf_k2 G S I (v1) (v2 + 1) R) ∧ (¬ (w32 (v3) = 0) → R (v2) I))) ∧ (¬ (w32 (((4) * (v2)) + (I r_lineTests (ix (v2)))) ≤ w32 (v4)) → ((w32 (v3) = 0 → ((w32 (v3) = 0 → R_lineOf_k2 G S I (v1) (v2 + 1) R) ∧ (¬ (w32 (v3) = 0) → R (v2) I))) ∧ (¬ (w32 (v3) = 0) → (inb (v4) 256 ∧ (inb (I r_testWhat (ix (v4))) 10 ∧ (inb (v4) 256 ∧ ((w32 (I r_testSign (ix (v4))) = w32 (60) → (inb (v4) 256 ∧ ((w32 (I r_testThan (ix (v4))) ≤ w32 (I r_seen (ix (I r_testWhat (ix (v4))))) → R_lineOf_k147 G S I (v1) (v2) (v4) (0) R) ∧ (¬ (w32 (I r_testThan (ix (v4))) ≤ w32 (I r_seen (ix (I r_testWhat (ix (v4)))))) → R_lineOf_k147 G S I (v1) (v2) (v4) (1) R)))) ∧ (¬ (w32 (I r_testSign (ix (v4))) = w32 (60)) → (inb (v4) 256 ∧ ((w32 (I r_testSign (ix (v4))) = w32 (62) → (inb (v4) 256 ∧ ((w32 (I r_seen (ix (I r_testWhat (ix (v4))))) ≤ w32 (I r_testThan (ix (v4))) → R_lineOf_k147 G S I (v1) (v2) (v4) (0) R) ∧ (¬ (w32 (I r_seen (ix (I r_testWhat (ix (v4))))) ≤ w32 (I r_testThan (ix (v4)))) → R_lineOf_k147 G S I (v1) (v2) (v4) (1) R)))) ∧ (¬ (w32 (I r_testSign (ix (v4))) = w32 (62)) → (inb (v4) 256 ∧ ((w32 (I r_seen (ix (I r_testWhat (ix (v4))))) = w32 (I r_testThan (ix (v4))) → R_lineOf_k147 G S I (v1) (v2) (v4) (1) R) ∧ (¬ (w32 (I r_seen (ix (I r_testWhat (ix (v4))))) = w32 (I r_testThan (ix (v4)))) → R_lineOf_k147 G S I (v1) (v2) (v4) (0) R))))))))))))))))) : R_lineOf_k33 G S  I v1 v2 v3 v4 R := by
  unfold R_lineOf_k33
  refine x_iload (pc := 33) dX11_lineOf_33 rfl ?_
  refine x_iconst (pc := 35) dX11_lineOf_35 ?_
  refine x_iload_n (pc := 36) dX11_lineOf_36 rfl rfl ?_
  refine x_imul (pc := 37) dX11_lineOf_37 ?_
  refine x_aload_n (pc := 38) dX11_lineOf_38 rfl rfl ?_
  refine x_getR (pc := 39) (i := r_obj) (a := r_lineTests) fl_X11_138 dX11_lineOf_39 (sN_r_obj hS) (sT_r_obj hS) rfl (sR_r_obj_43 hS) ?_
  refine x_iload_n (pc := 42) dX11_lineOf_42 rfl rfl ?_
  refine y_iald (pc := 43) (i := r_lineTests) (n := 64) dX11_lineOf_43 (sN_r_lineTests hS) (sT_r_lineTests hS) (sL_r_lineTests hS) h.1 ?_
  have h := h.2
  refine x_iadd (pc := 44) dX11_lineOf_44 ?_
  refine x_icmp_ge (pc := 45) (t := 173) dX11_lineOf_45 (by decide) (fun e => ?_) (fun e => ?_)
  · have h := h.1 e
    refine x_iload_n (pc := 173) dX11_lineOf_173 rfl rfl ?_
    refine x_if_eq (pc := 174) (t := 179) dX11_lineOf_174 (by decide) (fun e => ?_) (fun e => ?_)
    · have h := h.1 e
      refine x_iinc (pc := 179) (L' := [some (vr G r_obj), some (vi (v1)), some (vi (v2 + 1)), some (vi (v3)), some (vi (v4)), none, none]) dX11_lineOf_179 rfl (by decide) (xst1 rfl rfl rfl) ?_
      refine x_goto (pc := 182) (t := 2) dX11_lineOf_182 (by decide) ?_
      refine x_less (L' := [some (vr G r_obj), some (vi (v1)), some (vi (v2 + 1)), none, none, none, none]) (And.intro rfl (And.intro rfl (And.intro rfl trivial))) ?_
      exact h
    · have h := h.2 e
      refine x_iload_n (pc := 177) dX11_lineOf_177 rfl rfl ?_
      exact y_iret (pc := 178) dX11_lineOf_178 rfl ⟨Nat.le_refl _, Nat.le_refl _⟩ h
  · have h := h.2 e
    refine x_iload_n (pc := 48) dX11_lineOf_48 rfl rfl ?_
    refine x_if_eq (pc := 49) (t := 173) dX11_lineOf_49 (by decide) (fun e => ?_) (fun e => ?_)
    · have h := h.1 e
      refine x_iload_n (pc := 173) dX11_lineOf_173 rfl rfl ?_
      refine x_if_eq (pc := 174) (t := 179) dX11_lineOf_174 (by decide) (fun e => ?_) (fun e => ?_)
      · have h := h.1 e
        refine x_iinc (pc := 179) (L' := [some (vr G r_obj), some (vi (v1)), some (vi (v2 + 1)), some (vi (v3)), some (vi (v4)), none, none]) dX11_lineOf_179 rfl (by decide) (xst1 rfl rfl rfl) ?_
        refine x_goto (pc := 182) (t := 2) dX11_lineOf_182 (by decide) ?_
        refine x_less (L' := [some (vr G r_obj), some (vi (v1)), some (vi (v2 + 1)), none, none, none, none]) (And.intro rfl (And.intro rfl (And.intro rfl trivial))) ?_
        exact h
      · have h := h.2 e
        refine x_iload_n (pc := 177) dX11_lineOf_177 rfl rfl ?_
        exact y_iret (pc := 178) dX11_lineOf_178 rfl ⟨Nat.le_refl _, Nat.le_refl _⟩ h
    · have h := h.2 e
      refine x_aload_n (pc := 52) dX11_lineOf_52 rfl rfl ?_
      refine x_getR (pc := 53) (i := r_obj) (a := r_seen) fl_X11_181 dX11_lineOf_53 (sN_r_obj hS) (sT_r_obj hS) rfl (sR_r_obj_58 hS) ?_
      refine x_aload_n (pc := 56) dX11_lineOf_56 rfl rfl ?_
      refine x_getR (pc := 57) (i := r_obj) (a := r_testWhat) fl_X11_141 dX11_lineOf_57 (sN_r_obj hS) (sT_r_obj hS) rfl (sR_r_obj_44 hS) ?_
      refine x_iload (pc := 60) dX11_lineOf_60 rfl ?_
      refine y_iald (pc := 62) (i := r_testWhat) (n := 256) dX11_lineOf_62 (sN_r_testWhat hS) (sT_r_testWhat hS) (sL_r_testWhat hS) h.1 ?_
      have h := h.2
      refine y_iald (pc := 63) (i := r_seen) (n := 10) dX11_lineOf_63 (sN_r_seen hS) (sT_r_seen hS) (sL_r_seen hS) h.1 ?_
      have h := h.2
      refine x_istore (pc := 64) (L' := [some (vr G r_obj), some (vi (v1)), some (vi (v2)), some (vi (v3)), some (vi (v4)), some (vi (I r_seen (ix (I r_testWhat (ix (v4)))))), none]) dX11_lineOf_64 (by decide) (xst1 rfl rfl rfl) ?_
      refine x_aload_n (pc := 66) dX11_lineOf_66 rfl rfl ?_
      refine x_getR (pc := 67) (i := r_obj) (a := r_testSign) fl_X11_144 dX11_lineOf_67 (sN_r_obj hS) (sT_r_obj hS) rfl (sR_r_obj_45 hS) ?_
      refine x_iload (pc := 70) dX11_lineOf_70 rfl ?_
      refine y_iald (pc := 72) (i := r_testSign) (n := 256) dX11_lineOf_72 (sN_r_testSign hS) (sT_r_testSign hS) (sL_r_testSign hS) h.1 ?_
      have h := h.2
      refine x_bipush (pc := 73) dX11_lineOf_73 (by decide) ?_
      refine x_icmp_ne (pc := 75) (t := 98) dX11_lineOf_75 (by decide) (fun e => ?_) (fun e => ?_)
      · have h := h.1 e
        refine x_iload (pc := 78) dX11_lineOf_78 rfl ?_
        refine x_aload_n (pc := 80) dX11_lineOf_80 rfl rfl ?_
        refine x_getR (pc := 81) (i := r_obj) (a := r_testThan) fl_X11_147 dX11_lineOf_81 (sN_r_obj hS) (sT_r_obj hS) rfl (sR_r_obj_46 hS) ?_
        refine x_iload (pc := 84) dX11_lineOf_84 rfl ?_
        refine y_iald (pc := 86) (i := r_testThan) (n := 256) dX11_lineOf_86 (sN_r_testThan hS) (sT_r_testThan hS) (sL_r_testThan hS) h.1 ?_
        have h := h.2
        refine x_icmp_ge (pc := 87) (t := 94) dX11_lineOf_87 (by decide) (fun e => ?_) (fun e => ?_)
        · have h := h.1 e
          refine x_iconst (pc := 94) dX11_lineOf_94 ?_
          refine x_goto (pc := 95) (t := 147) dX11_lineOf_95 (by decide) ?_
          refine x_less (L' := [some (vr G r_obj), some (vi (v1)), some (vi (v2)), none, some (vi (v4)), none, none]) (And.intro rfl (And.intro rfl (And.intro rfl (And.intro rfl trivial)))) ?_
          exact h
        · have h := h.2 e
          refine x_iconst (pc := 90) dX11_lineOf_90 ?_
          refine x_goto (pc := 91) (t := 147) dX11_lineOf_91 (by decide) ?_
          refine x_less (L' := [some (vr G r_obj), some (vi (v1)), some (vi (v2)), none, some (vi (v4)), none, none]) (And.intro rfl (And.intro rfl (And.intro rfl (And.intro rfl trivial)))) ?_
          exact h
      · have h := h.2 e
        refine x_aload_n (pc := 98) dX11_lineOf_98 rfl rfl ?_
        refine x_getR (pc := 99) (i := r_obj) (a := r_testSign) fl_X11_144 dX11_lineOf_99 (sN_r_obj hS) (sT_r_obj hS) rfl (sR_r_obj_45 hS) ?_
        refine x_iload (pc := 102) dX11_lineOf_102 rfl ?_
        refine y_iald (pc := 104) (i := r_testSign) (n := 256) dX11_lineOf_104 (sN_r_testSign hS) (sT_r_testSign hS) (sL_r_testSign hS) h.1 ?_
        have h := h.2
        refine x_bipush (pc := 105) dX11_lineOf_105 (by decide) ?_
        refine x_icmp_ne (pc := 107) (t := 130) dX11_lineOf_107 (by decide) (fun e => ?_) (fun e => ?_)
        · have h := h.1 e
          refine x_iload (pc := 110) dX11_lineOf_110 rfl ?_
          refine x_aload_n (pc := 112) dX11_lineOf_112 rfl rfl ?_
          refine x_getR (pc := 113) (i := r_obj) (a := r_testThan) fl_X11_147 dX11_lineOf_113 (sN_r_obj hS) (sT_r_obj hS) rfl (sR_r_obj_46 hS) ?_
          refine x_iload (pc := 116) dX11_lineOf_116 rfl ?_
          refine y_iald (pc := 118) (i := r_testThan) (n := 256) dX11_lineOf_118 (sN_r_testThan hS) (sT_r_testThan hS) (sL_r_testThan hS) h.1 ?_
          have h := h.2
          refine x_icmp_le (pc := 119) (t := 126) dX11_lineOf_119 (by decide) (fun e => ?_) (fun e => ?_)
          · have h := h.1 e
            refine x_iconst (pc := 126) dX11_lineOf_126 ?_
            refine x_goto (pc := 127) (t := 147) dX11_lineOf_127 (by decide) ?_
            refine x_less (L' := [some (vr G r_obj), some (vi (v1)), some (vi (v2)), none, some (vi (v4)), none, none]) (And.intro rfl (And.intro rfl (And.intro rfl (And.intro rfl trivial)))) ?_
            exact h
          · have h := h.2 e
            refine x_iconst (pc := 122) dX11_lineOf_122 ?_
            refine x_goto (pc := 123) (t := 147) dX11_lineOf_123 (by decide) ?_
            refine x_less (L' := [some (vr G r_obj), some (vi (v1)), some (vi (v2)), none, some (vi (v4)), none, none]) (And.intro rfl (And.intro rfl (And.intro rfl (And.intro rfl trivial)))) ?_
            exact h
        · have h := h.2 e
          refine x_iload (pc := 130) dX11_lineOf_130 rfl ?_
          refine x_aload_n (pc := 132) dX11_lineOf_132 rfl rfl ?_
          refine x_getR (pc := 133) (i := r_obj) (a := r_testThan) fl_X11_147 dX11_lineOf_133 (sN_r_obj hS) (sT_r_obj hS) rfl (sR_r_obj_46 hS) ?_
          refine x_iload (pc := 136) dX11_lineOf_136 rfl ?_
          refine y_iald (pc := 138) (i := r_testThan) (n := 256) dX11_lineOf_138 (sN_r_testThan hS) (sT_r_testThan hS) (sL_r_testThan hS) h.1 ?_
          have h := h.2
          refine x_icmp_ne (pc := 139) (t := 146) dX11_lineOf_139 (by decide) (fun e => ?_) (fun e => ?_)
          · have h := h.1 e
            refine x_iconst (pc := 142) dX11_lineOf_142 ?_
            refine x_goto (pc := 143) (t := 147) dX11_lineOf_143 (by decide) ?_
            refine x_less (L' := [some (vr G r_obj), some (vi (v1)), some (vi (v2)), none, some (vi (v4)), none, none]) (And.intro rfl (And.intro rfl (And.intro rfl (And.intro rfl trivial)))) ?_
            exact h
          · have h := h.2 e
            refine x_iconst (pc := 146) dX11_lineOf_146 ?_
            refine x_less (L' := [some (vr G r_obj), some (vi (v1)), some (vi (v2)), none, some (vi (v4)), none, none]) (And.intro rfl (And.intro rfl (And.intro rfl (And.intro rfl trivial)))) ?_
            exact h
set_option maxHeartbeats 4000000 in
set_option maxRecDepth 100000 in
theorem b_R_lineOf_k147 {G : XG} {S : XS}  {I : XI} {v1 : Int} {v2 : Int} {v4 : Int} {s0 : Int} {R : Int → XI → Prop} (hS : xSh S)  (h : (inb (v4) 256 ∧ ((w32 (s0) = w32 (I r_testNot (ix (v4))) → R_lineOf_k33 G S I (v1) (v2) (0) (v4 + 1) R) ∧ (¬ (w32 (s0) = w32 (I r_testNot (ix (v4)))) → R_lineOf_k33 G S I (v1) (v2) (1) (v4 + 1) R)))) : R_lineOf_k147 G S  I v1 v2 v4 s0 R := by
  unfold R_lineOf_k147
  refine x_istore (pc := 147) (L' := [some (vr G r_obj), some (vi (v1)), some (vi (v2)), none, some (vi (v4)), none, some (vi (s0))]) dX11_lineOf_147 (by decide) (xst1 rfl rfl trivial) ?_
  refine x_iload (pc := 149) dX11_lineOf_149 rfl ?_
  refine x_aload_n (pc := 151) dX11_lineOf_151 rfl rfl ?_
  refine x_getR (pc := 152) (i := r_obj) (a := r_testNot) fl_X11_150 dX11_lineOf_152 (sN_r_obj hS) (sT_r_obj hS) rfl (sR_r_obj_47 hS) ?_
  refine x_iload (pc := 155) dX11_lineOf_155 rfl ?_
  refine y_zald (pc := 157) (i := r_testNot) (n := 256) dX11_lineOf_157 (sN_r_testNot hS) (sT_r_testNot hS) (sL_r_testNot hS) h.1 ?_
  have h := h.2
  refine x_icmp_eq (pc := 158) (t := 165) dX11_lineOf_158 (by decide) (fun e => ?_) (fun e => ?_)
  · have h := h.1 e
    refine x_iconst (pc := 165) dX11_lineOf_165 ?_
    refine x_istore_n (pc := 166) (L' := [some (vr G r_obj), some (vi (v1)), some (vi (v2)), some (vi (0)), some (vi (v4)), none, some (vi (s0))]) dX11_lineOf_166 rfl (by decide) (xst1 rfl rfl rfl) ?_
    refine x_iinc (pc := 167) (L' := [some (vr G r_obj), some (vi (v1)), some (vi (v2)), some (vi (0)), some (vi (v4 + 1)), none, some (vi (s0))]) dX11_lineOf_167 rfl (by decide) (xst1 rfl rfl rfl) ?_
    refine x_goto (pc := 170) (t := 33) dX11_lineOf_170 (by decide) ?_
    refine x_less (L' := [some (vr G r_obj), some (vi (v1)), some (vi (v2)), some (vi (0)), some (vi (v4 + 1)), none, none]) (And.intro rfl (And.intro rfl (And.intro rfl (And.intro rfl (And.intro rfl trivial))))) ?_
    exact h
  · have h := h.2 e
    refine x_iconst (pc := 161) dX11_lineOf_161 ?_
    refine x_goto (pc := 162) (t := 166) dX11_lineOf_162 (by decide) ?_
    refine x_istore_n (pc := 166) (L' := [some (vr G r_obj), some (vi (v1)), some (vi (v2)), some (vi (1)), some (vi (v4)), none, some (vi (s0))]) dX11_lineOf_166 rfl (by decide) (xst1 rfl rfl rfl) ?_
    refine x_iinc (pc := 167) (L' := [some (vr G r_obj), some (vi (v1)), some (vi (v2)), some (vi (1)), some (vi (v4 + 1)), none, some (vi (s0))]) dX11_lineOf_167 rfl (by decide) (xst1 rfl rfl rfl) ?_
    refine x_goto (pc := 170) (t := 33) dX11_lineOf_170 (by decide) ?_
    refine x_less (L' := [some (vr G r_obj), some (vi (v1)), some (vi (v2)), some (vi (1)), some (vi (v4 + 1)), none, none]) (And.intro rfl (And.intro rfl (And.intro rfl (And.intro rfl (And.intro rfl trivial))))) ?_
    exact h
set_option maxHeartbeats 4000000 in
set_option maxRecDepth 100000 in
theorem b_R_load {G : XG} {S : XS} {I : XI} {v1 : Int} {v2 : Int} {v3 : Int} {R : Int → XI → Prop} (hS : xSh S)  (h : (∀ I1 : XI, I1 = up I r_obj 0 (0) → R_isCamp G S I1 (v1) (fun r3 I2 => ((w32 (r3) = 0 → R ((-1)) I2) ∧ (¬ (w32 (r3) = 0) → R_in G S I2 (v2) (1) (20000) (fun r5 I4 => ((w32 (r5) = 0 → R ((-1)) I4) ∧ (¬ (w32 (r5) = 0) → R_in G S I4 (v3) (0) (2) (fun r7 I6 => ((w32 (r7) = 0 → R ((-1)) I6) ∧ (¬ (w32 (r7) = 0) → R_findLightest G S I6 (v1) (fun I8 => R_load_k52 G S I8 (v1) (v2) (v3) ((-1)) (0) (0) (0) R)))))))))))) : R_load G S I v1 v2 v3 R := by
  refine x_start [some (vr G r_obj), some (vi (v1)), some (vi (v2)), some (vi (v3)), none, none, none, none, none, none, none, none, none] (by decide) (Nat.le_of_ble_eq_true rfl) rfl ?_
  refine x_aload_n (pc := 0) dX11_load_0 rfl rfl ?_
  refine x_iconst (pc := 1) dX11_load_1 ?_
  refine x_putI (pc := 2) (i := r_obj) fl_X11_220 dX11_load_2 (sN_r_obj hS) (sT_r_obj hS) rfl ?_
  have h := h _ rfl
  generalize up I r_obj 0 (0) = I1 at h ⊢
  refine x_aload_n (pc := 5) dX11_load_5 rfl rfl ?_
  refine x_iload_n (pc := 6) dX11_load_6 rfl rfl ?_
  refine y_Vi (pc := 7) (i := r_obj) (As := [vi (v1)]) (rest := []) ok_X11_isCamp ml_X11_243 dX11_load_7 (sN_r_obj hS) (sT_r_obj hS) (by decide) rfl rfl rfl ⟨rfl, rfl⟩ ⟨by decide, by decide⟩ ⟨Nat.le_refl _, Nat.le_refl _⟩ (Nat.le_of_ble_eq_true rfl) rfl h (fun r3 I2 h => ?_)
  refine x_if_eq (pc := 10) (t := 33) dX11_load_10 (by decide) (fun e => ?_) (fun e => ?_)
  · have h := h.1 e
    refine x_iconst (pc := 33) dX11_load_33 ?_
    exact y_iret (pc := 34) dX11_load_34 rfl ⟨Nat.le_refl _, Nat.le_refl _⟩ h
  · have h := h.2 e
    refine x_iload_n (pc := 13) dX11_load_13 rfl rfl ?_
    refine x_iconst (pc := 14) dX11_load_14 ?_
    refine x_sipush (pc := 15) dX11_load_15 (by decide) ?_
    refine y_Si (pc := 18) (As := [vi (v2), vi (1), vi (20000)]) (rest := []) ok_X11_in ml_X11_232 dX11_load_18 rfl ⟨rfl, rfl⟩ ⟨by decide, by decide⟩ ⟨Nat.le_refl _, Nat.le_refl _⟩ (Nat.le_of_ble_eq_true rfl) rfl h (fun r5 I4 h => ?_)
    refine x_if_eq (pc := 21) (t := 33) dX11_load_21 (by decide) (fun e => ?_) (fun e => ?_)
    · have h := h.1 e
      refine x_iconst (pc := 33) dX11_load_33 ?_
      exact y_iret (pc := 34) dX11_load_34 rfl ⟨Nat.le_refl _, Nat.le_refl _⟩ h
    · have h := h.2 e
      refine x_iload_n (pc := 24) dX11_load_24 rfl rfl ?_
      refine x_iconst (pc := 25) dX11_load_25 ?_
      refine x_iconst (pc := 26) dX11_load_26 ?_
      refine y_Si (pc := 27) (As := [vi (v3), vi (0), vi (2)]) (rest := []) ok_X11_in ml_X11_232 dX11_load_27 rfl ⟨rfl, rfl⟩ ⟨by decide, by decide⟩ ⟨Nat.le_refl _, Nat.le_refl _⟩ (Nat.le_of_ble_eq_true rfl) rfl h (fun r7 I6 h => ?_)
      refine x_if_ne (pc := 30) (t := 35) dX11_load_30 (by decide) (fun e => ?_) (fun e => ?_)
      · have h := h.1 e
        refine x_iconst (pc := 33) dX11_load_33 ?_
        exact y_iret (pc := 34) dX11_load_34 rfl ⟨Nat.le_refl _, Nat.le_refl _⟩ h
      · have h := h.2 e
        refine x_aload_n (pc := 35) dX11_load_35 rfl rfl ?_
        refine x_iload_n (pc := 36) dX11_load_36 rfl rfl ?_
        refine y_Vv (pc := 37) (i := r_obj) (As := [vi (v1)]) (rest := []) ok_X11_findLightest ml_X11_457 dX11_load_37 (sN_r_obj hS) (sT_r_obj hS) (by decide) rfl rfl rfl ⟨rfl, rfl⟩ ⟨by decide, by decide⟩ ⟨Nat.le_refl _, Nat.le_refl _⟩ (Nat.le_of_ble_eq_true rfl) rfl h (fun I8 h => ?_)
        refine x_iconst (pc := 40) dX11_load_40 ?_
        refine x_istore (pc := 41) (L' := [some (vr G r_obj), some (vi (v1)), some (vi (v2)), some (vi (v3)), some (vi ((-1))), none, none, none, none, none, none, none, none]) dX11_load_41 (by decide) (xst1 rfl rfl rfl) ?_
        refine x_iconst (pc := 43) dX11_load_43 ?_
        refine x_istore (pc := 44) (L' := [some (vr G r_obj), some (vi (v1)), some (vi (v2)), some (vi (v3)), some (vi ((-1))), some (vi (0)), none, none, none, none, none, none, none]) dX11_load_44 (by decide) (xst1 rfl rfl rfl) ?_
        refine x_iconst (pc := 46) dX11_load_46 ?_
        refine x_istore (pc := 47) (L' := [some (vr G r_obj), some (vi (v1)), some (vi (v2)), some (vi (v3)), some (vi ((-1))), some (vi (0)), some (vi (0)), none, none, none, none, none, none]) dX11_load_47 (by decide) (xst1 rfl rfl rfl) ?_
        refine x_iconst (pc := 49) dX11_load_49 ?_
        refine x_istore (pc := 50) (L' := [some (vr G r_obj), some (vi (v1)), some (vi (v2)), some (vi (v3)), some (vi ((-1))), some (vi (0)), some (vi (0)), some (vi (0)), none, none, none, none, none]) dX11_load_50 (by decide) (xst1 rfl rfl rfl) ?_
        exact h
set_option maxHeartbeats 4000000 in
set_option maxRecDepth 100000 in
theorem b_R_load_k52 {G : XG} {S : XS}  {I : XI} {v1 : Int} {v2 : Int} {v3 : Int} {v4 : Int} {v5 : Int} {v6 : Int} {v7 : Int} {R : Int → XI → Prop} (hS : xSh S)  (h : ((w32 (256) ≤ w32 (v7) → ((w32 (v3) = 0 → R (v4) I) ∧ (¬ (w32 (v3) = 0) → ((w32 (v3) = w32 (1) → R (v5) I) ∧ (¬ (w32 (v3) = w32 (1)) → R (v6) I))))) ∧ (¬ (w32 (256) ≤ w32 (v7)) → R_load_k75 G S I (v1) (v2) (v3) (v4) (v5) (v6) (v7) (0) (0) (0) (1) (0) R))) : R_load_k52 G S  I v1 v2 v3 v4 v5 v6 v7 R := by
  unfold R_load_k52
  refine x_iload (pc := 52) dX11_load_52 rfl ?_
  refine x_sipush (pc := 54) dX11_load_54 (by decide) ?_
  refine x_icmp_ge (pc := 57) (t := 251) dX11_load_57 (by decide) (fun e => ?_) (fun e => ?_)
  · have h := h.1 e
    refine x_iload_n (pc := 251) dX11_load_251 rfl rfl ?_
    refine x_if_ne (pc := 252) (t := 260) dX11_load_252 (by decide) (fun e => ?_) (fun e => ?_)
    · have h := h.1 e
      refine x_iload (pc := 255) dX11_load_255 rfl ?_
      refine x_goto (pc := 257) (t := 272) dX11_load_257 (by decide) ?_
      exact y_iret (pc := 272) dX11_load_272 rfl ⟨Nat.le_refl _, Nat.le_refl _⟩ h
    · have h := h.2 e
      refine x_iload_n (pc := 260) dX11_load_260 rfl rfl ?_
      refine x_iconst (pc := 261) dX11_load_261 ?_
      refine x_icmp_ne (pc := 262) (t := 270) dX11_load_262 (by decide) (fun e => ?_) (fun e => ?_)
      · have h := h.1 e
        refine x_iload (pc := 265) dX11_load_265 rfl ?_
        refine x_goto (pc := 267) (t := 272) dX11_load_267 (by decide) ?_
        exact y_iret (pc := 272) dX11_load_272 rfl ⟨Nat.le_refl _, Nat.le_refl _⟩ h
      · have h := h.2 e
        refine x_iload (pc := 270) dX11_load_270 rfl ?_
        exact y_iret (pc := 272) dX11_load_272 rfl ⟨Nat.le_refl _, Nat.le_refl _⟩ h
  · have h := h.2 e
    refine x_iconst (pc := 60) dX11_load_60 ?_
    refine x_istore (pc := 61) (L' := [some (vr G r_obj), some (vi (v1)), some (vi (v2)), some (vi (v3)), some (vi (v4)), some (vi (v5)), some (vi (v6)), some (vi (v7)), some (vi (0)), none, none, none, none]) dX11_load_61 (by decide) (xst1 rfl rfl rfl) ?_
    refine x_iconst (pc := 63) dX11_load_63 ?_
    refine x_istore (pc := 64) (L' := [some (vr G r_obj), some (vi (v1)), some (vi (v2)), some (vi (v3)), some (vi (v4)), some (vi (v5)), some (vi (v6)), some (vi (v7)), some (vi (0)), some (vi (0)), none, none, none]) dX11_load_64 (by decide) (xst1 rfl rfl rfl) ?_
    refine x_iconst (pc := 66) dX11_load_66 ?_
    refine x_istore (pc := 67) (L' := [some (vr G r_obj), some (vi (v1)), some (vi (v2)), some (vi (v3)), some (vi (v4)), some (vi (v5)), some (vi (v6)), some (vi (v7)), some (vi (0)), some (vi (0)), some (vi (0)), none, none]) dX11_load_67 (by decide) (xst1 rfl rfl rfl) ?_
    refine x_iconst (pc := 69) dX11_load_69 ?_
    refine x_istore (pc := 70) (L' := [some (vr G r_obj), some (vi (v1)), some (vi (v2)), some (vi (v3)), some (vi (v4)), some (vi (v5)), some (vi (v6)), some (vi (v7)), some (vi (0)), some (vi (0)), some (vi (0)), some (vi (1)), none]) dX11_load_70 (by decide) (xst1 rfl rfl rfl) ?_
    refine x_iconst (pc := 72) dX11_load_72 ?_
    refine x_istore (pc := 73) (L' := [some (vr G r_obj), some (vi (v1)), some (vi (v2)), some (vi (v3)), some (vi (v4)), some (vi (v5)), some (vi (v6)), some (vi (v7)), some (vi (0)), some (vi (0)), some (vi (0)), some (vi (1)), some (vi (0))]) dX11_load_73 (by decide) (xst1 rfl rfl rfl) ?_
    exact h
set_option maxHeartbeats 4000000 in
set_option maxRecDepth 100000 in
theorem b_R_load_k75 {G : XG} {S : XS}  {I : XI} {v1 : Int} {v2 : Int} {v3 : Int} {v4 : Int} {v5 : Int} {v6 : Int} {v7 : Int} {v8 : Int} {v9 : Int} {v10 : Int} {v11 : Int} {v12 : Int} {R : Int → XI → Prop} (hS : xSh S)  (h : ((w32 (8) ≤ w32 (v12) → ((w32 (v11) = 0 → R_load_k52 G S I (v1) (v2) (v3) (v4) (v5) (v6) (v7 + 1) R) ∧ (¬ (w32 (v11) = 0) → ((w32 (v2) < w32 (v9) → R_load_k52 G S I (v1) (v2) (v3) (v4) (v5) (v6) (v7 + 1) R) ∧ (¬ (w32 (v2) < w32 (v9)) → ((w32 (v4) < w32 (v8) → R_load_k52 G S I (v1) (v2) (v3) (v8) (v9) (v10) (v7 + 1) R) ∧ (¬ (w32 (v4) < w32 (v8)) → ((w32 (v8) = w32 (v4) → ((w32 (v9) < w32 (v5) → R_load_k52 G S I (v1) (v2) (v3) (v8) (v9) (v10) (v7 + 1) R) ∧ (¬ (w32 (v9) < w32 (v5)) → ((w32 (v9) = w32 (v5) → ((w32 (v6) ≤ w32 (v10) → R_load_k52 G S I (v1) (v2) (v3) (v4) (v5) (v6) (v7 + 1) R) ∧ (¬ (w32 (v6) ≤ w32 (v10)) → R_load_k52 G S I (v1) (v2) (v3) (v8) (v9) (v10) (v7 + 1) R))) ∧ (¬ (w32 (v9) = w32 (v5)) → R_load_k52 G S I (v1) (v2) (v3) (v4) (v5) (v6) (v7 + 1) R))))) ∧ (¬ (w32 (v8) = w32 (v4)) → R_load_k52 G S I (v1) (v2) (v3) (v4) (v5) (v6) (v7 + 1) R))))))))) ∧ (¬ (w32 (8) ≤ w32 (v12)) → ((w32 (iand (ishr (v7) (v12)) (1)) = 0 → R_load_k75 G S I (v1) (v2) (v3) (v4) (v5) (v6) (v7) (v8) (v9) (v10) (v11) (v12 + 1) R) ∧ (¬ (w32 (iand (ishr (v7) (v12)) (1)) = 0) → ((w32 (v11) = 0 → R_load_k113 G S I (v1) (v2) (v3) (v4) (v5) (v6) (v7) (v8) (v9) (v10) (v12) (0) R) ∧ (¬ (w32 (v11) = 0) → (inb (v12) 8 ∧ ((w32 (I r_lightest (ix (v12))) = w32 ((-1)) → R_load_k113 G S I (v1) (v2) (v3) (v4) (v5) (v6) (v7) (v8) (v9) (v10) (v12) (0) R) ∧ (¬ (w32 (I r_lightest (ix (v12))) = w32 ((-1))) → R_load_k113 G S I (v1) (v2) (v3) (v4) (v5) (v6) (v7) (v8) (v9) (v10) (v12) (1) R)))))))))) : R_load_k75 G S  I v1 v2 v3 v4 v5 v6 v7 v8 v9 v10 v11 v12 R := by
  unfold R_load_k75
  refine x_iload (pc := 75) dX11_load_75 rfl ?_
  refine x_bipush (pc := 77) dX11_load_77 (by decide) ?_
  refine x_icmp_ge (pc := 79) (t := 187) dX11_load_79 (by decide) (fun e => ?_) (fun e => ?_)
  · have h := h.1 e
    refine x_iload (pc := 187) dX11_load_187 rfl ?_
    refine x_if_eq (pc := 189) (t := 245) dX11_load_189 (by decide) (fun e => ?_) (fun e => ?_)
    · have h := h.1 e
      refine x_iinc (pc := 245) (L' := [some (vr G r_obj), some (vi (v1)), some (vi (v2)), some (vi (v3)), some (vi (v4)), some (vi (v5)), some (vi (v6)), some (vi (v7 + 1)), some (vi (v8)), some (vi (v9)), some (vi (v10)), some (vi (v11)), some (vi (v12))]) dX11_load_245 rfl (by decide) (xst1 rfl rfl rfl) ?_
      refine x_goto (pc := 248) (t := 52) dX11_load_248 (by decide) ?_
      refine x_less (L' := [some (vr G r_obj), some (vi (v1)), some (vi (v2)), some (vi (v3)), some (vi (v4)), some (vi (v5)), some (vi (v6)), some (vi (v7 + 1)), none, none, none, none, none]) (And.intro rfl (And.intro rfl (And.intro rfl (And.intro rfl (And.intro rfl (And.intro rfl (And.intro rfl (And.intro rfl trivial)))))))) ?_
      exact h
    · have h := h.2 e
      refine x_iload (pc := 192) dX11_load_192 rfl ?_
      refine x_iload_n (pc := 194) dX11_load_194 rfl rfl ?_
      refine x_icmp_gt (pc := 195) (t := 245) dX11_load_195 (by decide) (fun e => ?_) (fun e => ?_)
      · have h := h.1 e
        refine x_iinc (pc := 245) (L' := [some (vr G r_obj), some (vi (v1)), some (vi (v2)), some (vi (v3)), some (vi (v4)), some (vi (v5)), some (vi (v6)), some (vi (v7 + 1)), some (vi (v8)), some (vi (v9)), some (vi (v10)), some (vi (v11)), some (vi (v12))]) dX11_load_245 rfl (by decide) (xst1 rfl rfl rfl) ?_
        refine x_goto (pc := 248) (t := 52) dX11_load_248 (by decide) ?_
        refine x_less (L' := [some (vr G r_obj), some (vi (v1)), some (vi (v2)), some (vi (v3)), some (vi (v4)), some (vi (v5)), some (vi (v6)), some (vi (v7 + 1)), none, none, none, none, none]) (And.intro rfl (And.intro rfl (And.intro rfl (And.intro rfl (And.intro rfl (And.intro rfl (And.intro rfl (And.intro rfl trivial)))))))) ?_
        exact h
      · have h := h.2 e
        refine x_iload (pc := 198) dX11_load_198 rfl ?_
        refine x_iload (pc := 200) dX11_load_200 rfl ?_
        refine x_icmp_gt (pc := 202) (t := 233) dX11_load_202 (by decide) (fun e => ?_) (fun e => ?_)
        · have h := h.1 e
          refine x_iload (pc := 233) dX11_load_233 rfl ?_
          refine x_istore (pc := 235) (L' := [some (vr G r_obj), some (vi (v1)), some (vi (v2)), some (vi (v3)), some (vi (v8)), some (vi (v5)), some (vi (v6)), some (vi (v7)), some (vi (v8)), some (vi (v9)), some (vi (v10)), some (vi (v11)), some (vi (v12))]) dX11_load_235 (by decide) (xst1 rfl rfl rfl) ?_
          refine x_iload (pc := 237) dX11_load_237 rfl ?_
          refine x_istore (pc := 239) (L' := [some (vr G r_obj), some (vi (v1)), some (vi (v2)), some (vi (v3)), some (vi (v8)), some (vi (v9)), some (vi (v6)), some (vi (v7)), some (vi (v8)), some (vi (v9)), some (vi (v10)), some (vi (v11)), some (vi (v12))]) dX11_load_239 (by decide) (xst1 rfl rfl rfl) ?_
          refine x_iload (pc := 241) dX11_load_241 rfl ?_
          refine x_istore (pc := 243) (L' := [some (vr G r_obj), some (vi (v1)), some (vi (v2)), some (vi (v3)), some (vi (v8)), some (vi (v9)), some (vi (v10)), some (vi (v7)), some (vi (v8)), some (vi (v9)), some (vi (v10)), some (vi (v11)), some (vi (v12))]) dX11_load_243 (by decide) (xst1 rfl rfl rfl) ?_
          refine x_iinc (pc := 245) (L' := [some (vr G r_obj), some (vi (v1)), some (vi (v2)), some (vi (v3)), some (vi (v8)), some (vi (v9)), some (vi (v10)), some (vi (v7 + 1)), some (vi (v8)), some (vi (v9)), some (vi (v10)), some (vi (v11)), some (vi (v12))]) dX11_load_245 rfl (by decide) (xst1 rfl rfl rfl) ?_
          refine x_goto (pc := 248) (t := 52) dX11_load_248 (by decide) ?_
          refine x_less (L' := [some (vr G r_obj), some (vi (v1)), some (vi (v2)), some (vi (v3)), some (vi (v8)), some (vi (v9)), some (vi (v10)), some (vi (v7 + 1)), none, none, none, none, none]) (And.intro rfl (And.intro rfl (And.intro rfl (And.intro rfl (And.intro rfl (And.intro rfl (And.intro rfl (And.intro rfl trivial)))))))) ?_
          exact h
        · have h := h.2 e
          refine x_iload (pc := 205) dX11_load_205 rfl ?_
          refine x_iload (pc := 207) dX11_load_207 rfl ?_
          refine x_icmp_ne (pc := 209) (t := 245) dX11_load_209 (by decide) (fun e => ?_) (fun e => ?_)
          · have h := h.1 e
            refine x_iload (pc := 212) dX11_load_212 rfl ?_
            refine x_iload (pc := 214) dX11_load_214 rfl ?_
            refine x_icmp_lt (pc := 216) (t := 233) dX11_load_216 (by decide) (fun e => ?_) (fun e => ?_)
            · have h := h.1 e
              refine x_iload (pc := 233) dX11_load_233 rfl ?_
              refine x_istore (pc := 235) (L' := [some (vr G r_obj), some (vi (v1)), some (vi (v2)), some (vi (v3)), some (vi (v8)), some (vi (v5)), some (vi (v6)), some (vi (v7)), some (vi (v8)), some (vi (v9)), some (vi (v10)), some (vi (v11)), some (vi (v12))]) dX11_load_235 (by decide) (xst1 rfl rfl rfl) ?_
              refine x_iload (pc := 237) dX11_load_237 rfl ?_
              refine x_istore (pc := 239) (L' := [some (vr G r_obj), some (vi (v1)), some (vi (v2)), some (vi (v3)), some (vi (v8)), some (vi (v9)), some (vi (v6)), some (vi (v7)), some (vi (v8)), some (vi (v9)), some (vi (v10)), some (vi (v11)), some (vi (v12))]) dX11_load_239 (by decide) (xst1 rfl rfl rfl) ?_
              refine x_iload (pc := 241) dX11_load_241 rfl ?_
              refine x_istore (pc := 243) (L' := [some (vr G r_obj), some (vi (v1)), some (vi (v2)), some (vi (v3)), some (vi (v8)), some (vi (v9)), some (vi (v10)), some (vi (v7)), some (vi (v8)), some (vi (v9)), some (vi (v10)), some (vi (v11)), some (vi (v12))]) dX11_load_243 (by decide) (xst1 rfl rfl rfl) ?_
              refine x_iinc (pc := 245) (L' := [some (vr G r_obj), some (vi (v1)), some (vi (v2)), some (vi (v3)), some (vi (v8)), some (vi (v9)), some (vi (v10)), some (vi (v7 + 1)), some (vi (v8)), some (vi (v9)), some (vi (v10)), some (vi (v11)), some (vi (v12))]) dX11_load_245 rfl (by decide) (xst1 rfl rfl rfl) ?_
              refine x_goto (pc := 248) (t := 52) dX11_load_248 (by decide) ?_
              refine x_less (L' := [some (vr G r_obj), some (vi (v1)), some (vi (v2)), some (vi (v3)), some (vi (v8)), some (vi (v9)), some (vi (v10)), some (vi (v7 + 1)), none, none, none, none, none]) (And.intro rfl (And.intro rfl (And.intro rfl (And.intro rfl (And.intro rfl (And.intro rfl (And.intro rfl (And.intro rfl trivial)))))))) ?_
              exact h
            · have h := h.2 e
              refine x_iload (pc := 219) dX11_load_219 rfl ?_
              refine x_iload (pc := 221) dX11_load_221 rfl ?_
              refine x_icmp_ne (pc := 223) (t := 245) dX11_load_223 (by decide) (fun e => ?_) (fun e => ?_)
              · have h := h.1 e
                refine x_iload (pc := 226) dX11_load_226 rfl ?_
                refine x_iload (pc := 228) dX11_load_228 rfl ?_
                refine x_icmp_ge (pc := 230) (t := 245) dX11_load_230 (by decide) (fun e => ?_) (fun e => ?_)
                · have h := h.1 e
                  refine x_iinc (pc := 245) (L' := [some (vr G r_obj), some (vi (v1)), some (vi (v2)), some (vi (v3)), some (vi (v4)), some (vi (v5)), some (vi (v6)), some (vi (v7 + 1)), some (vi (v8)), some (vi (v9)), some (vi (v10)), some (vi (v11)), some (vi (v12))]) dX11_load_245 rfl (by decide) (xst1 rfl rfl rfl) ?_
                  refine x_goto (pc := 248) (t := 52) dX11_load_248 (by decide) ?_
                  refine x_less (L' := [some (vr G r_obj), some (vi (v1)), some (vi (v2)), some (vi (v3)), some (vi (v4)), some (vi (v5)), some (vi (v6)), some (vi (v7 + 1)), none, none, none, none, none]) (And.intro rfl (And.intro rfl (And.intro rfl (And.intro rfl (And.intro rfl (And.intro rfl (And.intro rfl (And.intro rfl trivial)))))))) ?_
                  exact h
                · have h := h.2 e
                  refine x_iload (pc := 233) dX11_load_233 rfl ?_
                  refine x_istore (pc := 235) (L' := [some (vr G r_obj), some (vi (v1)), some (vi (v2)), some (vi (v3)), some (vi (v8)), some (vi (v5)), some (vi (v6)), some (vi (v7)), some (vi (v8)), some (vi (v9)), some (vi (v10)), some (vi (v11)), some (vi (v12))]) dX11_load_235 (by decide) (xst1 rfl rfl rfl) ?_
                  refine x_iload (pc := 237) dX11_load_237 rfl ?_
                  refine x_istore (pc := 239) (L' := [some (vr G r_obj), some (vi (v1)), some (vi (v2)), some (vi (v3)), some (vi (v8)), some (vi (v9)), some (vi (v6)), some (vi (v7)), some (vi (v8)), some (vi (v9)), some (vi (v10)), some (vi (v11)), some (vi (v12))]) dX11_load_239 (by decide) (xst1 rfl rfl rfl) ?_
                  refine x_iload (pc := 241) dX11_load_241 rfl ?_
                  refine x_istore (pc := 243) (L' := [some (vr G r_obj), some (vi (v1)), some (vi (v2)), some (vi (v3)), some (vi (v8)), some (vi (v9)), some (vi (v10)), some (vi (v7)), some (vi (v8)), some (vi (v9)), some (vi (v10)), some (vi (v11)), some (vi (v12))]) dX11_load_243 (by decide) (xst1 rfl rfl rfl) ?_
                  refine x_iinc (pc := 245) (L' := [some (vr G r_obj), some (vi (v1)), some (vi (v2)), some (vi (v3)), some (vi (v8)), some (vi (v9)), some (vi (v10)), some (vi (v7 + 1)), some (vi (v8)), some (vi (v9)), some (vi (v10)), some (vi (v11)), some (vi (v12))]) dX11_load_245 rfl (by decide) (xst1 rfl rfl rfl) ?_
                  refine x_goto (pc := 248) (t := 52) dX11_load_248 (by decide) ?_
                  refine x_less (L' := [some (vr G r_obj), some (vi (v1)), some (vi (v2)), some (vi (v3)), some (vi (v8)), some (vi (v9)), some (vi (v10)), some (vi (v7 + 1)), none, none, none, none, none]) (And.intro rfl (And.intro rfl (And.intro rfl (And.intro rfl (And.intro rfl (And.intro rfl (And.intro rfl (And.intro rfl trivial)))))))) ?_
                  exact h
              · have h := h.2 e
                refine x_iinc (pc := 245) (L' := [some (vr G r_obj), some (vi (v1)), some (vi (v2)), some (vi (v3)), some (vi (v4)), some (vi (v5)), some (vi (v6)), some (vi (v7 + 1)), some (vi (v8)), some (vi (v9)), some (vi (v10)), some (vi (v11)), some (vi (v12))]) dX11_load_245 rfl (by decide) (xst1 rfl rfl rfl) ?_
                refine x_goto (pc := 248) (t := 52) dX11_load_248 (by decide) ?_
                refine x_less (L' := [some (vr G r_obj), some (vi (v1)), some (vi (v2)), some (vi (v3)), some (vi (v4)), some (vi (v5)), some (vi (v6)), some (vi (v7 + 1)), none, none, none, none, none]) (And.intro rfl (And.intro rfl (And.intro rfl (And.intro rfl (And.intro rfl (And.intro rfl (And.intro rfl (And.intro rfl trivial)))))))) ?_
                exact h
          · have h := h.2 e
            refine x_iinc (pc := 245) (L' := [some (vr G r_obj), some (vi (v1)), some (vi (v2)), some (vi (v3)), some (vi (v4)), some (vi (v5)), some (vi (v6)), some (vi (v7 + 1)), some (vi (v8)), some (vi (v9)), some (vi (v10)), some (vi (v11)), some (vi (v12))]) dX11_load_245 rfl (by decide) (xst1 rfl rfl rfl) ?_
            refine x_goto (pc := 248) (t := 52) dX11_load_248 (by decide) ?_
            refine x_less (L' := [some (vr G r_obj), some (vi (v1)), some (vi (v2)), some (vi (v3)), some (vi (v4)), some (vi (v5)), some (vi (v6)), some (vi (v7 + 1)), none, none, none, none, none]) (And.intro rfl (And.intro rfl (And.intro rfl (And.intro rfl (And.intro rfl (And.intro rfl (And.intro rfl (And.intro rfl trivial)))))))) ?_
            exact h
  · have h := h.2 e
    refine x_iload (pc := 82) dX11_load_82 rfl ?_
    refine x_iload (pc := 84) dX11_load_84 rfl ?_
    refine x_ishr (pc := 86) dX11_load_86 ?_
    refine x_iconst (pc := 87) dX11_load_87 ?_
    refine x_iand (pc := 88) dX11_load_88 ?_
    refine x_if_eq (pc := 89) (t := 181) dX11_load_89 (by decide) (fun e => ?_) (fun e => ?_)
    · have h := h.1 e
      refine x_iinc (pc := 181) (L' := [some (vr G r_obj), some (vi (v1)), some (vi (v2)), some (vi (v3)), some (vi (v4)), some (vi (v5)), some (vi (v6)), some (vi (v7)), some (vi (v8)), some (vi (v9)), some (vi (v10)), some (vi (v11)), some (vi (v12 + 1))]) dX11_load_181 rfl (by decide) (xst1 rfl rfl rfl) ?_
      refine x_goto (pc := 184) (t := 75) dX11_load_184 (by decide) ?_
      exact h
    · have h := h.2 e
      refine x_iload (pc := 92) dX11_load_92 rfl ?_
      refine x_if_eq (pc := 94) (t := 112) dX11_load_94 (by decide) (fun e => ?_) (fun e => ?_)
      · have h := h.1 e
        refine x_iconst (pc := 112) dX11_load_112 ?_
        refine x_less (L' := [some (vr G r_obj), some (vi (v1)), some (vi (v2)), some (vi (v3)), some (vi (v4)), some (vi (v5)), some (vi (v6)), some (vi (v7)), some (vi (v8)), some (vi (v9)), some (vi (v10)), none, some (vi (v12))]) (And.intro rfl (And.intro rfl (And.intro rfl (And.intro rfl (And.intro rfl (And.intro rfl (And.intro rfl (And.intro rfl (And.intro rfl (And.intro rfl (And.intro rfl (And.intro rfl trivial)))))))))))) ?_
        exact h
      · have h := h.2 e
        refine x_aload_n (pc := 97) dX11_load_97 rfl rfl ?_
        refine x_getR (pc := 98) (i := r_obj) (a := r_lightest) fl_X11_214 dX11_load_98 (sN_r_obj hS) (sT_r_obj hS) rfl (sR_r_obj_82 hS) ?_
        refine x_iload (pc := 101) dX11_load_101 rfl ?_
        refine y_iald (pc := 103) (i := r_lightest) (n := 8) dX11_load_103 (sN_r_lightest hS) (sT_r_lightest hS) (sL_r_lightest hS) h.1 ?_
        have h := h.2
        refine x_iconst (pc := 104) dX11_load_104 ?_
        refine x_icmp_eq (pc := 105) (t := 112) dX11_load_105 (by decide) (fun e => ?_) (fun e => ?_)
        · have h := h.1 e
          refine x_iconst (pc := 112) dX11_load_112 ?_
          refine x_less (L' := [some (vr G r_obj), some (vi (v1)), some (vi (v2)), some (vi (v3)), some (vi (v4)), some (vi (v5)), some (vi (v6)), some (vi (v7)), some (vi (v8)), some (vi (v9)), some (vi (v10)), none, some (vi (v12))]) (And.intro rfl (And.intro rfl (And.intro rfl (And.intro rfl (And.intro rfl (And.intro rfl (And.intro rfl (And.intro rfl (And.intro rfl (And.intro rfl (And.intro rfl (And.intro rfl trivial)))))))))))) ?_
          exact h
        · have h := h.2 e
          refine x_iconst (pc := 108) dX11_load_108 ?_
          refine x_goto (pc := 109) (t := 113) dX11_load_109 (by decide) ?_
          refine x_less (L' := [some (vr G r_obj), some (vi (v1)), some (vi (v2)), some (vi (v3)), some (vi (v4)), some (vi (v5)), some (vi (v6)), some (vi (v7)), some (vi (v8)), some (vi (v9)), some (vi (v10)), none, some (vi (v12))]) (And.intro rfl (And.intro rfl (And.intro rfl (And.intro rfl (And.intro rfl (And.intro rfl (And.intro rfl (And.intro rfl (And.intro rfl (And.intro rfl (And.intro rfl (And.intro rfl trivial)))))))))))) ?_
          exact h
set_option maxHeartbeats 4000000 in
set_option maxRecDepth 100000 in
theorem b_R_load_k113 {G : XG} {S : XS}  {I : XI} {v1 : Int} {v2 : Int} {v3 : Int} {v4 : Int} {v5 : Int} {v6 : Int} {v7 : Int} {v8 : Int} {v9 : Int} {v10 : Int} {v12 : Int} {s0 : Int} {R : Int → XI → Prop} (hS : xSh S)  (h : (inb (((8) * (v1)) + (v12)) 192 ∧ ((w32 (s0) = 0 → R_load_k155 G S I (v1) (v2) (v3) (v4) (v5) (v6) (v7) ((v8) + (I r_wishes (ix (((8) * (v1)) + (v12))))) (v10) (s0) (v12) (0) (v9) R) ∧ (¬ (w32 (s0) = 0) → (inb (v12) 8 ∧ (inb (I r_lightest (ix (v12))) 96 ∧ R_load_k155 G S I (v1) (v2) (v3) (v4) (v5) (v6) (v7) ((v8) + (I r_wishes (ix (((8) * (v1)) + (v12))))) (v10) (s0) (v12) (I r_bookGrams (ix (I r_lightest (ix (v12))))) (v9) R)))))) : R_load_k113 G S  I v1 v2 v3 v4 v5 v6 v7 v8 v9 v10 v12 s0 R := by
  unfold R_load_k113
  refine x_istore (pc := 113) (L' := [some (vr G r_obj), some (vi (v1)), some (vi (v2)), some (vi (v3)), some (vi (v4)), some (vi (v5)), some (vi (v6)), some (vi (v7)), some (vi (v8)), some (vi (v9)), some (vi (v10)), some (vi (s0)), some (vi (v12))]) dX11_load_113 (by decide) (xst1 rfl rfl rfl) ?_
  refine x_iload (pc := 115) dX11_load_115 rfl ?_
  refine x_aload_n (pc := 117) dX11_load_117 rfl rfl ?_
  refine x_getR (pc := 118) (i := r_obj) (a := r_wishes) fl_X11_153 dX11_load_118 (sN_r_obj hS) (sT_r_obj hS) rfl (sR_r_obj_48 hS) ?_
  refine x_bipush (pc := 121) dX11_load_121 (by decide) ?_
  refine x_iload_n (pc := 123) dX11_load_123 rfl rfl ?_
  refine x_imul (pc := 124) dX11_load_124 ?_
  refine x_iload (pc := 125) dX11_load_125 rfl ?_
  refine x_iadd (pc := 127) dX11_load_127 ?_
  refine y_iald (pc := 128) (i := r_wishes) (n := 192) dX11_load_128 (sN_r_wishes hS) (sT_r_wishes hS) (sL_r_wishes hS) h.1 ?_
  have h := h.2
  refine x_iadd (pc := 129) dX11_load_129 ?_
  refine x_istore (pc := 130) (L' := [some (vr G r_obj), some (vi (v1)), some (vi (v2)), some (vi (v3)), some (vi (v4)), some (vi (v5)), some (vi (v6)), some (vi (v7)), some (vi ((v8) + (I r_wishes (ix (((8) * (v1)) + (v12)))))), some (vi (v9)), some (vi (v10)), some (vi (s0)), some (vi (v12))]) dX11_load_130 (by decide) (xst1 rfl rfl rfl) ?_
  refine x_iload (pc := 132) dX11_load_132 rfl ?_
  refine x_iload (pc := 134) dX11_load_134 rfl ?_
  refine x_if_eq (pc := 136) (t := 154) dX11_load_136 (by decide) (fun e => ?_) (fun e => ?_)
  · have h := h.1 e
    refine x_iconst (pc := 154) dX11_load_154 ?_
    refine x_less (L' := [some (vr G r_obj), some (vi (v1)), some (vi (v2)), some (vi (v3)), some (vi (v4)), some (vi (v5)), some (vi (v6)), some (vi (v7)), some (vi ((v8) + (I r_wishes (ix (((8) * (v1)) + (v12)))))), none, some (vi (v10)), some (vi (s0)), some (vi (v12))]) (And.intro rfl (And.intro rfl (And.intro rfl (And.intro rfl (And.intro rfl (And.intro rfl (And.intro rfl (And.intro rfl (And.intro rfl (And.intro rfl (And.intro rfl (And.intro rfl trivial)))))))))))) ?_
    exact h
  · have h := h.2 e
    refine x_aload_n (pc := 139) dX11_load_139 rfl rfl ?_
    refine x_getR (pc := 140) (i := r_obj) (a := r_bookGrams) fl_X11_102 dX11_load_140 (sN_r_obj hS) (sT_r_obj hS) rfl (sR_r_obj_31 hS) ?_
    refine x_aload_n (pc := 143) dX11_load_143 rfl rfl ?_
    refine x_getR (pc := 144) (i := r_obj) (a := r_lightest) fl_X11_214 dX11_load_144 (sN_r_obj hS) (sT_r_obj hS) rfl (sR_r_obj_82 hS) ?_
    refine x_iload (pc := 147) dX11_load_147 rfl ?_
    refine y_iald (pc := 149) (i := r_lightest) (n := 8) dX11_load_149 (sN_r_lightest hS) (sT_r_lightest hS) (sL_r_lightest hS) h.1 ?_
    have h := h.2
    refine y_iald (pc := 150) (i := r_bookGrams) (n := 96) dX11_load_150 (sN_r_bookGrams hS) (sT_r_bookGrams hS) (sL_r_bookGrams hS) h.1 ?_
    have h := h.2
    refine x_goto (pc := 151) (t := 155) dX11_load_151 (by decide) ?_
    refine x_less (L' := [some (vr G r_obj), some (vi (v1)), some (vi (v2)), some (vi (v3)), some (vi (v4)), some (vi (v5)), some (vi (v6)), some (vi (v7)), some (vi ((v8) + (I r_wishes (ix (((8) * (v1)) + (v12)))))), none, some (vi (v10)), some (vi (s0)), some (vi (v12))]) (And.intro rfl (And.intro rfl (And.intro rfl (And.intro rfl (And.intro rfl (And.intro rfl (And.intro rfl (And.intro rfl (And.intro rfl (And.intro rfl (And.intro rfl (And.intro rfl trivial)))))))))))) ?_
    exact h
set_option maxHeartbeats 4000000 in
set_option maxRecDepth 100000 in
theorem b_R_load_k155 {G : XG} {S : XS}  {I : XI} {v1 : Int} {v2 : Int} {v3 : Int} {v4 : Int} {v5 : Int} {v6 : Int} {v7 : Int} {v8 : Int} {v10 : Int} {v11 : Int} {v12 : Int} {s0 : Int} {s1 : Int} {R : Int → XI → Prop} (hS : xSh S)  (h : ((w32 (v11) = 0 → R_load_k75 G S I (v1) (v2) (v3) (v4) (v5) (v6) (v7) (v8) ((s1) + (s0)) (ior (v10) (0)) (v11) (v12 + 1) R) ∧ (¬ (w32 (v11) = 0) → (inb (v12) 8 ∧ R_load_k75 G S I (v1) (v2) (v3) (v4) (v5) (v6) (v7) (v8) ((s1) + (s0)) (ior (v10) (ishl (1) (I r_lightest (ix (v12))))) (v11) (v12 + 1) R)))) : R_load_k155 G S  I v1 v2 v3 v4 v5 v6 v7 v8 v10 v11 v12 s0 s1 R := by
  unfold R_load_k155
  refine x_iadd (pc := 155) dX11_load_155 ?_
  refine x_istore (pc := 156) (L' := [some (vr G r_obj), some (vi (v1)), some (vi (v2)), some (vi (v3)), some (vi (v4)), some (vi (v5)), some (vi (v6)), some (vi (v7)), some (vi (v8)), some (vi ((s1) + (s0))), some (vi (v10)), some (vi (v11)), some (vi (v12))]) dX11_load_156 (by decide) (xst1 rfl rfl rfl) ?_
  refine x_iload (pc := 158) dX11_load_158 rfl ?_
  refine x_iload (pc := 160) dX11_load_160 rfl ?_
  refine x_if_eq (pc := 162) (t := 177) dX11_load_162 (by decide) (fun e => ?_) (fun e => ?_)
  · have h := h.1 e
    refine x_iconst (pc := 177) dX11_load_177 ?_
    refine x_ior (pc := 178) dX11_load_178 ?_
    refine x_istore (pc := 179) (L' := [some (vr G r_obj), some (vi (v1)), some (vi (v2)), some (vi (v3)), some (vi (v4)), some (vi (v5)), some (vi (v6)), some (vi (v7)), some (vi (v8)), some (vi ((s1) + (s0))), some (vi (ior (v10) (0))), some (vi (v11)), some (vi (v12))]) dX11_load_179 (by decide) (xst1 rfl rfl rfl) ?_
    refine x_iinc (pc := 181) (L' := [some (vr G r_obj), some (vi (v1)), some (vi (v2)), some (vi (v3)), some (vi (v4)), some (vi (v5)), some (vi (v6)), some (vi (v7)), some (vi (v8)), some (vi ((s1) + (s0))), some (vi (ior (v10) (0))), some (vi (v11)), some (vi (v12 + 1))]) dX11_load_181 rfl (by decide) (xst1 rfl rfl rfl) ?_
    refine x_goto (pc := 184) (t := 75) dX11_load_184 (by decide) ?_
    exact h
  · have h := h.2 e
    refine x_iconst (pc := 165) dX11_load_165 ?_
    refine x_aload_n (pc := 166) dX11_load_166 rfl rfl ?_
    refine x_getR (pc := 167) (i := r_obj) (a := r_lightest) fl_X11_214 dX11_load_167 (sN_r_obj hS) (sT_r_obj hS) rfl (sR_r_obj_82 hS) ?_
    refine x_iload (pc := 170) dX11_load_170 rfl ?_
    refine y_iald (pc := 172) (i := r_lightest) (n := 8) dX11_load_172 (sN_r_lightest hS) (sT_r_lightest hS) (sL_r_lightest hS) h.1 ?_
    have h := h.2
    refine x_ishl (pc := 173) dX11_load_173 ?_
    refine x_goto (pc := 174) (t := 178) dX11_load_174 (by decide) ?_
    refine x_ior (pc := 178) dX11_load_178 ?_
    refine x_istore (pc := 179) (L' := [some (vr G r_obj), some (vi (v1)), some (vi (v2)), some (vi (v3)), some (vi (v4)), some (vi (v5)), some (vi (v6)), some (vi (v7)), some (vi (v8)), some (vi ((s1) + (s0))), some (vi (ior (v10) (ishl (1) (I r_lightest (ix (v12)))))), some (vi (v11)), some (vi (v12))]) dX11_load_179 (by decide) (xst1 rfl rfl rfl) ?_
    refine x_iinc (pc := 181) (L' := [some (vr G r_obj), some (vi (v1)), some (vi (v2)), some (vi (v3)), some (vi (v4)), some (vi (v5)), some (vi (v6)), some (vi (v7)), some (vi (v8)), some (vi ((s1) + (s0))), some (vi (ior (v10) (ishl (1) (I r_lightest (ix (v12)))))), some (vi (v11)), some (vi (v12 + 1))]) dX11_load_181 rfl (by decide) (xst1 rfl rfl rfl) ?_
    refine x_goto (pc := 184) (t := 75) dX11_load_184 (by decide) ?_
    exact h
