set_option maxHeartbeats 4000000 in
set_option maxRecDepth 100000 in
theorem b_R_read {G : XG} {S : XS} {I : XI} {v1 : Int} {v2 : Int} {R : Int → XI → Prop} (hS : xSh S)  (h : (∀ I1 : XI, I1 = up I r_obj 0 (0) → R_isReader G S I1 (v1) (fun r3 I2 => ((w32 (r3) = 0 → R (0) I2) ∧ (¬ (w32 (r3) = 0) → R_isBook G S I2 (v2) (fun r5 I4 => ((w32 (r5) = 0 → R (0) I4) ∧ (¬ (w32 (r5) = 0) → R_hasRead G S I4 (v1) (v2) (fun r7 I6 => ((w32 (r7) = 0 → (inb (v1) 48 ∧ (inb (v1) 48 ∧ (∀ I8 : XI, I8 = up I6 r_readerBooks (ix (v1)) (ior (I6 r_readerBooks (ix (v1))) (ishl (1) (v2))) → R (1) I8)))) ∧ (¬ (w32 (r7) = 0) → R (0) I6))))))))))) : R_read G S I v1 v2 R := by
  refine x_start [some (vr G r_obj), some (vi (v1)), some (vi (v2))] (by decide) (Nat.le_of_ble_eq_true rfl) rfl ?_
  refine x_aload_n (pc := 0) dX11_read_0 rfl rfl ?_
  refine x_iconst (pc := 1) dX11_read_1 ?_
  refine x_putI (pc := 2) (i := r_obj) fl_X11_220 dX11_read_2 (sN_r_obj hS) (sT_r_obj hS) rfl ?_
  have h := h _ rfl
  generalize up I r_obj 0 (0) = I1 at h ⊢
  refine x_aload_n (pc := 5) dX11_read_5 rfl rfl ?_
  refine x_iload_n (pc := 6) dX11_read_6 rfl rfl ?_
  refine y_Vi (pc := 7) (i := r_obj) (As := [vi (v1)]) (rest := []) ok_X11_isReader ml_X11_460 dX11_read_7 (sN_r_obj hS) (sT_r_obj hS) (by decide) rfl rfl rfl ⟨rfl, rfl⟩ ⟨by decide, by decide⟩ ⟨Nat.le_refl _, Nat.le_refl _⟩ (Nat.le_of_ble_eq_true rfl) rfl h (fun r3 I2 h => ?_)
  refine x_if_eq (pc := 10) (t := 30) dX11_read_10 (by decide) (fun e => ?_) (fun e => ?_)
  · have h := h.1 e
    refine x_iconst (pc := 30) dX11_read_30 ?_
    exact y_zret (pc := 31) dX11_read_31 rfl ⟨Nat.le_refl _, Nat.le_refl _⟩ (Or.inl rfl) h
  · have h := h.2 e
    refine x_aload_n (pc := 13) dX11_read_13 rfl rfl ?_
    refine x_iload_n (pc := 14) dX11_read_14 rfl rfl ?_
    refine y_Vi (pc := 15) (i := r_obj) (As := [vi (v2)]) (rest := []) ok_X11_isBook ml_X11_317 dX11_read_15 (sN_r_obj hS) (sT_r_obj hS) (by decide) rfl rfl rfl ⟨rfl, rfl⟩ ⟨by decide, by decide⟩ ⟨Nat.le_refl _, Nat.le_refl _⟩ (Nat.le_of_ble_eq_true rfl) rfl h (fun r5 I4 h => ?_)
    refine x_if_eq (pc := 18) (t := 30) dX11_read_18 (by decide) (fun e => ?_) (fun e => ?_)
    · have h := h.1 e
      refine x_iconst (pc := 30) dX11_read_30 ?_
      exact y_zret (pc := 31) dX11_read_31 rfl ⟨Nat.le_refl _, Nat.le_refl _⟩ (Or.inl rfl) h
    · have h := h.2 e
      refine x_aload_n (pc := 21) dX11_read_21 rfl rfl ?_
      refine x_iload_n (pc := 22) dX11_read_22 rfl rfl ?_
      refine x_iload_n (pc := 23) dX11_read_23 rfl rfl ?_
      refine y_Vi (pc := 24) (i := r_obj) (As := [vi (v1), vi (v2)]) (rest := []) ok_X11_hasRead ml_X11_463 dX11_read_24 (sN_r_obj hS) (sT_r_obj hS) (by decide) rfl rfl rfl ⟨rfl, rfl⟩ ⟨by decide, by decide⟩ ⟨Nat.le_refl _, Nat.le_refl _⟩ (Nat.le_of_ble_eq_true rfl) rfl h (fun r7 I6 h => ?_)
      refine x_if_eq (pc := 27) (t := 32) dX11_read_27 (by decide) (fun e => ?_) (fun e => ?_)
      · have h := h.1 e
        refine x_aload_n (pc := 32) dX11_read_32 rfl rfl ?_
        refine x_getR (pc := 33) (i := r_obj) (a := r_readerBooks) fl_X11_162 dX11_read_33 (sN_r_obj hS) (sT_r_obj hS) rfl (sR_r_obj_51 hS) ?_
        refine x_iload_n (pc := 36) dX11_read_36 rfl rfl ?_
        refine x_dup2 (pc := 37) dX11_read_37 rfl rfl ?_
        refine y_iald (pc := 38) (i := r_readerBooks) (n := 48) dX11_read_38 (sN_r_readerBooks hS) (sT_r_readerBooks hS) (sL_r_readerBooks hS) h.1 ?_
        have h := h.2
        refine x_iconst (pc := 39) dX11_read_39 ?_
        refine x_iload_n (pc := 40) dX11_read_40 rfl rfl ?_
        refine x_ishl (pc := 41) dX11_read_41 ?_
        refine x_ior (pc := 42) dX11_read_42 ?_
        refine y_iast (pc := 43) (i := r_readerBooks) (n := 48) dX11_read_43 (sN_r_readerBooks hS) (sT_r_readerBooks hS) (sL_r_readerBooks hS) h.1 ?_
        have h := h.2
        have h := h _ rfl
        generalize up I6 r_readerBooks (ix (v1)) (ior (I6 r_readerBooks (ix (v1))) (ishl (1) (v2))) = I8 at h ⊢
        refine x_iconst (pc := 44) dX11_read_44 ?_
        exact y_zret (pc := 45) dX11_read_45 rfl ⟨Nat.le_refl _, Nat.le_refl _⟩ (Or.inr rfl) h
      · have h := h.2 e
        refine x_iconst (pc := 30) dX11_read_30 ?_
        exact y_zret (pc := 31) dX11_read_31 rfl ⟨Nat.le_refl _, Nat.le_refl _⟩ (Or.inl rfl) h
set_option maxHeartbeats 4000000 in
set_option maxRecDepth 100000 in
theorem b_R_reader {G : XG} {S : XS} {I : XI} {v1 : Int} {R : Int → XI → Prop} (hS : xSh S)  (h : (∀ I1 : XI, I1 = up I r_obj 0 (0) → ((w32 (I1 r_readers 0) = w32 (12) → R ((-1)) I1) ∧ (¬ (w32 (I1 r_readers 0) = w32 (12)) → R_isCamp G S I1 (v1) (fun r3 I2 => ((w32 (r3) = 0 → R ((-1)) I2) ∧ (¬ (w32 (r3) = 0) → (∀ I4 : XI, I4 = up I2 r_readers 0 ((I2 r_readers 0) + (1)) → (inb (I2 r_readers 0) 48 ∧ (∀ I5 : XI, I5 = up I4 r_readerCamp (ix (I2 r_readers 0)) (v1) → (inb (I2 r_readers 0) 48 ∧ (∀ I6 : XI, I6 = up I5 r_readerBooks (ix (I2 r_readers 0)) (0) → R (I2 r_readers 0) I6)))))))))))) : R_reader G S I v1 R := by
  refine x_start [some (vr G r_obj), some (vi (v1)), none] (by decide) (Nat.le_of_ble_eq_true rfl) rfl ?_
  refine x_aload_n (pc := 0) dX11_reader_0 rfl rfl ?_
  refine x_iconst (pc := 1) dX11_reader_1 ?_
  refine x_putI (pc := 2) (i := r_obj) fl_X11_220 dX11_reader_2 (sN_r_obj hS) (sT_r_obj hS) rfl ?_
  have h := h _ rfl
  generalize up I r_obj 0 (0) = I1 at h ⊢
  refine x_aload_n (pc := 5) dX11_reader_5 rfl rfl ?_
  refine x_getR (pc := 6) (i := r_obj) (a := r_readers) fl_X11_156 dX11_reader_6 (sN_r_obj hS) (sT_r_obj hS) rfl (sR_r_obj_49 hS) ?_
  refine x_iconst (pc := 9) dX11_reader_9 ?_
  refine y_iald (pc := 10) (i := r_readers) (n := 4) dX11_reader_10 (sN_r_readers hS) (sT_r_readers hS) (sL_r_readers hS) (inb_nat (k := 0) (by decide) (by decide)) ?_
  rw [show ix 0 = 0 from rfl]
  refine x_bipush (pc := 11) dX11_reader_11 (by decide) ?_
  refine x_icmp_eq (pc := 13) (t := 24) dX11_reader_13 (by decide) (fun e => ?_) (fun e => ?_)
  · have h := h.1 e
    refine x_iconst (pc := 24) dX11_reader_24 ?_
    exact y_iret (pc := 25) dX11_reader_25 rfl ⟨Nat.le_refl _, Nat.le_refl _⟩ h
  · have h := h.2 e
    refine x_aload_n (pc := 16) dX11_reader_16 rfl rfl ?_
    refine x_iload_n (pc := 17) dX11_reader_17 rfl rfl ?_
    refine y_Vi (pc := 18) (i := r_obj) (As := [vi (v1)]) (rest := []) ok_X11_isCamp ml_X11_243 dX11_reader_18 (sN_r_obj hS) (sT_r_obj hS) (by decide) rfl rfl rfl ⟨rfl, rfl⟩ ⟨by decide, by decide⟩ ⟨Nat.le_refl _, Nat.le_refl _⟩ (Nat.le_of_ble_eq_true rfl) rfl h (fun r3 I2 h => ?_)
    refine x_if_ne (pc := 21) (t := 26) dX11_reader_21 (by decide) (fun e => ?_) (fun e => ?_)
    · have h := h.1 e
      refine x_iconst (pc := 24) dX11_reader_24 ?_
      exact y_iret (pc := 25) dX11_reader_25 rfl ⟨Nat.le_refl _, Nat.le_refl _⟩ h
    · have h := h.2 e
      refine x_aload_n (pc := 26) dX11_reader_26 rfl rfl ?_
      refine x_getR (pc := 27) (i := r_obj) (a := r_readers) fl_X11_156 dX11_reader_27 (sN_r_obj hS) (sT_r_obj hS) rfl (sR_r_obj_49 hS) ?_
      refine x_iconst (pc := 30) dX11_reader_30 ?_
      refine y_iald (pc := 31) (i := r_readers) (n := 4) dX11_reader_31 (sN_r_readers hS) (sT_r_readers hS) (sL_r_readers hS) (inb_nat (k := 0) (by decide) (by decide)) ?_
      rw [show ix 0 = 0 from rfl]
      refine x_istore_n (pc := 32) (L' := [some (vr G r_obj), some (vi (v1)), some (vi (I2 r_readers 0))]) dX11_reader_32 rfl (by decide) (xst1 rfl rfl rfl) ?_
      refine x_aload_n (pc := 33) dX11_reader_33 rfl rfl ?_
      refine x_getR (pc := 34) (i := r_obj) (a := r_readers) fl_X11_156 dX11_reader_34 (sN_r_obj hS) (sT_r_obj hS) rfl (sR_r_obj_49 hS) ?_
      refine x_iconst (pc := 37) dX11_reader_37 ?_
      refine x_dup2 (pc := 38) dX11_reader_38 rfl rfl ?_
      refine y_iald (pc := 39) (i := r_readers) (n := 4) dX11_reader_39 (sN_r_readers hS) (sT_r_readers hS) (sL_r_readers hS) (inb_nat (k := 0) (by decide) (by decide)) ?_
      rw [show ix 0 = 0 from rfl]
      refine x_iconst (pc := 40) dX11_reader_40 ?_
      refine x_iadd (pc := 41) dX11_reader_41 ?_
      refine y_iast (pc := 42) (i := r_readers) (n := 4) dX11_reader_42 (sN_r_readers hS) (sT_r_readers hS) (sL_r_readers hS) (inb_nat (k := 0) (by decide) (by decide)) ?_
      rw [show ix 0 = 0 from rfl]
      have h := h _ rfl
      generalize up I2 r_readers 0 ((I2 r_readers 0) + (1)) = I4 at h ⊢
      refine x_aload_n (pc := 43) dX11_reader_43 rfl rfl ?_
      refine x_getR (pc := 44) (i := r_obj) (a := r_readerCamp) fl_X11_159 dX11_reader_44 (sN_r_obj hS) (sT_r_obj hS) rfl (sR_r_obj_50 hS) ?_
      refine x_iload_n (pc := 47) dX11_reader_47 rfl rfl ?_
      refine x_iload_n (pc := 48) dX11_reader_48 rfl rfl ?_
      refine y_iast (pc := 49) (i := r_readerCamp) (n := 48) dX11_reader_49 (sN_r_readerCamp hS) (sT_r_readerCamp hS) (sL_r_readerCamp hS) h.1 ?_
      have h := h.2
      have h := h _ rfl
      generalize up I4 r_readerCamp (ix (I2 r_readers 0)) (v1) = I5 at h ⊢
      refine x_aload_n (pc := 50) dX11_reader_50 rfl rfl ?_
      refine x_getR (pc := 51) (i := r_obj) (a := r_readerBooks) fl_X11_162 dX11_reader_51 (sN_r_obj hS) (sT_r_obj hS) rfl (sR_r_obj_51 hS) ?_
      refine x_iload_n (pc := 54) dX11_reader_54 rfl rfl ?_
      refine x_iconst (pc := 55) dX11_reader_55 ?_
      refine y_iast (pc := 56) (i := r_readerBooks) (n := 48) dX11_reader_56 (sN_r_readerBooks hS) (sT_r_readerBooks hS) (sL_r_readerBooks hS) h.1 ?_
      have h := h.2
      have h := h _ rfl
      generalize up I5 r_readerBooks (ix (I2 r_readers 0)) (0) = I6 at h ⊢
      refine x_iload_n (pc := 57) dX11_reader_57 rfl rfl ?_
      exact y_iret (pc := 58) dX11_reader_58 rfl ⟨Nat.le_refl _, Nat.le_refl _⟩ h
set_option maxHeartbeats 4000000 in
set_option maxRecDepth 100000 in
theorem b_R_readersOf {G : XG} {S : XS} {I : XI} {v1 : Int} {R : Int → XI → Prop} (hS : xSh S)  (h : R_readersOf_k4 G S I (v1) (0) (0) R) : R_readersOf G S I v1 R := by
  refine x_start [some (vr G r_obj), some (vi (v1)), none, none, none, none] (by decide) (Nat.le_of_ble_eq_true rfl) rfl ?_
  refine x_iconst (pc := 0) dX11_readersOf_0 ?_
  refine x_istore_n (pc := 1) (L' := [some (vr G r_obj), some (vi (v1)), some (vi (0)), none, none, none]) dX11_readersOf_1 rfl (by decide) (xst1 rfl rfl rfl) ?_
  refine x_iconst (pc := 2) dX11_readersOf_2 ?_
  refine x_istore_n (pc := 3) (L' := [some (vr G r_obj), some (vi (v1)), some (vi (0)), some (vi (0)), none, none]) dX11_readersOf_3 rfl (by decide) (xst1 rfl rfl rfl) ?_
  exact h
set_option maxHeartbeats 4000000 in
set_option maxRecDepth 100000 in
theorem b_R_readersOf_k4 {G : XG} {S : XS}  {I : XI} {v1 : Int} {v2 : Int} {v3 : Int} {R : Int → XI → Prop} (hS : xSh S)  (h : ((w32 (I r_readers 0) ≤ w32 (v3) → R (v2) I) ∧ (¬ (w32 (I r_readers 0) ≤ w32 (v3)) → R_readersOf_k20 G S I (v1) (v2) (v3) (0) (0) R))) : R_readersOf_k4 G S  I v1 v2 v3 R := by
  unfold R_readersOf_k4
  refine x_iload_n (pc := 4) dX11_readersOf_4 rfl rfl ?_
  refine x_aload_n (pc := 5) dX11_readersOf_5 rfl rfl ?_
  refine x_getR (pc := 6) (i := r_obj) (a := r_readers) fl_X11_156 dX11_readersOf_6 (sN_r_obj hS) (sT_r_obj hS) rfl (sR_r_obj_49 hS) ?_
  refine x_iconst (pc := 9) dX11_readersOf_9 ?_
  refine y_iald (pc := 10) (i := r_readers) (n := 4) dX11_readersOf_10 (sN_r_readers hS) (sT_r_readers hS) (sL_r_readers hS) (inb_nat (k := 0) (by decide) (by decide)) ?_
  rw [show ix 0 = 0 from rfl]
  refine x_icmp_ge (pc := 11) (t := 89) dX11_readersOf_11 (by decide) (fun e => ?_) (fun e => ?_)
  · have h := h.1 e
    refine x_iload_n (pc := 89) dX11_readersOf_89 rfl rfl ?_
    exact y_iret (pc := 90) dX11_readersOf_90 rfl ⟨Nat.le_refl _, Nat.le_refl _⟩ h
  · have h := h.2 e
    refine x_iconst (pc := 14) dX11_readersOf_14 ?_
    refine x_istore (pc := 15) (L' := [some (vr G r_obj), some (vi (v1)), some (vi (v2)), some (vi (v3)), some (vi (0)), none]) dX11_readersOf_15 (by decide) (xst1 rfl rfl rfl) ?_
    refine x_iconst (pc := 17) dX11_readersOf_17 ?_
    refine x_istore (pc := 18) (L' := [some (vr G r_obj), some (vi (v1)), some (vi (v2)), some (vi (v3)), some (vi (0)), some (vi (0))]) dX11_readersOf_18 (by decide) (xst1 rfl rfl rfl) ?_
    exact h
set_option maxHeartbeats 4000000 in
set_option maxRecDepth 100000 in
theorem b_R_readersOf_k20 {G : XG} {S : XS}  {I : XI} {v1 : Int} {v2 : Int} {v3 : Int} {v4 : Int} {v5 : Int} {R : Int → XI → Prop} (hS : xSh S)  (h : ((w32 (I r_books 0) ≤ w32 (v5) → ((w32 (v4) = 0 → R_readersOf_k4 G S I (v1) ((v2) + (0)) (v3 + 1) R) ∧ (¬ (w32 (v4) = 0) → R_readersOf_k4 G S I (v1) ((v2) + (1)) (v3 + 1) R))) ∧ (¬ (w32 (I r_books 0) ≤ w32 (v5)) → ((w32 (v4) = 0 → R_hasRead G S I (v3) (v5) (fun r2 I1 => ((w32 (r2) = 0 → R_readersOf_k20 G S I1 (v1) (v2) (v3) (0) (v5 + 1) R) ∧ (¬ (w32 (r2) = 0) → (inb (v5) 96 ∧ ((w32 (I1 r_bookKind (ix (v5))) = w32 (v1) → R_readersOf_k20 G S I1 (v1) (v2) (v3) (1) (v5 + 1) R) ∧ (¬ (w32 (I1 r_bookKind (ix (v5))) = w32 (v1)) → R_readersOf_k20 G S I1 (v1) (v2) (v3) (0) (v5 + 1) R))))))) ∧ (¬ (w32 (v4) = 0) → R_readersOf_k20 G S I (v1) (v2) (v3) (1) (v5 + 1) R))))) : R_readersOf_k20 G S  I v1 v2 v3 v4 v5 R := by
  unfold R_readersOf_k20
  refine x_iload (pc := 20) dX11_readersOf_20 rfl ?_
  refine x_aload_n (pc := 22) dX11_readersOf_22 rfl rfl ?_
  refine x_getR (pc := 23) (i := r_obj) (a := r_books) fl_X11_87 dX11_readersOf_23 (sN_r_obj hS) (sT_r_obj hS) rfl (sR_r_obj_26 hS) ?_
  refine x_iconst (pc := 26) dX11_readersOf_26 ?_
  refine y_iald (pc := 27) (i := r_books) (n := 4) dX11_readersOf_27 (sN_r_books hS) (sT_r_books hS) (sL_r_books hS) (inb_nat (k := 0) (by decide) (by decide)) ?_
  rw [show ix 0 = 0 from rfl]
  refine x_icmp_ge (pc := 28) (t := 70) dX11_readersOf_28 (by decide) (fun e => ?_) (fun e => ?_)
  · have h := h.1 e
    refine x_iload_n (pc := 70) dX11_readersOf_70 rfl rfl ?_
    refine x_iload (pc := 71) dX11_readersOf_71 rfl ?_
    refine x_if_eq (pc := 73) (t := 80) dX11_readersOf_73 (by decide) (fun e => ?_) (fun e => ?_)
    · have h := h.1 e
      refine x_iconst (pc := 80) dX11_readersOf_80 ?_
      refine x_iadd (pc := 81) dX11_readersOf_81 ?_
      refine x_istore_n (pc := 82) (L' := [some (vr G r_obj), some (vi (v1)), some (vi ((v2) + (0))), some (vi (v3)), some (vi (v4)), some (vi (v5))]) dX11_readersOf_82 rfl (by decide) (xst1 rfl rfl rfl) ?_
      refine x_iinc (pc := 83) (L' := [some (vr G r_obj), some (vi (v1)), some (vi ((v2) + (0))), some (vi (v3 + 1)), some (vi (v4)), some (vi (v5))]) dX11_readersOf_83 rfl (by decide) (xst1 rfl rfl rfl) ?_
      refine x_goto (pc := 86) (t := 4) dX11_readersOf_86 (by decide) ?_
      refine x_less (L' := [some (vr G r_obj), some (vi (v1)), some (vi ((v2) + (0))), some (vi (v3 + 1)), none, none]) (And.intro rfl (And.intro rfl (And.intro rfl (And.intro rfl trivial)))) ?_
      exact h
    · have h := h.2 e
      refine x_iconst (pc := 76) dX11_readersOf_76 ?_
      refine x_goto (pc := 77) (t := 81) dX11_readersOf_77 (by decide) ?_
      refine x_iadd (pc := 81) dX11_readersOf_81 ?_
      refine x_istore_n (pc := 82) (L' := [some (vr G r_obj), some (vi (v1)), some (vi ((v2) + (1))), some (vi (v3)), some (vi (v4)), some (vi (v5))]) dX11_readersOf_82 rfl (by decide) (xst1 rfl rfl rfl) ?_
      refine x_iinc (pc := 83) (L' := [some (vr G r_obj), some (vi (v1)), some (vi ((v2) + (1))), some (vi (v3 + 1)), some (vi (v4)), some (vi (v5))]) dX11_readersOf_83 rfl (by decide) (xst1 rfl rfl rfl) ?_
      refine x_goto (pc := 86) (t := 4) dX11_readersOf_86 (by decide) ?_
      refine x_less (L' := [some (vr G r_obj), some (vi (v1)), some (vi ((v2) + (1))), some (vi (v3 + 1)), none, none]) (And.intro rfl (And.intro rfl (And.intro rfl (And.intro rfl trivial)))) ?_
      exact h
  · have h := h.2 e
    refine x_iload (pc := 31) dX11_readersOf_31 rfl ?_
    refine x_if_ne (pc := 33) (t := 57) dX11_readersOf_33 (by decide) (fun e => ?_) (fun e => ?_)
    · have h := h.1 e
      refine x_aload_n (pc := 36) dX11_readersOf_36 rfl rfl ?_
      refine x_iload_n (pc := 37) dX11_readersOf_37 rfl rfl ?_
      refine x_iload (pc := 38) dX11_readersOf_38 rfl ?_
      refine y_Vi (pc := 40) (i := r_obj) (As := [vi (v3), vi (v5)]) (rest := []) ok_X11_hasRead ml_X11_463 dX11_readersOf_40 (sN_r_obj hS) (sT_r_obj hS) (by decide) rfl rfl rfl ⟨rfl, rfl⟩ ⟨by decide, by decide⟩ ⟨Nat.le_refl _, Nat.le_refl _⟩ (Nat.le_of_ble_eq_true rfl) rfl h (fun r2 I1 h => ?_)
      refine x_if_eq (pc := 43) (t := 61) dX11_readersOf_43 (by decide) (fun e => ?_) (fun e => ?_)
      · have h := h.1 e
        refine x_iconst (pc := 61) dX11_readersOf_61 ?_
        refine x_istore (pc := 62) (L' := [some (vr G r_obj), some (vi (v1)), some (vi (v2)), some (vi (v3)), some (vi (0)), some (vi (v5))]) dX11_readersOf_62 (by decide) (xst1 rfl rfl rfl) ?_
        refine x_iinc (pc := 64) (L' := [some (vr G r_obj), some (vi (v1)), some (vi (v2)), some (vi (v3)), some (vi (0)), some (vi (v5 + 1))]) dX11_readersOf_64 rfl (by decide) (xst1 rfl rfl rfl) ?_
        refine x_goto (pc := 67) (t := 20) dX11_readersOf_67 (by decide) ?_
        exact h
      · have h := h.2 e
        refine x_aload_n (pc := 46) dX11_readersOf_46 rfl rfl ?_
        refine x_getR (pc := 47) (i := r_obj) (a := r_bookKind) fl_X11_90 dX11_readersOf_47 (sN_r_obj hS) (sT_r_obj hS) rfl (sR_r_obj_27 hS) ?_
        refine x_iload (pc := 50) dX11_readersOf_50 rfl ?_
        refine y_iald (pc := 52) (i := r_bookKind) (n := 96) dX11_readersOf_52 (sN_r_bookKind hS) (sT_r_bookKind hS) (sL_r_bookKind hS) h.1 ?_
        have h := h.2
        refine x_iload_n (pc := 53) dX11_readersOf_53 rfl rfl ?_
        refine x_icmp_ne (pc := 54) (t := 61) dX11_readersOf_54 (by decide) (fun e => ?_) (fun e => ?_)
        · have h := h.1 e
          refine x_iconst (pc := 57) dX11_readersOf_57 ?_
          refine x_goto (pc := 58) (t := 62) dX11_readersOf_58 (by decide) ?_
          refine x_istore (pc := 62) (L' := [some (vr G r_obj), some (vi (v1)), some (vi (v2)), some (vi (v3)), some (vi (1)), some (vi (v5))]) dX11_readersOf_62 (by decide) (xst1 rfl rfl rfl) ?_
          refine x_iinc (pc := 64) (L' := [some (vr G r_obj), some (vi (v1)), some (vi (v2)), some (vi (v3)), some (vi (1)), some (vi (v5 + 1))]) dX11_readersOf_64 rfl (by decide) (xst1 rfl rfl rfl) ?_
          refine x_goto (pc := 67) (t := 20) dX11_readersOf_67 (by decide) ?_
          exact h
        · have h := h.2 e
          refine x_iconst (pc := 61) dX11_readersOf_61 ?_
          refine x_istore (pc := 62) (L' := [some (vr G r_obj), some (vi (v1)), some (vi (v2)), some (vi (v3)), some (vi (0)), some (vi (v5))]) dX11_readersOf_62 (by decide) (xst1 rfl rfl rfl) ?_
          refine x_iinc (pc := 64) (L' := [some (vr G r_obj), some (vi (v1)), some (vi (v2)), some (vi (v3)), some (vi (0)), some (vi (v5 + 1))]) dX11_readersOf_64 rfl (by decide) (xst1 rfl rfl rfl) ?_
          refine x_goto (pc := 67) (t := 20) dX11_readersOf_67 (by decide) ?_
          exact h
    · have h := h.2 e
      refine x_iconst (pc := 57) dX11_readersOf_57 ?_
      refine x_goto (pc := 58) (t := 62) dX11_readersOf_58 (by decide) ?_
      refine x_istore (pc := 62) (L' := [some (vr G r_obj), some (vi (v1)), some (vi (v2)), some (vi (v3)), some (vi (1)), some (vi (v5))]) dX11_readersOf_62 (by decide) (xst1 rfl rfl rfl) ?_
      refine x_iinc (pc := 64) (L' := [some (vr G r_obj), some (vi (v1)), some (vi (v2)), some (vi (v3)), some (vi (1)), some (vi (v5 + 1))]) dX11_readersOf_64 rfl (by decide) (xst1 rfl rfl rfl) ?_
      refine x_goto (pc := 67) (t := 20) dX11_readersOf_67 (by decide) ?_
      exact h
set_option maxHeartbeats 4000000 in
set_option maxRecDepth 100000 in
theorem b_R_round {G : XG} {S : XS} {I : XI} {v1 : Int} {v2 : Int} {v3 : Int} {R : Int → XI → Prop} (hS : xSh S)  (h : (∀ I1 : XI, I1 = up I r_obj 0 (0) → R_in G S I1 (v3) (0) (2) (fun r3 I2 => ((w32 (r3) = 0 → R ((-1)) I2) ∧ (¬ (w32 (r3) = 0) → R_findRound G S I2 (v1) (v2) (fun r5 I4 => ((w32 (r5) = 0 → R ((-1)) I4) ∧ (¬ (w32 (r5) = 0) → ((w32 (v3) = 0 → R (I4 r_obj 80) I4) ∧ (¬ (w32 (v3) = 0) → ((w32 (v3) = w32 (1) → R (I4 r_obj 81) I4) ∧ (¬ (w32 (v3) = w32 (1)) → R ((2) * (I4 r_obj 79)) I4)))))))))))) : R_round G S I v1 v2 v3 R := by
  refine x_start [some (vr G r_obj), some (vi (v1)), some (vi (v2)), some (vi (v3))] (by decide) (Nat.le_of_ble_eq_true rfl) rfl ?_
  refine x_aload_n (pc := 0) dX11_round_0 rfl rfl ?_
  refine x_iconst (pc := 1) dX11_round_1 ?_
  refine x_putI (pc := 2) (i := r_obj) fl_X11_220 dX11_round_2 (sN_r_obj hS) (sT_r_obj hS) rfl ?_
  have h := h _ rfl
  generalize up I r_obj 0 (0) = I1 at h ⊢
  refine x_iload_n (pc := 5) dX11_round_5 rfl rfl ?_
  refine x_iconst (pc := 6) dX11_round_6 ?_
  refine x_iconst (pc := 7) dX11_round_7 ?_
  refine y_Si (pc := 8) (As := [vi (v3), vi (0), vi (2)]) (rest := []) ok_X11_in ml_X11_232 dX11_round_8 rfl ⟨rfl, rfl⟩ ⟨by decide, by decide⟩ ⟨Nat.le_refl _, Nat.le_refl _⟩ (Nat.le_of_ble_eq_true rfl) rfl h (fun r3 I2 h => ?_)
  refine x_if_eq (pc := 11) (t := 23) dX11_round_11 (by decide) (fun e => ?_) (fun e => ?_)
  · have h := h.1 e
    refine x_iconst (pc := 23) dX11_round_23 ?_
    exact y_iret (pc := 24) dX11_round_24 rfl ⟨Nat.le_refl _, Nat.le_refl _⟩ h
  · have h := h.2 e
    refine x_aload_n (pc := 14) dX11_round_14 rfl rfl ?_
    refine x_iload_n (pc := 15) dX11_round_15 rfl rfl ?_
    refine x_iload_n (pc := 16) dX11_round_16 rfl rfl ?_
    refine y_Vi (pc := 17) (i := r_obj) (As := [vi (v1), vi (v2)]) (rest := []) ok_X11_findRound ml_X11_451 dX11_round_17 (sN_r_obj hS) (sT_r_obj hS) (by decide) rfl rfl rfl ⟨rfl, rfl⟩ ⟨by decide, by decide⟩ ⟨Nat.le_refl _, Nat.le_refl _⟩ (Nat.le_of_ble_eq_true rfl) rfl h (fun r5 I4 h => ?_)
    refine x_if_ne (pc := 20) (t := 25) dX11_round_20 (by decide) (fun e => ?_) (fun e => ?_)
    · have h := h.1 e
      refine x_iconst (pc := 23) dX11_round_23 ?_
      exact y_iret (pc := 24) dX11_round_24 rfl ⟨Nat.le_refl _, Nat.le_refl _⟩ h
    · have h := h.2 e
      refine x_iload_n (pc := 25) dX11_round_25 rfl rfl ?_
      refine x_if_ne (pc := 26) (t := 36) dX11_round_26 (by decide) (fun e => ?_) (fun e => ?_)
      · have h := h.1 e
        refine x_aload_n (pc := 29) dX11_round_29 rfl rfl ?_
        refine x_getI (pc := 30) (i := r_obj) fl_X11_442 dX11_round_30 (sN_r_obj hS) (sT_r_obj hS) rfl ?_
        refine x_goto (pc := 33) (t := 54) dX11_round_33 (by decide) ?_
        exact y_iret (pc := 54) dX11_round_54 rfl ⟨Nat.le_refl _, Nat.le_refl _⟩ h
      · have h := h.2 e
        refine x_iload_n (pc := 36) dX11_round_36 rfl rfl ?_
        refine x_iconst (pc := 37) dX11_round_37 ?_
        refine x_icmp_ne (pc := 38) (t := 48) dX11_round_38 (by decide) (fun e => ?_) (fun e => ?_)
        · have h := h.1 e
          refine x_aload_n (pc := 41) dX11_round_41 rfl rfl ?_
          refine x_getI (pc := 42) (i := r_obj) fl_X11_445 dX11_round_42 (sN_r_obj hS) (sT_r_obj hS) rfl ?_
          refine x_goto (pc := 45) (t := 54) dX11_round_45 (by decide) ?_
          exact y_iret (pc := 54) dX11_round_54 rfl ⟨Nat.le_refl _, Nat.le_refl _⟩ h
        · have h := h.2 e
          refine x_iconst (pc := 48) dX11_round_48 ?_
          refine x_aload_n (pc := 49) dX11_round_49 rfl rfl ?_
          refine x_getI (pc := 50) (i := r_obj) fl_X11_439 dX11_round_50 (sN_r_obj hS) (sT_r_obj hS) rfl ?_
          refine x_imul (pc := 53) dX11_round_53 ?_
          exact y_iret (pc := 54) dX11_round_54 rfl ⟨Nat.le_refl _, Nat.le_refl _⟩ h
set_option maxHeartbeats 4000000 in
set_option maxRecDepth 100000 in
theorem b_R_rule {G : XG} {S : XS} {I : XI} {v1 : Int} {v2 : Int} {v3 : Int} {v4 : Int} {R : Int → XI → Prop} (hS : xSh S)  (h : (∀ I1 : XI, I1 = up I r_obj 0 (0) → R_isThere G S I1 (v1) (v3) (fun r3 I2 => ((w32 (r3) = 0 → R ((-2)) I2) ∧ (¬ (w32 (r3) = 0) → R_isBook G S I2 (v2) (fun r5 I4 => ((w32 (r5) = 0 → R ((-2)) I4) ∧ (¬ (w32 (r5) = 0) → R_in G S I4 (v4) (0) (2) (fun r7 I6 => ((w32 (r7) = 0 → R ((-2)) I6) ∧ (¬ (w32 (r7) = 0) → R_viewWeek G S I6 (fun r9 I8 => R_look G S I8 (v1) (v2) (v3) (r9) (fun I10 => ((w32 (v4) = 0 → R_lineOf G S I10 (0) (fun r12 I11 => R (r12) I11)) ∧ (¬ (w32 (v4) = 0) → ((w32 (v4) = w32 (1) → R_numberOf G S I10 (1) (4) (fun r14 I13 => R (r14) I13)) ∧ (¬ (w32 (v4) = w32 (1)) → R_numberOf G S I10 (2) (0) (fun r16 I15 => R (r16) I15)))))))))))))))))) : R_rule G S I v1 v2 v3 v4 R := by
  refine x_start [some (vr G r_obj), some (vi (v1)), some (vi (v2)), some (vi (v3)), some (vi (v4))] (by decide) (Nat.le_of_ble_eq_true rfl) rfl ?_
  refine x_aload_n (pc := 0) dX11_rule_0 rfl rfl ?_
  refine x_iconst (pc := 1) dX11_rule_1 ?_
  refine x_putI (pc := 2) (i := r_obj) fl_X11_220 dX11_rule_2 (sN_r_obj hS) (sT_r_obj hS) rfl ?_
  have h := h _ rfl
  generalize up I r_obj 0 (0) = I1 at h ⊢
  refine x_aload_n (pc := 5) dX11_rule_5 rfl rfl ?_
  refine x_iload_n (pc := 6) dX11_rule_6 rfl rfl ?_
  refine x_iload_n (pc := 7) dX11_rule_7 rfl rfl ?_
  refine y_Vi (pc := 8) (i := r_obj) (As := [vi (v1), vi (v3)]) (rest := []) ok_X11_isThere ml_X11_279 dX11_rule_8 (sN_r_obj hS) (sT_r_obj hS) (by decide) rfl rfl rfl ⟨rfl, rfl⟩ ⟨by decide, by decide⟩ ⟨Nat.le_refl _, Nat.le_refl _⟩ (Nat.le_of_ble_eq_true rfl) rfl h (fun r3 I2 h => ?_)
  refine x_if_eq (pc := 11) (t := 32) dX11_rule_11 (by decide) (fun e => ?_) (fun e => ?_)
  · have h := h.1 e
    refine x_bipush (pc := 32) dX11_rule_32 (by decide) ?_
    exact y_iret (pc := 34) dX11_rule_34 rfl ⟨Nat.le_refl _, Nat.le_refl _⟩ h
  · have h := h.2 e
    refine x_aload_n (pc := 14) dX11_rule_14 rfl rfl ?_
    refine x_iload_n (pc := 15) dX11_rule_15 rfl rfl ?_
    refine y_Vi (pc := 16) (i := r_obj) (As := [vi (v2)]) (rest := []) ok_X11_isBook ml_X11_317 dX11_rule_16 (sN_r_obj hS) (sT_r_obj hS) (by decide) rfl rfl rfl ⟨rfl, rfl⟩ ⟨by decide, by decide⟩ ⟨Nat.le_refl _, Nat.le_refl _⟩ (Nat.le_of_ble_eq_true rfl) rfl h (fun r5 I4 h => ?_)
    refine x_if_eq (pc := 19) (t := 32) dX11_rule_19 (by decide) (fun e => ?_) (fun e => ?_)
    · have h := h.1 e
      refine x_bipush (pc := 32) dX11_rule_32 (by decide) ?_
      exact y_iret (pc := 34) dX11_rule_34 rfl ⟨Nat.le_refl _, Nat.le_refl _⟩ h
    · have h := h.2 e
      refine x_iload (pc := 22) dX11_rule_22 rfl ?_
      refine x_iconst (pc := 24) dX11_rule_24 ?_
      refine x_iconst (pc := 25) dX11_rule_25 ?_
      refine y_Si (pc := 26) (As := [vi (v4), vi (0), vi (2)]) (rest := []) ok_X11_in ml_X11_232 dX11_rule_26 rfl ⟨rfl, rfl⟩ ⟨by decide, by decide⟩ ⟨Nat.le_refl _, Nat.le_refl _⟩ (Nat.le_of_ble_eq_true rfl) rfl h (fun r7 I6 h => ?_)
      refine x_if_ne (pc := 29) (t := 35) dX11_rule_29 (by decide) (fun e => ?_) (fun e => ?_)
      · have h := h.1 e
        refine x_bipush (pc := 32) dX11_rule_32 (by decide) ?_
        exact y_iret (pc := 34) dX11_rule_34 rfl ⟨Nat.le_refl _, Nat.le_refl _⟩ h
      · have h := h.2 e
        refine x_aload_n (pc := 35) dX11_rule_35 rfl rfl ?_
        refine x_iload_n (pc := 36) dX11_rule_36 rfl rfl ?_
        refine x_iload_n (pc := 37) dX11_rule_37 rfl rfl ?_
        refine x_iload_n (pc := 38) dX11_rule_38 rfl rfl ?_
        refine x_aload_n (pc := 39) dX11_rule_39 rfl rfl ?_
        refine y_Vi (pc := 40) (i := r_obj) (As := []) (rest := [vi (v3), vi (v2), vi (v1), vr G r_obj]) ok_X11_viewWeek ml_X11_283 dX11_rule_40 (sN_r_obj hS) (sT_r_obj hS) (by decide) rfl rfl rfl ⟨rfl, rfl⟩ ⟨by decide, by decide⟩ ⟨Nat.le_refl _, Nat.le_refl _⟩ (Nat.le_of_ble_eq_true rfl) rfl h (fun r9 I8 h => ?_)
        refine y_Vv (pc := 43) (i := r_obj) (As := [vi (v1), vi (v2), vi (v3), vi (r9)]) (rest := []) ok_X11_look ml_X11_320 dX11_rule_43 (sN_r_obj hS) (sT_r_obj hS) (by decide) rfl rfl rfl ⟨rfl, rfl⟩ ⟨by decide, by decide⟩ ⟨Nat.le_refl _, Nat.le_refl _⟩ (Nat.le_of_ble_eq_true rfl) rfl h (fun I10 h => ?_)
        refine x_iload (pc := 46) dX11_rule_46 rfl ?_
        refine x_if_ne (pc := 48) (t := 59) dX11_rule_48 (by decide) (fun e => ?_) (fun e => ?_)
        · have h := h.1 e
          refine x_aload_n (pc := 51) dX11_rule_51 rfl rfl ?_
          refine x_iconst (pc := 52) dX11_rule_52 ?_
          refine y_Vi (pc := 53) (i := r_obj) (As := [vi (0)]) (rest := []) ok_X11_lineOf ml_X11_313 dX11_rule_53 (sN_r_obj hS) (sT_r_obj hS) (by decide) rfl rfl rfl ⟨rfl, rfl⟩ ⟨by decide, by decide⟩ ⟨Nat.le_refl _, Nat.le_refl _⟩ (Nat.le_of_ble_eq_true rfl) rfl h (fun r12 I11 h => ?_)
          refine x_goto (pc := 56) (t := 80) dX11_rule_56 (by decide) ?_
          exact y_iret (pc := 80) dX11_rule_80 rfl ⟨Nat.le_refl _, Nat.le_refl _⟩ h
        · have h := h.2 e
          refine x_iload (pc := 59) dX11_rule_59 rfl ?_
          refine x_iconst (pc := 61) dX11_rule_61 ?_
          refine x_icmp_ne (pc := 62) (t := 74) dX11_rule_62 (by decide) (fun e => ?_) (fun e => ?_)
          · have h := h.1 e
            refine x_aload_n (pc := 65) dX11_rule_65 rfl rfl ?_
            refine x_iconst (pc := 66) dX11_rule_66 ?_
            refine x_iconst (pc := 67) dX11_rule_67 ?_
            refine y_Vi (pc := 68) (i := r_obj) (As := [vi (1), vi (4)]) (rest := []) ok_X11_numberOf ml_X11_324 dX11_rule_68 (sN_r_obj hS) (sT_r_obj hS) (by decide) rfl rfl rfl ⟨rfl, rfl⟩ ⟨by decide, by decide⟩ ⟨Nat.le_refl _, Nat.le_refl _⟩ (Nat.le_of_ble_eq_true rfl) rfl h (fun r14 I13 h => ?_)
            refine x_goto (pc := 71) (t := 80) dX11_rule_71 (by decide) ?_
            exact y_iret (pc := 80) dX11_rule_80 rfl ⟨Nat.le_refl _, Nat.le_refl _⟩ h
          · have h := h.2 e
            refine x_aload_n (pc := 74) dX11_rule_74 rfl rfl ?_
            refine x_iconst (pc := 75) dX11_rule_75 ?_
            refine x_iconst (pc := 76) dX11_rule_76 ?_
            refine y_Vi (pc := 77) (i := r_obj) (As := [vi (2), vi (0)]) (rest := []) ok_X11_numberOf ml_X11_324 dX11_rule_77 (sN_r_obj hS) (sT_r_obj hS) (by decide) rfl rfl rfl ⟨rfl, rfl⟩ ⟨by decide, by decide⟩ ⟨Nat.le_refl _, Nat.le_refl _⟩ (Nat.le_of_ble_eq_true rfl) rfl h (fun r16 I15 h => ?_)
            exact y_iret (pc := 80) dX11_rule_80 rfl ⟨Nat.le_refl _, Nat.le_refl _⟩ h
set_option maxHeartbeats 4000000 in
set_option maxRecDepth 100000 in
theorem b_R_rules {G : XG} {S : XS} {I : XI}  {R : Int → XI → Prop} (hS : xSh S)  (h : (∀ I1 : XI, I1 = up I r_obj 0 (0) → (∀ I2 : XI, I2 = up I1 r_obj 60 (I1 r_size 0) → (∀ I3 : XI, I3 = up I2 r_size 0 (0) → (∀ I4 : XI, I4 = up I3 r_fault 0 (0) → (∀ I5 : XI, I5 = up I4 r_faultPlace 0 ((-1)) → (∀ I6 : XI, I6 = up I5 r_obj 59 (0) → (∀ I7 : XI, I7 = up I6 r_obj 65 ((-1)) → (∀ I8 : XI, I8 = up I7 r_obj 66 (0) → (∀ I9 : XI, I9 = up I8 r_obj 68 (0) → R_token G S I9 (fun I10 => R_rules_k62 G S I10 (1) R))))))))))) : R_rules G S I  R := by
  refine x_start [some (vr G r_obj), none, none, none] (by decide) (Nat.le_of_ble_eq_true rfl) rfl ?_
  refine x_aload_n (pc := 0) dX11_rules_0 rfl rfl ?_
  refine x_iconst (pc := 1) dX11_rules_1 ?_
  refine x_putI (pc := 2) (i := r_obj) fl_X11_220 dX11_rules_2 (sN_r_obj hS) (sT_r_obj hS) rfl ?_
  have h := h _ rfl
  generalize up I r_obj 0 (0) = I1 at h ⊢
  refine x_aload_n (pc := 5) dX11_rules_5 rfl rfl ?_
  refine x_aload_n (pc := 6) dX11_rules_6 rfl rfl ?_
  refine x_getR (pc := 7) (i := r_obj) (a := r_size) fl_X11_13 dX11_rules_7 (sN_r_obj hS) (sT_r_obj hS) rfl (sR_r_obj_2 hS) ?_
  refine x_iconst (pc := 10) dX11_rules_10 ?_
  refine y_iald (pc := 11) (i := r_size) (n := 4) dX11_rules_11 (sN_r_size hS) (sT_r_size hS) (sL_r_size hS) (inb_nat (k := 0) (by decide) (by decide)) ?_
  rw [show ix 0 = 0 from rfl]
  refine x_putI (pc := 12) (i := r_obj) fl_X11_341 dX11_rules_12 (sN_r_obj hS) (sT_r_obj hS) rfl ?_
  have h := h _ rfl
  generalize up I1 r_obj 60 (I1 r_size 0) = I2 at h ⊢
  refine x_aload_n (pc := 15) dX11_rules_15 rfl rfl ?_
  refine x_getR (pc := 16) (i := r_obj) (a := r_size) fl_X11_13 dX11_rules_16 (sN_r_obj hS) (sT_r_obj hS) rfl (sR_r_obj_2 hS) ?_
  refine x_iconst (pc := 19) dX11_rules_19 ?_
  refine x_iconst (pc := 20) dX11_rules_20 ?_
  refine y_iast (pc := 21) (i := r_size) (n := 4) dX11_rules_21 (sN_r_size hS) (sT_r_size hS) (sL_r_size hS) (inb_nat (k := 0) (by decide) (by decide)) ?_
  rw [show ix 0 = 0 from rfl]
  have h := h _ rfl
  generalize up I2 r_size 0 (0) = I3 at h ⊢
  refine x_aload_n (pc := 22) dX11_rules_22 rfl rfl ?_
  refine x_getR (pc := 23) (i := r_obj) (a := r_fault) fl_X11_17 dX11_rules_23 (sN_r_obj hS) (sT_r_obj hS) rfl (sR_r_obj_3 hS) ?_
  refine x_iconst (pc := 26) dX11_rules_26 ?_
  refine x_iconst (pc := 27) dX11_rules_27 ?_
  refine y_iast (pc := 28) (i := r_fault) (n := 4) dX11_rules_28 (sN_r_fault hS) (sT_r_fault hS) (sL_r_fault hS) (inb_nat (k := 0) (by decide) (by decide)) ?_
  rw [show ix 0 = 0 from rfl]
  have h := h _ rfl
  generalize up I3 r_fault 0 (0) = I4 at h ⊢
  refine x_aload_n (pc := 29) dX11_rules_29 rfl rfl ?_
  refine x_getR (pc := 30) (i := r_obj) (a := r_faultPlace) fl_X11_20 dX11_rules_30 (sN_r_obj hS) (sT_r_obj hS) rfl (sR_r_obj_4 hS) ?_
  refine x_iconst (pc := 33) dX11_rules_33 ?_
  refine x_iconst (pc := 34) dX11_rules_34 ?_
  refine y_iast (pc := 35) (i := r_faultPlace) (n := 4) dX11_rules_35 (sN_r_faultPlace hS) (sT_r_faultPlace hS) (sL_r_faultPlace hS) (inb_nat (k := 0) (by decide) (by decide)) ?_
  rw [show ix 0 = 0 from rfl]
  have h := h _ rfl
  generalize up I4 r_faultPlace 0 ((-1)) = I5 at h ⊢
  refine x_aload_n (pc := 36) dX11_rules_36 rfl rfl ?_
  refine x_iconst (pc := 37) dX11_rules_37 ?_
  refine x_putI (pc := 38) (i := r_obj) fl_X11_338 dX11_rules_38 (sN_r_obj hS) (sT_r_obj hS) rfl ?_
  have h := h _ rfl
  generalize up I5 r_obj 59 (0) = I6 at h ⊢
  refine x_aload_n (pc := 41) dX11_rules_41 rfl rfl ?_
  refine x_iconst (pc := 42) dX11_rules_42 ?_
  refine x_putI (pc := 43) (i := r_obj) fl_X11_360 dX11_rules_43 (sN_r_obj hS) (sT_r_obj hS) rfl ?_
  have h := h _ rfl
  generalize up I6 r_obj 65 ((-1)) = I7 at h ⊢
  refine x_aload_n (pc := 46) dX11_rules_46 rfl rfl ?_
  refine x_iconst (pc := 47) dX11_rules_47 ?_
  refine x_putI (pc := 48) (i := r_obj) fl_X11_363 dX11_rules_48 (sN_r_obj hS) (sT_r_obj hS) rfl ?_
  have h := h _ rfl
  generalize up I7 r_obj 66 (0) = I8 at h ⊢
  refine x_aload_n (pc := 51) dX11_rules_51 rfl rfl ?_
  refine x_iconst (pc := 52) dX11_rules_52 ?_
  refine x_putI (pc := 53) (i := r_obj) fl_X11_408 dX11_rules_53 (sN_r_obj hS) (sT_r_obj hS) rfl ?_
  have h := h _ rfl
  generalize up I8 r_obj 68 (0) = I9 at h ⊢
  refine x_iconst (pc := 56) dX11_rules_56 ?_
  refine x_istore_n (pc := 57) (L' := [some (vr G r_obj), some (vi (1)), none, none]) dX11_rules_57 rfl (by decide) (xst1 rfl rfl rfl) ?_
  refine x_aload_n (pc := 58) dX11_rules_58 rfl rfl ?_
  refine y_Vv (pc := 59) (i := r_obj) (As := []) (rest := []) ok_X11_token ml_X11_373 dX11_rules_59 (sN_r_obj hS) (sT_r_obj hS) (by decide) rfl rfl rfl ⟨rfl, rfl⟩ ⟨by decide, by decide⟩ ⟨Nat.le_refl _, Nat.le_refl _⟩ (Nat.le_of_ble_eq_true rfl) rfl h (fun I10 h => ?_)
  exact h
set_option maxHeartbeats 4000000 in
set_option maxRecDepth 100000 in
theorem b_R_rules_k62 {G : XG} {S : XS}  {I : XI} {v1 : Int} {R : Int → XI → Prop} (hS : xSh S)  (h : ((w32 (v1) = 0 → R_rules_k81 G S I (v1) R) ∧ (¬ (w32 (v1) = 0) → ((w32 (I r_obj 62) = 0 → R_rules_k81 G S I (v1) R) ∧ (¬ (w32 (I r_obj 62) = 0) → R_oneLine G S I (fun r12 I11 => R_rules_k62 G S I11 (r12) R)))))) : R_rules_k62 G S  I v1 R := by
  unfold R_rules_k62
  refine x_iload_n (pc := 62) dX11_rules_62 rfl rfl ?_
  refine x_if_eq (pc := 63) (t := 81) dX11_rules_63 (by decide) (fun e => ?_) (fun e => ?_)
  · have h := h.1 e
    exact h
  · have h := h.2 e
    refine x_aload_n (pc := 66) dX11_rules_66 rfl rfl ?_
    refine x_getI (pc := 67) (i := r_obj) fl_X11_357 dX11_rules_67 (sN_r_obj hS) (sT_r_obj hS) rfl ?_
    refine x_if_eq (pc := 70) (t := 81) dX11_rules_70 (by decide) (fun e => ?_) (fun e => ?_)
    · have h := h.1 e
      exact h
    · have h := h.2 e
      refine x_aload_n (pc := 73) dX11_rules_73 rfl rfl ?_
      refine y_Vi (pc := 74) (i := r_obj) (As := []) (rest := []) ok_X11_oneLine ml_X11_427 dX11_rules_74 (sN_r_obj hS) (sT_r_obj hS) (by decide) rfl rfl rfl ⟨rfl, rfl⟩ ⟨by decide, by decide⟩ ⟨Nat.le_refl _, Nat.le_refl _⟩ (Nat.le_of_ble_eq_true rfl) rfl h (fun r12 I11 h => ?_)
      refine x_istore_n (pc := 77) (L' := [some (vr G r_obj), some (vi (r12)), none, none]) dX11_rules_77 rfl (by decide) (xst1 rfl rfl rfl) ?_
      refine x_goto (pc := 78) (t := 62) dX11_rules_78 (by decide) ?_
      exact h
set_option maxHeartbeats 4000000 in
set_option maxRecDepth 100000 in
theorem b_R_rules_k81 {G : XG} {S : XS}  {I : XI} {v1 : Int} {R : Int → XI → Prop} (hS : xSh S)  (h : ((w32 (v1) = 0 → R_rules_k92 G S I (v1) R) ∧ (¬ (w32 (v1) = 0) → ((w32 (I r_obj 66) ≤ 0 → (∀ I13 : XI, I13 = up I r_lines 0 (I r_obj 68) → R_rules_k145 G S I13 (0) R)) ∧ (¬ (w32 (I r_obj 66) ≤ 0) → R_rules_k92 G S I (v1) R))))) : R_rules_k81 G S  I v1 R := by
  unfold R_rules_k81
  refine x_iload_n (pc := 81) dX11_rules_81 rfl rfl ?_
  refine x_if_eq (pc := 82) (t := 92) dX11_rules_82 (by decide) (fun e => ?_) (fun e => ?_)
  · have h := h.1 e
    exact h
  · have h := h.2 e
    refine x_aload_n (pc := 85) dX11_rules_85 rfl rfl ?_
    refine x_getI (pc := 86) (i := r_obj) fl_X11_363 dX11_rules_86 (sN_r_obj hS) (sT_r_obj hS) rfl ?_
    refine x_if_le (pc := 89) (t := 133) dX11_rules_89 (by decide) (fun e => ?_) (fun e => ?_)
    · have h := h.1 e
      refine x_aload_n (pc := 133) dX11_rules_133 rfl rfl ?_
      refine x_getR (pc := 134) (i := r_obj) (a := r_lines) fl_X11_129 dX11_rules_134 (sN_r_obj hS) (sT_r_obj hS) rfl (sR_r_obj_40 hS) ?_
      refine x_iconst (pc := 137) dX11_rules_137 ?_
      refine x_aload_n (pc := 138) dX11_rules_138 rfl rfl ?_
      refine x_getI (pc := 139) (i := r_obj) fl_X11_408 dX11_rules_139 (sN_r_obj hS) (sT_r_obj hS) rfl ?_
      refine y_iast (pc := 142) (i := r_lines) (n := 4) dX11_rules_142 (sN_r_lines hS) (sT_r_lines hS) (sL_r_lines hS) (inb_nat (k := 0) (by decide) (by decide)) ?_
      rw [show ix 0 = 0 from rfl]
      have h := h _ rfl
      generalize up I r_lines 0 (I r_obj 68) = I13 at h ⊢
      refine x_iconst (pc := 143) dX11_rules_143 ?_
      refine x_istore_n (pc := 144) (L' := [some (vr G r_obj), some (vi (v1)), some (vi (0)), none]) dX11_rules_144 rfl (by decide) (xst1 rfl rfl rfl) ?_
      refine x_less (L' := [some (vr G r_obj), none, some (vi (0)), none]) (And.intro rfl (And.intro rfl trivial)) ?_
      exact h
    · have h := h.2 e
      exact h
set_option maxHeartbeats 4000000 in
set_option maxRecDepth 100000 in
theorem b_R_rules_k92 {G : XG} {S : XS}  {I : XI} {v1 : Int} {R : Int → XI → Prop} (hS : xSh S)  (h : ((w32 (v1) = 0 → R_rules_k109 G S I (v1) (1) (0) R) ∧ (¬ (w32 (v1) = 0) → R_rules_k109 G S I (v1) (I r_obj 66) (0) R))) : R_rules_k92 G S  I v1 R := by
  unfold R_rules_k92
  refine x_aload_n (pc := 92) dX11_rules_92 rfl rfl ?_
  refine x_getR (pc := 93) (i := r_obj) (a := r_fault) fl_X11_17 dX11_rules_93 (sN_r_obj hS) (sT_r_obj hS) rfl (sR_r_obj_3 hS) ?_
  refine x_iconst (pc := 96) dX11_rules_96 ?_
  refine x_iload_n (pc := 97) dX11_rules_97 rfl rfl ?_
  refine x_if_eq (pc := 98) (t := 108) dX11_rules_98 (by decide) (fun e => ?_) (fun e => ?_)
  · have h := h.1 e
    refine x_iconst (pc := 108) dX11_rules_108 ?_
    exact h
  · have h := h.2 e
    refine x_aload_n (pc := 101) dX11_rules_101 rfl rfl ?_
    refine x_getI (pc := 102) (i := r_obj) fl_X11_363 dX11_rules_102 (sN_r_obj hS) (sT_r_obj hS) rfl ?_
    refine x_goto (pc := 105) (t := 109) dX11_rules_105 (by decide) ?_
    exact h
set_option maxHeartbeats 4000000 in
set_option maxRecDepth 100000 in
theorem b_R_rules_k145 {G : XG} {S : XS}  {I : XI} {v2 : Int} {R : Int → XI → Prop} (hS : xSh S)  (h : ((w32 (I r_obj 68) ≤ w32 (v2) → R (I r_obj 68) I) ∧ (¬ (w32 (I r_obj 68) ≤ w32 (v2)) → (inb (v2) 17 ∧ (inb (v2) 64 ∧ (∀ I14 : XI, I14 = up I r_lineAct (ix (v2)) (I r_newAct (ix (v2))) → (inb (v2) 17 ∧ (inb (v2) 64 ∧ (∀ I15 : XI, I15 = up I14 r_lineNumber (ix (v2)) (I14 r_newNumber (ix (v2))) → (inb (v2) 17 ∧ (inb (v2) 64 ∧ (∀ I16 : XI, I16 = up I15 r_lineTests (ix (v2)) (I15 r_newTests (ix (v2))) → R_rules_k193 G S I16 (v2) ((4) * (v2)) R)))))))))))) : R_rules_k145 G S  I v2 R := by
  unfold R_rules_k145
  refine x_iload_n (pc := 145) dX11_rules_145 rfl rfl ?_
  refine x_aload_n (pc := 146) dX11_rules_146 rfl rfl ?_
  refine x_getI (pc := 147) (i := r_obj) fl_X11_408 dX11_rules_147 (sN_r_obj hS) (sT_r_obj hS) rfl ?_
  refine x_icmp_ge (pc := 150) (t := 262) dX11_rules_150 (by decide) (fun e => ?_) (fun e => ?_)
  · have h := h.1 e
    refine x_aload_n (pc := 262) dX11_rules_262 rfl rfl ?_
    refine x_getI (pc := 263) (i := r_obj) fl_X11_408 dX11_rules_263 (sN_r_obj hS) (sT_r_obj hS) rfl ?_
    exact y_iret (pc := 266) dX11_rules_266 rfl ⟨Nat.le_refl _, Nat.le_refl _⟩ h
  · have h := h.2 e
    refine x_aload_n (pc := 153) dX11_rules_153 rfl rfl ?_
    refine x_getR (pc := 154) (i := r_obj) (a := r_lineAct) fl_X11_132 dX11_rules_154 (sN_r_obj hS) (sT_r_obj hS) rfl (sR_r_obj_41 hS) ?_
    refine x_iload_n (pc := 157) dX11_rules_157 rfl rfl ?_
    refine x_aload_n (pc := 158) dX11_rules_158 rfl rfl ?_
    refine x_getR (pc := 159) (i := r_obj) (a := r_newAct) fl_X11_184 dX11_rules_159 (sN_r_obj hS) (sT_r_obj hS) rfl (sR_r_obj_69 hS) ?_
    refine x_iload_n (pc := 162) dX11_rules_162 rfl rfl ?_
    refine y_iald (pc := 163) (i := r_newAct) (n := 17) dX11_rules_163 (sN_r_newAct hS) (sT_r_newAct hS) (sL_r_newAct hS) h.1 ?_
    have h := h.2
    refine y_iast (pc := 164) (i := r_lineAct) (n := 64) dX11_rules_164 (sN_r_lineAct hS) (sT_r_lineAct hS) (sL_r_lineAct hS) h.1 ?_
    have h := h.2
    have h := h _ rfl
    generalize up I r_lineAct (ix (v2)) (I r_newAct (ix (v2))) = I14 at h ⊢
    refine x_aload_n (pc := 165) dX11_rules_165 rfl rfl ?_
    refine x_getR (pc := 166) (i := r_obj) (a := r_lineNumber) fl_X11_135 dX11_rules_166 (sN_r_obj hS) (sT_r_obj hS) rfl (sR_r_obj_42 hS) ?_
    refine x_iload_n (pc := 169) dX11_rules_169 rfl rfl ?_
    refine x_aload_n (pc := 170) dX11_rules_170 rfl rfl ?_
    refine x_getR (pc := 171) (i := r_obj) (a := r_newNumber) fl_X11_187 dX11_rules_171 (sN_r_obj hS) (sT_r_obj hS) rfl (sR_r_obj_70 hS) ?_
    refine x_iload_n (pc := 174) dX11_rules_174 rfl rfl ?_
    refine y_iald (pc := 175) (i := r_newNumber) (n := 17) dX11_rules_175 (sN_r_newNumber hS) (sT_r_newNumber hS) (sL_r_newNumber hS) h.1 ?_
    have h := h.2
    refine y_iast (pc := 176) (i := r_lineNumber) (n := 64) dX11_rules_176 (sN_r_lineNumber hS) (sT_r_lineNumber hS) (sL_r_lineNumber hS) h.1 ?_
    have h := h.2
    have h := h _ rfl
    generalize up I14 r_lineNumber (ix (v2)) (I14 r_newNumber (ix (v2))) = I15 at h ⊢
    refine x_aload_n (pc := 177) dX11_rules_177 rfl rfl ?_
    refine x_getR (pc := 178) (i := r_obj) (a := r_lineTests) fl_X11_138 dX11_rules_178 (sN_r_obj hS) (sT_r_obj hS) rfl (sR_r_obj_43 hS) ?_
    refine x_iload_n (pc := 181) dX11_rules_181 rfl rfl ?_
    refine x_aload_n (pc := 182) dX11_rules_182 rfl rfl ?_
    refine x_getR (pc := 183) (i := r_obj) (a := r_newTests) fl_X11_190 dX11_rules_183 (sN_r_obj hS) (sT_r_obj hS) rfl (sR_r_obj_71 hS) ?_
    refine x_iload_n (pc := 186) dX11_rules_186 rfl rfl ?_
    refine y_iald (pc := 187) (i := r_newTests) (n := 17) dX11_rules_187 (sN_r_newTests hS) (sT_r_newTests hS) (sL_r_newTests hS) h.1 ?_
    have h := h.2
    refine y_iast (pc := 188) (i := r_lineTests) (n := 64) dX11_rules_188 (sN_r_lineTests hS) (sT_r_lineTests hS) (sL_r_lineTests hS) h.1 ?_
    have h := h.2
    have h := h _ rfl
    generalize up I15 r_lineTests (ix (v2)) (I15 r_newTests (ix (v2))) = I16 at h ⊢
    refine x_iconst (pc := 189) dX11_rules_189 ?_
    refine x_iload_n (pc := 190) dX11_rules_190 rfl rfl ?_
    refine x_imul (pc := 191) dX11_rules_191 ?_
    refine x_istore_n (pc := 192) (L' := [some (vr G r_obj), none, some (vi (v2)), some (vi ((4) * (v2)))]) dX11_rules_192 rfl (by decide) (xst1 rfl rfl rfl) ?_
    exact h
set_option maxHeartbeats 4000000 in
set_option maxRecDepth 100000 in
theorem b_R_rules_k109 {G : XG} {S : XS}  {I : XI} {v1 : Int} {s0 : Int} {s1 : Int} {R : Int → XI → Prop} (hS : xSh S)  (h : (inb (s1) 4 ∧ (∀ I17 : XI, I17 = up I r_fault (ix (s1)) (s0) → ((w32 (v1) = 0 → (∀ I18 : XI, I18 = up I17 r_faultPlace 0 (I17 r_obj 65) → R ((-1)) I18)) ∧ (¬ (w32 (v1) = 0) → (∀ I19 : XI, I19 = up I17 r_faultPlace 0 (I17 r_obj 67) → R ((-1)) I19)))))) : R_rules_k109 G S  I v1 s0 s1 R := by
  unfold R_rules_k109
  refine y_iast (pc := 109) (i := r_fault) (n := 4) dX11_rules_109 (sN_r_fault hS) (sT_r_fault hS) (sL_r_fault hS) h.1 ?_
  have h := h.2
  have h := h _ rfl
  generalize up I r_fault (ix (s1)) (s0) = I17 at h ⊢
  refine x_aload_n (pc := 110) dX11_rules_110 rfl rfl ?_
  refine x_getR (pc := 111) (i := r_obj) (a := r_faultPlace) fl_X11_20 dX11_rules_111 (sN_r_obj hS) (sT_r_obj hS) rfl (sR_r_obj_4 hS) ?_
  refine x_iconst (pc := 114) dX11_rules_114 ?_
  refine x_iload_n (pc := 115) dX11_rules_115 rfl rfl ?_
  refine x_if_eq (pc := 116) (t := 126) dX11_rules_116 (by decide) (fun e => ?_) (fun e => ?_)
  · have h := h.1 e
    refine x_aload_n (pc := 126) dX11_rules_126 rfl rfl ?_
    refine x_getI (pc := 127) (i := r_obj) fl_X11_360 dX11_rules_127 (sN_r_obj hS) (sT_r_obj hS) rfl ?_
    refine y_iast (pc := 130) (i := r_faultPlace) (n := 4) dX11_rules_130 (sN_r_faultPlace hS) (sT_r_faultPlace hS) (sL_r_faultPlace hS) (inb_nat (k := 0) (by decide) (by decide)) ?_
    rw [show ix 0 = 0 from rfl]
    have h := h _ rfl
    generalize up I17 r_faultPlace 0 (I17 r_obj 65) = I18 at h ⊢
    refine x_iconst (pc := 131) dX11_rules_131 ?_
    exact y_iret (pc := 132) dX11_rules_132 rfl ⟨Nat.le_refl _, Nat.le_refl _⟩ h
  · have h := h.2 e
    refine x_aload_n (pc := 119) dX11_rules_119 rfl rfl ?_
    refine x_getI (pc := 120) (i := r_obj) fl_X11_366 dX11_rules_120 (sN_r_obj hS) (sT_r_obj hS) rfl ?_
    refine x_goto (pc := 123) (t := 130) dX11_rules_123 (by decide) ?_
    refine y_iast (pc := 130) (i := r_faultPlace) (n := 4) dX11_rules_130 (sN_r_faultPlace hS) (sT_r_faultPlace hS) (sL_r_faultPlace hS) (inb_nat (k := 0) (by decide) (by decide)) ?_
    rw [show ix 0 = 0 from rfl]
    have h := h _ rfl
    generalize up I17 r_faultPlace 0 (I17 r_obj 67) = I19 at h ⊢
    refine x_iconst (pc := 131) dX11_rules_131 ?_
    exact y_iret (pc := 132) dX11_rules_132 rfl ⟨Nat.le_refl _, Nat.le_refl _⟩ h
set_option maxHeartbeats 4000000 in
set_option maxRecDepth 100000 in
theorem b_R_rules_k193 {G : XG} {S : XS}  {I : XI} {v2 : Int} {v3 : Int} {R : Int → XI → Prop} (hS : xSh S)  (h : ((w32 (((4) * (v2)) + (4)) ≤ w32 (v3) → R_rules_k145 G S I (v2 + 1) R) ∧ (¬ (w32 (((4) * (v2)) + (4)) ≤ w32 (v3)) → (inb (v3) 69 ∧ (inb (v3) 256 ∧ (∀ I20 : XI, I20 = up I r_testWhat (ix (v3)) (I r_newWhat (ix (v3))) → (inb (v3) 69 ∧ (inb (v3) 256 ∧ (∀ I21 : XI, I21 = up I20 r_testSign (ix (v3)) (I20 r_newSign (ix (v3))) → (inb (v3) 69 ∧ (inb (v3) 256 ∧ (∀ I22 : XI, I22 = up I21 r_testThan (ix (v3)) (I21 r_newThan (ix (v3))) → (inb (v3) 69 ∧ (((I22 r_newNot (ix (v3))) = 0 ∨ (I22 r_newNot (ix (v3))) = 1) ∧ (inb (v3) 256 ∧ (∀ I23 : XI, I23 = up I22 r_testNot (ix (v3)) (I22 r_newNot (ix (v3))) → R_rules_k193 G S I23 (v2) (v3 + 1) R)))))))))))))))) : R_rules_k193 G S  I v2 v3 R := by
  unfold R_rules_k193
  refine x_iload_n (pc := 193) dX11_rules_193 rfl rfl ?_
  refine x_iconst (pc := 194) dX11_rules_194 ?_
  refine x_iload_n (pc := 195) dX11_rules_195 rfl rfl ?_
  refine x_imul (pc := 196) dX11_rules_196 ?_
  refine x_iconst (pc := 197) dX11_rules_197 ?_
  refine x_iadd (pc := 198) dX11_rules_198 ?_
  refine x_icmp_ge (pc := 199) (t := 256) dX11_rules_199 (by decide) (fun e => ?_) (fun e => ?_)
  · have h := h.1 e
    refine x_iinc (pc := 256) (L' := [some (vr G r_obj), none, some (vi (v2 + 1)), some (vi (v3))]) dX11_rules_256 rfl (by decide) (xst1 rfl rfl trivial) ?_
    refine x_goto (pc := 259) (t := 145) dX11_rules_259 (by decide) ?_
    refine x_less (L' := [some (vr G r_obj), none, some (vi (v2 + 1)), none]) (And.intro rfl (And.intro rfl trivial)) ?_
    exact h
  · have h := h.2 e
    refine x_aload_n (pc := 202) dX11_rules_202 rfl rfl ?_
    refine x_getR (pc := 203) (i := r_obj) (a := r_testWhat) fl_X11_141 dX11_rules_203 (sN_r_obj hS) (sT_r_obj hS) rfl (sR_r_obj_44 hS) ?_
    refine x_iload_n (pc := 206) dX11_rules_206 rfl rfl ?_
    refine x_aload_n (pc := 207) dX11_rules_207 rfl rfl ?_
    refine x_getR (pc := 208) (i := r_obj) (a := r_newWhat) fl_X11_193 dX11_rules_208 (sN_r_obj hS) (sT_r_obj hS) rfl (sR_r_obj_72 hS) ?_
    refine x_iload_n (pc := 211) dX11_rules_211 rfl rfl ?_
    refine y_iald (pc := 212) (i := r_newWhat) (n := 69) dX11_rules_212 (sN_r_newWhat hS) (sT_r_newWhat hS) (sL_r_newWhat hS) h.1 ?_
    have h := h.2
    refine y_iast (pc := 213) (i := r_testWhat) (n := 256) dX11_rules_213 (sN_r_testWhat hS) (sT_r_testWhat hS) (sL_r_testWhat hS) h.1 ?_
    have h := h.2
    have h := h _ rfl
    generalize up I r_testWhat (ix (v3)) (I r_newWhat (ix (v3))) = I20 at h ⊢
    refine x_aload_n (pc := 214) dX11_rules_214 rfl rfl ?_
    refine x_getR (pc := 215) (i := r_obj) (a := r_testSign) fl_X11_144 dX11_rules_215 (sN_r_obj hS) (sT_r_obj hS) rfl (sR_r_obj_45 hS) ?_
    refine x_iload_n (pc := 218) dX11_rules_218 rfl rfl ?_
    refine x_aload_n (pc := 219) dX11_rules_219 rfl rfl ?_
    refine x_getR (pc := 220) (i := r_obj) (a := r_newSign) fl_X11_196 dX11_rules_220 (sN_r_obj hS) (sT_r_obj hS) rfl (sR_r_obj_73 hS) ?_
    refine x_iload_n (pc := 223) dX11_rules_223 rfl rfl ?_
    refine y_iald (pc := 224) (i := r_newSign) (n := 69) dX11_rules_224 (sN_r_newSign hS) (sT_r_newSign hS) (sL_r_newSign hS) h.1 ?_
    have h := h.2
    refine y_iast (pc := 225) (i := r_testSign) (n := 256) dX11_rules_225 (sN_r_testSign hS) (sT_r_testSign hS) (sL_r_testSign hS) h.1 ?_
    have h := h.2
    have h := h _ rfl
    generalize up I20 r_testSign (ix (v3)) (I20 r_newSign (ix (v3))) = I21 at h ⊢
    refine x_aload_n (pc := 226) dX11_rules_226 rfl rfl ?_
    refine x_getR (pc := 227) (i := r_obj) (a := r_testThan) fl_X11_147 dX11_rules_227 (sN_r_obj hS) (sT_r_obj hS) rfl (sR_r_obj_46 hS) ?_
    refine x_iload_n (pc := 230) dX11_rules_230 rfl rfl ?_
    refine x_aload_n (pc := 231) dX11_rules_231 rfl rfl ?_
    refine x_getR (pc := 232) (i := r_obj) (a := r_newThan) fl_X11_199 dX11_rules_232 (sN_r_obj hS) (sT_r_obj hS) rfl (sR_r_obj_74 hS) ?_
    refine x_iload_n (pc := 235) dX11_rules_235 rfl rfl ?_
    refine y_iald (pc := 236) (i := r_newThan) (n := 69) dX11_rules_236 (sN_r_newThan hS) (sT_r_newThan hS) (sL_r_newThan hS) h.1 ?_
    have h := h.2
    refine y_iast (pc := 237) (i := r_testThan) (n := 256) dX11_rules_237 (sN_r_testThan hS) (sT_r_testThan hS) (sL_r_testThan hS) h.1 ?_
    have h := h.2
    have h := h _ rfl
    generalize up I21 r_testThan (ix (v3)) (I21 r_newThan (ix (v3))) = I22 at h ⊢
    refine x_aload_n (pc := 238) dX11_rules_238 rfl rfl ?_
    refine x_getR (pc := 239) (i := r_obj) (a := r_testNot) fl_X11_150 dX11_rules_239 (sN_r_obj hS) (sT_r_obj hS) rfl (sR_r_obj_47 hS) ?_
    refine x_iload_n (pc := 242) dX11_rules_242 rfl rfl ?_
    refine x_aload_n (pc := 243) dX11_rules_243 rfl rfl ?_
    refine x_getR (pc := 244) (i := r_obj) (a := r_newNot) fl_X11_202 dX11_rules_244 (sN_r_obj hS) (sT_r_obj hS) rfl (sR_r_obj_75 hS) ?_
    refine x_iload_n (pc := 247) dX11_rules_247 rfl rfl ?_
    refine y_zald (pc := 248) (i := r_newNot) (n := 69) dX11_rules_248 (sN_r_newNot hS) (sT_r_newNot hS) (sL_r_newNot hS) h.1 ?_
    have h := h.2
    have hz := h.1
    have h := h.2
    refine y_zast (pc := 249) (i := r_testNot) (n := 256) dX11_rules_249 (sN_r_testNot hS) (sT_r_testNot hS) (sL_r_testNot hS) h.1 hz ?_
    have h := h.2
    have h := h _ rfl
    generalize up I22 r_testNot (ix (v3)) (I22 r_newNot (ix (v3))) = I23 at h ⊢
    refine x_iinc (pc := 250) (L' := [some (vr G r_obj), none, some (vi (v2)), some (vi (v3 + 1))]) dX11_rules_250 rfl (by decide) (xst1 rfl rfl rfl) ?_
    refine x_goto (pc := 253) (t := 193) dX11_rules_253 (by decide) ?_
    exact h
set_option maxHeartbeats 4000000 in
set_option maxRecDepth 100000 in
theorem b_R_see {G : XG} {S : XS} {I : XI}  {R : Int → XI → Prop} (hS : xSh S)  (h : ((w32 (I r_obj 60) ≤ w32 (I r_obj 59) → R ((-1)) I) ∧ (¬ (w32 (I r_obj 60) ≤ w32 (I r_obj 59)) → (inb (I r_obj 59) 2000 ∧ R (iand (I r_tape (ix (I r_obj 59))) (255)) I)))) : R_see G S I  R := by
  refine x_start [some (vr G r_obj)] (by decide) (Nat.le_of_ble_eq_true rfl) rfl ?_
  refine x_aload_n (pc := 0) dX11_see_0 rfl rfl ?_
  refine x_getI (pc := 1) (i := r_obj) fl_X11_338 dX11_see_1 (sN_r_obj hS) (sT_r_obj hS) rfl ?_
  refine x_aload_n (pc := 4) dX11_see_4 rfl rfl ?_
  refine x_getI (pc := 5) (i := r_obj) fl_X11_341 dX11_see_5 (sN_r_obj hS) (sT_r_obj hS) rfl ?_
  refine x_icmp_ge (pc := 8) (t := 27) dX11_see_8 (by decide) (fun e => ?_) (fun e => ?_)
  · have h := h.1 e
    refine x_iconst (pc := 27) dX11_see_27 ?_
    exact y_iret (pc := 28) dX11_see_28 rfl ⟨Nat.le_refl _, Nat.le_refl _⟩ h
  · have h := h.2 e
    refine x_aload_n (pc := 11) dX11_see_11 rfl rfl ?_
    refine x_getR (pc := 12) (i := r_obj) (a := r_tape) fl_X11_7 dX11_see_12 (sN_r_obj hS) (sT_r_obj hS) rfl (sR_r_obj_1 hS) ?_
    refine x_aload_n (pc := 15) dX11_see_15 rfl rfl ?_
    refine x_getI (pc := 16) (i := r_obj) fl_X11_338 dX11_see_16 (sN_r_obj hS) (sT_r_obj hS) rfl ?_
    refine y_bald (pc := 19) (i := r_tape) (n := 2000) dX11_see_19 (sN_r_tape hS) (sT_r_tape hS) (sL_r_tape hS) h.1 ?_
    have h := h.2
    refine x_sipush (pc := 20) dX11_see_20 (by decide) ?_
    refine x_iand (pc := 23) dX11_see_23 ?_
    refine x_goto (pc := 24) (t := 28) dX11_see_24 (by decide) ?_
    exact y_iret (pc := 28) dX11_see_28 rfl ⟨Nat.le_refl _, Nat.le_refl _⟩ h
set_option maxHeartbeats 4000000 in
set_option maxRecDepth 100000 in
theorem b_R_share {G : XG} {S : XS} {I : XI} {v1 : Int} {R : XI → Prop} (hS : xSh S)  (h : R_share_k2 G S I (v1) (0) R) : R_share G S I v1 R := by
  refine x_start [some (vr G r_obj), some (vi (v1)), none, none, none] (by decide) (Nat.le_of_ble_eq_true rfl) rfl ?_
  refine x_iconst (pc := 0) dX11_share_0 ?_
  refine x_istore_n (pc := 1) (L' := [some (vr G r_obj), some (vi (v1)), some (vi (0)), none, none]) dX11_share_1 rfl (by decide) (xst1 rfl rfl rfl) ?_
  exact h
set_option maxHeartbeats 4000000 in
set_option maxRecDepth 100000 in
theorem b_R_share_k2 {G : XG} {S : XS}  {I : XI} {v1 : Int} {v2 : Int} {R : XI → Prop} (hS : xSh S)  (h : ((w32 (v1) ≤ w32 (v2) → R I) ∧ (¬ (w32 (v1) ≤ w32 (v2)) → R_share_k12 G S I (v1) (v2) (0) (1) R))) : R_share_k2 G S  I v1 v2 R := by
  unfold R_share_k2
  refine x_iload_n (pc := 2) dX11_share_2 rfl rfl ?_
  refine x_iload_n (pc := 3) dX11_share_3 rfl rfl ?_
  refine x_icmp_ge (pc := 4) (t := 78) dX11_share_4 (by decide) (fun e => ?_) (fun e => ?_)
  · have h := h.1 e
    exact y_vret (pc := 78) dX11_share_78 rfl ⟨Nat.le_refl _, Nat.le_refl _⟩ h
  · have h := h.2 e
    refine x_iconst (pc := 7) dX11_share_7 ?_
    refine x_istore_n (pc := 8) (L' := [some (vr G r_obj), some (vi (v1)), some (vi (v2)), some (vi (0)), none]) dX11_share_8 rfl (by decide) (xst1 rfl rfl rfl) ?_
    refine x_iconst (pc := 9) dX11_share_9 ?_
    refine x_istore (pc := 10) (L' := [some (vr G r_obj), some (vi (v1)), some (vi (v2)), some (vi (0)), some (vi (1))]) dX11_share_10 (by decide) (xst1 rfl rfl rfl) ?_
    exact h
set_option maxHeartbeats 4000000 in
set_option maxRecDepth 100000 in
theorem b_R_share_k12 {G : XG} {S : XS}  {I : XI} {v1 : Int} {v2 : Int} {v3 : Int} {v4 : Int} {R : XI → Prop} (hS : xSh S)  (h : ((w32 (I r_cells 0) ≤ w32 (v4) → (inb (v3) 10 ∧ (inb (v3) 10 ∧ (∀ I1 : XI, I1 = up I r_next (ix (v3)) ((I r_next (ix (v3))) + (1)) → (inb (v3) 10 ∧ (∀ I2 : XI, I2 = up I1 r_rest (ix (v3)) ((-1)) → R_share_k2 G S I2 (v1) (v2 + 1) R)))))) ∧ (¬ (w32 (I r_cells 0) ≤ w32 (v4)) → (inb (v4) 10 ∧ (inb (v3) 10 ∧ ((w32 (llcmp (I r_rest (ix (v4))) (I r_rest (ix (v3)))) ≤ 0 → R_share_k12 G S I (v1) (v2) (v3) (v4 + 1) R) ∧ (¬ (w32 (llcmp (I r_rest (ix (v4))) (I r_rest (ix (v3)))) ≤ 0) → R_share_k12 G S I (v1) (v2) (v4) (v4 + 1) R))))))) : R_share_k12 G S  I v1 v2 v3 v4 R := by
  unfold R_share_k12
  refine x_iload (pc := 12) dX11_share_12 rfl ?_
  refine x_aload_n (pc := 14) dX11_share_14 rfl rfl ?_
  refine x_getR (pc := 15) (i := r_obj) (a := r_cells) fl_X11_29 dX11_share_15 (sN_r_obj hS) (sT_r_obj hS) rfl (sR_r_obj_7 hS) ?_
  refine x_iconst (pc := 18) dX11_share_18 ?_
  refine y_iald (pc := 19) (i := r_cells) (n := 4) dX11_share_19 (sN_r_cells hS) (sT_r_cells hS) (sL_r_cells hS) (inb_nat (k := 0) (by decide) (by decide)) ?_
  rw [show ix 0 = 0 from rfl]
  refine x_icmp_ge (pc := 20) (t := 53) dX11_share_20 (by decide) (fun e => ?_) (fun e => ?_)
  · have h := h.1 e
    refine x_aload_n (pc := 53) dX11_share_53 rfl rfl ?_
    refine x_getR (pc := 54) (i := r_obj) (a := r_next) fl_X11_168 dX11_share_54 (sN_r_obj hS) (sT_r_obj hS) rfl (sR_r_obj_53 hS) ?_
    refine x_iload_n (pc := 57) dX11_share_57 rfl rfl ?_
    refine x_dup2 (pc := 58) dX11_share_58 rfl rfl ?_
    refine y_iald (pc := 59) (i := r_next) (n := 10) dX11_share_59 (sN_r_next hS) (sT_r_next hS) (sL_r_next hS) h.1 ?_
    have h := h.2
    refine x_iconst (pc := 60) dX11_share_60 ?_
    refine x_iadd (pc := 61) dX11_share_61 ?_
    refine y_iast (pc := 62) (i := r_next) (n := 10) dX11_share_62 (sN_r_next hS) (sT_r_next hS) (sL_r_next hS) h.1 ?_
    have h := h.2
    have h := h _ rfl
    generalize up I r_next (ix (v3)) ((I r_next (ix (v3))) + (1)) = I1 at h ⊢
    refine x_aload_n (pc := 63) dX11_share_63 rfl rfl ?_
    refine x_getR (pc := 64) (i := r_obj) (a := r_rest) fl_X11_174 dX11_share_64 (sN_r_obj hS) (sT_r_obj hS) rfl (sR_r_obj_55 hS) ?_
    refine x_iload_n (pc := 67) dX11_share_67 rfl rfl ?_
    refine x_ldc2 (pc := 68) (z := (-1)) dX11_share_68 kl_X11_246 rfl ?_
    refine y_last (pc := 71) (i := r_rest) (n := 10) dX11_share_71 (sN_r_rest hS) (sT_r_rest hS) (sL_r_rest hS) h.1 ?_
    have h := h.2
    have h := h _ rfl
    generalize up I1 r_rest (ix (v3)) ((-1)) = I2 at h ⊢
    refine x_iinc (pc := 72) (L' := [some (vr G r_obj), some (vi (v1)), some (vi (v2 + 1)), some (vi (v3)), some (vi (v4))]) dX11_share_72 rfl (by decide) (xst1 rfl rfl rfl) ?_
    refine x_goto (pc := 75) (t := 2) dX11_share_75 (by decide) ?_
    refine x_less (L' := [some (vr G r_obj), some (vi (v1)), some (vi (v2 + 1)), none, none]) (And.intro rfl (And.intro rfl (And.intro rfl trivial))) ?_
    exact h
  · have h := h.2 e
    refine x_aload_n (pc := 23) dX11_share_23 rfl rfl ?_
    refine x_getR (pc := 24) (i := r_obj) (a := r_rest) fl_X11_174 dX11_share_24 (sN_r_obj hS) (sT_r_obj hS) rfl (sR_r_obj_55 hS) ?_
    refine x_iload (pc := 27) dX11_share_27 rfl ?_
    refine y_lald (pc := 29) (i := r_rest) (n := 10) dX11_share_29 (sN_r_rest hS) (sT_r_rest hS) (sL_r_rest hS) h.1 ?_
    have h := h.2
    refine x_aload_n (pc := 30) dX11_share_30 rfl rfl ?_
    refine x_getR (pc := 31) (i := r_obj) (a := r_rest) fl_X11_174 dX11_share_31 (sN_r_obj hS) (sT_r_obj hS) rfl (sR_r_obj_55 hS) ?_
    refine x_iload_n (pc := 34) dX11_share_34 rfl rfl ?_
    refine y_lald (pc := 35) (i := r_rest) (n := 10) dX11_share_35 (sN_r_rest hS) (sT_r_rest hS) (sL_r_rest hS) h.1 ?_
    have h := h.2
    refine x_lcmp (pc := 36) dX11_share_36 ?_
    refine x_if_le (pc := 37) (t := 45) dX11_share_37 (by decide) (fun e => ?_) (fun e => ?_)
    · have h := h.1 e
      refine x_iload_n (pc := 45) dX11_share_45 rfl rfl ?_
      refine x_istore_n (pc := 46) (L' := [some (vr G r_obj), some (vi (v1)), some (vi (v2)), some (vi (v3)), some (vi (v4))]) dX11_share_46 rfl (by decide) (xst1 rfl rfl rfl) ?_
      refine x_iinc (pc := 47) (L' := [some (vr G r_obj), some (vi (v1)), some (vi (v2)), some (vi (v3)), some (vi (v4 + 1))]) dX11_share_47 rfl (by decide) (xst1 rfl rfl rfl) ?_
      refine x_goto (pc := 50) (t := 12) dX11_share_50 (by decide) ?_
      exact h
    · have h := h.2 e
      refine x_iload (pc := 40) dX11_share_40 rfl ?_
      refine x_goto (pc := 42) (t := 46) dX11_share_42 (by decide) ?_
      refine x_istore_n (pc := 46) (L' := [some (vr G r_obj), some (vi (v1)), some (vi (v2)), some (vi (v4)), some (vi (v4))]) dX11_share_46 rfl (by decide) (xst1 rfl rfl rfl) ?_
      refine x_iinc (pc := 47) (L' := [some (vr G r_obj), some (vi (v1)), some (vi (v2)), some (vi (v4)), some (vi (v4 + 1))]) dX11_share_47 rfl (by decide) (xst1 rfl rfl rfl) ?_
      refine x_goto (pc := 50) (t := 12) dX11_share_50 (by decide) ?_
      exact h
set_option maxHeartbeats 4000000 in
set_option maxRecDepth 100000 in
theorem b_R_stop {G : XG} {S : XS} {I : XI} {v1 : Int} {v2 : Int} {v3 : Int} {R : Int → XI → Prop} (hS : xSh S)  (h : (∀ I1 : XI, I1 = up I r_obj 0 (0) → R_findRound G S I1 (v1) (v2) (fun r3 I2 => ((w32 (r3) = 0 → R ((-1)) I2) ∧ (¬ (w32 (r3) = 0) → ((0 ≤ w32 (v3) → R_stop_k35 G S I2 (v3) (I2 r_obj 79) (0) (0) (0) R) ∧ (¬ (0 ≤ w32 (v3)) → R ((-1)) I2))))))) : R_stop G S I v1 v2 v3 R := by
  refine x_start [some (vr G r_obj), some (vi (v1)), some (vi (v2)), some (vi (v3)), none, none, none, none, none] (by decide) (Nat.le_of_ble_eq_true rfl) rfl ?_
  refine x_aload_n (pc := 0) dX11_stop_0 rfl rfl ?_
  refine x_iconst (pc := 1) dX11_stop_1 ?_
  refine x_putI (pc := 2) (i := r_obj) fl_X11_220 dX11_stop_2 (sN_r_obj hS) (sT_r_obj hS) rfl ?_
  have h := h _ rfl
  generalize up I r_obj 0 (0) = I1 at h ⊢
  refine x_aload_n (pc := 5) dX11_stop_5 rfl rfl ?_
  refine x_iload_n (pc := 6) dX11_stop_6 rfl rfl ?_
  refine x_iload_n (pc := 7) dX11_stop_7 rfl rfl ?_
  refine y_Vi (pc := 8) (i := r_obj) (As := [vi (v1), vi (v2)]) (rest := []) ok_X11_findRound ml_X11_451 dX11_stop_8 (sN_r_obj hS) (sT_r_obj hS) (by decide) rfl rfl rfl ⟨rfl, rfl⟩ ⟨by decide, by decide⟩ ⟨Nat.le_refl _, Nat.le_refl _⟩ (Nat.le_of_ble_eq_true rfl) rfl h (fun r3 I2 h => ?_)
  refine x_if_eq (pc := 11) (t := 18) dX11_stop_11 (by decide) (fun e => ?_) (fun e => ?_)
  · have h := h.1 e
    refine x_iconst (pc := 18) dX11_stop_18 ?_
    exact y_iret (pc := 19) dX11_stop_19 rfl ⟨Nat.le_refl _, Nat.le_refl _⟩ h
  · have h := h.2 e
    refine x_iload_n (pc := 14) dX11_stop_14 rfl rfl ?_
    refine x_if_ge (pc := 15) (t := 20) dX11_stop_15 (by decide) (fun e => ?_) (fun e => ?_)
    · have h := h.1 e
      refine x_aload_n (pc := 20) dX11_stop_20 rfl rfl ?_
      refine x_getI (pc := 21) (i := r_obj) fl_X11_439 dX11_stop_21 (sN_r_obj hS) (sT_r_obj hS) rfl ?_
      refine x_istore (pc := 24) (L' := [some (vr G r_obj), some (vi (v1)), some (vi (v2)), some (vi (v3)), some (vi (I2 r_obj 79)), none, none, none, none]) dX11_stop_24 (by decide) (xst1 rfl rfl rfl) ?_
      refine x_iconst (pc := 26) dX11_stop_26 ?_
      refine x_istore (pc := 27) (L' := [some (vr G r_obj), some (vi (v1)), some (vi (v2)), some (vi (v3)), some (vi (I2 r_obj 79)), some (vi (0)), none, none, none]) dX11_stop_27 (by decide) (xst1 rfl rfl rfl) ?_
      refine x_iconst (pc := 29) dX11_stop_29 ?_
      refine x_istore (pc := 30) (L' := [some (vr G r_obj), some (vi (v1)), some (vi (v2)), some (vi (v3)), some (vi (I2 r_obj 79)), some (vi (0)), some (vi (0)), none, none]) dX11_stop_30 (by decide) (xst1 rfl rfl rfl) ?_
      refine x_iconst (pc := 32) dX11_stop_32 ?_
      refine x_istore (pc := 33) (L' := [some (vr G r_obj), some (vi (v1)), some (vi (v2)), some (vi (v3)), some (vi (I2 r_obj 79)), some (vi (0)), some (vi (0)), some (vi (0)), none]) dX11_stop_33 (by decide) (xst1 rfl rfl rfl) ?_
      refine x_less (L' := [some (vr G r_obj), none, none, some (vi (v3)), some (vi (I2 r_obj 79)), some (vi (0)), some (vi (0)), some (vi (0)), none]) (And.intro rfl (And.intro rfl (And.intro rfl (And.intro rfl (And.intro rfl (And.intro rfl trivial)))))) ?_
      exact h
    · have h := h.2 e
      refine x_iconst (pc := 18) dX11_stop_18 ?_
      exact y_iret (pc := 19) dX11_stop_19 rfl ⟨Nat.le_refl _, Nat.le_refl _⟩ h
set_option maxHeartbeats 4000000 in
set_option maxRecDepth 100000 in
theorem b_R_stop_k35 {G : XG} {S : XS}  {I : XI} {v3 : Int} {v4 : Int} {v5 : Int} {v6 : Int} {v7 : Int} {R : Int → XI → Prop} (hS : xSh S)  (h : ((w32 (v4) = 0 → R ((-1)) I) ∧ (¬ (w32 (v4) = 0) → R_stop_k43 G S I (v3) (v4) (v5) (v6) (v7) (1) R))) : R_stop_k35 G S  I v3 v4 v5 v6 v7 R := by
  unfold R_stop_k35
  refine x_iload (pc := 35) dX11_stop_35 rfl ?_
  refine x_if_eq (pc := 37) (t := 146) dX11_stop_37 (by decide) (fun e => ?_) (fun e => ?_)
  · have h := h.1 e
    refine x_iconst (pc := 146) dX11_stop_146 ?_
    exact y_iret (pc := 147) dX11_stop_147 rfl ⟨Nat.le_refl _, Nat.le_refl _⟩ h
  · have h := h.2 e
    refine x_iconst (pc := 40) dX11_stop_40 ?_
    refine x_istore (pc := 41) (L' := [some (vr G r_obj), none, none, some (vi (v3)), some (vi (v4)), some (vi (v5)), some (vi (v6)), some (vi (v7)), some (vi (1))]) dX11_stop_41 (by decide) (xst1 rfl rfl rfl) ?_
    exact h
set_option maxHeartbeats 4000000 in
set_option maxRecDepth 100000 in
theorem b_R_stop_k43 {G : XG} {S : XS}  {I : XI} {v3 : Int} {v4 : Int} {v5 : Int} {v6 : Int} {v7 : Int} {v8 : Int} {R : Int → XI → Prop} (hS : xSh S)  (h : ((w32 (iand (ishr (v4) ((v8) - (1))) (1)) = 0 → R_stop_k43 G S I (v3) (v4) (v5) (v6) (v7) (v8 + 1) R) ∧ (¬ (w32 (iand (ishr (v4) ((v8) - (1))) (1)) = 0) → (inb (((10) * (v5)) + (v8)) 100 ∧ (inb (((10) * (v4)) + (v8)) 5120 ∧ ((w32 (((v6) + (I r_far (ix (((10) * (v5)) + (v8))))) + (I r_least (ix (((10) * (v4)) + (v8))))) = w32 (I r_obj 81) → ((w32 (v7) = w32 (v3) → R (v8) I) ∧ (¬ (w32 (v7) = w32 (v3)) → (inb (((10) * (v5)) + (v8)) 100 ∧ R_stop_k35 G S I (v3) (ixor (v4) (ishl (1) ((v8) - (1)))) (v8) ((v6) + (I r_far (ix (((10) * (v5)) + (v8))))) (v7 + 1) R)))) ∧ (¬ (w32 (((v6) + (I r_far (ix (((10) * (v5)) + (v8))))) + (I r_least (ix (((10) * (v4)) + (v8))))) = w32 (I r_obj 81)) → R_stop_k43 G S I (v3) (v4) (v5) (v6) (v7) (v8 + 1) R))))))) : R_stop_k43 G S  I v3 v4 v5 v6 v7 v8 R := by
  unfold R_stop_k43
  refine x_iload (pc := 43) dX11_stop_43 rfl ?_
  refine x_iload (pc := 45) dX11_stop_45 rfl ?_
  refine x_iconst (pc := 47) dX11_stop_47 ?_
  refine x_isub (pc := 48) dX11_stop_48 ?_
  refine x_ishr (pc := 49) dX11_stop_49 ?_
  refine x_iconst (pc := 50) dX11_stop_50 ?_
  refine x_iand (pc := 51) dX11_stop_51 ?_
  refine x_if_eq (pc := 52) (t := 92) dX11_stop_52 (by decide) (fun e => ?_) (fun e => ?_)
  · have h := h.1 e
    refine x_iinc (pc := 92) (L' := [some (vr G r_obj), none, none, some (vi (v3)), some (vi (v4)), some (vi (v5)), some (vi (v6)), some (vi (v7)), some (vi (v8 + 1))]) dX11_stop_92 rfl (by decide) (xst1 rfl rfl rfl) ?_
    refine x_goto (pc := 95) (t := 43) dX11_stop_95 (by decide) ?_
    exact h
  · have h := h.2 e
    refine x_iload (pc := 55) dX11_stop_55 rfl ?_
    refine x_aload_n (pc := 57) dX11_stop_57 rfl rfl ?_
    refine x_getR (pc := 58) (i := r_obj) (a := r_far) fl_X11_205 dX11_stop_58 (sN_r_obj hS) (sT_r_obj hS) rfl (sR_r_obj_76 hS) ?_
    refine x_bipush (pc := 61) dX11_stop_61 (by decide) ?_
    refine x_iload (pc := 63) dX11_stop_63 rfl ?_
    refine x_imul (pc := 65) dX11_stop_65 ?_
    refine x_iload (pc := 66) dX11_stop_66 rfl ?_
    refine x_iadd (pc := 68) dX11_stop_68 ?_
    refine y_iald (pc := 69) (i := r_far) (n := 100) dX11_stop_69 (sN_r_far hS) (sT_r_far hS) (sL_r_far hS) h.1 ?_
    have h := h.2
    refine x_iadd (pc := 70) dX11_stop_70 ?_
    refine x_aload_n (pc := 71) dX11_stop_71 rfl rfl ?_
    refine x_getR (pc := 72) (i := r_obj) (a := r_least) fl_X11_208 dX11_stop_72 (sN_r_obj hS) (sT_r_obj hS) rfl (sR_r_obj_77 hS) ?_
    refine x_bipush (pc := 75) dX11_stop_75 (by decide) ?_
    refine x_iload (pc := 77) dX11_stop_77 rfl ?_
    refine x_imul (pc := 79) dX11_stop_79 ?_
    refine x_iload (pc := 80) dX11_stop_80 rfl ?_
    refine x_iadd (pc := 82) dX11_stop_82 ?_
    refine y_iald (pc := 83) (i := r_least) (n := 5120) dX11_stop_83 (sN_r_least hS) (sT_r_least hS) (sL_r_least hS) h.1 ?_
    have h := h.2
    refine x_iadd (pc := 84) dX11_stop_84 ?_
    refine x_aload_n (pc := 85) dX11_stop_85 rfl rfl ?_
    refine x_getI (pc := 86) (i := r_obj) fl_X11_445 dX11_stop_86 (sN_r_obj hS) (sT_r_obj hS) rfl ?_
    refine x_icmp_eq (pc := 89) (t := 98) dX11_stop_89 (by decide) (fun e => ?_) (fun e => ?_)
    · have h := h.1 e
      refine x_iload (pc := 98) dX11_stop_98 rfl ?_
      refine x_iload_n (pc := 100) dX11_stop_100 rfl rfl ?_
      refine x_icmp_ne (pc := 101) (t := 107) dX11_stop_101 (by decide) (fun e => ?_) (fun e => ?_)
      · have h := h.1 e
        refine x_iload (pc := 104) dX11_stop_104 rfl ?_
        exact y_iret (pc := 106) dX11_stop_106 rfl ⟨Nat.le_refl _, Nat.le_refl _⟩ h
      · have h := h.2 e
        refine x_iload (pc := 107) dX11_stop_107 rfl ?_
        refine x_aload_n (pc := 109) dX11_stop_109 rfl rfl ?_
        refine x_getR (pc := 110) (i := r_obj) (a := r_far) fl_X11_205 dX11_stop_110 (sN_r_obj hS) (sT_r_obj hS) rfl (sR_r_obj_76 hS) ?_
        refine x_bipush (pc := 113) dX11_stop_113 (by decide) ?_
        refine x_iload (pc := 115) dX11_stop_115 rfl ?_
        refine x_imul (pc := 117) dX11_stop_117 ?_
        refine x_iload (pc := 118) dX11_stop_118 rfl ?_
        refine x_iadd (pc := 120) dX11_stop_120 ?_
        refine y_iald (pc := 121) (i := r_far) (n := 100) dX11_stop_121 (sN_r_far hS) (sT_r_far hS) (sL_r_far hS) h.1 ?_
        have h := h.2
        refine x_iadd (pc := 122) dX11_stop_122 ?_
        refine x_istore (pc := 123) (L' := [some (vr G r_obj), none, none, some (vi (v3)), some (vi (v4)), some (vi (v5)), some (vi ((v6) + (I r_far (ix (((10) * (v5)) + (v8)))))), some (vi (v7)), some (vi (v8))]) dX11_stop_123 (by decide) (xst1 rfl rfl rfl) ?_
        refine x_iload (pc := 125) dX11_stop_125 rfl ?_
        refine x_istore (pc := 127) (L' := [some (vr G r_obj), none, none, some (vi (v3)), some (vi (v4)), some (vi (v8)), some (vi ((v6) + (I r_far (ix (((10) * (v5)) + (v8)))))), some (vi (v7)), some (vi (v8))]) dX11_stop_127 (by decide) (xst1 rfl rfl rfl) ?_
        refine x_iload (pc := 129) dX11_stop_129 rfl ?_
        refine x_iconst (pc := 131) dX11_stop_131 ?_
        refine x_iload (pc := 132) dX11_stop_132 rfl ?_
        refine x_iconst (pc := 134) dX11_stop_134 ?_
        refine x_isub (pc := 135) dX11_stop_135 ?_
        refine x_ishl (pc := 136) dX11_stop_136 ?_
        refine x_ixor (pc := 137) dX11_stop_137 ?_
        refine x_istore (pc := 138) (L' := [some (vr G r_obj), none, none, some (vi (v3)), some (vi (ixor (v4) (ishl (1) ((v8) - (1))))), some (vi (v8)), some (vi ((v6) + (I r_far (ix (((10) * (v5)) + (v8)))))), some (vi (v7)), some (vi (v8))]) dX11_stop_138 (by decide) (xst1 rfl rfl rfl) ?_
        refine x_iinc (pc := 140) (L' := [some (vr G r_obj), none, none, some (vi (v3)), some (vi (ixor (v4) (ishl (1) ((v8) - (1))))), some (vi (v8)), some (vi ((v6) + (I r_far (ix (((10) * (v5)) + (v8)))))), some (vi (v7 + 1)), some (vi (v8))]) dX11_stop_140 rfl (by decide) (xst1 rfl rfl rfl) ?_
        refine x_goto (pc := 143) (t := 35) dX11_stop_143 (by decide) ?_
        refine x_less (L' := [some (vr G r_obj), none, none, some (vi (v3)), some (vi (ixor (v4) (ishl (1) ((v8) - (1))))), some (vi (v8)), some (vi ((v6) + (I r_far (ix (((10) * (v5)) + (v8)))))), some (vi (v7 + 1)), none]) (And.intro rfl (And.intro rfl (And.intro rfl (And.intro rfl (And.intro rfl (And.intro rfl trivial)))))) ?_
        exact h
    · have h := h.2 e
      refine x_iinc (pc := 92) (L' := [some (vr G r_obj), none, none, some (vi (v3)), some (vi (v4)), some (vi (v5)), some (vi (v6)), some (vi (v7)), some (vi (v8 + 1))]) dX11_stop_92 rfl (by decide) (xst1 rfl rfl rfl) ?_
      refine x_goto (pc := 95) (t := 43) dX11_stop_95 (by decide) ?_
      exact h
set_option maxHeartbeats 4000000 in
set_option maxRecDepth 100000 in
theorem b_R_tear {G : XG} {S : XS} {I : XI} {v1 : Int} {v2 : Int} {v3 : Int} {R : Int → XI → Prop} (hS : xSh S)  (h : (∀ I1 : XI, I1 = up I r_obj 0 (0) → ((w32 (I1 r_acts 0) = w32 (150) → R ((-1)) I1) ∧ (¬ (w32 (I1 r_acts 0) = w32 (150)) → R_isBook G S I1 (v1) (fun r3 I2 => ((w32 (r3) = 0 → R ((-1)) I2) ∧ (¬ (w32 (r3) = 0) → R_in G S I2 (v3) (0) (I2 r_now 0) (fun r5 I4 => ((w32 (r5) = 0 → R ((-1)) I4) ∧ (¬ (w32 (r5) = 0) → ((w32 (1) ≤ w32 (v2) → R_whoHas G S I4 (v1) (v3) (I4 r_now 0) (fun r7 I6 => ((w32 (r7) = w32 ((-1)) → R ((-1)) I6) ∧ (¬ (w32 (r7) = w32 ((-1))) → (inb (v1) 96 ∧ R_torn G S I6 (v1) ((-1)) (100) (I6 r_now 0) (0) (fun r9 I8 => ((w32 (v2) ≤ w32 ((I6 r_bookPages (ix (v1))) - (r9)) → R_look G S I8 (r7) (v1) (v3) (I8 r_now 0) (fun I10 => R_numberOf G S I10 (2) (0) (fun r12 I11 => R_tellAct G S I11 (v1) (3) (r7) (v3) (v2) (r12) (fun r14 I13 => R (r14) I13)))) ∧ (¬ (w32 (v2) ≤ w32 ((I6 r_bookPages (ix (v1))) - (r9))) → R ((-1)) I8)))))))) ∧ (¬ (w32 (1) ≤ w32 (v2)) → R ((-1)) I4)))))))))))) : R_tear G S I v1 v2 v3 R := by
  refine x_start [some (vr G r_obj), some (vi (v1)), some (vi (v2)), some (vi (v3)), none] (by decide) (Nat.le_of_ble_eq_true rfl) rfl ?_
  refine x_aload_n (pc := 0) dX11_tear_0 rfl rfl ?_
  refine x_iconst (pc := 1) dX11_tear_1 ?_
  refine x_putI (pc := 2) (i := r_obj) fl_X11_220 dX11_tear_2 (sN_r_obj hS) (sT_r_obj hS) rfl ?_
  have h := h _ rfl
  generalize up I r_obj 0 (0) = I1 at h ⊢
  refine x_aload_n (pc := 5) dX11_tear_5 rfl rfl ?_
  refine x_getR (pc := 6) (i := r_obj) (a := r_acts) fl_X11_105 dX11_tear_6 (sN_r_obj hS) (sT_r_obj hS) rfl (sR_r_obj_32 hS) ?_
  refine x_iconst (pc := 9) dX11_tear_9 ?_
  refine y_iald (pc := 10) (i := r_acts) (n := 4) dX11_tear_10 (sN_r_acts hS) (sT_r_acts hS) (sL_r_acts hS) (inb_nat (k := 0) (by decide) (by decide)) ?_
  rw [show ix 0 = 0 from rfl]
  refine x_sipush (pc := 11) dX11_tear_11 (by decide) ?_
  refine x_icmp_eq (pc := 14) (t := 44) dX11_tear_14 (by decide) (fun e => ?_) (fun e => ?_)
  · have h := h.1 e
    refine x_iconst (pc := 44) dX11_tear_44 ?_
    exact y_iret (pc := 45) dX11_tear_45 rfl ⟨Nat.le_refl _, Nat.le_refl _⟩ h
  · have h := h.2 e
    refine x_aload_n (pc := 17) dX11_tear_17 rfl rfl ?_
    refine x_iload_n (pc := 18) dX11_tear_18 rfl rfl ?_
    refine y_Vi (pc := 19) (i := r_obj) (As := [vi (v1)]) (rest := []) ok_X11_isBook ml_X11_317 dX11_tear_19 (sN_r_obj hS) (sT_r_obj hS) (by decide) rfl rfl rfl ⟨rfl, rfl⟩ ⟨by decide, by decide⟩ ⟨Nat.le_refl _, Nat.le_refl _⟩ (Nat.le_of_ble_eq_true rfl) rfl h (fun r3 I2 h => ?_)
    refine x_if_eq (pc := 22) (t := 44) dX11_tear_22 (by decide) (fun e => ?_) (fun e => ?_)
    · have h := h.1 e
      refine x_iconst (pc := 44) dX11_tear_44 ?_
      exact y_iret (pc := 45) dX11_tear_45 rfl ⟨Nat.le_refl _, Nat.le_refl _⟩ h
    · have h := h.2 e
      refine x_iload_n (pc := 25) dX11_tear_25 rfl rfl ?_
      refine x_iconst (pc := 26) dX11_tear_26 ?_
      refine x_aload_n (pc := 27) dX11_tear_27 rfl rfl ?_
      refine x_getR (pc := 28) (i := r_obj) (a := r_now) fl_X11_23 dX11_tear_28 (sN_r_obj hS) (sT_r_obj hS) rfl (sR_r_obj_5 hS) ?_
      refine x_iconst (pc := 31) dX11_tear_31 ?_
      refine y_iald (pc := 32) (i := r_now) (n := 4) dX11_tear_32 (sN_r_now hS) (sT_r_now hS) (sL_r_now hS) (inb_nat (k := 0) (by decide) (by decide)) ?_
      rw [show ix 0 = 0 from rfl]
      refine y_Si (pc := 33) (As := [vi (v3), vi (0), vi (I2 r_now 0)]) (rest := []) ok_X11_in ml_X11_232 dX11_tear_33 rfl ⟨rfl, rfl⟩ ⟨by decide, by decide⟩ ⟨Nat.le_refl _, Nat.le_refl _⟩ (Nat.le_of_ble_eq_true rfl) rfl h (fun r5 I4 h => ?_)
      refine x_if_eq (pc := 36) (t := 44) dX11_tear_36 (by decide) (fun e => ?_) (fun e => ?_)
      · have h := h.1 e
        refine x_iconst (pc := 44) dX11_tear_44 ?_
        exact y_iret (pc := 45) dX11_tear_45 rfl ⟨Nat.le_refl _, Nat.le_refl _⟩ h
      · have h := h.2 e
        refine x_iload_n (pc := 39) dX11_tear_39 rfl rfl ?_
        refine x_iconst (pc := 40) dX11_tear_40 ?_
        refine x_icmp_ge (pc := 41) (t := 46) dX11_tear_41 (by decide) (fun e => ?_) (fun e => ?_)
        · have h := h.1 e
          refine x_aload_n (pc := 46) dX11_tear_46 rfl rfl ?_
          refine x_iload_n (pc := 47) dX11_tear_47 rfl rfl ?_
          refine x_iload_n (pc := 48) dX11_tear_48 rfl rfl ?_
          refine x_aload_n (pc := 49) dX11_tear_49 rfl rfl ?_
          refine x_getR (pc := 50) (i := r_obj) (a := r_now) fl_X11_23 dX11_tear_50 (sN_r_obj hS) (sT_r_obj hS) rfl (sR_r_obj_5 hS) ?_
          refine x_iconst (pc := 53) dX11_tear_53 ?_
          refine y_iald (pc := 54) (i := r_now) (n := 4) dX11_tear_54 (sN_r_now hS) (sT_r_now hS) (sL_r_now hS) (inb_nat (k := 0) (by decide) (by decide)) ?_
          rw [show ix 0 = 0 from rfl]
          refine y_Vi (pc := 55) (i := r_obj) (As := [vi (v1), vi (v3), vi (I4 r_now 0)]) (rest := []) ok_X11_whoHas ml_X11_297 dX11_tear_55 (sN_r_obj hS) (sT_r_obj hS) (by decide) rfl rfl rfl ⟨rfl, rfl⟩ ⟨by decide, by decide⟩ ⟨Nat.le_refl _, Nat.le_refl _⟩ (Nat.le_of_ble_eq_true rfl) rfl h (fun r7 I6 h => ?_)
          refine x_istore (pc := 58) (L' := [some (vr G r_obj), some (vi (v1)), some (vi (v2)), some (vi (v3)), some (vi (r7))]) dX11_tear_58 (by decide) (xst1 rfl rfl rfl) ?_
          refine x_iload (pc := 60) dX11_tear_60 rfl ?_
          refine x_iconst (pc := 62) dX11_tear_62 ?_
          refine x_icmp_eq (pc := 63) (t := 92) dX11_tear_63 (by decide) (fun e => ?_) (fun e => ?_)
          · have h := h.1 e
            refine x_iconst (pc := 92) dX11_tear_92 ?_
            exact y_iret (pc := 93) dX11_tear_93 rfl ⟨Nat.le_refl _, Nat.le_refl _⟩ h
          · have h := h.2 e
            refine x_iload_n (pc := 66) dX11_tear_66 rfl rfl ?_
            refine x_aload_n (pc := 67) dX11_tear_67 rfl rfl ?_
            refine x_getR (pc := 68) (i := r_obj) (a := r_bookPages) fl_X11_99 dX11_tear_68 (sN_r_obj hS) (sT_r_obj hS) rfl (sR_r_obj_30 hS) ?_
            refine x_iload_n (pc := 71) dX11_tear_71 rfl rfl ?_
            refine y_iald (pc := 72) (i := r_bookPages) (n := 96) dX11_tear_72 (sN_r_bookPages hS) (sT_r_bookPages hS) (sL_r_bookPages hS) h.1 ?_
            have h := h.2
            refine x_aload_n (pc := 73) dX11_tear_73 rfl rfl ?_
            refine x_iload_n (pc := 74) dX11_tear_74 rfl rfl ?_
            refine x_iconst (pc := 75) dX11_tear_75 ?_
            refine x_bipush (pc := 76) dX11_tear_76 (by decide) ?_
            refine x_aload_n (pc := 78) dX11_tear_78 rfl rfl ?_
            refine x_getR (pc := 79) (i := r_obj) (a := r_now) fl_X11_23 dX11_tear_79 (sN_r_obj hS) (sT_r_obj hS) rfl (sR_r_obj_5 hS) ?_
            refine x_iconst (pc := 82) dX11_tear_82 ?_
            refine y_iald (pc := 83) (i := r_now) (n := 4) dX11_tear_83 (sN_r_now hS) (sT_r_now hS) (sL_r_now hS) (inb_nat (k := 0) (by decide) (by decide)) ?_
            rw [show ix 0 = 0 from rfl]
            refine x_iconst (pc := 84) dX11_tear_84 ?_
            refine y_Vi (pc := 85) (i := r_obj) (As := [vi (v1), vi ((-1)), vi (100), vi (I6 r_now 0), vi (0)]) (rest := [vi (I6 r_bookPages (ix (v1))), vi (v2)]) ok_X11_torn ml_X11_309 dX11_tear_85 (sN_r_obj hS) (sT_r_obj hS) (by decide) rfl rfl rfl ⟨rfl, rfl⟩ ⟨by decide, by decide⟩ ⟨Nat.le_refl _, Nat.le_refl _⟩ (Nat.le_of_ble_eq_true rfl) rfl h (fun r9 I8 h => ?_)
            refine x_isub (pc := 88) dX11_tear_88 ?_
            refine x_icmp_le (pc := 89) (t := 94) dX11_tear_89 (by decide) (fun e => ?_) (fun e => ?_)
            · have h := h.1 e
              refine x_aload_n (pc := 94) dX11_tear_94 rfl rfl ?_
              refine x_iload (pc := 95) dX11_tear_95 rfl ?_
              refine x_iload_n (pc := 97) dX11_tear_97 rfl rfl ?_
              refine x_iload_n (pc := 98) dX11_tear_98 rfl rfl ?_
              refine x_aload_n (pc := 99) dX11_tear_99 rfl rfl ?_
              refine x_getR (pc := 100) (i := r_obj) (a := r_now) fl_X11_23 dX11_tear_100 (sN_r_obj hS) (sT_r_obj hS) rfl (sR_r_obj_5 hS) ?_
              refine x_iconst (pc := 103) dX11_tear_103 ?_
              refine y_iald (pc := 104) (i := r_now) (n := 4) dX11_tear_104 (sN_r_now hS) (sT_r_now hS) (sL_r_now hS) (inb_nat (k := 0) (by decide) (by decide)) ?_
              rw [show ix 0 = 0 from rfl]
              refine y_Vv (pc := 105) (i := r_obj) (As := [vi (r7), vi (v1), vi (v3), vi (I8 r_now 0)]) (rest := []) ok_X11_look ml_X11_320 dX11_tear_105 (sN_r_obj hS) (sT_r_obj hS) (by decide) rfl rfl rfl ⟨rfl, rfl⟩ ⟨by decide, by decide⟩ ⟨Nat.le_refl _, Nat.le_refl _⟩ (Nat.le_of_ble_eq_true rfl) rfl h (fun I10 h => ?_)
              refine x_aload_n (pc := 108) dX11_tear_108 rfl rfl ?_
              refine x_iload_n (pc := 109) dX11_tear_109 rfl rfl ?_
              refine x_iconst (pc := 110) dX11_tear_110 ?_
              refine x_iload (pc := 111) dX11_tear_111 rfl ?_
              refine x_iload_n (pc := 113) dX11_tear_113 rfl rfl ?_
              refine x_iload_n (pc := 114) dX11_tear_114 rfl rfl ?_
              refine x_aload_n (pc := 115) dX11_tear_115 rfl rfl ?_
              refine x_iconst (pc := 116) dX11_tear_116 ?_
              refine x_iconst (pc := 117) dX11_tear_117 ?_
              refine y_Vi (pc := 118) (i := r_obj) (As := [vi (2), vi (0)]) (rest := [vi (v2), vi (v3), vi (r7), vi (3), vi (v1), vr G r_obj]) ok_X11_numberOf ml_X11_324 dX11_tear_118 (sN_r_obj hS) (sT_r_obj hS) (by decide) rfl rfl rfl ⟨rfl, rfl⟩ ⟨by decide, by decide⟩ ⟨Nat.le_refl _, Nat.le_refl _⟩ (Nat.le_of_ble_eq_true rfl) rfl h (fun r12 I11 h => ?_)
              refine y_Vi (pc := 121) (i := r_obj) (As := [vi (v1), vi (3), vi (r7), vi (v3), vi (v2), vi (r12)]) (rest := []) ok_X11_tellAct ml_X11_328 dX11_tear_121 (sN_r_obj hS) (sT_r_obj hS) (by decide) rfl rfl rfl ⟨rfl, rfl⟩ ⟨by decide, by decide⟩ ⟨Nat.le_refl _, Nat.le_refl _⟩ (Nat.le_of_ble_eq_true rfl) rfl h (fun r14 I13 h => ?_)
              exact y_iret (pc := 124) dX11_tear_124 rfl ⟨Nat.le_refl _, Nat.le_refl _⟩ h
            · have h := h.2 e
              refine x_iconst (pc := 92) dX11_tear_92 ?_
              exact y_iret (pc := 93) dX11_tear_93 rfl ⟨Nat.le_refl _, Nat.le_refl _⟩ h
        · have h := h.2 e
          refine x_iconst (pc := 44) dX11_tear_44 ?_
          exact y_iret (pc := 45) dX11_tear_45 rfl ⟨Nat.le_refl _, Nat.le_refl _⟩ h
set_option maxHeartbeats 4000000 in
set_option maxRecDepth 100000 in
theorem b_R_tellAct {G : XG} {S : XS} {I : XI} {v1 : Int} {v2 : Int} {v3 : Int} {v4 : Int} {v5 : Int} {v6 : Int} {R : Int → XI → Prop} (hS : xSh S)  (h : (∀ I1 : XI, I1 = up I r_acts 0 ((I r_acts 0) + (1)) → (inb (I r_acts 0) 600 ∧ (∀ I2 : XI, I2 = up I1 r_actBook (ix (I r_acts 0)) (v1) → (inb (I r_acts 0) 600 ∧ (∀ I3 : XI, I3 = up I2 r_actKind (ix (I r_acts 0)) (v2) → (inb (I r_acts 0) 600 ∧ (∀ I4 : XI, I4 = up I3 r_actCamp (ix (I r_acts 0)) (v3) → (inb (I r_acts 0) 600 ∧ (∀ I5 : XI, I5 = up I4 r_actWeek (ix (I r_acts 0)) (v4) → (inb (I r_acts 0) 600 ∧ (∀ I6 : XI, I6 = up I5 r_actTold (ix (I r_acts 0)) (I5 r_now 0) → (inb (I r_acts 0) 600 ∧ (∀ I7 : XI, I7 = up I6 r_actMany (ix (I r_acts 0)) (v5) → (inb (I r_acts 0) 600 ∧ (∀ I8 : XI, I8 = up I7 r_actCost (ix (I r_acts 0)) (v6) → R (I r_acts 0) I8)))))))))))))))) : R_tellAct G S I v1 v2 v3 v4 v5 v6 R := by
  refine x_start [some (vr G r_obj), some (vi (v1)), some (vi (v2)), some (vi (v3)), some (vi (v4)), some (vi (v5)), some (vi (v6)), none] (by decide) (Nat.le_of_ble_eq_true rfl) rfl ?_
  refine x_aload_n (pc := 0) dX11_tellAct_0 rfl rfl ?_
  refine x_getR (pc := 1) (i := r_obj) (a := r_acts) fl_X11_105 dX11_tellAct_1 (sN_r_obj hS) (sT_r_obj hS) rfl (sR_r_obj_32 hS) ?_
  refine x_iconst (pc := 4) dX11_tellAct_4 ?_
  refine y_iald (pc := 5) (i := r_acts) (n := 4) dX11_tellAct_5 (sN_r_acts hS) (sT_r_acts hS) (sL_r_acts hS) (inb_nat (k := 0) (by decide) (by decide)) ?_
  rw [show ix 0 = 0 from rfl]
  refine x_istore (pc := 6) (L' := [some (vr G r_obj), some (vi (v1)), some (vi (v2)), some (vi (v3)), some (vi (v4)), some (vi (v5)), some (vi (v6)), some (vi (I r_acts 0))]) dX11_tellAct_6 (by decide) (xst1 rfl rfl rfl) ?_
  refine x_aload_n (pc := 8) dX11_tellAct_8 rfl rfl ?_
  refine x_getR (pc := 9) (i := r_obj) (a := r_acts) fl_X11_105 dX11_tellAct_9 (sN_r_obj hS) (sT_r_obj hS) rfl (sR_r_obj_32 hS) ?_
  refine x_iconst (pc := 12) dX11_tellAct_12 ?_
  refine x_dup2 (pc := 13) dX11_tellAct_13 rfl rfl ?_
  refine y_iald (pc := 14) (i := r_acts) (n := 4) dX11_tellAct_14 (sN_r_acts hS) (sT_r_acts hS) (sL_r_acts hS) (inb_nat (k := 0) (by decide) (by decide)) ?_
  rw [show ix 0 = 0 from rfl]
  refine x_iconst (pc := 15) dX11_tellAct_15 ?_
  refine x_iadd (pc := 16) dX11_tellAct_16 ?_
  refine y_iast (pc := 17) (i := r_acts) (n := 4) dX11_tellAct_17 (sN_r_acts hS) (sT_r_acts hS) (sL_r_acts hS) (inb_nat (k := 0) (by decide) (by decide)) ?_
  rw [show ix 0 = 0 from rfl]
  have h := h _ rfl
  generalize up I r_acts 0 ((I r_acts 0) + (1)) = I1 at h ⊢
  refine x_aload_n (pc := 18) dX11_tellAct_18 rfl rfl ?_
  refine x_getR (pc := 19) (i := r_obj) (a := r_actBook) fl_X11_108 dX11_tellAct_19 (sN_r_obj hS) (sT_r_obj hS) rfl (sR_r_obj_33 hS) ?_
  refine x_iload (pc := 22) dX11_tellAct_22 rfl ?_
  refine x_iload_n (pc := 24) dX11_tellAct_24 rfl rfl ?_
  refine y_iast (pc := 25) (i := r_actBook) (n := 600) dX11_tellAct_25 (sN_r_actBook hS) (sT_r_actBook hS) (sL_r_actBook hS) h.1 ?_
  have h := h.2
  have h := h _ rfl
  generalize up I1 r_actBook (ix (I r_acts 0)) (v1) = I2 at h ⊢
  refine x_aload_n (pc := 26) dX11_tellAct_26 rfl rfl ?_
  refine x_getR (pc := 27) (i := r_obj) (a := r_actKind) fl_X11_111 dX11_tellAct_27 (sN_r_obj hS) (sT_r_obj hS) rfl (sR_r_obj_34 hS) ?_
  refine x_iload (pc := 30) dX11_tellAct_30 rfl ?_
  refine x_iload_n (pc := 32) dX11_tellAct_32 rfl rfl ?_
  refine y_iast (pc := 33) (i := r_actKind) (n := 600) dX11_tellAct_33 (sN_r_actKind hS) (sT_r_actKind hS) (sL_r_actKind hS) h.1 ?_
  have h := h.2
  have h := h _ rfl
  generalize up I2 r_actKind (ix (I r_acts 0)) (v2) = I3 at h ⊢
  refine x_aload_n (pc := 34) dX11_tellAct_34 rfl rfl ?_
  refine x_getR (pc := 35) (i := r_obj) (a := r_actCamp) fl_X11_114 dX11_tellAct_35 (sN_r_obj hS) (sT_r_obj hS) rfl (sR_r_obj_35 hS) ?_
  refine x_iload (pc := 38) dX11_tellAct_38 rfl ?_
  refine x_iload_n (pc := 40) dX11_tellAct_40 rfl rfl ?_
  refine y_iast (pc := 41) (i := r_actCamp) (n := 600) dX11_tellAct_41 (sN_r_actCamp hS) (sT_r_actCamp hS) (sL_r_actCamp hS) h.1 ?_
  have h := h.2
  have h := h _ rfl
  generalize up I3 r_actCamp (ix (I r_acts 0)) (v3) = I4 at h ⊢
  refine x_aload_n (pc := 42) dX11_tellAct_42 rfl rfl ?_
  refine x_getR (pc := 43) (i := r_obj) (a := r_actWeek) fl_X11_117 dX11_tellAct_43 (sN_r_obj hS) (sT_r_obj hS) rfl (sR_r_obj_36 hS) ?_
  refine x_iload (pc := 46) dX11_tellAct_46 rfl ?_
  refine x_iload (pc := 48) dX11_tellAct_48 rfl ?_
  refine y_iast (pc := 50) (i := r_actWeek) (n := 600) dX11_tellAct_50 (sN_r_actWeek hS) (sT_r_actWeek hS) (sL_r_actWeek hS) h.1 ?_
  have h := h.2
  have h := h _ rfl
  generalize up I4 r_actWeek (ix (I r_acts 0)) (v4) = I5 at h ⊢
  refine x_aload_n (pc := 51) dX11_tellAct_51 rfl rfl ?_
  refine x_getR (pc := 52) (i := r_obj) (a := r_actTold) fl_X11_120 dX11_tellAct_52 (sN_r_obj hS) (sT_r_obj hS) rfl (sR_r_obj_37 hS) ?_
  refine x_iload (pc := 55) dX11_tellAct_55 rfl ?_
  refine x_aload_n (pc := 57) dX11_tellAct_57 rfl rfl ?_
  refine x_getR (pc := 58) (i := r_obj) (a := r_now) fl_X11_23 dX11_tellAct_58 (sN_r_obj hS) (sT_r_obj hS) rfl (sR_r_obj_5 hS) ?_
  refine x_iconst (pc := 61) dX11_tellAct_61 ?_
  refine y_iald (pc := 62) (i := r_now) (n := 4) dX11_tellAct_62 (sN_r_now hS) (sT_r_now hS) (sL_r_now hS) (inb_nat (k := 0) (by decide) (by decide)) ?_
  rw [show ix 0 = 0 from rfl]
  refine y_iast (pc := 63) (i := r_actTold) (n := 600) dX11_tellAct_63 (sN_r_actTold hS) (sT_r_actTold hS) (sL_r_actTold hS) h.1 ?_
  have h := h.2
  have h := h _ rfl
  generalize up I5 r_actTold (ix (I r_acts 0)) (I5 r_now 0) = I6 at h ⊢
  refine x_aload_n (pc := 64) dX11_tellAct_64 rfl rfl ?_
  refine x_getR (pc := 65) (i := r_obj) (a := r_actMany) fl_X11_123 dX11_tellAct_65 (sN_r_obj hS) (sT_r_obj hS) rfl (sR_r_obj_38 hS) ?_
  refine x_iload (pc := 68) dX11_tellAct_68 rfl ?_
  refine x_iload (pc := 70) dX11_tellAct_70 rfl ?_
  refine y_iast (pc := 72) (i := r_actMany) (n := 600) dX11_tellAct_72 (sN_r_actMany hS) (sT_r_actMany hS) (sL_r_actMany hS) h.1 ?_
  have h := h.2
  have h := h _ rfl
  generalize up I6 r_actMany (ix (I r_acts 0)) (v5) = I7 at h ⊢
  refine x_aload_n (pc := 73) dX11_tellAct_73 rfl rfl ?_
  refine x_getR (pc := 74) (i := r_obj) (a := r_actCost) fl_X11_126 dX11_tellAct_74 (sN_r_obj hS) (sT_r_obj hS) rfl (sR_r_obj_39 hS) ?_
  refine x_iload (pc := 77) dX11_tellAct_77 rfl ?_
  refine x_iload (pc := 79) dX11_tellAct_79 rfl ?_
  refine y_iast (pc := 81) (i := r_actCost) (n := 600) dX11_tellAct_81 (sN_r_actCost hS) (sT_r_actCost hS) (sL_r_actCost hS) h.1 ?_
  have h := h.2
  have h := h _ rfl
  generalize up I7 r_actCost (ix (I r_acts 0)) (v6) = I8 at h ⊢
  refine x_iload (pc := 82) dX11_tellAct_82 rfl ?_
  exact y_iret (pc := 84) dX11_tellAct_84 rfl ⟨Nat.le_refl _, Nat.le_refl _⟩ h
set_option maxHeartbeats 4000000 in
set_option maxRecDepth 100000 in
theorem b_R_token {G : XG} {S : XS} {I : XI}  {R : XI → Prop} (hS : xSh S)  (h : R_token_k0 G S I  R) : R_token G S I  R := by
  refine x_start [some (vr G r_obj), none, none] (by decide) (Nat.le_of_ble_eq_true rfl) rfl ?_
  exact h
set_option maxHeartbeats 4000000 in
set_option maxRecDepth 100000 in
theorem b_R_token_k0 {G : XG} {S : XS}  {I : XI}  {R : XI → Prop} (hS : xSh S)  (h : R_see G S I (fun r2 I1 => ((w32 (r2) = w32 (10) → (∀ I3 : XI, I3 = up I1 r_obj 59 ((I1 r_obj 59) + (1)) → R_token_k0 G S I3  R)) ∧ (¬ (w32 (r2) = w32 (10)) → R_see G S I1 (fun r5 I4 => ((w32 (r5) = w32 (32) → (∀ I6 : XI, I6 = up I4 r_obj 59 ((I4 r_obj 59) + (1)) → R_token_k0 G S I6  R)) ∧ (¬ (w32 (r5) = w32 (32)) → (∀ I7 : XI, I7 = up I4 r_obj 61 (I4 r_obj 59) → R_see G S I7 (fun r9 I8 => (∀ I10 : XI, I10 = up I8 r_obj 63 (r9) → (∀ I11 : XI, I11 = up I10 r_obj 64 (0) → ((0 ≤ w32 (r9) → R_in G S I11 (r9) (97) (122) (fun r13 I12 => ((w32 (r13) = 0 → R_in G S I12 (r9) (48) (57) (fun r15 I14 => ((w32 (r15) = 0 → (∀ I16 : XI, I16 = up I14 r_obj 59 ((I14 r_obj 59) + (1)) → ((w32 (r9) = w32 (58) → (∀ I17 : XI, I17 = up I16 r_obj 62 (4) → R I17)) ∧ (¬ (w32 (r9) = w32 (58)) → ((w32 (r9) = w32 (59) → (∀ I18 : XI, I18 = up I16 r_obj 62 (4) → R I18)) ∧ (¬ (w32 (r9) = w32 (59)) → ((w32 (r9) = w32 (60) → (∀ I19 : XI, I19 = up I16 r_obj 62 (4) → R I19)) ∧ (¬ (w32 (r9) = w32 (60)) → ((w32 (r9) = w32 (62) → (∀ I20 : XI, I20 = up I16 r_obj 62 (4) → R I20)) ∧ (¬ (w32 (r9) = w32 (62)) → ((w32 (r9) = w32 (61) → (∀ I21 : XI, I21 = up I16 r_obj 62 (4) → R I21)) ∧ (¬ (w32 (r9) = w32 (61)) → (∀ I22 : XI, I22 = up I16 r_obj 62 (1) → R I22))))))))))))) ∧ (¬ (w32 (r15) = 0) → (∀ I23 : XI, I23 = up I14 r_obj 63 (0) → R_token_k168 G S I23 (0) R))))) ∧ (¬ (w32 (r13) = 0) → R_token_k79 G S I12 (0) R)))) ∧ (¬ (0 ≤ w32 (r9)) → (∀ I24 : XI, I24 = up I11 r_obj 62 (0) → R I24)))))))))))))) : R_token_k0 G S  I  R := by
  unfold R_token_k0
  refine x_aload_n (pc := 0) dX11_token_0 rfl rfl ?_
  refine y_Vi (pc := 1) (i := r_obj) (As := []) (rest := []) ok_X11_see ml_X11_344 dX11_token_1 (sN_r_obj hS) (sT_r_obj hS) (by decide) rfl rfl rfl ⟨rfl, rfl⟩ ⟨by decide, by decide⟩ ⟨Nat.le_refl _, Nat.le_refl _⟩ (Nat.le_of_ble_eq_true rfl) rfl h (fun r2 I1 h => ?_)
  refine x_bipush (pc := 4) dX11_token_4 (by decide) ?_
  refine x_icmp_eq (pc := 6) (t := 18) dX11_token_6 (by decide) (fun e => ?_) (fun e => ?_)
  · have h := h.1 e
    refine x_aload_n (pc := 18) dX11_token_18 rfl rfl ?_
    refine x_dup (pc := 19) dX11_token_19 rfl ?_
    refine x_getI (pc := 20) (i := r_obj) fl_X11_338 dX11_token_20 (sN_r_obj hS) (sT_r_obj hS) rfl ?_
    refine x_iconst (pc := 23) dX11_token_23 ?_
    refine x_iadd (pc := 24) dX11_token_24 ?_
    refine x_putI (pc := 25) (i := r_obj) fl_X11_338 dX11_token_25 (sN_r_obj hS) (sT_r_obj hS) rfl ?_
    have h := h _ rfl
    generalize up I1 r_obj 59 ((I1 r_obj 59) + (1)) = I3 at h ⊢
    refine x_goto (pc := 28) (t := 0) dX11_token_28 (by decide) ?_
    exact h
  · have h := h.2 e
    refine x_aload_n (pc := 9) dX11_token_9 rfl rfl ?_
    refine y_Vi (pc := 10) (i := r_obj) (As := []) (rest := []) ok_X11_see ml_X11_344 dX11_token_10 (sN_r_obj hS) (sT_r_obj hS) (by decide) rfl rfl rfl ⟨rfl, rfl⟩ ⟨by decide, by decide⟩ ⟨Nat.le_refl _, Nat.le_refl _⟩ (Nat.le_of_ble_eq_true rfl) rfl h (fun r5 I4 h => ?_)
    refine x_bipush (pc := 13) dX11_token_13 (by decide) ?_
    refine x_icmp_ne (pc := 15) (t := 31) dX11_token_15 (by decide) (fun e => ?_) (fun e => ?_)
    · have h := h.1 e
      refine x_aload_n (pc := 18) dX11_token_18 rfl rfl ?_
      refine x_dup (pc := 19) dX11_token_19 rfl ?_
      refine x_getI (pc := 20) (i := r_obj) fl_X11_338 dX11_token_20 (sN_r_obj hS) (sT_r_obj hS) rfl ?_
      refine x_iconst (pc := 23) dX11_token_23 ?_
      refine x_iadd (pc := 24) dX11_token_24 ?_
      refine x_putI (pc := 25) (i := r_obj) fl_X11_338 dX11_token_25 (sN_r_obj hS) (sT_r_obj hS) rfl ?_
      have h := h _ rfl
      generalize up I4 r_obj 59 ((I4 r_obj 59) + (1)) = I6 at h ⊢
      refine x_goto (pc := 28) (t := 0) dX11_token_28 (by decide) ?_
      exact h
    · have h := h.2 e
      refine x_aload_n (pc := 31) dX11_token_31 rfl rfl ?_
      refine x_aload_n (pc := 32) dX11_token_32 rfl rfl ?_
      refine x_getI (pc := 33) (i := r_obj) fl_X11_338 dX11_token_33 (sN_r_obj hS) (sT_r_obj hS) rfl ?_
      refine x_putI (pc := 36) (i := r_obj) fl_X11_347 dX11_token_36 (sN_r_obj hS) (sT_r_obj hS) rfl ?_
      have h := h _ rfl
      generalize up I4 r_obj 61 (I4 r_obj 59) = I7 at h ⊢
      refine x_aload_n (pc := 39) dX11_token_39 rfl rfl ?_
      refine y_Vi (pc := 40) (i := r_obj) (As := []) (rest := []) ok_X11_see ml_X11_344 dX11_token_40 (sN_r_obj hS) (sT_r_obj hS) (by decide) rfl rfl rfl ⟨rfl, rfl⟩ ⟨by decide, by decide⟩ ⟨Nat.le_refl _, Nat.le_refl _⟩ (Nat.le_of_ble_eq_true rfl) rfl h (fun r9 I8 h => ?_)
      refine x_istore_n (pc := 43) (L' := [some (vr G r_obj), some (vi (r9)), none]) dX11_token_43 rfl (by decide) (xst1 rfl rfl rfl) ?_
      refine x_aload_n (pc := 44) dX11_token_44 rfl rfl ?_
      refine x_iload_n (pc := 45) dX11_token_45 rfl rfl ?_
      refine x_putI (pc := 46) (i := r_obj) fl_X11_350 dX11_token_46 (sN_r_obj hS) (sT_r_obj hS) rfl ?_
      have h := h _ rfl
      generalize up I8 r_obj 63 (r9) = I10 at h ⊢
      refine x_aload_n (pc := 49) dX11_token_49 rfl rfl ?_
      refine x_lconst (pc := 50) (z := 0) dX11_token_50 (by decide) ?_
      refine x_putL (pc := 51) (i := r_obj) fl_X11_353 dX11_token_51 (sN_r_obj hS) (sT_r_obj hS) rfl ?_
      have h := h _ rfl
      generalize up I10 r_obj 64 (0) = I11 at h ⊢
      refine x_iconst (pc := 54) dX11_token_54 ?_
      refine x_istore_n (pc := 55) (L' := [some (vr G r_obj), some (vi (r9)), some (vi (0))]) dX11_token_55 rfl (by decide) (xst1 rfl rfl rfl) ?_
      refine x_iload_n (pc := 56) dX11_token_56 rfl rfl ?_
      refine x_if_ge (pc := 57) (t := 68) dX11_token_57 (by decide) (fun e => ?_) (fun e => ?_)
      · have h := h.1 e
        refine x_iload_n (pc := 68) dX11_token_68 rfl rfl ?_
        refine x_bipush (pc := 69) dX11_token_69 (by decide) ?_
        refine x_bipush (pc := 71) dX11_token_71 (by decide) ?_
        refine y_Si (pc := 73) (As := [vi (r9), vi (97), vi (122)]) (rest := []) ok_X11_in ml_X11_232 dX11_token_73 rfl ⟨rfl, rfl⟩ ⟨by decide, by decide⟩ ⟨Nat.le_refl _, Nat.le_refl _⟩ (Nat.le_of_ble_eq_true rfl) rfl h (fun r13 I12 h => ?_)
        refine x_if_eq (pc := 76) (t := 152) dX11_token_76 (by decide) (fun e => ?_) (fun e => ?_)
        · have h := h.1 e
          refine x_iload_n (pc := 152) dX11_token_152 rfl rfl ?_
          refine x_bipush (pc := 153) dX11_token_153 (by decide) ?_
          refine x_bipush (pc := 155) dX11_token_155 (by decide) ?_
          refine y_Si (pc := 157) (As := [vi (r9), vi (48), vi (57)]) (rest := []) ok_X11_in ml_X11_232 dX11_token_157 rfl ⟨rfl, rfl⟩ ⟨by decide, by decide⟩ ⟨Nat.le_refl _, Nat.le_refl _⟩ (Nat.le_of_ble_eq_true rfl) rfl h (fun r15 I14 h => ?_)
          refine x_if_eq (pc := 160) (t := 246) dX11_token_160 (by decide) (fun e => ?_) (fun e => ?_)
          · have h := h.1 e
            refine x_aload_n (pc := 246) dX11_token_246 rfl rfl ?_
            refine x_dup (pc := 247) dX11_token_247 rfl ?_
            refine x_getI (pc := 248) (i := r_obj) fl_X11_338 dX11_token_248 (sN_r_obj hS) (sT_r_obj hS) rfl ?_
            refine x_iconst (pc := 251) dX11_token_251 ?_
            refine x_iadd (pc := 252) dX11_token_252 ?_
            refine x_putI (pc := 253) (i := r_obj) fl_X11_338 dX11_token_253 (sN_r_obj hS) (sT_r_obj hS) rfl ?_
            have h := h _ rfl
            generalize up I14 r_obj 59 ((I14 r_obj 59) + (1)) = I16 at h ⊢
            refine x_aload_n (pc := 256) dX11_token_256 rfl rfl ?_
            refine x_iload_n (pc := 257) dX11_token_257 rfl rfl ?_
            refine x_bipush (pc := 258) dX11_token_258 (by decide) ?_
            refine x_icmp_eq (pc := 260) (t := 287) dX11_token_260 (by decide) (fun e => ?_) (fun e => ?_)
            · have h := h.1 e
              refine x_iconst (pc := 287) dX11_token_287 ?_
              refine x_goto (pc := 288) (t := 292) dX11_token_288 (by decide) ?_
              refine x_putI (pc := 292) (i := r_obj) fl_X11_357 dX11_token_292 (sN_r_obj hS) (sT_r_obj hS) rfl ?_
              have h := h _ rfl
              generalize up I16 r_obj 62 (4) = I17 at h ⊢
              exact y_vret (pc := 295) dX11_token_295 rfl ⟨Nat.le_refl _, Nat.le_refl _⟩ h
            · have h := h.2 e
              refine x_iload_n (pc := 263) dX11_token_263 rfl rfl ?_
              refine x_bipush (pc := 264) dX11_token_264 (by decide) ?_
              refine x_icmp_eq (pc := 266) (t := 287) dX11_token_266 (by decide) (fun e => ?_) (fun e => ?_)
              · have h := h.1 e
                refine x_iconst (pc := 287) dX11_token_287 ?_
                refine x_goto (pc := 288) (t := 292) dX11_token_288 (by decide) ?_
                refine x_putI (pc := 292) (i := r_obj) fl_X11_357 dX11_token_292 (sN_r_obj hS) (sT_r_obj hS) rfl ?_
                have h := h _ rfl
                generalize up I16 r_obj 62 (4) = I18 at h ⊢
                exact y_vret (pc := 295) dX11_token_295 rfl ⟨Nat.le_refl _, Nat.le_refl _⟩ h
              · have h := h.2 e
                refine x_iload_n (pc := 269) dX11_token_269 rfl rfl ?_
                refine x_bipush (pc := 270) dX11_token_270 (by decide) ?_
                refine x_icmp_eq (pc := 272) (t := 287) dX11_token_272 (by decide) (fun e => ?_) (fun e => ?_)
                · have h := h.1 e
                  refine x_iconst (pc := 287) dX11_token_287 ?_
                  refine x_goto (pc := 288) (t := 292) dX11_token_288 (by decide) ?_
                  refine x_putI (pc := 292) (i := r_obj) fl_X11_357 dX11_token_292 (sN_r_obj hS) (sT_r_obj hS) rfl ?_
                  have h := h _ rfl
                  generalize up I16 r_obj 62 (4) = I19 at h ⊢
                  exact y_vret (pc := 295) dX11_token_295 rfl ⟨Nat.le_refl _, Nat.le_refl _⟩ h
                · have h := h.2 e
                  refine x_iload_n (pc := 275) dX11_token_275 rfl rfl ?_
                  refine x_bipush (pc := 276) dX11_token_276 (by decide) ?_
                  refine x_icmp_eq (pc := 278) (t := 287) dX11_token_278 (by decide) (fun e => ?_) (fun e => ?_)
                  · have h := h.1 e
                    refine x_iconst (pc := 287) dX11_token_287 ?_
                    refine x_goto (pc := 288) (t := 292) dX11_token_288 (by decide) ?_
                    refine x_putI (pc := 292) (i := r_obj) fl_X11_357 dX11_token_292 (sN_r_obj hS) (sT_r_obj hS) rfl ?_
                    have h := h _ rfl
                    generalize up I16 r_obj 62 (4) = I20 at h ⊢
                    exact y_vret (pc := 295) dX11_token_295 rfl ⟨Nat.le_refl _, Nat.le_refl _⟩ h
                  · have h := h.2 e
                    refine x_iload_n (pc := 281) dX11_token_281 rfl rfl ?_
                    refine x_bipush (pc := 282) dX11_token_282 (by decide) ?_
                    refine x_icmp_ne (pc := 284) (t := 291) dX11_token_284 (by decide) (fun e => ?_) (fun e => ?_)
                    · have h := h.1 e
                      refine x_iconst (pc := 287) dX11_token_287 ?_
                      refine x_goto (pc := 288) (t := 292) dX11_token_288 (by decide) ?_
                      refine x_putI (pc := 292) (i := r_obj) fl_X11_357 dX11_token_292 (sN_r_obj hS) (sT_r_obj hS) rfl ?_
                      have h := h _ rfl
                      generalize up I16 r_obj 62 (4) = I21 at h ⊢
                      exact y_vret (pc := 295) dX11_token_295 rfl ⟨Nat.le_refl _, Nat.le_refl _⟩ h
                    · have h := h.2 e
                      refine x_iconst (pc := 291) dX11_token_291 ?_
                      refine x_putI (pc := 292) (i := r_obj) fl_X11_357 dX11_token_292 (sN_r_obj hS) (sT_r_obj hS) rfl ?_
                      have h := h _ rfl
                      generalize up I16 r_obj 62 (1) = I22 at h ⊢
                      exact y_vret (pc := 295) dX11_token_295 rfl ⟨Nat.le_refl _, Nat.le_refl _⟩ h
          · have h := h.2 e
            refine x_aload_n (pc := 163) dX11_token_163 rfl rfl ?_
            refine x_iconst (pc := 164) dX11_token_164 ?_
            refine x_putI (pc := 165) (i := r_obj) fl_X11_350 dX11_token_165 (sN_r_obj hS) (sT_r_obj hS) rfl ?_
            have h := h _ rfl
            generalize up I14 r_obj 63 (0) = I23 at h ⊢
            refine x_less (L' := [some (vr G r_obj), none, some (vi (0))]) (And.intro rfl (And.intro rfl trivial)) ?_
            exact h
        · have h := h.2 e
          refine x_less (L' := [some (vr G r_obj), none, some (vi (0))]) (And.intro rfl (And.intro rfl trivial)) ?_
          exact h
      · have h := h.2 e
        refine x_aload_n (pc := 60) dX11_token_60 rfl rfl ?_
        refine x_iconst (pc := 61) dX11_token_61 ?_
        refine x_putI (pc := 62) (i := r_obj) fl_X11_357 dX11_token_62 (sN_r_obj hS) (sT_r_obj hS) rfl ?_
        have h := h _ rfl
        generalize up I11 r_obj 62 (0) = I24 at h ⊢
        refine x_goto (pc := 65) (t := 295) dX11_token_65 (by decide) ?_
        exact y_vret (pc := 295) dX11_token_295 rfl ⟨Nat.le_refl _, Nat.le_refl _⟩ h
set_option maxHeartbeats 4000000 in
set_option maxRecDepth 100000 in
theorem b_R_token_k168 {G : XG} {S : XS}  {I : XI} {v2 : Int} {R : XI → Prop} (hS : xSh S)  (h : R_see G S I (fun r26 I25 => R_in G S I25 (r26) (48) (57) (fun r28 I27 => ((w32 (r28) = 0 → ((w32 (v2) ≤ w32 (4) → (∀ I29 : XI, I29 = up I27 r_obj 62 (3) → R I29)) ∧ (¬ (w32 (v2) ≤ w32 (4)) → (∀ I30 : XI, I30 = up I27 r_obj 62 (1) → R I30)))) ∧ (¬ (w32 (r28) = 0) → ((w32 (4) ≤ w32 (v2) → R_token_k210 G S I27 (v2) (I27 r_obj 63) R) ∧ (¬ (w32 (4) ≤ w32 (v2)) → R_see G S I27 (fun r32 I31 => R_token_k210 G S I31 (v2) ((((10) * (I27 r_obj 63)) + (r32)) - (48)) R)))))))) : R_token_k168 G S  I v2 R := by
  unfold R_token_k168
  refine x_aload_n (pc := 168) dX11_token_168 rfl rfl ?_
  refine y_Vi (pc := 169) (i := r_obj) (As := []) (rest := []) ok_X11_see ml_X11_344 dX11_token_169 (sN_r_obj hS) (sT_r_obj hS) (by decide) rfl rfl rfl ⟨rfl, rfl⟩ ⟨by decide, by decide⟩ ⟨Nat.le_refl _, Nat.le_refl _⟩ (Nat.le_of_ble_eq_true rfl) rfl h (fun r26 I25 h => ?_)
  refine x_bipush (pc := 172) dX11_token_172 (by decide) ?_
  refine x_bipush (pc := 174) dX11_token_174 (by decide) ?_
  refine y_Si (pc := 176) (As := [vi (r26), vi (48), vi (57)]) (rest := []) ok_X11_in ml_X11_232 dX11_token_176 rfl ⟨rfl, rfl⟩ ⟨by decide, by decide⟩ ⟨Nat.le_refl _, Nat.le_refl _⟩ (Nat.le_of_ble_eq_true rfl) rfl h (fun r28 I27 h => ?_)
  refine x_if_eq (pc := 179) (t := 229) dX11_token_179 (by decide) (fun e => ?_) (fun e => ?_)
  · have h := h.1 e
    refine x_aload_n (pc := 229) dX11_token_229 rfl rfl ?_
    refine x_iload_n (pc := 230) dX11_token_230 rfl rfl ?_
    refine x_iconst (pc := 231) dX11_token_231 ?_
    refine x_icmp_le (pc := 232) (t := 239) dX11_token_232 (by decide) (fun e => ?_) (fun e => ?_)
    · have h := h.1 e
      refine x_iconst (pc := 239) dX11_token_239 ?_
      refine x_putI (pc := 240) (i := r_obj) fl_X11_357 dX11_token_240 (sN_r_obj hS) (sT_r_obj hS) rfl ?_
      have h := h _ rfl
      generalize up I27 r_obj 62 (3) = I29 at h ⊢
      refine x_goto (pc := 243) (t := 295) dX11_token_243 (by decide) ?_
      exact y_vret (pc := 295) dX11_token_295 rfl ⟨Nat.le_refl _, Nat.le_refl _⟩ h
    · have h := h.2 e
      refine x_iconst (pc := 235) dX11_token_235 ?_
      refine x_goto (pc := 236) (t := 240) dX11_token_236 (by decide) ?_
      refine x_putI (pc := 240) (i := r_obj) fl_X11_357 dX11_token_240 (sN_r_obj hS) (sT_r_obj hS) rfl ?_
      have h := h _ rfl
      generalize up I27 r_obj 62 (1) = I30 at h ⊢
      refine x_goto (pc := 243) (t := 295) dX11_token_243 (by decide) ?_
      exact y_vret (pc := 295) dX11_token_295 rfl ⟨Nat.le_refl _, Nat.le_refl _⟩ h
  · have h := h.2 e
    refine x_aload_n (pc := 182) dX11_token_182 rfl rfl ?_
    refine x_iload_n (pc := 183) dX11_token_183 rfl rfl ?_
    refine x_iconst (pc := 184) dX11_token_184 ?_
    refine x_icmp_ge (pc := 185) (t := 206) dX11_token_185 (by decide) (fun e => ?_) (fun e => ?_)
    · have h := h.1 e
      refine x_aload_n (pc := 206) dX11_token_206 rfl rfl ?_
      refine x_getI (pc := 207) (i := r_obj) fl_X11_350 dX11_token_207 (sN_r_obj hS) (sT_r_obj hS) rfl ?_
      exact h
    · have h := h.2 e
      refine x_bipush (pc := 188) dX11_token_188 (by decide) ?_
      refine x_aload_n (pc := 190) dX11_token_190 rfl rfl ?_
      refine x_getI (pc := 191) (i := r_obj) fl_X11_350 dX11_token_191 (sN_r_obj hS) (sT_r_obj hS) rfl ?_
      refine x_imul (pc := 194) dX11_token_194 ?_
      refine x_aload_n (pc := 195) dX11_token_195 rfl rfl ?_
      refine y_Vi (pc := 196) (i := r_obj) (As := []) (rest := [vi ((10) * (I27 r_obj 63)), vr G r_obj]) ok_X11_see ml_X11_344 dX11_token_196 (sN_r_obj hS) (sT_r_obj hS) (by decide) rfl rfl rfl ⟨rfl, rfl⟩ ⟨by decide, by decide⟩ ⟨Nat.le_refl _, Nat.le_refl _⟩ (Nat.le_of_ble_eq_true rfl) rfl h (fun r32 I31 h => ?_)
      refine x_iadd (pc := 199) dX11_token_199 ?_
      refine x_bipush (pc := 200) dX11_token_200 (by decide) ?_
      refine x_isub (pc := 202) dX11_token_202 ?_
      refine x_goto (pc := 203) (t := 210) dX11_token_203 (by decide) ?_
      exact h
