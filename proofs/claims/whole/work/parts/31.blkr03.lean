set_option maxHeartbeats 4000000 in
set_option maxRecDepth 100000 in
theorem b_R_giver_k24 {G : XG} {S : XS}  {I : XI} {v1 : Int} {v2 : Int} {v3 : Int} {v4 : Int} {R : Int → XI → Prop} (hS : xSh S)  (h : ((w32 (8) ≤ w32 (v4) → R_readersOf G S I (v1) (fun r5 I4 => ((w32 (r5) = w32 (1) → R ((-3)) I4) ∧ (¬ (w32 (r5) = w32 (1)) → ((w32 (r5) = w32 (2) → R ((-3)) I4) ∧ (¬ (w32 (r5) = w32 (2)) → ((w32 (v2) = w32 (1) → ((w32 (v1) = w32 (v3) → R ((-3)) I4) ∧ (¬ (w32 (v1) = w32 (v3)) → R (r5) I4))) ∧ (¬ (w32 (v2) = w32 (1)) → R (r5) I4)))))))) ∧ (¬ (w32 (8) ≤ w32 (v4)) → R_readersOf G S I (v4) (fun r7 I6 => ((w32 (r7) = w32 (1) → R_giver_k57 G S I6 (v1) (v3) (v4) (r7) (1) (v2) R) ∧ (¬ (w32 (r7) = w32 (1)) → ((w32 (r7) = w32 (2) → R_giver_k57 G S I6 (v1) (v3) (v4) (r7) (1) (v2) R) ∧ (¬ (w32 (r7) = w32 (2)) → R_giver_k57 G S I6 (v1) (v3) (v4) (r7) (0) (v2) R)))))))) : R_giver_k24 G S  I v1 v2 v3 v4 R := by
  unfold R_giver_k24
  refine x_iload (pc := 24) dX11_giver_24 rfl ?_
  refine x_bipush (pc := 26) dX11_giver_26 (by decide) ?_
  refine x_icmp_ge (pc := 28) (t := 93) dX11_giver_28 (by decide) (fun e => ?_) (fun e => ?_)
  · have h := h.1 e
    refine x_aload_n (pc := 93) dX11_giver_93 rfl rfl ?_
    refine x_iload_n (pc := 94) dX11_giver_94 rfl rfl ?_
    refine y_Vi (pc := 95) (i := r_obj) (As := [vi (v1)]) (rest := []) ok_X11_readersOf ml_X11_472 dX11_giver_95 (sN_r_obj hS) (sT_r_obj hS) (by decide) rfl rfl rfl ⟨rfl, rfl⟩ ⟨by decide, by decide⟩ ⟨Nat.le_refl _, Nat.le_refl _⟩ (Nat.le_of_ble_eq_true rfl) rfl h (fun r5 I4 h => ?_)
    refine x_istore (pc := 98) (L' := [some (vr G r_obj), some (vi (v1)), some (vi (v2)), some (vi (v3)), some (vi (r5)), none]) dX11_giver_98 (by decide) (xst1 rfl rfl rfl) ?_
    refine x_iload (pc := 100) dX11_giver_100 rfl ?_
    refine x_iconst (pc := 102) dX11_giver_102 ?_
    refine x_icmp_eq (pc := 103) (t := 122) dX11_giver_103 (by decide) (fun e => ?_) (fun e => ?_)
    · have h := h.1 e
      refine x_bipush (pc := 122) dX11_giver_122 (by decide) ?_
      refine x_goto (pc := 124) (t := 129) dX11_giver_124 (by decide) ?_
      exact y_iret (pc := 129) dX11_giver_129 rfl ⟨Nat.le_refl _, Nat.le_refl _⟩ h
    · have h := h.2 e
      refine x_iload (pc := 106) dX11_giver_106 rfl ?_
      refine x_iconst (pc := 108) dX11_giver_108 ?_
      refine x_icmp_eq (pc := 109) (t := 122) dX11_giver_109 (by decide) (fun e => ?_) (fun e => ?_)
      · have h := h.1 e
        refine x_bipush (pc := 122) dX11_giver_122 (by decide) ?_
        refine x_goto (pc := 124) (t := 129) dX11_giver_124 (by decide) ?_
        exact y_iret (pc := 129) dX11_giver_129 rfl ⟨Nat.le_refl _, Nat.le_refl _⟩ h
      · have h := h.2 e
        refine x_iload_n (pc := 112) dX11_giver_112 rfl rfl ?_
        refine x_iconst (pc := 113) dX11_giver_113 ?_
        refine x_icmp_ne (pc := 114) (t := 127) dX11_giver_114 (by decide) (fun e => ?_) (fun e => ?_)
        · have h := h.1 e
          refine x_iload_n (pc := 117) dX11_giver_117 rfl rfl ?_
          refine x_iload_n (pc := 118) dX11_giver_118 rfl rfl ?_
          refine x_icmp_ne (pc := 119) (t := 127) dX11_giver_119 (by decide) (fun e => ?_) (fun e => ?_)
          · have h := h.1 e
            refine x_bipush (pc := 122) dX11_giver_122 (by decide) ?_
            refine x_goto (pc := 124) (t := 129) dX11_giver_124 (by decide) ?_
            exact y_iret (pc := 129) dX11_giver_129 rfl ⟨Nat.le_refl _, Nat.le_refl _⟩ h
          · have h := h.2 e
            refine x_iload (pc := 127) dX11_giver_127 rfl ?_
            exact y_iret (pc := 129) dX11_giver_129 rfl ⟨Nat.le_refl _, Nat.le_refl _⟩ h
        · have h := h.2 e
          refine x_iload (pc := 127) dX11_giver_127 rfl ?_
          exact y_iret (pc := 129) dX11_giver_129 rfl ⟨Nat.le_refl _, Nat.le_refl _⟩ h
  · have h := h.2 e
    refine x_aload_n (pc := 31) dX11_giver_31 rfl rfl ?_
    refine x_iload (pc := 32) dX11_giver_32 rfl ?_
    refine y_Vi (pc := 34) (i := r_obj) (As := [vi (v4)]) (rest := []) ok_X11_readersOf ml_X11_472 dX11_giver_34 (sN_r_obj hS) (sT_r_obj hS) (by decide) rfl rfl rfl ⟨rfl, rfl⟩ ⟨by decide, by decide⟩ ⟨Nat.le_refl _, Nat.le_refl _⟩ (Nat.le_of_ble_eq_true rfl) rfl h (fun r7 I6 h => ?_)
    refine x_istore (pc := 37) (L' := [some (vr G r_obj), some (vi (v1)), some (vi (v2)), some (vi (v3)), some (vi (v4)), some (vi (r7))]) dX11_giver_37 (by decide) (xst1 rfl rfl rfl) ?_
    refine x_iload_n (pc := 39) dX11_giver_39 rfl rfl ?_
    refine x_iload (pc := 40) dX11_giver_40 rfl ?_
    refine x_iconst (pc := 42) dX11_giver_42 ?_
    refine x_icmp_eq (pc := 43) (t := 52) dX11_giver_43 (by decide) (fun e => ?_) (fun e => ?_)
    · have h := h.1 e
      refine x_iconst (pc := 52) dX11_giver_52 ?_
      refine x_goto (pc := 53) (t := 57) dX11_giver_53 (by decide) ?_
      refine x_less (L' := [some (vr G r_obj), some (vi (v1)), none, some (vi (v3)), some (vi (v4)), some (vi (r7))]) (And.intro rfl (And.intro rfl (And.intro rfl (And.intro rfl (And.intro rfl trivial))))) ?_
      exact h
    · have h := h.2 e
      refine x_iload (pc := 46) dX11_giver_46 rfl ?_
      refine x_iconst (pc := 48) dX11_giver_48 ?_
      refine x_icmp_ne (pc := 49) (t := 56) dX11_giver_49 (by decide) (fun e => ?_) (fun e => ?_)
      · have h := h.1 e
        refine x_iconst (pc := 52) dX11_giver_52 ?_
        refine x_goto (pc := 53) (t := 57) dX11_giver_53 (by decide) ?_
        refine x_less (L' := [some (vr G r_obj), some (vi (v1)), none, some (vi (v3)), some (vi (v4)), some (vi (r7))]) (And.intro rfl (And.intro rfl (And.intro rfl (And.intro rfl (And.intro rfl trivial))))) ?_
        exact h
      · have h := h.2 e
        refine x_iconst (pc := 56) dX11_giver_56 ?_
        refine x_less (L' := [some (vr G r_obj), some (vi (v1)), none, some (vi (v3)), some (vi (v4)), some (vi (r7))]) (And.intro rfl (And.intro rfl (And.intro rfl (And.intro rfl (And.intro rfl trivial))))) ?_
        exact h
set_option maxHeartbeats 4000000 in
set_option maxRecDepth 100000 in
theorem b_R_giver_k57 {G : XG} {S : XS}  {I : XI} {v1 : Int} {v3 : Int} {v4 : Int} {v5 : Int} {s0 : Int} {s1 : Int} {R : Int → XI → Prop} (hS : xSh S)  (h : ((w32 (v5) ≤ w32 (2) → R_giver_k24 G S I (v1) ((s1) + (s0)) (v3) (v4 + 1) R) ∧ (¬ (w32 (v5) ≤ w32 (2)) → ((w32 (v3) = w32 ((-1)) → R_giver_k24 G S I (v1) ((s1) + (s0)) (v4) (v4 + 1) R) ∧ (¬ (w32 (v3) = w32 ((-1))) → R_readersOf G S I (v3) (fun r9 I8 => ((w32 (r9) ≤ w32 (v5) → R_giver_k24 G S I8 (v1) ((s1) + (s0)) (v3) (v4 + 1) R) ∧ (¬ (w32 (r9) ≤ w32 (v5)) → R_giver_k24 G S I8 (v1) ((s1) + (s0)) (v4) (v4 + 1) R)))))))) : R_giver_k57 G S  I v1 v3 v4 v5 s0 s1 R := by
  unfold R_giver_k57
  refine x_iadd (pc := 57) dX11_giver_57 ?_
  refine x_istore_n (pc := 58) (L' := [some (vr G r_obj), some (vi (v1)), some (vi ((s1) + (s0))), some (vi (v3)), some (vi (v4)), some (vi (v5))]) dX11_giver_58 rfl (by decide) (xst1 rfl rfl rfl) ?_
  refine x_iload (pc := 59) dX11_giver_59 rfl ?_
  refine x_iconst (pc := 61) dX11_giver_61 ?_
  refine x_icmp_le (pc := 62) (t := 85) dX11_giver_62 (by decide) (fun e => ?_) (fun e => ?_)
  · have h := h.1 e
    refine x_iload_n (pc := 85) dX11_giver_85 rfl rfl ?_
    refine x_istore_n (pc := 86) (L' := [some (vr G r_obj), some (vi (v1)), some (vi ((s1) + (s0))), some (vi (v3)), some (vi (v4)), some (vi (v5))]) dX11_giver_86 rfl (by decide) (xst1 rfl rfl rfl) ?_
    refine x_iinc (pc := 87) (L' := [some (vr G r_obj), some (vi (v1)), some (vi ((s1) + (s0))), some (vi (v3)), some (vi (v4 + 1)), some (vi (v5))]) dX11_giver_87 rfl (by decide) (xst1 rfl rfl rfl) ?_
    refine x_goto (pc := 90) (t := 24) dX11_giver_90 (by decide) ?_
    refine x_less (L' := [some (vr G r_obj), some (vi (v1)), some (vi ((s1) + (s0))), some (vi (v3)), some (vi (v4 + 1)), none]) (And.intro rfl (And.intro rfl (And.intro rfl (And.intro rfl (And.intro rfl trivial))))) ?_
    exact h
  · have h := h.2 e
    refine x_iload_n (pc := 65) dX11_giver_65 rfl rfl ?_
    refine x_iconst (pc := 66) dX11_giver_66 ?_
    refine x_icmp_eq (pc := 67) (t := 80) dX11_giver_67 (by decide) (fun e => ?_) (fun e => ?_)
    · have h := h.1 e
      refine x_iload (pc := 80) dX11_giver_80 rfl ?_
      refine x_goto (pc := 82) (t := 86) dX11_giver_82 (by decide) ?_
      refine x_istore_n (pc := 86) (L' := [some (vr G r_obj), some (vi (v1)), some (vi ((s1) + (s0))), some (vi (v4)), some (vi (v4)), some (vi (v5))]) dX11_giver_86 rfl (by decide) (xst1 rfl rfl rfl) ?_
      refine x_iinc (pc := 87) (L' := [some (vr G r_obj), some (vi (v1)), some (vi ((s1) + (s0))), some (vi (v4)), some (vi (v4 + 1)), some (vi (v5))]) dX11_giver_87 rfl (by decide) (xst1 rfl rfl rfl) ?_
      refine x_goto (pc := 90) (t := 24) dX11_giver_90 (by decide) ?_
      refine x_less (L' := [some (vr G r_obj), some (vi (v1)), some (vi ((s1) + (s0))), some (vi (v4)), some (vi (v4 + 1)), none]) (And.intro rfl (And.intro rfl (And.intro rfl (And.intro rfl (And.intro rfl trivial))))) ?_
      exact h
    · have h := h.2 e
      refine x_iload (pc := 70) dX11_giver_70 rfl ?_
      refine x_aload_n (pc := 72) dX11_giver_72 rfl rfl ?_
      refine x_iload_n (pc := 73) dX11_giver_73 rfl rfl ?_
      refine y_Vi (pc := 74) (i := r_obj) (As := [vi (v3)]) (rest := [vi (v5)]) ok_X11_readersOf ml_X11_472 dX11_giver_74 (sN_r_obj hS) (sT_r_obj hS) (by decide) rfl rfl rfl ⟨rfl, rfl⟩ ⟨by decide, by decide⟩ ⟨Nat.le_refl _, Nat.le_refl _⟩ (Nat.le_of_ble_eq_true rfl) rfl h (fun r9 I8 h => ?_)
      refine x_icmp_ge (pc := 77) (t := 85) dX11_giver_77 (by decide) (fun e => ?_) (fun e => ?_)
      · have h := h.1 e
        refine x_iload_n (pc := 85) dX11_giver_85 rfl rfl ?_
        refine x_istore_n (pc := 86) (L' := [some (vr G r_obj), some (vi (v1)), some (vi ((s1) + (s0))), some (vi (v3)), some (vi (v4)), some (vi (v5))]) dX11_giver_86 rfl (by decide) (xst1 rfl rfl rfl) ?_
        refine x_iinc (pc := 87) (L' := [some (vr G r_obj), some (vi (v1)), some (vi ((s1) + (s0))), some (vi (v3)), some (vi (v4 + 1)), some (vi (v5))]) dX11_giver_87 rfl (by decide) (xst1 rfl rfl rfl) ?_
        refine x_goto (pc := 90) (t := 24) dX11_giver_90 (by decide) ?_
        refine x_less (L' := [some (vr G r_obj), some (vi (v1)), some (vi ((s1) + (s0))), some (vi (v3)), some (vi (v4 + 1)), none]) (And.intro rfl (And.intro rfl (And.intro rfl (And.intro rfl (And.intro rfl trivial))))) ?_
        exact h
      · have h := h.2 e
        refine x_iload (pc := 80) dX11_giver_80 rfl ?_
        refine x_goto (pc := 82) (t := 86) dX11_giver_82 (by decide) ?_
        refine x_istore_n (pc := 86) (L' := [some (vr G r_obj), some (vi (v1)), some (vi ((s1) + (s0))), some (vi (v4)), some (vi (v4)), some (vi (v5))]) dX11_giver_86 rfl (by decide) (xst1 rfl rfl rfl) ?_
        refine x_iinc (pc := 87) (L' := [some (vr G r_obj), some (vi (v1)), some (vi ((s1) + (s0))), some (vi (v4)), some (vi (v4 + 1)), some (vi (v5))]) dX11_giver_87 rfl (by decide) (xst1 rfl rfl rfl) ?_
        refine x_goto (pc := 90) (t := 24) dX11_giver_90 (by decide) ?_
        refine x_less (L' := [some (vr G r_obj), some (vi (v1)), some (vi ((s1) + (s0))), some (vi (v4)), some (vi (v4 + 1)), none]) (And.intro rfl (And.intro rfl (And.intro rfl (And.intro rfl (And.intro rfl trivial))))) ?_
        exact h
set_option maxHeartbeats 4000000 in
set_option maxRecDepth 100000 in
theorem b_R_gives {G : XG} {S : XS} {I : XI} {v1 : Int} {v2 : Int} {R : Int → XI → Prop} (hS : xSh S)  (h : (inb (v1) 600 ∧ ((w32 (I r_actBook (ix (v1))) = w32 (v2) → (inb (v1) 600 ∧ ((w32 (1) < w32 (I r_actKind (ix (v1))) → R (0) I) ∧ (¬ (w32 (1) < w32 (I r_actKind (ix (v1)))) → (inb (v1) 600 ∧ R_viewWeek G S I (fun r2 I1 => ((w32 (r2) < w32 (I r_actTold (ix (v1))) → R (0) I1) ∧ (¬ (w32 (r2) < w32 (I r_actTold (ix (v1)))) → R (1) I1)))))))) ∧ (¬ (w32 (I r_actBook (ix (v1))) = w32 (v2)) → R (0) I)))) : R_gives G S I v1 v2 R := by
  refine x_start [some (vr G r_obj), some (vi (v1)), some (vi (v2))] (by decide) (Nat.le_of_ble_eq_true rfl) rfl ?_
  refine x_aload_n (pc := 0) dX11_gives_0 rfl rfl ?_
  refine x_getR (pc := 1) (i := r_obj) (a := r_actBook) fl_X11_108 dX11_gives_1 (sN_r_obj hS) (sT_r_obj hS) rfl (sR_r_obj_33 hS) ?_
  refine x_iload_n (pc := 4) dX11_gives_4 rfl rfl ?_
  refine y_iald (pc := 5) (i := r_actBook) (n := 600) dX11_gives_5 (sN_r_actBook hS) (sT_r_actBook hS) (sL_r_actBook hS) h.1 ?_
  have h := h.2
  refine x_iload_n (pc := 6) dX11_gives_6 rfl rfl ?_
  refine x_icmp_ne (pc := 7) (t := 37) dX11_gives_7 (by decide) (fun e => ?_) (fun e => ?_)
  · have h := h.1 e
    refine x_aload_n (pc := 10) dX11_gives_10 rfl rfl ?_
    refine x_getR (pc := 11) (i := r_obj) (a := r_actKind) fl_X11_111 dX11_gives_11 (sN_r_obj hS) (sT_r_obj hS) rfl (sR_r_obj_34 hS) ?_
    refine x_iload_n (pc := 14) dX11_gives_14 rfl rfl ?_
    refine y_iald (pc := 15) (i := r_actKind) (n := 600) dX11_gives_15 (sN_r_actKind hS) (sT_r_actKind hS) (sL_r_actKind hS) h.1 ?_
    have h := h.2
    refine x_iconst (pc := 16) dX11_gives_16 ?_
    refine x_icmp_gt (pc := 17) (t := 37) dX11_gives_17 (by decide) (fun e => ?_) (fun e => ?_)
    · have h := h.1 e
      refine x_iconst (pc := 37) dX11_gives_37 ?_
      exact y_zret (pc := 38) dX11_gives_38 rfl ⟨Nat.le_refl _, Nat.le_refl _⟩ (Or.inl rfl) h
    · have h := h.2 e
      refine x_aload_n (pc := 20) dX11_gives_20 rfl rfl ?_
      refine x_getR (pc := 21) (i := r_obj) (a := r_actTold) fl_X11_120 dX11_gives_21 (sN_r_obj hS) (sT_r_obj hS) rfl (sR_r_obj_37 hS) ?_
      refine x_iload_n (pc := 24) dX11_gives_24 rfl rfl ?_
      refine y_iald (pc := 25) (i := r_actTold) (n := 600) dX11_gives_25 (sN_r_actTold hS) (sT_r_actTold hS) (sL_r_actTold hS) h.1 ?_
      have h := h.2
      refine x_aload_n (pc := 26) dX11_gives_26 rfl rfl ?_
      refine y_Vi (pc := 27) (i := r_obj) (As := []) (rest := [vi (I r_actTold (ix (v1)))]) ok_X11_viewWeek ml_X11_283 dX11_gives_27 (sN_r_obj hS) (sT_r_obj hS) (by decide) rfl rfl rfl ⟨rfl, rfl⟩ ⟨by decide, by decide⟩ ⟨Nat.le_refl _, Nat.le_refl _⟩ (Nat.le_of_ble_eq_true rfl) rfl h (fun r2 I1 h => ?_)
      refine x_icmp_gt (pc := 30) (t := 37) dX11_gives_30 (by decide) (fun e => ?_) (fun e => ?_)
      · have h := h.1 e
        refine x_iconst (pc := 37) dX11_gives_37 ?_
        exact y_zret (pc := 38) dX11_gives_38 rfl ⟨Nat.le_refl _, Nat.le_refl _⟩ (Or.inl rfl) h
      · have h := h.2 e
        refine x_iconst (pc := 33) dX11_gives_33 ?_
        refine x_goto (pc := 34) (t := 38) dX11_gives_34 (by decide) ?_
        exact y_zret (pc := 38) dX11_gives_38 rfl ⟨Nat.le_refl _, Nat.le_refl _⟩ (Or.inr rfl) h
  · have h := h.2 e
    refine x_iconst (pc := 37) dX11_gives_37 ?_
    exact y_zret (pc := 38) dX11_gives_38 rfl ⟨Nat.le_refl _, Nat.le_refl _⟩ (Or.inl rfl) h
set_option maxHeartbeats 4000000 in
set_option maxRecDepth 100000 in
theorem b_R_goOn {G : XG} {S : XS} {I : XI} {v1 : Int} {v2 : Int} {v3 : Int} {R : XI → Prop} (hS : xSh S)  (h : R_wander G S I (v2) (v3) (fun I1 => R_hearAll G S I1 (v1) (v2) (v3) (fun I2 => R I2))) : R_goOn G S I v1 v2 v3 R := by
  refine x_start [some (vr G r_obj), some (vi (v1)), some (vi (v2)), some (vi (v3))] (by decide) (Nat.le_of_ble_eq_true rfl) rfl ?_
  refine x_aload_n (pc := 0) dX11_goOn_0 rfl rfl ?_
  refine x_iload_n (pc := 1) dX11_goOn_1 rfl rfl ?_
  refine x_iload_n (pc := 2) dX11_goOn_2 rfl rfl ?_
  refine y_Vv (pc := 3) (i := r_obj) (As := [vi (v2), vi (v3)]) (rest := []) ok_X11_wander ml_X11_269 dX11_goOn_3 (sN_r_obj hS) (sT_r_obj hS) (by decide) rfl rfl rfl ⟨rfl, rfl⟩ ⟨by decide, by decide⟩ ⟨Nat.le_refl _, Nat.le_refl _⟩ (Nat.le_of_ble_eq_true rfl) rfl h (fun I1 h => ?_)
  refine x_aload_n (pc := 6) dX11_goOn_6 rfl rfl ?_
  refine x_iload_n (pc := 7) dX11_goOn_7 rfl rfl ?_
  refine x_iload_n (pc := 8) dX11_goOn_8 rfl rfl ?_
  refine x_iload_n (pc := 9) dX11_goOn_9 rfl rfl ?_
  refine y_Vv (pc := 10) (i := r_obj) (As := [vi (v1), vi (v2), vi (v3)]) (rest := []) ok_X11_hearAll ml_X11_265 dX11_goOn_10 (sN_r_obj hS) (sT_r_obj hS) (by decide) rfl rfl rfl ⟨rfl, rfl⟩ ⟨by decide, by decide⟩ ⟨Nat.le_refl _, Nat.le_refl _⟩ (Nat.le_of_ble_eq_true rfl) rfl h (fun I2 h => ?_)
  exact y_vret (pc := 13) dX11_goOn_13 rfl ⟨Nat.le_refl _, Nat.le_refl _⟩ h
set_option maxHeartbeats 4000000 in
set_option maxRecDepth 100000 in
theorem b_R_grass {G : XG} {S : XS} {I : XI} {v1 : Int} {v2 : Int} {v3 : Int} {R : Int → XI → Prop} (hS : xSh S)  (h : (∀ I1 : XI, I1 = up I r_obj 0 (0) → ((w32 (I1 r_grasses 0) = w32 (60) → R (0) I1) ∧ (¬ (w32 (I1 r_grasses 0) = w32 (60)) → R_isCell G S I1 (v1) (fun r3 I2 => ((w32 (r3) = 0 → R (0) I2) ∧ (¬ (w32 (r3) = 0) → R_isWeek G S I2 (v2) (fun r5 I4 => ((w32 (r5) = 0 → R (0) I4) ∧ (¬ (w32 (r5) = 0) → R_in G S I4 (v3) (0) (99) (fun r7 I6 => ((w32 (r7) = 0 → R (0) I6) ∧ (¬ (w32 (r7) = 0) → (∀ I8 : XI, I8 = up I6 r_grasses 0 ((I6 r_grasses 0) + (1)) → (inb (I6 r_grasses 0) 240 ∧ (∀ I9 : XI, I9 = up I8 r_grassCell (ix (I6 r_grasses 0)) (v1) → (inb (I6 r_grasses 0) 240 ∧ (∀ I10 : XI, I10 = up I9 r_grassWeek (ix (I6 r_grasses 0)) (v2) → (inb (I6 r_grasses 0) 240 ∧ (∀ I11 : XI, I11 = up I10 r_grassIs (ix (I6 r_grasses 0)) (v3) → (inb (I6 r_grasses 0) 240 ∧ (∀ I12 : XI, I12 = up I11 r_grassTold (ix (I6 r_grasses 0)) (I11 r_now 0) → R (1) I12)))))))))))))))))))))) : R_grass G S I v1 v2 v3 R := by
  refine x_start [some (vr G r_obj), some (vi (v1)), some (vi (v2)), some (vi (v3)), none] (by decide) (Nat.le_of_ble_eq_true rfl) rfl ?_
  refine x_aload_n (pc := 0) dX11_grass_0 rfl rfl ?_
  refine x_iconst (pc := 1) dX11_grass_1 ?_
  refine x_putI (pc := 2) (i := r_obj) fl_X11_220 dX11_grass_2 (sN_r_obj hS) (sT_r_obj hS) rfl ?_
  have h := h _ rfl
  generalize up I r_obj 0 (0) = I1 at h ⊢
  refine x_aload_n (pc := 5) dX11_grass_5 rfl rfl ?_
  refine x_getR (pc := 6) (i := r_obj) (a := r_grasses) fl_X11_51 dX11_grass_6 (sN_r_obj hS) (sT_r_obj hS) rfl (sR_r_obj_14 hS) ?_
  refine x_iconst (pc := 9) dX11_grass_9 ?_
  refine y_iald (pc := 10) (i := r_grasses) (n := 4) dX11_grass_10 (sN_r_grasses hS) (sT_r_grasses hS) (sL_r_grasses hS) (inb_nat (k := 0) (by decide) (by decide)) ?_
  rw [show ix 0 = 0 from rfl]
  refine x_bipush (pc := 11) dX11_grass_11 (by decide) ?_
  refine x_icmp_eq (pc := 13) (t := 41) dX11_grass_13 (by decide) (fun e => ?_) (fun e => ?_)
  · have h := h.1 e
    refine x_iconst (pc := 41) dX11_grass_41 ?_
    exact y_zret (pc := 42) dX11_grass_42 rfl ⟨Nat.le_refl _, Nat.le_refl _⟩ (Or.inl rfl) h
  · have h := h.2 e
    refine x_aload_n (pc := 16) dX11_grass_16 rfl rfl ?_
    refine x_iload_n (pc := 17) dX11_grass_17 rfl rfl ?_
    refine y_Vi (pc := 18) (i := r_obj) (As := [vi (v1)]) (rest := []) ok_X11_isCell ml_X11_236 dX11_grass_18 (sN_r_obj hS) (sT_r_obj hS) (by decide) rfl rfl rfl ⟨rfl, rfl⟩ ⟨by decide, by decide⟩ ⟨Nat.le_refl _, Nat.le_refl _⟩ (Nat.le_of_ble_eq_true rfl) rfl h (fun r3 I2 h => ?_)
    refine x_if_eq (pc := 21) (t := 41) dX11_grass_21 (by decide) (fun e => ?_) (fun e => ?_)
    · have h := h.1 e
      refine x_iconst (pc := 41) dX11_grass_41 ?_
      exact y_zret (pc := 42) dX11_grass_42 rfl ⟨Nat.le_refl _, Nat.le_refl _⟩ (Or.inl rfl) h
    · have h := h.2 e
      refine x_iload_n (pc := 24) dX11_grass_24 rfl rfl ?_
      refine y_Si (pc := 25) (As := [vi (v2)]) (rest := []) ok_X11_isWeek ml_X11_240 dX11_grass_25 rfl ⟨rfl, rfl⟩ ⟨by decide, by decide⟩ ⟨Nat.le_refl _, Nat.le_refl _⟩ (Nat.le_of_ble_eq_true rfl) rfl h (fun r5 I4 h => ?_)
      refine x_if_eq (pc := 28) (t := 41) dX11_grass_28 (by decide) (fun e => ?_) (fun e => ?_)
      · have h := h.1 e
        refine x_iconst (pc := 41) dX11_grass_41 ?_
        exact y_zret (pc := 42) dX11_grass_42 rfl ⟨Nat.le_refl _, Nat.le_refl _⟩ (Or.inl rfl) h
      · have h := h.2 e
        refine x_iload_n (pc := 31) dX11_grass_31 rfl rfl ?_
        refine x_iconst (pc := 32) dX11_grass_32 ?_
        refine x_bipush (pc := 33) dX11_grass_33 (by decide) ?_
        refine y_Si (pc := 35) (As := [vi (v3), vi (0), vi (99)]) (rest := []) ok_X11_in ml_X11_232 dX11_grass_35 rfl ⟨rfl, rfl⟩ ⟨by decide, by decide⟩ ⟨Nat.le_refl _, Nat.le_refl _⟩ (Nat.le_of_ble_eq_true rfl) rfl h (fun r7 I6 h => ?_)
        refine x_if_ne (pc := 38) (t := 43) dX11_grass_38 (by decide) (fun e => ?_) (fun e => ?_)
        · have h := h.1 e
          refine x_iconst (pc := 41) dX11_grass_41 ?_
          exact y_zret (pc := 42) dX11_grass_42 rfl ⟨Nat.le_refl _, Nat.le_refl _⟩ (Or.inl rfl) h
        · have h := h.2 e
          refine x_aload_n (pc := 43) dX11_grass_43 rfl rfl ?_
          refine x_getR (pc := 44) (i := r_obj) (a := r_grasses) fl_X11_51 dX11_grass_44 (sN_r_obj hS) (sT_r_obj hS) rfl (sR_r_obj_14 hS) ?_
          refine x_iconst (pc := 47) dX11_grass_47 ?_
          refine y_iald (pc := 48) (i := r_grasses) (n := 4) dX11_grass_48 (sN_r_grasses hS) (sT_r_grasses hS) (sL_r_grasses hS) (inb_nat (k := 0) (by decide) (by decide)) ?_
          rw [show ix 0 = 0 from rfl]
          refine x_istore (pc := 49) (L' := [some (vr G r_obj), some (vi (v1)), some (vi (v2)), some (vi (v3)), some (vi (I6 r_grasses 0))]) dX11_grass_49 (by decide) (xst1 rfl rfl rfl) ?_
          refine x_aload_n (pc := 51) dX11_grass_51 rfl rfl ?_
          refine x_getR (pc := 52) (i := r_obj) (a := r_grasses) fl_X11_51 dX11_grass_52 (sN_r_obj hS) (sT_r_obj hS) rfl (sR_r_obj_14 hS) ?_
          refine x_iconst (pc := 55) dX11_grass_55 ?_
          refine x_dup2 (pc := 56) dX11_grass_56 rfl rfl ?_
          refine y_iald (pc := 57) (i := r_grasses) (n := 4) dX11_grass_57 (sN_r_grasses hS) (sT_r_grasses hS) (sL_r_grasses hS) (inb_nat (k := 0) (by decide) (by decide)) ?_
          rw [show ix 0 = 0 from rfl]
          refine x_iconst (pc := 58) dX11_grass_58 ?_
          refine x_iadd (pc := 59) dX11_grass_59 ?_
          refine y_iast (pc := 60) (i := r_grasses) (n := 4) dX11_grass_60 (sN_r_grasses hS) (sT_r_grasses hS) (sL_r_grasses hS) (inb_nat (k := 0) (by decide) (by decide)) ?_
          rw [show ix 0 = 0 from rfl]
          have h := h _ rfl
          generalize up I6 r_grasses 0 ((I6 r_grasses 0) + (1)) = I8 at h ⊢
          refine x_aload_n (pc := 61) dX11_grass_61 rfl rfl ?_
          refine x_getR (pc := 62) (i := r_obj) (a := r_grassCell) fl_X11_54 dX11_grass_62 (sN_r_obj hS) (sT_r_obj hS) rfl (sR_r_obj_15 hS) ?_
          refine x_iload (pc := 65) dX11_grass_65 rfl ?_
          refine x_iload_n (pc := 67) dX11_grass_67 rfl rfl ?_
          refine y_iast (pc := 68) (i := r_grassCell) (n := 240) dX11_grass_68 (sN_r_grassCell hS) (sT_r_grassCell hS) (sL_r_grassCell hS) h.1 ?_
          have h := h.2
          have h := h _ rfl
          generalize up I8 r_grassCell (ix (I6 r_grasses 0)) (v1) = I9 at h ⊢
          refine x_aload_n (pc := 69) dX11_grass_69 rfl rfl ?_
          refine x_getR (pc := 70) (i := r_obj) (a := r_grassWeek) fl_X11_57 dX11_grass_70 (sN_r_obj hS) (sT_r_obj hS) rfl (sR_r_obj_16 hS) ?_
          refine x_iload (pc := 73) dX11_grass_73 rfl ?_
          refine x_iload_n (pc := 75) dX11_grass_75 rfl rfl ?_
          refine y_iast (pc := 76) (i := r_grassWeek) (n := 240) dX11_grass_76 (sN_r_grassWeek hS) (sT_r_grassWeek hS) (sL_r_grassWeek hS) h.1 ?_
          have h := h.2
          have h := h _ rfl
          generalize up I9 r_grassWeek (ix (I6 r_grasses 0)) (v2) = I10 at h ⊢
          refine x_aload_n (pc := 77) dX11_grass_77 rfl rfl ?_
          refine x_getR (pc := 78) (i := r_obj) (a := r_grassIs) fl_X11_60 dX11_grass_78 (sN_r_obj hS) (sT_r_obj hS) rfl (sR_r_obj_17 hS) ?_
          refine x_iload (pc := 81) dX11_grass_81 rfl ?_
          refine x_iload_n (pc := 83) dX11_grass_83 rfl rfl ?_
          refine y_iast (pc := 84) (i := r_grassIs) (n := 240) dX11_grass_84 (sN_r_grassIs hS) (sT_r_grassIs hS) (sL_r_grassIs hS) h.1 ?_
          have h := h.2
          have h := h _ rfl
          generalize up I10 r_grassIs (ix (I6 r_grasses 0)) (v3) = I11 at h ⊢
          refine x_aload_n (pc := 85) dX11_grass_85 rfl rfl ?_
          refine x_getR (pc := 86) (i := r_obj) (a := r_grassTold) fl_X11_63 dX11_grass_86 (sN_r_obj hS) (sT_r_obj hS) rfl (sR_r_obj_18 hS) ?_
          refine x_iload (pc := 89) dX11_grass_89 rfl ?_
          refine x_aload_n (pc := 91) dX11_grass_91 rfl rfl ?_
          refine x_getR (pc := 92) (i := r_obj) (a := r_now) fl_X11_23 dX11_grass_92 (sN_r_obj hS) (sT_r_obj hS) rfl (sR_r_obj_5 hS) ?_
          refine x_iconst (pc := 95) dX11_grass_95 ?_
          refine y_iald (pc := 96) (i := r_now) (n := 4) dX11_grass_96 (sN_r_now hS) (sT_r_now hS) (sL_r_now hS) (inb_nat (k := 0) (by decide) (by decide)) ?_
          rw [show ix 0 = 0 from rfl]
          refine y_iast (pc := 97) (i := r_grassTold) (n := 240) dX11_grass_97 (sN_r_grassTold hS) (sT_r_grassTold hS) (sL_r_grassTold hS) h.1 ?_
          have h := h.2
          have h := h _ rfl
          generalize up I11 r_grassTold (ix (I6 r_grasses 0)) (I11 r_now 0) = I12 at h ⊢
          refine x_iconst (pc := 98) dX11_grass_98 ?_
          exact y_zret (pc := 99) dX11_grass_99 rfl ⟨Nat.le_refl _, Nat.le_refl _⟩ (Or.inr rfl) h
set_option maxHeartbeats 4000000 in
set_option maxRecDepth 100000 in
theorem b_R_grassOf {G : XG} {S : XS} {I : XI} {v1 : Int} {v2 : Int} {v3 : Int} {R : Int → XI → Prop} (hS : xSh S)  (h : R_grassOf_k6 G S I (v1) (v2) (v3) ((-1)) (0) R) : R_grassOf G S I v1 v2 v3 R := by
  refine x_start [some (vr G r_obj), some (vi (v1)), some (vi (v2)), some (vi (v3)), none, none] (by decide) (Nat.le_of_ble_eq_true rfl) rfl ?_
  refine x_iconst (pc := 0) dX11_grassOf_0 ?_
  refine x_istore (pc := 1) (L' := [some (vr G r_obj), some (vi (v1)), some (vi (v2)), some (vi (v3)), some (vi ((-1))), none]) dX11_grassOf_1 (by decide) (xst1 rfl rfl rfl) ?_
  refine x_iconst (pc := 3) dX11_grassOf_3 ?_
  refine x_istore (pc := 4) (L' := [some (vr G r_obj), some (vi (v1)), some (vi (v2)), some (vi (v3)), some (vi ((-1))), some (vi (0))]) dX11_grassOf_4 (by decide) (xst1 rfl rfl rfl) ?_
  exact h
set_option maxHeartbeats 4000000 in
set_option maxRecDepth 100000 in
theorem b_R_grassOf_k6 {G : XG} {S : XS}  {I : XI} {v1 : Int} {v2 : Int} {v3 : Int} {v4 : Int} {v5 : Int} {R : Int → XI → Prop} (hS : xSh S)  (h : ((w32 (I r_grasses 0) ≤ w32 (v5) → ((w32 (v4) = w32 ((-1)) → R (1) I) ∧ (¬ (w32 (v4) = w32 ((-1))) → (inb (v4) 240 ∧ R (I r_grassIs (ix (v4))) I)))) ∧ (¬ (w32 (I r_grasses 0) ≤ w32 (v5)) → (inb (v5) 240 ∧ ((w32 (I r_grassCell (ix (v5))) = w32 (v1) → (inb (v5) 240 ∧ ((w32 (v2) < w32 (I r_grassWeek (ix (v5))) → R_grassOf_k6 G S I (v1) (v2) (v3) (v4) (v5 + 1) R) ∧ (¬ (w32 (v2) < w32 (I r_grassWeek (ix (v5)))) → (inb (v5) 240 ∧ ((w32 (v3) < w32 (I r_grassTold (ix (v5))) → R_grassOf_k6 G S I (v1) (v2) (v3) (v4) (v5 + 1) R) ∧ (¬ (w32 (v3) < w32 (I r_grassTold (ix (v5)))) → ((w32 (v4) = w32 ((-1)) → R_grassOf_k6 G S I (v1) (v2) (v3) (v5) (v5 + 1) R) ∧ (¬ (w32 (v4) = w32 ((-1))) → (inb (v5) 240 ∧ (inb (v4) 240 ∧ ((w32 (I r_grassWeek (ix (v5))) < w32 (I r_grassWeek (ix (v4))) → R_grassOf_k6 G S I (v1) (v2) (v3) (v4) (v5 + 1) R) ∧ (¬ (w32 (I r_grassWeek (ix (v5))) < w32 (I r_grassWeek (ix (v4)))) → R_grassOf_k6 G S I (v1) (v2) (v3) (v5) (v5 + 1) R))))))))))))) ∧ (¬ (w32 (I r_grassCell (ix (v5))) = w32 (v1)) → R_grassOf_k6 G S I (v1) (v2) (v3) (v4) (v5 + 1) R)))))) : R_grassOf_k6 G S  I v1 v2 v3 v4 v5 R := by
  unfold R_grassOf_k6
  refine x_iload (pc := 6) dX11_grassOf_6 rfl ?_
  refine x_aload_n (pc := 8) dX11_grassOf_8 rfl rfl ?_
  refine x_getR (pc := 9) (i := r_obj) (a := r_grasses) fl_X11_51 dX11_grassOf_9 (sN_r_obj hS) (sT_r_obj hS) rfl (sR_r_obj_14 hS) ?_
  refine x_iconst (pc := 12) dX11_grassOf_12 ?_
  refine y_iald (pc := 13) (i := r_grasses) (n := 4) dX11_grassOf_13 (sN_r_grasses hS) (sT_r_grasses hS) (sL_r_grasses hS) (inb_nat (k := 0) (by decide) (by decide)) ?_
  rw [show ix 0 = 0 from rfl]
  refine x_icmp_ge (pc := 14) (t := 83) dX11_grassOf_14 (by decide) (fun e => ?_) (fun e => ?_)
  · have h := h.1 e
    refine x_iload (pc := 83) dX11_grassOf_83 rfl ?_
    refine x_iconst (pc := 85) dX11_grassOf_85 ?_
    refine x_icmp_ne (pc := 86) (t := 93) dX11_grassOf_86 (by decide) (fun e => ?_) (fun e => ?_)
    · have h := h.1 e
      refine x_iconst (pc := 89) dX11_grassOf_89 ?_
      refine x_goto (pc := 90) (t := 100) dX11_grassOf_90 (by decide) ?_
      exact y_iret (pc := 100) dX11_grassOf_100 rfl ⟨Nat.le_refl _, Nat.le_refl _⟩ h
    · have h := h.2 e
      refine x_aload_n (pc := 93) dX11_grassOf_93 rfl rfl ?_
      refine x_getR (pc := 94) (i := r_obj) (a := r_grassIs) fl_X11_60 dX11_grassOf_94 (sN_r_obj hS) (sT_r_obj hS) rfl (sR_r_obj_17 hS) ?_
      refine x_iload (pc := 97) dX11_grassOf_97 rfl ?_
      refine y_iald (pc := 99) (i := r_grassIs) (n := 240) dX11_grassOf_99 (sN_r_grassIs hS) (sT_r_grassIs hS) (sL_r_grassIs hS) h.1 ?_
      have h := h.2
      exact y_iret (pc := 100) dX11_grassOf_100 rfl ⟨Nat.le_refl _, Nat.le_refl _⟩ h
  · have h := h.2 e
    refine x_aload_n (pc := 17) dX11_grassOf_17 rfl rfl ?_
    refine x_getR (pc := 18) (i := r_obj) (a := r_grassCell) fl_X11_54 dX11_grassOf_18 (sN_r_obj hS) (sT_r_obj hS) rfl (sR_r_obj_15 hS) ?_
    refine x_iload (pc := 21) dX11_grassOf_21 rfl ?_
    refine y_iald (pc := 23) (i := r_grassCell) (n := 240) dX11_grassOf_23 (sN_r_grassCell hS) (sT_r_grassCell hS) (sL_r_grassCell hS) h.1 ?_
    have h := h.2
    refine x_iload_n (pc := 24) dX11_grassOf_24 rfl rfl ?_
    refine x_icmp_ne (pc := 25) (t := 77) dX11_grassOf_25 (by decide) (fun e => ?_) (fun e => ?_)
    · have h := h.1 e
      refine x_aload_n (pc := 28) dX11_grassOf_28 rfl rfl ?_
      refine x_getR (pc := 29) (i := r_obj) (a := r_grassWeek) fl_X11_57 dX11_grassOf_29 (sN_r_obj hS) (sT_r_obj hS) rfl (sR_r_obj_16 hS) ?_
      refine x_iload (pc := 32) dX11_grassOf_32 rfl ?_
      refine y_iald (pc := 34) (i := r_grassWeek) (n := 240) dX11_grassOf_34 (sN_r_grassWeek hS) (sT_r_grassWeek hS) (sL_r_grassWeek hS) h.1 ?_
      have h := h.2
      refine x_iload_n (pc := 35) dX11_grassOf_35 rfl rfl ?_
      refine x_icmp_gt (pc := 36) (t := 77) dX11_grassOf_36 (by decide) (fun e => ?_) (fun e => ?_)
      · have h := h.1 e
        refine x_iinc (pc := 77) (L' := [some (vr G r_obj), some (vi (v1)), some (vi (v2)), some (vi (v3)), some (vi (v4)), some (vi (v5 + 1))]) dX11_grassOf_77 rfl (by decide) (xst1 rfl rfl rfl) ?_
        refine x_goto (pc := 80) (t := 6) dX11_grassOf_80 (by decide) ?_
        exact h
      · have h := h.2 e
        refine x_aload_n (pc := 39) dX11_grassOf_39 rfl rfl ?_
        refine x_getR (pc := 40) (i := r_obj) (a := r_grassTold) fl_X11_63 dX11_grassOf_40 (sN_r_obj hS) (sT_r_obj hS) rfl (sR_r_obj_18 hS) ?_
        refine x_iload (pc := 43) dX11_grassOf_43 rfl ?_
        refine y_iald (pc := 45) (i := r_grassTold) (n := 240) dX11_grassOf_45 (sN_r_grassTold hS) (sT_r_grassTold hS) (sL_r_grassTold hS) h.1 ?_
        have h := h.2
        refine x_iload_n (pc := 46) dX11_grassOf_46 rfl rfl ?_
        refine x_icmp_gt (pc := 47) (t := 77) dX11_grassOf_47 (by decide) (fun e => ?_) (fun e => ?_)
        · have h := h.1 e
          refine x_iinc (pc := 77) (L' := [some (vr G r_obj), some (vi (v1)), some (vi (v2)), some (vi (v3)), some (vi (v4)), some (vi (v5 + 1))]) dX11_grassOf_77 rfl (by decide) (xst1 rfl rfl rfl) ?_
          refine x_goto (pc := 80) (t := 6) dX11_grassOf_80 (by decide) ?_
          exact h
        · have h := h.2 e
          refine x_iload (pc := 50) dX11_grassOf_50 rfl ?_
          refine x_iconst (pc := 52) dX11_grassOf_52 ?_
          refine x_icmp_eq (pc := 53) (t := 73) dX11_grassOf_53 (by decide) (fun e => ?_) (fun e => ?_)
          · have h := h.1 e
            refine x_iload (pc := 73) dX11_grassOf_73 rfl ?_
            refine x_istore (pc := 75) (L' := [some (vr G r_obj), some (vi (v1)), some (vi (v2)), some (vi (v3)), some (vi (v5)), some (vi (v5))]) dX11_grassOf_75 (by decide) (xst1 rfl rfl rfl) ?_
            refine x_iinc (pc := 77) (L' := [some (vr G r_obj), some (vi (v1)), some (vi (v2)), some (vi (v3)), some (vi (v5)), some (vi (v5 + 1))]) dX11_grassOf_77 rfl (by decide) (xst1 rfl rfl rfl) ?_
            refine x_goto (pc := 80) (t := 6) dX11_grassOf_80 (by decide) ?_
            exact h
          · have h := h.2 e
            refine x_aload_n (pc := 56) dX11_grassOf_56 rfl rfl ?_
            refine x_getR (pc := 57) (i := r_obj) (a := r_grassWeek) fl_X11_57 dX11_grassOf_57 (sN_r_obj hS) (sT_r_obj hS) rfl (sR_r_obj_16 hS) ?_
            refine x_iload (pc := 60) dX11_grassOf_60 rfl ?_
            refine y_iald (pc := 62) (i := r_grassWeek) (n := 240) dX11_grassOf_62 (sN_r_grassWeek hS) (sT_r_grassWeek hS) (sL_r_grassWeek hS) h.1 ?_
            have h := h.2
            refine x_aload_n (pc := 63) dX11_grassOf_63 rfl rfl ?_
            refine x_getR (pc := 64) (i := r_obj) (a := r_grassWeek) fl_X11_57 dX11_grassOf_64 (sN_r_obj hS) (sT_r_obj hS) rfl (sR_r_obj_16 hS) ?_
            refine x_iload (pc := 67) dX11_grassOf_67 rfl ?_
            refine y_iald (pc := 69) (i := r_grassWeek) (n := 240) dX11_grassOf_69 (sN_r_grassWeek hS) (sT_r_grassWeek hS) (sL_r_grassWeek hS) h.1 ?_
            have h := h.2
            refine x_icmp_lt (pc := 70) (t := 77) dX11_grassOf_70 (by decide) (fun e => ?_) (fun e => ?_)
            · have h := h.1 e
              refine x_iinc (pc := 77) (L' := [some (vr G r_obj), some (vi (v1)), some (vi (v2)), some (vi (v3)), some (vi (v4)), some (vi (v5 + 1))]) dX11_grassOf_77 rfl (by decide) (xst1 rfl rfl rfl) ?_
              refine x_goto (pc := 80) (t := 6) dX11_grassOf_80 (by decide) ?_
              exact h
            · have h := h.2 e
              refine x_iload (pc := 73) dX11_grassOf_73 rfl ?_
              refine x_istore (pc := 75) (L' := [some (vr G r_obj), some (vi (v1)), some (vi (v2)), some (vi (v3)), some (vi (v5)), some (vi (v5))]) dX11_grassOf_75 (by decide) (xst1 rfl rfl rfl) ?_
              refine x_iinc (pc := 77) (L' := [some (vr G r_obj), some (vi (v1)), some (vi (v2)), some (vi (v3)), some (vi (v5)), some (vi (v5 + 1))]) dX11_grassOf_77 rfl (by decide) (xst1 rfl rfl rfl) ?_
              refine x_goto (pc := 80) (t := 6) dX11_grassOf_80 (by decide) ?_
              exact h
    · have h := h.2 e
      refine x_iinc (pc := 77) (L' := [some (vr G r_obj), some (vi (v1)), some (vi (v2)), some (vi (v3)), some (vi (v4)), some (vi (v5 + 1))]) dX11_grassOf_77 rfl (by decide) (xst1 rfl rfl rfl) ?_
      refine x_goto (pc := 80) (t := 6) dX11_grassOf_80 (by decide) ?_
      exact h
set_option maxHeartbeats 4000000 in
set_option maxRecDepth 100000 in
theorem b_R_greatest {G : XG} {S : XS} {I : XI}  {R : Int → XI → Prop} (hS : xSh S)  (h : R_greatest_k4 G S I (0) (1) R) : R_greatest G S I  R := by
  refine x_start [some (vr G r_obj), none, none] (by decide) (Nat.le_of_ble_eq_true rfl) rfl ?_
  refine x_iconst (pc := 0) dX11_greatest_0 ?_
  refine x_istore_n (pc := 1) (L' := [some (vr G r_obj), some (vi (0)), none]) dX11_greatest_1 rfl (by decide) (xst1 rfl rfl rfl) ?_
  refine x_iconst (pc := 2) dX11_greatest_2 ?_
  refine x_istore_n (pc := 3) (L' := [some (vr G r_obj), some (vi (0)), some (vi (1))]) dX11_greatest_3 rfl (by decide) (xst1 rfl rfl rfl) ?_
  exact h
set_option maxHeartbeats 4000000 in
set_option maxRecDepth 100000 in
theorem b_R_greatest_k4 {G : XG} {S : XS}  {I : XI} {v1 : Int} {v2 : Int} {R : Int → XI → Prop} (hS : xSh S)  (h : ((w32 (10) ≤ w32 (v2) → R (v1) I) ∧ (¬ (w32 (10) ≤ w32 (v2)) → (inb (v2) 10 ∧ (inb (v1) 10 ∧ ((w32 (I r_parts (ix (v2))) ≤ w32 (I r_parts (ix (v1))) → R_greatest_k4 G S I (v1) (v2 + 1) R) ∧ (¬ (w32 (I r_parts (ix (v2))) ≤ w32 (I r_parts (ix (v1)))) → R_greatest_k4 G S I (v2) (v2 + 1) R))))))) : R_greatest_k4 G S  I v1 v2 R := by
  unfold R_greatest_k4
  refine x_iload_n (pc := 4) dX11_greatest_4 rfl rfl ?_
  refine x_bipush (pc := 5) dX11_greatest_5 (by decide) ?_
  refine x_icmp_ge (pc := 7) (t := 37) dX11_greatest_7 (by decide) (fun e => ?_) (fun e => ?_)
  · have h := h.1 e
    refine x_iload_n (pc := 37) dX11_greatest_37 rfl rfl ?_
    exact y_iret (pc := 38) dX11_greatest_38 rfl ⟨Nat.le_refl _, Nat.le_refl _⟩ h
  · have h := h.2 e
    refine x_aload_n (pc := 10) dX11_greatest_10 rfl rfl ?_
    refine x_getR (pc := 11) (i := r_obj) (a := r_parts) fl_X11_165 dX11_greatest_11 (sN_r_obj hS) (sT_r_obj hS) rfl (sR_r_obj_52 hS) ?_
    refine x_iload_n (pc := 14) dX11_greatest_14 rfl rfl ?_
    refine y_iald (pc := 15) (i := r_parts) (n := 10) dX11_greatest_15 (sN_r_parts hS) (sT_r_parts hS) (sL_r_parts hS) h.1 ?_
    have h := h.2
    refine x_aload_n (pc := 16) dX11_greatest_16 rfl rfl ?_
    refine x_getR (pc := 17) (i := r_obj) (a := r_parts) fl_X11_165 dX11_greatest_17 (sN_r_obj hS) (sT_r_obj hS) rfl (sR_r_obj_52 hS) ?_
    refine x_iload_n (pc := 20) dX11_greatest_20 rfl rfl ?_
    refine y_iald (pc := 21) (i := r_parts) (n := 10) dX11_greatest_21 (sN_r_parts hS) (sT_r_parts hS) (sL_r_parts hS) h.1 ?_
    have h := h.2
    refine x_icmp_le (pc := 22) (t := 29) dX11_greatest_22 (by decide) (fun e => ?_) (fun e => ?_)
    · have h := h.1 e
      refine x_iload_n (pc := 29) dX11_greatest_29 rfl rfl ?_
      refine x_istore_n (pc := 30) (L' := [some (vr G r_obj), some (vi (v1)), some (vi (v2))]) dX11_greatest_30 rfl (by decide) (xst1 rfl rfl rfl) ?_
      refine x_iinc (pc := 31) (L' := [some (vr G r_obj), some (vi (v1)), some (vi (v2 + 1))]) dX11_greatest_31 rfl (by decide) (xst1 rfl rfl rfl) ?_
      refine x_goto (pc := 34) (t := 4) dX11_greatest_34 (by decide) ?_
      exact h
    · have h := h.2 e
      refine x_iload_n (pc := 25) dX11_greatest_25 rfl rfl ?_
      refine x_goto (pc := 26) (t := 30) dX11_greatest_26 (by decide) ?_
      refine x_istore_n (pc := 30) (L' := [some (vr G r_obj), some (vi (v2)), some (vi (v2))]) dX11_greatest_30 rfl (by decide) (xst1 rfl rfl rfl) ?_
      refine x_iinc (pc := 31) (L' := [some (vr G r_obj), some (vi (v2)), some (vi (v2 + 1))]) dX11_greatest_31 rfl (by decide) (xst1 rfl rfl rfl) ?_
      refine x_goto (pc := 34) (t := 4) dX11_greatest_34 (by decide) ?_
      exact h
set_option maxHeartbeats 4000000 in
set_option maxRecDepth 100000 in
theorem b_R_had {G : XG} {S : XS} {I : XI} {v1 : Int} {v2 : Int} {R : Int → XI → Prop} (hS : xSh S)  (h : (∀ I1 : XI, I1 = up I r_obj 0 (0) → R_isBook G S I1 (v1) (fun r3 I2 => ((w32 (r3) = 0 → R ((-1)) I2) ∧ (¬ (w32 (r3) = 0) → R_had_k17 G S I2 (v1) (v2) (0) R))))) : R_had G S I v1 v2 R := by
  refine x_start [some (vr G r_obj), some (vi (v1)), some (vi (v2)), none, none, none] (by decide) (Nat.le_of_ble_eq_true rfl) rfl ?_
  refine x_aload_n (pc := 0) dX11_had_0 rfl rfl ?_
  refine x_iconst (pc := 1) dX11_had_1 ?_
  refine x_putI (pc := 2) (i := r_obj) fl_X11_220 dX11_had_2 (sN_r_obj hS) (sT_r_obj hS) rfl ?_
  have h := h _ rfl
  generalize up I r_obj 0 (0) = I1 at h ⊢
  refine x_aload_n (pc := 5) dX11_had_5 rfl rfl ?_
  refine x_iload_n (pc := 6) dX11_had_6 rfl rfl ?_
  refine y_Vi (pc := 7) (i := r_obj) (As := [vi (v1)]) (rest := []) ok_X11_isBook ml_X11_317 dX11_had_7 (sN_r_obj hS) (sT_r_obj hS) (by decide) rfl rfl rfl ⟨rfl, rfl⟩ ⟨by decide, by decide⟩ ⟨Nat.le_refl _, Nat.le_refl _⟩ (Nat.le_of_ble_eq_true rfl) rfl h (fun r3 I2 h => ?_)
  refine x_if_ne (pc := 10) (t := 15) dX11_had_10 (by decide) (fun e => ?_) (fun e => ?_)
  · have h := h.1 e
    refine x_iconst (pc := 13) dX11_had_13 ?_
    exact y_iret (pc := 14) dX11_had_14 rfl ⟨Nat.le_refl _, Nat.le_refl _⟩ h
  · have h := h.2 e
    refine x_iconst (pc := 15) dX11_had_15 ?_
    refine x_istore_n (pc := 16) (L' := [some (vr G r_obj), some (vi (v1)), some (vi (v2)), some (vi (0)), none, none]) dX11_had_16 rfl (by decide) (xst1 rfl rfl rfl) ?_
    exact h
set_option maxHeartbeats 4000000 in
set_option maxRecDepth 100000 in
theorem b_R_had_k17 {G : XG} {S : XS}  {I : XI} {v1 : Int} {v2 : Int} {v3 : Int} {R : Int → XI → Prop} (hS : xSh S)  (h : ((w32 (I r_acts 0) ≤ w32 (v3) → R ((-1)) I) ∧ (¬ (w32 (I r_acts 0) ≤ w32 (v3)) → R_gives G S I (v3) (v1) (fun r5 I4 => ((w32 (r5) = 0 → R_had_k17 G S I4 (v1) (v2) (v3 + 1) R) ∧ (¬ (w32 (r5) = 0) → R_had_k45 G S I4 (v1) (v2) (v3) (0) (0) R)))))) : R_had_k17 G S  I v1 v2 v3 R := by
  unfold R_had_k17
  refine x_iload_n (pc := 17) dX11_had_17 rfl rfl ?_
  refine x_aload_n (pc := 18) dX11_had_18 rfl rfl ?_
  refine x_getR (pc := 19) (i := r_obj) (a := r_acts) fl_X11_105 dX11_had_19 (sN_r_obj hS) (sT_r_obj hS) rfl (sR_r_obj_32 hS) ?_
  refine x_iconst (pc := 22) dX11_had_22 ?_
  refine y_iald (pc := 23) (i := r_acts) (n := 4) dX11_had_23 (sN_r_acts hS) (sT_r_acts hS) (sL_r_acts hS) (inb_nat (k := 0) (by decide) (by decide)) ?_
  rw [show ix 0 = 0 from rfl]
  refine x_icmp_ge (pc := 24) (t := 139) dX11_had_24 (by decide) (fun e => ?_) (fun e => ?_)
  · have h := h.1 e
    refine x_iconst (pc := 139) dX11_had_139 ?_
    exact y_iret (pc := 140) dX11_had_140 rfl ⟨Nat.le_refl _, Nat.le_refl _⟩ h
  · have h := h.2 e
    refine x_aload_n (pc := 27) dX11_had_27 rfl rfl ?_
    refine x_iload_n (pc := 28) dX11_had_28 rfl rfl ?_
    refine x_iload_n (pc := 29) dX11_had_29 rfl rfl ?_
    refine y_Vi (pc := 30) (i := r_obj) (As := [vi (v3), vi (v1)]) (rest := []) ok_X11_gives ml_X11_332 dX11_had_30 (sN_r_obj hS) (sT_r_obj hS) (by decide) rfl rfl rfl ⟨rfl, rfl⟩ ⟨by decide, by decide⟩ ⟨Nat.le_refl _, Nat.le_refl _⟩ (Nat.le_of_ble_eq_true rfl) rfl h (fun r5 I4 h => ?_)
    refine x_if_ne (pc := 33) (t := 39) dX11_had_33 (by decide) (fun e => ?_) (fun e => ?_)
    · have h := h.1 e
      refine x_goto (pc := 36) (t := 133) dX11_had_36 (by decide) ?_
      refine x_iinc (pc := 133) (L' := [some (vr G r_obj), some (vi (v1)), some (vi (v2)), some (vi (v3 + 1)), none, none]) dX11_had_133 rfl (by decide) (xst1 rfl rfl rfl) ?_
      refine x_goto (pc := 136) (t := 17) dX11_had_136 (by decide) ?_
      exact h
    · have h := h.2 e
      refine x_iconst (pc := 39) dX11_had_39 ?_
      refine x_istore (pc := 40) (L' := [some (vr G r_obj), some (vi (v1)), some (vi (v2)), some (vi (v3)), some (vi (0)), none]) dX11_had_40 (by decide) (xst1 rfl rfl rfl) ?_
      refine x_iconst (pc := 42) dX11_had_42 ?_
      refine x_istore (pc := 43) (L' := [some (vr G r_obj), some (vi (v1)), some (vi (v2)), some (vi (v3)), some (vi (0)), some (vi (0))]) dX11_had_43 (by decide) (xst1 rfl rfl rfl) ?_
      exact h
set_option maxHeartbeats 4000000 in
set_option maxRecDepth 100000 in
theorem b_R_had_k45 {G : XG} {S : XS}  {I : XI} {v1 : Int} {v2 : Int} {v3 : Int} {v4 : Int} {v5 : Int} {R : Int → XI → Prop} (hS : xSh S)  (h : ((w32 (I r_acts 0) ≤ w32 (v5) → ((w32 (v4) = w32 (v2) → (inb (v3) 600 ∧ R (I r_actCamp (ix (v3))) I)) ∧ (¬ (w32 (v4) = w32 (v2)) → R_had_k17 G S I (v1) (v2) (v3 + 1) R))) ∧ (¬ (w32 (I r_acts 0) ≤ w32 (v5)) → R_gives G S I (v5) (v1) (fun r7 I6 => ((w32 (r7) = 0 → R_had_k45 G S I6 (v1) (v2) (v3) ((v4) + (0)) (v5 + 1) R) ∧ (¬ (w32 (r7) = 0) → (inb (v5) 600 ∧ (inb (v3) 600 ∧ ((w32 (I6 r_actWeek (ix (v5))) < w32 (I6 r_actWeek (ix (v3))) → R_had_k45 G S I6 (v1) (v2) (v3) ((v4) + (1)) (v5 + 1) R) ∧ (¬ (w32 (I6 r_actWeek (ix (v5))) < w32 (I6 r_actWeek (ix (v3)))) → (inb (v5) 600 ∧ (inb (v3) 600 ∧ ((w32 (I6 r_actWeek (ix (v5))) = w32 (I6 r_actWeek (ix (v3))) → ((w32 (v3) ≤ w32 (v5) → R_had_k45 G S I6 (v1) (v2) (v3) ((v4) + (0)) (v5 + 1) R) ∧ (¬ (w32 (v3) ≤ w32 (v5)) → R_had_k45 G S I6 (v1) (v2) (v3) ((v4) + (1)) (v5 + 1) R))) ∧ (¬ (w32 (I6 r_actWeek (ix (v5))) = w32 (I6 r_actWeek (ix (v3)))) → R_had_k45 G S I6 (v1) (v2) (v3) ((v4) + (0)) (v5 + 1) R)))))))))))))) : R_had_k45 G S  I v1 v2 v3 v4 v5 R := by
  unfold R_had_k45
  refine x_iload (pc := 45) dX11_had_45 rfl ?_
  refine x_aload_n (pc := 47) dX11_had_47 rfl rfl ?_
  refine x_getR (pc := 48) (i := r_obj) (a := r_acts) fl_X11_105 dX11_had_48 (sN_r_obj hS) (sT_r_obj hS) rfl (sR_r_obj_32 hS) ?_
  refine x_iconst (pc := 51) dX11_had_51 ?_
  refine y_iald (pc := 52) (i := r_acts) (n := 4) dX11_had_52 (sN_r_acts hS) (sT_r_acts hS) (sL_r_acts hS) (inb_nat (k := 0) (by decide) (by decide)) ?_
  rw [show ix 0 = 0 from rfl]
  refine x_icmp_ge (pc := 53) (t := 120) dX11_had_53 (by decide) (fun e => ?_) (fun e => ?_)
  · have h := h.1 e
    refine x_iload (pc := 120) dX11_had_120 rfl ?_
    refine x_iload_n (pc := 122) dX11_had_122 rfl rfl ?_
    refine x_icmp_ne (pc := 123) (t := 133) dX11_had_123 (by decide) (fun e => ?_) (fun e => ?_)
    · have h := h.1 e
      refine x_aload_n (pc := 126) dX11_had_126 rfl rfl ?_
      refine x_getR (pc := 127) (i := r_obj) (a := r_actCamp) fl_X11_114 dX11_had_127 (sN_r_obj hS) (sT_r_obj hS) rfl (sR_r_obj_35 hS) ?_
      refine x_iload_n (pc := 130) dX11_had_130 rfl rfl ?_
      refine y_iald (pc := 131) (i := r_actCamp) (n := 600) dX11_had_131 (sN_r_actCamp hS) (sT_r_actCamp hS) (sL_r_actCamp hS) h.1 ?_
      have h := h.2
      exact y_iret (pc := 132) dX11_had_132 rfl ⟨Nat.le_refl _, Nat.le_refl _⟩ h
    · have h := h.2 e
      refine x_iinc (pc := 133) (L' := [some (vr G r_obj), some (vi (v1)), some (vi (v2)), some (vi (v3 + 1)), some (vi (v4)), some (vi (v5))]) dX11_had_133 rfl (by decide) (xst1 rfl rfl rfl) ?_
      refine x_goto (pc := 136) (t := 17) dX11_had_136 (by decide) ?_
      refine x_less (L' := [some (vr G r_obj), some (vi (v1)), some (vi (v2)), some (vi (v3 + 1)), none, none]) (And.intro rfl (And.intro rfl (And.intro rfl (And.intro rfl trivial)))) ?_
      exact h
  · have h := h.2 e
    refine x_iload (pc := 56) dX11_had_56 rfl ?_
    refine x_aload_n (pc := 58) dX11_had_58 rfl rfl ?_
    refine x_iload (pc := 59) dX11_had_59 rfl ?_
    refine x_iload_n (pc := 61) dX11_had_61 rfl rfl ?_
    refine y_Vi (pc := 62) (i := r_obj) (As := [vi (v5), vi (v1)]) (rest := [vi (v4)]) ok_X11_gives ml_X11_332 dX11_had_62 (sN_r_obj hS) (sT_r_obj hS) (by decide) rfl rfl rfl ⟨rfl, rfl⟩ ⟨by decide, by decide⟩ ⟨Nat.le_refl _, Nat.le_refl _⟩ (Nat.le_of_ble_eq_true rfl) rfl h (fun r7 I6 h => ?_)
    refine x_if_eq (pc := 65) (t := 110) dX11_had_65 (by decide) (fun e => ?_) (fun e => ?_)
    · have h := h.1 e
      refine x_iconst (pc := 110) dX11_had_110 ?_
      refine x_iadd (pc := 111) dX11_had_111 ?_
      refine x_istore (pc := 112) (L' := [some (vr G r_obj), some (vi (v1)), some (vi (v2)), some (vi (v3)), some (vi ((v4) + (0))), some (vi (v5))]) dX11_had_112 (by decide) (xst1 rfl rfl rfl) ?_
      refine x_iinc (pc := 114) (L' := [some (vr G r_obj), some (vi (v1)), some (vi (v2)), some (vi (v3)), some (vi ((v4) + (0))), some (vi (v5 + 1))]) dX11_had_114 rfl (by decide) (xst1 rfl rfl rfl) ?_
      refine x_goto (pc := 117) (t := 45) dX11_had_117 (by decide) ?_
      exact h
    · have h := h.2 e
      refine x_aload_n (pc := 68) dX11_had_68 rfl rfl ?_
      refine x_getR (pc := 69) (i := r_obj) (a := r_actWeek) fl_X11_117 dX11_had_69 (sN_r_obj hS) (sT_r_obj hS) rfl (sR_r_obj_36 hS) ?_
      refine x_iload (pc := 72) dX11_had_72 rfl ?_
      refine y_iald (pc := 74) (i := r_actWeek) (n := 600) dX11_had_74 (sN_r_actWeek hS) (sT_r_actWeek hS) (sL_r_actWeek hS) h.1 ?_
      have h := h.2
      refine x_aload_n (pc := 75) dX11_had_75 rfl rfl ?_
      refine x_getR (pc := 76) (i := r_obj) (a := r_actWeek) fl_X11_117 dX11_had_76 (sN_r_obj hS) (sT_r_obj hS) rfl (sR_r_obj_36 hS) ?_
      refine x_iload_n (pc := 79) dX11_had_79 rfl rfl ?_
      refine y_iald (pc := 80) (i := r_actWeek) (n := 600) dX11_had_80 (sN_r_actWeek hS) (sT_r_actWeek hS) (sL_r_actWeek hS) h.1 ?_
      have h := h.2
      refine x_icmp_lt (pc := 81) (t := 106) dX11_had_81 (by decide) (fun e => ?_) (fun e => ?_)
      · have h := h.1 e
        refine x_iconst (pc := 106) dX11_had_106 ?_
        refine x_goto (pc := 107) (t := 111) dX11_had_107 (by decide) ?_
        refine x_iadd (pc := 111) dX11_had_111 ?_
        refine x_istore (pc := 112) (L' := [some (vr G r_obj), some (vi (v1)), some (vi (v2)), some (vi (v3)), some (vi ((v4) + (1))), some (vi (v5))]) dX11_had_112 (by decide) (xst1 rfl rfl rfl) ?_
        refine x_iinc (pc := 114) (L' := [some (vr G r_obj), some (vi (v1)), some (vi (v2)), some (vi (v3)), some (vi ((v4) + (1))), some (vi (v5 + 1))]) dX11_had_114 rfl (by decide) (xst1 rfl rfl rfl) ?_
        refine x_goto (pc := 117) (t := 45) dX11_had_117 (by decide) ?_
        exact h
      · have h := h.2 e
        refine x_aload_n (pc := 84) dX11_had_84 rfl rfl ?_
        refine x_getR (pc := 85) (i := r_obj) (a := r_actWeek) fl_X11_117 dX11_had_85 (sN_r_obj hS) (sT_r_obj hS) rfl (sR_r_obj_36 hS) ?_
        refine x_iload (pc := 88) dX11_had_88 rfl ?_
        refine y_iald (pc := 90) (i := r_actWeek) (n := 600) dX11_had_90 (sN_r_actWeek hS) (sT_r_actWeek hS) (sL_r_actWeek hS) h.1 ?_
        have h := h.2
        refine x_aload_n (pc := 91) dX11_had_91 rfl rfl ?_
        refine x_getR (pc := 92) (i := r_obj) (a := r_actWeek) fl_X11_117 dX11_had_92 (sN_r_obj hS) (sT_r_obj hS) rfl (sR_r_obj_36 hS) ?_
        refine x_iload_n (pc := 95) dX11_had_95 rfl rfl ?_
        refine y_iald (pc := 96) (i := r_actWeek) (n := 600) dX11_had_96 (sN_r_actWeek hS) (sT_r_actWeek hS) (sL_r_actWeek hS) h.1 ?_
        have h := h.2
        refine x_icmp_ne (pc := 97) (t := 110) dX11_had_97 (by decide) (fun e => ?_) (fun e => ?_)
        · have h := h.1 e
          refine x_iload (pc := 100) dX11_had_100 rfl ?_
          refine x_iload_n (pc := 102) dX11_had_102 rfl rfl ?_
          refine x_icmp_ge (pc := 103) (t := 110) dX11_had_103 (by decide) (fun e => ?_) (fun e => ?_)
          · have h := h.1 e
            refine x_iconst (pc := 110) dX11_had_110 ?_
            refine x_iadd (pc := 111) dX11_had_111 ?_
            refine x_istore (pc := 112) (L' := [some (vr G r_obj), some (vi (v1)), some (vi (v2)), some (vi (v3)), some (vi ((v4) + (0))), some (vi (v5))]) dX11_had_112 (by decide) (xst1 rfl rfl rfl) ?_
            refine x_iinc (pc := 114) (L' := [some (vr G r_obj), some (vi (v1)), some (vi (v2)), some (vi (v3)), some (vi ((v4) + (0))), some (vi (v5 + 1))]) dX11_had_114 rfl (by decide) (xst1 rfl rfl rfl) ?_
            refine x_goto (pc := 117) (t := 45) dX11_had_117 (by decide) ?_
            exact h
          · have h := h.2 e
            refine x_iconst (pc := 106) dX11_had_106 ?_
            refine x_goto (pc := 107) (t := 111) dX11_had_107 (by decide) ?_
            refine x_iadd (pc := 111) dX11_had_111 ?_
            refine x_istore (pc := 112) (L' := [some (vr G r_obj), some (vi (v1)), some (vi (v2)), some (vi (v3)), some (vi ((v4) + (1))), some (vi (v5))]) dX11_had_112 (by decide) (xst1 rfl rfl rfl) ?_
            refine x_iinc (pc := 114) (L' := [some (vr G r_obj), some (vi (v1)), some (vi (v2)), some (vi (v3)), some (vi ((v4) + (1))), some (vi (v5 + 1))]) dX11_had_114 rfl (by decide) (xst1 rfl rfl rfl) ?_
            refine x_goto (pc := 117) (t := 45) dX11_had_117 (by decide) ?_
            exact h
        · have h := h.2 e
          refine x_iconst (pc := 110) dX11_had_110 ?_
          refine x_iadd (pc := 111) dX11_had_111 ?_
          refine x_istore (pc := 112) (L' := [some (vr G r_obj), some (vi (v1)), some (vi (v2)), some (vi (v3)), some (vi ((v4) + (0))), some (vi (v5))]) dX11_had_112 (by decide) (xst1 rfl rfl rfl) ?_
          refine x_iinc (pc := 114) (L' := [some (vr G r_obj), some (vi (v1)), some (vi (v2)), some (vi (v3)), some (vi ((v4) + (0))), some (vi (v5 + 1))]) dX11_had_114 rfl (by decide) (xst1 rfl rfl rfl) ?_
          refine x_goto (pc := 117) (t := 45) dX11_had_117 (by decide) ?_
          exact h
set_option maxHeartbeats 4000000 in
set_option maxRecDepth 100000 in
theorem b_R_hasRead {G : XG} {S : XS} {I : XI} {v1 : Int} {v2 : Int} {R : Int → XI → Prop} (hS : xSh S)  (h : (inb (v1) 48 ∧ ((w32 (iand (ishr (I r_readerBooks (ix (v1))) (v2)) (1)) = 0 → R (0) I) ∧ (¬ (w32 (iand (ishr (I r_readerBooks (ix (v1))) (v2)) (1)) = 0) → R (1) I)))) : R_hasRead G S I v1 v2 R := by
  refine x_start [some (vr G r_obj), some (vi (v1)), some (vi (v2))] (by decide) (Nat.le_of_ble_eq_true rfl) rfl ?_
  refine x_aload_n (pc := 0) dX11_hasRead_0 rfl rfl ?_
  refine x_getR (pc := 1) (i := r_obj) (a := r_readerBooks) fl_X11_162 dX11_hasRead_1 (sN_r_obj hS) (sT_r_obj hS) rfl (sR_r_obj_51 hS) ?_
  refine x_iload_n (pc := 4) dX11_hasRead_4 rfl rfl ?_
  refine y_iald (pc := 5) (i := r_readerBooks) (n := 48) dX11_hasRead_5 (sN_r_readerBooks hS) (sT_r_readerBooks hS) (sL_r_readerBooks hS) h.1 ?_
  have h := h.2
  refine x_iload_n (pc := 6) dX11_hasRead_6 rfl rfl ?_
  refine x_ishr (pc := 7) dX11_hasRead_7 ?_
  refine x_iconst (pc := 8) dX11_hasRead_8 ?_
  refine x_iand (pc := 9) dX11_hasRead_9 ?_
  refine x_if_eq (pc := 10) (t := 17) dX11_hasRead_10 (by decide) (fun e => ?_) (fun e => ?_)
  · have h := h.1 e
    refine x_iconst (pc := 17) dX11_hasRead_17 ?_
    exact y_zret (pc := 18) dX11_hasRead_18 rfl ⟨Nat.le_refl _, Nat.le_refl _⟩ (Or.inl rfl) h
  · have h := h.2 e
    refine x_iconst (pc := 13) dX11_hasRead_13 ?_
    refine x_goto (pc := 14) (t := 18) dX11_hasRead_14 (by decide) ?_
    exact y_zret (pc := 18) dX11_hasRead_18 rfl ⟨Nat.le_refl _, Nat.le_refl _⟩ (Or.inr rfl) h
set_option maxHeartbeats 4000000 in
set_option maxRecDepth 100000 in
theorem b_R_hear {G : XG} {S : XS} {I : XI} {v1 : Int} {R : XI → Prop} (hS : xSh S)  (h : (inb (v1) 240 ∧ (inb (v1) 240 ∧ ((w32 (I r_newsSeen (ix (v1))) = 0 → (inb (I r_newsCell (ix (v1))) 10 ∧ ((w32 (I r_parts (ix (I r_newsCell (ix (v1))))) = w32 (1000000) → R_hear_k40 G S I (v1) R) ∧ (¬ (w32 (I r_parts (ix (I r_newsCell (ix (v1))))) = w32 (1000000)) → R_hear_k61 G S I (v1) (I r_newsCell (ix (v1))) R)))) ∧ (¬ (w32 (I r_newsSeen (ix (v1))) = 0) → (inb (I r_newsCell (ix (v1))) 10 ∧ ((w32 (I r_parts (ix (I r_newsCell (ix (v1))))) = 0 → R_hear_k40 G S I (v1) R) ∧ (¬ (w32 (I r_parts (ix (I r_newsCell (ix (v1))))) = 0) → R_hear_k61 G S I (v1) (I r_newsCell (ix (v1))) R)))))))) : R_hear G S I v1 R := by
  refine x_start [some (vr G r_obj), some (vi (v1)), none, none, none, none, none, none] (by decide) (Nat.le_of_ble_eq_true rfl) rfl ?_
  refine x_aload_n (pc := 0) dX11_hear_0 rfl rfl ?_
  refine x_getR (pc := 1) (i := r_obj) (a := r_newsCell) fl_X11_75 dX11_hear_1 (sN_r_obj hS) (sT_r_obj hS) rfl (sR_r_obj_22 hS) ?_
  refine x_iload_n (pc := 4) dX11_hear_4 rfl rfl ?_
  refine y_iald (pc := 5) (i := r_newsCell) (n := 240) dX11_hear_5 (sN_r_newsCell hS) (sT_r_newsCell hS) (sL_r_newsCell hS) h.1 ?_
  have h := h.2
  refine x_istore_n (pc := 6) (L' := [some (vr G r_obj), some (vi (v1)), some (vi (I r_newsCell (ix (v1)))), none, none, none, none, none]) dX11_hear_6 rfl (by decide) (xst1 rfl rfl rfl) ?_
  refine x_aload_n (pc := 7) dX11_hear_7 rfl rfl ?_
  refine x_getR (pc := 8) (i := r_obj) (a := r_newsSeen) fl_X11_81 dX11_hear_8 (sN_r_obj hS) (sT_r_obj hS) rfl (sR_r_obj_24 hS) ?_
  refine x_iload_n (pc := 11) dX11_hear_11 rfl rfl ?_
  refine y_zald (pc := 12) (i := r_newsSeen) (n := 240) dX11_hear_12 (sN_r_newsSeen hS) (sT_r_newsSeen hS) (sL_r_newsSeen hS) h.1 ?_
  have h := h.2
  refine x_if_eq (pc := 13) (t := 28) dX11_hear_13 (by decide) (fun e => ?_) (fun e => ?_)
  · have h := h.1 e
    refine x_aload_n (pc := 28) dX11_hear_28 rfl rfl ?_
    refine x_getR (pc := 29) (i := r_obj) (a := r_parts) fl_X11_165 dX11_hear_29 (sN_r_obj hS) (sT_r_obj hS) rfl (sR_r_obj_52 hS) ?_
    refine x_iload_n (pc := 32) dX11_hear_32 rfl rfl ?_
    refine y_iald (pc := 33) (i := r_parts) (n := 10) dX11_hear_33 (sN_r_parts hS) (sT_r_parts hS) (sL_r_parts hS) h.1 ?_
    have h := h.2
    refine x_ldcw (pc := 34) (z := 1000000) dX11_hear_34 ko_X11_256 rfl ?_
    refine x_icmp_ne (pc := 37) (t := 61) dX11_hear_37 (by decide) (fun e => ?_) (fun e => ?_)
    · have h := h.1 e
      refine x_less (L' := [some (vr G r_obj), some (vi (v1)), none, none, none, none, none, none]) (And.intro rfl (And.intro rfl trivial)) ?_
      exact h
    · have h := h.2 e
      exact h
  · have h := h.2 e
    refine x_aload_n (pc := 16) dX11_hear_16 rfl rfl ?_
    refine x_getR (pc := 17) (i := r_obj) (a := r_parts) fl_X11_165 dX11_hear_17 (sN_r_obj hS) (sT_r_obj hS) rfl (sR_r_obj_52 hS) ?_
    refine x_iload_n (pc := 20) dX11_hear_20 rfl rfl ?_
    refine y_iald (pc := 21) (i := r_parts) (n := 10) dX11_hear_21 (sN_r_parts hS) (sT_r_parts hS) (sL_r_parts hS) h.1 ?_
    have h := h.2
    refine x_if_ne (pc := 22) (t := 61) dX11_hear_22 (by decide) (fun e => ?_) (fun e => ?_)
    · have h := h.1 e
      refine x_goto (pc := 25) (t := 40) dX11_hear_25 (by decide) ?_
      refine x_less (L' := [some (vr G r_obj), some (vi (v1)), none, none, none, none, none, none]) (And.intro rfl (And.intro rfl trivial)) ?_
      exact h
    · have h := h.2 e
      exact h
set_option maxHeartbeats 4000000 in
set_option maxRecDepth 100000 in
theorem b_R_hear_k40 {G : XG} {S : XS}  {I : XI} {v1 : Int} {R : XI → Prop} (hS : xSh S)  (h : (inb (I r_obj 56) 60 ∧ (∀ I1 : XI, I1 = up I r_quarrel (ix (I r_obj 56)) (v1) → (∀ I2 : XI, I2 = up I1 r_obj 56 ((I1 r_obj 56) + (1)) → R I2)))) : R_hear_k40 G S  I v1 R := by
  unfold R_hear_k40
  refine x_aload_n (pc := 40) dX11_hear_40 rfl rfl ?_
  refine x_getR (pc := 41) (i := r_obj) (a := r_quarrel) fl_X11_178 dX11_hear_41 (sN_r_obj hS) (sT_r_obj hS) rfl (sR_r_obj_57 hS) ?_
  refine x_aload_n (pc := 44) dX11_hear_44 rfl rfl ?_
  refine x_getI (pc := 45) (i := r_obj) fl_X11_257 dX11_hear_45 (sN_r_obj hS) (sT_r_obj hS) rfl ?_
  refine x_iload_n (pc := 48) dX11_hear_48 rfl rfl ?_
  refine y_iast (pc := 49) (i := r_quarrel) (n := 60) dX11_hear_49 (sN_r_quarrel hS) (sT_r_quarrel hS) (sL_r_quarrel hS) h.1 ?_
  have h := h.2
  have h := h _ rfl
  generalize up I r_quarrel (ix (I r_obj 56)) (v1) = I1 at h ⊢
  refine x_aload_n (pc := 50) dX11_hear_50 rfl rfl ?_
  refine x_dup (pc := 51) dX11_hear_51 rfl ?_
  refine x_getI (pc := 52) (i := r_obj) fl_X11_257 dX11_hear_52 (sN_r_obj hS) (sT_r_obj hS) rfl ?_
  refine x_iconst (pc := 55) dX11_hear_55 ?_
  refine x_iadd (pc := 56) dX11_hear_56 ?_
  refine x_putI (pc := 57) (i := r_obj) fl_X11_257 dX11_hear_57 (sN_r_obj hS) (sT_r_obj hS) rfl ?_
  have h := h _ rfl
  generalize up I1 r_obj 56 ((I1 r_obj 56) + (1)) = I2 at h ⊢
  exact y_vret (pc := 60) dX11_hear_60 rfl ⟨Nat.le_refl _, Nat.le_refl _⟩ h
set_option maxHeartbeats 4000000 in
set_option maxRecDepth 100000 in
theorem b_R_hear_k61 {G : XG} {S : XS}  {I : XI} {v1 : Int} {v2 : Int} {R : XI → Prop} (hS : xSh S)  (h : (inb (v2) 10 ∧ R_hear_k80 G S I (v1) (v2) ((1000000) - (I r_parts (ix (v2)))) (1000000) (0) R)) : R_hear_k61 G S  I v1 v2 R := by
  unfold R_hear_k61
  refine x_ldcw (pc := 61) (z := 1000000) dX11_hear_61 ko_X11_256 rfl ?_
  refine x_aload_n (pc := 64) dX11_hear_64 rfl rfl ?_
  refine x_getR (pc := 65) (i := r_obj) (a := r_parts) fl_X11_165 dX11_hear_65 (sN_r_obj hS) (sT_r_obj hS) rfl (sR_r_obj_52 hS) ?_
  refine x_iload_n (pc := 68) dX11_hear_68 rfl rfl ?_
  refine y_iald (pc := 69) (i := r_parts) (n := 10) dX11_hear_69 (sN_r_parts hS) (sT_r_parts hS) (sL_r_parts hS) h.1 ?_
  have h := h.2
  refine x_isub (pc := 70) dX11_hear_70 ?_
  refine x_istore_n (pc := 71) (L' := [some (vr G r_obj), some (vi (v1)), some (vi (v2)), some (vi ((1000000) - (I r_parts (ix (v2))))), none, none, none, none]) dX11_hear_71 rfl (by decide) (xst1 rfl rfl rfl) ?_
  refine x_ldcw (pc := 72) (z := 1000000) dX11_hear_72 ko_X11_256 rfl ?_
  refine x_istore (pc := 75) (L' := [some (vr G r_obj), some (vi (v1)), some (vi (v2)), some (vi ((1000000) - (I r_parts (ix (v2))))), some (vi (1000000)), none, none, none]) dX11_hear_75 (by decide) (xst1 rfl rfl rfl) ?_
  refine x_iconst (pc := 77) dX11_hear_77 ?_
  refine x_istore (pc := 78) (L' := [some (vr G r_obj), some (vi (v1)), some (vi (v2)), some (vi ((1000000) - (I r_parts (ix (v2))))), some (vi (1000000)), some (vi (0)), none, none]) dX11_hear_78 (by decide) (xst1 rfl rfl rfl) ?_
  exact h
set_option maxHeartbeats 4000000 in
set_option maxRecDepth 100000 in
theorem b_R_hear_k80 {G : XG} {S : XS}  {I : XI} {v1 : Int} {v2 : Int} {v3 : Int} {v4 : Int} {v5 : Int} {R : XI → Prop} (hS : xSh S)  (h : ((w32 (10) ≤ w32 (v5) → R_share G S I (v4) (fun I3 => R_hear_k221 G S I3 (0) R)) ∧ (¬ (w32 (10) ≤ w32 (v5)) → (inb (v1) 240 ∧ ((w32 (I r_newsSeen (ix (v1))) = 0 → ((w32 (v5) = w32 (v2) → R_hear_k144 G S I (v1) (v2) (v3) (v4) (v5) (0) R) ∧ (¬ (w32 (v5) = w32 (v2)) → (inb (v5) 10 ∧ R_hear_k144 G S I (v1) (v2) (v3) (v4) (v5) ((1000000) * (w32 (I r_parts (ix (v5))))) R)))) ∧ (¬ (w32 (I r_newsSeen (ix (v1))) = 0) → ((w32 (v5) = w32 (v2) → (inb (v5) 10 ∧ (∀ I4 : XI, I4 = up I r_next (ix (v5)) (1000000) → R_hear_k80 G S I4 (v1) (v2) (v3) (0) (v5 + 1) R))) ∧ (¬ (w32 (v5) = w32 (v2)) → (inb (v5) 10 ∧ (∀ I5 : XI, I5 = up I r_next (ix (v5)) (0) → R_hear_k80 G S I5 (v1) (v2) (v3) (0) (v5 + 1) R)))))))))) : R_hear_k80 G S  I v1 v2 v3 v4 v5 R := by
  unfold R_hear_k80
  refine x_iload (pc := 80) dX11_hear_80 rfl ?_
  refine x_bipush (pc := 82) dX11_hear_82 (by decide) ?_
  refine x_icmp_ge (pc := 84) (t := 212) dX11_hear_84 (by decide) (fun e => ?_) (fun e => ?_)
  · have h := h.1 e
    refine x_aload_n (pc := 212) dX11_hear_212 rfl rfl ?_
    refine x_iload (pc := 213) dX11_hear_213 rfl ?_
    refine y_Vv (pc := 215) (i := r_obj) (As := [vi (v4)]) (rest := []) ok_X11_share ml_X11_252 dX11_hear_215 (sN_r_obj hS) (sT_r_obj hS) (by decide) rfl rfl rfl ⟨rfl, rfl⟩ ⟨by decide, by decide⟩ ⟨Nat.le_refl _, Nat.le_refl _⟩ (Nat.le_of_ble_eq_true rfl) rfl h (fun I3 h => ?_)
    refine x_iconst (pc := 218) dX11_hear_218 ?_
    refine x_istore (pc := 219) (L' := [some (vr G r_obj), some (vi (v1)), some (vi (v2)), some (vi (v3)), some (vi (v4)), some (vi (0)), none, none]) dX11_hear_219 (by decide) (xst1 rfl rfl rfl) ?_
    refine x_less (L' := [some (vr G r_obj), none, none, none, none, some (vi (0)), none, none]) (And.intro rfl (And.intro rfl trivial)) ?_
    exact h
  · have h := h.2 e
    refine x_aload_n (pc := 87) dX11_hear_87 rfl rfl ?_
    refine x_getR (pc := 88) (i := r_obj) (a := r_newsSeen) fl_X11_81 dX11_hear_88 (sN_r_obj hS) (sT_r_obj hS) rfl (sR_r_obj_24 hS) ?_
    refine x_iload_n (pc := 91) dX11_hear_91 rfl rfl ?_
    refine y_zald (pc := 92) (i := r_newsSeen) (n := 240) dX11_hear_92 (sN_r_newsSeen hS) (sT_r_newsSeen hS) (sL_r_newsSeen hS) h.1 ?_
    have h := h.2
    refine x_if_eq (pc := 93) (t := 122) dX11_hear_93 (by decide) (fun e => ?_) (fun e => ?_)
    · have h := h.1 e
      refine x_iload (pc := 122) dX11_hear_122 rfl ?_
      refine x_iload_n (pc := 124) dX11_hear_124 rfl rfl ?_
      refine x_icmp_ne (pc := 125) (t := 132) dX11_hear_125 (by decide) (fun e => ?_) (fun e => ?_)
      · have h := h.1 e
        refine x_lconst (pc := 128) (z := 0) dX11_hear_128 (by decide) ?_
        refine x_goto (pc := 129) (t := 144) dX11_hear_129 (by decide) ?_
        exact h
      · have h := h.2 e
        refine x_ldc2 (pc := 132) (z := 1000000) dX11_hear_132 kl_X11_260 rfl ?_
        refine x_aload_n (pc := 135) dX11_hear_135 rfl rfl ?_
        refine x_getR (pc := 136) (i := r_obj) (a := r_parts) fl_X11_165 dX11_hear_136 (sN_r_obj hS) (sT_r_obj hS) rfl (sR_r_obj_52 hS) ?_
        refine x_iload (pc := 139) dX11_hear_139 rfl ?_
        refine y_iald (pc := 141) (i := r_parts) (n := 10) dX11_hear_141 (sN_r_parts hS) (sT_r_parts hS) (sL_r_parts hS) h.1 ?_
        have h := h.2
        refine x_i2l (pc := 142) dX11_hear_142 ?_
        refine x_lmul (pc := 143) dX11_hear_143 ?_
        exact h
    · have h := h.2 e
      refine x_aload_n (pc := 96) dX11_hear_96 rfl rfl ?_
      refine x_getR (pc := 97) (i := r_obj) (a := r_next) fl_X11_168 dX11_hear_97 (sN_r_obj hS) (sT_r_obj hS) rfl (sR_r_obj_53 hS) ?_
      refine x_iload (pc := 100) dX11_hear_100 rfl ?_
      refine x_iload (pc := 102) dX11_hear_102 rfl ?_
      refine x_iload_n (pc := 104) dX11_hear_104 rfl rfl ?_
      refine x_icmp_ne (pc := 105) (t := 114) dX11_hear_105 (by decide) (fun e => ?_) (fun e => ?_)
      · have h := h.1 e
        refine x_ldcw (pc := 108) (z := 1000000) dX11_hear_108 ko_X11_256 rfl ?_
        refine x_goto (pc := 111) (t := 115) dX11_hear_111 (by decide) ?_
        refine y_iast (pc := 115) (i := r_next) (n := 10) dX11_hear_115 (sN_r_next hS) (sT_r_next hS) (sL_r_next hS) h.1 ?_
        have h := h.2
        have h := h _ rfl
        generalize up I r_next (ix (v5)) (1000000) = I4 at h ⊢
        refine x_iconst (pc := 116) dX11_hear_116 ?_
        refine x_istore (pc := 117) (L' := [some (vr G r_obj), some (vi (v1)), some (vi (v2)), some (vi (v3)), some (vi (0)), some (vi (v5)), none, none]) dX11_hear_117 (by decide) (xst1 rfl rfl rfl) ?_
        refine x_goto (pc := 119) (t := 206) dX11_hear_119 (by decide) ?_
        refine x_iinc (pc := 206) (L' := [some (vr G r_obj), some (vi (v1)), some (vi (v2)), some (vi (v3)), some (vi (0)), some (vi (v5 + 1)), none, none]) dX11_hear_206 rfl (by decide) (xst1 rfl rfl rfl) ?_
        refine x_goto (pc := 209) (t := 80) dX11_hear_209 (by decide) ?_
        exact h
      · have h := h.2 e
        refine x_iconst (pc := 114) dX11_hear_114 ?_
        refine y_iast (pc := 115) (i := r_next) (n := 10) dX11_hear_115 (sN_r_next hS) (sT_r_next hS) (sL_r_next hS) h.1 ?_
        have h := h.2
        have h := h _ rfl
        generalize up I r_next (ix (v5)) (0) = I5 at h ⊢
        refine x_iconst (pc := 116) dX11_hear_116 ?_
        refine x_istore (pc := 117) (L' := [some (vr G r_obj), some (vi (v1)), some (vi (v2)), some (vi (v3)), some (vi (0)), some (vi (v5)), none, none]) dX11_hear_117 (by decide) (xst1 rfl rfl rfl) ?_
        refine x_goto (pc := 119) (t := 206) dX11_hear_119 (by decide) ?_
        refine x_iinc (pc := 206) (L' := [some (vr G r_obj), some (vi (v1)), some (vi (v2)), some (vi (v3)), some (vi (0)), some (vi (v5 + 1)), none, none]) dX11_hear_206 rfl (by decide) (xst1 rfl rfl rfl) ?_
        refine x_goto (pc := 209) (t := 80) dX11_hear_209 (by decide) ?_
        exact h
set_option maxHeartbeats 4000000 in
set_option maxRecDepth 100000 in
theorem b_R_hear_k221 {G : XG} {S : XS}  {I : XI} {v5 : Int} {R : XI → Prop} (hS : xSh S)  (h : ((w32 (10) ≤ w32 (v5) → R I) ∧ (¬ (w32 (10) ≤ w32 (v5)) → (inb (v5) 10 ∧ (inb (v5) 10 ∧ (∀ I6 : XI, I6 = up I r_parts (ix (v5)) (I r_next (ix (v5))) → R_hear_k221 G S I6 (v5 + 1) R)))))) : R_hear_k221 G S  I v5 R := by
  unfold R_hear_k221
  refine x_iload (pc := 221) dX11_hear_221 rfl ?_
  refine x_bipush (pc := 223) dX11_hear_223 (by decide) ?_
  refine x_icmp_ge (pc := 225) (t := 248) dX11_hear_225 (by decide) (fun e => ?_) (fun e => ?_)
  · have h := h.1 e
    exact y_vret (pc := 248) dX11_hear_248 rfl ⟨Nat.le_refl _, Nat.le_refl _⟩ h
  · have h := h.2 e
    refine x_aload_n (pc := 228) dX11_hear_228 rfl rfl ?_
    refine x_getR (pc := 229) (i := r_obj) (a := r_parts) fl_X11_165 dX11_hear_229 (sN_r_obj hS) (sT_r_obj hS) rfl (sR_r_obj_52 hS) ?_
    refine x_iload (pc := 232) dX11_hear_232 rfl ?_
    refine x_aload_n (pc := 234) dX11_hear_234 rfl rfl ?_
    refine x_getR (pc := 235) (i := r_obj) (a := r_next) fl_X11_168 dX11_hear_235 (sN_r_obj hS) (sT_r_obj hS) rfl (sR_r_obj_53 hS) ?_
    refine x_iload (pc := 238) dX11_hear_238 rfl ?_
    refine y_iald (pc := 240) (i := r_next) (n := 10) dX11_hear_240 (sN_r_next hS) (sT_r_next hS) (sL_r_next hS) h.1 ?_
    have h := h.2
    refine y_iast (pc := 241) (i := r_parts) (n := 10) dX11_hear_241 (sN_r_parts hS) (sT_r_parts hS) (sL_r_parts hS) h.1 ?_
    have h := h.2
    have h := h _ rfl
    generalize up I r_parts (ix (v5)) (I r_next (ix (v5))) = I6 at h ⊢
    refine x_iinc (pc := 242) (L' := [some (vr G r_obj), none, none, none, none, some (vi (v5 + 1)), none, none]) dX11_hear_242 rfl (by decide) (xst1 rfl rfl trivial) ?_
    refine x_goto (pc := 245) (t := 221) dX11_hear_245 (by decide) ?_
    exact h
set_option maxHeartbeats 4000000 in
set_option maxRecDepth 100000 in
theorem b_R_hear_k144 {G : XG} {S : XS}  {I : XI} {v1 : Int} {v2 : Int} {v3 : Int} {v4 : Int} {v5 : Int} {s0 : Int} {R : XI → Prop} (hS : xSh S)  (h : (w64 (w32 (v3)) ≠ 0 ∧ (inb (v5) 10 ∧ (∀ I7 : XI, I7 = up I r_next (ix (v5)) (ldiv (s0) (w32 (v3))) → (inb (v5) 10 ∧ ((w32 (v5) = w32 (v2) → (inb (v5) 10 ∧ (∀ I8 : XI, I8 = up I7 r_rest (ix (v5)) ((-1)) → R_hear_k80 G S I8 (v1) (v2) (v3) ((v4) - (I7 r_next (ix (v5)))) (v5 + 1) R))) ∧ (¬ (w32 (v5) = w32 (v2)) → ((w32 (v5) < w32 (I7 r_cells 0) → (w64 (w32 (v3)) ≠ 0 ∧ (inb (v5) 10 ∧ (∀ I9 : XI, I9 = up I7 r_rest (ix (v5)) (lrem (s0) (w32 (v3))) → R_hear_k80 G S I9 (v1) (v2) (v3) ((v4) - (I7 r_next (ix (v5)))) (v5 + 1) R)))) ∧ (¬ (w32 (v5) < w32 (I7 r_cells 0)) → (inb (v5) 10 ∧ (∀ I10 : XI, I10 = up I7 r_rest (ix (v5)) ((-1)) → R_hear_k80 G S I10 (v1) (v2) (v3) ((v4) - (I7 r_next (ix (v5)))) (v5 + 1) R))))))))))) : R_hear_k144 G S  I v1 v2 v3 v4 v5 s0 R := by
  unfold R_hear_k144
  refine x_lstore (pc := 144) (L' := [some (vr G r_obj), some (vi (v1)), some (vi (v2)), some (vi (v3)), some (vi (v4)), some (vi (v5)), some (vl (s0)), none]) dX11_hear_144 (by decide) (xst2 rfl rfl) ?_
  refine x_aload_n (pc := 146) dX11_hear_146 rfl rfl ?_
  refine x_getR (pc := 147) (i := r_obj) (a := r_next) fl_X11_168 dX11_hear_147 (sN_r_obj hS) (sT_r_obj hS) rfl (sR_r_obj_53 hS) ?_
  refine x_iload (pc := 150) dX11_hear_150 rfl ?_
  refine x_lload (pc := 152) dX11_hear_152 rfl ?_
  refine x_iload_n (pc := 154) dX11_hear_154 rfl rfl ?_
  refine x_i2l (pc := 155) dX11_hear_155 ?_
  refine x_ldiv (pc := 156) dX11_hear_156 h.1 ?_
  have h := h.2
  refine x_l2i (pc := 157) dX11_hear_157 ?_
  refine y_iast (pc := 158) (i := r_next) (n := 10) dX11_hear_158 (sN_r_next hS) (sT_r_next hS) (sL_r_next hS) h.1 ?_
  have h := h.2
  have h := h _ rfl
  generalize up I r_next (ix (v5)) (ldiv (s0) (w32 (v3))) = I7 at h ⊢
  refine x_iload (pc := 159) dX11_hear_159 rfl ?_
  refine x_aload_n (pc := 161) dX11_hear_161 rfl rfl ?_
  refine x_getR (pc := 162) (i := r_obj) (a := r_next) fl_X11_168 dX11_hear_162 (sN_r_obj hS) (sT_r_obj hS) rfl (sR_r_obj_53 hS) ?_
  refine x_iload (pc := 165) dX11_hear_165 rfl ?_
  refine y_iald (pc := 167) (i := r_next) (n := 10) dX11_hear_167 (sN_r_next hS) (sT_r_next hS) (sL_r_next hS) h.1 ?_
  have h := h.2
  refine x_isub (pc := 168) dX11_hear_168 ?_
  refine x_istore (pc := 169) (L' := [some (vr G r_obj), some (vi (v1)), some (vi (v2)), some (vi (v3)), some (vi ((v4) - (I7 r_next (ix (v5))))), some (vi (v5)), some (vl (s0)), none]) dX11_hear_169 (by decide) (xst1 rfl rfl rfl) ?_
  refine x_aload_n (pc := 171) dX11_hear_171 rfl rfl ?_
  refine x_getR (pc := 172) (i := r_obj) (a := r_rest) fl_X11_174 dX11_hear_172 (sN_r_obj hS) (sT_r_obj hS) rfl (sR_r_obj_55 hS) ?_
  refine x_iload (pc := 175) dX11_hear_175 rfl ?_
  refine x_iload (pc := 177) dX11_hear_177 rfl ?_
  refine x_iload_n (pc := 179) dX11_hear_179 rfl rfl ?_
  refine x_icmp_eq (pc := 180) (t := 194) dX11_hear_180 (by decide) (fun e => ?_) (fun e => ?_)
  · have h := h.1 e
    refine x_ldc2 (pc := 194) (z := (-1)) dX11_hear_194 kl_X11_246 rfl ?_
    refine x_goto (pc := 197) (t := 205) dX11_hear_197 (by decide) ?_
    refine y_last (pc := 205) (i := r_rest) (n := 10) dX11_hear_205 (sN_r_rest hS) (sT_r_rest hS) (sL_r_rest hS) h.1 ?_
    have h := h.2
    have h := h _ rfl
    generalize up I7 r_rest (ix (v5)) ((-1)) = I8 at h ⊢
    refine x_iinc (pc := 206) (L' := [some (vr G r_obj), some (vi (v1)), some (vi (v2)), some (vi (v3)), some (vi ((v4) - (I7 r_next (ix (v5))))), some (vi (v5 + 1)), some (vl (s0)), none]) dX11_hear_206 rfl (by decide) (xst1 rfl rfl rfl) ?_
    refine x_goto (pc := 209) (t := 80) dX11_hear_209 (by decide) ?_
    refine x_less (L' := [some (vr G r_obj), some (vi (v1)), some (vi (v2)), some (vi (v3)), some (vi ((v4) - (I7 r_next (ix (v5))))), some (vi (v5 + 1)), none, none]) (And.intro rfl (And.intro rfl (And.intro rfl (And.intro rfl (And.intro rfl (And.intro rfl trivial)))))) ?_
    exact h
  · have h := h.2 e
    refine x_iload (pc := 183) dX11_hear_183 rfl ?_
    refine x_aload_n (pc := 185) dX11_hear_185 rfl rfl ?_
    refine x_getR (pc := 186) (i := r_obj) (a := r_cells) fl_X11_29 dX11_hear_186 (sN_r_obj hS) (sT_r_obj hS) rfl (sR_r_obj_7 hS) ?_
    refine x_iconst (pc := 189) dX11_hear_189 ?_
    refine y_iald (pc := 190) (i := r_cells) (n := 4) dX11_hear_190 (sN_r_cells hS) (sT_r_cells hS) (sL_r_cells hS) (inb_nat (k := 0) (by decide) (by decide)) ?_
    rw [show ix 0 = 0 from rfl]
    refine x_icmp_lt (pc := 191) (t := 200) dX11_hear_191 (by decide) (fun e => ?_) (fun e => ?_)
    · have h := h.1 e
      refine x_lload (pc := 200) dX11_hear_200 rfl ?_
      refine x_iload_n (pc := 202) dX11_hear_202 rfl rfl ?_
      refine x_i2l (pc := 203) dX11_hear_203 ?_
      refine x_lrem (pc := 204) dX11_hear_204 h.1 ?_
      have h := h.2
      refine y_last (pc := 205) (i := r_rest) (n := 10) dX11_hear_205 (sN_r_rest hS) (sT_r_rest hS) (sL_r_rest hS) h.1 ?_
      have h := h.2
      have h := h _ rfl
      generalize up I7 r_rest (ix (v5)) (lrem (s0) (w32 (v3))) = I9 at h ⊢
      refine x_iinc (pc := 206) (L' := [some (vr G r_obj), some (vi (v1)), some (vi (v2)), some (vi (v3)), some (vi ((v4) - (I7 r_next (ix (v5))))), some (vi (v5 + 1)), some (vl (s0)), none]) dX11_hear_206 rfl (by decide) (xst1 rfl rfl rfl) ?_
      refine x_goto (pc := 209) (t := 80) dX11_hear_209 (by decide) ?_
      refine x_less (L' := [some (vr G r_obj), some (vi (v1)), some (vi (v2)), some (vi (v3)), some (vi ((v4) - (I7 r_next (ix (v5))))), some (vi (v5 + 1)), none, none]) (And.intro rfl (And.intro rfl (And.intro rfl (And.intro rfl (And.intro rfl (And.intro rfl trivial)))))) ?_
      exact h
    · have h := h.2 e
      refine x_ldc2 (pc := 194) (z := (-1)) dX11_hear_194 kl_X11_246 rfl ?_
      refine x_goto (pc := 197) (t := 205) dX11_hear_197 (by decide) ?_
      refine y_last (pc := 205) (i := r_rest) (n := 10) dX11_hear_205 (sN_r_rest hS) (sT_r_rest hS) (sL_r_rest hS) h.1 ?_
      have h := h.2
      have h := h _ rfl
      generalize up I7 r_rest (ix (v5)) ((-1)) = I10 at h ⊢
      refine x_iinc (pc := 206) (L' := [some (vr G r_obj), some (vi (v1)), some (vi (v2)), some (vi (v3)), some (vi ((v4) - (I7 r_next (ix (v5))))), some (vi (v5 + 1)), some (vl (s0)), none]) dX11_hear_206 rfl (by decide) (xst1 rfl rfl rfl) ?_
      refine x_goto (pc := 209) (t := 80) dX11_hear_209 (by decide) ?_
      refine x_less (L' := [some (vr G r_obj), some (vi (v1)), some (vi (v2)), some (vi (v3)), some (vi ((v4) - (I7 r_next (ix (v5))))), some (vi (v5 + 1)), none, none]) (And.intro rfl (And.intro rfl (And.intro rfl (And.intro rfl (And.intro rfl (And.intro rfl trivial)))))) ?_
      exact h
set_option maxHeartbeats 4000000 in
set_option maxRecDepth 100000 in
theorem b_R_hearAll {G : XG} {S : XS} {I : XI} {v1 : Int} {v2 : Int} {v3 : Int} {R : XI → Prop} (hS : xSh S)  (h : R_hearAll_k3 G S I (v1) (v2) (v3) (0) R) : R_hearAll G S I v1 v2 v3 R := by
  refine x_start [some (vr G r_obj), some (vi (v1)), some (vi (v2)), some (vi (v3)), none] (by decide) (Nat.le_of_ble_eq_true rfl) rfl ?_
  refine x_iconst (pc := 0) dX11_hearAll_0 ?_
  refine x_istore (pc := 1) (L' := [some (vr G r_obj), some (vi (v1)), some (vi (v2)), some (vi (v3)), some (vi (0))]) dX11_hearAll_1 (by decide) (xst1 rfl rfl rfl) ?_
  exact h
set_option maxHeartbeats 4000000 in
set_option maxRecDepth 100000 in
theorem b_R_hearAll_k3 {G : XG} {S : XS}  {I : XI} {v1 : Int} {v2 : Int} {v3 : Int} {v4 : Int} {R : XI → Prop} (hS : xSh S)  (h : ((w32 (I r_newsMany 0) ≤ w32 (v4) → R I) ∧ (¬ (w32 (I r_newsMany 0) ≤ w32 (v4)) → (inb (v4) 240 ∧ ((w32 (I r_newsCamp (ix (v4))) = w32 (v1) → (inb (v4) 240 ∧ ((w32 (I r_newsWeek (ix (v4))) = w32 (v2) → (inb (v4) 240 ∧ ((w32 (v3) < w32 (I r_newsTold (ix (v4))) → R_hearAll_k3 G S I (v1) (v2) (v3) (v4 + 1) R) ∧ (¬ (w32 (v3) < w32 (I r_newsTold (ix (v4)))) → R_hear G S I (v4) (fun I1 => R_hearAll_k3 G S I1 (v1) (v2) (v3) (v4 + 1) R))))) ∧ (¬ (w32 (I r_newsWeek (ix (v4))) = w32 (v2)) → R_hearAll_k3 G S I (v1) (v2) (v3) (v4 + 1) R)))) ∧ (¬ (w32 (I r_newsCamp (ix (v4))) = w32 (v1)) → R_hearAll_k3 G S I (v1) (v2) (v3) (v4 + 1) R)))))) : R_hearAll_k3 G S  I v1 v2 v3 v4 R := by
  unfold R_hearAll_k3
  refine x_iload (pc := 3) dX11_hearAll_3 rfl ?_
  refine x_aload_n (pc := 5) dX11_hearAll_5 rfl rfl ?_
  refine x_getR (pc := 6) (i := r_obj) (a := r_newsMany) fl_X11_69 dX11_hearAll_6 (sN_r_obj hS) (sT_r_obj hS) rfl (sR_r_obj_20 hS) ?_
  refine x_iconst (pc := 9) dX11_hearAll_9 ?_
  refine y_iald (pc := 10) (i := r_newsMany) (n := 4) dX11_hearAll_10 (sN_r_newsMany hS) (sT_r_newsMany hS) (sL_r_newsMany hS) (inb_nat (k := 0) (by decide) (by decide)) ?_
  rw [show ix 0 = 0 from rfl]
  refine x_icmp_ge (pc := 11) (t := 59) dX11_hearAll_11 (by decide) (fun e => ?_) (fun e => ?_)
  · have h := h.1 e
    exact y_vret (pc := 59) dX11_hearAll_59 rfl ⟨Nat.le_refl _, Nat.le_refl _⟩ h
  · have h := h.2 e
    refine x_aload_n (pc := 14) dX11_hearAll_14 rfl rfl ?_
    refine x_getR (pc := 15) (i := r_obj) (a := r_newsCamp) fl_X11_72 dX11_hearAll_15 (sN_r_obj hS) (sT_r_obj hS) rfl (sR_r_obj_21 hS) ?_
    refine x_iload (pc := 18) dX11_hearAll_18 rfl ?_
    refine y_iald (pc := 20) (i := r_newsCamp) (n := 240) dX11_hearAll_20 (sN_r_newsCamp hS) (sT_r_newsCamp hS) (sL_r_newsCamp hS) h.1 ?_
    have h := h.2
    refine x_iload_n (pc := 21) dX11_hearAll_21 rfl rfl ?_
    refine x_icmp_ne (pc := 22) (t := 53) dX11_hearAll_22 (by decide) (fun e => ?_) (fun e => ?_)
    · have h := h.1 e
      refine x_aload_n (pc := 25) dX11_hearAll_25 rfl rfl ?_
      refine x_getR (pc := 26) (i := r_obj) (a := r_newsWeek) fl_X11_78 dX11_hearAll_26 (sN_r_obj hS) (sT_r_obj hS) rfl (sR_r_obj_23 hS) ?_
      refine x_iload (pc := 29) dX11_hearAll_29 rfl ?_
      refine y_iald (pc := 31) (i := r_newsWeek) (n := 240) dX11_hearAll_31 (sN_r_newsWeek hS) (sT_r_newsWeek hS) (sL_r_newsWeek hS) h.1 ?_
      have h := h.2
      refine x_iload_n (pc := 32) dX11_hearAll_32 rfl rfl ?_
      refine x_icmp_ne (pc := 33) (t := 53) dX11_hearAll_33 (by decide) (fun e => ?_) (fun e => ?_)
      · have h := h.1 e
        refine x_aload_n (pc := 36) dX11_hearAll_36 rfl rfl ?_
        refine x_getR (pc := 37) (i := r_obj) (a := r_newsTold) fl_X11_84 dX11_hearAll_37 (sN_r_obj hS) (sT_r_obj hS) rfl (sR_r_obj_25 hS) ?_
        refine x_iload (pc := 40) dX11_hearAll_40 rfl ?_
        refine y_iald (pc := 42) (i := r_newsTold) (n := 240) dX11_hearAll_42 (sN_r_newsTold hS) (sT_r_newsTold hS) (sL_r_newsTold hS) h.1 ?_
        have h := h.2
        refine x_iload_n (pc := 43) dX11_hearAll_43 rfl rfl ?_
        refine x_icmp_gt (pc := 44) (t := 53) dX11_hearAll_44 (by decide) (fun e => ?_) (fun e => ?_)
        · have h := h.1 e
          refine x_iinc (pc := 53) (L' := [some (vr G r_obj), some (vi (v1)), some (vi (v2)), some (vi (v3)), some (vi (v4 + 1))]) dX11_hearAll_53 rfl (by decide) (xst1 rfl rfl rfl) ?_
          refine x_goto (pc := 56) (t := 3) dX11_hearAll_56 (by decide) ?_
          exact h
        · have h := h.2 e
          refine x_aload_n (pc := 47) dX11_hearAll_47 rfl rfl ?_
          refine x_iload (pc := 48) dX11_hearAll_48 rfl ?_
          refine y_Vv (pc := 50) (i := r_obj) (As := [vi (v4)]) (rest := []) ok_X11_hear ml_X11_262 dX11_hearAll_50 (sN_r_obj hS) (sT_r_obj hS) (by decide) rfl rfl rfl ⟨rfl, rfl⟩ ⟨by decide, by decide⟩ ⟨Nat.le_refl _, Nat.le_refl _⟩ (Nat.le_of_ble_eq_true rfl) rfl h (fun I1 h => ?_)
          refine x_iinc (pc := 53) (L' := [some (vr G r_obj), some (vi (v1)), some (vi (v2)), some (vi (v3)), some (vi (v4 + 1))]) dX11_hearAll_53 rfl (by decide) (xst1 rfl rfl rfl) ?_
          refine x_goto (pc := 56) (t := 3) dX11_hearAll_56 (by decide) ?_
          exact h
      · have h := h.2 e
        refine x_iinc (pc := 53) (L' := [some (vr G r_obj), some (vi (v1)), some (vi (v2)), some (vi (v3)), some (vi (v4 + 1))]) dX11_hearAll_53 rfl (by decide) (xst1 rfl rfl rfl) ?_
        refine x_goto (pc := 56) (t := 3) dX11_hearAll_56 (by decide) ?_
        exact h
    · have h := h.2 e
      refine x_iinc (pc := 53) (L' := [some (vr G r_obj), some (vi (v1)), some (vi (v2)), some (vi (v3)), some (vi (v4 + 1))]) dX11_hearAll_53 rfl (by decide) (xst1 rfl rfl rfl) ?_
      refine x_goto (pc := 56) (t := 3) dX11_hearAll_56 (by decide) ?_
      exact h
set_option maxHeartbeats 4000000 in
set_option maxRecDepth 100000 in
theorem b_R_held {G : XG} {S : XS} {I : XI} {v1 : Int} {v2 : Int} {v3 : Int} {v4 : Int} {R : Int → XI → Prop} (hS : xSh S)  (h : R_held_k6 G S I (v1) (v2) (v3) (v4) (0) (0) R) : R_held G S I v1 v2 v3 v4 R := by
  refine x_start [some (vr G r_obj), some (vi (v1)), some (vi (v2)), some (vi (v3)), some (vi (v4)), none, none] (by decide) (Nat.le_of_ble_eq_true rfl) rfl ?_
  refine x_iconst (pc := 0) dX11_held_0 ?_
  refine x_istore (pc := 1) (L' := [some (vr G r_obj), some (vi (v1)), some (vi (v2)), some (vi (v3)), some (vi (v4)), some (vi (0)), none]) dX11_held_1 (by decide) (xst1 rfl rfl rfl) ?_
  refine x_iconst (pc := 3) dX11_held_3 ?_
  refine x_istore (pc := 4) (L' := [some (vr G r_obj), some (vi (v1)), some (vi (v2)), some (vi (v3)), some (vi (v4)), some (vi (0)), some (vi (0))]) dX11_held_4 (by decide) (xst1 rfl rfl rfl) ?_
  exact h
set_option maxHeartbeats 4000000 in
set_option maxRecDepth 100000 in
theorem b_R_held_k6 {G : XG} {S : XS}  {I : XI} {v1 : Int} {v2 : Int} {v3 : Int} {v4 : Int} {v5 : Int} {v6 : Int} {R : Int → XI → Prop} (hS : xSh S)  (h : ((w32 (I r_books 0) ≤ w32 (v6) → R (v5) I) ∧ (¬ (w32 (I r_books 0) ≤ w32 (v6)) → R_whoHas G S I (v6) (v2) (v3) (fun r2 I1 => ((w32 (r2) = w32 (v1) → ((w32 (v4) = 0 → R_held_k6 G S I1 (v1) (v2) (v3) (v4) ((v5) + (1)) (v6 + 1) R) ∧ (¬ (w32 (v4) = 0) → R_isLate G S I1 (v6) (v2) (v3) (fun r4 I3 => ((w32 (r4) = 0 → R_held_k6 G S I3 (v1) (v2) (v3) (v4) ((v5) + (0)) (v6 + 1) R) ∧ (¬ (w32 (r4) = 0) → R_held_k6 G S I3 (v1) (v2) (v3) (v4) ((v5) + (1)) (v6 + 1) R)))))) ∧ (¬ (w32 (r2) = w32 (v1)) → R_held_k6 G S I1 (v1) (v2) (v3) (v4) ((v5) + (0)) (v6 + 1) R)))))) : R_held_k6 G S  I v1 v2 v3 v4 v5 v6 R := by
  unfold R_held_k6
  refine x_iload (pc := 6) dX11_held_6 rfl ?_
  refine x_aload_n (pc := 8) dX11_held_8 rfl rfl ?_
  refine x_getR (pc := 9) (i := r_obj) (a := r_books) fl_X11_87 dX11_held_9 (sN_r_obj hS) (sT_r_obj hS) rfl (sR_r_obj_26 hS) ?_
  refine x_iconst (pc := 12) dX11_held_12 ?_
  refine y_iald (pc := 13) (i := r_books) (n := 4) dX11_held_13 (sN_r_books hS) (sT_r_books hS) (sL_r_books hS) (inb_nat (k := 0) (by decide) (by decide)) ?_
  rw [show ix 0 = 0 from rfl]
  refine x_icmp_ge (pc := 14) (t := 61) dX11_held_14 (by decide) (fun e => ?_) (fun e => ?_)
  · have h := h.1 e
    refine x_iload (pc := 61) dX11_held_61 rfl ?_
    exact y_iret (pc := 63) dX11_held_63 rfl ⟨Nat.le_refl _, Nat.le_refl _⟩ h
  · have h := h.2 e
    refine x_iload (pc := 17) dX11_held_17 rfl ?_
    refine x_aload_n (pc := 19) dX11_held_19 rfl rfl ?_
    refine x_iload (pc := 20) dX11_held_20 rfl ?_
    refine x_iload_n (pc := 22) dX11_held_22 rfl rfl ?_
    refine x_iload_n (pc := 23) dX11_held_23 rfl rfl ?_
    refine y_Vi (pc := 24) (i := r_obj) (As := [vi (v6), vi (v2), vi (v3)]) (rest := [vi (v5)]) ok_X11_whoHas ml_X11_297 dX11_held_24 (sN_r_obj hS) (sT_r_obj hS) (by decide) rfl rfl rfl ⟨rfl, rfl⟩ ⟨by decide, by decide⟩ ⟨Nat.le_refl _, Nat.le_refl _⟩ (Nat.le_of_ble_eq_true rfl) rfl h (fun r2 I1 h => ?_)
    refine x_iload_n (pc := 27) dX11_held_27 rfl rfl ?_
    refine x_icmp_ne (pc := 28) (t := 51) dX11_held_28 (by decide) (fun e => ?_) (fun e => ?_)
    · have h := h.1 e
      refine x_iload (pc := 31) dX11_held_31 rfl ?_
      refine x_if_eq (pc := 33) (t := 47) dX11_held_33 (by decide) (fun e => ?_) (fun e => ?_)
      · have h := h.1 e
        refine x_iconst (pc := 47) dX11_held_47 ?_
        refine x_goto (pc := 48) (t := 52) dX11_held_48 (by decide) ?_
        refine x_iadd (pc := 52) dX11_held_52 ?_
        refine x_istore (pc := 53) (L' := [some (vr G r_obj), some (vi (v1)), some (vi (v2)), some (vi (v3)), some (vi (v4)), some (vi ((v5) + (1))), some (vi (v6))]) dX11_held_53 (by decide) (xst1 rfl rfl rfl) ?_
        refine x_iinc (pc := 55) (L' := [some (vr G r_obj), some (vi (v1)), some (vi (v2)), some (vi (v3)), some (vi (v4)), some (vi ((v5) + (1))), some (vi (v6 + 1))]) dX11_held_55 rfl (by decide) (xst1 rfl rfl rfl) ?_
        refine x_goto (pc := 58) (t := 6) dX11_held_58 (by decide) ?_
        exact h
      · have h := h.2 e
        refine x_aload_n (pc := 36) dX11_held_36 rfl rfl ?_
        refine x_iload (pc := 37) dX11_held_37 rfl ?_
        refine x_iload_n (pc := 39) dX11_held_39 rfl rfl ?_
        refine x_iload_n (pc := 40) dX11_held_40 rfl rfl ?_
        refine y_Vi (pc := 41) (i := r_obj) (As := [vi (v6), vi (v2), vi (v3)]) (rest := [vi (v5)]) ok_X11_isLate ml_X11_303 dX11_held_41 (sN_r_obj hS) (sT_r_obj hS) (by decide) rfl rfl rfl ⟨rfl, rfl⟩ ⟨by decide, by decide⟩ ⟨Nat.le_refl _, Nat.le_refl _⟩ (Nat.le_of_ble_eq_true rfl) rfl h (fun r4 I3 h => ?_)
        refine x_if_eq (pc := 44) (t := 51) dX11_held_44 (by decide) (fun e => ?_) (fun e => ?_)
        · have h := h.1 e
          refine x_iconst (pc := 51) dX11_held_51 ?_
          refine x_iadd (pc := 52) dX11_held_52 ?_
          refine x_istore (pc := 53) (L' := [some (vr G r_obj), some (vi (v1)), some (vi (v2)), some (vi (v3)), some (vi (v4)), some (vi ((v5) + (0))), some (vi (v6))]) dX11_held_53 (by decide) (xst1 rfl rfl rfl) ?_
          refine x_iinc (pc := 55) (L' := [some (vr G r_obj), some (vi (v1)), some (vi (v2)), some (vi (v3)), some (vi (v4)), some (vi ((v5) + (0))), some (vi (v6 + 1))]) dX11_held_55 rfl (by decide) (xst1 rfl rfl rfl) ?_
          refine x_goto (pc := 58) (t := 6) dX11_held_58 (by decide) ?_
          exact h
        · have h := h.2 e
          refine x_iconst (pc := 47) dX11_held_47 ?_
          refine x_goto (pc := 48) (t := 52) dX11_held_48 (by decide) ?_
          refine x_iadd (pc := 52) dX11_held_52 ?_
          refine x_istore (pc := 53) (L' := [some (vr G r_obj), some (vi (v1)), some (vi (v2)), some (vi (v3)), some (vi (v4)), some (vi ((v5) + (1))), some (vi (v6))]) dX11_held_53 (by decide) (xst1 rfl rfl rfl) ?_
          refine x_iinc (pc := 55) (L' := [some (vr G r_obj), some (vi (v1)), some (vi (v2)), some (vi (v3)), some (vi (v4)), some (vi ((v5) + (1))), some (vi (v6 + 1))]) dX11_held_55 rfl (by decide) (xst1 rfl rfl rfl) ?_
          refine x_goto (pc := 58) (t := 6) dX11_held_58 (by decide) ?_
          exact h
    · have h := h.2 e
      refine x_iconst (pc := 51) dX11_held_51 ?_
      refine x_iadd (pc := 52) dX11_held_52 ?_
      refine x_istore (pc := 53) (L' := [some (vr G r_obj), some (vi (v1)), some (vi (v2)), some (vi (v3)), some (vi (v4)), some (vi ((v5) + (0))), some (vi (v6))]) dX11_held_53 (by decide) (xst1 rfl rfl rfl) ?_
      refine x_iinc (pc := 55) (L' := [some (vr G r_obj), some (vi (v1)), some (vi (v2)), some (vi (v3)), some (vi (v4)), some (vi ((v5) + (0))), some (vi (v6 + 1))]) dX11_held_55 rfl (by decide) (xst1 rfl rfl rfl) ?_
      refine x_goto (pc := 58) (t := 6) dX11_held_58 (by decide) ?_
      exact h
set_option maxHeartbeats 4000000 in
set_option maxRecDepth 100000 in
theorem b_R_house {G : XG} {S : XS} {I : XI} {v1 : Int} {v2 : Int} {v3 : Int} {R : Int → XI → Prop} (hS : xSh S)  (h : (∀ I1 : XI, I1 = up I r_obj 0 (0) → R_isWeek G S I1 (v1) (fun r3 I2 => ((w32 (r3) = 0 → R ((-1)) I2) ∧ (¬ (w32 (r3) = 0) → R_isWeek G S I2 (v2) (fun r5 I4 => ((w32 (r5) = 0 → R ((-1)) I4) ∧ (¬ (w32 (r5) = 0) → ((w32 (v2) < w32 (v1) → R ((-1)) I4) ∧ (¬ (w32 (v2) < w32 (v1)) → ((w32 (I4 r_cells 0) = 0 → R ((-1)) I4) ∧ (¬ (w32 (I4 r_cells 0) = 0) → R_in G S I4 (v3) (0) (1) (fun r7 I6 => ((w32 (r7) = 0 → R ((-1)) I6) ∧ (¬ (w32 (r7) = 0) → R_house_k47 G S I6 (v1) (v2) (v3) (0) R))))))))))))))) : R_house G S I v1 v2 v3 R := by
  refine x_start [some (vr G r_obj), some (vi (v1)), some (vi (v2)), some (vi (v3)), none, none, none] (by decide) (Nat.le_of_ble_eq_true rfl) rfl ?_
  refine x_aload_n (pc := 0) dX11_house_0 rfl rfl ?_
  refine x_iconst (pc := 1) dX11_house_1 ?_
  refine x_putI (pc := 2) (i := r_obj) fl_X11_220 dX11_house_2 (sN_r_obj hS) (sT_r_obj hS) rfl ?_
  have h := h _ rfl
  generalize up I r_obj 0 (0) = I1 at h ⊢
  refine x_iload_n (pc := 5) dX11_house_5 rfl rfl ?_
  refine y_Si (pc := 6) (As := [vi (v1)]) (rest := []) ok_X11_isWeek ml_X11_240 dX11_house_6 rfl ⟨rfl, rfl⟩ ⟨by decide, by decide⟩ ⟨Nat.le_refl _, Nat.le_refl _⟩ (Nat.le_of_ble_eq_true rfl) rfl h (fun r3 I2 h => ?_)
  refine x_if_eq (pc := 9) (t := 42) dX11_house_9 (by decide) (fun e => ?_) (fun e => ?_)
  · have h := h.1 e
    refine x_iconst (pc := 42) dX11_house_42 ?_
    exact y_iret (pc := 43) dX11_house_43 rfl ⟨Nat.le_refl _, Nat.le_refl _⟩ h
  · have h := h.2 e
    refine x_iload_n (pc := 12) dX11_house_12 rfl rfl ?_
    refine y_Si (pc := 13) (As := [vi (v2)]) (rest := []) ok_X11_isWeek ml_X11_240 dX11_house_13 rfl ⟨rfl, rfl⟩ ⟨by decide, by decide⟩ ⟨Nat.le_refl _, Nat.le_refl _⟩ (Nat.le_of_ble_eq_true rfl) rfl h (fun r5 I4 h => ?_)
    refine x_if_eq (pc := 16) (t := 42) dX11_house_16 (by decide) (fun e => ?_) (fun e => ?_)
    · have h := h.1 e
      refine x_iconst (pc := 42) dX11_house_42 ?_
      exact y_iret (pc := 43) dX11_house_43 rfl ⟨Nat.le_refl _, Nat.le_refl _⟩ h
    · have h := h.2 e
      refine x_iload_n (pc := 19) dX11_house_19 rfl rfl ?_
      refine x_iload_n (pc := 20) dX11_house_20 rfl rfl ?_
      refine x_icmp_gt (pc := 21) (t := 42) dX11_house_21 (by decide) (fun e => ?_) (fun e => ?_)
      · have h := h.1 e
        refine x_iconst (pc := 42) dX11_house_42 ?_
        exact y_iret (pc := 43) dX11_house_43 rfl ⟨Nat.le_refl _, Nat.le_refl _⟩ h
      · have h := h.2 e
        refine x_aload_n (pc := 24) dX11_house_24 rfl rfl ?_
        refine x_getR (pc := 25) (i := r_obj) (a := r_cells) fl_X11_29 dX11_house_25 (sN_r_obj hS) (sT_r_obj hS) rfl (sR_r_obj_7 hS) ?_
        refine x_iconst (pc := 28) dX11_house_28 ?_
        refine y_iald (pc := 29) (i := r_cells) (n := 4) dX11_house_29 (sN_r_cells hS) (sT_r_cells hS) (sL_r_cells hS) (inb_nat (k := 0) (by decide) (by decide)) ?_
        rw [show ix 0 = 0 from rfl]
        refine x_if_eq (pc := 30) (t := 42) dX11_house_30 (by decide) (fun e => ?_) (fun e => ?_)
        · have h := h.1 e
          refine x_iconst (pc := 42) dX11_house_42 ?_
          exact y_iret (pc := 43) dX11_house_43 rfl ⟨Nat.le_refl _, Nat.le_refl _⟩ h
        · have h := h.2 e
          refine x_iload_n (pc := 33) dX11_house_33 rfl rfl ?_
          refine x_iconst (pc := 34) dX11_house_34 ?_
          refine x_iconst (pc := 35) dX11_house_35 ?_
          refine y_Si (pc := 36) (As := [vi (v3), vi (0), vi (1)]) (rest := []) ok_X11_in ml_X11_232 dX11_house_36 rfl ⟨rfl, rfl⟩ ⟨by decide, by decide⟩ ⟨Nat.le_refl _, Nat.le_refl _⟩ (Nat.le_of_ble_eq_true rfl) rfl h (fun r7 I6 h => ?_)
          refine x_if_ne (pc := 39) (t := 44) dX11_house_39 (by decide) (fun e => ?_) (fun e => ?_)
          · have h := h.1 e
            refine x_iconst (pc := 42) dX11_house_42 ?_
            exact y_iret (pc := 43) dX11_house_43 rfl ⟨Nat.le_refl _, Nat.le_refl _⟩ h
          · have h := h.2 e
            refine x_iconst (pc := 44) dX11_house_44 ?_
            refine x_istore (pc := 45) (L' := [some (vr G r_obj), some (vi (v1)), some (vi (v2)), some (vi (v3)), some (vi (0)), none, none]) dX11_house_45 (by decide) (xst1 rfl rfl rfl) ?_
            exact h
set_option maxHeartbeats 4000000 in
set_option maxRecDepth 100000 in
theorem b_R_house_k47 {G : XG} {S : XS}  {I : XI} {v1 : Int} {v2 : Int} {v3 : Int} {v4 : Int} {R : Int → XI → Prop} (hS : xSh S)  (h : ((w32 (10) ≤ w32 (v4) → R_house_k71 G S I (v1) (v2) (v3) (0) R) ∧ (¬ (w32 (10) ≤ w32 (v4)) → (inb (v4) 10 ∧ (∀ I8 : XI, I8 = up I r_meets (ix (v4)) (0) → R_house_k47 G S I8 (v1) (v2) (v3) (v4 + 1) R))))) : R_house_k47 G S  I v1 v2 v3 v4 R := by
  unfold R_house_k47
  refine x_iload (pc := 47) dX11_house_47 rfl ?_
  refine x_bipush (pc := 49) dX11_house_49 (by decide) ?_
  refine x_icmp_ge (pc := 51) (t := 68) dX11_house_51 (by decide) (fun e => ?_) (fun e => ?_)
  · have h := h.1 e
    refine x_iconst (pc := 68) dX11_house_68 ?_
    refine x_istore (pc := 69) (L' := [some (vr G r_obj), some (vi (v1)), some (vi (v2)), some (vi (v3)), some (vi (0)), none, none]) dX11_house_69 (by decide) (xst1 rfl rfl rfl) ?_
    exact h
  · have h := h.2 e
    refine x_aload_n (pc := 54) dX11_house_54 rfl rfl ?_
    refine x_getR (pc := 55) (i := r_obj) (a := r_meets) fl_X11_211 dX11_house_55 (sN_r_obj hS) (sT_r_obj hS) rfl (sR_r_obj_78 hS) ?_
    refine x_iload (pc := 58) dX11_house_58 rfl ?_
    refine x_iconst (pc := 60) dX11_house_60 ?_
    refine y_iast (pc := 61) (i := r_meets) (n := 10) dX11_house_61 (sN_r_meets hS) (sT_r_meets hS) (sL_r_meets hS) h.1 ?_
    have h := h.2
    have h := h _ rfl
    generalize up I r_meets (ix (v4)) (0) = I8 at h ⊢
    refine x_iinc (pc := 62) (L' := [some (vr G r_obj), some (vi (v1)), some (vi (v2)), some (vi (v3)), some (vi (v4 + 1)), none, none]) dX11_house_62 rfl (by decide) (xst1 rfl rfl rfl) ?_
    refine x_goto (pc := 65) (t := 47) dX11_house_65 (by decide) ?_
    exact h
set_option maxHeartbeats 4000000 in
set_option maxRecDepth 100000 in
theorem b_R_house_k71 {G : XG} {S : XS}  {I : XI} {v1 : Int} {v2 : Int} {v3 : Int} {v4 : Int} {R : Int → XI → Prop} (hS : xSh S)  (h : ((w32 (I r_camps 0) ≤ w32 (v4) → R_house_k188 G S I (v3) (0) (1) R) ∧ (¬ (w32 (I r_camps 0) ≤ w32 (v4)) → R_viewWeek G S I (fun r10 I9 => R_begin G S I9 (v4) (r10) (fun I11 => (inb (v4) 24 ∧ R_house_k101 G S I11 (v1) (v2) (v3) (v4) (I11 r_campWeek (ix (v4))) R)))))) : R_house_k71 G S  I v1 v2 v3 v4 R := by
  unfold R_house_k71
  refine x_iload (pc := 71) dX11_house_71 rfl ?_
  refine x_aload_n (pc := 73) dX11_house_73 rfl rfl ?_
  refine x_getR (pc := 74) (i := r_obj) (a := r_camps) fl_X11_39 dX11_house_74 (sN_r_obj hS) (sT_r_obj hS) rfl (sR_r_obj_10 hS) ?_
  refine x_iconst (pc := 77) dX11_house_77 ?_
  refine y_iald (pc := 78) (i := r_camps) (n := 4) dX11_house_78 (sN_r_camps hS) (sT_r_camps hS) (sL_r_camps hS) (inb_nat (k := 0) (by decide) (by decide)) ?_
  rw [show ix 0 = 0 from rfl]
  refine x_icmp_ge (pc := 79) (t := 182) dX11_house_79 (by decide) (fun e => ?_) (fun e => ?_)
  · have h := h.1 e
    refine x_iconst (pc := 182) dX11_house_182 ?_
    refine x_istore (pc := 183) (L' := [some (vr G r_obj), some (vi (v1)), some (vi (v2)), some (vi (v3)), some (vi (0)), none, none]) dX11_house_183 (by decide) (xst1 rfl rfl rfl) ?_
    refine x_iconst (pc := 185) dX11_house_185 ?_
    refine x_istore (pc := 186) (L' := [some (vr G r_obj), some (vi (v1)), some (vi (v2)), some (vi (v3)), some (vi (0)), some (vi (1)), none]) dX11_house_186 (by decide) (xst1 rfl rfl rfl) ?_
    refine x_less (L' := [some (vr G r_obj), none, none, some (vi (v3)), some (vi (0)), some (vi (1)), none]) (And.intro rfl (And.intro rfl (And.intro rfl (And.intro rfl trivial)))) ?_
    exact h
  · have h := h.2 e
    refine x_aload_n (pc := 82) dX11_house_82 rfl rfl ?_
    refine x_iload (pc := 83) dX11_house_83 rfl ?_
    refine x_aload_n (pc := 85) dX11_house_85 rfl rfl ?_
    refine y_Vi (pc := 86) (i := r_obj) (As := []) (rest := [vi (v4), vr G r_obj]) ok_X11_viewWeek ml_X11_283 dX11_house_86 (sN_r_obj hS) (sT_r_obj hS) (by decide) rfl rfl rfl ⟨rfl, rfl⟩ ⟨by decide, by decide⟩ ⟨Nat.le_refl _, Nat.le_refl _⟩ (Nat.le_of_ble_eq_true rfl) rfl h (fun r10 I9 h => ?_)
    refine y_Vv (pc := 89) (i := r_obj) (As := [vi (v4), vi (r10)]) (rest := []) ok_X11_begin ml_X11_273 dX11_house_89 (sN_r_obj hS) (sT_r_obj hS) (by decide) rfl rfl rfl ⟨rfl, rfl⟩ ⟨by decide, by decide⟩ ⟨Nat.le_refl _, Nat.le_refl _⟩ (Nat.le_of_ble_eq_true rfl) rfl h (fun I11 h => ?_)
    refine x_aload_n (pc := 92) dX11_house_92 rfl rfl ?_
    refine x_getR (pc := 93) (i := r_obj) (a := r_campWeek) fl_X11_48 dX11_house_93 (sN_r_obj hS) (sT_r_obj hS) rfl (sR_r_obj_13 hS) ?_
    refine x_iload (pc := 96) dX11_house_96 rfl ?_
    refine y_iald (pc := 98) (i := r_campWeek) (n := 24) dX11_house_98 (sN_r_campWeek hS) (sT_r_campWeek hS) (sL_r_campWeek hS) h.1 ?_
    have h := h.2
    refine x_istore (pc := 99) (L' := [some (vr G r_obj), some (vi (v1)), some (vi (v2)), some (vi (v3)), some (vi (v4)), some (vi (I11 r_campWeek (ix (v4)))), none]) dX11_house_99 (by decide) (xst1 rfl rfl rfl) ?_
    exact h
set_option maxHeartbeats 4000000 in
set_option maxRecDepth 100000 in
theorem b_R_house_k188 {G : XG} {S : XS}  {I : XI} {v3 : Int} {v4 : Int} {v5 : Int} {R : Int → XI → Prop} (hS : xSh S)  (h : ((w32 (10) ≤ w32 (v5) → ((w32 (v3) = 0 → R (v4) I) ∧ (¬ (w32 (v3) = 0) → (inb (v4) 10 ∧ R (I r_meets (ix (v4))) I)))) ∧ (¬ (w32 (10) ≤ w32 (v5)) → (inb (v5) 10 ∧ (inb (v4) 10 ∧ ((w32 (I r_meets (ix (v5))) ≤ w32 (I r_meets (ix (v4))) → R_house_k188 G S I (v3) (v4) (v5 + 1) R) ∧ (¬ (w32 (I r_meets (ix (v5))) ≤ w32 (I r_meets (ix (v4)))) → R_house_k188 G S I (v3) (v5) (v5 + 1) R))))))) : R_house_k188 G S  I v3 v4 v5 R := by
  unfold R_house_k188
  refine x_iload (pc := 188) dX11_house_188 rfl ?_
  refine x_bipush (pc := 190) dX11_house_190 (by decide) ?_
  refine x_icmp_ge (pc := 192) (t := 227) dX11_house_192 (by decide) (fun e => ?_) (fun e => ?_)
  · have h := h.1 e
    refine x_iload_n (pc := 227) dX11_house_227 rfl rfl ?_
    refine x_if_ne (pc := 228) (t := 236) dX11_house_228 (by decide) (fun e => ?_) (fun e => ?_)
    · have h := h.1 e
      refine x_iload (pc := 231) dX11_house_231 rfl ?_
      refine x_goto (pc := 233) (t := 243) dX11_house_233 (by decide) ?_
      exact y_iret (pc := 243) dX11_house_243 rfl ⟨Nat.le_refl _, Nat.le_refl _⟩ h
    · have h := h.2 e
      refine x_aload_n (pc := 236) dX11_house_236 rfl rfl ?_
      refine x_getR (pc := 237) (i := r_obj) (a := r_meets) fl_X11_211 dX11_house_237 (sN_r_obj hS) (sT_r_obj hS) rfl (sR_r_obj_78 hS) ?_
      refine x_iload (pc := 240) dX11_house_240 rfl ?_
      refine y_iald (pc := 242) (i := r_meets) (n := 10) dX11_house_242 (sN_r_meets hS) (sT_r_meets hS) (sL_r_meets hS) h.1 ?_
      have h := h.2
      exact y_iret (pc := 243) dX11_house_243 rfl ⟨Nat.le_refl _, Nat.le_refl _⟩ h
  · have h := h.2 e
    refine x_aload_n (pc := 195) dX11_house_195 rfl rfl ?_
    refine x_getR (pc := 196) (i := r_obj) (a := r_meets) fl_X11_211 dX11_house_196 (sN_r_obj hS) (sT_r_obj hS) rfl (sR_r_obj_78 hS) ?_
    refine x_iload (pc := 199) dX11_house_199 rfl ?_
    refine y_iald (pc := 201) (i := r_meets) (n := 10) dX11_house_201 (sN_r_meets hS) (sT_r_meets hS) (sL_r_meets hS) h.1 ?_
    have h := h.2
    refine x_aload_n (pc := 202) dX11_house_202 rfl rfl ?_
    refine x_getR (pc := 203) (i := r_obj) (a := r_meets) fl_X11_211 dX11_house_203 (sN_r_obj hS) (sT_r_obj hS) rfl (sR_r_obj_78 hS) ?_
    refine x_iload (pc := 206) dX11_house_206 rfl ?_
    refine y_iald (pc := 208) (i := r_meets) (n := 10) dX11_house_208 (sN_r_meets hS) (sT_r_meets hS) (sL_r_meets hS) h.1 ?_
    have h := h.2
    refine x_icmp_le (pc := 209) (t := 217) dX11_house_209 (by decide) (fun e => ?_) (fun e => ?_)
    · have h := h.1 e
      refine x_iload (pc := 217) dX11_house_217 rfl ?_
      refine x_istore (pc := 219) (L' := [some (vr G r_obj), none, none, some (vi (v3)), some (vi (v4)), some (vi (v5)), none]) dX11_house_219 (by decide) (xst1 rfl rfl rfl) ?_
      refine x_iinc (pc := 221) (L' := [some (vr G r_obj), none, none, some (vi (v3)), some (vi (v4)), some (vi (v5 + 1)), none]) dX11_house_221 rfl (by decide) (xst1 rfl rfl rfl) ?_
      refine x_goto (pc := 224) (t := 188) dX11_house_224 (by decide) ?_
      exact h
    · have h := h.2 e
      refine x_iload (pc := 212) dX11_house_212 rfl ?_
      refine x_goto (pc := 214) (t := 219) dX11_house_214 (by decide) ?_
      refine x_istore (pc := 219) (L' := [some (vr G r_obj), none, none, some (vi (v3)), some (vi (v5)), some (vi (v5)), none]) dX11_house_219 (by decide) (xst1 rfl rfl rfl) ?_
      refine x_iinc (pc := 221) (L' := [some (vr G r_obj), none, none, some (vi (v3)), some (vi (v5)), some (vi (v5 + 1)), none]) dX11_house_221 rfl (by decide) (xst1 rfl rfl rfl) ?_
      refine x_goto (pc := 224) (t := 188) dX11_house_224 (by decide) ?_
      exact h
set_option maxHeartbeats 4000000 in
set_option maxRecDepth 100000 in
theorem b_R_house_k101 {G : XG} {S : XS}  {I : XI} {v1 : Int} {v2 : Int} {v3 : Int} {v4 : Int} {v5 : Int} {R : Int → XI → Prop} (hS : xSh S)  (h : ((w32 (v2) < w32 (v5) → R_house_k71 G S I (v1) (v2) (v3) (v4 + 1) R) ∧ (¬ (w32 (v2) < w32 (v5)) → (inb (v4) 24 ∧ ((w32 (v5) ≤ w32 (I r_campWeek (ix (v4))) → R_house_k134 G S I (v1) (v2) (v3) (v4) (v5) (0) R) ∧ (¬ (w32 (v5) ≤ w32 (I r_campWeek (ix (v4)))) → R_viewWeek G S I (fun r13 I12 => R_goOn G S I12 (v4) (v5) (r13) (fun I14 => R_house_k134 G S I14 (v1) (v2) (v3) (v4) (v5) (0) R)))))))) : R_house_k101 G S  I v1 v2 v3 v4 v5 R := by
  unfold R_house_k101
  refine x_iload (pc := 101) dX11_house_101 rfl ?_
  refine x_iload_n (pc := 103) dX11_house_103 rfl rfl ?_
  refine x_icmp_gt (pc := 104) (t := 176) dX11_house_104 (by decide) (fun e => ?_) (fun e => ?_)
  · have h := h.1 e
    refine x_iinc (pc := 176) (L' := [some (vr G r_obj), some (vi (v1)), some (vi (v2)), some (vi (v3)), some (vi (v4 + 1)), some (vi (v5)), none]) dX11_house_176 rfl (by decide) (xst1 rfl rfl rfl) ?_
    refine x_goto (pc := 179) (t := 71) dX11_house_179 (by decide) ?_
    refine x_less (L' := [some (vr G r_obj), some (vi (v1)), some (vi (v2)), some (vi (v3)), some (vi (v4 + 1)), none, none]) (And.intro rfl (And.intro rfl (And.intro rfl (And.intro rfl (And.intro rfl trivial))))) ?_
    exact h
  · have h := h.2 e
    refine x_iload (pc := 107) dX11_house_107 rfl ?_
    refine x_aload_n (pc := 109) dX11_house_109 rfl rfl ?_
    refine x_getR (pc := 110) (i := r_obj) (a := r_campWeek) fl_X11_48 dX11_house_110 (sN_r_obj hS) (sT_r_obj hS) rfl (sR_r_obj_13 hS) ?_
    refine x_iload (pc := 113) dX11_house_113 rfl ?_
    refine y_iald (pc := 115) (i := r_campWeek) (n := 24) dX11_house_115 (sN_r_campWeek hS) (sT_r_campWeek hS) (sL_r_campWeek hS) h.1 ?_
    have h := h.2
    refine x_icmp_le (pc := 116) (t := 131) dX11_house_116 (by decide) (fun e => ?_) (fun e => ?_)
    · have h := h.1 e
      refine x_iconst (pc := 131) dX11_house_131 ?_
      refine x_istore (pc := 132) (L' := [some (vr G r_obj), some (vi (v1)), some (vi (v2)), some (vi (v3)), some (vi (v4)), some (vi (v5)), some (vi (0))]) dX11_house_132 (by decide) (xst1 rfl rfl rfl) ?_
      exact h
    · have h := h.2 e
      refine x_aload_n (pc := 119) dX11_house_119 rfl rfl ?_
      refine x_iload (pc := 120) dX11_house_120 rfl ?_
      refine x_iload (pc := 122) dX11_house_122 rfl ?_
      refine x_aload_n (pc := 124) dX11_house_124 rfl rfl ?_
      refine y_Vi (pc := 125) (i := r_obj) (As := []) (rest := [vi (v5), vi (v4), vr G r_obj]) ok_X11_viewWeek ml_X11_283 dX11_house_125 (sN_r_obj hS) (sT_r_obj hS) (by decide) rfl rfl rfl ⟨rfl, rfl⟩ ⟨by decide, by decide⟩ ⟨Nat.le_refl _, Nat.le_refl _⟩ (Nat.le_of_ble_eq_true rfl) rfl h (fun r13 I12 h => ?_)
      refine y_Vv (pc := 128) (i := r_obj) (As := [vi (v4), vi (v5), vi (r13)]) (rest := []) ok_X11_goOn ml_X11_276 dX11_house_128 (sN_r_obj hS) (sT_r_obj hS) (by decide) rfl rfl rfl ⟨rfl, rfl⟩ ⟨by decide, by decide⟩ ⟨Nat.le_refl _, Nat.le_refl _⟩ (Nat.le_of_ble_eq_true rfl) rfl h (fun I14 h => ?_)
      refine x_iconst (pc := 131) dX11_house_131 ?_
      refine x_istore (pc := 132) (L' := [some (vr G r_obj), some (vi (v1)), some (vi (v2)), some (vi (v3)), some (vi (v4)), some (vi (v5)), some (vi (0))]) dX11_house_132 (by decide) (xst1 rfl rfl rfl) ?_
      exact h
set_option maxHeartbeats 4000000 in
set_option maxRecDepth 100000 in
theorem b_R_house_k134 {G : XG} {S : XS}  {I : XI} {v1 : Int} {v2 : Int} {v3 : Int} {v4 : Int} {v5 : Int} {v6 : Int} {R : Int → XI → Prop} (hS : xSh S)  (h : ((w32 (10) ≤ w32 (v6) → R_house_k101 G S I (v1) (v2) (v3) (v4) (v5 + 1) R) ∧ (¬ (w32 (10) ≤ w32 (v6)) → ((w32 (v5) < w32 (v1) → R_house_k101 G S I (v1) (v2) (v3) (v4) (v5 + 1) R) ∧ (¬ (w32 (v5) < w32 (v1)) → (inb (v6) 10 ∧ (inb (v6) 10 ∧ (inb (v6) 10 ∧ (∀ I15 : XI, I15 = up I r_meets (ix (v6)) ((I r_meets (ix (v6))) + (I r_parts (ix (v6)))) → R_house_k134 G S I15 (v1) (v2) (v3) (v4) (v5) (v6 + 1) R))))))))) : R_house_k134 G S  I v1 v2 v3 v4 v5 v6 R := by
  unfold R_house_k134
  refine x_iload (pc := 134) dX11_house_134 rfl ?_
  refine x_bipush (pc := 136) dX11_house_136 (by decide) ?_
  refine x_icmp_ge (pc := 138) (t := 170) dX11_house_138 (by decide) (fun e => ?_) (fun e => ?_)
  · have h := h.1 e
    refine x_iinc (pc := 170) (L' := [some (vr G r_obj), some (vi (v1)), some (vi (v2)), some (vi (v3)), some (vi (v4)), some (vi (v5 + 1)), some (vi (v6))]) dX11_house_170 rfl (by decide) (xst1 rfl rfl rfl) ?_
    refine x_goto (pc := 173) (t := 101) dX11_house_173 (by decide) ?_
    refine x_less (L' := [some (vr G r_obj), some (vi (v1)), some (vi (v2)), some (vi (v3)), some (vi (v4)), some (vi (v5 + 1)), none]) (And.intro rfl (And.intro rfl (And.intro rfl (And.intro rfl (And.intro rfl (And.intro rfl trivial)))))) ?_
    exact h
  · have h := h.2 e
    refine x_iload (pc := 141) dX11_house_141 rfl ?_
    refine x_iload_n (pc := 143) dX11_house_143 rfl rfl ?_
    refine x_icmp_lt (pc := 144) (t := 170) dX11_house_144 (by decide) (fun e => ?_) (fun e => ?_)
    · have h := h.1 e
      refine x_iinc (pc := 170) (L' := [some (vr G r_obj), some (vi (v1)), some (vi (v2)), some (vi (v3)), some (vi (v4)), some (vi (v5 + 1)), some (vi (v6))]) dX11_house_170 rfl (by decide) (xst1 rfl rfl rfl) ?_
      refine x_goto (pc := 173) (t := 101) dX11_house_173 (by decide) ?_
      refine x_less (L' := [some (vr G r_obj), some (vi (v1)), some (vi (v2)), some (vi (v3)), some (vi (v4)), some (vi (v5 + 1)), none]) (And.intro rfl (And.intro rfl (And.intro rfl (And.intro rfl (And.intro rfl (And.intro rfl trivial)))))) ?_
      exact h
    · have h := h.2 e
      refine x_aload_n (pc := 147) dX11_house_147 rfl rfl ?_
      refine x_getR (pc := 148) (i := r_obj) (a := r_meets) fl_X11_211 dX11_house_148 (sN_r_obj hS) (sT_r_obj hS) rfl (sR_r_obj_78 hS) ?_
      refine x_iload (pc := 151) dX11_house_151 rfl ?_
      refine x_dup2 (pc := 153) dX11_house_153 rfl rfl ?_
      refine y_iald (pc := 154) (i := r_meets) (n := 10) dX11_house_154 (sN_r_meets hS) (sT_r_meets hS) (sL_r_meets hS) h.1 ?_
      have h := h.2
      refine x_aload_n (pc := 155) dX11_house_155 rfl rfl ?_
      refine x_getR (pc := 156) (i := r_obj) (a := r_parts) fl_X11_165 dX11_house_156 (sN_r_obj hS) (sT_r_obj hS) rfl (sR_r_obj_52 hS) ?_
      refine x_iload (pc := 159) dX11_house_159 rfl ?_
      refine y_iald (pc := 161) (i := r_parts) (n := 10) dX11_house_161 (sN_r_parts hS) (sT_r_parts hS) (sL_r_parts hS) h.1 ?_
      have h := h.2
      refine x_iadd (pc := 162) dX11_house_162 ?_
      refine y_iast (pc := 163) (i := r_meets) (n := 10) dX11_house_163 (sN_r_meets hS) (sT_r_meets hS) (sL_r_meets hS) h.1 ?_
      have h := h.2
      have h := h _ rfl
      generalize up I r_meets (ix (v6)) ((I r_meets (ix (v6))) + (I r_parts (ix (v6)))) = I15 at h ⊢
      refine x_iinc (pc := 164) (L' := [some (vr G r_obj), some (vi (v1)), some (vi (v2)), some (vi (v3)), some (vi (v4)), some (vi (v5)), some (vi (v6 + 1))]) dX11_house_164 rfl (by decide) (xst1 rfl rfl rfl) ?_
      refine x_goto (pc := 167) (t := 134) dX11_house_167 (by decide) ?_
      exact h
set_option maxHeartbeats 4000000 in
set_option maxRecDepth 100000 in
theorem b_R_image {G : XG} {S : XS} {I : XI} {v1 : Int} {R : Int → XI → Prop} (hS : xSh S)  (h : (∀ I1 : XI, I1 = up I r_obj 0 (0) → R_in G S I1 (v1) (0) (2) (fun r3 I2 => ((w32 (r3) = 0 → R (0) I2) ∧ (¬ (w32 (r3) = 0) → R_copy G S I2 (0) ((v1) + (1)) (fun I4 => (inb (v1) 3 ∧ (∀ I5 : XI, I5 = up I4 r_kept (ix (v1)) (1) → R (1) I5)))))))) : R_image G S I v1 R := by
  refine x_start [some (vr G r_obj), some (vi (v1))] (by decide) (Nat.le_of_ble_eq_true rfl) rfl ?_
  refine x_aload_n (pc := 0) dX11_image_0 rfl rfl ?_
  refine x_iconst (pc := 1) dX11_image_1 ?_
  refine x_putI (pc := 2) (i := r_obj) fl_X11_220 dX11_image_2 (sN_r_obj hS) (sT_r_obj hS) rfl ?_
  have h := h _ rfl
  generalize up I r_obj 0 (0) = I1 at h ⊢
  refine x_iload_n (pc := 5) dX11_image_5 rfl rfl ?_
  refine x_iconst (pc := 6) dX11_image_6 ?_
  refine x_iconst (pc := 7) dX11_image_7 ?_
  refine y_Si (pc := 8) (As := [vi (v1), vi (0), vi (2)]) (rest := []) ok_X11_in ml_X11_232 dX11_image_8 rfl ⟨rfl, rfl⟩ ⟨by decide, by decide⟩ ⟨Nat.le_refl _, Nat.le_refl _⟩ (Nat.le_of_ble_eq_true rfl) rfl h (fun r3 I2 h => ?_)
  refine x_if_ne (pc := 11) (t := 16) dX11_image_11 (by decide) (fun e => ?_) (fun e => ?_)
  · have h := h.1 e
    refine x_iconst (pc := 14) dX11_image_14 ?_
    exact y_zret (pc := 15) dX11_image_15 rfl ⟨Nat.le_refl _, Nat.le_refl _⟩ (Or.inl rfl) h
  · have h := h.2 e
    refine x_aload_n (pc := 16) dX11_image_16 rfl rfl ?_
    refine x_iconst (pc := 17) dX11_image_17 ?_
    refine x_iload_n (pc := 18) dX11_image_18 rfl rfl ?_
    refine x_iconst (pc := 19) dX11_image_19 ?_
    refine x_iadd (pc := 20) dX11_image_20 ?_
    refine y_Vv (pc := 21) (i := r_obj) (As := [vi (0), vi ((v1) + (1))]) (rest := []) ok_X11_copy ml_X11_475 dX11_image_21 (sN_r_obj hS) (sT_r_obj hS) (by decide) rfl rfl rfl ⟨rfl, rfl⟩ ⟨by decide, by decide⟩ ⟨Nat.le_refl _, Nat.le_refl _⟩ (Nat.le_of_ble_eq_true rfl) rfl h (fun I4 h => ?_)
    refine x_aload_n (pc := 24) dX11_image_24 rfl rfl ?_
    refine x_getR (pc := 25) (i := r_obj) (a := r_kept) fl_X11_217 dX11_image_25 (sN_r_obj hS) (sT_r_obj hS) rfl (sR_r_obj_83 hS) ?_
    refine x_iload_n (pc := 28) dX11_image_28 rfl rfl ?_
    refine x_iconst (pc := 29) dX11_image_29 ?_
    refine y_zast (pc := 30) (i := r_kept) (n := 3) dX11_image_30 (sN_r_kept hS) (sT_r_kept hS) (sL_r_kept hS) h.1 (Or.inr rfl) ?_
    have h := h.2
    have h := h _ rfl
    generalize up I4 r_kept (ix (v1)) (1) = I5 at h ⊢
    refine x_iconst (pc := 31) dX11_image_31 ?_
    exact y_zret (pc := 32) dX11_image_32 rfl ⟨Nat.le_refl _, Nat.le_refl _⟩ (Or.inr rfl) h
