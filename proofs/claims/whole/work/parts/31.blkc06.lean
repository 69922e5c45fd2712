set_option maxHeartbeats 4000000 in
set_option maxRecDepth 100000 in
theorem b_Wn_move_k20 {G : XG} {S : XS}  {I : XI} {v2 : Int} {v4 : Int} {R : XI → Prop} (hS : xSh S)  (h : ((w32 (I c_land 0) ≤ w32 (v4) → R I) ∧ (¬ (w32 (I c_land 0) ≤ w32 (v4)) → (inb (((v2) - (10)) + (v4)) 6000 ∧ ((w32 (I c_now_parts (ix (((v2) - (10)) + (v4)))) ≤ 0 → Wn_move_k20 G S I (v2) (v4 + 1) R) ∧ (¬ (w32 (I c_now_parts (ix (((v2) - (10)) + (v4)))) ≤ 0) → Wn_weighGrass G S I (v4) (fun r3 I2 => Wn_share G S I2 (I c_now_parts (ix (((v2) - (10)) + (v4)))) (r3) (v2) (fun r5 I4 => ((w32 (r5) = 0 → (inb ((v2) + (v4)) 6000 ∧ (inb ((v2) + (v4)) 6000 ∧ (∀ I6 : XI, I6 = up I4 c_now_parts (ix ((v2) + (v4))) ((I4 c_now_parts (ix ((v2) + (v4)))) + (I c_now_parts (ix (((v2) - (10)) + (v4))))) → Wn_move_k20 G S I6 (v2) (v4 + 1) R)))) ∧ (¬ (w32 (r5) = 0) → Wn_move_k20 G S I4 (v2) (v4 + 1) R)))))))))) : Wn_move_k20 G S  I v2 v4 R := by
  unfold Wn_move_k20
  refine x_iload (pc := 20) dX9_move_20 rfl ?_
  refine x_aload_n (pc := 22) dX9_move_22 rfl rfl ?_
  refine x_getI (pc := 23) (i := c_land) fl_X9_103 dX9_move_23 (sN_c_land hS) (sT_c_land hS) rfl ?_
  refine x_icmp_ge (pc := 26) (t := 89) dX9_move_26 (by decide) (fun e => ?_) (fun e => ?_)
  · have h := h.1 e
    exact y_vret (pc := 89) dX9_move_89 rfl ⟨Nat.le_refl _, Nat.le_refl _⟩ h
  · have h := h.2 e
    refine x_aload_n (pc := 29) dX9_move_29 rfl rfl ?_
    refine x_getR (pc := 30) (i := c_now) (a := c_now_parts) fl_X9_9 dX9_move_30 (sN_c_now hS) (sT_c_now hS) rfl (sR_c_now_0 hS) ?_
    refine x_iload_n (pc := 33) dX9_move_33 rfl rfl ?_
    refine x_bipush (pc := 34) dX9_move_34 (by decide) ?_
    refine x_isub (pc := 36) dX9_move_36 ?_
    refine x_iload (pc := 37) dX9_move_37 rfl ?_
    refine x_iadd (pc := 39) dX9_move_39 ?_
    refine y_iald (pc := 40) (i := c_now_parts) (n := 6000) dX9_move_40 (sN_c_now_parts hS) (sT_c_now_parts hS) (sL_c_now_parts hS) h.1 ?_
    have h := h.2
    refine x_istore (pc := 41) (L' := [some (vr G c_now), some (vr G c_land), some (vi (v2)), none, some (vi (v4)), some (vi (I c_now_parts (ix (((v2) - (10)) + (v4))))), none]) dX9_move_41 (by decide) (xst1 rfl rfl rfl) ?_
    refine x_iload (pc := 43) dX9_move_43 rfl ?_
    refine x_if_le (pc := 45) (t := 83) dX9_move_45 (by decide) (fun e => ?_) (fun e => ?_)
    · have h := h.1 e
      refine x_iinc (pc := 83) (L' := [some (vr G c_now), some (vr G c_land), some (vi (v2)), none, some (vi (v4 + 1)), some (vi (I c_now_parts (ix (((v2) - (10)) + (v4))))), none]) dX9_move_83 rfl (by decide) (xst1 rfl rfl trivial) ?_
      refine x_goto (pc := 86) (t := 20) dX9_move_86 (by decide) ?_
      refine x_less (L' := [some (vr G c_now), some (vr G c_land), some (vi (v2)), none, some (vi (v4 + 1)), none, none]) (And.intro rfl (And.intro rfl (And.intro rfl (And.intro rfl trivial)))) ?_
      exact h
    · have h := h.2 e
      refine x_aload_n (pc := 48) dX9_move_48 rfl rfl ?_
      refine x_aload_n (pc := 49) dX9_move_49 rfl rfl ?_
      refine x_iload (pc := 50) dX9_move_50 rfl ?_
      refine y_Vi (pc := 52) (i := c_now) (As := [vr G c_land, vi (v4)]) (rest := []) ok_X9_weighGrass ml_X9_106 dX9_move_52 (sN_c_now hS) (sT_c_now hS) (by decide) rfl rfl rfl ⟨rfl, rfl⟩ ⟨by decide, by decide⟩ ⟨Nat.le_refl _, Nat.le_refl _⟩ (Nat.le_of_ble_eq_true rfl) rfl h (fun r3 I2 h => ?_)
      refine x_istore (pc := 55) (L' := [some (vr G c_now), some (vr G c_land), some (vi (v2)), none, some (vi (v4)), some (vi (I c_now_parts (ix (((v2) - (10)) + (v4))))), some (vi (r3))]) dX9_move_55 (by decide) (xst1 rfl rfl rfl) ?_
      refine x_aload_n (pc := 57) dX9_move_57 rfl rfl ?_
      refine x_iload (pc := 58) dX9_move_58 rfl ?_
      refine x_iload (pc := 60) dX9_move_60 rfl ?_
      refine x_iload_n (pc := 62) dX9_move_62 rfl rfl ?_
      refine y_Vi (pc := 63) (i := c_now) (As := [vi (I c_now_parts (ix (((v2) - (10)) + (v4)))), vi (r3), vi (v2)]) (rest := []) ok_X9_share ml_X9_110 dX9_move_63 (sN_c_now hS) (sT_c_now hS) (by decide) rfl rfl rfl ⟨rfl, rfl⟩ ⟨by decide, by decide⟩ ⟨Nat.le_refl _, Nat.le_refl _⟩ (Nat.le_of_ble_eq_true rfl) rfl h (fun r5 I4 h => ?_)
      refine x_if_ne (pc := 66) (t := 83) dX9_move_66 (by decide) (fun e => ?_) (fun e => ?_)
      · have h := h.1 e
        refine x_aload_n (pc := 69) dX9_move_69 rfl rfl ?_
        refine x_getR (pc := 70) (i := c_now) (a := c_now_parts) fl_X9_9 dX9_move_70 (sN_c_now hS) (sT_c_now hS) rfl (sR_c_now_0 hS) ?_
        refine x_iload_n (pc := 73) dX9_move_73 rfl rfl ?_
        refine x_iload (pc := 74) dX9_move_74 rfl ?_
        refine x_iadd (pc := 76) dX9_move_76 ?_
        refine x_dup2 (pc := 77) dX9_move_77 rfl rfl ?_
        refine y_iald (pc := 78) (i := c_now_parts) (n := 6000) dX9_move_78 (sN_c_now_parts hS) (sT_c_now_parts hS) (sL_c_now_parts hS) h.1 ?_
        have h := h.2
        refine x_iload (pc := 79) dX9_move_79 rfl ?_
        refine x_iadd (pc := 81) dX9_move_81 ?_
        refine y_iast (pc := 82) (i := c_now_parts) (n := 6000) dX9_move_82 (sN_c_now_parts hS) (sT_c_now_parts hS) (sL_c_now_parts hS) h.1 ?_
        have h := h.2
        have h := h _ rfl
        generalize up I4 c_now_parts (ix ((v2) + (v4))) ((I4 c_now_parts (ix ((v2) + (v4)))) + (I c_now_parts (ix (((v2) - (10)) + (v4))))) = I6 at h ⊢
        refine x_iinc (pc := 83) (L' := [some (vr G c_now), some (vr G c_land), some (vi (v2)), none, some (vi (v4 + 1)), some (vi (I c_now_parts (ix (((v2) - (10)) + (v4))))), some (vi (r3))]) dX9_move_83 rfl (by decide) (xst1 rfl rfl trivial) ?_
        refine x_goto (pc := 86) (t := 20) dX9_move_86 (by decide) ?_
        refine x_less (L' := [some (vr G c_now), some (vr G c_land), some (vi (v2)), none, some (vi (v4 + 1)), none, none]) (And.intro rfl (And.intro rfl (And.intro rfl (And.intro rfl trivial)))) ?_
        exact h
      · have h := h.2 e
        refine x_iinc (pc := 83) (L' := [some (vr G c_now), some (vr G c_land), some (vi (v2)), none, some (vi (v4 + 1)), some (vi (I c_now_parts (ix (((v2) - (10)) + (v4))))), some (vi (r3))]) dX9_move_83 rfl (by decide) (xst1 rfl rfl trivial) ?_
        refine x_goto (pc := 86) (t := 20) dX9_move_86 (by decide) ?_
        refine x_less (L' := [some (vr G c_now), some (vr G c_land), some (vi (v2)), none, some (vi (v4 + 1)), none, none]) (And.intro rfl (And.intro rfl (And.intro rfl (And.intro rfl trivial)))) ?_
        exact h
set_option maxHeartbeats 4000000 in
set_option maxRecDepth 100000 in
theorem b_Wn_hear {G : XG} {S : XS} {I : XI} {v2 : Int} {v3 : Int} {R : XI → Prop} (hS : xSh S)  (h : W_rowOf G S I (v2) (v3) (fun r2 I1 => Wn_hear_k10 G S I1 (v2) (v3) (r2) (0) R)) : Wn_hear G S I v2 v3 R := by
  refine x_start [some (vr G c_now), some (vr G c_herds), some (vi (v2)), some (vi (v3)), none, none, none, none] (by decide) (Nat.le_of_ble_eq_true rfl) rfl ?_
  refine x_iload_n (pc := 0) dX9_hear_0 rfl rfl ?_
  refine x_iload_n (pc := 1) dX9_hear_1 rfl rfl ?_
  refine y_Si (pc := 2) (As := [vi (v2), vi (v3)]) (rest := []) ok_X9_rowOf ml_X9_43 dX9_hear_2 rfl ⟨rfl, rfl⟩ ⟨by decide, by decide⟩ ⟨Nat.le_refl _, Nat.le_refl _⟩ (Nat.le_of_ble_eq_true rfl) rfl h (fun r2 I1 h => ?_)
  refine x_istore (pc := 5) (L' := [some (vr G c_now), some (vr G c_herds), some (vi (v2)), some (vi (v3)), some (vi (r2)), none, none, none]) dX9_hear_5 (by decide) (xst1 rfl rfl rfl) ?_
  refine x_iconst (pc := 7) dX9_hear_7 ?_
  refine x_istore (pc := 8) (L' := [some (vr G c_now), some (vr G c_herds), some (vi (v2)), some (vi (v3)), some (vi (r2)), some (vi (0)), none, none]) dX9_hear_8 (by decide) (xst1 rfl rfl rfl) ?_
  exact h
set_option maxHeartbeats 4000000 in
set_option maxRecDepth 100000 in
theorem b_Wn_hear_k10 {G : XG} {S : XS}  {I : XI} {v2 : Int} {v3 : Int} {v4 : Int} {v5 : Int} {R : XI → Prop} (hS : xSh S)  (h : ((w32 (I c_herds 5) ≤ w32 (v5) → R I) ∧ (¬ (w32 (I c_herds 5) ≤ w32 (v5)) → He_isNewsOf G S I (v5) (v2) (v3) (I c_now 6) (fun r4 I3 => ((w32 (r4) = 0 → Wn_hear_k10 G S I3 (v2) (v3) (v4) (v5 + 1) R) ∧ (¬ (w32 (r4) = 0) → (inb (v5) 60 ∧ (inb (v5) 60 ∧ ((w32 (I3 c_herds_newsSeen (ix (v5))) = w32 (1) → Wn_gather G S I3 (v4) (I3 c_herds_newsCells (ix (v5))) (fun r6 I5 => Wn_hear_k73 G S I5 (v2) (v3) (v4) (v5) (r6) R)) ∧ (¬ (w32 (I3 c_herds_newsSeen (ix (v5))) = w32 (1)) → Wn_leave G S I3 (v4) (I3 c_herds_newsCells (ix (v5))) (fun r8 I7 => Wn_hear_k73 G S I7 (v2) (v3) (v4) (v5) (r8) R))))))))))) : Wn_hear_k10 G S  I v2 v3 v4 v5 R := by
  unfold Wn_hear_k10
  refine x_iload (pc := 10) dX9_hear_10 rfl ?_
  refine x_aload_n (pc := 12) dX9_hear_12 rfl rfl ?_
  refine x_getI (pc := 13) (i := c_herds) fl_X9_65 dX9_hear_13 (sN_c_herds hS) (sT_c_herds hS) rfl ?_
  refine x_icmp_ge (pc := 16) (t := 98) dX9_hear_16 (by decide) (fun e => ?_) (fun e => ?_)
  · have h := h.1 e
    exact y_vret (pc := 98) dX9_hear_98 rfl ⟨Nat.le_refl _, Nat.le_refl _⟩ h
  · have h := h.2 e
    refine x_aload_n (pc := 19) dX9_hear_19 rfl rfl ?_
    refine x_iload (pc := 20) dX9_hear_20 rfl ?_
    refine x_iload_n (pc := 22) dX9_hear_22 rfl rfl ?_
    refine x_iload_n (pc := 23) dX9_hear_23 rfl rfl ?_
    refine x_aload_n (pc := 24) dX9_hear_24 rfl rfl ?_
    refine x_getI (pc := 25) (i := c_now) fl_X9_30 dX9_hear_25 (sN_c_now hS) (sT_c_now hS) rfl ?_
    refine y_Vi (pc := 28) (i := c_herds) (As := [vi (v5), vi (v2), vi (v3), vi (I c_now 6)]) (rest := []) ok_X1_isNewsOf ml_X9_68 dX9_hear_28 (sN_c_herds hS) (sT_c_herds hS) (by decide) rfl rfl rfl ⟨rfl, rfl⟩ ⟨by decide, by decide⟩ ⟨Nat.le_refl _, Nat.le_refl _⟩ (Nat.le_of_ble_eq_true rfl) rfl h (fun r4 I3 h => ?_)
    refine x_if_eq (pc := 31) (t := 92) dX9_hear_31 (by decide) (fun e => ?_) (fun e => ?_)
    · have h := h.1 e
      refine x_iinc (pc := 92) (L' := [some (vr G c_now), some (vr G c_herds), some (vi (v2)), some (vi (v3)), some (vi (v4)), some (vi (v5 + 1)), none, none]) dX9_hear_92 rfl (by decide) (xst1 rfl rfl rfl) ?_
      refine x_goto (pc := 95) (t := 10) dX9_hear_95 (by decide) ?_
      exact h
    · have h := h.2 e
      refine x_aload_n (pc := 34) dX9_hear_34 rfl rfl ?_
      refine x_getR (pc := 35) (i := c_herds) (a := c_herds_newsCells) fl_X9_117 dX9_hear_35 (sN_c_herds hS) (sT_c_herds hS) rfl (sR_c_herds_7 hS) ?_
      refine x_iload (pc := 38) dX9_hear_38 rfl ?_
      refine y_iald (pc := 40) (i := c_herds_newsCells) (n := 60) dX9_hear_40 (sN_c_herds_newsCells hS) (sT_c_herds_newsCells hS) (sL_c_herds_newsCells hS) h.1 ?_
      have h := h.2
      refine x_istore (pc := 41) (L' := [some (vr G c_now), some (vr G c_herds), some (vi (v2)), some (vi (v3)), some (vi (v4)), some (vi (v5)), some (vi (I3 c_herds_newsCells (ix (v5)))), none]) dX9_hear_41 (by decide) (xst1 rfl rfl rfl) ?_
      refine x_aload_n (pc := 43) dX9_hear_43 rfl rfl ?_
      refine x_getR (pc := 44) (i := c_herds) (a := c_herds_newsSeen) fl_X9_120 dX9_hear_44 (sN_c_herds hS) (sT_c_herds hS) rfl (sR_c_herds_9 hS) ?_
      refine x_iload (pc := 47) dX9_hear_47 rfl ?_
      refine y_iald (pc := 49) (i := c_herds_newsSeen) (n := 60) dX9_hear_49 (sN_c_herds_newsSeen hS) (sT_c_herds_newsSeen hS) (sL_c_herds_newsSeen hS) h.1 ?_
      have h := h.2
      refine x_iconst (pc := 50) dX9_hear_50 ?_
      refine x_icmp_ne (pc := 51) (t := 65) dX9_hear_51 (by decide) (fun e => ?_) (fun e => ?_)
      · have h := h.1 e
        refine x_aload_n (pc := 54) dX9_hear_54 rfl rfl ?_
        refine x_iload (pc := 55) dX9_hear_55 rfl ?_
        refine x_iload (pc := 57) dX9_hear_57 rfl ?_
        refine y_Vi (pc := 59) (i := c_now) (As := [vi (v4), vi (I3 c_herds_newsCells (ix (v5)))]) (rest := []) ok_X9_gather ml_X9_123 dX9_hear_59 (sN_c_now hS) (sT_c_now hS) (by decide) rfl rfl rfl ⟨rfl, rfl⟩ ⟨by decide, by decide⟩ ⟨Nat.le_refl _, Nat.le_refl _⟩ (Nat.le_of_ble_eq_true rfl) rfl h (fun r6 I5 h => ?_)
        refine x_goto (pc := 62) (t := 73) dX9_hear_62 (by decide) ?_
        refine x_less (L' := [some (vr G c_now), some (vr G c_herds), some (vi (v2)), some (vi (v3)), some (vi (v4)), some (vi (v5)), none, none]) (And.intro rfl (And.intro rfl (And.intro rfl (And.intro rfl (And.intro rfl (And.intro rfl trivial)))))) ?_
        exact h
      · have h := h.2 e
        refine x_aload_n (pc := 65) dX9_hear_65 rfl rfl ?_
        refine x_iload (pc := 66) dX9_hear_66 rfl ?_
        refine x_iload (pc := 68) dX9_hear_68 rfl ?_
        refine y_Vi (pc := 70) (i := c_now) (As := [vi (v4), vi (I3 c_herds_newsCells (ix (v5)))]) (rest := []) ok_X9_leave ml_X9_127 dX9_hear_70 (sN_c_now hS) (sT_c_now hS) (by decide) rfl rfl rfl ⟨rfl, rfl⟩ ⟨by decide, by decide⟩ ⟨Nat.le_refl _, Nat.le_refl _⟩ (Nat.le_of_ble_eq_true rfl) rfl h (fun r8 I7 h => ?_)
        refine x_less (L' := [some (vr G c_now), some (vr G c_herds), some (vi (v2)), some (vi (v3)), some (vi (v4)), some (vi (v5)), none, none]) (And.intro rfl (And.intro rfl (And.intro rfl (And.intro rfl (And.intro rfl (And.intro rfl trivial)))))) ?_
        exact h
set_option maxHeartbeats 4000000 in
set_option maxRecDepth 100000 in
theorem b_Wn_hear_k73 {G : XG} {S : XS}  {I : XI} {v2 : Int} {v3 : Int} {v4 : Int} {v5 : Int} {s0 : Int} {R : XI → Prop} (hS : xSh S)  (h : ((w32 (s0) = 0 → (inb (v5) 60 ∧ (∀ I9 : XI, I9 = up I c_now_quarrels (ix (v5)) (1) → Wn_hear_k10 G S I9 (v2) (v3) (v4) (v5 + 1) R))) ∧ (¬ (w32 (s0) = 0) → (inb (v5) 60 ∧ (∀ I10 : XI, I10 = up I c_now_quarrels (ix (v5)) (0) → Wn_hear_k10 G S I10 (v2) (v3) (v4) (v5 + 1) R))))) : Wn_hear_k73 G S  I v2 v3 v4 v5 s0 R := by
  unfold Wn_hear_k73
  refine x_istore (pc := 73) (L' := [some (vr G c_now), some (vr G c_herds), some (vi (v2)), some (vi (v3)), some (vi (v4)), some (vi (v5)), none, some (vi (s0))]) dX9_hear_73 (by decide) (xst1 rfl rfl trivial) ?_
  refine x_aload_n (pc := 75) dX9_hear_75 rfl rfl ?_
  refine x_getR (pc := 76) (i := c_now) (a := c_now_quarrels) fl_X9_18 dX9_hear_76 (sN_c_now hS) (sT_c_now hS) rfl (sR_c_now_2 hS) ?_
  refine x_iload (pc := 79) dX9_hear_79 rfl ?_
  refine x_iload (pc := 81) dX9_hear_81 rfl ?_
  refine x_if_eq (pc := 83) (t := 90) dX9_hear_83 (by decide) (fun e => ?_) (fun e => ?_)
  · have h := h.1 e
    refine x_iconst (pc := 90) dX9_hear_90 ?_
    refine y_iast (pc := 91) (i := c_now_quarrels) (n := 60) dX9_hear_91 (sN_c_now_quarrels hS) (sT_c_now_quarrels hS) (sL_c_now_quarrels hS) h.1 ?_
    have h := h.2
    have h := h _ rfl
    generalize up I c_now_quarrels (ix (v5)) (1) = I9 at h ⊢
    refine x_iinc (pc := 92) (L' := [some (vr G c_now), some (vr G c_herds), some (vi (v2)), some (vi (v3)), some (vi (v4)), some (vi (v5 + 1)), none, some (vi (s0))]) dX9_hear_92 rfl (by decide) (xst1 rfl rfl rfl) ?_
    refine x_goto (pc := 95) (t := 10) dX9_hear_95 (by decide) ?_
    refine x_less (L' := [some (vr G c_now), some (vr G c_herds), some (vi (v2)), some (vi (v3)), some (vi (v4)), some (vi (v5 + 1)), none, none]) (And.intro rfl (And.intro rfl (And.intro rfl (And.intro rfl (And.intro rfl (And.intro rfl trivial)))))) ?_
    exact h
  · have h := h.2 e
    refine x_iconst (pc := 86) dX9_hear_86 ?_
    refine x_goto (pc := 87) (t := 91) dX9_hear_87 (by decide) ?_
    refine y_iast (pc := 91) (i := c_now_quarrels) (n := 60) dX9_hear_91 (sN_c_now_quarrels hS) (sT_c_now_quarrels hS) (sL_c_now_quarrels hS) h.1 ?_
    have h := h.2
    have h := h _ rfl
    generalize up I c_now_quarrels (ix (v5)) (0) = I10 at h ⊢
    refine x_iinc (pc := 92) (L' := [some (vr G c_now), some (vr G c_herds), some (vi (v2)), some (vi (v3)), some (vi (v4)), some (vi (v5 + 1)), none, some (vi (s0))]) dX9_hear_92 rfl (by decide) (xst1 rfl rfl rfl) ?_
    refine x_goto (pc := 95) (t := 10) dX9_hear_95 (by decide) ?_
    refine x_less (L' := [some (vr G c_now), some (vr G c_herds), some (vi (v2)), some (vi (v3)), some (vi (v4)), some (vi (v5 + 1)), none, none]) (And.intro rfl (And.intro rfl (And.intro rfl (And.intro rfl (And.intro rfl (And.intro rfl trivial)))))) ?_
    exact h
set_option maxHeartbeats 4000000 in
set_option maxRecDepth 100000 in
theorem b_Wt_clearRow {G : XG} {S : XS} {I : XI} {v1 : Int} {R : XI → Prop} (hS : xSh S)  (h : Wt_clearRow_k2 G S I (v1) (0) R) : Wt_clearRow G S I v1 R := by
  refine x_start [some (vr G c_then), some (vi (v1)), none] (by decide) (Nat.le_of_ble_eq_true rfl) rfl ?_
  refine x_iconst (pc := 0) dX9_clearRow_0 ?_
  refine x_istore_n (pc := 1) (L' := [some (vr G c_then), some (vi (v1)), some (vi (0))]) dX9_clearRow_1 rfl (by decide) (xst1 rfl rfl rfl) ?_
  exact h
set_option maxHeartbeats 4000000 in
set_option maxRecDepth 100000 in
theorem b_Wt_clearRow_k2 {G : XG} {S : XS}  {I : XI} {v1 : Int} {v2 : Int} {R : XI → Prop} (hS : xSh S)  (h : ((w32 (10) ≤ w32 (v2) → R I) ∧ (¬ (w32 (10) ≤ w32 (v2)) → (inb ((v1) + (v2)) 6000 ∧ (∀ I1 : XI, I1 = up I c_then_parts (ix ((v1) + (v2))) (0) → Wt_clearRow_k2 G S I1 (v1) (v2 + 1) R))))) : Wt_clearRow_k2 G S  I v1 v2 R := by
  unfold Wt_clearRow_k2
  refine x_iload_n (pc := 2) dX9_clearRow_2 rfl rfl ?_
  refine x_bipush (pc := 3) dX9_clearRow_3 (by decide) ?_
  refine x_icmp_ge (pc := 5) (t := 23) dX9_clearRow_5 (by decide) (fun e => ?_) (fun e => ?_)
  · have h := h.1 e
    exact y_vret (pc := 23) dX9_clearRow_23 rfl ⟨Nat.le_refl _, Nat.le_refl _⟩ h
  · have h := h.2 e
    refine x_aload_n (pc := 8) dX9_clearRow_8 rfl rfl ?_
    refine x_getR (pc := 9) (i := c_then) (a := c_then_parts) fl_X9_9 dX9_clearRow_9 (sN_c_then hS) (sT_c_then hS) rfl (sR_c_then_0 hS) ?_
    refine x_iload_n (pc := 12) dX9_clearRow_12 rfl rfl ?_
    refine x_iload_n (pc := 13) dX9_clearRow_13 rfl rfl ?_
    refine x_iadd (pc := 14) dX9_clearRow_14 ?_
    refine x_iconst (pc := 15) dX9_clearRow_15 ?_
    refine y_iast (pc := 16) (i := c_then_parts) (n := 6000) dX9_clearRow_16 (sN_c_then_parts hS) (sT_c_then_parts hS) (sL_c_then_parts hS) h.1 ?_
    have h := h.2
    have h := h _ rfl
    generalize up I c_then_parts (ix ((v1) + (v2))) (0) = I1 at h ⊢
    refine x_iinc (pc := 17) (L' := [some (vr G c_then), some (vi (v1)), some (vi (v2 + 1))]) dX9_clearRow_17 rfl (by decide) (xst1 rfl rfl rfl) ?_
    refine x_goto (pc := 20) (t := 2) dX9_clearRow_20 (by decide) ?_
    exact h
set_option maxHeartbeats 4000000 in
set_option maxRecDepth 100000 in
theorem b_Wt_move {G : XG} {S : XS} {I : XI} {v2 : Int} {v3 : Int} {R : XI → Prop} (hS : xSh S)  (h : La_grassOfWeek2 G S I (v3) (I c_then 6) (fun I1 => Wt_move_k20 G S I1 (v2) (0) R)) : Wt_move G S I v2 v3 R := by
  refine x_start [some (vr G c_then), some (vr G c_land), some (vi (v2)), some (vi (v3)), none, none, none] (by decide) (Nat.le_of_ble_eq_true rfl) rfl ?_
  refine x_aload_n (pc := 0) dX9_move_0 rfl rfl ?_
  refine x_iload_n (pc := 1) dX9_move_1 rfl rfl ?_
  refine x_aload_n (pc := 2) dX9_move_2 rfl rfl ?_
  refine x_getI (pc := 3) (i := c_then) fl_X9_30 dX9_move_3 (sN_c_then hS) (sT_c_then hS) rfl ?_
  refine x_aload_n (pc := 6) dX9_move_6 rfl rfl ?_
  refine x_getR (pc := 7) (i := c_then) (a := c_then_grass) fl_X9_21 dX9_move_7 (sN_c_then hS) (sT_c_then hS) rfl (sR_c_then_3 hS) ?_
  refine x_aload_n (pc := 10) dX9_move_10 rfl rfl ?_
  refine x_getR (pc := 11) (i := c_then) (a := c_then_rests) fl_X9_27 dX9_move_11 (sN_c_then hS) (sT_c_then hS) rfl (sR_c_then_5 hS) ?_
  refine y_Vv (pc := 14) (i := c_land) (As := [vi (v3), vi (I c_then 6), vr G c_then_grass, vr G c_then_rests]) (rest := []) ok_X2_grassOfWeek ml_X9_97 dX9_move_14 (sN_c_land hS) (sT_c_land hS) (by decide) rfl rfl rfl ⟨rfl, rfl⟩ ⟨by decide, by decide⟩ ⟨Nat.le_refl _, Nat.le_refl _⟩ (Nat.le_of_ble_eq_true rfl) rfl h (fun I1 h => ?_)
  refine x_iconst (pc := 17) dX9_move_17 ?_
  refine x_istore (pc := 18) (L' := [some (vr G c_then), some (vr G c_land), some (vi (v2)), some (vi (v3)), some (vi (0)), none, none]) dX9_move_18 (by decide) (xst1 rfl rfl rfl) ?_
  refine x_less (L' := [some (vr G c_then), some (vr G c_land), some (vi (v2)), none, some (vi (0)), none, none]) (And.intro rfl (And.intro rfl (And.intro rfl (And.intro rfl trivial)))) ?_
  exact h
set_option maxHeartbeats 4000000 in
set_option maxRecDepth 100000 in
theorem b_Wt_move_k20 {G : XG} {S : XS}  {I : XI} {v2 : Int} {v4 : Int} {R : XI → Prop} (hS : xSh S)  (h : ((w32 (I c_land 0) ≤ w32 (v4) → R I) ∧ (¬ (w32 (I c_land 0) ≤ w32 (v4)) → (inb (((v2) - (10)) + (v4)) 6000 ∧ ((w32 (I c_then_parts (ix (((v2) - (10)) + (v4)))) ≤ 0 → Wt_move_k20 G S I (v2) (v4 + 1) R) ∧ (¬ (w32 (I c_then_parts (ix (((v2) - (10)) + (v4)))) ≤ 0) → Wt_weighGrass G S I (v4) (fun r3 I2 => Wt_share G S I2 (I c_then_parts (ix (((v2) - (10)) + (v4)))) (r3) (v2) (fun r5 I4 => ((w32 (r5) = 0 → (inb ((v2) + (v4)) 6000 ∧ (inb ((v2) + (v4)) 6000 ∧ (∀ I6 : XI, I6 = up I4 c_then_parts (ix ((v2) + (v4))) ((I4 c_then_parts (ix ((v2) + (v4)))) + (I c_then_parts (ix (((v2) - (10)) + (v4))))) → Wt_move_k20 G S I6 (v2) (v4 + 1) R)))) ∧ (¬ (w32 (r5) = 0) → Wt_move_k20 G S I4 (v2) (v4 + 1) R)))))))))) : Wt_move_k20 G S  I v2 v4 R := by
  unfold Wt_move_k20
  refine x_iload (pc := 20) dX9_move_20 rfl ?_
  refine x_aload_n (pc := 22) dX9_move_22 rfl rfl ?_
  refine x_getI (pc := 23) (i := c_land) fl_X9_103 dX9_move_23 (sN_c_land hS) (sT_c_land hS) rfl ?_
  refine x_icmp_ge (pc := 26) (t := 89) dX9_move_26 (by decide) (fun e => ?_) (fun e => ?_)
  · have h := h.1 e
    exact y_vret (pc := 89) dX9_move_89 rfl ⟨Nat.le_refl _, Nat.le_refl _⟩ h
  · have h := h.2 e
    refine x_aload_n (pc := 29) dX9_move_29 rfl rfl ?_
    refine x_getR (pc := 30) (i := c_then) (a := c_then_parts) fl_X9_9 dX9_move_30 (sN_c_then hS) (sT_c_then hS) rfl (sR_c_then_0 hS) ?_
    refine x_iload_n (pc := 33) dX9_move_33 rfl rfl ?_
    refine x_bipush (pc := 34) dX9_move_34 (by decide) ?_
    refine x_isub (pc := 36) dX9_move_36 ?_
    refine x_iload (pc := 37) dX9_move_37 rfl ?_
    refine x_iadd (pc := 39) dX9_move_39 ?_
    refine y_iald (pc := 40) (i := c_then_parts) (n := 6000) dX9_move_40 (sN_c_then_parts hS) (sT_c_then_parts hS) (sL_c_then_parts hS) h.1 ?_
    have h := h.2
    refine x_istore (pc := 41) (L' := [some (vr G c_then), some (vr G c_land), some (vi (v2)), none, some (vi (v4)), some (vi (I c_then_parts (ix (((v2) - (10)) + (v4))))), none]) dX9_move_41 (by decide) (xst1 rfl rfl rfl) ?_
    refine x_iload (pc := 43) dX9_move_43 rfl ?_
    refine x_if_le (pc := 45) (t := 83) dX9_move_45 (by decide) (fun e => ?_) (fun e => ?_)
    · have h := h.1 e
      refine x_iinc (pc := 83) (L' := [some (vr G c_then), some (vr G c_land), some (vi (v2)), none, some (vi (v4 + 1)), some (vi (I c_then_parts (ix (((v2) - (10)) + (v4))))), none]) dX9_move_83 rfl (by decide) (xst1 rfl rfl trivial) ?_
      refine x_goto (pc := 86) (t := 20) dX9_move_86 (by decide) ?_
      refine x_less (L' := [some (vr G c_then), some (vr G c_land), some (vi (v2)), none, some (vi (v4 + 1)), none, none]) (And.intro rfl (And.intro rfl (And.intro rfl (And.intro rfl trivial)))) ?_
      exact h
    · have h := h.2 e
      refine x_aload_n (pc := 48) dX9_move_48 rfl rfl ?_
      refine x_aload_n (pc := 49) dX9_move_49 rfl rfl ?_
      refine x_iload (pc := 50) dX9_move_50 rfl ?_
      refine y_Vi (pc := 52) (i := c_then) (As := [vr G c_land, vi (v4)]) (rest := []) ok_X9_weighGrass ml_X9_106 dX9_move_52 (sN_c_then hS) (sT_c_then hS) (by decide) rfl rfl rfl ⟨rfl, rfl⟩ ⟨by decide, by decide⟩ ⟨Nat.le_refl _, Nat.le_refl _⟩ (Nat.le_of_ble_eq_true rfl) rfl h (fun r3 I2 h => ?_)
      refine x_istore (pc := 55) (L' := [some (vr G c_then), some (vr G c_land), some (vi (v2)), none, some (vi (v4)), some (vi (I c_then_parts (ix (((v2) - (10)) + (v4))))), some (vi (r3))]) dX9_move_55 (by decide) (xst1 rfl rfl rfl) ?_
      refine x_aload_n (pc := 57) dX9_move_57 rfl rfl ?_
      refine x_iload (pc := 58) dX9_move_58 rfl ?_
      refine x_iload (pc := 60) dX9_move_60 rfl ?_
      refine x_iload_n (pc := 62) dX9_move_62 rfl rfl ?_
      refine y_Vi (pc := 63) (i := c_then) (As := [vi (I c_then_parts (ix (((v2) - (10)) + (v4)))), vi (r3), vi (v2)]) (rest := []) ok_X9_share ml_X9_110 dX9_move_63 (sN_c_then hS) (sT_c_then hS) (by decide) rfl rfl rfl ⟨rfl, rfl⟩ ⟨by decide, by decide⟩ ⟨Nat.le_refl _, Nat.le_refl _⟩ (Nat.le_of_ble_eq_true rfl) rfl h (fun r5 I4 h => ?_)
      refine x_if_ne (pc := 66) (t := 83) dX9_move_66 (by decide) (fun e => ?_) (fun e => ?_)
      · have h := h.1 e
        refine x_aload_n (pc := 69) dX9_move_69 rfl rfl ?_
        refine x_getR (pc := 70) (i := c_then) (a := c_then_parts) fl_X9_9 dX9_move_70 (sN_c_then hS) (sT_c_then hS) rfl (sR_c_then_0 hS) ?_
        refine x_iload_n (pc := 73) dX9_move_73 rfl rfl ?_
        refine x_iload (pc := 74) dX9_move_74 rfl ?_
        refine x_iadd (pc := 76) dX9_move_76 ?_
        refine x_dup2 (pc := 77) dX9_move_77 rfl rfl ?_
        refine y_iald (pc := 78) (i := c_then_parts) (n := 6000) dX9_move_78 (sN_c_then_parts hS) (sT_c_then_parts hS) (sL_c_then_parts hS) h.1 ?_
        have h := h.2
        refine x_iload (pc := 79) dX9_move_79 rfl ?_
        refine x_iadd (pc := 81) dX9_move_81 ?_
        refine y_iast (pc := 82) (i := c_then_parts) (n := 6000) dX9_move_82 (sN_c_then_parts hS) (sT_c_then_parts hS) (sL_c_then_parts hS) h.1 ?_
        have h := h.2
        have h := h _ rfl
        generalize up I4 c_then_parts (ix ((v2) + (v4))) ((I4 c_then_parts (ix ((v2) + (v4)))) + (I c_then_parts (ix (((v2) - (10)) + (v4))))) = I6 at h ⊢
        refine x_iinc (pc := 83) (L' := [some (vr G c_then), some (vr G c_land), some (vi (v2)), none, some (vi (v4 + 1)), some (vi (I c_then_parts (ix (((v2) - (10)) + (v4))))), some (vi (r3))]) dX9_move_83 rfl (by decide) (xst1 rfl rfl trivial) ?_
        refine x_goto (pc := 86) (t := 20) dX9_move_86 (by decide) ?_
        refine x_less (L' := [some (vr G c_then), some (vr G c_land), some (vi (v2)), none, some (vi (v4 + 1)), none, none]) (And.intro rfl (And.intro rfl (And.intro rfl (And.intro rfl trivial)))) ?_
        exact h
      · have h := h.2 e
        refine x_iinc (pc := 83) (L' := [some (vr G c_then), some (vr G c_land), some (vi (v2)), none, some (vi (v4 + 1)), some (vi (I c_then_parts (ix (((v2) - (10)) + (v4))))), some (vi (r3))]) dX9_move_83 rfl (by decide) (xst1 rfl rfl trivial) ?_
        refine x_goto (pc := 86) (t := 20) dX9_move_86 (by decide) ?_
        refine x_less (L' := [some (vr G c_then), some (vr G c_land), some (vi (v2)), none, some (vi (v4 + 1)), none, none]) (And.intro rfl (And.intro rfl (And.intro rfl (And.intro rfl trivial)))) ?_
        exact h
set_option maxHeartbeats 4000000 in
set_option maxRecDepth 100000 in
theorem b_Wt_hear {G : XG} {S : XS} {I : XI} {v2 : Int} {v3 : Int} {R : XI → Prop} (hS : xSh S)  (h : W_rowOf G S I (v2) (v3) (fun r2 I1 => Wt_hear_k10 G S I1 (v2) (v3) (r2) (0) R)) : Wt_hear G S I v2 v3 R := by
  refine x_start [some (vr G c_then), some (vr G c_herds), some (vi (v2)), some (vi (v3)), none, none, none, none] (by decide) (Nat.le_of_ble_eq_true rfl) rfl ?_
  refine x_iload_n (pc := 0) dX9_hear_0 rfl rfl ?_
  refine x_iload_n (pc := 1) dX9_hear_1 rfl rfl ?_
  refine y_Si (pc := 2) (As := [vi (v2), vi (v3)]) (rest := []) ok_X9_rowOf ml_X9_43 dX9_hear_2 rfl ⟨rfl, rfl⟩ ⟨by decide, by decide⟩ ⟨Nat.le_refl _, Nat.le_refl _⟩ (Nat.le_of_ble_eq_true rfl) rfl h (fun r2 I1 h => ?_)
  refine x_istore (pc := 5) (L' := [some (vr G c_then), some (vr G c_herds), some (vi (v2)), some (vi (v3)), some (vi (r2)), none, none, none]) dX9_hear_5 (by decide) (xst1 rfl rfl rfl) ?_
  refine x_iconst (pc := 7) dX9_hear_7 ?_
  refine x_istore (pc := 8) (L' := [some (vr G c_then), some (vr G c_herds), some (vi (v2)), some (vi (v3)), some (vi (r2)), some (vi (0)), none, none]) dX9_hear_8 (by decide) (xst1 rfl rfl rfl) ?_
  exact h
set_option maxHeartbeats 4000000 in
set_option maxRecDepth 100000 in
theorem b_Wt_hear_k10 {G : XG} {S : XS}  {I : XI} {v2 : Int} {v3 : Int} {v4 : Int} {v5 : Int} {R : XI → Prop} (hS : xSh S)  (h : ((w32 (I c_herds 5) ≤ w32 (v5) → R I) ∧ (¬ (w32 (I c_herds 5) ≤ w32 (v5)) → He_isNewsOf G S I (v5) (v2) (v3) (I c_then 6) (fun r4 I3 => ((w32 (r4) = 0 → Wt_hear_k10 G S I3 (v2) (v3) (v4) (v5 + 1) R) ∧ (¬ (w32 (r4) = 0) → (inb (v5) 60 ∧ (inb (v5) 60 ∧ ((w32 (I3 c_herds_newsSeen (ix (v5))) = w32 (1) → Wt_gather G S I3 (v4) (I3 c_herds_newsCells (ix (v5))) (fun r6 I5 => Wt_hear_k73 G S I5 (v2) (v3) (v4) (v5) (r6) R)) ∧ (¬ (w32 (I3 c_herds_newsSeen (ix (v5))) = w32 (1)) → Wt_leave G S I3 (v4) (I3 c_herds_newsCells (ix (v5))) (fun r8 I7 => Wt_hear_k73 G S I7 (v2) (v3) (v4) (v5) (r8) R))))))))))) : Wt_hear_k10 G S  I v2 v3 v4 v5 R := by
  unfold Wt_hear_k10
  refine x_iload (pc := 10) dX9_hear_10 rfl ?_
  refine x_aload_n (pc := 12) dX9_hear_12 rfl rfl ?_
  refine x_getI (pc := 13) (i := c_herds) fl_X9_65 dX9_hear_13 (sN_c_herds hS) (sT_c_herds hS) rfl ?_
  refine x_icmp_ge (pc := 16) (t := 98) dX9_hear_16 (by decide) (fun e => ?_) (fun e => ?_)
  · have h := h.1 e
    exact y_vret (pc := 98) dX9_hear_98 rfl ⟨Nat.le_refl _, Nat.le_refl _⟩ h
  · have h := h.2 e
    refine x_aload_n (pc := 19) dX9_hear_19 rfl rfl ?_
    refine x_iload (pc := 20) dX9_hear_20 rfl ?_
    refine x_iload_n (pc := 22) dX9_hear_22 rfl rfl ?_
    refine x_iload_n (pc := 23) dX9_hear_23 rfl rfl ?_
    refine x_aload_n (pc := 24) dX9_hear_24 rfl rfl ?_
    refine x_getI (pc := 25) (i := c_then) fl_X9_30 dX9_hear_25 (sN_c_then hS) (sT_c_then hS) rfl ?_
    refine y_Vi (pc := 28) (i := c_herds) (As := [vi (v5), vi (v2), vi (v3), vi (I c_then 6)]) (rest := []) ok_X1_isNewsOf ml_X9_68 dX9_hear_28 (sN_c_herds hS) (sT_c_herds hS) (by decide) rfl rfl rfl ⟨rfl, rfl⟩ ⟨by decide, by decide⟩ ⟨Nat.le_refl _, Nat.le_refl _⟩ (Nat.le_of_ble_eq_true rfl) rfl h (fun r4 I3 h => ?_)
    refine x_if_eq (pc := 31) (t := 92) dX9_hear_31 (by decide) (fun e => ?_) (fun e => ?_)
    · have h := h.1 e
      refine x_iinc (pc := 92) (L' := [some (vr G c_then), some (vr G c_herds), some (vi (v2)), some (vi (v3)), some (vi (v4)), some (vi (v5 + 1)), none, none]) dX9_hear_92 rfl (by decide) (xst1 rfl rfl rfl) ?_
      refine x_goto (pc := 95) (t := 10) dX9_hear_95 (by decide) ?_
      exact h
    · have h := h.2 e
      refine x_aload_n (pc := 34) dX9_hear_34 rfl rfl ?_
      refine x_getR (pc := 35) (i := c_herds) (a := c_herds_newsCells) fl_X9_117 dX9_hear_35 (sN_c_herds hS) (sT_c_herds hS) rfl (sR_c_herds_7 hS) ?_
      refine x_iload (pc := 38) dX9_hear_38 rfl ?_
      refine y_iald (pc := 40) (i := c_herds_newsCells) (n := 60) dX9_hear_40 (sN_c_herds_newsCells hS) (sT_c_herds_newsCells hS) (sL_c_herds_newsCells hS) h.1 ?_
      have h := h.2
      refine x_istore (pc := 41) (L' := [some (vr G c_then), some (vr G c_herds), some (vi (v2)), some (vi (v3)), some (vi (v4)), some (vi (v5)), some (vi (I3 c_herds_newsCells (ix (v5)))), none]) dX9_hear_41 (by decide) (xst1 rfl rfl rfl) ?_
      refine x_aload_n (pc := 43) dX9_hear_43 rfl rfl ?_
      refine x_getR (pc := 44) (i := c_herds) (a := c_herds_newsSeen) fl_X9_120 dX9_hear_44 (sN_c_herds hS) (sT_c_herds hS) rfl (sR_c_herds_9 hS) ?_
      refine x_iload (pc := 47) dX9_hear_47 rfl ?_
      refine y_iald (pc := 49) (i := c_herds_newsSeen) (n := 60) dX9_hear_49 (sN_c_herds_newsSeen hS) (sT_c_herds_newsSeen hS) (sL_c_herds_newsSeen hS) h.1 ?_
      have h := h.2
      refine x_iconst (pc := 50) dX9_hear_50 ?_
      refine x_icmp_ne (pc := 51) (t := 65) dX9_hear_51 (by decide) (fun e => ?_) (fun e => ?_)
      · have h := h.1 e
        refine x_aload_n (pc := 54) dX9_hear_54 rfl rfl ?_
        refine x_iload (pc := 55) dX9_hear_55 rfl ?_
        refine x_iload (pc := 57) dX9_hear_57 rfl ?_
        refine y_Vi (pc := 59) (i := c_then) (As := [vi (v4), vi (I3 c_herds_newsCells (ix (v5)))]) (rest := []) ok_X9_gather ml_X9_123 dX9_hear_59 (sN_c_then hS) (sT_c_then hS) (by decide) rfl rfl rfl ⟨rfl, rfl⟩ ⟨by decide, by decide⟩ ⟨Nat.le_refl _, Nat.le_refl _⟩ (Nat.le_of_ble_eq_true rfl) rfl h (fun r6 I5 h => ?_)
        refine x_goto (pc := 62) (t := 73) dX9_hear_62 (by decide) ?_
        refine x_less (L' := [some (vr G c_then), some (vr G c_herds), some (vi (v2)), some (vi (v3)), some (vi (v4)), some (vi (v5)), none, none]) (And.intro rfl (And.intro rfl (And.intro rfl (And.intro rfl (And.intro rfl (And.intro rfl trivial)))))) ?_
        exact h
      · have h := h.2 e
        refine x_aload_n (pc := 65) dX9_hear_65 rfl rfl ?_
        refine x_iload (pc := 66) dX9_hear_66 rfl ?_
        refine x_iload (pc := 68) dX9_hear_68 rfl ?_
        refine y_Vi (pc := 70) (i := c_then) (As := [vi (v4), vi (I3 c_herds_newsCells (ix (v5)))]) (rest := []) ok_X9_leave ml_X9_127 dX9_hear_70 (sN_c_then hS) (sT_c_then hS) (by decide) rfl rfl rfl ⟨rfl, rfl⟩ ⟨by decide, by decide⟩ ⟨Nat.le_refl _, Nat.le_refl _⟩ (Nat.le_of_ble_eq_true rfl) rfl h (fun r8 I7 h => ?_)
        refine x_less (L' := [some (vr G c_then), some (vr G c_herds), some (vi (v2)), some (vi (v3)), some (vi (v4)), some (vi (v5)), none, none]) (And.intro rfl (And.intro rfl (And.intro rfl (And.intro rfl (And.intro rfl (And.intro rfl trivial)))))) ?_
        exact h
set_option maxHeartbeats 4000000 in
set_option maxRecDepth 100000 in
theorem b_Wt_hear_k73 {G : XG} {S : XS}  {I : XI} {v2 : Int} {v3 : Int} {v4 : Int} {v5 : Int} {s0 : Int} {R : XI → Prop} (hS : xSh S)  (h : ((w32 (s0) = 0 → (inb (v5) 60 ∧ (∀ I9 : XI, I9 = up I c_then_quarrels (ix (v5)) (1) → Wt_hear_k10 G S I9 (v2) (v3) (v4) (v5 + 1) R))) ∧ (¬ (w32 (s0) = 0) → (inb (v5) 60 ∧ (∀ I10 : XI, I10 = up I c_then_quarrels (ix (v5)) (0) → Wt_hear_k10 G S I10 (v2) (v3) (v4) (v5 + 1) R))))) : Wt_hear_k73 G S  I v2 v3 v4 v5 s0 R := by
  unfold Wt_hear_k73
  refine x_istore (pc := 73) (L' := [some (vr G c_then), some (vr G c_herds), some (vi (v2)), some (vi (v3)), some (vi (v4)), some (vi (v5)), none, some (vi (s0))]) dX9_hear_73 (by decide) (xst1 rfl rfl trivial) ?_
  refine x_aload_n (pc := 75) dX9_hear_75 rfl rfl ?_
  refine x_getR (pc := 76) (i := c_then) (a := c_then_quarrels) fl_X9_18 dX9_hear_76 (sN_c_then hS) (sT_c_then hS) rfl (sR_c_then_2 hS) ?_
  refine x_iload (pc := 79) dX9_hear_79 rfl ?_
  refine x_iload (pc := 81) dX9_hear_81 rfl ?_
  refine x_if_eq (pc := 83) (t := 90) dX9_hear_83 (by decide) (fun e => ?_) (fun e => ?_)
  · have h := h.1 e
    refine x_iconst (pc := 90) dX9_hear_90 ?_
    refine y_iast (pc := 91) (i := c_then_quarrels) (n := 60) dX9_hear_91 (sN_c_then_quarrels hS) (sT_c_then_quarrels hS) (sL_c_then_quarrels hS) h.1 ?_
    have h := h.2
    have h := h _ rfl
    generalize up I c_then_quarrels (ix (v5)) (1) = I9 at h ⊢
    refine x_iinc (pc := 92) (L' := [some (vr G c_then), some (vr G c_herds), some (vi (v2)), some (vi (v3)), some (vi (v4)), some (vi (v5 + 1)), none, some (vi (s0))]) dX9_hear_92 rfl (by decide) (xst1 rfl rfl rfl) ?_
    refine x_goto (pc := 95) (t := 10) dX9_hear_95 (by decide) ?_
    refine x_less (L' := [some (vr G c_then), some (vr G c_herds), some (vi (v2)), some (vi (v3)), some (vi (v4)), some (vi (v5 + 1)), none, none]) (And.intro rfl (And.intro rfl (And.intro rfl (And.intro rfl (And.intro rfl (And.intro rfl trivial)))))) ?_
    exact h
  · have h := h.2 e
    refine x_iconst (pc := 86) dX9_hear_86 ?_
    refine x_goto (pc := 87) (t := 91) dX9_hear_87 (by decide) ?_
    refine y_iast (pc := 91) (i := c_then_quarrels) (n := 60) dX9_hear_91 (sN_c_then_quarrels hS) (sT_c_then_quarrels hS) (sL_c_then_quarrels hS) h.1 ?_
    have h := h.2
    have h := h _ rfl
    generalize up I c_then_quarrels (ix (v5)) (0) = I10 at h ⊢
    refine x_iinc (pc := 92) (L' := [some (vr G c_then), some (vr G c_herds), some (vi (v2)), some (vi (v3)), some (vi (v4)), some (vi (v5 + 1)), none, some (vi (s0))]) dX9_hear_92 rfl (by decide) (xst1 rfl rfl rfl) ?_
    refine x_goto (pc := 95) (t := 10) dX9_hear_95 (by decide) ?_
    refine x_less (L' := [some (vr G c_then), some (vr G c_herds), some (vi (v2)), some (vi (v3)), some (vi (v4)), some (vi (v5 + 1)), none, none]) (And.intro rfl (And.intro rfl (And.intro rfl (And.intro rfl (And.intro rfl (And.intro rfl trivial)))))) ?_
    exact h
set_option maxHeartbeats 4000000 in
set_option maxRecDepth 100000 in
theorem b_He_isNewsOf {G : XG} {S : XS} {I : XI} {v1 : Int} {v2 : Int} {v3 : Int} {v4 : Int} {R : Int → XI → Prop} (hS : xSh S)  (h : (inb (v1) 60 ∧ ((w32 (I c_herds_newsCamps (ix (v1))) = w32 (v2) → (inb (v1) 60 ∧ ((w32 (I c_herds_newsWeeks (ix (v1))) = w32 (v3) → (inb (v1) 60 ∧ ((w32 (v4) < w32 (I c_herds_newsTold (ix (v1))) → R (0) I) ∧ (¬ (w32 (v4) < w32 (I c_herds_newsTold (ix (v1)))) → R (1) I)))) ∧ (¬ (w32 (I c_herds_newsWeeks (ix (v1))) = w32 (v3)) → R (0) I)))) ∧ (¬ (w32 (I c_herds_newsCamps (ix (v1))) = w32 (v2)) → R (0) I)))) : He_isNewsOf G S I v1 v2 v3 v4 R := by
  refine x_start [some (vr G c_herds), some (vi (v1)), some (vi (v2)), some (vi (v3)), some (vi (v4))] (by decide) (Nat.le_of_ble_eq_true rfl) rfl ?_
  refine x_aload_n (pc := 0) dX1_isNewsOf_0 rfl rfl ?_
  refine x_getR (pc := 1) (i := c_herds) (a := c_herds_newsCamps) fl_X1_31 dX1_isNewsOf_1 (sN_c_herds hS) (sT_c_herds hS) rfl (sR_c_herds_6 hS) ?_
  refine x_iload_n (pc := 4) dX1_isNewsOf_4 rfl rfl ?_
  refine y_iald (pc := 5) (i := c_herds_newsCamps) (n := 60) dX1_isNewsOf_5 (sN_c_herds_newsCamps hS) (sT_c_herds_newsCamps hS) (sL_c_herds_newsCamps hS) h.1 ?_
  have h := h.2
  refine x_iload_n (pc := 6) dX1_isNewsOf_6 rfl rfl ?_
  refine x_icmp_ne (pc := 7) (t := 35) dX1_isNewsOf_7 (by decide) (fun e => ?_) (fun e => ?_)
  · have h := h.1 e
    refine x_aload_n (pc := 10) dX1_isNewsOf_10 rfl rfl ?_
    refine x_getR (pc := 11) (i := c_herds) (a := c_herds_newsWeeks) fl_X1_37 dX1_isNewsOf_11 (sN_c_herds hS) (sT_c_herds hS) rfl (sR_c_herds_8 hS) ?_
    refine x_iload_n (pc := 14) dX1_isNewsOf_14 rfl rfl ?_
    refine y_iald (pc := 15) (i := c_herds_newsWeeks) (n := 60) dX1_isNewsOf_15 (sN_c_herds_newsWeeks hS) (sT_c_herds_newsWeeks hS) (sL_c_herds_newsWeeks hS) h.1 ?_
    have h := h.2
    refine x_iload_n (pc := 16) dX1_isNewsOf_16 rfl rfl ?_
    refine x_icmp_ne (pc := 17) (t := 35) dX1_isNewsOf_17 (by decide) (fun e => ?_) (fun e => ?_)
    · have h := h.1 e
      refine x_aload_n (pc := 20) dX1_isNewsOf_20 rfl rfl ?_
      refine x_getR (pc := 21) (i := c_herds) (a := c_herds_newsTold) fl_X1_43 dX1_isNewsOf_21 (sN_c_herds hS) (sT_c_herds hS) rfl (sR_c_herds_10 hS) ?_
      refine x_iload_n (pc := 24) dX1_isNewsOf_24 rfl rfl ?_
      refine y_iald (pc := 25) (i := c_herds_newsTold) (n := 60) dX1_isNewsOf_25 (sN_c_herds_newsTold hS) (sT_c_herds_newsTold hS) (sL_c_herds_newsTold hS) h.1 ?_
      have h := h.2
      refine x_iload (pc := 26) dX1_isNewsOf_26 rfl ?_
      refine x_icmp_gt (pc := 28) (t := 35) dX1_isNewsOf_28 (by decide) (fun e => ?_) (fun e => ?_)
      · have h := h.1 e
        refine x_iconst (pc := 35) dX1_isNewsOf_35 ?_
        exact y_zret (pc := 36) dX1_isNewsOf_36 rfl ⟨Nat.le_refl _, Nat.le_refl _⟩ (Or.inl rfl) h
      · have h := h.2 e
        refine x_iconst (pc := 31) dX1_isNewsOf_31 ?_
        refine x_goto (pc := 32) (t := 36) dX1_isNewsOf_32 (by decide) ?_
        exact y_zret (pc := 36) dX1_isNewsOf_36 rfl ⟨Nat.le_refl _, Nat.le_refl _⟩ (Or.inr rfl) h
    · have h := h.2 e
      refine x_iconst (pc := 35) dX1_isNewsOf_35 ?_
      exact y_zret (pc := 36) dX1_isNewsOf_36 rfl ⟨Nat.le_refl _, Nat.le_refl _⟩ (Or.inl rfl) h
  · have h := h.2 e
    refine x_iconst (pc := 35) dX1_isNewsOf_35 ?_
    exact y_zret (pc := 36) dX1_isNewsOf_36 rfl ⟨Nat.le_refl _, Nat.le_refl _⟩ (Or.inl rfl) h
set_option maxHeartbeats 4000000 in
set_option maxRecDepth 100000 in
theorem b_To_copyRow {G : XG} {S : XS} {I : XI} {v0 : Nat} {v1 : Nat} {R : XI → Prop} (hS : xSh S) (hN_v0 : v0 < S.1) (hT_v0 : xtag S v0 = 13) (hN_v1 : v1 < S.1) (hT_v1 : xtag S v1 = 13) (h : (0 ≤ w32 (if w32 ((((xlen S v1) : Nat) : Int)) < w32 ((((xlen S v0) : Nat) : Int)) then (((xlen S v1) : Nat) : Int) else (((xlen S v0) : Nat) : Int)) ∧ ix (if w32 ((((xlen S v1) : Nat) : Int)) < w32 ((((xlen S v0) : Nat) : Int)) then (((xlen S v1) : Nat) : Int) else (((xlen S v0) : Nat) : Int)) ≤ (xlen S v0) ∧ ix (if w32 ((((xlen S v1) : Nat) : Int)) < w32 ((((xlen S v0) : Nat) : Int)) then (((xlen S v1) : Nat) : Int) else (((xlen S v0) : Nat) : Int)) ≤ (xlen S v1) ∧ ∀ I1 : XI, I1 = xcpy I v0 v1 0 0 (ix (if w32 ((((xlen S v1) : Nat) : Int)) < w32 ((((xlen S v0) : Nat) : Int)) then (((xlen S v1) : Nat) : Int) else (((xlen S v0) : Nat) : Int))) → R I1)) : To_copyRow G S I v0 v1 R := by
  refine x_start [some (vr G v0), some (vr G v1)] (by decide) (Nat.le_of_ble_eq_true rfl) rfl ?_
  refine x_aload_n (pc := 0) dX7_copyRow_0 rfl rfl ?_
  refine x_iconst (pc := 1) dX7_copyRow_1 ?_
  refine x_aload_n (pc := 2) dX7_copyRow_2 rfl rfl ?_
  refine x_iconst (pc := 3) dX7_copyRow_3 ?_
  refine x_aload_n (pc := 4) dX7_copyRow_4 rfl rfl ?_
  refine y_alen (pc := 5) (i := v0) (n := (xlen S v0)) dX7_copyRow_5 hN_v0 hT_v0 rfl ?_
  refine x_aload_n (pc := 6) dX7_copyRow_6 rfl rfl ?_
  refine y_alen (pc := 7) (i := v1) (n := (xlen S v1)) dX7_copyRow_7 hN_v1 hT_v1 rfl ?_
  refine x_min (pc := 8) ⟨ml_X7_86, w_mins, w_mi, w_minc⟩ dX7_copyRow_8 ⟨by decide, Nat.le_of_ble_eq_true rfl, Nat.le_refl _, Nat.le_refl _⟩ ?_
  refine y_copy0 (pc := 11) (a := v0) (b := v1) ml_X7_92 w_acn w_acs w_aci dX7_copyRow_11 hN_v0 hT_v0 hN_v1 hT_v1 h.1 h.2.1 h.2.2.1 ⟨by decide, Nat.le_of_ble_eq_true rfl⟩ ?_
  have h := h.2.2.2 _ rfl
  generalize xcpy I v0 v1 0 0 (ix (if w32 ((((xlen S v1) : Nat) : Int)) < w32 ((((xlen S v0) : Nat) : Int)) then (((xlen S v1) : Nat) : Int) else (((xlen S v0) : Nat) : Int))) = I1 at h ⊢
  exact y_vret (pc := 14) dX7_copyRow_14 rfl ⟨Nat.le_refl _, Nat.le_refl _⟩ h
set_option maxHeartbeats 4000000 in
set_option maxRecDepth 100000 in
theorem b_Pa_takeToken {G : XG} {S : XS} {I : XI}  {R : XI → Prop} (hS : xSh S)  (h : Pa_takeToken_k0 G S I  R) : Pa_takeToken G S I  R := by
  refine x_start [some (vr G c_parser)] (by decide) (Nat.le_of_ble_eq_true rfl) rfl ?_
  exact h
set_option maxHeartbeats 4000000 in
set_option maxRecDepth 100000 in
theorem b_Pa_takeToken_k0 {G : XG} {S : XS}  {I : XI}  {R : XI → Prop} (hS : xSh S)  (h : ((w32 (I c_parser 4) ≤ w32 (I c_parser 5) → Pa_takeToken_k52 G S I  R) ∧ (¬ (w32 (I c_parser 4) ≤ w32 (I c_parser 5)) → (inb (I c_parser 5) 500 ∧ ((w32 (I c_parser_bytes (ix (I c_parser 5))) = w32 (10) → (∀ I1 : XI, I1 = up I c_parser 5 ((I c_parser 5) + (1)) → Pa_takeToken_k0 G S I1  R)) ∧ (¬ (w32 (I c_parser_bytes (ix (I c_parser 5))) = w32 (10)) → (inb (I c_parser 5) 500 ∧ ((w32 (I c_parser_bytes (ix (I c_parser 5))) = w32 (32) → (∀ I2 : XI, I2 = up I c_parser 5 ((I c_parser 5) + (1)) → Pa_takeToken_k0 G S I2  R)) ∧ (¬ (w32 (I c_parser_bytes (ix (I c_parser 5))) = w32 (32)) → Pa_takeToken_k52 G S I  R))))))))) : Pa_takeToken_k0 G S  I  R := by
  unfold Pa_takeToken_k0
  refine x_aload_n (pc := 0) dX3_takeToken_0 rfl rfl ?_
  refine x_getI (pc := 1) (i := c_parser) fl_X3_32 dX3_takeToken_1 (sN_c_parser hS) (sT_c_parser hS) rfl ?_
  refine x_aload_n (pc := 4) dX3_takeToken_4 rfl rfl ?_
  refine x_getI (pc := 5) (i := c_parser) fl_X3_29 dX3_takeToken_5 (sN_c_parser hS) (sT_c_parser hS) rfl ?_
  refine x_icmp_ge (pc := 8) (t := 52) dX3_takeToken_8 (by decide) (fun e => ?_) (fun e => ?_)
  · have h := h.1 e
    exact h
  · have h := h.2 e
    refine x_aload_n (pc := 11) dX3_takeToken_11 rfl rfl ?_
    refine x_getR (pc := 12) (i := c_parser) (a := c_parser_bytes) fl_X3_25 dX3_takeToken_12 (sN_c_parser hS) (sT_c_parser hS) rfl (sR_c_parser_3 hS) ?_
    refine x_aload_n (pc := 15) dX3_takeToken_15 rfl rfl ?_
    refine x_getI (pc := 16) (i := c_parser) fl_X3_32 dX3_takeToken_16 (sN_c_parser hS) (sT_c_parser hS) rfl ?_
    refine y_iald (pc := 19) (i := c_parser_bytes) (n := 500) dX3_takeToken_19 (sN_c_parser_bytes hS) (sT_c_parser_bytes hS) (sL_c_parser_bytes hS) h.1 ?_
    have h := h.2
    refine x_bipush (pc := 20) dX3_takeToken_20 (by decide) ?_
    refine x_icmp_eq (pc := 22) (t := 39) dX3_takeToken_22 (by decide) (fun e => ?_) (fun e => ?_)
    · have h := h.1 e
      refine x_aload_n (pc := 39) dX3_takeToken_39 rfl rfl ?_
      refine x_dup (pc := 40) dX3_takeToken_40 rfl ?_
      refine x_getI (pc := 41) (i := c_parser) fl_X3_32 dX3_takeToken_41 (sN_c_parser hS) (sT_c_parser hS) rfl ?_
      refine x_iconst (pc := 44) dX3_takeToken_44 ?_
      refine x_iadd (pc := 45) dX3_takeToken_45 ?_
      refine x_putI (pc := 46) (i := c_parser) fl_X3_32 dX3_takeToken_46 (sN_c_parser hS) (sT_c_parser hS) rfl ?_
      have h := h _ rfl
      generalize up I c_parser 5 ((I c_parser 5) + (1)) = I1 at h ⊢
      refine x_goto (pc := 49) (t := 0) dX3_takeToken_49 (by decide) ?_
      exact h
    · have h := h.2 e
      refine x_aload_n (pc := 25) dX3_takeToken_25 rfl rfl ?_
      refine x_getR (pc := 26) (i := c_parser) (a := c_parser_bytes) fl_X3_25 dX3_takeToken_26 (sN_c_parser hS) (sT_c_parser hS) rfl (sR_c_parser_3 hS) ?_
      refine x_aload_n (pc := 29) dX3_takeToken_29 rfl rfl ?_
      refine x_getI (pc := 30) (i := c_parser) fl_X3_32 dX3_takeToken_30 (sN_c_parser hS) (sT_c_parser hS) rfl ?_
      refine y_iald (pc := 33) (i := c_parser_bytes) (n := 500) dX3_takeToken_33 (sN_c_parser_bytes hS) (sT_c_parser_bytes hS) (sL_c_parser_bytes hS) h.1 ?_
      have h := h.2
      refine x_bipush (pc := 34) dX3_takeToken_34 (by decide) ?_
      refine x_icmp_ne (pc := 36) (t := 52) dX3_takeToken_36 (by decide) (fun e => ?_) (fun e => ?_)
      · have h := h.1 e
        refine x_aload_n (pc := 39) dX3_takeToken_39 rfl rfl ?_
        refine x_dup (pc := 40) dX3_takeToken_40 rfl ?_
        refine x_getI (pc := 41) (i := c_parser) fl_X3_32 dX3_takeToken_41 (sN_c_parser hS) (sT_c_parser hS) rfl ?_
        refine x_iconst (pc := 44) dX3_takeToken_44 ?_
        refine x_iadd (pc := 45) dX3_takeToken_45 ?_
        refine x_putI (pc := 46) (i := c_parser) fl_X3_32 dX3_takeToken_46 (sN_c_parser hS) (sT_c_parser hS) rfl ?_
        have h := h _ rfl
        generalize up I c_parser 5 ((I c_parser 5) + (1)) = I2 at h ⊢
        refine x_goto (pc := 49) (t := 0) dX3_takeToken_49 (by decide) ?_
        exact h
      · have h := h.2 e
        exact h
set_option maxHeartbeats 4000000 in
set_option maxRecDepth 100000 in
theorem b_Pa_takeToken_k52 {G : XG} {S : XS}  {I : XI}  {R : XI → Prop} (hS : xSh S)  (h : (∀ I3 : XI, I3 = up I c_parser 7 (I c_parser 5) → ((w32 (I3 c_parser 5) < w32 (I3 c_parser 4) → (inb (I3 c_parser 5) 500 ∧ (∀ I4 : XI, I4 = up I3 c_parser 8 (I3 c_parser_bytes (ix (I3 c_parser 5))) → ((w32 (I4 c_parser 8) < w32 (97) → Pa_takeToken_k124 G S I4  R) ∧ (¬ (w32 (I4 c_parser 8) < w32 (97)) → ((w32 (122) < w32 (I4 c_parser 8) → Pa_takeToken_k124 G S I4  R) ∧ (¬ (w32 (122) < w32 (I4 c_parser 8)) → Pa_passRow G S I4 (97) (122) (fun I5 => (∀ I6 : XI, I6 = up I5 c_parser 6 (1) → R I6))))))))) ∧ (¬ (w32 (I3 c_parser 5) < w32 (I3 c_parser 4)) → (∀ I7 : XI, I7 = up I3 c_parser 6 (0) → R I7))))) : Pa_takeToken_k52 G S  I  R := by
  unfold Pa_takeToken_k52
  refine x_aload_n (pc := 52) dX3_takeToken_52 rfl rfl ?_
  refine x_aload_n (pc := 53) dX3_takeToken_53 rfl rfl ?_
  refine x_getI (pc := 54) (i := c_parser) fl_X3_32 dX3_takeToken_54 (sN_c_parser hS) (sT_c_parser hS) rfl ?_
  refine x_putI (pc := 57) (i := c_parser) fl_X3_38 dX3_takeToken_57 (sN_c_parser hS) (sT_c_parser hS) rfl ?_
  have h := h _ rfl
  generalize up I c_parser 7 (I c_parser 5) = I3 at h ⊢
  refine x_aload_n (pc := 60) dX3_takeToken_60 rfl rfl ?_
  refine x_getI (pc := 61) (i := c_parser) fl_X3_32 dX3_takeToken_61 (sN_c_parser hS) (sT_c_parser hS) rfl ?_
  refine x_aload_n (pc := 64) dX3_takeToken_64 rfl rfl ?_
  refine x_getI (pc := 65) (i := c_parser) fl_X3_29 dX3_takeToken_65 (sN_c_parser hS) (sT_c_parser hS) rfl ?_
  refine x_icmp_lt (pc := 68) (t := 77) dX3_takeToken_68 (by decide) (fun e => ?_) (fun e => ?_)
  · have h := h.1 e
    refine x_aload_n (pc := 77) dX3_takeToken_77 rfl rfl ?_
    refine x_aload_n (pc := 78) dX3_takeToken_78 rfl rfl ?_
    refine x_getR (pc := 79) (i := c_parser) (a := c_parser_bytes) fl_X3_25 dX3_takeToken_79 (sN_c_parser hS) (sT_c_parser hS) rfl (sR_c_parser_3 hS) ?_
    refine x_aload_n (pc := 82) dX3_takeToken_82 rfl rfl ?_
    refine x_getI (pc := 83) (i := c_parser) fl_X3_32 dX3_takeToken_83 (sN_c_parser hS) (sT_c_parser hS) rfl ?_
    refine y_iald (pc := 86) (i := c_parser_bytes) (n := 500) dX3_takeToken_86 (sN_c_parser_bytes hS) (sT_c_parser_bytes hS) (sL_c_parser_bytes hS) h.1 ?_
    have h := h.2
    refine x_putI (pc := 87) (i := c_parser) fl_X3_41 dX3_takeToken_87 (sN_c_parser hS) (sT_c_parser hS) rfl ?_
    have h := h _ rfl
    generalize up I3 c_parser 8 (I3 c_parser_bytes (ix (I3 c_parser 5))) = I4 at h ⊢
    refine x_aload_n (pc := 90) dX3_takeToken_90 rfl rfl ?_
    refine x_getI (pc := 91) (i := c_parser) fl_X3_41 dX3_takeToken_91 (sN_c_parser hS) (sT_c_parser hS) rfl ?_
    refine x_bipush (pc := 94) dX3_takeToken_94 (by decide) ?_
    refine x_icmp_lt (pc := 96) (t := 124) dX3_takeToken_96 (by decide) (fun e => ?_) (fun e => ?_)
    · have h := h.1 e
      exact h
    · have h := h.2 e
      refine x_aload_n (pc := 99) dX3_takeToken_99 rfl rfl ?_
      refine x_getI (pc := 100) (i := c_parser) fl_X3_41 dX3_takeToken_100 (sN_c_parser hS) (sT_c_parser hS) rfl ?_
      refine x_bipush (pc := 103) dX3_takeToken_103 (by decide) ?_
      refine x_icmp_gt (pc := 105) (t := 124) dX3_takeToken_105 (by decide) (fun e => ?_) (fun e => ?_)
      · have h := h.1 e
        exact h
      · have h := h.2 e
        refine x_aload_n (pc := 108) dX3_takeToken_108 rfl rfl ?_
        refine x_bipush (pc := 109) dX3_takeToken_109 (by decide) ?_
        refine x_bipush (pc := 111) dX3_takeToken_111 (by decide) ?_
        refine y_Vv (pc := 113) (i := c_parser) (As := [vi (97), vi (122)]) (rest := []) ok_X3_passRow ml_X3_156 dX3_takeToken_113 (sN_c_parser hS) (sT_c_parser hS) (by decide) rfl rfl rfl ⟨rfl, rfl⟩ ⟨by decide, by decide⟩ ⟨Nat.le_refl _, Nat.le_refl _⟩ (Nat.le_of_ble_eq_true rfl) rfl h (fun I5 h => ?_)
        refine x_aload_n (pc := 116) dX3_takeToken_116 rfl rfl ?_
        refine x_iconst (pc := 117) dX3_takeToken_117 ?_
        refine x_putI (pc := 118) (i := c_parser) fl_X3_35 dX3_takeToken_118 (sN_c_parser hS) (sT_c_parser hS) rfl ?_
        have h := h _ rfl
        generalize up I5 c_parser 6 (1) = I6 at h ⊢
        refine x_goto (pc := 121) (t := 220) dX3_takeToken_121 (by decide) ?_
        exact y_vret (pc := 220) dX3_takeToken_220 rfl ⟨Nat.le_refl _, Nat.le_refl _⟩ h
  · have h := h.2 e
    refine x_aload_n (pc := 71) dX3_takeToken_71 rfl rfl ?_
    refine x_iconst (pc := 72) dX3_takeToken_72 ?_
    refine x_putI (pc := 73) (i := c_parser) fl_X3_35 dX3_takeToken_73 (sN_c_parser hS) (sT_c_parser hS) rfl ?_
    have h := h _ rfl
    generalize up I3 c_parser 6 (0) = I7 at h ⊢
    exact y_vret (pc := 76) dX3_takeToken_76 rfl ⟨Nat.le_refl _, Nat.le_refl _⟩ h
set_option maxHeartbeats 4000000 in
set_option maxRecDepth 100000 in
theorem b_Pa_takeToken_k124 {G : XG} {S : XS}  {I : XI}  {R : XI → Prop} (hS : xSh S)  (h : ((w32 (I c_parser 8) < w32 (48) → Pa_takeToken_k183 G S I  R) ∧ (¬ (w32 (I c_parser 8) < w32 (48)) → ((w32 (57) < w32 (I c_parser 8) → Pa_takeToken_k183 G S I  R) ∧ (¬ (w32 (57) < w32 (I c_parser 8)) → Pa_passRow G S I (48) (57) (fun I8 => ((w32 (4) < w32 ((I8 c_parser 5) - (I8 c_parser 7)) → (∀ I9 : XI, I9 = up I8 c_parser 6 (4) → Pa_readDigits G S I9 (fun r11 I10 => (∀ I12 : XI, I12 = up I10 c_parser 8 (r11) → R I12)))) ∧ (¬ (w32 (4) < w32 ((I8 c_parser 5) - (I8 c_parser 7))) → (∀ I13 : XI, I13 = up I8 c_parser 6 (2) → Pa_readDigits G S I13 (fun r15 I14 => (∀ I16 : XI, I16 = up I14 c_parser 8 (r15) → R I16))))))))))) : Pa_takeToken_k124 G S  I  R := by
  unfold Pa_takeToken_k124
  refine x_aload_n (pc := 124) dX3_takeToken_124 rfl rfl ?_
  refine x_getI (pc := 125) (i := c_parser) fl_X3_41 dX3_takeToken_125 (sN_c_parser hS) (sT_c_parser hS) rfl ?_
  refine x_bipush (pc := 128) dX3_takeToken_128 (by decide) ?_
  refine x_icmp_lt (pc := 130) (t := 183) dX3_takeToken_130 (by decide) (fun e => ?_) (fun e => ?_)
  · have h := h.1 e
    exact h
  · have h := h.2 e
    refine x_aload_n (pc := 133) dX3_takeToken_133 rfl rfl ?_
    refine x_getI (pc := 134) (i := c_parser) fl_X3_41 dX3_takeToken_134 (sN_c_parser hS) (sT_c_parser hS) rfl ?_
    refine x_bipush (pc := 137) dX3_takeToken_137 (by decide) ?_
    refine x_icmp_gt (pc := 139) (t := 183) dX3_takeToken_139 (by decide) (fun e => ?_) (fun e => ?_)
    · have h := h.1 e
      exact h
    · have h := h.2 e
      refine x_aload_n (pc := 142) dX3_takeToken_142 rfl rfl ?_
      refine x_bipush (pc := 143) dX3_takeToken_143 (by decide) ?_
      refine x_bipush (pc := 145) dX3_takeToken_145 (by decide) ?_
      refine y_Vv (pc := 147) (i := c_parser) (As := [vi (48), vi (57)]) (rest := []) ok_X3_passRow ml_X3_156 dX3_takeToken_147 (sN_c_parser hS) (sT_c_parser hS) (by decide) rfl rfl rfl ⟨rfl, rfl⟩ ⟨by decide, by decide⟩ ⟨Nat.le_refl _, Nat.le_refl _⟩ (Nat.le_of_ble_eq_true rfl) rfl h (fun I8 h => ?_)
      refine x_aload_n (pc := 150) dX3_takeToken_150 rfl rfl ?_
      refine x_aload_n (pc := 151) dX3_takeToken_151 rfl rfl ?_
      refine x_getI (pc := 152) (i := c_parser) fl_X3_32 dX3_takeToken_152 (sN_c_parser hS) (sT_c_parser hS) rfl ?_
      refine x_aload_n (pc := 155) dX3_takeToken_155 rfl rfl ?_
      refine x_getI (pc := 156) (i := c_parser) fl_X3_38 dX3_takeToken_156 (sN_c_parser hS) (sT_c_parser hS) rfl ?_
      refine x_isub (pc := 159) dX3_takeToken_159 ?_
      refine x_iconst (pc := 160) dX3_takeToken_160 ?_
      refine x_icmp_gt (pc := 161) (t := 168) dX3_takeToken_161 (by decide) (fun e => ?_) (fun e => ?_)
      · have h := h.1 e
        refine x_iconst (pc := 168) dX3_takeToken_168 ?_
        refine x_putI (pc := 169) (i := c_parser) fl_X3_35 dX3_takeToken_169 (sN_c_parser hS) (sT_c_parser hS) rfl ?_
        have h := h _ rfl
        generalize up I8 c_parser 6 (4) = I9 at h ⊢
        refine x_aload_n (pc := 172) dX3_takeToken_172 rfl rfl ?_
        refine x_aload_n (pc := 173) dX3_takeToken_173 rfl rfl ?_
        refine y_Vi (pc := 174) (i := c_parser) (As := []) (rest := [vr G c_parser]) ok_X3_readDigits ml_X3_160 dX3_takeToken_174 (sN_c_parser hS) (sT_c_parser hS) (by decide) rfl rfl rfl ⟨rfl, rfl⟩ ⟨by decide, by decide⟩ ⟨Nat.le_refl _, Nat.le_refl _⟩ (Nat.le_of_ble_eq_true rfl) rfl h (fun r11 I10 h => ?_)
        refine x_putI (pc := 177) (i := c_parser) fl_X3_41 dX3_takeToken_177 (sN_c_parser hS) (sT_c_parser hS) rfl ?_
        have h := h _ rfl
        generalize up I10 c_parser 8 (r11) = I12 at h ⊢
        refine x_goto (pc := 180) (t := 220) dX3_takeToken_180 (by decide) ?_
        exact y_vret (pc := 220) dX3_takeToken_220 rfl ⟨Nat.le_refl _, Nat.le_refl _⟩ h
      · have h := h.2 e
        refine x_iconst (pc := 164) dX3_takeToken_164 ?_
        refine x_goto (pc := 165) (t := 169) dX3_takeToken_165 (by decide) ?_
        refine x_putI (pc := 169) (i := c_parser) fl_X3_35 dX3_takeToken_169 (sN_c_parser hS) (sT_c_parser hS) rfl ?_
        have h := h _ rfl
        generalize up I8 c_parser 6 (2) = I13 at h ⊢
        refine x_aload_n (pc := 172) dX3_takeToken_172 rfl rfl ?_
        refine x_aload_n (pc := 173) dX3_takeToken_173 rfl rfl ?_
        refine y_Vi (pc := 174) (i := c_parser) (As := []) (rest := [vr G c_parser]) ok_X3_readDigits ml_X3_160 dX3_takeToken_174 (sN_c_parser hS) (sT_c_parser hS) (by decide) rfl rfl rfl ⟨rfl, rfl⟩ ⟨by decide, by decide⟩ ⟨Nat.le_refl _, Nat.le_refl _⟩ (Nat.le_of_ble_eq_true rfl) rfl h (fun r15 I14 h => ?_)
        refine x_putI (pc := 177) (i := c_parser) fl_X3_41 dX3_takeToken_177 (sN_c_parser hS) (sT_c_parser hS) rfl ?_
        have h := h _ rfl
        generalize up I14 c_parser 8 (r15) = I16 at h ⊢
        refine x_goto (pc := 180) (t := 220) dX3_takeToken_180 (by decide) ?_
        exact y_vret (pc := 220) dX3_takeToken_220 rfl ⟨Nat.le_refl _, Nat.le_refl _⟩ h
set_option maxHeartbeats 4000000 in
set_option maxRecDepth 100000 in
theorem b_Pa_takeToken_k183 {G : XG} {S : XS}  {I : XI}  {R : XI → Prop} (hS : xSh S)  (h : (∀ I17 : XI, I17 = up I c_parser 5 ((I c_parser 5) + (1)) → ((w32 (I17 c_parser 8) < w32 (58) → (∀ I18 : XI, I18 = up I17 c_parser 6 (4) → R I18)) ∧ (¬ (w32 (I17 c_parser 8) < w32 (58)) → ((w32 (62) < w32 (I17 c_parser 8) → (∀ I19 : XI, I19 = up I17 c_parser 6 (4) → R I19)) ∧ (¬ (w32 (62) < w32 (I17 c_parser 8)) → (∀ I20 : XI, I20 = up I17 c_parser 6 (3) → R I20))))))) : Pa_takeToken_k183 G S  I  R := by
  unfold Pa_takeToken_k183
  refine x_aload_n (pc := 183) dX3_takeToken_183 rfl rfl ?_
  refine x_dup (pc := 184) dX3_takeToken_184 rfl ?_
  refine x_getI (pc := 185) (i := c_parser) fl_X3_32 dX3_takeToken_185 (sN_c_parser hS) (sT_c_parser hS) rfl ?_
  refine x_iconst (pc := 188) dX3_takeToken_188 ?_
  refine x_iadd (pc := 189) dX3_takeToken_189 ?_
  refine x_putI (pc := 190) (i := c_parser) fl_X3_32 dX3_takeToken_190 (sN_c_parser hS) (sT_c_parser hS) rfl ?_
  have h := h _ rfl
  generalize up I c_parser 5 ((I c_parser 5) + (1)) = I17 at h ⊢
  refine x_aload_n (pc := 193) dX3_takeToken_193 rfl rfl ?_
  refine x_aload_n (pc := 194) dX3_takeToken_194 rfl rfl ?_
  refine x_getI (pc := 195) (i := c_parser) fl_X3_41 dX3_takeToken_195 (sN_c_parser hS) (sT_c_parser hS) rfl ?_
  refine x_bipush (pc := 198) dX3_takeToken_198 (by decide) ?_
  refine x_icmp_lt (pc := 200) (t := 216) dX3_takeToken_200 (by decide) (fun e => ?_) (fun e => ?_)
  · have h := h.1 e
    refine x_iconst (pc := 216) dX3_takeToken_216 ?_
    refine x_putI (pc := 217) (i := c_parser) fl_X3_35 dX3_takeToken_217 (sN_c_parser hS) (sT_c_parser hS) rfl ?_
    have h := h _ rfl
    generalize up I17 c_parser 6 (4) = I18 at h ⊢
    exact y_vret (pc := 220) dX3_takeToken_220 rfl ⟨Nat.le_refl _, Nat.le_refl _⟩ h
  · have h := h.2 e
    refine x_aload_n (pc := 203) dX3_takeToken_203 rfl rfl ?_
    refine x_getI (pc := 204) (i := c_parser) fl_X3_41 dX3_takeToken_204 (sN_c_parser hS) (sT_c_parser hS) rfl ?_
    refine x_bipush (pc := 207) dX3_takeToken_207 (by decide) ?_
    refine x_icmp_gt (pc := 209) (t := 216) dX3_takeToken_209 (by decide) (fun e => ?_) (fun e => ?_)
    · have h := h.1 e
      refine x_iconst (pc := 216) dX3_takeToken_216 ?_
      refine x_putI (pc := 217) (i := c_parser) fl_X3_35 dX3_takeToken_217 (sN_c_parser hS) (sT_c_parser hS) rfl ?_
      have h := h _ rfl
      generalize up I17 c_parser 6 (4) = I19 at h ⊢
      exact y_vret (pc := 220) dX3_takeToken_220 rfl ⟨Nat.le_refl _, Nat.le_refl _⟩ h
    · have h := h.2 e
      refine x_iconst (pc := 212) dX3_takeToken_212 ?_
      refine x_goto (pc := 213) (t := 217) dX3_takeToken_213 (by decide) ?_
      refine x_putI (pc := 217) (i := c_parser) fl_X3_35 dX3_takeToken_217 (sN_c_parser hS) (sT_c_parser hS) rfl ?_
      have h := h _ rfl
      generalize up I17 c_parser 6 (3) = I20 at h ⊢
      exact y_vret (pc := 220) dX3_takeToken_220 rfl ⟨Nat.le_refl _, Nat.le_refl _⟩ h
set_option maxHeartbeats 4000000 in
set_option maxRecDepth 100000 in
theorem b_Pa_parseLine {G : XG} {S : XS} {I : XI} {v1 : Int} {R : XI → Prop} (hS : xSh S)  (h : ((w32 (v1) = w32 (16) → Pa_note G S I (3) (fun I1 => Pa_parseLine_k11 G S I1 (v1) R)) ∧ (¬ (w32 (v1) = w32 (16)) → Pa_parseLine_k11 G S I (v1) R))) : Pa_parseLine G S I v1 R := by
  refine x_start [some (vr G c_parser), some (vi (v1)), none] (by decide) (Nat.le_of_ble_eq_true rfl) rfl ?_
  refine x_iload_n (pc := 0) dX3_parseLine_0 rfl rfl ?_
  refine x_bipush (pc := 1) dX3_parseLine_1 (by decide) ?_
  refine x_icmp_ne (pc := 3) (t := 11) dX3_parseLine_3 (by decide) (fun e => ?_) (fun e => ?_)
  · have h := h.1 e
    refine x_aload_n (pc := 6) dX3_parseLine_6 rfl rfl ?_
    refine x_iconst (pc := 7) dX3_parseLine_7 ?_
    refine y_Vv (pc := 8) (i := c_parser) (As := [vi (3)]) (rest := []) ok_X3_note ml_X3_66 dX3_parseLine_8 (sN_c_parser hS) (sT_c_parser hS) (by decide) rfl rfl rfl ⟨rfl, rfl⟩ ⟨by decide, by decide⟩ ⟨Nat.le_refl _, Nat.le_refl _⟩ (Nat.le_of_ble_eq_true rfl) rfl h (fun I1 h => ?_)
    exact h
  · have h := h.2 e
    exact h
set_option maxHeartbeats 4000000 in
set_option maxRecDepth 100000 in
theorem b_Pa_parseLine_k11 {G : XG} {S : XS}  {I : XI} {v1 : Int} {R : XI → Prop} (hS : xSh S)  (h : Pa_isWord G S I (0) (fun r3 I2 => ((w32 (r3) = 0 → Pa_parseLine_k43 G S I2 (v1) (0) R) ∧ (¬ (w32 (r3) = 0) → Pa_parseTests G S I2 (v1) (fun r5 I4 => ((w32 (r5) = w32 ((-1)) → R I4) ∧ (¬ (w32 (r5) = w32 ((-1))) → Pa_takeSign G S I4 (58) (fun r7 I6 => ((w32 (r7) = 0 → R I6) ∧ (¬ (w32 (r7) = 0) → Pa_parseLine_k43 G S I6 (v1) (r5) R)))))))))) : Pa_parseLine_k11 G S  I v1 R := by
  unfold Pa_parseLine_k11
  refine x_iconst (pc := 11) dX3_parseLine_11 ?_
  refine x_istore_n (pc := 12) (L' := [some (vr G c_parser), some (vi (v1)), some (vi (0))]) dX3_parseLine_12 rfl (by decide) (xst1 rfl rfl rfl) ?_
  refine x_aload_n (pc := 13) dX3_parseLine_13 rfl rfl ?_
  refine x_ldcS (pc := 14) (q := 0) dX3_parseLine_14 (by decide) rfl rfl ?_
  refine y_Vi (pc := 16) (i := c_parser) (As := [vs G 0]) (rest := []) ok_X3_isWord ml_X3_71 dX3_parseLine_16 (sN_c_parser hS) (sT_c_parser hS) (by decide) rfl rfl rfl ⟨rfl, rfl⟩ ⟨by decide, by decide⟩ ⟨Nat.le_refl _, Nat.le_refl _⟩ (Nat.le_of_ble_eq_true rfl) rfl h (fun r3 I2 h => ?_)
  refine x_if_eq (pc := 19) (t := 43) dX3_parseLine_19 (by decide) (fun e => ?_) (fun e => ?_)
  · have h := h.1 e
    exact h
  · have h := h.2 e
    refine x_aload_n (pc := 22) dX3_parseLine_22 rfl rfl ?_
    refine x_iload_n (pc := 23) dX3_parseLine_23 rfl rfl ?_
    refine y_Vi (pc := 24) (i := c_parser) (As := [vi (v1)]) (rest := []) ok_X3_parseTests ml_X3_75 dX3_parseLine_24 (sN_c_parser hS) (sT_c_parser hS) (by decide) rfl rfl rfl ⟨rfl, rfl⟩ ⟨by decide, by decide⟩ ⟨Nat.le_refl _, Nat.le_refl _⟩ (Nat.le_of_ble_eq_true rfl) rfl h (fun r5 I4 h => ?_)
    refine x_istore_n (pc := 27) (L' := [some (vr G c_parser), some (vi (v1)), some (vi (r5))]) dX3_parseLine_27 rfl (by decide) (xst1 rfl rfl rfl) ?_
    refine x_iload_n (pc := 28) dX3_parseLine_28 rfl rfl ?_
    refine x_iconst (pc := 29) dX3_parseLine_29 ?_
    refine x_icmp_eq (pc := 30) (t := 42) dX3_parseLine_30 (by decide) (fun e => ?_) (fun e => ?_)
    · have h := h.1 e
      exact y_vret (pc := 42) dX3_parseLine_42 rfl ⟨Nat.le_refl _, Nat.le_refl _⟩ h
    · have h := h.2 e
      refine x_aload_n (pc := 33) dX3_parseLine_33 rfl rfl ?_
      refine x_bipush (pc := 34) dX3_parseLine_34 (by decide) ?_
      refine y_Vi (pc := 36) (i := c_parser) (As := [vi (58)]) (rest := []) ok_X3_takeSign ml_X3_79 dX3_parseLine_36 (sN_c_parser hS) (sT_c_parser hS) (by decide) rfl rfl rfl ⟨rfl, rfl⟩ ⟨by decide, by decide⟩ ⟨Nat.le_refl _, Nat.le_refl _⟩ (Nat.le_of_ble_eq_true rfl) rfl h (fun r7 I6 h => ?_)
      refine x_if_ne (pc := 39) (t := 43) dX3_parseLine_39 (by decide) (fun e => ?_) (fun e => ?_)
      · have h := h.1 e
        exact y_vret (pc := 42) dX3_parseLine_42 rfl ⟨Nat.le_refl _, Nat.le_refl _⟩ h
      · have h := h.2 e
        exact h
set_option maxHeartbeats 4000000 in
set_option maxRecDepth 100000 in
theorem b_Pa_parseLine_k43 {G : XG} {S : XS}  {I : XI} {v1 : Int} {v2 : Int} {R : XI → Prop} (hS : xSh S)  (h : Dr_keepTests G S I (v1) (v2) (fun I8 => Pa_parseDeed G S I8 (v1) (fun r10 I9 => ((w32 (r10) = 0 → R I9) ∧ (¬ (w32 (r10) = 0) → Pa_takeSign G S I9 (59) (fun r12 I11 => R I11)))))) : Pa_parseLine_k43 G S  I v1 v2 R := by
  unfold Pa_parseLine_k43
  refine x_aload_n (pc := 43) dX3_parseLine_43 rfl rfl ?_
  refine x_getR (pc := 44) (i := c_parser) (a := c_draft) fl_X3_12 dX3_parseLine_44 (sN_c_parser hS) (sT_c_parser hS) rfl (sR_c_parser_0 hS) ?_
  refine x_iload_n (pc := 47) dX3_parseLine_47 rfl rfl ?_
  refine x_iload_n (pc := 48) dX3_parseLine_48 rfl rfl ?_
  refine y_Vv (pc := 49) (i := c_draft) (As := [vi (v1), vi (v2)]) (rest := []) ok_X5_keepTests ml_X3_83 dX3_parseLine_49 (sN_c_draft hS) (sT_c_draft hS) (by decide) rfl rfl rfl ⟨rfl, rfl⟩ ⟨by decide, by decide⟩ ⟨Nat.le_refl _, Nat.le_refl _⟩ (Nat.le_of_ble_eq_true rfl) rfl h (fun I8 h => ?_)
  refine x_aload_n (pc := 52) dX3_parseLine_52 rfl rfl ?_
  refine x_iload_n (pc := 53) dX3_parseLine_53 rfl rfl ?_
  refine y_Vi (pc := 54) (i := c_parser) (As := [vi (v1)]) (rest := []) ok_X3_parseDeed ml_X3_87 dX3_parseLine_54 (sN_c_parser hS) (sT_c_parser hS) (by decide) rfl rfl rfl ⟨rfl, rfl⟩ ⟨by decide, by decide⟩ ⟨Nat.le_refl _, Nat.le_refl _⟩ (Nat.le_of_ble_eq_true rfl) rfl h (fun r10 I9 h => ?_)
  refine x_if_eq (pc := 57) (t := 67) dX3_parseLine_57 (by decide) (fun e => ?_) (fun e => ?_)
  · have h := h.1 e
    exact y_vret (pc := 67) dX3_parseLine_67 rfl ⟨Nat.le_refl _, Nat.le_refl _⟩ h
  · have h := h.2 e
    refine x_aload_n (pc := 60) dX3_parseLine_60 rfl rfl ?_
    refine x_bipush (pc := 61) dX3_parseLine_61 (by decide) ?_
    refine y_Vi (pc := 63) (i := c_parser) (As := [vi (59)]) (rest := []) ok_X3_takeSign ml_X3_79 dX3_parseLine_63 (sN_c_parser hS) (sT_c_parser hS) (by decide) rfl rfl rfl ⟨rfl, rfl⟩ ⟨by decide, by decide⟩ ⟨Nat.le_refl _, Nat.le_refl _⟩ (Nat.le_of_ble_eq_true rfl) rfl h (fun r12 I11 h => ?_)
    refine x_pop (pc := 66) dX3_parseLine_66 rfl ?_
    exact y_vret (pc := 67) dX3_parseLine_67 rfl ⟨Nat.le_refl _, Nat.le_refl _⟩ h
set_option maxHeartbeats 4000000 in
set_option maxRecDepth 100000 in
theorem b_Wa_leastStop {G : XG} {S : XS} {I : XI} {v1 : Int} {v2 : Int} {R : Int → XI → Prop} (hS : xSh S)  (h : Wa_leastStop_k2 G S I (v1) (v2) (1) R) : Wa_leastStop G S I v1 v2 R := by
  refine x_start [some (vr G c_walks), some (vi (v1)), some (vi (v2)), none] (by decide) (Nat.le_of_ble_eq_true rfl) rfl ?_
  refine x_iconst (pc := 0) dX8_leastStop_0 ?_
  refine x_istore_n (pc := 1) (L' := [some (vr G c_walks), some (vi (v1)), some (vi (v2)), some (vi (1))]) dX8_leastStop_1 rfl (by decide) (xst1 rfl rfl rfl) ?_
  exact h
set_option maxHeartbeats 4000000 in
set_option maxRecDepth 100000 in
theorem b_Wa_leastStop_k2 {G : XG} {S : XS}  {I : XI} {v1 : Int} {v2 : Int} {v3 : Int} {R : Int → XI → Prop} (hS : xSh S)  (h : ((w32 (9) ≤ w32 (v3) → R (v3) I) ∧ (¬ (w32 (9) ≤ w32 (v3)) → Wa_hasStop G S I (v2) (v3) (fun r2 I1 => ((w32 (r2) = 0 → Wa_leastStop_k2 G S I1 (v1) (v2) (v3 + 1) R) ∧ (¬ (w32 (r2) = 0) → Wa_lengthBy G S I1 (v1) (v3) (v2) (fun r4 I3 => (inb (((v2) * (10)) + (v1)) 5120 ∧ ((w32 (r4) = w32 (I3 c_walks_home (ix (((v2) * (10)) + (v1)))) → R (v3) I3) ∧ (¬ (w32 (r4) = w32 (I3 c_walks_home (ix (((v2) * (10)) + (v1))))) → Wa_leastStop_k2 G S I3 (v1) (v2) (v3 + 1) R)))))))))) : Wa_leastStop_k2 G S  I v1 v2 v3 R := by
  unfold Wa_leastStop_k2
  refine x_iload_n (pc := 2) dX8_leastStop_2 rfl rfl ?_
  refine x_bipush (pc := 3) dX8_leastStop_3 (by decide) ?_
  refine x_icmp_ge (pc := 5) (t := 43) dX8_leastStop_5 (by decide) (fun e => ?_) (fun e => ?_)
  · have h := h.1 e
    refine x_iload_n (pc := 43) dX8_leastStop_43 rfl rfl ?_
    exact y_iret (pc := 44) dX8_leastStop_44 rfl ⟨Nat.le_refl _, Nat.le_refl _⟩ h
  · have h := h.2 e
    refine x_iload_n (pc := 8) dX8_leastStop_8 rfl rfl ?_
    refine x_iload_n (pc := 9) dX8_leastStop_9 rfl rfl ?_
    refine y_Si (pc := 10) (As := [vi (v2), vi (v3)]) (rest := []) ok_X8_hasStop ml_X8_53 dX8_leastStop_10 rfl ⟨rfl, rfl⟩ ⟨by decide, by decide⟩ ⟨Nat.le_refl _, Nat.le_refl _⟩ (Nat.le_of_ble_eq_true rfl) rfl h (fun r2 I1 h => ?_)
    refine x_if_eq (pc := 13) (t := 37) dX8_leastStop_13 (by decide) (fun e => ?_) (fun e => ?_)
    · have h := h.1 e
      refine x_iinc (pc := 37) (L' := [some (vr G c_walks), some (vi (v1)), some (vi (v2)), some (vi (v3 + 1))]) dX8_leastStop_37 rfl (by decide) (xst1 rfl rfl rfl) ?_
      refine x_goto (pc := 40) (t := 2) dX8_leastStop_40 (by decide) ?_
      exact h
    · have h := h.2 e
      refine x_aload_n (pc := 16) dX8_leastStop_16 rfl rfl ?_
      refine x_iload_n (pc := 17) dX8_leastStop_17 rfl rfl ?_
      refine x_iload_n (pc := 18) dX8_leastStop_18 rfl rfl ?_
      refine x_iload_n (pc := 19) dX8_leastStop_19 rfl rfl ?_
      refine y_Vi (pc := 20) (i := c_walks) (As := [vi (v1), vi (v3), vi (v2)]) (rest := []) ok_X8_lengthBy ml_X8_57 dX8_leastStop_20 (sN_c_walks hS) (sT_c_walks hS) (by decide) rfl rfl rfl ⟨rfl, rfl⟩ ⟨by decide, by decide⟩ ⟨Nat.le_refl _, Nat.le_refl _⟩ (Nat.le_of_ble_eq_true rfl) rfl h (fun r4 I3 h => ?_)
      refine x_aload_n (pc := 23) dX8_leastStop_23 rfl rfl ?_
      refine x_getR (pc := 24) (i := c_walks) (a := c_walks_home) fl_X8_25 dX8_leastStop_24 (sN_c_walks hS) (sT_c_walks hS) rfl (sR_c_walks_4 hS) ?_
      refine x_iload_n (pc := 27) dX8_leastStop_27 rfl rfl ?_
      refine x_bipush (pc := 28) dX8_leastStop_28 (by decide) ?_
      refine x_imul (pc := 30) dX8_leastStop_30 ?_
      refine x_iload_n (pc := 31) dX8_leastStop_31 rfl rfl ?_
      refine x_iadd (pc := 32) dX8_leastStop_32 ?_
      refine y_iald (pc := 33) (i := c_walks_home) (n := 5120) dX8_leastStop_33 (sN_c_walks_home hS) (sT_c_walks_home hS) (sL_c_walks_home hS) h.1 ?_
      have h := h.2
      refine x_icmp_eq (pc := 34) (t := 43) dX8_leastStop_34 (by decide) (fun e => ?_) (fun e => ?_)
      · have h := h.1 e
        refine x_iload_n (pc := 43) dX8_leastStop_43 rfl rfl ?_
        exact y_iret (pc := 44) dX8_leastStop_44 rfl ⟨Nat.le_refl _, Nat.le_refl _⟩ h
      · have h := h.2 e
        refine x_iinc (pc := 37) (L' := [some (vr G c_walks), some (vi (v1)), some (vi (v2)), some (vi (v3 + 1))]) dX8_leastStop_37 rfl (by decide) (xst1 rfl rfl rfl) ?_
        refine x_goto (pc := 40) (t := 2) dX8_leastStop_40 (by decide) ?_
        exact h
set_option maxHeartbeats 4000000 in
set_option maxRecDepth 100000 in
theorem b_Wa_without {G : XG} {S : XS} {I : XI} {v0 : Int} {v1 : Int} {R : Int → XI → Prop} (hS : xSh S)  (h : R (iand (v0) (ixor (ishl (1) ((v1) - (1))) ((-1)))) I) : Wa_without G S I v0 v1 R := by
  refine x_start [some (vi (v0)), some (vi (v1))] (by decide) (Nat.le_of_ble_eq_true rfl) rfl ?_
  refine x_iload_n (pc := 0) dX8_without_0 rfl rfl ?_
  refine x_iconst (pc := 1) dX8_without_1 ?_
  refine x_iload_n (pc := 2) dX8_without_2 rfl rfl ?_
  refine x_iconst (pc := 3) dX8_without_3 ?_
  refine x_isub (pc := 4) dX8_without_4 ?_
  refine x_ishl (pc := 5) dX8_without_5 ?_
  refine x_iconst (pc := 6) dX8_without_6 ?_
  refine x_ixor (pc := 7) dX8_without_7 ?_
  refine x_iand (pc := 8) dX8_without_8 ?_
  exact y_iret (pc := 9) dX8_without_9 rfl ⟨Nat.le_refl _, Nat.le_refl _⟩ h
set_option maxHeartbeats 4000000 in
set_option maxRecDepth 100000 in
theorem b_Wa_findDays {G : XG} {S : XS} {I : XI}  {R : XI → Prop} (hS : xSh S)  (h : Wa_findDays_k2 G S I (0) R) : Wa_findDays G S I  R := by
  refine x_start [some (vr G c_walks), some (vr G c_land), none, none, none, none] (by decide) (Nat.le_of_ble_eq_true rfl) rfl ?_
  refine x_iconst (pc := 0) dX8_findDays_0 ?_
  refine x_istore_n (pc := 1) (L' := [some (vr G c_walks), some (vr G c_land), some (vi (0)), none, none, none]) dX8_findDays_1 rfl (by decide) (xst1 rfl rfl rfl) ?_
  exact h
set_option maxHeartbeats 4000000 in
set_option maxRecDepth 100000 in
theorem b_Wa_findDays_k2 {G : XG} {S : XS}  {I : XI} {v2 : Int} {R : XI → Prop} (hS : xSh S)  (h : ((w32 (100) ≤ w32 (v2) → Wa_findDays_k45 G S I (0) R) ∧ (¬ (w32 (100) ≤ w32 (v2)) → (inb (v2) 100 ∧ ((w32 (I c_land_ways (ix (v2))) ≤ 0 → (inb (v2) 100 ∧ (∀ I1 : XI, I1 = up I c_walks_days (ix (v2)) (100000) → Wa_findDays_k2 G S I1 (v2 + 1) R))) ∧ (¬ (w32 (I c_land_ways (ix (v2))) ≤ 0) → (inb (v2) 100 ∧ (inb (v2) 100 ∧ (∀ I2 : XI, I2 = up I c_walks_days (ix (v2)) (I c_land_ways (ix (v2))) → Wa_findDays_k2 G S I2 (v2 + 1) R))))))))) : Wa_findDays_k2 G S  I v2 R := by
  unfold Wa_findDays_k2
  refine x_iload_n (pc := 2) dX8_findDays_2 rfl rfl ?_
  refine x_aload_n (pc := 3) dX8_findDays_3 rfl rfl ?_
  refine x_getR (pc := 4) (i := c_walks) (a := c_walks_days) fl_X8_21 dX8_findDays_4 (sN_c_walks hS) (sT_c_walks hS) rfl (sR_c_walks_3 hS) ?_
  refine y_alen (pc := 7) (i := c_walks_days) (n := 100) dX8_findDays_7 (sN_c_walks_days hS) (sT_c_walks_days hS) (sL_c_walks_days hS) ?_
  refine x_icmp_ge (pc := 8) (t := 43) dX8_findDays_8 (by decide) (fun e => ?_) (fun e => ?_)
  · have h := h.1 e
    refine x_iconst (pc := 43) dX8_findDays_43 ?_
    refine x_istore_n (pc := 44) (L' := [some (vr G c_walks), some (vr G c_land), some (vi (0)), none, none, none]) dX8_findDays_44 rfl (by decide) (xst1 rfl rfl rfl) ?_
    refine x_less (L' := [some (vr G c_walks), none, some (vi (0)), none, none, none]) (And.intro rfl (And.intro rfl trivial)) ?_
    exact h
  · have h := h.2 e
    refine x_aload_n (pc := 11) dX8_findDays_11 rfl rfl ?_
    refine x_getR (pc := 12) (i := c_walks) (a := c_walks_days) fl_X8_21 dX8_findDays_12 (sN_c_walks hS) (sT_c_walks hS) rfl (sR_c_walks_3 hS) ?_
    refine x_iload_n (pc := 15) dX8_findDays_15 rfl rfl ?_
    refine x_aload_n (pc := 16) dX8_findDays_16 rfl rfl ?_
    refine x_getR (pc := 17) (i := c_land) (a := c_land_ways) fl_X8_61 dX8_findDays_17 (sN_c_land hS) (sT_c_land hS) rfl (sR_c_land_2 hS) ?_
    refine x_iload_n (pc := 20) dX8_findDays_20 rfl rfl ?_
    refine y_iald (pc := 21) (i := c_land_ways) (n := 100) dX8_findDays_21 (sN_c_land_ways hS) (sT_c_land_ways hS) (sL_c_land_ways hS) h.1 ?_
    have h := h.2
    refine x_if_le (pc := 22) (t := 34) dX8_findDays_22 (by decide) (fun e => ?_) (fun e => ?_)
    · have h := h.1 e
      refine x_ldc (pc := 34) (z := 100000) dX8_findDays_34 ko_X8_66 rfl ?_
      refine y_iast (pc := 36) (i := c_walks_days) (n := 100) dX8_findDays_36 (sN_c_walks_days hS) (sT_c_walks_days hS) (sL_c_walks_days hS) h.1 ?_
      have h := h.2
      have h := h _ rfl
      generalize up I c_walks_days (ix (v2)) (100000) = I1 at h ⊢
      refine x_iinc (pc := 37) (L' := [some (vr G c_walks), some (vr G c_land), some (vi (v2 + 1)), none, none, none]) dX8_findDays_37 rfl (by decide) (xst1 rfl rfl rfl) ?_
      refine x_goto (pc := 40) (t := 2) dX8_findDays_40 (by decide) ?_
      exact h
    · have h := h.2 e
      refine x_aload_n (pc := 25) dX8_findDays_25 rfl rfl ?_
      refine x_getR (pc := 26) (i := c_land) (a := c_land_ways) fl_X8_61 dX8_findDays_26 (sN_c_land hS) (sT_c_land hS) rfl (sR_c_land_2 hS) ?_
      refine x_iload_n (pc := 29) dX8_findDays_29 rfl rfl ?_
      refine y_iald (pc := 30) (i := c_land_ways) (n := 100) dX8_findDays_30 (sN_c_land_ways hS) (sT_c_land_ways hS) (sL_c_land_ways hS) h.1 ?_
      have h := h.2
      refine x_goto (pc := 31) (t := 36) dX8_findDays_31 (by decide) ?_
      refine y_iast (pc := 36) (i := c_walks_days) (n := 100) dX8_findDays_36 (sN_c_walks_days hS) (sT_c_walks_days hS) (sL_c_walks_days hS) h.1 ?_
      have h := h.2
      have h := h _ rfl
      generalize up I c_walks_days (ix (v2)) (I c_land_ways (ix (v2))) = I2 at h ⊢
      refine x_iinc (pc := 37) (L' := [some (vr G c_walks), some (vr G c_land), some (vi (v2 + 1)), none, none, none]) dX8_findDays_37 rfl (by decide) (xst1 rfl rfl rfl) ?_
      refine x_goto (pc := 40) (t := 2) dX8_findDays_40 (by decide) ?_
      exact h
set_option maxHeartbeats 4000000 in
set_option maxRecDepth 100000 in
theorem b_Wa_findDays_k45 {G : XG} {S : XS}  {I : XI} {v2 : Int} {R : XI → Prop} (hS : xSh S)  (h : ((w32 (10) ≤ w32 (v2) → Wa_findDays_k71 G S I (0) R) ∧ (¬ (w32 (10) ≤ w32 (v2)) → (inb (((v2) * (10)) + (v2)) 100 ∧ (∀ I3 : XI, I3 = up I c_walks_days (ix (((v2) * (10)) + (v2))) (0) → Wa_findDays_k45 G S I3 (v2 + 1) R))))) : Wa_findDays_k45 G S  I v2 R := by
  unfold Wa_findDays_k45
  refine x_iload_n (pc := 45) dX8_findDays_45 rfl rfl ?_
  refine x_bipush (pc := 46) dX8_findDays_46 (by decide) ?_
  refine x_icmp_ge (pc := 48) (t := 69) dX8_findDays_48 (by decide) (fun e => ?_) (fun e => ?_)
  · have h := h.1 e
    refine x_iconst (pc := 69) dX8_findDays_69 ?_
    refine x_istore_n (pc := 70) (L' := [some (vr G c_walks), none, some (vi (0)), none, none, none]) dX8_findDays_70 rfl (by decide) (xst1 rfl rfl trivial) ?_
    exact h
  · have h := h.2 e
    refine x_aload_n (pc := 51) dX8_findDays_51 rfl rfl ?_
    refine x_getR (pc := 52) (i := c_walks) (a := c_walks_days) fl_X8_21 dX8_findDays_52 (sN_c_walks hS) (sT_c_walks hS) rfl (sR_c_walks_3 hS) ?_
    refine x_iload_n (pc := 55) dX8_findDays_55 rfl rfl ?_
    refine x_bipush (pc := 56) dX8_findDays_56 (by decide) ?_
    refine x_imul (pc := 58) dX8_findDays_58 ?_
    refine x_iload_n (pc := 59) dX8_findDays_59 rfl rfl ?_
    refine x_iadd (pc := 60) dX8_findDays_60 ?_
    refine x_iconst (pc := 61) dX8_findDays_61 ?_
    refine y_iast (pc := 62) (i := c_walks_days) (n := 100) dX8_findDays_62 (sN_c_walks_days hS) (sT_c_walks_days hS) (sL_c_walks_days hS) h.1 ?_
    have h := h.2
    have h := h _ rfl
    generalize up I c_walks_days (ix (((v2) * (10)) + (v2))) (0) = I3 at h ⊢
    refine x_iinc (pc := 63) (L' := [some (vr G c_walks), none, some (vi (v2 + 1)), none, none, none]) dX8_findDays_63 rfl (by decide) (xst1 rfl rfl trivial) ?_
    refine x_goto (pc := 66) (t := 45) dX8_findDays_66 (by decide) ?_
    exact h
set_option maxHeartbeats 4000000 in
set_option maxRecDepth 100000 in
theorem b_Wa_findDays_k71 {G : XG} {S : XS}  {I : XI} {v2 : Int} {R : XI → Prop} (hS : xSh S)  (h : ((w32 (10) ≤ w32 (v2) → R I) ∧ (¬ (w32 (10) ≤ w32 (v2)) → Wa_findDays_k79 G S I (v2) (0) R))) : Wa_findDays_k71 G S  I v2 R := by
  unfold Wa_findDays_k71
  refine x_iload_n (pc := 71) dX8_findDays_71 rfl rfl ?_
  refine x_bipush (pc := 72) dX8_findDays_72 (by decide) ?_
  refine x_icmp_ge (pc := 74) (t := 168) dX8_findDays_74 (by decide) (fun e => ?_) (fun e => ?_)
  · have h := h.1 e
    exact y_vret (pc := 168) dX8_findDays_168 rfl ⟨Nat.le_refl _, Nat.le_refl _⟩ h
  · have h := h.2 e
    refine x_iconst (pc := 77) dX8_findDays_77 ?_
    refine x_istore_n (pc := 78) (L' := [some (vr G c_walks), none, some (vi (v2)), some (vi (0)), none, none]) dX8_findDays_78 rfl (by decide) (xst1 rfl rfl rfl) ?_
    exact h
set_option maxHeartbeats 4000000 in
set_option maxRecDepth 100000 in
theorem b_Wa_findDays_k79 {G : XG} {S : XS}  {I : XI} {v2 : Int} {v3 : Int} {R : XI → Prop} (hS : xSh S)  (h : ((w32 (10) ≤ w32 (v3) → Wa_findDays_k71 G S I (v2 + 1) R) ∧ (¬ (w32 (10) ≤ w32 (v3)) → Wa_findDays_k88 G S I (v2) (v3) (0) R))) : Wa_findDays_k79 G S  I v2 v3 R := by
  unfold Wa_findDays_k79
  refine x_iload_n (pc := 79) dX8_findDays_79 rfl rfl ?_
  refine x_bipush (pc := 80) dX8_findDays_80 (by decide) ?_
  refine x_icmp_ge (pc := 82) (t := 162) dX8_findDays_82 (by decide) (fun e => ?_) (fun e => ?_)
  · have h := h.1 e
    refine x_iinc (pc := 162) (L' := [some (vr G c_walks), none, some (vi (v2 + 1)), some (vi (v3)), none, none]) dX8_findDays_162 rfl (by decide) (xst1 rfl rfl trivial) ?_
    refine x_goto (pc := 165) (t := 71) dX8_findDays_165 (by decide) ?_
    refine x_less (L' := [some (vr G c_walks), none, some (vi (v2 + 1)), none, none, none]) (And.intro rfl (And.intro rfl trivial)) ?_
    exact h
  · have h := h.2 e
    refine x_iconst (pc := 85) dX8_findDays_85 ?_
    refine x_istore (pc := 86) (L' := [some (vr G c_walks), none, some (vi (v2)), some (vi (v3)), some (vi (0)), none]) dX8_findDays_86 (by decide) (xst1 rfl rfl rfl) ?_
    exact h
set_option maxHeartbeats 4000000 in
set_option maxRecDepth 100000 in
theorem b_Wa_findDays_k88 {G : XG} {S : XS}  {I : XI} {v2 : Int} {v3 : Int} {v4 : Int} {R : XI → Prop} (hS : xSh S)  (h : ((w32 (10) ≤ w32 (v4) → Wa_findDays_k79 G S I (v2) (v3 + 1) R) ∧ (¬ (w32 (10) ≤ w32 (v4)) → (inb (((v3) * (10)) + (v2)) 100 ∧ (inb (((v2) * (10)) + (v4)) 100 ∧ (inb (((v3) * (10)) + (v4)) 100 ∧ (inb (((v3) * (10)) + (v4)) 100 ∧ (∀ I4 : XI, I4 = up I c_walks_days (ix (((v3) * (10)) + (v4))) (if w32 ((I c_walks_days (ix (((v3) * (10)) + (v2)))) + (I c_walks_days (ix (((v2) * (10)) + (v4))))) < w32 (I c_walks_days (ix (((v3) * (10)) + (v4)))) then (I c_walks_days (ix (((v3) * (10)) + (v2)))) + (I c_walks_days (ix (((v2) * (10)) + (v4)))) else I c_walks_days (ix (((v3) * (10)) + (v4)))) → Wa_findDays_k88 G S I4 (v2) (v3) (v4 + 1) R)))))))) : Wa_findDays_k88 G S  I v2 v3 v4 R := by
  unfold Wa_findDays_k88
  refine x_iload (pc := 88) dX8_findDays_88 rfl ?_
  refine x_bipush (pc := 90) dX8_findDays_90 (by decide) ?_
  refine x_icmp_ge (pc := 92) (t := 156) dX8_findDays_92 (by decide) (fun e => ?_) (fun e => ?_)
  · have h := h.1 e
    refine x_iinc (pc := 156) (L' := [some (vr G c_walks), none, some (vi (v2)), some (vi (v3 + 1)), some (vi (v4)), none]) dX8_findDays_156 rfl (by decide) (xst1 rfl rfl rfl) ?_
    refine x_goto (pc := 159) (t := 79) dX8_findDays_159 (by decide) ?_
    refine x_less (L' := [some (vr G c_walks), none, some (vi (v2)), some (vi (v3 + 1)), none, none]) (And.intro rfl (And.intro rfl (And.intro rfl trivial))) ?_
    exact h
  · have h := h.2 e
    refine x_aload_n (pc := 95) dX8_findDays_95 rfl rfl ?_
    refine x_getR (pc := 96) (i := c_walks) (a := c_walks_days) fl_X8_21 dX8_findDays_96 (sN_c_walks hS) (sT_c_walks hS) rfl (sR_c_walks_3 hS) ?_
    refine x_iload_n (pc := 99) dX8_findDays_99 rfl rfl ?_
    refine x_bipush (pc := 100) dX8_findDays_100 (by decide) ?_
    refine x_imul (pc := 102) dX8_findDays_102 ?_
    refine x_iload_n (pc := 103) dX8_findDays_103 rfl rfl ?_
    refine x_iadd (pc := 104) dX8_findDays_104 ?_
    refine y_iald (pc := 105) (i := c_walks_days) (n := 100) dX8_findDays_105 (sN_c_walks_days hS) (sT_c_walks_days hS) (sL_c_walks_days hS) h.1 ?_
    have h := h.2
    refine x_aload_n (pc := 106) dX8_findDays_106 rfl rfl ?_
    refine x_getR (pc := 107) (i := c_walks) (a := c_walks_days) fl_X8_21 dX8_findDays_107 (sN_c_walks hS) (sT_c_walks hS) rfl (sR_c_walks_3 hS) ?_
    refine x_iload_n (pc := 110) dX8_findDays_110 rfl rfl ?_
    refine x_bipush (pc := 111) dX8_findDays_111 (by decide) ?_
    refine x_imul (pc := 113) dX8_findDays_113 ?_
    refine x_iload (pc := 114) dX8_findDays_114 rfl ?_
    refine x_iadd (pc := 116) dX8_findDays_116 ?_
    refine y_iald (pc := 117) (i := c_walks_days) (n := 100) dX8_findDays_117 (sN_c_walks_days hS) (sT_c_walks_days hS) (sL_c_walks_days hS) h.1 ?_
    have h := h.2
    refine x_iadd (pc := 118) dX8_findDays_118 ?_
    refine x_istore (pc := 119) (L' := [some (vr G c_walks), none, some (vi (v2)), some (vi (v3)), some (vi (v4)), some (vi ((I c_walks_days (ix (((v3) * (10)) + (v2)))) + (I c_walks_days (ix (((v2) * (10)) + (v4))))))]) dX8_findDays_119 (by decide) (xst1 rfl rfl rfl) ?_
    refine x_aload_n (pc := 121) dX8_findDays_121 rfl rfl ?_
    refine x_getR (pc := 122) (i := c_walks) (a := c_walks_days) fl_X8_21 dX8_findDays_122 (sN_c_walks hS) (sT_c_walks hS) rfl (sR_c_walks_3 hS) ?_
    refine x_iload_n (pc := 125) dX8_findDays_125 rfl rfl ?_
    refine x_bipush (pc := 126) dX8_findDays_126 (by decide) ?_
    refine x_imul (pc := 128) dX8_findDays_128 ?_
    refine x_iload (pc := 129) dX8_findDays_129 rfl ?_
    refine x_iadd (pc := 131) dX8_findDays_131 ?_
    refine x_aload_n (pc := 132) dX8_findDays_132 rfl rfl ?_
    refine x_getR (pc := 133) (i := c_walks) (a := c_walks_days) fl_X8_21 dX8_findDays_133 (sN_c_walks hS) (sT_c_walks hS) rfl (sR_c_walks_3 hS) ?_
    refine x_iload_n (pc := 136) dX8_findDays_136 rfl rfl ?_
    refine x_bipush (pc := 137) dX8_findDays_137 (by decide) ?_
    refine x_imul (pc := 139) dX8_findDays_139 ?_
    refine x_iload (pc := 140) dX8_findDays_140 rfl ?_
    refine x_iadd (pc := 142) dX8_findDays_142 ?_
    refine y_iald (pc := 143) (i := c_walks_days) (n := 100) dX8_findDays_143 (sN_c_walks_days hS) (sT_c_walks_days hS) (sL_c_walks_days hS) h.1 ?_
    have h := h.2
    refine x_iload (pc := 144) dX8_findDays_144 rfl ?_
    refine x_min (pc := 146) ⟨ml_X8_67, w_mins, w_mi, w_minc⟩ dX8_findDays_146 ⟨by decide, Nat.le_of_ble_eq_true rfl, Nat.le_refl _, Nat.le_refl _⟩ ?_
    refine y_iast (pc := 149) (i := c_walks_days) (n := 100) dX8_findDays_149 (sN_c_walks_days hS) (sT_c_walks_days hS) (sL_c_walks_days hS) h.1 ?_
    have h := h.2
    have h := h _ rfl
    generalize up I c_walks_days (ix (((v3) * (10)) + (v4))) (if w32 ((I c_walks_days (ix (((v3) * (10)) + (v2)))) + (I c_walks_days (ix (((v2) * (10)) + (v4))))) < w32 (I c_walks_days (ix (((v3) * (10)) + (v4)))) then (I c_walks_days (ix (((v3) * (10)) + (v2)))) + (I c_walks_days (ix (((v2) * (10)) + (v4)))) else I c_walks_days (ix (((v3) * (10)) + (v4)))) = I4 at h ⊢
    refine x_iinc (pc := 150) (L' := [some (vr G c_walks), none, some (vi (v2)), some (vi (v3)), some (vi (v4 + 1)), some (vi ((I c_walks_days (ix (((v3) * (10)) + (v2)))) + (I c_walks_days (ix (((v2) * (10)) + (v4))))))]) dX8_findDays_150 rfl (by decide) (xst1 rfl rfl rfl) ?_
    refine x_goto (pc := 153) (t := 88) dX8_findDays_153 (by decide) ?_
    refine x_less (L' := [some (vr G c_walks), none, some (vi (v2)), some (vi (v3)), some (vi (v4 + 1)), none]) (And.intro rfl (And.intro rfl (And.intro rfl (And.intro rfl trivial)))) ?_
    exact h
set_option maxHeartbeats 4000000 in
set_option maxRecDepth 100000 in
theorem b_Wa_findHome {G : XG} {S : XS} {I : XI}  {R : XI → Prop} (hS : xSh S)  (h : Wa_findHome_k2 G S I (0) R) : Wa_findHome G S I  R := by
  refine x_start [some (vr G c_walks), some (vr G c_land), none, none, none] (by decide) (Nat.le_of_ble_eq_true rfl) rfl ?_
  refine x_iconst (pc := 0) dX8_findHome_0 ?_
  refine x_istore_n (pc := 1) (L' := [some (vr G c_walks), some (vr G c_land), some (vi (0)), none, none]) dX8_findHome_1 rfl (by decide) (xst1 rfl rfl rfl) ?_
  exact h
set_option maxHeartbeats 4000000 in
set_option maxRecDepth 100000 in
theorem b_Wa_findHome_k2 {G : XG} {S : XS}  {I : XI} {v2 : Int} {R : XI → Prop} (hS : xSh S)  (h : ((w32 (512) ≤ w32 (v2) → R I) ∧ (¬ (w32 (512) ≤ w32 (v2)) → ((w32 (iand (ishl (v2) (1)) (ixor (I c_land 1) ((-1)))) = 0 → Wa_findHome_k31 G S I (v2) (1) (0) R) ∧ (¬ (w32 (iand (ishl (v2) (1)) (ixor (I c_land 1) ((-1)))) = 0) → Wa_findHome_k31 G S I (v2) (0) (0) R))))) : Wa_findHome_k2 G S  I v2 R := by
  unfold Wa_findHome_k2
  refine x_iload_n (pc := 2) dX8_findHome_2 rfl rfl ?_
  refine x_sipush (pc := 3) dX8_findHome_3 (by decide) ?_
  refine x_icmp_ge (pc := 6) (t := 78) dX8_findHome_6 (by decide) (fun e => ?_) (fun e => ?_)
  · have h := h.1 e
    exact y_vret (pc := 78) dX8_findHome_78 rfl ⟨Nat.le_refl _, Nat.le_refl _⟩ h
  · have h := h.2 e
    refine x_iload_n (pc := 9) dX8_findHome_9 rfl rfl ?_
    refine x_iconst (pc := 10) dX8_findHome_10 ?_
    refine x_ishl (pc := 11) dX8_findHome_11 ?_
    refine x_aload_n (pc := 12) dX8_findHome_12 rfl rfl ?_
    refine x_getI (pc := 13) (i := c_land) fl_X8_72 dX8_findHome_13 (sN_c_land hS) (sT_c_land hS) rfl ?_
    refine x_iconst (pc := 16) dX8_findHome_16 ?_
    refine x_ixor (pc := 17) dX8_findHome_17 ?_
    refine x_iand (pc := 18) dX8_findHome_18 ?_
    refine x_if_ne (pc := 19) (t := 26) dX8_findHome_19 (by decide) (fun e => ?_) (fun e => ?_)
    · have h := h.1 e
      refine x_iconst (pc := 22) dX8_findHome_22 ?_
      refine x_goto (pc := 23) (t := 27) dX8_findHome_23 (by decide) ?_
      refine x_istore_n (pc := 27) (L' := [some (vr G c_walks), some (vr G c_land), some (vi (v2)), some (vi (1)), none]) dX8_findHome_27 rfl (by decide) (xst1 rfl rfl rfl) ?_
      refine x_iconst (pc := 28) dX8_findHome_28 ?_
      refine x_istore (pc := 29) (L' := [some (vr G c_walks), some (vr G c_land), some (vi (v2)), some (vi (1)), some (vi (0))]) dX8_findHome_29 (by decide) (xst1 rfl rfl rfl) ?_
      exact h
    · have h := h.2 e
      refine x_iconst (pc := 26) dX8_findHome_26 ?_
      refine x_istore_n (pc := 27) (L' := [some (vr G c_walks), some (vr G c_land), some (vi (v2)), some (vi (0)), none]) dX8_findHome_27 rfl (by decide) (xst1 rfl rfl rfl) ?_
      refine x_iconst (pc := 28) dX8_findHome_28 ?_
      refine x_istore (pc := 29) (L' := [some (vr G c_walks), some (vr G c_land), some (vi (v2)), some (vi (0)), some (vi (0))]) dX8_findHome_29 (by decide) (xst1 rfl rfl rfl) ?_
      exact h
set_option maxHeartbeats 4000000 in
set_option maxRecDepth 100000 in
theorem b_Wa_findHome_k31 {G : XG} {S : XS}  {I : XI} {v2 : Int} {v3 : Int} {v4 : Int} {R : XI → Prop} (hS : xSh S)  (h : ((w32 (10) ≤ w32 (v4) → Wa_findHome_k2 G S I (v2 + 1) R) ∧ (¬ (w32 (10) ≤ w32 (v4)) → ((w32 (v3) = 0 → (inb (((v2) * (10)) + (v4)) 5120 ∧ (∀ I1 : XI, I1 = up I c_walks_home (ix (((v2) * (10)) + (v4))) (100000) → Wa_findHome_k31 G S I1 (v2) (v3) (v4 + 1) R))) ∧ (¬ (w32 (v3) = 0) → Wa_fewestHome G S I (v4) (v2) (fun r3 I2 => (inb (((v2) * (10)) + (v4)) 5120 ∧ (∀ I4 : XI, I4 = up I2 c_walks_home (ix (((v2) * (10)) + (v4))) (r3) → Wa_findHome_k31 G S I4 (v2) (v3) (v4 + 1) R)))))))) : Wa_findHome_k31 G S  I v2 v3 v4 R := by
  unfold Wa_findHome_k31
  refine x_iload (pc := 31) dX8_findHome_31 rfl ?_
  refine x_bipush (pc := 33) dX8_findHome_33 (by decide) ?_
  refine x_icmp_ge (pc := 35) (t := 72) dX8_findHome_35 (by decide) (fun e => ?_) (fun e => ?_)
  · have h := h.1 e
    refine x_iinc (pc := 72) (L' := [some (vr G c_walks), some (vr G c_land), some (vi (v2 + 1)), some (vi (v3)), some (vi (v4))]) dX8_findHome_72 rfl (by decide) (xst1 rfl rfl rfl) ?_
    refine x_goto (pc := 75) (t := 2) dX8_findHome_75 (by decide) ?_
    refine x_less (L' := [some (vr G c_walks), some (vr G c_land), some (vi (v2 + 1)), none, none]) (And.intro rfl (And.intro rfl (And.intro rfl trivial))) ?_
    exact h
  · have h := h.2 e
    refine x_aload_n (pc := 38) dX8_findHome_38 rfl rfl ?_
    refine x_getR (pc := 39) (i := c_walks) (a := c_walks_home) fl_X8_25 dX8_findHome_39 (sN_c_walks hS) (sT_c_walks hS) rfl (sR_c_walks_4 hS) ?_
    refine x_iload_n (pc := 42) dX8_findHome_42 rfl rfl ?_
    refine x_bipush (pc := 43) dX8_findHome_43 (by decide) ?_
    refine x_imul (pc := 45) dX8_findHome_45 ?_
    refine x_iload (pc := 46) dX8_findHome_46 rfl ?_
    refine x_iadd (pc := 48) dX8_findHome_48 ?_
    refine x_iload_n (pc := 49) dX8_findHome_49 rfl rfl ?_
    refine x_if_eq (pc := 50) (t := 63) dX8_findHome_50 (by decide) (fun e => ?_) (fun e => ?_)
    · have h := h.1 e
      refine x_ldc (pc := 63) (z := 100000) dX8_findHome_63 ko_X8_66 rfl ?_
      refine y_iast (pc := 65) (i := c_walks_home) (n := 5120) dX8_findHome_65 (sN_c_walks_home hS) (sT_c_walks_home hS) (sL_c_walks_home hS) h.1 ?_
      have h := h.2
      have h := h _ rfl
      generalize up I c_walks_home (ix (((v2) * (10)) + (v4))) (100000) = I1 at h ⊢
      refine x_iinc (pc := 66) (L' := [some (vr G c_walks), some (vr G c_land), some (vi (v2)), some (vi (v3)), some (vi (v4 + 1))]) dX8_findHome_66 rfl (by decide) (xst1 rfl rfl rfl) ?_
      refine x_goto (pc := 69) (t := 31) dX8_findHome_69 (by decide) ?_
      exact h
    · have h := h.2 e
      refine x_aload_n (pc := 53) dX8_findHome_53 rfl rfl ?_
      refine x_iload (pc := 54) dX8_findHome_54 rfl ?_
      refine x_iload_n (pc := 56) dX8_findHome_56 rfl rfl ?_
      refine y_Vi (pc := 57) (i := c_walks) (As := [vi (v4), vi (v2)]) (rest := [vi (((v2) * (10)) + (v4)), vr G c_walks_home]) ok_X8_fewestHome ml_X8_75 dX8_findHome_57 (sN_c_walks hS) (sT_c_walks hS) (by decide) rfl rfl rfl ⟨rfl, rfl⟩ ⟨by decide, by decide⟩ ⟨Nat.le_refl _, Nat.le_refl _⟩ (Nat.le_of_ble_eq_true rfl) rfl h (fun r3 I2 h => ?_)
      refine x_goto (pc := 60) (t := 65) dX8_findHome_60 (by decide) ?_
      refine y_iast (pc := 65) (i := c_walks_home) (n := 5120) dX8_findHome_65 (sN_c_walks_home hS) (sT_c_walks_home hS) (sL_c_walks_home hS) h.1 ?_
      have h := h.2
      have h := h _ rfl
      generalize up I2 c_walks_home (ix (((v2) * (10)) + (v4))) (r3) = I4 at h ⊢
      refine x_iinc (pc := 66) (L' := [some (vr G c_walks), some (vr G c_land), some (vi (v2)), some (vi (v3)), some (vi (v4 + 1))]) dX8_findHome_66 rfl (by decide) (xst1 rfl rfl rfl) ?_
      refine x_goto (pc := 69) (t := 31) dX8_findHome_69 (by decide) ?_
      exact h
set_option maxHeartbeats 4000000 in
set_option maxRecDepth 100000 in
theorem b_Wa_addUp {G : XG} {S : XS} {I : XI}  {R : XI → Prop} (hS : xSh S)  (h : La_hasWell G S I (0) (fun r2 I1 => ((w32 (r2) = 0 → (∀ I3 : XI, I3 = up I1 c_walks_meets 0 (0) → Wa_addUp_k23 G S I3 (1) R)) ∧ (¬ (w32 (r2) = 0) → (∀ I4 : XI, I4 = up I1 c_walks_meets 0 (I1 c_sums 0) → Wa_addUp_k23 G S I4 (1) R))))) : Wa_addUp G S I  R := by
  refine x_start [some (vr G c_walks), some (vr G c_land), some (vr G c_sums), none, none] (by decide) (Nat.le_of_ble_eq_true rfl) rfl ?_
  refine x_aload_n (pc := 0) dX8_addUp_0 rfl rfl ?_
  refine x_getR (pc := 1) (i := c_walks) (a := c_walks_meets) fl_X8_28 dX8_addUp_1 (sN_c_walks hS) (sT_c_walks hS) rfl (sR_c_walks_5 hS) ?_
  refine x_iconst (pc := 4) dX8_addUp_4 ?_
  refine x_aload_n (pc := 5) dX8_addUp_5 rfl rfl ?_
  refine x_iconst (pc := 6) dX8_addUp_6 ?_
  refine y_Vi (pc := 7) (i := c_land) (As := [vi (0)]) (rest := [vi (0), vr G c_walks_meets]) ok_X2_hasWell ml_X8_78 dX8_addUp_7 (sN_c_land hS) (sT_c_land hS) (by decide) rfl rfl rfl ⟨rfl, rfl⟩ ⟨by decide, by decide⟩ ⟨Nat.le_refl _, Nat.le_refl _⟩ (Nat.le_of_ble_eq_true rfl) rfl h (fun r2 I1 h => ?_)
  refine x_if_eq (pc := 10) (t := 19) dX8_addUp_10 (by decide) (fun e => ?_) (fun e => ?_)
  · have h := h.1 e
    refine x_iconst (pc := 19) dX8_addUp_19 ?_
    refine y_iast (pc := 20) (i := c_walks_meets) (n := 512) dX8_addUp_20 (sN_c_walks_meets hS) (sT_c_walks_meets hS) (sL_c_walks_meets hS) (inb_nat (k := 0) (by decide) (by decide)) ?_
    rw [show ix 0 = 0 from rfl]
    have h := h _ rfl
    generalize up I1 c_walks_meets 0 (0) = I3 at h ⊢
    refine x_iconst (pc := 21) dX8_addUp_21 ?_
    refine x_istore_n (pc := 22) (L' := [some (vr G c_walks), some (vr G c_land), some (vr G c_sums), some (vi (1)), none]) dX8_addUp_22 rfl (by decide) (xst1 rfl rfl rfl) ?_
    refine x_less (L' := [some (vr G c_walks), none, some (vr G c_sums), some (vi (1)), none]) (And.intro rfl (And.intro rfl (And.intro rfl trivial))) ?_
    exact h
  · have h := h.2 e
    refine x_aload_n (pc := 13) dX8_addUp_13 rfl rfl ?_
    refine x_iconst (pc := 14) dX8_addUp_14 ?_
    refine y_iald (pc := 15) (i := c_sums) (n := 10) dX8_addUp_15 (sN_c_sums hS) (sT_c_sums hS) (sL_c_sums hS) (inb_nat (k := 0) (by decide) (by decide)) ?_
    rw [show ix 0 = 0 from rfl]
    refine x_goto (pc := 16) (t := 20) dX8_addUp_16 (by decide) ?_
    refine y_iast (pc := 20) (i := c_walks_meets) (n := 512) dX8_addUp_20 (sN_c_walks_meets hS) (sT_c_walks_meets hS) (sL_c_walks_meets hS) (inb_nat (k := 0) (by decide) (by decide)) ?_
    rw [show ix 0 = 0 from rfl]
    have h := h _ rfl
    generalize up I1 c_walks_meets 0 (I1 c_sums 0) = I4 at h ⊢
    refine x_iconst (pc := 21) dX8_addUp_21 ?_
    refine x_istore_n (pc := 22) (L' := [some (vr G c_walks), some (vr G c_land), some (vr G c_sums), some (vi (1)), none]) dX8_addUp_22 rfl (by decide) (xst1 rfl rfl rfl) ?_
    refine x_less (L' := [some (vr G c_walks), none, some (vr G c_sums), some (vi (1)), none]) (And.intro rfl (And.intro rfl (And.intro rfl trivial))) ?_
    exact h
set_option maxHeartbeats 4000000 in
set_option maxRecDepth 100000 in
theorem b_Wa_addUp_k23 {G : XG} {S : XS}  {I : XI} {v3 : Int} {R : XI → Prop} (hS : xSh S)  (h : ((w32 (512) ≤ w32 (v3) → R I) ∧ (¬ (w32 (512) ≤ w32 (v3)) → Wa_addUp_k33 G S I (v3) (1) R))) : Wa_addUp_k23 G S  I v3 R := by
  unfold Wa_addUp_k23
  refine x_iload_n (pc := 23) dX8_addUp_23 rfl rfl ?_
  refine x_sipush (pc := 24) dX8_addUp_24 (by decide) ?_
  refine x_icmp_ge (pc := 27) (t := 83) dX8_addUp_27 (by decide) (fun e => ?_) (fun e => ?_)
  · have h := h.1 e
    exact y_vret (pc := 83) dX8_addUp_83 rfl ⟨Nat.le_refl _, Nat.le_refl _⟩ h
  · have h := h.2 e
    refine x_iconst (pc := 30) dX8_addUp_30 ?_
    refine x_istore (pc := 31) (L' := [some (vr G c_walks), none, some (vr G c_sums), some (vi (v3)), some (vi (1))]) dX8_addUp_31 (by decide) (xst1 rfl rfl rfl) ?_
    exact h
set_option maxHeartbeats 4000000 in
set_option maxRecDepth 100000 in
theorem b_Wa_addUp_k33 {G : XG} {S : XS}  {I : XI} {v3 : Int} {v4 : Int} {R : XI → Prop} (hS : xSh S)  (h : ((w32 (9) ≤ w32 (v4) → Wa_addUp_k55 G S I (v3) (v4) R) ∧ (¬ (w32 (9) ≤ w32 (v4)) → Wa_hasStop G S I (v3) (v4) (fun r6 I5 => ((w32 (r6) = 0 → Wa_addUp_k33 G S I5 (v3) (v4 + 1) R) ∧ (¬ (w32 (r6) = 0) → Wa_addUp_k55 G S I5 (v3) (v4) R)))))) : Wa_addUp_k33 G S  I v3 v4 R := by
  unfold Wa_addUp_k33
  refine x_iload (pc := 33) dX8_addUp_33 rfl ?_
  refine x_bipush (pc := 35) dX8_addUp_35 (by decide) ?_
  refine x_icmp_ge (pc := 37) (t := 55) dX8_addUp_37 (by decide) (fun e => ?_) (fun e => ?_)
  · have h := h.1 e
    exact h
  · have h := h.2 e
    refine x_iload_n (pc := 40) dX8_addUp_40 rfl rfl ?_
    refine x_iload (pc := 41) dX8_addUp_41 rfl ?_
    refine y_Si (pc := 43) (As := [vi (v3), vi (v4)]) (rest := []) ok_X8_hasStop ml_X8_53 dX8_addUp_43 rfl ⟨rfl, rfl⟩ ⟨by decide, by decide⟩ ⟨Nat.le_refl _, Nat.le_refl _⟩ (Nat.le_of_ble_eq_true rfl) rfl h (fun r6 I5 h => ?_)
    refine x_if_ne (pc := 46) (t := 55) dX8_addUp_46 (by decide) (fun e => ?_) (fun e => ?_)
    · have h := h.1 e
      refine x_iinc (pc := 49) (L' := [some (vr G c_walks), none, some (vr G c_sums), some (vi (v3)), some (vi (v4 + 1))]) dX8_addUp_49 rfl (by decide) (xst1 rfl rfl rfl) ?_
      refine x_goto (pc := 52) (t := 33) dX8_addUp_52 (by decide) ?_
      exact h
    · have h := h.2 e
      exact h
set_option maxHeartbeats 4000000 in
set_option maxRecDepth 100000 in
theorem b_Wa_addUp_k55 {G : XG} {S : XS}  {I : XI} {v3 : Int} {v4 : Int} {R : XI → Prop} (hS : xSh S)  (h : Wa_without G S I (v3) (v4) (fun r8 I7 => (inb (r8) 512 ∧ (inb (v4) 10 ∧ (inb (v3) 512 ∧ (∀ I9 : XI, I9 = up I7 c_walks_meets (ix (v3)) ((I7 c_walks_meets (ix (r8))) + (I7 c_sums (ix (v4)))) → Wa_addUp_k23 G S I9 (v3 + 1) R)))))) : Wa_addUp_k55 G S  I v3 v4 R := by
  unfold Wa_addUp_k55
  refine x_aload_n (pc := 55) dX8_addUp_55 rfl rfl ?_
  refine x_getR (pc := 56) (i := c_walks) (a := c_walks_meets) fl_X8_28 dX8_addUp_56 (sN_c_walks hS) (sT_c_walks hS) rfl (sR_c_walks_5 hS) ?_
  refine x_iload_n (pc := 59) dX8_addUp_59 rfl rfl ?_
  refine x_aload_n (pc := 60) dX8_addUp_60 rfl rfl ?_
  refine x_getR (pc := 61) (i := c_walks) (a := c_walks_meets) fl_X8_28 dX8_addUp_61 (sN_c_walks hS) (sT_c_walks hS) rfl (sR_c_walks_5 hS) ?_
  refine x_iload_n (pc := 64) dX8_addUp_64 rfl rfl ?_
  refine x_iload (pc := 65) dX8_addUp_65 rfl ?_
  refine y_Si (pc := 67) (As := [vi (v3), vi (v4)]) (rest := [vr G c_walks_meets, vi (v3), vr G c_walks_meets]) ok_X8_without ml_X8_50 dX8_addUp_67 rfl ⟨rfl, rfl⟩ ⟨by decide, by decide⟩ ⟨Nat.le_refl _, Nat.le_refl _⟩ (Nat.le_of_ble_eq_true rfl) rfl h (fun r8 I7 h => ?_)
  refine y_iald (pc := 70) (i := c_walks_meets) (n := 512) dX8_addUp_70 (sN_c_walks_meets hS) (sT_c_walks_meets hS) (sL_c_walks_meets hS) h.1 ?_
  have h := h.2
  refine x_aload_n (pc := 71) dX8_addUp_71 rfl rfl ?_
  refine x_iload (pc := 72) dX8_addUp_72 rfl ?_
  refine y_iald (pc := 74) (i := c_sums) (n := 10) dX8_addUp_74 (sN_c_sums hS) (sT_c_sums hS) (sL_c_sums hS) h.1 ?_
  have h := h.2
  refine x_iadd (pc := 75) dX8_addUp_75 ?_
  refine y_iast (pc := 76) (i := c_walks_meets) (n := 512) dX8_addUp_76 (sN_c_walks_meets hS) (sT_c_walks_meets hS) (sL_c_walks_meets hS) h.1 ?_
  have h := h.2
  have h := h _ rfl
  generalize up I7 c_walks_meets (ix (v3)) ((I7 c_walks_meets (ix (r8))) + (I7 c_sums (ix (v4)))) = I9 at h ⊢
  refine x_iinc (pc := 77) (L' := [some (vr G c_walks), none, some (vr G c_sums), some (vi (v3 + 1)), some (vi (v4))]) dX8_addUp_77 rfl (by decide) (xst1 rfl rfl rfl) ?_
  refine x_goto (pc := 80) (t := 23) dX8_addUp_80 (by decide) ?_
  refine x_less (L' := [some (vr G c_walks), none, some (vr G c_sums), some (vi (v3 + 1)), none]) (And.intro rfl (And.intro rfl (And.intro rfl trivial))) ?_
  exact h
set_option maxHeartbeats 4000000 in
set_option maxRecDepth 100000 in
theorem b_Ru_meetsTest {G : XG} {S : XS} {I : XI} {v1 : Int} {v2 : Int} {R : Int → XI → Prop} (hS : xSh S)  (h : (inb (v1) 64 ∧ ((w32 (I c_rules_signs (ix (v1))) = 60 → (inb (v1) 64 ∧ ((w32 (I c_rules_bounds (ix (v1))) ≤ w32 (v2) → R (0) I) ∧ (¬ (w32 (I c_rules_bounds (ix (v1))) ≤ w32 (v2)) → R (1) I)))) ∧ (w32 (I c_rules_signs (ix (v1))) = 62 → (inb (v1) 64 ∧ ((w32 (v2) ≤ w32 (I c_rules_bounds (ix (v1))) → R (0) I) ∧ (¬ (w32 (v2) ≤ w32 (I c_rules_bounds (ix (v1)))) → R (1) I)))) ∧ (¬ (w32 (I c_rules_signs (ix (v1))) = 60) ∧ ¬ (w32 (I c_rules_signs (ix (v1))) = 62) → (inb (v1) 64 ∧ ((w32 (v2) = w32 (I c_rules_bounds (ix (v1))) → R (1) I) ∧ (¬ (w32 (v2) = w32 (I c_rules_bounds (ix (v1)))) → R (0) I))))))) : Ru_meetsTest G S I v1 v2 R := by
  refine x_start [some (vr G c_rules), some (vi (v1)), some (vi (v2))] (by decide) (Nat.le_of_ble_eq_true rfl) rfl ?_
  refine x_aload_n (pc := 0) dX5_meetsTest_0 rfl rfl ?_
  refine x_getR (pc := 1) (i := c_rules) (a := c_rules_signs) fl_X5_31 dX5_meetsTest_1 (sN_c_rules hS) (sT_c_rules hS) rfl (sR_c_rules_6 hS) ?_
  refine x_iload_n (pc := 4) dX5_meetsTest_4 rfl rfl ?_
  refine y_iald (pc := 5) (i := c_rules_signs) (n := 64) dX5_meetsTest_5 (sN_c_rules_signs hS) (sT_c_rules_signs hS) (sL_c_rules_signs hS) h.1 ?_
  have h := h.2
  by_cases e0 : w32 (I c_rules_signs (ix (v1))) = 60
  · have h := h.1 e0
    refine x_look (pc := 6) (off := 26) (t := 32) dX5_meetsTest_6 (by decide) (by rw [e0]; rfl) (by decide) ?_
    refine x_iload_n (pc := 32) dX5_meetsTest_32 rfl rfl ?_
    refine x_aload_n (pc := 33) dX5_meetsTest_33 rfl rfl ?_
    refine x_getR (pc := 34) (i := c_rules) (a := c_rules_bounds) fl_X5_34 dX5_meetsTest_34 (sN_c_rules hS) (sT_c_rules hS) rfl (sR_c_rules_7 hS) ?_
    refine x_iload_n (pc := 37) dX5_meetsTest_37 rfl rfl ?_
    refine y_iald (pc := 38) (i := c_rules_bounds) (n := 64) dX5_meetsTest_38 (sN_c_rules_bounds hS) (sT_c_rules_bounds hS) (sL_c_rules_bounds hS) h.1 ?_
    have h := h.2
    refine x_icmp_ge (pc := 39) (t := 46) dX5_meetsTest_39 (by decide) (fun e => ?_) (fun e => ?_)
    · have h := h.1 e
      refine x_iconst (pc := 46) dX5_meetsTest_46 ?_
      exact y_zret (pc := 47) dX5_meetsTest_47 rfl ⟨Nat.le_refl _, Nat.le_refl _⟩ (Or.inl rfl) h
    · have h := h.2 e
      refine x_iconst (pc := 42) dX5_meetsTest_42 ?_
      refine x_goto (pc := 43) (t := 47) dX5_meetsTest_43 (by decide) ?_
      exact y_zret (pc := 47) dX5_meetsTest_47 rfl ⟨Nat.le_refl _, Nat.le_refl _⟩ (Or.inr rfl) h
  by_cases e1 : w32 (I c_rules_signs (ix (v1))) = 62
  · have h := h.2.1 e1
    refine x_look (pc := 6) (off := 42) (t := 48) dX5_meetsTest_6 (by decide) (by rw [e1]; rfl) (by decide) ?_
    refine x_iload_n (pc := 48) dX5_meetsTest_48 rfl rfl ?_
    refine x_aload_n (pc := 49) dX5_meetsTest_49 rfl rfl ?_
    refine x_getR (pc := 50) (i := c_rules) (a := c_rules_bounds) fl_X5_34 dX5_meetsTest_50 (sN_c_rules hS) (sT_c_rules hS) rfl (sR_c_rules_7 hS) ?_
    refine x_iload_n (pc := 53) dX5_meetsTest_53 rfl rfl ?_
    refine y_iald (pc := 54) (i := c_rules_bounds) (n := 64) dX5_meetsTest_54 (sN_c_rules_bounds hS) (sT_c_rules_bounds hS) (sL_c_rules_bounds hS) h.1 ?_
    have h := h.2
    refine x_icmp_le (pc := 55) (t := 62) dX5_meetsTest_55 (by decide) (fun e => ?_) (fun e => ?_)
    · have h := h.1 e
      refine x_iconst (pc := 62) dX5_meetsTest_62 ?_
      exact y_zret (pc := 63) dX5_meetsTest_63 rfl ⟨Nat.le_refl _, Nat.le_refl _⟩ (Or.inl rfl) h
    · have h := h.2 e
      refine x_iconst (pc := 58) dX5_meetsTest_58 ?_
      refine x_goto (pc := 59) (t := 63) dX5_meetsTest_59 (by decide) ?_
      exact y_zret (pc := 63) dX5_meetsTest_63 rfl ⟨Nat.le_refl _, Nat.le_refl _⟩ (Or.inr rfl) h
  have h := h.2.2 ⟨e0, e1⟩
  refine x_look (pc := 6) (off := 58) (t := 64) dX5_meetsTest_6 (by decide) (by simp [Op.lookupswitch.offset, Ne.symm e0, Ne.symm e1]) (by decide) ?_
  refine x_iload_n (pc := 64) dX5_meetsTest_64 rfl rfl ?_
  refine x_aload_n (pc := 65) dX5_meetsTest_65 rfl rfl ?_
  refine x_getR (pc := 66) (i := c_rules) (a := c_rules_bounds) fl_X5_34 dX5_meetsTest_66 (sN_c_rules hS) (sT_c_rules hS) rfl (sR_c_rules_7 hS) ?_
  refine x_iload_n (pc := 69) dX5_meetsTest_69 rfl rfl ?_
  refine y_iald (pc := 70) (i := c_rules_bounds) (n := 64) dX5_meetsTest_70 (sN_c_rules_bounds hS) (sT_c_rules_bounds hS) (sL_c_rules_bounds hS) h.1 ?_
  have h := h.2
  refine x_icmp_ne (pc := 71) (t := 78) dX5_meetsTest_71 (by decide) (fun e => ?_) (fun e => ?_)
  · have h := h.1 e
    refine x_iconst (pc := 74) dX5_meetsTest_74 ?_
    refine x_goto (pc := 75) (t := 79) dX5_meetsTest_75 (by decide) ?_
    exact y_zret (pc := 79) dX5_meetsTest_79 rfl ⟨Nat.le_refl _, Nat.le_refl _⟩ (Or.inr rfl) h
  · have h := h.2 e
    refine x_iconst (pc := 78) dX5_meetsTest_78 ?_
    exact y_zret (pc := 79) dX5_meetsTest_79 rfl ⟨Nat.le_refl _, Nat.le_refl _⟩ (Or.inl rfl) h
set_option maxHeartbeats 4000000 in
set_option maxRecDepth 100000 in
theorem b_La_grassOfWeek {G : XG} {S : XS} {I : XI} {v1 : Int} {v2 : Int} {R : XI → Prop} (hS : xSh S)  (h : Ja_fill G S I (c_now_grass) (1) (fun I1 => Ja_fill G S I1 (c_now_rests) ((-1)) (fun I2 => La_grassOfWeek_k14 G S I2 (v1) (v2) (0) R))) : La_grassOfWeek G S I v1 v2 R := by
  refine x_start [some (vr G c_land), some (vi (v1)), some (vi (v2)), some (vr G c_now_grass), some (vr G c_now_rests), none, none] (by decide) (Nat.le_of_ble_eq_true rfl) rfl ?_
  refine x_aload_n (pc := 0) dX2_grassOfWeek_0 rfl rfl ?_
  refine x_iconst (pc := 1) dX2_grassOfWeek_1 ?_
  refine y_Sv (pc := 2) (As := [vr G c_now_grass, vi (1)]) (rest := []) ok_J7_fill_53178 ml_X2_44 dX2_grassOfWeek_2 rfl ⟨rfl, rfl⟩ ⟨by decide, by decide⟩ ⟨Nat.le_refl _, Nat.le_refl _⟩ (Nat.le_of_ble_eq_true rfl) rfl h (fun I1 h => ?_)
  refine x_aload (pc := 5) dX2_grassOfWeek_5 rfl ?_
  refine x_iconst (pc := 7) dX2_grassOfWeek_7 ?_
  refine y_Sv (pc := 8) (As := [vr G c_now_rests, vi ((-1))]) (rest := []) ok_J7_fill_53178 ml_X2_44 dX2_grassOfWeek_8 rfl ⟨rfl, rfl⟩ ⟨by decide, by decide⟩ ⟨Nat.le_refl _, Nat.le_refl _⟩ (Nat.le_of_ble_eq_true rfl) rfl h (fun I2 h => ?_)
  refine x_iconst (pc := 11) dX2_grassOfWeek_11 ?_
  refine x_istore (pc := 12) (L' := [some (vr G c_land), some (vi (v1)), some (vi (v2)), some (vr G c_now_grass), some (vr G c_now_rests), some (vi (0)), none]) dX2_grassOfWeek_12 (by decide) (xst1 rfl rfl rfl) ?_
  exact h
