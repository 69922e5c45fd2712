set_option maxHeartbeats 4000000 in
set_option maxRecDepth 100000 in
theorem b_Pa_parseDeed_k50 {G : XG} {S : XS}  {I : XI} {v1 : Int} {v2 : Int} {R : Int → XI → Prop} (hS : xSh S)  (h : Pa_takeToken G S I (fun I11 => ((w32 (I11 c_parser 6) = w32 (2) → ((w32 (v2) = 0 → Pa_parseDeed_k93 G S I11 (v1) (v2) R) ∧ (¬ (w32 (v2) = 0) → ((w32 (I11 c_parser 8) < w32 (1) → Pa_note G S I11 (2) (fun I12 => Pa_parseDeed_k93 G S I12 (v1) (v2) R)) ∧ (¬ (w32 (I11 c_parser 8) < w32 (1)) → ((w32 (I11 c_parser 8) ≤ w32 (99) → Pa_parseDeed_k93 G S I11 (v1) (v2) R) ∧ (¬ (w32 (I11 c_parser 8) ≤ w32 (99)) → Pa_note G S I11 (2) (fun I13 => Pa_parseDeed_k93 G S I13 (v1) (v2) R)))))))) ∧ (¬ (w32 (I11 c_parser 6) = w32 (2)) → Pa_breakHere G S I11 (fun r15 I14 => (((r15) = 0 ∨ (r15) = 1) ∧ R (r15) I14)))))) : Pa_parseDeed_k50 G S  I v1 v2 R := by
  unfold Pa_parseDeed_k50
  refine x_aload_n (pc := 50) dX3_parseDeed_50 rfl rfl ?_
  refine y_Vv (pc := 51) (i := c_parser) (As := []) (rest := []) ok_X3_takeToken ml_X3_50 dX3_parseDeed_51 (sN_c_parser hS) (sT_c_parser hS) (by decide) rfl rfl rfl ⟨rfl, rfl⟩ ⟨by decide, by decide⟩ ⟨Nat.le_refl _, Nat.le_refl _⟩ (Nat.le_of_ble_eq_true rfl) rfl h (fun I11 h => ?_)
  refine x_aload_n (pc := 54) dX3_parseDeed_54 rfl rfl ?_
  refine x_getI (pc := 55) (i := c_parser) fl_X3_35 dX3_parseDeed_55 (sN_c_parser hS) (sT_c_parser hS) rfl ?_
  refine x_iconst (pc := 58) dX3_parseDeed_58 ?_
  refine x_icmp_eq (pc := 59) (t := 67) dX3_parseDeed_59 (by decide) (fun e => ?_) (fun e => ?_)
  · have h := h.1 e
    refine x_iload_n (pc := 67) dX3_parseDeed_67 rfl rfl ?_
    refine x_if_eq (pc := 68) (t := 93) dX3_parseDeed_68 (by decide) (fun e => ?_) (fun e => ?_)
    · have h := h.1 e
      exact h
    · have h := h.2 e
      refine x_aload_n (pc := 71) dX3_parseDeed_71 rfl rfl ?_
      refine x_getI (pc := 72) (i := c_parser) fl_X3_41 dX3_parseDeed_72 (sN_c_parser hS) (sT_c_parser hS) rfl ?_
      refine x_iconst (pc := 75) dX3_parseDeed_75 ?_
      refine x_icmp_lt (pc := 76) (t := 88) dX3_parseDeed_76 (by decide) (fun e => ?_) (fun e => ?_)
      · have h := h.1 e
        refine x_aload_n (pc := 88) dX3_parseDeed_88 rfl rfl ?_
        refine x_iconst (pc := 89) dX3_parseDeed_89 ?_
        refine y_Vv (pc := 90) (i := c_parser) (As := [vi (2)]) (rest := []) ok_X3_note ml_X3_66 dX3_parseDeed_90 (sN_c_parser hS) (sT_c_parser hS) (by decide) rfl rfl rfl ⟨rfl, rfl⟩ ⟨by decide, by decide⟩ ⟨Nat.le_refl _, Nat.le_refl _⟩ (Nat.le_of_ble_eq_true rfl) rfl h (fun I12 h => ?_)
        exact h
      · have h := h.2 e
        refine x_aload_n (pc := 79) dX3_parseDeed_79 rfl rfl ?_
        refine x_getI (pc := 80) (i := c_parser) fl_X3_41 dX3_parseDeed_80 (sN_c_parser hS) (sT_c_parser hS) rfl ?_
        refine x_bipush (pc := 83) dX3_parseDeed_83 (by decide) ?_
        refine x_icmp_le (pc := 85) (t := 93) dX3_parseDeed_85 (by decide) (fun e => ?_) (fun e => ?_)
        · have h := h.1 e
          exact h
        · have h := h.2 e
          refine x_aload_n (pc := 88) dX3_parseDeed_88 rfl rfl ?_
          refine x_iconst (pc := 89) dX3_parseDeed_89 ?_
          refine y_Vv (pc := 90) (i := c_parser) (As := [vi (2)]) (rest := []) ok_X3_note ml_X3_66 dX3_parseDeed_90 (sN_c_parser hS) (sT_c_parser hS) (by decide) rfl rfl rfl ⟨rfl, rfl⟩ ⟨by decide, by decide⟩ ⟨Nat.le_refl _, Nat.le_refl _⟩ (Nat.le_of_ble_eq_true rfl) rfl h (fun I13 h => ?_)
          exact h
  · have h := h.2 e
    refine x_aload_n (pc := 62) dX3_parseDeed_62 rfl rfl ?_
    refine y_Vi (pc := 63) (i := c_parser) (As := []) (rest := []) ok_X3_breakHere ml_X3_103 dX3_parseDeed_63 (sN_c_parser hS) (sT_c_parser hS) (by decide) rfl rfl rfl ⟨rfl, rfl⟩ ⟨by decide, by decide⟩ ⟨Nat.le_refl _, Nat.le_refl _⟩ (Nat.le_of_ble_eq_true rfl) rfl h (fun r15 I14 h => ?_)
    exact y_zret (pc := 66) dX3_parseDeed_66 rfl ⟨Nat.le_refl _, Nat.le_refl _⟩ h.1 h.2
set_option maxHeartbeats 4000000 in
set_option maxRecDepth 100000 in
theorem b_Pa_parseDeed_k93 {G : XG} {S : XS}  {I : XI} {v1 : Int} {v2 : Int} {R : Int → XI → Prop} (hS : xSh S)  (h : ((w32 (v2) = 0 → Dr_keepLine G S I (v1) (2) (I c_parser 8) (fun I16 => Pa_takeToken G S I16 (fun I17 => R (1) I17))) ∧ (¬ (w32 (v2) = 0) → Dr_keepLine G S I (v1) (1) (I c_parser 8) (fun I18 => Pa_takeToken G S I18 (fun I19 => R (1) I19))))) : Pa_parseDeed_k93 G S  I v1 v2 R := by
  unfold Pa_parseDeed_k93
  refine x_aload_n (pc := 93) dX3_parseDeed_93 rfl rfl ?_
  refine x_getR (pc := 94) (i := c_parser) (a := c_draft) fl_X3_12 dX3_parseDeed_94 (sN_c_parser hS) (sT_c_parser hS) rfl (sR_c_parser_0 hS) ?_
  refine x_iload_n (pc := 97) dX3_parseDeed_97 rfl rfl ?_
  refine x_iload_n (pc := 98) dX3_parseDeed_98 rfl rfl ?_
  refine x_if_eq (pc := 99) (t := 106) dX3_parseDeed_99 (by decide) (fun e => ?_) (fun e => ?_)
  · have h := h.1 e
    refine x_iconst (pc := 106) dX3_parseDeed_106 ?_
    refine x_aload_n (pc := 107) dX3_parseDeed_107 rfl rfl ?_
    refine x_getI (pc := 108) (i := c_parser) fl_X3_41 dX3_parseDeed_108 (sN_c_parser hS) (sT_c_parser hS) rfl ?_
    refine y_Vv (pc := 111) (i := c_draft) (As := [vi (v1), vi (2), vi (I c_parser 8)]) (rest := []) ok_X5_keepLine ml_X3_116 dX3_parseDeed_111 (sN_c_draft hS) (sT_c_draft hS) (by decide) rfl rfl rfl ⟨rfl, rfl⟩ ⟨by decide, by decide⟩ ⟨Nat.le_refl _, Nat.le_refl _⟩ (Nat.le_of_ble_eq_true rfl) rfl h (fun I16 h => ?_)
    refine x_aload_n (pc := 114) dX3_parseDeed_114 rfl rfl ?_
    refine y_Vv (pc := 115) (i := c_parser) (As := []) (rest := []) ok_X3_takeToken ml_X3_50 dX3_parseDeed_115 (sN_c_parser hS) (sT_c_parser hS) (by decide) rfl rfl rfl ⟨rfl, rfl⟩ ⟨by decide, by decide⟩ ⟨Nat.le_refl _, Nat.le_refl _⟩ (Nat.le_of_ble_eq_true rfl) rfl h (fun I17 h => ?_)
    refine x_iconst (pc := 118) dX3_parseDeed_118 ?_
    exact y_zret (pc := 119) dX3_parseDeed_119 rfl ⟨Nat.le_refl _, Nat.le_refl _⟩ (Or.inr rfl) h
  · have h := h.2 e
    refine x_iconst (pc := 102) dX3_parseDeed_102 ?_
    refine x_goto (pc := 103) (t := 107) dX3_parseDeed_103 (by decide) ?_
    refine x_aload_n (pc := 107) dX3_parseDeed_107 rfl rfl ?_
    refine x_getI (pc := 108) (i := c_parser) fl_X3_41 dX3_parseDeed_108 (sN_c_parser hS) (sT_c_parser hS) rfl ?_
    refine y_Vv (pc := 111) (i := c_draft) (As := [vi (v1), vi (1), vi (I c_parser 8)]) (rest := []) ok_X5_keepLine ml_X3_116 dX3_parseDeed_111 (sN_c_draft hS) (sT_c_draft hS) (by decide) rfl rfl rfl ⟨rfl, rfl⟩ ⟨by decide, by decide⟩ ⟨Nat.le_refl _, Nat.le_refl _⟩ (Nat.le_of_ble_eq_true rfl) rfl h (fun I18 h => ?_)
    refine x_aload_n (pc := 114) dX3_parseDeed_114 rfl rfl ?_
    refine y_Vv (pc := 115) (i := c_parser) (As := []) (rest := []) ok_X3_takeToken ml_X3_50 dX3_parseDeed_115 (sN_c_parser hS) (sT_c_parser hS) (by decide) rfl rfl rfl ⟨rfl, rfl⟩ ⟨by decide, by decide⟩ ⟨Nat.le_refl _, Nat.le_refl _⟩ (Nat.le_of_ble_eq_true rfl) rfl h (fun I19 h => ?_)
    refine x_iconst (pc := 118) dX3_parseDeed_118 ?_
    exact y_zret (pc := 119) dX3_parseDeed_119 rfl ⟨Nat.le_refl _, Nat.le_refl _⟩ (Or.inr rfl) h
set_option maxHeartbeats 4000000 in
set_option maxRecDepth 100000 in
theorem b_Wa_hasStop {G : XG} {S : XS} {I : XI} {v0 : Int} {v1 : Int} {R : Int → XI → Prop} (hS : xSh S)  (h : ((w32 (iand (ishr (v0) ((v1) - (1))) (1)) = w32 (1) → R (1) I) ∧ (¬ (w32 (iand (ishr (v0) ((v1) - (1))) (1)) = w32 (1)) → R (0) I))) : Wa_hasStop G S I v0 v1 R := by
  refine x_start [some (vi (v0)), some (vi (v1))] (by decide) (Nat.le_of_ble_eq_true rfl) rfl ?_
  refine x_iload_n (pc := 0) dX8_hasStop_0 rfl rfl ?_
  refine x_iload_n (pc := 1) dX8_hasStop_1 rfl rfl ?_
  refine x_iconst (pc := 2) dX8_hasStop_2 ?_
  refine x_isub (pc := 3) dX8_hasStop_3 ?_
  refine x_ishr (pc := 4) dX8_hasStop_4 ?_
  refine x_iconst (pc := 5) dX8_hasStop_5 ?_
  refine x_iand (pc := 6) dX8_hasStop_6 ?_
  refine x_iconst (pc := 7) dX8_hasStop_7 ?_
  refine x_icmp_ne (pc := 8) (t := 15) dX8_hasStop_8 (by decide) (fun e => ?_) (fun e => ?_)
  · have h := h.1 e
    refine x_iconst (pc := 11) dX8_hasStop_11 ?_
    refine x_goto (pc := 12) (t := 16) dX8_hasStop_12 (by decide) ?_
    exact y_zret (pc := 16) dX8_hasStop_16 rfl ⟨Nat.le_refl _, Nat.le_refl _⟩ (Or.inr rfl) h
  · have h := h.2 e
    refine x_iconst (pc := 15) dX8_hasStop_15 ?_
    exact y_zret (pc := 16) dX8_hasStop_16 rfl ⟨Nat.le_refl _, Nat.le_refl _⟩ (Or.inl rfl) h
set_option maxHeartbeats 4000000 in
set_option maxRecDepth 100000 in
theorem b_Wa_lengthBy {G : XG} {S : XS} {I : XI} {v1 : Int} {v2 : Int} {v3 : Int} {R : Int → XI → Prop} (hS : xSh S)  (h : (inb (((v1) * (10)) + (v2)) 100 ∧ Wa_without G S I (v3) (v2) (fun r2 I1 => (inb (((r2) * (10)) + (v2)) 5120 ∧ R ((I c_walks_days (ix (((v1) * (10)) + (v2)))) + (I1 c_walks_home (ix (((r2) * (10)) + (v2))))) I1)))) : Wa_lengthBy G S I v1 v2 v3 R := by
  refine x_start [some (vr G c_walks), some (vi (v1)), some (vi (v2)), some (vi (v3))] (by decide) (Nat.le_of_ble_eq_true rfl) rfl ?_
  refine x_aload_n (pc := 0) dX8_lengthBy_0 rfl rfl ?_
  refine x_getR (pc := 1) (i := c_walks) (a := c_walks_days) fl_X8_21 dX8_lengthBy_1 (sN_c_walks hS) (sT_c_walks hS) rfl (sR_c_walks_3 hS) ?_
  refine x_iload_n (pc := 4) dX8_lengthBy_4 rfl rfl ?_
  refine x_bipush (pc := 5) dX8_lengthBy_5 (by decide) ?_
  refine x_imul (pc := 7) dX8_lengthBy_7 ?_
  refine x_iload_n (pc := 8) dX8_lengthBy_8 rfl rfl ?_
  refine x_iadd (pc := 9) dX8_lengthBy_9 ?_
  refine y_iald (pc := 10) (i := c_walks_days) (n := 100) dX8_lengthBy_10 (sN_c_walks_days hS) (sT_c_walks_days hS) (sL_c_walks_days hS) h.1 ?_
  have h := h.2
  refine x_aload_n (pc := 11) dX8_lengthBy_11 rfl rfl ?_
  refine x_getR (pc := 12) (i := c_walks) (a := c_walks_home) fl_X8_25 dX8_lengthBy_12 (sN_c_walks hS) (sT_c_walks hS) rfl (sR_c_walks_4 hS) ?_
  refine x_iload_n (pc := 15) dX8_lengthBy_15 rfl rfl ?_
  refine x_iload_n (pc := 16) dX8_lengthBy_16 rfl rfl ?_
  refine y_Si (pc := 17) (As := [vi (v3), vi (v2)]) (rest := [vr G c_walks_home, vi (I c_walks_days (ix (((v1) * (10)) + (v2))))]) ok_X8_without ml_X8_50 dX8_lengthBy_17 rfl ⟨rfl, rfl⟩ ⟨by decide, by decide⟩ ⟨Nat.le_refl _, Nat.le_refl _⟩ (Nat.le_of_ble_eq_true rfl) rfl h (fun r2 I1 h => ?_)
  refine x_bipush (pc := 20) dX8_lengthBy_20 (by decide) ?_
  refine x_imul (pc := 22) dX8_lengthBy_22 ?_
  refine x_iload_n (pc := 23) dX8_lengthBy_23 rfl rfl ?_
  refine x_iadd (pc := 24) dX8_lengthBy_24 ?_
  refine y_iald (pc := 25) (i := c_walks_home) (n := 5120) dX8_lengthBy_25 (sN_c_walks_home hS) (sT_c_walks_home hS) (sL_c_walks_home hS) h.1 ?_
  have h := h.2
  refine x_iadd (pc := 26) dX8_lengthBy_26 ?_
  exact y_iret (pc := 27) dX8_lengthBy_27 rfl ⟨Nat.le_refl _, Nat.le_refl _⟩ h
set_option maxHeartbeats 4000000 in
set_option maxRecDepth 100000 in
theorem b_Wa_fewestHome {G : XG} {S : XS} {I : XI} {v1 : Int} {v2 : Int} {R : Int → XI → Prop} (hS : xSh S)  (h : ((w32 (v2) = 0 → (inb ((v1) * (10)) 100 ∧ R (I c_walks_days (ix ((v1) * (10)))) I)) ∧ (¬ (w32 (v2) = 0) → Wa_fewestHome_k20 G S I (v1) (v2) (100000) (1) R))) : Wa_fewestHome G S I v1 v2 R := by
  refine x_start [some (vr G c_walks), some (vi (v1)), some (vi (v2)), none, none] (by decide) (Nat.le_of_ble_eq_true rfl) rfl ?_
  refine x_iload_n (pc := 0) dX8_fewestHome_0 rfl rfl ?_
  refine x_if_ne (pc := 1) (t := 14) dX8_fewestHome_1 (by decide) (fun e => ?_) (fun e => ?_)
  · have h := h.1 e
    refine x_aload_n (pc := 4) dX8_fewestHome_4 rfl rfl ?_
    refine x_getR (pc := 5) (i := c_walks) (a := c_walks_days) fl_X8_21 dX8_fewestHome_5 (sN_c_walks hS) (sT_c_walks hS) rfl (sR_c_walks_3 hS) ?_
    refine x_iload_n (pc := 8) dX8_fewestHome_8 rfl rfl ?_
    refine x_bipush (pc := 9) dX8_fewestHome_9 (by decide) ?_
    refine x_imul (pc := 11) dX8_fewestHome_11 ?_
    refine y_iald (pc := 12) (i := c_walks_days) (n := 100) dX8_fewestHome_12 (sN_c_walks_days hS) (sT_c_walks_days hS) (sL_c_walks_days hS) h.1 ?_
    have h := h.2
    exact y_iret (pc := 13) dX8_fewestHome_13 rfl ⟨Nat.le_refl _, Nat.le_refl _⟩ h
  · have h := h.2 e
    refine x_ldc (pc := 14) (z := 100000) dX8_fewestHome_14 ko_X8_66 rfl ?_
    refine x_istore_n (pc := 16) (L' := [some (vr G c_walks), some (vi (v1)), some (vi (v2)), some (vi (100000)), none]) dX8_fewestHome_16 rfl (by decide) (xst1 rfl rfl rfl) ?_
    refine x_iconst (pc := 17) dX8_fewestHome_17 ?_
    refine x_istore (pc := 18) (L' := [some (vr G c_walks), some (vi (v1)), some (vi (v2)), some (vi (100000)), some (vi (1))]) dX8_fewestHome_18 (by decide) (xst1 rfl rfl rfl) ?_
    exact h
set_option maxHeartbeats 4000000 in
set_option maxRecDepth 100000 in
theorem b_Wa_fewestHome_k20 {G : XG} {S : XS}  {I : XI} {v1 : Int} {v2 : Int} {v3 : Int} {v4 : Int} {R : Int → XI → Prop} (hS : xSh S)  (h : ((w32 (10) ≤ w32 (v4) → R (v3) I) ∧ (¬ (w32 (10) ≤ w32 (v4)) → Wa_hasStop G S I (v2) (v4) (fun r2 I1 => ((w32 (r2) = 0 → Wa_fewestHome_k20 G S I1 (v1) (v2) (v3) (v4 + 1) R) ∧ (¬ (w32 (r2) = 0) → Wa_lengthBy G S I1 (v1) (v4) (v2) (fun r4 I3 => Wa_fewestHome_k20 G S I3 (v1) (v2) (if w32 (r4) < w32 (v3) then r4 else v3) (v4 + 1) R))))))) : Wa_fewestHome_k20 G S  I v1 v2 v3 v4 R := by
  unfold Wa_fewestHome_k20
  refine x_iload (pc := 20) dX8_fewestHome_20 rfl ?_
  refine x_bipush (pc := 22) dX8_fewestHome_22 (by decide) ?_
  refine x_icmp_ge (pc := 24) (t := 55) dX8_fewestHome_24 (by decide) (fun e => ?_) (fun e => ?_)
  · have h := h.1 e
    refine x_iload_n (pc := 55) dX8_fewestHome_55 rfl rfl ?_
    exact y_iret (pc := 56) dX8_fewestHome_56 rfl ⟨Nat.le_refl _, Nat.le_refl _⟩ h
  · have h := h.2 e
    refine x_iload_n (pc := 27) dX8_fewestHome_27 rfl rfl ?_
    refine x_iload (pc := 28) dX8_fewestHome_28 rfl ?_
    refine y_Si (pc := 30) (As := [vi (v2), vi (v4)]) (rest := []) ok_X8_hasStop ml_X8_53 dX8_fewestHome_30 rfl ⟨rfl, rfl⟩ ⟨by decide, by decide⟩ ⟨Nat.le_refl _, Nat.le_refl _⟩ (Nat.le_of_ble_eq_true rfl) rfl h (fun r2 I1 h => ?_)
    refine x_if_eq (pc := 33) (t := 49) dX8_fewestHome_33 (by decide) (fun e => ?_) (fun e => ?_)
    · have h := h.1 e
      refine x_iinc (pc := 49) (L' := [some (vr G c_walks), some (vi (v1)), some (vi (v2)), some (vi (v3)), some (vi (v4 + 1))]) dX8_fewestHome_49 rfl (by decide) (xst1 rfl rfl rfl) ?_
      refine x_goto (pc := 52) (t := 20) dX8_fewestHome_52 (by decide) ?_
      exact h
    · have h := h.2 e
      refine x_iload_n (pc := 36) dX8_fewestHome_36 rfl rfl ?_
      refine x_aload_n (pc := 37) dX8_fewestHome_37 rfl rfl ?_
      refine x_iload_n (pc := 38) dX8_fewestHome_38 rfl rfl ?_
      refine x_iload (pc := 39) dX8_fewestHome_39 rfl ?_
      refine x_iload_n (pc := 41) dX8_fewestHome_41 rfl rfl ?_
      refine y_Vi (pc := 42) (i := c_walks) (As := [vi (v1), vi (v4), vi (v2)]) (rest := [vi (v3)]) ok_X8_lengthBy ml_X8_57 dX8_fewestHome_42 (sN_c_walks hS) (sT_c_walks hS) (by decide) rfl rfl rfl ⟨rfl, rfl⟩ ⟨by decide, by decide⟩ ⟨Nat.le_refl _, Nat.le_refl _⟩ (Nat.le_of_ble_eq_true rfl) rfl h (fun r4 I3 h => ?_)
      refine x_min (pc := 45) ⟨ml_X8_67, w_mins, w_mi, w_minc⟩ dX8_fewestHome_45 ⟨by decide, Nat.le_of_ble_eq_true rfl, Nat.le_refl _, Nat.le_refl _⟩ ?_
      refine x_istore_n (pc := 48) (L' := [some (vr G c_walks), some (vi (v1)), some (vi (v2)), some (vi (if w32 (r4) < w32 (v3) then r4 else v3)), some (vi (v4))]) dX8_fewestHome_48 rfl (by decide) (xst1 rfl rfl rfl) ?_
      refine x_iinc (pc := 49) (L' := [some (vr G c_walks), some (vi (v1)), some (vi (v2)), some (vi (if w32 (r4) < w32 (v3) then r4 else v3)), some (vi (v4 + 1))]) dX8_fewestHome_49 rfl (by decide) (xst1 rfl rfl rfl) ?_
      refine x_goto (pc := 52) (t := 20) dX8_fewestHome_52 (by decide) ?_
      exact h
set_option maxHeartbeats 4000000 in
set_option maxRecDepth 100000 in
theorem b_Pa_parseTest {G : XG} {S : XS} {I : XI} {v1 : Int} {v2 : Int} {R : Int → XI → Prop} (hS : xSh S)  (h : Pa_isWord G S I (1) (fun r2 I1 => ((w32 (r2) = 0 → Pa_parseTest_k17 G S I1 (v1) (v2) (0) R) ∧ (¬ (w32 (r2) = 0) → Pa_takeToken G S I1 (fun I3 => Pa_parseTest_k17 G S I3 (v1) (v2) (1) R))))) : Pa_parseTest G S I v1 v2 R := by
  refine x_start [some (vr G c_parser), some (vi (v1)), some (vi (v2)), none, none, none, none] (by decide) (Nat.le_of_ble_eq_true rfl) rfl ?_
  refine x_iconst (pc := 0) dX3_parseTest_0 ?_
  refine x_istore_n (pc := 1) (L' := [some (vr G c_parser), some (vi (v1)), some (vi (v2)), some (vi (0)), none, none, none]) dX3_parseTest_1 rfl (by decide) (xst1 rfl rfl rfl) ?_
  refine x_aload_n (pc := 2) dX3_parseTest_2 rfl rfl ?_
  refine x_ldcS (pc := 3) (q := 1) dX3_parseTest_3 (by decide) rfl rfl ?_
  refine y_Vi (pc := 5) (i := c_parser) (As := [vs G 1]) (rest := []) ok_X3_isWord ml_X3_71 dX3_parseTest_5 (sN_c_parser hS) (sT_c_parser hS) (by decide) rfl rfl rfl ⟨rfl, rfl⟩ ⟨by decide, by decide⟩ ⟨Nat.le_refl _, Nat.le_refl _⟩ (Nat.le_of_ble_eq_true rfl) rfl h (fun r2 I1 h => ?_)
  refine x_if_eq (pc := 8) (t := 17) dX3_parseTest_8 (by decide) (fun e => ?_) (fun e => ?_)
  · have h := h.1 e
    exact h
  · have h := h.2 e
    refine x_iconst (pc := 11) dX3_parseTest_11 ?_
    refine x_istore_n (pc := 12) (L' := [some (vr G c_parser), some (vi (v1)), some (vi (v2)), some (vi (1)), none, none, none]) dX3_parseTest_12 rfl (by decide) (xst1 rfl rfl rfl) ?_
    refine x_aload_n (pc := 13) dX3_parseTest_13 rfl rfl ?_
    refine y_Vv (pc := 14) (i := c_parser) (As := []) (rest := []) ok_X3_takeToken ml_X3_50 dX3_parseTest_14 (sN_c_parser hS) (sT_c_parser hS) (by decide) rfl rfl rfl ⟨rfl, rfl⟩ ⟨by decide, by decide⟩ ⟨Nat.le_refl _, Nat.le_refl _⟩ (Nat.le_of_ble_eq_true rfl) rfl h (fun I3 h => ?_)
    exact h
set_option maxHeartbeats 4000000 in
set_option maxRecDepth 100000 in
theorem b_Pa_parseTest_k17 {G : XG} {S : XS}  {I : XI} {v1 : Int} {v2 : Int} {v3 : Int} {R : Int → XI → Prop} (hS : xSh S)  (h : Pa_subjectOfWord G S I (fun r5 I4 => ((w32 (r5) = w32 ((-1)) → Pa_breakHere G S I4 (fun r7 I6 => (((r7) = 0 ∨ (r7) = 1) ∧ R (r7) I6))) ∧ (¬ (w32 (r5) = w32 ((-1))) → Pa_takeToken G S I4 (fun I8 => ((w32 (r5) < w32 (3) → Pa_parseTest_k116 G S I8 (v1) (v2) (v3) (r5) (61) (1) R) ∧ (¬ (w32 (r5) < w32 (3)) → Pa_isSign G S I8 (60) (fun r10 I9 => ((w32 (r10) = 0 → Pa_isSign G S I9 (62) (fun r12 I11 => ((w32 (r12) = 0 → Pa_isSign G S I11 (61) (fun r14 I13 => ((w32 (r14) = 0 → Pa_breakHere G S I13 (fun r16 I15 => (((r16) = 0 ∨ (r16) = 1) ∧ R (r16) I15))) ∧ (¬ (w32 (r14) = 0) → Pa_parseTest_k83 G S I13 (v1) (v2) (v3) (r5) R)))) ∧ (¬ (w32 (r12) = 0) → Pa_parseTest_k83 G S I11 (v1) (v2) (v3) (r5) R)))) ∧ (¬ (w32 (r10) = 0) → Pa_parseTest_k83 G S I9 (v1) (v2) (v3) (r5) R)))))))))) : Pa_parseTest_k17 G S  I v1 v2 v3 R := by
  unfold Pa_parseTest_k17
  refine x_aload_n (pc := 17) dX3_parseTest_17 rfl rfl ?_
  refine y_Vi (pc := 18) (i := c_parser) (As := []) (rest := []) ok_X3_subjectOfWord ml_X3_99 dX3_parseTest_18 (sN_c_parser hS) (sT_c_parser hS) (by decide) rfl rfl rfl ⟨rfl, rfl⟩ ⟨by decide, by decide⟩ ⟨Nat.le_refl _, Nat.le_refl _⟩ (Nat.le_of_ble_eq_true rfl) rfl h (fun r5 I4 h => ?_)
  refine x_istore (pc := 21) (L' := [some (vr G c_parser), some (vi (v1)), some (vi (v2)), some (vi (v3)), some (vi (r5)), none, none]) dX3_parseTest_21 (by decide) (xst1 rfl rfl rfl) ?_
  refine x_iload (pc := 23) dX3_parseTest_23 rfl ?_
  refine x_iconst (pc := 25) dX3_parseTest_25 ?_
  refine x_icmp_ne (pc := 26) (t := 34) dX3_parseTest_26 (by decide) (fun e => ?_) (fun e => ?_)
  · have h := h.1 e
    refine x_aload_n (pc := 29) dX3_parseTest_29 rfl rfl ?_
    refine y_Vi (pc := 30) (i := c_parser) (As := []) (rest := []) ok_X3_breakHere ml_X3_103 dX3_parseTest_30 (sN_c_parser hS) (sT_c_parser hS) (by decide) rfl rfl rfl ⟨rfl, rfl⟩ ⟨by decide, by decide⟩ ⟨Nat.le_refl _, Nat.le_refl _⟩ (Nat.le_of_ble_eq_true rfl) rfl h (fun r7 I6 h => ?_)
    exact y_zret (pc := 33) dX3_parseTest_33 rfl ⟨Nat.le_refl _, Nat.le_refl _⟩ h.1 h.2
  · have h := h.2 e
    refine x_aload_n (pc := 34) dX3_parseTest_34 rfl rfl ?_
    refine y_Vv (pc := 35) (i := c_parser) (As := []) (rest := []) ok_X3_takeToken ml_X3_50 dX3_parseTest_35 (sN_c_parser hS) (sT_c_parser hS) (by decide) rfl rfl rfl ⟨rfl, rfl⟩ ⟨by decide, by decide⟩ ⟨Nat.le_refl _, Nat.le_refl _⟩ (Nat.le_of_ble_eq_true rfl) rfl h (fun I8 h => ?_)
    refine x_bipush (pc := 38) dX3_parseTest_38 (by decide) ?_
    refine x_istore (pc := 40) (L' := [some (vr G c_parser), some (vi (v1)), some (vi (v2)), some (vi (v3)), some (vi (r5)), some (vi (61)), none]) dX3_parseTest_40 (by decide) (xst1 rfl rfl rfl) ?_
    refine x_iconst (pc := 42) dX3_parseTest_42 ?_
    refine x_istore (pc := 43) (L' := [some (vr G c_parser), some (vi (v1)), some (vi (v2)), some (vi (v3)), some (vi (r5)), some (vi (61)), some (vi (1))]) dX3_parseTest_43 (by decide) (xst1 rfl rfl rfl) ?_
    refine x_iload (pc := 45) dX3_parseTest_45 rfl ?_
    refine x_iconst (pc := 47) dX3_parseTest_47 ?_
    refine x_icmp_lt (pc := 48) (t := 116) dX3_parseTest_48 (by decide) (fun e => ?_) (fun e => ?_)
    · have h := h.1 e
      exact h
    · have h := h.2 e
      refine x_aload_n (pc := 51) dX3_parseTest_51 rfl rfl ?_
      refine x_bipush (pc := 52) dX3_parseTest_52 (by decide) ?_
      refine y_Vi (pc := 54) (i := c_parser) (As := [vi (60)]) (rest := []) ok_X3_isSign ml_X3_107 dX3_parseTest_54 (sN_c_parser hS) (sT_c_parser hS) (by decide) rfl rfl rfl ⟨rfl, rfl⟩ ⟨by decide, by decide⟩ ⟨Nat.le_refl _, Nat.le_refl _⟩ (Nat.le_of_ble_eq_true rfl) rfl h (fun r10 I9 h => ?_)
      refine x_if_ne (pc := 57) (t := 83) dX3_parseTest_57 (by decide) (fun e => ?_) (fun e => ?_)
      · have h := h.1 e
        refine x_aload_n (pc := 60) dX3_parseTest_60 rfl rfl ?_
        refine x_bipush (pc := 61) dX3_parseTest_61 (by decide) ?_
        refine y_Vi (pc := 63) (i := c_parser) (As := [vi (62)]) (rest := []) ok_X3_isSign ml_X3_107 dX3_parseTest_63 (sN_c_parser hS) (sT_c_parser hS) (by decide) rfl rfl rfl ⟨rfl, rfl⟩ ⟨by decide, by decide⟩ ⟨Nat.le_refl _, Nat.le_refl _⟩ (Nat.le_of_ble_eq_true rfl) rfl h (fun r12 I11 h => ?_)
        refine x_if_ne (pc := 66) (t := 83) dX3_parseTest_66 (by decide) (fun e => ?_) (fun e => ?_)
        · have h := h.1 e
          refine x_aload_n (pc := 69) dX3_parseTest_69 rfl rfl ?_
          refine x_bipush (pc := 70) dX3_parseTest_70 (by decide) ?_
          refine y_Vi (pc := 72) (i := c_parser) (As := [vi (61)]) (rest := []) ok_X3_isSign ml_X3_107 dX3_parseTest_72 (sN_c_parser hS) (sT_c_parser hS) (by decide) rfl rfl rfl ⟨rfl, rfl⟩ ⟨by decide, by decide⟩ ⟨Nat.le_refl _, Nat.le_refl _⟩ (Nat.le_of_ble_eq_true rfl) rfl h (fun r14 I13 h => ?_)
          refine x_if_ne (pc := 75) (t := 83) dX3_parseTest_75 (by decide) (fun e => ?_) (fun e => ?_)
          · have h := h.1 e
            refine x_aload_n (pc := 78) dX3_parseTest_78 rfl rfl ?_
            refine y_Vi (pc := 79) (i := c_parser) (As := []) (rest := []) ok_X3_breakHere ml_X3_103 dX3_parseTest_79 (sN_c_parser hS) (sT_c_parser hS) (by decide) rfl rfl rfl ⟨rfl, rfl⟩ ⟨by decide, by decide⟩ ⟨Nat.le_refl _, Nat.le_refl _⟩ (Nat.le_of_ble_eq_true rfl) rfl h (fun r16 I15 h => ?_)
            exact y_zret (pc := 82) dX3_parseTest_82 rfl ⟨Nat.le_refl _, Nat.le_refl _⟩ h.1 h.2
          · have h := h.2 e
            refine x_less (L' := [some (vr G c_parser), some (vi (v1)), some (vi (v2)), some (vi (v3)), some (vi (r5)), none, none]) (And.intro rfl (And.intro rfl (And.intro rfl (And.intro rfl (And.intro rfl trivial))))) ?_
            exact h
        · have h := h.2 e
          refine x_less (L' := [some (vr G c_parser), some (vi (v1)), some (vi (v2)), some (vi (v3)), some (vi (r5)), none, none]) (And.intro rfl (And.intro rfl (And.intro rfl (And.intro rfl (And.intro rfl trivial))))) ?_
          exact h
      · have h := h.2 e
        refine x_less (L' := [some (vr G c_parser), some (vi (v1)), some (vi (v2)), some (vi (v3)), some (vi (r5)), none, none]) (And.intro rfl (And.intro rfl (And.intro rfl (And.intro rfl (And.intro rfl trivial))))) ?_
        exact h
set_option maxHeartbeats 4000000 in
set_option maxRecDepth 100000 in
theorem b_Pa_parseTest_k116 {G : XG} {S : XS}  {I : XI} {v1 : Int} {v2 : Int} {v3 : Int} {v4 : Int} {v5 : Int} {v6 : Int} {R : Int → XI → Prop} (hS : xSh S)  (h : Dr_keepTest G S I (v1) (v2) (v3) (v4) (v5) (v6) (fun I17 => R (1) I17)) : Pa_parseTest_k116 G S  I v1 v2 v3 v4 v5 v6 R := by
  unfold Pa_parseTest_k116
  refine x_aload_n (pc := 116) dX3_parseTest_116 rfl rfl ?_
  refine x_getR (pc := 117) (i := c_parser) (a := c_draft) fl_X3_12 dX3_parseTest_117 (sN_c_parser hS) (sT_c_parser hS) rfl (sR_c_parser_0 hS) ?_
  refine x_iload_n (pc := 120) dX3_parseTest_120 rfl rfl ?_
  refine x_iload_n (pc := 121) dX3_parseTest_121 rfl rfl ?_
  refine x_iload_n (pc := 122) dX3_parseTest_122 rfl rfl ?_
  refine x_iload (pc := 123) dX3_parseTest_123 rfl ?_
  refine x_iload (pc := 125) dX3_parseTest_125 rfl ?_
  refine x_iload (pc := 127) dX3_parseTest_127 rfl ?_
  refine y_Vv (pc := 129) (i := c_draft) (As := [vi (v1), vi (v2), vi (v3), vi (v4), vi (v5), vi (v6)]) (rest := []) ok_X5_keepTest ml_X3_110 dX3_parseTest_129 (sN_c_draft hS) (sT_c_draft hS) (by decide) rfl rfl rfl ⟨rfl, rfl⟩ ⟨by decide, by decide⟩ ⟨Nat.le_refl _, Nat.le_refl _⟩ (Nat.le_of_ble_eq_true rfl) rfl h (fun I17 h => ?_)
  refine x_iconst (pc := 132) dX3_parseTest_132 ?_
  exact y_zret (pc := 133) dX3_parseTest_133 rfl ⟨Nat.le_refl _, Nat.le_refl _⟩ (Or.inr rfl) h
set_option maxHeartbeats 4000000 in
set_option maxRecDepth 100000 in
theorem b_Pa_parseTest_k83 {G : XG} {S : XS}  {I : XI} {v1 : Int} {v2 : Int} {v3 : Int} {v4 : Int} {R : Int → XI → Prop} (hS : xSh S)  (h : Pa_takeToken G S I (fun I18 => ((w32 (I18 c_parser 6) = w32 (2) → Pa_takeToken G S I18 (fun I19 => Pa_parseTest_k116 G S I19 (v1) (v2) (v3) (v4) (I c_parser 8) (I18 c_parser 8) R)) ∧ (¬ (w32 (I18 c_parser 6) = w32 (2)) → Pa_breakHere G S I18 (fun r21 I20 => (((r21) = 0 ∨ (r21) = 1) ∧ R (r21) I20)))))) : Pa_parseTest_k83 G S  I v1 v2 v3 v4 R := by
  unfold Pa_parseTest_k83
  refine x_aload_n (pc := 83) dX3_parseTest_83 rfl rfl ?_
  refine x_getI (pc := 84) (i := c_parser) fl_X3_41 dX3_parseTest_84 (sN_c_parser hS) (sT_c_parser hS) rfl ?_
  refine x_istore (pc := 87) (L' := [some (vr G c_parser), some (vi (v1)), some (vi (v2)), some (vi (v3)), some (vi (v4)), some (vi (I c_parser 8)), none]) dX3_parseTest_87 (by decide) (xst1 rfl rfl rfl) ?_
  refine x_aload_n (pc := 89) dX3_parseTest_89 rfl rfl ?_
  refine y_Vv (pc := 90) (i := c_parser) (As := []) (rest := []) ok_X3_takeToken ml_X3_50 dX3_parseTest_90 (sN_c_parser hS) (sT_c_parser hS) (by decide) rfl rfl rfl ⟨rfl, rfl⟩ ⟨by decide, by decide⟩ ⟨Nat.le_refl _, Nat.le_refl _⟩ (Nat.le_of_ble_eq_true rfl) rfl h (fun I18 h => ?_)
  refine x_aload_n (pc := 93) dX3_parseTest_93 rfl rfl ?_
  refine x_getI (pc := 94) (i := c_parser) fl_X3_35 dX3_parseTest_94 (sN_c_parser hS) (sT_c_parser hS) rfl ?_
  refine x_iconst (pc := 97) dX3_parseTest_97 ?_
  refine x_icmp_eq (pc := 98) (t := 106) dX3_parseTest_98 (by decide) (fun e => ?_) (fun e => ?_)
  · have h := h.1 e
    refine x_aload_n (pc := 106) dX3_parseTest_106 rfl rfl ?_
    refine x_getI (pc := 107) (i := c_parser) fl_X3_41 dX3_parseTest_107 (sN_c_parser hS) (sT_c_parser hS) rfl ?_
    refine x_istore (pc := 110) (L' := [some (vr G c_parser), some (vi (v1)), some (vi (v2)), some (vi (v3)), some (vi (v4)), some (vi (I c_parser 8)), some (vi (I18 c_parser 8))]) dX3_parseTest_110 (by decide) (xst1 rfl rfl rfl) ?_
    refine x_aload_n (pc := 112) dX3_parseTest_112 rfl rfl ?_
    refine y_Vv (pc := 113) (i := c_parser) (As := []) (rest := []) ok_X3_takeToken ml_X3_50 dX3_parseTest_113 (sN_c_parser hS) (sT_c_parser hS) (by decide) rfl rfl rfl ⟨rfl, rfl⟩ ⟨by decide, by decide⟩ ⟨Nat.le_refl _, Nat.le_refl _⟩ (Nat.le_of_ble_eq_true rfl) rfl h (fun I19 h => ?_)
    exact h
  · have h := h.2 e
    refine x_aload_n (pc := 101) dX3_parseTest_101 rfl rfl ?_
    refine y_Vi (pc := 102) (i := c_parser) (As := []) (rest := []) ok_X3_breakHere ml_X3_103 dX3_parseTest_102 (sN_c_parser hS) (sT_c_parser hS) (by decide) rfl rfl rfl ⟨rfl, rfl⟩ ⟨by decide, by decide⟩ ⟨Nat.le_refl _, Nat.le_refl _⟩ (Nat.le_of_ble_eq_true rfl) rfl h (fun r21 I20 h => ?_)
    exact y_zret (pc := 105) dX3_parseTest_105 rfl ⟨Nat.le_refl _, Nat.le_refl _⟩ h.1 h.2
set_option maxHeartbeats 4000000 in
set_option maxRecDepth 100000 in
theorem b_Pa_isSign {G : XG} {S : XS} {I : XI} {v1 : Int} {R : Int → XI → Prop} (hS : xSh S)  (h : ((w32 (I c_parser 6) = w32 (3) → ((w32 (I c_parser 8) = w32 (v1) → R (1) I) ∧ (¬ (w32 (I c_parser 8) = w32 (v1)) → R (0) I))) ∧ (¬ (w32 (I c_parser 6) = w32 (3)) → R (0) I))) : Pa_isSign G S I v1 R := by
  refine x_start [some (vr G c_parser), some (vi (v1))] (by decide) (Nat.le_of_ble_eq_true rfl) rfl ?_
  refine x_aload_n (pc := 0) dX3_isSign_0 rfl rfl ?_
  refine x_getI (pc := 1) (i := c_parser) fl_X3_35 dX3_isSign_1 (sN_c_parser hS) (sT_c_parser hS) rfl ?_
  refine x_iconst (pc := 4) dX3_isSign_4 ?_
  refine x_icmp_ne (pc := 5) (t := 20) dX3_isSign_5 (by decide) (fun e => ?_) (fun e => ?_)
  · have h := h.1 e
    refine x_aload_n (pc := 8) dX3_isSign_8 rfl rfl ?_
    refine x_getI (pc := 9) (i := c_parser) fl_X3_41 dX3_isSign_9 (sN_c_parser hS) (sT_c_parser hS) rfl ?_
    refine x_iload_n (pc := 12) dX3_isSign_12 rfl rfl ?_
    refine x_icmp_ne (pc := 13) (t := 20) dX3_isSign_13 (by decide) (fun e => ?_) (fun e => ?_)
    · have h := h.1 e
      refine x_iconst (pc := 16) dX3_isSign_16 ?_
      refine x_goto (pc := 17) (t := 21) dX3_isSign_17 (by decide) ?_
      exact y_zret (pc := 21) dX3_isSign_21 rfl ⟨Nat.le_refl _, Nat.le_refl _⟩ (Or.inr rfl) h
    · have h := h.2 e
      refine x_iconst (pc := 20) dX3_isSign_20 ?_
      exact y_zret (pc := 21) dX3_isSign_21 rfl ⟨Nat.le_refl _, Nat.le_refl _⟩ (Or.inl rfl) h
  · have h := h.2 e
    refine x_iconst (pc := 20) dX3_isSign_20 ?_
    exact y_zret (pc := 21) dX3_isSign_21 rfl ⟨Nat.le_refl _, Nat.le_refl _⟩ (Or.inl rfl) h
set_option maxHeartbeats 4000000 in
set_option maxRecDepth 100000 in
theorem b_Pa_breakHere {G : XG} {S : XS} {I : XI}  {R : Int → XI → Prop} (hS : xSh S)  (h : (∀ I1 : XI, I1 = up I c_parser 1 (1) → (∀ I2 : XI, I2 = up I1 c_parser 2 (I1 c_parser 7) → R (0) I2))) : Pa_breakHere G S I  R := by
  refine x_start [some (vr G c_parser)] (by decide) (Nat.le_of_ble_eq_true rfl) rfl ?_
  refine x_aload_n (pc := 0) dX3_breakHere_0 rfl rfl ?_
  refine x_iconst (pc := 1) dX3_breakHere_1 ?_
  refine x_putI (pc := 2) (i := c_parser) fl_X3_18 dX3_breakHere_2 (sN_c_parser hS) (sT_c_parser hS) rfl ?_
  have h := h _ rfl
  generalize up I c_parser 1 (1) = I1 at h ⊢
  refine x_aload_n (pc := 5) dX3_breakHere_5 rfl rfl ?_
  refine x_aload_n (pc := 6) dX3_breakHere_6 rfl rfl ?_
  refine x_getI (pc := 7) (i := c_parser) fl_X3_38 dX3_breakHere_7 (sN_c_parser hS) (sT_c_parser hS) rfl ?_
  refine x_putI (pc := 10) (i := c_parser) fl_X3_22 dX3_breakHere_10 (sN_c_parser hS) (sT_c_parser hS) rfl ?_
  have h := h _ rfl
  generalize up I1 c_parser 2 (I1 c_parser 7) = I2 at h ⊢
  refine x_iconst (pc := 13) dX3_breakHere_13 ?_
  exact y_zret (pc := 14) dX3_breakHere_14 rfl ⟨Nat.le_refl _, Nat.le_refl _⟩ (Or.inl rfl) h
set_option maxHeartbeats 4000000 in
set_option maxRecDepth 100000 in
theorem b_Dr_keepLine {G : XG} {S : XS} {I : XI} {v1 : Int} {v2 : Int} {v3 : Int} {R : XI → Prop} (hS : xSh S)  (h : ((w32 (16) ≤ w32 (v1) → R I) ∧ (¬ (w32 (16) ≤ w32 (v1)) → (inb (v1) 16 ∧ (∀ I1 : XI, I1 = up I c_draft_deeds (ix (v1)) (v2) → (inb (v1) 16 ∧ (∀ I2 : XI, I2 = up I1 c_draft_numbers (ix (v1)) (v3) → R I2))))))) : Dr_keepLine G S I v1 v2 v3 R := by
  refine x_start [some (vr G c_draft), some (vi (v1)), some (vi (v2)), some (vi (v3))] (by decide) (Nat.le_of_ble_eq_true rfl) rfl ?_
  refine x_iload_n (pc := 0) dX5_keepLine_0 rfl rfl ?_
  refine x_bipush (pc := 1) dX5_keepLine_1 (by decide) ?_
  refine x_icmp_ge (pc := 3) (t := 20) dX5_keepLine_3 (by decide) (fun e => ?_) (fun e => ?_)
  · have h := h.1 e
    exact y_vret (pc := 20) dX5_keepLine_20 rfl ⟨Nat.le_refl _, Nat.le_refl _⟩ h
  · have h := h.2 e
    refine x_aload_n (pc := 6) dX5_keepLine_6 rfl rfl ?_
    refine x_getR (pc := 7) (i := c_draft) (a := c_draft_deeds) fl_X5_15 dX5_keepLine_7 (sN_c_draft hS) (sT_c_draft hS) rfl (sR_c_draft_1 hS) ?_
    refine x_iload_n (pc := 10) dX5_keepLine_10 rfl rfl ?_
    refine x_iload_n (pc := 11) dX5_keepLine_11 rfl rfl ?_
    refine y_iast (pc := 12) (i := c_draft_deeds) (n := 16) dX5_keepLine_12 (sN_c_draft_deeds hS) (sT_c_draft_deeds hS) (sL_c_draft_deeds hS) h.1 ?_
    have h := h.2
    have h := h _ rfl
    generalize up I c_draft_deeds (ix (v1)) (v2) = I1 at h ⊢
    refine x_aload_n (pc := 13) dX5_keepLine_13 rfl rfl ?_
    refine x_getR (pc := 14) (i := c_draft) (a := c_draft_numbers) fl_X5_19 dX5_keepLine_14 (sN_c_draft hS) (sT_c_draft hS) rfl (sR_c_draft_2 hS) ?_
    refine x_iload_n (pc := 17) dX5_keepLine_17 rfl rfl ?_
    refine x_iload_n (pc := 18) dX5_keepLine_18 rfl rfl ?_
    refine y_iast (pc := 19) (i := c_draft_numbers) (n := 16) dX5_keepLine_19 (sN_c_draft_numbers hS) (sT_c_draft_numbers hS) (sL_c_draft_numbers hS) h.1 ?_
    have h := h.2
    have h := h _ rfl
    generalize up I1 c_draft_numbers (ix (v1)) (v3) = I2 at h ⊢
    exact y_vret (pc := 20) dX5_keepLine_20 rfl ⟨Nat.le_refl _, Nat.le_refl _⟩ h
set_option maxHeartbeats 4000000 in
set_option maxRecDepth 100000 in
theorem b_Pa_subjectOfWord {G : XG} {S : XS} {I : XI}  {R : Int → XI → Prop} (hS : xSh S)  (h : Pa_subjectOfWord_k2 G S I (0) R) : Pa_subjectOfWord G S I  R := by
  refine x_start [some (vr G c_parser), none] (by decide) (Nat.le_of_ble_eq_true rfl) rfl ?_
  refine x_iconst (pc := 0) dX3_subjectOfWord_0 ?_
  refine x_istore_n (pc := 1) (L' := [some (vr G c_parser), some (vi (0))]) dX3_subjectOfWord_1 rfl (by decide) (xst1 rfl rfl rfl) ?_
  exact h
set_option maxHeartbeats 4000000 in
set_option maxRecDepth 100000 in
theorem b_Pa_subjectOfWord_k2 {G : XG} {S : XS}  {I : XI} {v1 : Int} {R : Int → XI → Prop} (hS : xSh S)  (h : ((w32 (10) ≤ w32 (v1) → R ((-1)) I) ∧ (¬ (w32 (10) ≤ w32 (v1)) → Pa_wordOf G S I (v1) (fun r2 I1 => Pa_isWord G S I1 (r2) (fun r4 I3 => ((w32 (r4) = 0 → Pa_subjectOfWord_k2 G S I3 (v1 + 1) R) ∧ (¬ (w32 (r4) = 0) → R (v1) I3))))))) : Pa_subjectOfWord_k2 G S  I v1 R := by
  unfold Pa_subjectOfWord_k2
  refine x_iload_n (pc := 2) dX3_subjectOfWord_2 rfl rfl ?_
  refine x_bipush (pc := 3) dX3_subjectOfWord_3 (by decide) ?_
  refine x_icmp_ge (pc := 5) (t := 27) dX3_subjectOfWord_5 (by decide) (fun e => ?_) (fun e => ?_)
  · have h := h.1 e
    refine x_iconst (pc := 27) dX3_subjectOfWord_27 ?_
    exact y_iret (pc := 28) dX3_subjectOfWord_28 rfl ⟨Nat.le_refl _, Nat.le_refl _⟩ h
  · have h := h.2 e
    refine x_aload_n (pc := 8) dX3_subjectOfWord_8 rfl rfl ?_
    refine x_iload_n (pc := 9) dX3_subjectOfWord_9 rfl rfl ?_
    refine y_Ss (pc := 10) (As := [vi (v1)]) (rest := [vr G c_parser]) ok_X3_wordOf ml_X3_132 dX3_subjectOfWord_10 rfl ⟨rfl, rfl⟩ ⟨by decide, by decide⟩ ⟨Nat.le_refl _, Nat.le_refl _⟩ (Nat.le_of_ble_eq_true rfl) rfl h (fun r2 I1 h => ?_)
    refine y_Vi (pc := 13) (i := c_parser) (As := [vs G r2]) (rest := []) ok_X3_isWord ml_X3_71 dX3_subjectOfWord_13 (sN_c_parser hS) (sT_c_parser hS) (by decide) rfl rfl rfl ⟨rfl, rfl⟩ ⟨by decide, by decide⟩ ⟨Nat.le_refl _, Nat.le_refl _⟩ (Nat.le_of_ble_eq_true rfl) rfl h (fun r4 I3 h => ?_)
    refine x_if_eq (pc := 16) (t := 21) dX3_subjectOfWord_16 (by decide) (fun e => ?_) (fun e => ?_)
    · have h := h.1 e
      refine x_iinc (pc := 21) (L' := [some (vr G c_parser), some (vi (v1 + 1))]) dX3_subjectOfWord_21 rfl (by decide) (xst1 rfl rfl rfl) ?_
      refine x_goto (pc := 24) (t := 2) dX3_subjectOfWord_24 (by decide) ?_
      exact h
    · have h := h.2 e
      refine x_iload_n (pc := 19) dX3_subjectOfWord_19 rfl rfl ?_
      exact y_iret (pc := 20) dX3_subjectOfWord_20 rfl ⟨Nat.le_refl _, Nat.le_refl _⟩ h
set_option maxHeartbeats 4000000 in
set_option maxRecDepth 100000 in
theorem b_Dr_keepTest {G : XG} {S : XS} {I : XI} {v1 : Int} {v2 : Int} {v3 : Int} {v4 : Int} {v5 : Int} {v6 : Int} {R : XI → Prop} (hS : xSh S)  (h : ((w32 (16) ≤ w32 (v1) → R I) ∧ (¬ (w32 (16) ≤ w32 (v1)) → ((w32 (4) ≤ w32 (v2) → R I) ∧ (¬ (w32 (4) ≤ w32 (v2)) → (inb (((v1) * (4)) + (v2)) 64 ∧ (∀ I1 : XI, I1 = up I c_draft_nots (ix (((v1) * (4)) + (v2))) (v3) → (inb (((v1) * (4)) + (v2)) 64 ∧ (∀ I2 : XI, I2 = up I1 c_draft_subjects (ix (((v1) * (4)) + (v2))) (v4) → (inb (((v1) * (4)) + (v2)) 64 ∧ (∀ I3 : XI, I3 = up I2 c_draft_signs (ix (((v1) * (4)) + (v2))) (v5) → (inb (((v1) * (4)) + (v2)) 64 ∧ (∀ I4 : XI, I4 = up I3 c_draft_bounds (ix (((v1) * (4)) + (v2))) (v6) → R I4))))))))))))) : Dr_keepTest G S I v1 v2 v3 v4 v5 v6 R := by
  refine x_start [some (vr G c_draft), some (vi (v1)), some (vi (v2)), some (vi (v3)), some (vi (v4)), some (vi (v5)), some (vi (v6)), none] (by decide) (Nat.le_of_ble_eq_true rfl) rfl ?_
  refine x_iload_n (pc := 0) dX5_keepTest_0 rfl rfl ?_
  refine x_bipush (pc := 1) dX5_keepTest_1 (by decide) ?_
  refine x_icmp_ge (pc := 3) (t := 53) dX5_keepTest_3 (by decide) (fun e => ?_) (fun e => ?_)
  · have h := h.1 e
    exact y_vret (pc := 53) dX5_keepTest_53 rfl ⟨Nat.le_refl _, Nat.le_refl _⟩ h
  · have h := h.2 e
    refine x_iload_n (pc := 6) dX5_keepTest_6 rfl rfl ?_
    refine x_iconst (pc := 7) dX5_keepTest_7 ?_
    refine x_icmp_ge (pc := 8) (t := 53) dX5_keepTest_8 (by decide) (fun e => ?_) (fun e => ?_)
    · have h := h.1 e
      exact y_vret (pc := 53) dX5_keepTest_53 rfl ⟨Nat.le_refl _, Nat.le_refl _⟩ h
    · have h := h.2 e
      refine x_iload_n (pc := 11) dX5_keepTest_11 rfl rfl ?_
      refine x_iconst (pc := 12) dX5_keepTest_12 ?_
      refine x_imul (pc := 13) dX5_keepTest_13 ?_
      refine x_iload_n (pc := 14) dX5_keepTest_14 rfl rfl ?_
      refine x_iadd (pc := 15) dX5_keepTest_15 ?_
      refine x_istore (pc := 16) (L' := [some (vr G c_draft), some (vi (v1)), some (vi (v2)), some (vi (v3)), some (vi (v4)), some (vi (v5)), some (vi (v6)), some (vi (((v1) * (4)) + (v2)))]) dX5_keepTest_16 (by decide) (xst1 rfl rfl rfl) ?_
      refine x_aload_n (pc := 18) dX5_keepTest_18 rfl rfl ?_
      refine x_getR (pc := 19) (i := c_draft) (a := c_draft_nots) fl_X5_25 dX5_keepTest_19 (sN_c_draft hS) (sT_c_draft hS) rfl (sR_c_draft_4 hS) ?_
      refine x_iload (pc := 22) dX5_keepTest_22 rfl ?_
      refine x_iload_n (pc := 24) dX5_keepTest_24 rfl rfl ?_
      refine y_iast (pc := 25) (i := c_draft_nots) (n := 64) dX5_keepTest_25 (sN_c_draft_nots hS) (sT_c_draft_nots hS) (sL_c_draft_nots hS) h.1 ?_
      have h := h.2
      have h := h _ rfl
      generalize up I c_draft_nots (ix (((v1) * (4)) + (v2))) (v3) = I1 at h ⊢
      refine x_aload_n (pc := 26) dX5_keepTest_26 rfl rfl ?_
      refine x_getR (pc := 27) (i := c_draft) (a := c_draft_subjects) fl_X5_28 dX5_keepTest_27 (sN_c_draft hS) (sT_c_draft hS) rfl (sR_c_draft_5 hS) ?_
      refine x_iload (pc := 30) dX5_keepTest_30 rfl ?_
      refine x_iload (pc := 32) dX5_keepTest_32 rfl ?_
      refine y_iast (pc := 34) (i := c_draft_subjects) (n := 64) dX5_keepTest_34 (sN_c_draft_subjects hS) (sT_c_draft_subjects hS) (sL_c_draft_subjects hS) h.1 ?_
      have h := h.2
      have h := h _ rfl
      generalize up I1 c_draft_subjects (ix (((v1) * (4)) + (v2))) (v4) = I2 at h ⊢
      refine x_aload_n (pc := 35) dX5_keepTest_35 rfl rfl ?_
      refine x_getR (pc := 36) (i := c_draft) (a := c_draft_signs) fl_X5_31 dX5_keepTest_36 (sN_c_draft hS) (sT_c_draft hS) rfl (sR_c_draft_6 hS) ?_
      refine x_iload (pc := 39) dX5_keepTest_39 rfl ?_
      refine x_iload (pc := 41) dX5_keepTest_41 rfl ?_
      refine y_iast (pc := 43) (i := c_draft_signs) (n := 64) dX5_keepTest_43 (sN_c_draft_signs hS) (sT_c_draft_signs hS) (sL_c_draft_signs hS) h.1 ?_
      have h := h.2
      have h := h _ rfl
      generalize up I2 c_draft_signs (ix (((v1) * (4)) + (v2))) (v5) = I3 at h ⊢
      refine x_aload_n (pc := 44) dX5_keepTest_44 rfl rfl ?_
      refine x_getR (pc := 45) (i := c_draft) (a := c_draft_bounds) fl_X5_34 dX5_keepTest_45 (sN_c_draft hS) (sT_c_draft hS) rfl (sR_c_draft_7 hS) ?_
      refine x_iload (pc := 48) dX5_keepTest_48 rfl ?_
      refine x_iload (pc := 50) dX5_keepTest_50 rfl ?_
      refine y_iast (pc := 52) (i := c_draft_bounds) (n := 64) dX5_keepTest_52 (sN_c_draft_bounds hS) (sT_c_draft_bounds hS) (sL_c_draft_bounds hS) h.1 ?_
      have h := h.2
      have h := h _ rfl
      generalize up I3 c_draft_bounds (ix (((v1) * (4)) + (v2))) (v6) = I4 at h ⊢
      exact y_vret (pc := 53) dX5_keepTest_53 rfl ⟨Nat.le_refl _, Nat.le_refl _⟩ h
set_option maxHeartbeats 4000000 in
set_option maxRecDepth 100000 in
theorem b_Pa_wordOf {G : XG} {S : XS} {I : XI} {v0 : Int} {R : Nat → XI → Prop} (hS : xSh S)  (h : ((w32 (v0) = 0 → R 2 I) ∧ (w32 (v0) = 1 → R 3 I) ∧ (w32 (v0) = 2 → R 4 I) ∧ (w32 (v0) = 3 → R 5 I) ∧ (w32 (v0) = 4 → R 6 I) ∧ (w32 (v0) = 5 → R 7 I) ∧ (w32 (v0) = 6 → R 8 I) ∧ (w32 (v0) = 7 → R 9 I) ∧ (w32 (v0) = 8 → R 10 I) ∧ ((w32 (v0) < 0 ∨ 8 < w32 (v0)) → R 11 I))) : Pa_wordOf G S I v0 R := by
  refine x_start [some (vi (v0))] (by decide) (Nat.le_of_ble_eq_true rfl) rfl ?_
  refine x_iload_n (pc := 0) dX3_wordOf_0 rfl rfl ?_
  by_cases e0 : w32 (v0) = 0
  · have h := h.1 e0
    refine x_tabIn (pc := 1) (off := 51) (t := 52) dX3_wordOf_1 0 e0 (by decide) (by decide) rfl (by decide) ?_
    refine x_ldcS (pc := 52) (q := 2) dX3_wordOf_52 (by decide) rfl rfl ?_
    exact y_sret (pc := 54) dX3_wordOf_54 rfl ⟨Nat.le_refl _, Nat.le_refl _⟩ h
  by_cases e1 : w32 (v0) = 1
  · have h := h.2.1 e1
    refine x_tabIn (pc := 1) (off := 54) (t := 55) dX3_wordOf_1 1 e1 (by decide) (by decide) rfl (by decide) ?_
    refine x_ldcS (pc := 55) (q := 3) dX3_wordOf_55 (by decide) rfl rfl ?_
    exact y_sret (pc := 57) dX3_wordOf_57 rfl ⟨Nat.le_refl _, Nat.le_refl _⟩ h
  by_cases e2 : w32 (v0) = 2
  · have h := h.2.2.1 e2
    refine x_tabIn (pc := 1) (off := 57) (t := 58) dX3_wordOf_1 2 e2 (by decide) (by decide) rfl (by decide) ?_
    refine x_ldcS (pc := 58) (q := 4) dX3_wordOf_58 (by decide) rfl rfl ?_
    exact y_sret (pc := 60) dX3_wordOf_60 rfl ⟨Nat.le_refl _, Nat.le_refl _⟩ h
  by_cases e3 : w32 (v0) = 3
  · have h := h.2.2.2.1 e3
    refine x_tabIn (pc := 1) (off := 60) (t := 61) dX3_wordOf_1 3 e3 (by decide) (by decide) rfl (by decide) ?_
    refine x_ldcS (pc := 61) (q := 5) dX3_wordOf_61 (by decide) rfl rfl ?_
    exact y_sret (pc := 63) dX3_wordOf_63 rfl ⟨Nat.le_refl _, Nat.le_refl _⟩ h
  by_cases e4 : w32 (v0) = 4
  · have h := h.2.2.2.2.1 e4
    refine x_tabIn (pc := 1) (off := 63) (t := 64) dX3_wordOf_1 4 e4 (by decide) (by decide) rfl (by decide) ?_
    refine x_ldcS (pc := 64) (q := 6) dX3_wordOf_64 (by decide) rfl rfl ?_
    exact y_sret (pc := 66) dX3_wordOf_66 rfl ⟨Nat.le_refl _, Nat.le_refl _⟩ h
  by_cases e5 : w32 (v0) = 5
  · have h := h.2.2.2.2.2.1 e5
    refine x_tabIn (pc := 1) (off := 66) (t := 67) dX3_wordOf_1 5 e5 (by decide) (by decide) rfl (by decide) ?_
    refine x_ldcS (pc := 67) (q := 7) dX3_wordOf_67 (by decide) rfl rfl ?_
    exact y_sret (pc := 69) dX3_wordOf_69 rfl ⟨Nat.le_refl _, Nat.le_refl _⟩ h
  by_cases e6 : w32 (v0) = 6
  · have h := h.2.2.2.2.2.2.1 e6
    refine x_tabIn (pc := 1) (off := 69) (t := 70) dX3_wordOf_1 6 e6 (by decide) (by decide) rfl (by decide) ?_
    refine x_ldcS (pc := 70) (q := 8) dX3_wordOf_70 (by decide) rfl rfl ?_
    exact y_sret (pc := 72) dX3_wordOf_72 rfl ⟨Nat.le_refl _, Nat.le_refl _⟩ h
  by_cases e7 : w32 (v0) = 7
  · have h := h.2.2.2.2.2.2.2.1 e7
    refine x_tabIn (pc := 1) (off := 72) (t := 73) dX3_wordOf_1 7 e7 (by decide) (by decide) rfl (by decide) ?_
    refine x_ldcS (pc := 73) (q := 9) dX3_wordOf_73 (by decide) rfl rfl ?_
    exact y_sret (pc := 75) dX3_wordOf_75 rfl ⟨Nat.le_refl _, Nat.le_refl _⟩ h
  by_cases e8 : w32 (v0) = 8
  · have h := h.2.2.2.2.2.2.2.2.1 e8
    refine x_tabIn (pc := 1) (off := 75) (t := 76) dX3_wordOf_1 8 e8 (by decide) (by decide) rfl (by decide) ?_
    refine x_ldcS (pc := 76) (q := 10) dX3_wordOf_76 (by decide) rfl rfl ?_
    exact y_sret (pc := 78) dX3_wordOf_78 rfl ⟨Nat.le_refl _, Nat.le_refl _⟩ h
  have hd9 : w32 (v0) < 0 ∨ 8 < w32 (v0) := by omega
  have h := h.2.2.2.2.2.2.2.2.2 hd9
  refine x_tabOut (pc := 1) (t := 79) dX3_wordOf_1 hd9 (by decide) ?_
  refine x_ldcS (pc := 79) (q := 11) dX3_wordOf_79 (by decide) rfl rfl ?_
  exact y_sret (pc := 81) dX3_wordOf_81 rfl ⟨Nat.le_refl _, Nat.le_refl _⟩ h
