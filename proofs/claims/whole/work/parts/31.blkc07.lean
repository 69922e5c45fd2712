set_option maxHeartbeats 4000000 in
set_option maxRecDepth 100000 in
theorem b_La_grassOfWeek_k14 {G : XG} {S : XS}  {I : XI} {v1 : Int} {v2 : Int} {v5 : Int} {R : XI → Prop} (hS : xSh S)  (h : ((w32 (I c_land 3) ≤ w32 (v5) → R I) ∧ (¬ (w32 (I c_land 3) ≤ w32 (v5)) → (inb (v5) 60 ∧ (inb (v5) 60 ∧ ((w32 (v2) < w32 (I c_land_grassTold (ix (v5))) → La_grassOfWeek_k14 G S I (v1) (v2) (v5 + 1) R) ∧ (¬ (w32 (v2) < w32 (I c_land_grassTold (ix (v5)))) → (inb (v5) 60 ∧ ((w32 (v1) < w32 (I c_land_grassWeeks (ix (v5))) → La_grassOfWeek_k14 G S I (v1) (v2) (v5 + 1) R) ∧ (¬ (w32 (v1) < w32 (I c_land_grassWeeks (ix (v5)))) → (inb (v5) 60 ∧ (inb (I c_land_grassCells (ix (v5))) 10 ∧ ((w32 (I c_land_grassWeeks (ix (v5))) < w32 (I c_now_rests (ix (I c_land_grassCells (ix (v5))))) → La_grassOfWeek_k14 G S I (v1) (v2) (v5 + 1) R) ∧ (¬ (w32 (I c_land_grassWeeks (ix (v5))) < w32 (I c_now_rests (ix (I c_land_grassCells (ix (v5)))))) → (inb (v5) 60 ∧ (inb (I c_land_grassCells (ix (v5))) 10 ∧ (∀ I3 : XI, I3 = up I c_now_rests (ix (I c_land_grassCells (ix (v5)))) (I c_land_grassWeeks (ix (v5))) → (inb (v5) 60 ∧ (inb (I c_land_grassCells (ix (v5))) 10 ∧ (∀ I4 : XI, I4 = up I3 c_now_grass (ix (I c_land_grassCells (ix (v5)))) (I3 c_land_grassNumbers (ix (v5))) → La_grassOfWeek_k14 G S I4 (v1) (v2) (v5 + 1) R)))))))))))))))))))) : La_grassOfWeek_k14 G S  I v1 v2 v5 R := by
  unfold La_grassOfWeek_k14
  refine x_iload (pc := 14) dX2_grassOfWeek_14 rfl ?_
  refine x_aload_n (pc := 16) dX2_grassOfWeek_16 rfl rfl ?_
  refine x_getI (pc := 17) (i := c_land) fl_X2_22 dX2_grassOfWeek_17 (sN_c_land hS) (sT_c_land hS) rfl ?_
  refine x_icmp_ge (pc := 20) (t := 98) dX2_grassOfWeek_20 (by decide) (fun e => ?_) (fun e => ?_)
  · have h := h.1 e
    exact y_vret (pc := 98) dX2_grassOfWeek_98 rfl ⟨Nat.le_refl _, Nat.le_refl _⟩ h
  · have h := h.2 e
    refine x_aload_n (pc := 23) dX2_grassOfWeek_23 rfl rfl ?_
    refine x_getR (pc := 24) (i := c_land) (a := c_land_grassCells) fl_X2_25 dX2_grassOfWeek_24 (sN_c_land hS) (sT_c_land hS) rfl (sR_c_land_4 hS) ?_
    refine x_iload (pc := 27) dX2_grassOfWeek_27 rfl ?_
    refine y_iald (pc := 29) (i := c_land_grassCells) (n := 60) dX2_grassOfWeek_29 (sN_c_land_grassCells hS) (sT_c_land_grassCells hS) (sL_c_land_grassCells hS) h.1 ?_
    have h := h.2
    refine x_istore (pc := 30) (L' := [some (vr G c_land), some (vi (v1)), some (vi (v2)), some (vr G c_now_grass), some (vr G c_now_rests), some (vi (v5)), some (vi (I c_land_grassCells (ix (v5))))]) dX2_grassOfWeek_30 (by decide) (xst1 rfl rfl rfl) ?_
    refine x_aload_n (pc := 32) dX2_grassOfWeek_32 rfl rfl ?_
    refine x_getR (pc := 33) (i := c_land) (a := c_land_grassTold) fl_X2_34 dX2_grassOfWeek_33 (sN_c_land hS) (sT_c_land hS) rfl (sR_c_land_7 hS) ?_
    refine x_iload (pc := 36) dX2_grassOfWeek_36 rfl ?_
    refine y_iald (pc := 38) (i := c_land_grassTold) (n := 60) dX2_grassOfWeek_38 (sN_c_land_grassTold hS) (sT_c_land_grassTold hS) (sL_c_land_grassTold hS) h.1 ?_
    have h := h.2
    refine x_iload_n (pc := 39) dX2_grassOfWeek_39 rfl rfl ?_
    refine x_icmp_gt (pc := 40) (t := 92) dX2_grassOfWeek_40 (by decide) (fun e => ?_) (fun e => ?_)
    · have h := h.1 e
      refine x_iinc (pc := 92) (L' := [some (vr G c_land), some (vi (v1)), some (vi (v2)), some (vr G c_now_grass), some (vr G c_now_rests), some (vi (v5 + 1)), some (vi (I c_land_grassCells (ix (v5))))]) dX2_grassOfWeek_92 rfl (by decide) (xst1 rfl rfl rfl) ?_
      refine x_goto (pc := 95) (t := 14) dX2_grassOfWeek_95 (by decide) ?_
      refine x_less (L' := [some (vr G c_land), some (vi (v1)), some (vi (v2)), some (vr G c_now_grass), some (vr G c_now_rests), some (vi (v5 + 1)), none]) (And.intro rfl (And.intro rfl (And.intro rfl (And.intro rfl (And.intro rfl (And.intro rfl trivial)))))) ?_
      exact h
    · have h := h.2 e
      refine x_aload_n (pc := 43) dX2_grassOfWeek_43 rfl rfl ?_
      refine x_getR (pc := 44) (i := c_land) (a := c_land_grassWeeks) fl_X2_28 dX2_grassOfWeek_44 (sN_c_land hS) (sT_c_land hS) rfl (sR_c_land_5 hS) ?_
      refine x_iload (pc := 47) dX2_grassOfWeek_47 rfl ?_
      refine y_iald (pc := 49) (i := c_land_grassWeeks) (n := 60) dX2_grassOfWeek_49 (sN_c_land_grassWeeks hS) (sT_c_land_grassWeeks hS) (sL_c_land_grassWeeks hS) h.1 ?_
      have h := h.2
      refine x_iload_n (pc := 50) dX2_grassOfWeek_50 rfl rfl ?_
      refine x_icmp_gt (pc := 51) (t := 92) dX2_grassOfWeek_51 (by decide) (fun e => ?_) (fun e => ?_)
      · have h := h.1 e
        refine x_iinc (pc := 92) (L' := [some (vr G c_land), some (vi (v1)), some (vi (v2)), some (vr G c_now_grass), some (vr G c_now_rests), some (vi (v5 + 1)), some (vi (I c_land_grassCells (ix (v5))))]) dX2_grassOfWeek_92 rfl (by decide) (xst1 rfl rfl rfl) ?_
        refine x_goto (pc := 95) (t := 14) dX2_grassOfWeek_95 (by decide) ?_
        refine x_less (L' := [some (vr G c_land), some (vi (v1)), some (vi (v2)), some (vr G c_now_grass), some (vr G c_now_rests), some (vi (v5 + 1)), none]) (And.intro rfl (And.intro rfl (And.intro rfl (And.intro rfl (And.intro rfl (And.intro rfl trivial)))))) ?_
        exact h
      · have h := h.2 e
        refine x_aload_n (pc := 54) dX2_grassOfWeek_54 rfl rfl ?_
        refine x_getR (pc := 55) (i := c_land) (a := c_land_grassWeeks) fl_X2_28 dX2_grassOfWeek_55 (sN_c_land hS) (sT_c_land hS) rfl (sR_c_land_5 hS) ?_
        refine x_iload (pc := 58) dX2_grassOfWeek_58 rfl ?_
        refine y_iald (pc := 60) (i := c_land_grassWeeks) (n := 60) dX2_grassOfWeek_60 (sN_c_land_grassWeeks hS) (sT_c_land_grassWeeks hS) (sL_c_land_grassWeeks hS) h.1 ?_
        have h := h.2
        refine x_aload (pc := 61) dX2_grassOfWeek_61 rfl ?_
        refine x_iload (pc := 63) dX2_grassOfWeek_63 rfl ?_
        refine y_iald (pc := 65) (i := c_now_rests) (n := 10) dX2_grassOfWeek_65 (sN_c_now_rests hS) (sT_c_now_rests hS) (sL_c_now_rests hS) h.1 ?_
        have h := h.2
        refine x_icmp_lt (pc := 66) (t := 92) dX2_grassOfWeek_66 (by decide) (fun e => ?_) (fun e => ?_)
        · have h := h.1 e
          refine x_iinc (pc := 92) (L' := [some (vr G c_land), some (vi (v1)), some (vi (v2)), some (vr G c_now_grass), some (vr G c_now_rests), some (vi (v5 + 1)), some (vi (I c_land_grassCells (ix (v5))))]) dX2_grassOfWeek_92 rfl (by decide) (xst1 rfl rfl rfl) ?_
          refine x_goto (pc := 95) (t := 14) dX2_grassOfWeek_95 (by decide) ?_
          refine x_less (L' := [some (vr G c_land), some (vi (v1)), some (vi (v2)), some (vr G c_now_grass), some (vr G c_now_rests), some (vi (v5 + 1)), none]) (And.intro rfl (And.intro rfl (And.intro rfl (And.intro rfl (And.intro rfl (And.intro rfl trivial)))))) ?_
          exact h
        · have h := h.2 e
          refine x_aload (pc := 69) dX2_grassOfWeek_69 rfl ?_
          refine x_iload (pc := 71) dX2_grassOfWeek_71 rfl ?_
          refine x_aload_n (pc := 73) dX2_grassOfWeek_73 rfl rfl ?_
          refine x_getR (pc := 74) (i := c_land) (a := c_land_grassWeeks) fl_X2_28 dX2_grassOfWeek_74 (sN_c_land hS) (sT_c_land hS) rfl (sR_c_land_5 hS) ?_
          refine x_iload (pc := 77) dX2_grassOfWeek_77 rfl ?_
          refine y_iald (pc := 79) (i := c_land_grassWeeks) (n := 60) dX2_grassOfWeek_79 (sN_c_land_grassWeeks hS) (sT_c_land_grassWeeks hS) (sL_c_land_grassWeeks hS) h.1 ?_
          have h := h.2
          refine y_iast (pc := 80) (i := c_now_rests) (n := 10) dX2_grassOfWeek_80 (sN_c_now_rests hS) (sT_c_now_rests hS) (sL_c_now_rests hS) h.1 ?_
          have h := h.2
          have h := h _ rfl
          generalize up I c_now_rests (ix (I c_land_grassCells (ix (v5)))) (I c_land_grassWeeks (ix (v5))) = I3 at h ⊢
          refine x_aload_n (pc := 81) dX2_grassOfWeek_81 rfl rfl ?_
          refine x_iload (pc := 82) dX2_grassOfWeek_82 rfl ?_
          refine x_aload_n (pc := 84) dX2_grassOfWeek_84 rfl rfl ?_
          refine x_getR (pc := 85) (i := c_land) (a := c_land_grassNumbers) fl_X2_31 dX2_grassOfWeek_85 (sN_c_land hS) (sT_c_land hS) rfl (sR_c_land_6 hS) ?_
          refine x_iload (pc := 88) dX2_grassOfWeek_88 rfl ?_
          refine y_iald (pc := 90) (i := c_land_grassNumbers) (n := 60) dX2_grassOfWeek_90 (sN_c_land_grassNumbers hS) (sT_c_land_grassNumbers hS) (sL_c_land_grassNumbers hS) h.1 ?_
          have h := h.2
          refine y_iast (pc := 91) (i := c_now_grass) (n := 10) dX2_grassOfWeek_91 (sN_c_now_grass hS) (sT_c_now_grass hS) (sL_c_now_grass hS) h.1 ?_
          have h := h.2
          have h := h _ rfl
          generalize up I3 c_now_grass (ix (I c_land_grassCells (ix (v5)))) (I3 c_land_grassNumbers (ix (v5))) = I4 at h ⊢
          refine x_iinc (pc := 92) (L' := [some (vr G c_land), some (vi (v1)), some (vi (v2)), some (vr G c_now_grass), some (vr G c_now_rests), some (vi (v5 + 1)), some (vi (I c_land_grassCells (ix (v5))))]) dX2_grassOfWeek_92 rfl (by decide) (xst1 rfl rfl rfl) ?_
          refine x_goto (pc := 95) (t := 14) dX2_grassOfWeek_95 (by decide) ?_
          refine x_less (L' := [some (vr G c_land), some (vi (v1)), some (vi (v2)), some (vr G c_now_grass), some (vr G c_now_rests), some (vi (v5 + 1)), none]) (And.intro rfl (And.intro rfl (And.intro rfl (And.intro rfl (And.intro rfl (And.intro rfl trivial)))))) ?_
          exact h
set_option maxHeartbeats 4000000 in
set_option maxRecDepth 100000 in
theorem b_Wn_weighGrass {G : XG} {S : XS} {I : XI} {v2 : Int} {R : Int → XI → Prop} (hS : xSh S)  (h : Wn_weighGrass_k5 G S I (v2) (0) (0) R) : Wn_weighGrass G S I v2 R := by
  refine x_start [some (vr G c_now), some (vr G c_land), some (vi (v2)), none, none, none] (by decide) (Nat.le_of_ble_eq_true rfl) rfl ?_
  refine x_iconst (pc := 0) dX9_weighGrass_0 ?_
  refine x_istore_n (pc := 1) (L' := [some (vr G c_now), some (vr G c_land), some (vi (v2)), some (vi (0)), none, none]) dX9_weighGrass_1 rfl (by decide) (xst1 rfl rfl rfl) ?_
  refine x_iconst (pc := 2) dX9_weighGrass_2 ?_
  refine x_istore (pc := 3) (L' := [some (vr G c_now), some (vr G c_land), some (vi (v2)), some (vi (0)), some (vi (0)), none]) dX9_weighGrass_3 (by decide) (xst1 rfl rfl rfl) ?_
  exact h
set_option maxHeartbeats 4000000 in
set_option maxRecDepth 100000 in
theorem b_Wn_weighGrass_k5 {G : XG} {S : XS}  {I : XI} {v2 : Int} {v3 : Int} {v4 : Int} {R : Int → XI → Prop} (hS : xSh S)  (h : ((w32 (10) ≤ w32 (v4) → R (v3) I) ∧ (¬ (w32 (10) ≤ w32 (v4)) → ((w32 (v4) = w32 (v2) → Wn_weighGrass_k38 G S I (v2) (v3) (v4) (1) R) ∧ (¬ (w32 (v4) = w32 (v2)) → (inb (((v2) * (10)) + (v4)) 100 ∧ ((w32 (I c_land_ways (ix (((v2) * (10)) + (v4)))) ≤ 0 → Wn_weighGrass_k38 G S I (v2) (v3) (v4) (0) R) ∧ (¬ (w32 (I c_land_ways (ix (((v2) * (10)) + (v4)))) ≤ 0) → Wn_weighGrass_k38 G S I (v2) (v3) (v4) (1) R)))))))) : Wn_weighGrass_k5 G S  I v2 v3 v4 R := by
  unfold Wn_weighGrass_k5
  refine x_iload (pc := 5) dX9_weighGrass_5 rfl ?_
  refine x_bipush (pc := 7) dX9_weighGrass_7 (by decide) ?_
  refine x_icmp_ge (pc := 9) (t := 79) dX9_weighGrass_9 (by decide) (fun e => ?_) (fun e => ?_)
  · have h := h.1 e
    refine x_iload_n (pc := 79) dX9_weighGrass_79 rfl rfl ?_
    exact y_iret (pc := 80) dX9_weighGrass_80 rfl ⟨Nat.le_refl _, Nat.le_refl _⟩ h
  · have h := h.2 e
    refine x_iload (pc := 12) dX9_weighGrass_12 rfl ?_
    refine x_iload_n (pc := 14) dX9_weighGrass_14 rfl rfl ?_
    refine x_icmp_eq (pc := 15) (t := 33) dX9_weighGrass_15 (by decide) (fun e => ?_) (fun e => ?_)
    · have h := h.1 e
      refine x_iconst (pc := 33) dX9_weighGrass_33 ?_
      refine x_goto (pc := 34) (t := 38) dX9_weighGrass_34 (by decide) ?_
      exact h
    · have h := h.2 e
      refine x_aload_n (pc := 18) dX9_weighGrass_18 rfl rfl ?_
      refine x_getR (pc := 19) (i := c_land) (a := c_land_ways) fl_X9_114 dX9_weighGrass_19 (sN_c_land hS) (sT_c_land hS) rfl (sR_c_land_2 hS) ?_
      refine x_iload_n (pc := 22) dX9_weighGrass_22 rfl rfl ?_
      refine x_bipush (pc := 23) dX9_weighGrass_23 (by decide) ?_
      refine x_imul (pc := 25) dX9_weighGrass_25 ?_
      refine x_iload (pc := 26) dX9_weighGrass_26 rfl ?_
      refine x_iadd (pc := 28) dX9_weighGrass_28 ?_
      refine y_iald (pc := 29) (i := c_land_ways) (n := 100) dX9_weighGrass_29 (sN_c_land_ways hS) (sT_c_land_ways hS) (sL_c_land_ways hS) h.1 ?_
      have h := h.2
      refine x_if_le (pc := 30) (t := 37) dX9_weighGrass_30 (by decide) (fun e => ?_) (fun e => ?_)
      · have h := h.1 e
        refine x_iconst (pc := 37) dX9_weighGrass_37 ?_
        exact h
      · have h := h.2 e
        refine x_iconst (pc := 33) dX9_weighGrass_33 ?_
        refine x_goto (pc := 34) (t := 38) dX9_weighGrass_34 (by decide) ?_
        exact h
set_option maxHeartbeats 4000000 in
set_option maxRecDepth 100000 in
theorem b_Wn_weighGrass_k38 {G : XG} {S : XS}  {I : XI} {v2 : Int} {v3 : Int} {v4 : Int} {s0 : Int} {R : Int → XI → Prop} (hS : xSh S)  (h : ((w32 (s0) = 0 → Wn_weighGrass_k62 G S I (v2) (v3) (v4) (0) (v4) R) ∧ (¬ (w32 (s0) = 0) → (inb (v4) 10 ∧ Wn_weighGrass_k62 G S I (v2) (v3) (v4) (I c_now_grass (ix (v4))) (v4) R)))) : Wn_weighGrass_k38 G S  I v2 v3 v4 s0 R := by
  unfold Wn_weighGrass_k38
  refine x_istore (pc := 38) (L' := [some (vr G c_now), some (vr G c_land), some (vi (v2)), some (vi (v3)), some (vi (v4)), some (vi (s0))]) dX9_weighGrass_38 (by decide) (xst1 rfl rfl rfl) ?_
  refine x_aload_n (pc := 40) dX9_weighGrass_40 rfl rfl ?_
  refine x_getR (pc := 41) (i := c_now) (a := c_now_weights) fl_X9_24 dX9_weighGrass_41 (sN_c_now hS) (sT_c_now hS) rfl (sR_c_now_4 hS) ?_
  refine x_iload (pc := 44) dX9_weighGrass_44 rfl ?_
  refine x_iload (pc := 46) dX9_weighGrass_46 rfl ?_
  refine x_if_eq (pc := 48) (t := 61) dX9_weighGrass_48 (by decide) (fun e => ?_) (fun e => ?_)
  · have h := h.1 e
    refine x_iconst (pc := 61) dX9_weighGrass_61 ?_
    refine x_less (L' := [some (vr G c_now), some (vr G c_land), some (vi (v2)), some (vi (v3)), some (vi (v4)), none]) (And.intro rfl (And.intro rfl (And.intro rfl (And.intro rfl (And.intro rfl trivial))))) ?_
    exact h
  · have h := h.2 e
    refine x_aload_n (pc := 51) dX9_weighGrass_51 rfl rfl ?_
    refine x_getR (pc := 52) (i := c_now) (a := c_now_grass) fl_X9_21 dX9_weighGrass_52 (sN_c_now hS) (sT_c_now hS) rfl (sR_c_now_3 hS) ?_
    refine x_iload (pc := 55) dX9_weighGrass_55 rfl ?_
    refine y_iald (pc := 57) (i := c_now_grass) (n := 10) dX9_weighGrass_57 (sN_c_now_grass hS) (sT_c_now_grass hS) (sL_c_now_grass hS) h.1 ?_
    have h := h.2
    refine x_goto (pc := 58) (t := 62) dX9_weighGrass_58 (by decide) ?_
    refine x_less (L' := [some (vr G c_now), some (vr G c_land), some (vi (v2)), some (vi (v3)), some (vi (v4)), none]) (And.intro rfl (And.intro rfl (And.intro rfl (And.intro rfl (And.intro rfl trivial))))) ?_
    exact h
set_option maxHeartbeats 4000000 in
set_option maxRecDepth 100000 in
theorem b_Wn_weighGrass_k62 {G : XG} {S : XS}  {I : XI} {v2 : Int} {v3 : Int} {v4 : Int} {s0 : Int} {s1 : Int} {R : Int → XI → Prop} (hS : xSh S)  (h : (inb (s1) 10 ∧ (∀ I1 : XI, I1 = up I c_now_weights (ix (s1)) (s0) → (inb (v4) 10 ∧ Wn_weighGrass_k5 G S I1 (v2) ((v3) + (I1 c_now_weights (ix (v4)))) (v4 + 1) R)))) : Wn_weighGrass_k62 G S  I v2 v3 v4 s0 s1 R := by
  unfold Wn_weighGrass_k62
  refine y_iast (pc := 62) (i := c_now_weights) (n := 10) dX9_weighGrass_62 (sN_c_now_weights hS) (sT_c_now_weights hS) (sL_c_now_weights hS) h.1 ?_
  have h := h.2
  have h := h _ rfl
  generalize up I c_now_weights (ix (s1)) (s0) = I1 at h ⊢
  refine x_iload_n (pc := 63) dX9_weighGrass_63 rfl rfl ?_
  refine x_aload_n (pc := 64) dX9_weighGrass_64 rfl rfl ?_
  refine x_getR (pc := 65) (i := c_now) (a := c_now_weights) fl_X9_24 dX9_weighGrass_65 (sN_c_now hS) (sT_c_now hS) rfl (sR_c_now_4 hS) ?_
  refine x_iload (pc := 68) dX9_weighGrass_68 rfl ?_
  refine y_iald (pc := 70) (i := c_now_weights) (n := 10) dX9_weighGrass_70 (sN_c_now_weights hS) (sT_c_now_weights hS) (sL_c_now_weights hS) h.1 ?_
  have h := h.2
  refine x_iadd (pc := 71) dX9_weighGrass_71 ?_
  refine x_istore_n (pc := 72) (L' := [some (vr G c_now), some (vr G c_land), some (vi (v2)), some (vi ((v3) + (I1 c_now_weights (ix (v4))))), some (vi (v4)), none]) dX9_weighGrass_72 rfl (by decide) (xst1 rfl rfl rfl) ?_
  refine x_iinc (pc := 73) (L' := [some (vr G c_now), some (vr G c_land), some (vi (v2)), some (vi ((v3) + (I1 c_now_weights (ix (v4))))), some (vi (v4 + 1)), none]) dX9_weighGrass_73 rfl (by decide) (xst1 rfl rfl rfl) ?_
  refine x_goto (pc := 76) (t := 5) dX9_weighGrass_76 (by decide) ?_
  exact h
set_option maxHeartbeats 4000000 in
set_option maxRecDepth 100000 in
theorem b_Wn_share {G : XG} {S : XS} {I : XI} {v1 : Int} {v2 : Int} {v3 : Int} {R : Int → XI → Prop} (hS : xSh S)  (h : ((0 < w32 (v2) → Wn_share_k12 G S I (v1) (v2) (v3) (v1) (0) R) ∧ (¬ (0 < w32 (v2)) → R (0) I))) : Wn_share G S I v1 v2 v3 R := by
  refine x_start [some (vr G c_now), some (vi (v1)), some (vi (v2)), some (vi (v3)), none, none, none, none, none] (by decide) (Nat.le_of_ble_eq_true rfl) rfl ?_
  refine x_iload_n (pc := 0) dX9_share_0 rfl rfl ?_
  refine x_if_gt (pc := 1) (t := 6) dX9_share_1 (by decide) (fun e => ?_) (fun e => ?_)
  · have h := h.1 e
    refine x_iload_n (pc := 6) dX9_share_6 rfl rfl ?_
    refine x_istore (pc := 7) (L' := [some (vr G c_now), some (vi (v1)), some (vi (v2)), some (vi (v3)), some (vi (v1)), none, none, none, none]) dX9_share_7 (by decide) (xst1 rfl rfl rfl) ?_
    refine x_iconst (pc := 9) dX9_share_9 ?_
    refine x_istore (pc := 10) (L' := [some (vr G c_now), some (vi (v1)), some (vi (v2)), some (vi (v3)), some (vi (v1)), some (vi (0)), none, none, none]) dX9_share_10 (by decide) (xst1 rfl rfl rfl) ?_
    exact h
  · have h := h.2 e
    refine x_iconst (pc := 4) dX9_share_4 ?_
    exact y_zret (pc := 5) dX9_share_5 rfl ⟨Nat.le_refl _, Nat.le_refl _⟩ (Or.inl rfl) h
set_option maxHeartbeats 4000000 in
set_option maxRecDepth 100000 in
theorem b_Wn_share_k12 {G : XG} {S : XS}  {I : XI} {v1 : Int} {v2 : Int} {v3 : Int} {v4 : Int} {v5 : Int} {R : Int → XI → Prop} (hS : xSh S)  (h : ((w32 (10) ≤ w32 (v5) → Wn_share_k83 G S I (v3) (v4) (0) R) ∧ (¬ (w32 (10) ≤ w32 (v5)) → (inb (v5) 10 ∧ (w64 (w32 (v2)) ≠ 0 ∧ (w64 (w32 (v2)) ≠ 0 ∧ (inb (v5) 10 ∧ (∀ I1 : XI, I1 = up I c_now_rests (ix (v5)) (lrem ((w32 (v1)) * (w32 (I c_now_weights (ix (v5))))) (w32 (v2))) → (inb ((v3) + (v5)) 6000 ∧ (inb ((v3) + (v5)) 6000 ∧ (∀ I2 : XI, I2 = up I1 c_now_parts (ix ((v3) + (v5))) ((I1 c_now_parts (ix ((v3) + (v5)))) + (ldiv ((w32 (v1)) * (w32 (I c_now_weights (ix (v5))))) (w32 (v2)))) → Wn_share_k12 G S I2 (v1) (v2) (v3) ((v4) - (ldiv ((w32 (v1)) * (w32 (I c_now_weights (ix (v5))))) (w32 (v2)))) (v5 + 1) R))))))))))) : Wn_share_k12 G S  I v1 v2 v3 v4 v5 R := by
  unfold Wn_share_k12
  refine x_iload (pc := 12) dX9_share_12 rfl ?_
  refine x_bipush (pc := 14) dX9_share_14 (by decide) ?_
  refine x_icmp_ge (pc := 16) (t := 80) dX9_share_16 (by decide) (fun e => ?_) (fun e => ?_)
  · have h := h.1 e
    refine x_iconst (pc := 80) dX9_share_80 ?_
    refine x_istore (pc := 81) (L' := [some (vr G c_now), some (vi (v1)), some (vi (v2)), some (vi (v3)), some (vi (v4)), some (vi (0)), none, none, none]) dX9_share_81 (by decide) (xst1 rfl rfl rfl) ?_
    refine x_less (L' := [some (vr G c_now), none, none, some (vi (v3)), some (vi (v4)), some (vi (0)), none, none, none]) (And.intro rfl (And.intro rfl (And.intro rfl (And.intro rfl trivial)))) ?_
    exact h
  · have h := h.2 e
    refine x_iload_n (pc := 19) dX9_share_19 rfl rfl ?_
    refine x_i2l (pc := 20) dX9_share_20 ?_
    refine x_aload_n (pc := 21) dX9_share_21 rfl rfl ?_
    refine x_getR (pc := 22) (i := c_now) (a := c_now_weights) fl_X9_24 dX9_share_22 (sN_c_now hS) (sT_c_now hS) rfl (sR_c_now_4 hS) ?_
    refine x_iload (pc := 25) dX9_share_25 rfl ?_
    refine y_iald (pc := 27) (i := c_now_weights) (n := 10) dX9_share_27 (sN_c_now_weights hS) (sT_c_now_weights hS) (sL_c_now_weights hS) h.1 ?_
    have h := h.2
    refine x_i2l (pc := 28) dX9_share_28 ?_
    refine x_lmul (pc := 29) dX9_share_29 ?_
    refine x_lstore (pc := 30) (L' := [some (vr G c_now), some (vi (v1)), some (vi (v2)), some (vi (v3)), some (vi (v4)), some (vi (v5)), some (vl ((w32 (v1)) * (w32 (I c_now_weights (ix (v5)))))), none, none]) dX9_share_30 (by decide) (xst2 rfl rfl) ?_
    refine x_lload (pc := 32) dX9_share_32 rfl ?_
    refine x_iload_n (pc := 34) dX9_share_34 rfl rfl ?_
    refine x_i2l (pc := 35) dX9_share_35 ?_
    refine x_ldiv (pc := 36) dX9_share_36 h.1 ?_
    have h := h.2
    refine x_l2i (pc := 37) dX9_share_37 ?_
    refine x_istore (pc := 38) (L' := [some (vr G c_now), some (vi (v1)), some (vi (v2)), some (vi (v3)), some (vi (v4)), some (vi (v5)), some (vl ((w32 (v1)) * (w32 (I c_now_weights (ix (v5)))))), none, some (vi (ldiv ((w32 (v1)) * (w32 (I c_now_weights (ix (v5))))) (w32 (v2))))]) dX9_share_38 (by decide) (xst1 rfl rfl trivial) ?_
    refine x_aload_n (pc := 40) dX9_share_40 rfl rfl ?_
    refine x_getR (pc := 41) (i := c_now) (a := c_now_rests) fl_X9_27 dX9_share_41 (sN_c_now hS) (sT_c_now hS) rfl (sR_c_now_5 hS) ?_
    refine x_iload (pc := 44) dX9_share_44 rfl ?_
    refine x_lload (pc := 46) dX9_share_46 rfl ?_
    refine x_iload_n (pc := 48) dX9_share_48 rfl rfl ?_
    refine x_i2l (pc := 49) dX9_share_49 ?_
    refine x_lrem (pc := 50) dX9_share_50 h.1 ?_
    have h := h.2
    refine x_l2i (pc := 51) dX9_share_51 ?_
    refine y_iast (pc := 52) (i := c_now_rests) (n := 10) dX9_share_52 (sN_c_now_rests hS) (sT_c_now_rests hS) (sL_c_now_rests hS) h.1 ?_
    have h := h.2
    have h := h _ rfl
    generalize up I c_now_rests (ix (v5)) (lrem ((w32 (v1)) * (w32 (I c_now_weights (ix (v5))))) (w32 (v2))) = I1 at h ⊢
    refine x_aload_n (pc := 53) dX9_share_53 rfl rfl ?_
    refine x_getR (pc := 54) (i := c_now) (a := c_now_parts) fl_X9_9 dX9_share_54 (sN_c_now hS) (sT_c_now hS) rfl (sR_c_now_0 hS) ?_
    refine x_iload_n (pc := 57) dX9_share_57 rfl rfl ?_
    refine x_iload (pc := 58) dX9_share_58 rfl ?_
    refine x_iadd (pc := 60) dX9_share_60 ?_
    refine x_dup2 (pc := 61) dX9_share_61 rfl rfl ?_
    refine y_iald (pc := 62) (i := c_now_parts) (n := 6000) dX9_share_62 (sN_c_now_parts hS) (sT_c_now_parts hS) (sL_c_now_parts hS) h.1 ?_
    have h := h.2
    refine x_iload (pc := 63) dX9_share_63 rfl ?_
    refine x_iadd (pc := 65) dX9_share_65 ?_
    refine y_iast (pc := 66) (i := c_now_parts) (n := 6000) dX9_share_66 (sN_c_now_parts hS) (sT_c_now_parts hS) (sL_c_now_parts hS) h.1 ?_
    have h := h.2
    have h := h _ rfl
    generalize up I1 c_now_parts (ix ((v3) + (v5))) ((I1 c_now_parts (ix ((v3) + (v5)))) + (ldiv ((w32 (v1)) * (w32 (I c_now_weights (ix (v5))))) (w32 (v2)))) = I2 at h ⊢
    refine x_iload (pc := 67) dX9_share_67 rfl ?_
    refine x_iload (pc := 69) dX9_share_69 rfl ?_
    refine x_isub (pc := 71) dX9_share_71 ?_
    refine x_istore (pc := 72) (L' := [some (vr G c_now), some (vi (v1)), some (vi (v2)), some (vi (v3)), some (vi ((v4) - (ldiv ((w32 (v1)) * (w32 (I c_now_weights (ix (v5))))) (w32 (v2))))), some (vi (v5)), some (vl ((w32 (v1)) * (w32 (I c_now_weights (ix (v5)))))), none, some (vi (ldiv ((w32 (v1)) * (w32 (I c_now_weights (ix (v5))))) (w32 (v2))))]) dX9_share_72 (by decide) (xst1 rfl rfl rfl) ?_
    refine x_iinc (pc := 74) (L' := [some (vr G c_now), some (vi (v1)), some (vi (v2)), some (vi (v3)), some (vi ((v4) - (ldiv ((w32 (v1)) * (w32 (I c_now_weights (ix (v5))))) (w32 (v2))))), some (vi (v5 + 1)), some (vl ((w32 (v1)) * (w32 (I c_now_weights (ix (v5)))))), none, some (vi (ldiv ((w32 (v1)) * (w32 (I c_now_weights (ix (v5))))) (w32 (v2))))]) dX9_share_74 rfl (by decide) (xst1 rfl rfl rfl) ?_
    refine x_goto (pc := 77) (t := 12) dX9_share_77 (by decide) ?_
    refine x_less (L' := [some (vr G c_now), some (vi (v1)), some (vi (v2)), some (vi (v3)), some (vi ((v4) - (ldiv ((w32 (v1)) * (w32 (I c_now_weights (ix (v5))))) (w32 (v2))))), some (vi (v5 + 1)), none, none, none]) (And.intro rfl (And.intro rfl (And.intro rfl (And.intro rfl (And.intro rfl (And.intro rfl trivial)))))) ?_
    exact h
set_option maxHeartbeats 4000000 in
set_option maxRecDepth 100000 in
theorem b_Wn_share_k83 {G : XG} {S : XS}  {I : XI} {v3 : Int} {v4 : Int} {v5 : Int} {R : Int → XI → Prop} (hS : xSh S)  (h : ((w32 (10) ≤ w32 (v5) → R (1) I) ∧ (¬ (w32 (10) ≤ w32 (v5)) → ((w32 (v4) ≤ 0 → R (1) I) ∧ (¬ (w32 (v4) ≤ 0) → Wn_share_k101 G S I (v3) (v4) (v5) (0) (1) R))))) : Wn_share_k83 G S  I v3 v4 v5 R := by
  unfold Wn_share_k83
  refine x_iload (pc := 83) dX9_share_83 rfl ?_
  refine x_bipush (pc := 85) dX9_share_85 (by decide) ?_
  refine x_icmp_ge (pc := 87) (t := 165) dX9_share_87 (by decide) (fun e => ?_) (fun e => ?_)
  · have h := h.1 e
    refine x_iconst (pc := 165) dX9_share_165 ?_
    exact y_zret (pc := 166) dX9_share_166 rfl ⟨Nat.le_refl _, Nat.le_refl _⟩ (Or.inr rfl) h
  · have h := h.2 e
    refine x_iload (pc := 90) dX9_share_90 rfl ?_
    refine x_if_le (pc := 92) (t := 165) dX9_share_92 (by decide) (fun e => ?_) (fun e => ?_)
    · have h := h.1 e
      refine x_iconst (pc := 165) dX9_share_165 ?_
      exact y_zret (pc := 166) dX9_share_166 rfl ⟨Nat.le_refl _, Nat.le_refl _⟩ (Or.inr rfl) h
    · have h := h.2 e
      refine x_iconst (pc := 95) dX9_share_95 ?_
      refine x_istore (pc := 96) (L' := [some (vr G c_now), none, none, some (vi (v3)), some (vi (v4)), some (vi (v5)), some (vi (0)), none, none]) dX9_share_96 (by decide) (xst1 rfl rfl rfl) ?_
      refine x_iconst (pc := 98) dX9_share_98 ?_
      refine x_istore (pc := 99) (L' := [some (vr G c_now), none, none, some (vi (v3)), some (vi (v4)), some (vi (v5)), some (vi (0)), some (vi (1)), none]) dX9_share_99 (by decide) (xst1 rfl rfl rfl) ?_
      exact h
set_option maxHeartbeats 4000000 in
set_option maxRecDepth 100000 in
theorem b_Wn_share_k101 {G : XG} {S : XS}  {I : XI} {v3 : Int} {v4 : Int} {v5 : Int} {v6 : Int} {v7 : Int} {R : Int → XI → Prop} (hS : xSh S)  (h : ((w32 (10) ≤ w32 (v7) → (inb ((v3) + (v6)) 6000 ∧ (inb ((v3) + (v6)) 6000 ∧ (∀ I3 : XI, I3 = up I c_now_parts (ix ((v3) + (v6))) ((I c_now_parts (ix ((v3) + (v6)))) + (1)) → (inb (v6) 10 ∧ (∀ I4 : XI, I4 = up I3 c_now_rests (ix (v6)) ((-1)) → Wn_share_k83 G S I4 (v3) (v4 + (-1)) (v5 + 1) R)))))) ∧ (¬ (w32 (10) ≤ w32 (v7)) → (inb (v7) 10 ∧ (inb (v6) 10 ∧ ((w32 (I c_now_rests (ix (v7))) ≤ w32 (I c_now_rests (ix (v6))) → Wn_share_k101 G S I (v3) (v4) (v5) (v6) (v7 + 1) R) ∧ (¬ (w32 (I c_now_rests (ix (v7))) ≤ w32 (I c_now_rests (ix (v6)))) → Wn_share_k101 G S I (v3) (v4) (v5) (v7) (v7 + 1) R))))))) : Wn_share_k101 G S  I v3 v4 v5 v6 v7 R := by
  unfold Wn_share_k101
  refine x_iload (pc := 101) dX9_share_101 rfl ?_
  refine x_bipush (pc := 103) dX9_share_103 (by decide) ?_
  refine x_icmp_ge (pc := 105) (t := 135) dX9_share_105 (by decide) (fun e => ?_) (fun e => ?_)
  · have h := h.1 e
    refine x_aload_n (pc := 135) dX9_share_135 rfl rfl ?_
    refine x_getR (pc := 136) (i := c_now) (a := c_now_parts) fl_X9_9 dX9_share_136 (sN_c_now hS) (sT_c_now hS) rfl (sR_c_now_0 hS) ?_
    refine x_iload_n (pc := 139) dX9_share_139 rfl rfl ?_
    refine x_iload (pc := 140) dX9_share_140 rfl ?_
    refine x_iadd (pc := 142) dX9_share_142 ?_
    refine x_dup2 (pc := 143) dX9_share_143 rfl rfl ?_
    refine y_iald (pc := 144) (i := c_now_parts) (n := 6000) dX9_share_144 (sN_c_now_parts hS) (sT_c_now_parts hS) (sL_c_now_parts hS) h.1 ?_
    have h := h.2
    refine x_iconst (pc := 145) dX9_share_145 ?_
    refine x_iadd (pc := 146) dX9_share_146 ?_
    refine y_iast (pc := 147) (i := c_now_parts) (n := 6000) dX9_share_147 (sN_c_now_parts hS) (sT_c_now_parts hS) (sL_c_now_parts hS) h.1 ?_
    have h := h.2
    have h := h _ rfl
    generalize up I c_now_parts (ix ((v3) + (v6))) ((I c_now_parts (ix ((v3) + (v6)))) + (1)) = I3 at h ⊢
    refine x_aload_n (pc := 148) dX9_share_148 rfl rfl ?_
    refine x_getR (pc := 149) (i := c_now) (a := c_now_rests) fl_X9_27 dX9_share_149 (sN_c_now hS) (sT_c_now hS) rfl (sR_c_now_5 hS) ?_
    refine x_iload (pc := 152) dX9_share_152 rfl ?_
    refine x_iconst (pc := 154) dX9_share_154 ?_
    refine y_iast (pc := 155) (i := c_now_rests) (n := 10) dX9_share_155 (sN_c_now_rests hS) (sT_c_now_rests hS) (sL_c_now_rests hS) h.1 ?_
    have h := h.2
    have h := h _ rfl
    generalize up I3 c_now_rests (ix (v6)) ((-1)) = I4 at h ⊢
    refine x_iinc (pc := 156) (L' := [some (vr G c_now), none, none, some (vi (v3)), some (vi (v4 + (-1))), some (vi (v5)), some (vi (v6)), some (vi (v7)), none]) dX9_share_156 rfl (by decide) (xst1 rfl rfl rfl) ?_
    refine x_iinc (pc := 159) (L' := [some (vr G c_now), none, none, some (vi (v3)), some (vi (v4 + (-1))), some (vi (v5 + 1)), some (vi (v6)), some (vi (v7)), none]) dX9_share_159 rfl (by decide) (xst1 rfl rfl rfl) ?_
    refine x_goto (pc := 162) (t := 83) dX9_share_162 (by decide) ?_
    refine x_less (L' := [some (vr G c_now), none, none, some (vi (v3)), some (vi (v4 + (-1))), some (vi (v5 + 1)), none, none, none]) (And.intro rfl (And.intro rfl (And.intro rfl (And.intro rfl trivial)))) ?_
    exact h
  · have h := h.2 e
    refine x_aload_n (pc := 108) dX9_share_108 rfl rfl ?_
    refine x_getR (pc := 109) (i := c_now) (a := c_now_rests) fl_X9_27 dX9_share_109 (sN_c_now hS) (sT_c_now hS) rfl (sR_c_now_5 hS) ?_
    refine x_iload (pc := 112) dX9_share_112 rfl ?_
    refine y_iald (pc := 114) (i := c_now_rests) (n := 10) dX9_share_114 (sN_c_now_rests hS) (sT_c_now_rests hS) (sL_c_now_rests hS) h.1 ?_
    have h := h.2
    refine x_aload_n (pc := 115) dX9_share_115 rfl rfl ?_
    refine x_getR (pc := 116) (i := c_now) (a := c_now_rests) fl_X9_27 dX9_share_116 (sN_c_now hS) (sT_c_now hS) rfl (sR_c_now_5 hS) ?_
    refine x_iload (pc := 119) dX9_share_119 rfl ?_
    refine y_iald (pc := 121) (i := c_now_rests) (n := 10) dX9_share_121 (sN_c_now_rests hS) (sT_c_now_rests hS) (sL_c_now_rests hS) h.1 ?_
    have h := h.2
    refine x_icmp_le (pc := 122) (t := 129) dX9_share_122 (by decide) (fun e => ?_) (fun e => ?_)
    · have h := h.1 e
      refine x_iinc (pc := 129) (L' := [some (vr G c_now), none, none, some (vi (v3)), some (vi (v4)), some (vi (v5)), some (vi (v6)), some (vi (v7 + 1)), none]) dX9_share_129 rfl (by decide) (xst1 rfl rfl rfl) ?_
      refine x_goto (pc := 132) (t := 101) dX9_share_132 (by decide) ?_
      exact h
    · have h := h.2 e
      refine x_iload (pc := 125) dX9_share_125 rfl ?_
      refine x_istore (pc := 127) (L' := [some (vr G c_now), none, none, some (vi (v3)), some (vi (v4)), some (vi (v5)), some (vi (v7)), some (vi (v7)), none]) dX9_share_127 (by decide) (xst1 rfl rfl rfl) ?_
      refine x_iinc (pc := 129) (L' := [some (vr G c_now), none, none, some (vi (v3)), some (vi (v4)), some (vi (v5)), some (vi (v7)), some (vi (v7 + 1)), none]) dX9_share_129 rfl (by decide) (xst1 rfl rfl rfl) ?_
      refine x_goto (pc := 132) (t := 101) dX9_share_132 (by decide) ?_
      exact h
set_option maxHeartbeats 4000000 in
set_option maxRecDepth 100000 in
theorem b_Wn_gather {G : XG} {S : XS} {I : XI} {v1 : Int} {v2 : Int} {R : Int → XI → Prop} (hS : xSh S)  (h : (inb ((v1) + (v2)) 6000 ∧ ((w32 (I c_now_parts (ix ((v1) + (v2)))) = 0 → R (0) I) ∧ (¬ (w32 (I c_now_parts (ix ((v1) + (v2)))) = 0) → Wn_clearRow G S I (v1) (fun I1 => (inb ((v1) + (v2)) 6000 ∧ (∀ I2 : XI, I2 = up I1 c_now_parts (ix ((v1) + (v2))) (1000000) → R (1) I2))))))) : Wn_gather G S I v1 v2 R := by
  refine x_start [some (vr G c_now), some (vi (v1)), some (vi (v2))] (by decide) (Nat.le_of_ble_eq_true rfl) rfl ?_
  refine x_aload_n (pc := 0) dX9_gather_0 rfl rfl ?_
  refine x_getR (pc := 1) (i := c_now) (a := c_now_parts) fl_X9_9 dX9_gather_1 (sN_c_now hS) (sT_c_now hS) rfl (sR_c_now_0 hS) ?_
  refine x_iload_n (pc := 4) dX9_gather_4 rfl rfl ?_
  refine x_iload_n (pc := 5) dX9_gather_5 rfl rfl ?_
  refine x_iadd (pc := 6) dX9_gather_6 ?_
  refine y_iald (pc := 7) (i := c_now_parts) (n := 6000) dX9_gather_7 (sN_c_now_parts hS) (sT_c_now_parts hS) (sL_c_now_parts hS) h.1 ?_
  have h := h.2
  refine x_if_ne (pc := 8) (t := 13) dX9_gather_8 (by decide) (fun e => ?_) (fun e => ?_)
  · have h := h.1 e
    refine x_iconst (pc := 11) dX9_gather_11 ?_
    exact y_zret (pc := 12) dX9_gather_12 rfl ⟨Nat.le_refl _, Nat.le_refl _⟩ (Or.inl rfl) h
  · have h := h.2 e
    refine x_aload_n (pc := 13) dX9_gather_13 rfl rfl ?_
    refine x_iload_n (pc := 14) dX9_gather_14 rfl rfl ?_
    refine y_Vv (pc := 15) (i := c_now) (As := [vi (v1)]) (rest := []) ok_X9_clearRow ml_X9_77 dX9_gather_15 (sN_c_now hS) (sT_c_now hS) (by decide) rfl rfl rfl ⟨rfl, rfl⟩ ⟨by decide, by decide⟩ ⟨Nat.le_refl _, Nat.le_refl _⟩ (Nat.le_of_ble_eq_true rfl) rfl h (fun I1 h => ?_)
    refine x_aload_n (pc := 18) dX9_gather_18 rfl rfl ?_
    refine x_getR (pc := 19) (i := c_now) (a := c_now_parts) fl_X9_9 dX9_gather_19 (sN_c_now hS) (sT_c_now hS) rfl (sR_c_now_0 hS) ?_
    refine x_iload_n (pc := 22) dX9_gather_22 rfl rfl ?_
    refine x_iload_n (pc := 23) dX9_gather_23 rfl rfl ?_
    refine x_iadd (pc := 24) dX9_gather_24 ?_
    refine x_ldc (pc := 25) (z := 1000000) dX9_gather_25 ko_X9_84 rfl ?_
    refine y_iast (pc := 27) (i := c_now_parts) (n := 6000) dX9_gather_27 (sN_c_now_parts hS) (sT_c_now_parts hS) (sL_c_now_parts hS) h.1 ?_
    have h := h.2
    have h := h _ rfl
    generalize up I1 c_now_parts (ix ((v1) + (v2))) (1000000) = I2 at h ⊢
    refine x_iconst (pc := 28) dX9_gather_28 ?_
    exact y_zret (pc := 29) dX9_gather_29 rfl ⟨Nat.le_refl _, Nat.le_refl _⟩ (Or.inr rfl) h
set_option maxHeartbeats 4000000 in
set_option maxRecDepth 100000 in
theorem b_Wn_leave {G : XG} {S : XS} {I : XI} {v1 : Int} {v2 : Int} {R : Int → XI → Prop} (hS : xSh S)  (h : (inb ((v1) + (v2)) 6000 ∧ ((w32 ((1000000) - (I c_now_parts (ix ((v1) + (v2))))) = 0 → R (0) I) ∧ (¬ (w32 ((1000000) - (I c_now_parts (ix ((v1) + (v2))))) = 0) → Wn_leave_k21 G S I (v1) (v2) ((1000000) - (I c_now_parts (ix ((v1) + (v2))))) (0) R)))) : Wn_leave G S I v1 v2 R := by
  refine x_start [some (vr G c_now), some (vi (v1)), some (vi (v2)), none, none] (by decide) (Nat.le_of_ble_eq_true rfl) rfl ?_
  refine x_ldc (pc := 0) (z := 1000000) dX9_leave_0 ko_X9_84 rfl ?_
  refine x_aload_n (pc := 2) dX9_leave_2 rfl rfl ?_
  refine x_getR (pc := 3) (i := c_now) (a := c_now_parts) fl_X9_9 dX9_leave_3 (sN_c_now hS) (sT_c_now hS) rfl (sR_c_now_0 hS) ?_
  refine x_iload_n (pc := 6) dX9_leave_6 rfl rfl ?_
  refine x_iload_n (pc := 7) dX9_leave_7 rfl rfl ?_
  refine x_iadd (pc := 8) dX9_leave_8 ?_
  refine y_iald (pc := 9) (i := c_now_parts) (n := 6000) dX9_leave_9 (sN_c_now_parts hS) (sT_c_now_parts hS) (sL_c_now_parts hS) h.1 ?_
  have h := h.2
  refine x_isub (pc := 10) dX9_leave_10 ?_
  refine x_istore_n (pc := 11) (L' := [some (vr G c_now), some (vi (v1)), some (vi (v2)), some (vi ((1000000) - (I c_now_parts (ix ((v1) + (v2)))))), none]) dX9_leave_11 rfl (by decide) (xst1 rfl rfl rfl) ?_
  refine x_iload_n (pc := 12) dX9_leave_12 rfl rfl ?_
  refine x_if_ne (pc := 13) (t := 18) dX9_leave_13 (by decide) (fun e => ?_) (fun e => ?_)
  · have h := h.1 e
    refine x_iconst (pc := 16) dX9_leave_16 ?_
    exact y_zret (pc := 17) dX9_leave_17 rfl ⟨Nat.le_refl _, Nat.le_refl _⟩ (Or.inl rfl) h
  · have h := h.2 e
    refine x_iconst (pc := 18) dX9_leave_18 ?_
    refine x_istore (pc := 19) (L' := [some (vr G c_now), some (vi (v1)), some (vi (v2)), some (vi ((1000000) - (I c_now_parts (ix ((v1) + (v2)))))), some (vi (0))]) dX9_leave_19 (by decide) (xst1 rfl rfl rfl) ?_
    exact h
set_option maxHeartbeats 4000000 in
set_option maxRecDepth 100000 in
theorem b_Wn_leave_k21 {G : XG} {S : XS}  {I : XI} {v1 : Int} {v2 : Int} {v3 : Int} {v4 : Int} {R : Int → XI → Prop} (hS : xSh S)  (h : ((w32 (10) ≤ w32 (v4) → Wn_share G S I (1000000) (v3) (v1) (fun r2 I1 => (((r2) = 0 ∨ (r2) = 1) ∧ R (r2) I1))) ∧ (¬ (w32 (10) ≤ w32 (v4)) → ((w32 (v4) = w32 (v2) → Wn_leave_k53 G S I (v1) (v2) (v3) (v4) (0) (v4) R) ∧ (¬ (w32 (v4) = w32 (v2)) → (inb ((v1) + (v4)) 6000 ∧ Wn_leave_k53 G S I (v1) (v2) (v3) (v4) (I c_now_parts (ix ((v1) + (v4)))) (v4) R)))))) : Wn_leave_k21 G S  I v1 v2 v3 v4 R := by
  unfold Wn_leave_k21
  refine x_iload (pc := 21) dX9_leave_21 rfl ?_
  refine x_bipush (pc := 23) dX9_leave_23 (by decide) ?_
  refine x_icmp_ge (pc := 25) (t := 70) dX9_leave_25 (by decide) (fun e => ?_) (fun e => ?_)
  · have h := h.1 e
    refine x_aload_n (pc := 70) dX9_leave_70 rfl rfl ?_
    refine x_ldc (pc := 71) (z := 1000000) dX9_leave_71 ko_X9_84 rfl ?_
    refine x_iload_n (pc := 73) dX9_leave_73 rfl rfl ?_
    refine x_iload_n (pc := 74) dX9_leave_74 rfl rfl ?_
    refine y_Vi (pc := 75) (i := c_now) (As := [vi (1000000), vi (v3), vi (v1)]) (rest := []) ok_X9_share ml_X9_110 dX9_leave_75 (sN_c_now hS) (sT_c_now hS) (by decide) rfl rfl rfl ⟨rfl, rfl⟩ ⟨by decide, by decide⟩ ⟨Nat.le_refl _, Nat.le_refl _⟩ (Nat.le_of_ble_eq_true rfl) rfl h (fun r2 I1 h => ?_)
    exact y_zret (pc := 78) dX9_leave_78 rfl ⟨Nat.le_refl _, Nat.le_refl _⟩ h.1 h.2
  · have h := h.2 e
    refine x_aload_n (pc := 28) dX9_leave_28 rfl rfl ?_
    refine x_getR (pc := 29) (i := c_now) (a := c_now_weights) fl_X9_24 dX9_leave_29 (sN_c_now hS) (sT_c_now hS) rfl (sR_c_now_4 hS) ?_
    refine x_iload (pc := 32) dX9_leave_32 rfl ?_
    refine x_iload (pc := 34) dX9_leave_34 rfl ?_
    refine x_iload_n (pc := 36) dX9_leave_36 rfl rfl ?_
    refine x_icmp_ne (pc := 37) (t := 44) dX9_leave_37 (by decide) (fun e => ?_) (fun e => ?_)
    · have h := h.1 e
      refine x_iconst (pc := 40) dX9_leave_40 ?_
      refine x_goto (pc := 41) (t := 53) dX9_leave_41 (by decide) ?_
      exact h
    · have h := h.2 e
      refine x_aload_n (pc := 44) dX9_leave_44 rfl rfl ?_
      refine x_getR (pc := 45) (i := c_now) (a := c_now_parts) fl_X9_9 dX9_leave_45 (sN_c_now hS) (sT_c_now hS) rfl (sR_c_now_0 hS) ?_
      refine x_iload_n (pc := 48) dX9_leave_48 rfl rfl ?_
      refine x_iload (pc := 49) dX9_leave_49 rfl ?_
      refine x_iadd (pc := 51) dX9_leave_51 ?_
      refine y_iald (pc := 52) (i := c_now_parts) (n := 6000) dX9_leave_52 (sN_c_now_parts hS) (sT_c_now_parts hS) (sL_c_now_parts hS) h.1 ?_
      have h := h.2
      exact h
set_option maxHeartbeats 4000000 in
set_option maxRecDepth 100000 in
theorem b_Wn_leave_k53 {G : XG} {S : XS}  {I : XI} {v1 : Int} {v2 : Int} {v3 : Int} {v4 : Int} {s0 : Int} {s1 : Int} {R : Int → XI → Prop} (hS : xSh S)  (h : (inb (s1) 10 ∧ (∀ I3 : XI, I3 = up I c_now_weights (ix (s1)) (s0) → (inb ((v1) + (v4)) 6000 ∧ (∀ I4 : XI, I4 = up I3 c_now_parts (ix ((v1) + (v4))) (0) → Wn_leave_k21 G S I4 (v1) (v2) (v3) (v4 + 1) R))))) : Wn_leave_k53 G S  I v1 v2 v3 v4 s0 s1 R := by
  unfold Wn_leave_k53
  refine y_iast (pc := 53) (i := c_now_weights) (n := 10) dX9_leave_53 (sN_c_now_weights hS) (sT_c_now_weights hS) (sL_c_now_weights hS) h.1 ?_
  have h := h.2
  have h := h _ rfl
  generalize up I c_now_weights (ix (s1)) (s0) = I3 at h ⊢
  refine x_aload_n (pc := 54) dX9_leave_54 rfl rfl ?_
  refine x_getR (pc := 55) (i := c_now) (a := c_now_parts) fl_X9_9 dX9_leave_55 (sN_c_now hS) (sT_c_now hS) rfl (sR_c_now_0 hS) ?_
  refine x_iload_n (pc := 58) dX9_leave_58 rfl rfl ?_
  refine x_iload (pc := 59) dX9_leave_59 rfl ?_
  refine x_iadd (pc := 61) dX9_leave_61 ?_
  refine x_iconst (pc := 62) dX9_leave_62 ?_
  refine y_iast (pc := 63) (i := c_now_parts) (n := 6000) dX9_leave_63 (sN_c_now_parts hS) (sT_c_now_parts hS) (sL_c_now_parts hS) h.1 ?_
  have h := h.2
  have h := h _ rfl
  generalize up I3 c_now_parts (ix ((v1) + (v4))) (0) = I4 at h ⊢
  refine x_iinc (pc := 64) (L' := [some (vr G c_now), some (vi (v1)), some (vi (v2)), some (vi (v3)), some (vi (v4 + 1))]) dX9_leave_64 rfl (by decide) (xst1 rfl rfl rfl) ?_
  refine x_goto (pc := 67) (t := 21) dX9_leave_67 (by decide) ?_
  exact h
set_option maxHeartbeats 4000000 in
set_option maxRecDepth 100000 in
theorem b_La_grassOfWeek2 {G : XG} {S : XS} {I : XI} {v1 : Int} {v2 : Int} {R : XI → Prop} (hS : xSh S)  (h : Ja_fill G S I (c_then_grass) (1) (fun I1 => Ja_fill G S I1 (c_then_rests) ((-1)) (fun I2 => La_grassOfWeek2_k14 G S I2 (v1) (v2) (0) R))) : La_grassOfWeek2 G S I v1 v2 R := by
  refine x_start [some (vr G c_land), some (vi (v1)), some (vi (v2)), some (vr G c_then_grass), some (vr G c_then_rests), none, none] (by decide) (Nat.le_of_ble_eq_true rfl) rfl ?_
  refine x_aload_n (pc := 0) dX2_grassOfWeek_0 rfl rfl ?_
  refine x_iconst (pc := 1) dX2_grassOfWeek_1 ?_
  refine y_Sv (pc := 2) (As := [vr G c_then_grass, vi (1)]) (rest := []) ok_J7_fill_53178 ml_X2_44 dX2_grassOfWeek_2 rfl ⟨rfl, rfl⟩ ⟨by decide, by decide⟩ ⟨Nat.le_refl _, Nat.le_refl _⟩ (Nat.le_of_ble_eq_true rfl) rfl h (fun I1 h => ?_)
  refine x_aload (pc := 5) dX2_grassOfWeek_5 rfl ?_
  refine x_iconst (pc := 7) dX2_grassOfWeek_7 ?_
  refine y_Sv (pc := 8) (As := [vr G c_then_rests, vi ((-1))]) (rest := []) ok_J7_fill_53178 ml_X2_44 dX2_grassOfWeek_8 rfl ⟨rfl, rfl⟩ ⟨by decide, by decide⟩ ⟨Nat.le_refl _, Nat.le_refl _⟩ (Nat.le_of_ble_eq_true rfl) rfl h (fun I2 h => ?_)
  refine x_iconst (pc := 11) dX2_grassOfWeek_11 ?_
  refine x_istore (pc := 12) (L' := [some (vr G c_land), some (vi (v1)), some (vi (v2)), some (vr G c_then_grass), some (vr G c_then_rests), some (vi (0)), none]) dX2_grassOfWeek_12 (by decide) (xst1 rfl rfl rfl) ?_
  exact h
set_option maxHeartbeats 4000000 in
set_option maxRecDepth 100000 in
theorem b_La_grassOfWeek2_k14 {G : XG} {S : XS}  {I : XI} {v1 : Int} {v2 : Int} {v5 : Int} {R : XI → Prop} (hS : xSh S)  (h : ((w32 (I c_land 3) ≤ w32 (v5) → R I) ∧ (¬ (w32 (I c_land 3) ≤ w32 (v5)) → (inb (v5) 60 ∧ (inb (v5) 60 ∧ ((w32 (v2) < w32 (I c_land_grassTold (ix (v5))) → La_grassOfWeek2_k14 G S I (v1) (v2) (v5 + 1) R) ∧ (¬ (w32 (v2) < w32 (I c_land_grassTold (ix (v5)))) → (inb (v5) 60 ∧ ((w32 (v1) < w32 (I c_land_grassWeeks (ix (v5))) → La_grassOfWeek2_k14 G S I (v1) (v2) (v5 + 1) R) ∧ (¬ (w32 (v1) < w32 (I c_land_grassWeeks (ix (v5)))) → (inb (v5) 60 ∧ (inb (I c_land_grassCells (ix (v5))) 10 ∧ ((w32 (I c_land_grassWeeks (ix (v5))) < w32 (I c_then_rests (ix (I c_land_grassCells (ix (v5))))) → La_grassOfWeek2_k14 G S I (v1) (v2) (v5 + 1) R) ∧ (¬ (w32 (I c_land_grassWeeks (ix (v5))) < w32 (I c_then_rests (ix (I c_land_grassCells (ix (v5)))))) → (inb (v5) 60 ∧ (inb (I c_land_grassCells (ix (v5))) 10 ∧ (∀ I3 : XI, I3 = up I c_then_rests (ix (I c_land_grassCells (ix (v5)))) (I c_land_grassWeeks (ix (v5))) → (inb (v5) 60 ∧ (inb (I c_land_grassCells (ix (v5))) 10 ∧ (∀ I4 : XI, I4 = up I3 c_then_grass (ix (I c_land_grassCells (ix (v5)))) (I3 c_land_grassNumbers (ix (v5))) → La_grassOfWeek2_k14 G S I4 (v1) (v2) (v5 + 1) R)))))))))))))))))))) : La_grassOfWeek2_k14 G S  I v1 v2 v5 R := by
  unfold La_grassOfWeek2_k14
  refine x_iload (pc := 14) dX2_grassOfWeek_14 rfl ?_
  refine x_aload_n (pc := 16) dX2_grassOfWeek_16 rfl rfl ?_
  refine x_getI (pc := 17) (i := c_land) fl_X2_22 dX2_grassOfWeek_17 (sN_c_land hS) (sT_c_land hS) rfl ?_
  refine x_icmp_ge (pc := 20) (t := 98) dX2_grassOfWeek_20 (by decide) (fun e => ?_) (fun e => ?_)
  · have h := h.1 e
    exact y_vret (pc := 98) dX2_grassOfWeek_98 rfl ⟨Nat.le_refl _, Nat.le_refl _⟩ h
  · have h := h.2 e
    refine x_aload_n (pc := 23) dX2_grassOfWeek_23 rfl rfl ?_
    refine x_getR (pc := 24) (i := c_land) (a := c_land_grassCells) fl_X2_25 dX2_grassOfWeek_24 (sN_c_land hS) (sT_c_land hS) rfl (sR_c_land_4 hS) ?_
    refine x_iload (pc := 27) dX2_grassOfWeek_27 rfl ?_
    refine y_iald (pc := 29) (i := c_land_grassCells) (n := 60) dX2_grassOfWeek_29 (sN_c_land_grassCells hS) (sT_c_land_grassCells hS) (sL_c_land_grassCells hS) h.1 ?_
    have h := h.2
    refine x_istore (pc := 30) (L' := [some (vr G c_land), some (vi (v1)), some (vi (v2)), some (vr G c_then_grass), some (vr G c_then_rests), some (vi (v5)), some (vi (I c_land_grassCells (ix (v5))))]) dX2_grassOfWeek_30 (by decide) (xst1 rfl rfl rfl) ?_
    refine x_aload_n (pc := 32) dX2_grassOfWeek_32 rfl rfl ?_
    refine x_getR (pc := 33) (i := c_land) (a := c_land_grassTold) fl_X2_34 dX2_grassOfWeek_33 (sN_c_land hS) (sT_c_land hS) rfl (sR_c_land_7 hS) ?_
    refine x_iload (pc := 36) dX2_grassOfWeek_36 rfl ?_
    refine y_iald (pc := 38) (i := c_land_grassTold) (n := 60) dX2_grassOfWeek_38 (sN_c_land_grassTold hS) (sT_c_land_grassTold hS) (sL_c_land_grassTold hS) h.1 ?_
    have h := h.2
    refine x_iload_n (pc := 39) dX2_grassOfWeek_39 rfl rfl ?_
    refine x_icmp_gt (pc := 40) (t := 92) dX2_grassOfWeek_40 (by decide) (fun e => ?_) (fun e => ?_)
    · have h := h.1 e
      refine x_iinc (pc := 92) (L' := [some (vr G c_land), some (vi (v1)), some (vi (v2)), some (vr G c_then_grass), some (vr G c_then_rests), some (vi (v5 + 1)), some (vi (I c_land_grassCells (ix (v5))))]) dX2_grassOfWeek_92 rfl (by decide) (xst1 rfl rfl rfl) ?_
      refine x_goto (pc := 95) (t := 14) dX2_grassOfWeek_95 (by decide) ?_
      refine x_less (L' := [some (vr G c_land), some (vi (v1)), some (vi (v2)), some (vr G c_then_grass), some (vr G c_then_rests), some (vi (v5 + 1)), none]) (And.intro rfl (And.intro rfl (And.intro rfl (And.intro rfl (And.intro rfl (And.intro rfl trivial)))))) ?_
      exact h
    · have h := h.2 e
      refine x_aload_n (pc := 43) dX2_grassOfWeek_43 rfl rfl ?_
      refine x_getR (pc := 44) (i := c_land) (a := c_land_grassWeeks) fl_X2_28 dX2_grassOfWeek_44 (sN_c_land hS) (sT_c_land hS) rfl (sR_c_land_5 hS) ?_
      refine x_iload (pc := 47) dX2_grassOfWeek_47 rfl ?_
      refine y_iald (pc := 49) (i := c_land_grassWeeks) (n := 60) dX2_grassOfWeek_49 (sN_c_land_grassWeeks hS) (sT_c_land_grassWeeks hS) (sL_c_land_grassWeeks hS) h.1 ?_
      have h := h.2
      refine x_iload_n (pc := 50) dX2_grassOfWeek_50 rfl rfl ?_
      refine x_icmp_gt (pc := 51) (t := 92) dX2_grassOfWeek_51 (by decide) (fun e => ?_) (fun e => ?_)
      · have h := h.1 e
        refine x_iinc (pc := 92) (L' := [some (vr G c_land), some (vi (v1)), some (vi (v2)), some (vr G c_then_grass), some (vr G c_then_rests), some (vi (v5 + 1)), some (vi (I c_land_grassCells (ix (v5))))]) dX2_grassOfWeek_92 rfl (by decide) (xst1 rfl rfl rfl) ?_
        refine x_goto (pc := 95) (t := 14) dX2_grassOfWeek_95 (by decide) ?_
        refine x_less (L' := [some (vr G c_land), some (vi (v1)), some (vi (v2)), some (vr G c_then_grass), some (vr G c_then_rests), some (vi (v5 + 1)), none]) (And.intro rfl (And.intro rfl (And.intro rfl (And.intro rfl (And.intro rfl (And.intro rfl trivial)))))) ?_
        exact h
      · have h := h.2 e
        refine x_aload_n (pc := 54) dX2_grassOfWeek_54 rfl rfl ?_
        refine x_getR (pc := 55) (i := c_land) (a := c_land_grassWeeks) fl_X2_28 dX2_grassOfWeek_55 (sN_c_land hS) (sT_c_land hS) rfl (sR_c_land_5 hS) ?_
        refine x_iload (pc := 58) dX2_grassOfWeek_58 rfl ?_
        refine y_iald (pc := 60) (i := c_land_grassWeeks) (n := 60) dX2_grassOfWeek_60 (sN_c_land_grassWeeks hS) (sT_c_land_grassWeeks hS) (sL_c_land_grassWeeks hS) h.1 ?_
        have h := h.2
        refine x_aload (pc := 61) dX2_grassOfWeek_61 rfl ?_
        refine x_iload (pc := 63) dX2_grassOfWeek_63 rfl ?_
        refine y_iald (pc := 65) (i := c_then_rests) (n := 10) dX2_grassOfWeek_65 (sN_c_then_rests hS) (sT_c_then_rests hS) (sL_c_then_rests hS) h.1 ?_
        have h := h.2
        refine x_icmp_lt (pc := 66) (t := 92) dX2_grassOfWeek_66 (by decide) (fun e => ?_) (fun e => ?_)
        · have h := h.1 e
          refine x_iinc (pc := 92) (L' := [some (vr G c_land), some (vi (v1)), some (vi (v2)), some (vr G c_then_grass), some (vr G c_then_rests), some (vi (v5 + 1)), some (vi (I c_land_grassCells (ix (v5))))]) dX2_grassOfWeek_92 rfl (by decide) (xst1 rfl rfl rfl) ?_
          refine x_goto (pc := 95) (t := 14) dX2_grassOfWeek_95 (by decide) ?_
          refine x_less (L' := [some (vr G c_land), some (vi (v1)), some (vi (v2)), some (vr G c_then_grass), some (vr G c_then_rests), some (vi (v5 + 1)), none]) (And.intro rfl (And.intro rfl (And.intro rfl (And.intro rfl (And.intro rfl (And.intro rfl trivial)))))) ?_
          exact h
        · have h := h.2 e
          refine x_aload (pc := 69) dX2_grassOfWeek_69 rfl ?_
          refine x_iload (pc := 71) dX2_grassOfWeek_71 rfl ?_
          refine x_aload_n (pc := 73) dX2_grassOfWeek_73 rfl rfl ?_
          refine x_getR (pc := 74) (i := c_land) (a := c_land_grassWeeks) fl_X2_28 dX2_grassOfWeek_74 (sN_c_land hS) (sT_c_land hS) rfl (sR_c_land_5 hS) ?_
          refine x_iload (pc := 77) dX2_grassOfWeek_77 rfl ?_
          refine y_iald (pc := 79) (i := c_land_grassWeeks) (n := 60) dX2_grassOfWeek_79 (sN_c_land_grassWeeks hS) (sT_c_land_grassWeeks hS) (sL_c_land_grassWeeks hS) h.1 ?_
          have h := h.2
          refine y_iast (pc := 80) (i := c_then_rests) (n := 10) dX2_grassOfWeek_80 (sN_c_then_rests hS) (sT_c_then_rests hS) (sL_c_then_rests hS) h.1 ?_
          have h := h.2
          have h := h _ rfl
          generalize up I c_then_rests (ix (I c_land_grassCells (ix (v5)))) (I c_land_grassWeeks (ix (v5))) = I3 at h ⊢
          refine x_aload_n (pc := 81) dX2_grassOfWeek_81 rfl rfl ?_
          refine x_iload (pc := 82) dX2_grassOfWeek_82 rfl ?_
          refine x_aload_n (pc := 84) dX2_grassOfWeek_84 rfl rfl ?_
          refine x_getR (pc := 85) (i := c_land) (a := c_land_grassNumbers) fl_X2_31 dX2_grassOfWeek_85 (sN_c_land hS) (sT_c_land hS) rfl (sR_c_land_6 hS) ?_
          refine x_iload (pc := 88) dX2_grassOfWeek_88 rfl ?_
          refine y_iald (pc := 90) (i := c_land_grassNumbers) (n := 60) dX2_grassOfWeek_90 (sN_c_land_grassNumbers hS) (sT_c_land_grassNumbers hS) (sL_c_land_grassNumbers hS) h.1 ?_
          have h := h.2
          refine y_iast (pc := 91) (i := c_then_grass) (n := 10) dX2_grassOfWeek_91 (sN_c_then_grass hS) (sT_c_then_grass hS) (sL_c_then_grass hS) h.1 ?_
          have h := h.2
          have h := h _ rfl
          generalize up I3 c_then_grass (ix (I c_land_grassCells (ix (v5)))) (I3 c_land_grassNumbers (ix (v5))) = I4 at h ⊢
          refine x_iinc (pc := 92) (L' := [some (vr G c_land), some (vi (v1)), some (vi (v2)), some (vr G c_then_grass), some (vr G c_then_rests), some (vi (v5 + 1)), some (vi (I c_land_grassCells (ix (v5))))]) dX2_grassOfWeek_92 rfl (by decide) (xst1 rfl rfl rfl) ?_
          refine x_goto (pc := 95) (t := 14) dX2_grassOfWeek_95 (by decide) ?_
          refine x_less (L' := [some (vr G c_land), some (vi (v1)), some (vi (v2)), some (vr G c_then_grass), some (vr G c_then_rests), some (vi (v5 + 1)), none]) (And.intro rfl (And.intro rfl (And.intro rfl (And.intro rfl (And.intro rfl (And.intro rfl trivial)))))) ?_
          exact h
set_option maxHeartbeats 4000000 in
set_option maxRecDepth 100000 in
theorem b_Wt_weighGrass {G : XG} {S : XS} {I : XI} {v2 : Int} {R : Int → XI → Prop} (hS : xSh S)  (h : Wt_weighGrass_k5 G S I (v2) (0) (0) R) : Wt_weighGrass G S I v2 R := by
  refine x_start [some (vr G c_then), some (vr G c_land), some (vi (v2)), none, none, none] (by decide) (Nat.le_of_ble_eq_true rfl) rfl ?_
  refine x_iconst (pc := 0) dX9_weighGrass_0 ?_
  refine x_istore_n (pc := 1) (L' := [some (vr G c_then), some (vr G c_land), some (vi (v2)), some (vi (0)), none, none]) dX9_weighGrass_1 rfl (by decide) (xst1 rfl rfl rfl) ?_
  refine x_iconst (pc := 2) dX9_weighGrass_2 ?_
  refine x_istore (pc := 3) (L' := [some (vr G c_then), some (vr G c_land), some (vi (v2)), some (vi (0)), some (vi (0)), none]) dX9_weighGrass_3 (by decide) (xst1 rfl rfl rfl) ?_
  exact h
set_option maxHeartbeats 4000000 in
set_option maxRecDepth 100000 in
theorem b_Wt_weighGrass_k5 {G : XG} {S : XS}  {I : XI} {v2 : Int} {v3 : Int} {v4 : Int} {R : Int → XI → Prop} (hS : xSh S)  (h : ((w32 (10) ≤ w32 (v4) → R (v3) I) ∧ (¬ (w32 (10) ≤ w32 (v4)) → ((w32 (v4) = w32 (v2) → Wt_weighGrass_k38 G S I (v2) (v3) (v4) (1) R) ∧ (¬ (w32 (v4) = w32 (v2)) → (inb (((v2) * (10)) + (v4)) 100 ∧ ((w32 (I c_land_ways (ix (((v2) * (10)) + (v4)))) ≤ 0 → Wt_weighGrass_k38 G S I (v2) (v3) (v4) (0) R) ∧ (¬ (w32 (I c_land_ways (ix (((v2) * (10)) + (v4)))) ≤ 0) → Wt_weighGrass_k38 G S I (v2) (v3) (v4) (1) R)))))))) : Wt_weighGrass_k5 G S  I v2 v3 v4 R := by
  unfold Wt_weighGrass_k5
  refine x_iload (pc := 5) dX9_weighGrass_5 rfl ?_
  refine x_bipush (pc := 7) dX9_weighGrass_7 (by decide) ?_
  refine x_icmp_ge (pc := 9) (t := 79) dX9_weighGrass_9 (by decide) (fun e => ?_) (fun e => ?_)
  · have h := h.1 e
    refine x_iload_n (pc := 79) dX9_weighGrass_79 rfl rfl ?_
    exact y_iret (pc := 80) dX9_weighGrass_80 rfl ⟨Nat.le_refl _, Nat.le_refl _⟩ h
  · have h := h.2 e
    refine x_iload (pc := 12) dX9_weighGrass_12 rfl ?_
    refine x_iload_n (pc := 14) dX9_weighGrass_14 rfl rfl ?_
    refine x_icmp_eq (pc := 15) (t := 33) dX9_weighGrass_15 (by decide) (fun e => ?_) (fun e => ?_)
    · have h := h.1 e
      refine x_iconst (pc := 33) dX9_weighGrass_33 ?_
      refine x_goto (pc := 34) (t := 38) dX9_weighGrass_34 (by decide) ?_
      exact h
    · have h := h.2 e
      refine x_aload_n (pc := 18) dX9_weighGrass_18 rfl rfl ?_
      refine x_getR (pc := 19) (i := c_land) (a := c_land_ways) fl_X9_114 dX9_weighGrass_19 (sN_c_land hS) (sT_c_land hS) rfl (sR_c_land_2 hS) ?_
      refine x_iload_n (pc := 22) dX9_weighGrass_22 rfl rfl ?_
      refine x_bipush (pc := 23) dX9_weighGrass_23 (by decide) ?_
      refine x_imul (pc := 25) dX9_weighGrass_25 ?_
      refine x_iload (pc := 26) dX9_weighGrass_26 rfl ?_
      refine x_iadd (pc := 28) dX9_weighGrass_28 ?_
      refine y_iald (pc := 29) (i := c_land_ways) (n := 100) dX9_weighGrass_29 (sN_c_land_ways hS) (sT_c_land_ways hS) (sL_c_land_ways hS) h.1 ?_
      have h := h.2
      refine x_if_le (pc := 30) (t := 37) dX9_weighGrass_30 (by decide) (fun e => ?_) (fun e => ?_)
      · have h := h.1 e
        refine x_iconst (pc := 37) dX9_weighGrass_37 ?_
        exact h
      · have h := h.2 e
        refine x_iconst (pc := 33) dX9_weighGrass_33 ?_
        refine x_goto (pc := 34) (t := 38) dX9_weighGrass_34 (by decide) ?_
        exact h
set_option maxHeartbeats 4000000 in
set_option maxRecDepth 100000 in
theorem b_Wt_weighGrass_k38 {G : XG} {S : XS}  {I : XI} {v2 : Int} {v3 : Int} {v4 : Int} {s0 : Int} {R : Int → XI → Prop} (hS : xSh S)  (h : ((w32 (s0) = 0 → Wt_weighGrass_k62 G S I (v2) (v3) (v4) (0) (v4) R) ∧ (¬ (w32 (s0) = 0) → (inb (v4) 10 ∧ Wt_weighGrass_k62 G S I (v2) (v3) (v4) (I c_then_grass (ix (v4))) (v4) R)))) : Wt_weighGrass_k38 G S  I v2 v3 v4 s0 R := by
  unfold Wt_weighGrass_k38
  refine x_istore (pc := 38) (L' := [some (vr G c_then), some (vr G c_land), some (vi (v2)), some (vi (v3)), some (vi (v4)), some (vi (s0))]) dX9_weighGrass_38 (by decide) (xst1 rfl rfl rfl) ?_
  refine x_aload_n (pc := 40) dX9_weighGrass_40 rfl rfl ?_
  refine x_getR (pc := 41) (i := c_then) (a := c_then_weights) fl_X9_24 dX9_weighGrass_41 (sN_c_then hS) (sT_c_then hS) rfl (sR_c_then_4 hS) ?_
  refine x_iload (pc := 44) dX9_weighGrass_44 rfl ?_
  refine x_iload (pc := 46) dX9_weighGrass_46 rfl ?_
  refine x_if_eq (pc := 48) (t := 61) dX9_weighGrass_48 (by decide) (fun e => ?_) (fun e => ?_)
  · have h := h.1 e
    refine x_iconst (pc := 61) dX9_weighGrass_61 ?_
    refine x_less (L' := [some (vr G c_then), some (vr G c_land), some (vi (v2)), some (vi (v3)), some (vi (v4)), none]) (And.intro rfl (And.intro rfl (And.intro rfl (And.intro rfl (And.intro rfl trivial))))) ?_
    exact h
  · have h := h.2 e
    refine x_aload_n (pc := 51) dX9_weighGrass_51 rfl rfl ?_
    refine x_getR (pc := 52) (i := c_then) (a := c_then_grass) fl_X9_21 dX9_weighGrass_52 (sN_c_then hS) (sT_c_then hS) rfl (sR_c_then_3 hS) ?_
    refine x_iload (pc := 55) dX9_weighGrass_55 rfl ?_
    refine y_iald (pc := 57) (i := c_then_grass) (n := 10) dX9_weighGrass_57 (sN_c_then_grass hS) (sT_c_then_grass hS) (sL_c_then_grass hS) h.1 ?_
    have h := h.2
    refine x_goto (pc := 58) (t := 62) dX9_weighGrass_58 (by decide) ?_
    refine x_less (L' := [some (vr G c_then), some (vr G c_land), some (vi (v2)), some (vi (v3)), some (vi (v4)), none]) (And.intro rfl (And.intro rfl (And.intro rfl (And.intro rfl (And.intro rfl trivial))))) ?_
    exact h
set_option maxHeartbeats 4000000 in
set_option maxRecDepth 100000 in
theorem b_Wt_weighGrass_k62 {G : XG} {S : XS}  {I : XI} {v2 : Int} {v3 : Int} {v4 : Int} {s0 : Int} {s1 : Int} {R : Int → XI → Prop} (hS : xSh S)  (h : (inb (s1) 10 ∧ (∀ I1 : XI, I1 = up I c_then_weights (ix (s1)) (s0) → (inb (v4) 10 ∧ Wt_weighGrass_k5 G S I1 (v2) ((v3) + (I1 c_then_weights (ix (v4)))) (v4 + 1) R)))) : Wt_weighGrass_k62 G S  I v2 v3 v4 s0 s1 R := by
  unfold Wt_weighGrass_k62
  refine y_iast (pc := 62) (i := c_then_weights) (n := 10) dX9_weighGrass_62 (sN_c_then_weights hS) (sT_c_then_weights hS) (sL_c_then_weights hS) h.1 ?_
  have h := h.2
  have h := h _ rfl
  generalize up I c_then_weights (ix (s1)) (s0) = I1 at h ⊢
  refine x_iload_n (pc := 63) dX9_weighGrass_63 rfl rfl ?_
  refine x_aload_n (pc := 64) dX9_weighGrass_64 rfl rfl ?_
  refine x_getR (pc := 65) (i := c_then) (a := c_then_weights) fl_X9_24 dX9_weighGrass_65 (sN_c_then hS) (sT_c_then hS) rfl (sR_c_then_4 hS) ?_
  refine x_iload (pc := 68) dX9_weighGrass_68 rfl ?_
  refine y_iald (pc := 70) (i := c_then_weights) (n := 10) dX9_weighGrass_70 (sN_c_then_weights hS) (sT_c_then_weights hS) (sL_c_then_weights hS) h.1 ?_
  have h := h.2
  refine x_iadd (pc := 71) dX9_weighGrass_71 ?_
  refine x_istore_n (pc := 72) (L' := [some (vr G c_then), some (vr G c_land), some (vi (v2)), some (vi ((v3) + (I1 c_then_weights (ix (v4))))), some (vi (v4)), none]) dX9_weighGrass_72 rfl (by decide) (xst1 rfl rfl rfl) ?_
  refine x_iinc (pc := 73) (L' := [some (vr G c_then), some (vr G c_land), some (vi (v2)), some (vi ((v3) + (I1 c_then_weights (ix (v4))))), some (vi (v4 + 1)), none]) dX9_weighGrass_73 rfl (by decide) (xst1 rfl rfl rfl) ?_
  refine x_goto (pc := 76) (t := 5) dX9_weighGrass_76 (by decide) ?_
  exact h
set_option maxHeartbeats 4000000 in
set_option maxRecDepth 100000 in
theorem b_Wt_share {G : XG} {S : XS} {I : XI} {v1 : Int} {v2 : Int} {v3 : Int} {R : Int → XI → Prop} (hS : xSh S)  (h : ((0 < w32 (v2) → Wt_share_k12 G S I (v1) (v2) (v3) (v1) (0) R) ∧ (¬ (0 < w32 (v2)) → R (0) I))) : Wt_share G S I v1 v2 v3 R := by
  refine x_start [some (vr G c_then), some (vi (v1)), some (vi (v2)), some (vi (v3)), none, none, none, none, none] (by decide) (Nat.le_of_ble_eq_true rfl) rfl ?_
  refine x_iload_n (pc := 0) dX9_share_0 rfl rfl ?_
  refine x_if_gt (pc := 1) (t := 6) dX9_share_1 (by decide) (fun e => ?_) (fun e => ?_)
  · have h := h.1 e
    refine x_iload_n (pc := 6) dX9_share_6 rfl rfl ?_
    refine x_istore (pc := 7) (L' := [some (vr G c_then), some (vi (v1)), some (vi (v2)), some (vi (v3)), some (vi (v1)), none, none, none, none]) dX9_share_7 (by decide) (xst1 rfl rfl rfl) ?_
    refine x_iconst (pc := 9) dX9_share_9 ?_
    refine x_istore (pc := 10) (L' := [some (vr G c_then), some (vi (v1)), some (vi (v2)), some (vi (v3)), some (vi (v1)), some (vi (0)), none, none, none]) dX9_share_10 (by decide) (xst1 rfl rfl rfl) ?_
    exact h
  · have h := h.2 e
    refine x_iconst (pc := 4) dX9_share_4 ?_
    exact y_zret (pc := 5) dX9_share_5 rfl ⟨Nat.le_refl _, Nat.le_refl _⟩ (Or.inl rfl) h
set_option maxHeartbeats 4000000 in
set_option maxRecDepth 100000 in
theorem b_Wt_share_k12 {G : XG} {S : XS}  {I : XI} {v1 : Int} {v2 : Int} {v3 : Int} {v4 : Int} {v5 : Int} {R : Int → XI → Prop} (hS : xSh S)  (h : ((w32 (10) ≤ w32 (v5) → Wt_share_k83 G S I (v3) (v4) (0) R) ∧ (¬ (w32 (10) ≤ w32 (v5)) → (inb (v5) 10 ∧ (w64 (w32 (v2)) ≠ 0 ∧ (w64 (w32 (v2)) ≠ 0 ∧ (inb (v5) 10 ∧ (∀ I1 : XI, I1 = up I c_then_rests (ix (v5)) (lrem ((w32 (v1)) * (w32 (I c_then_weights (ix (v5))))) (w32 (v2))) → (inb ((v3) + (v5)) 6000 ∧ (inb ((v3) + (v5)) 6000 ∧ (∀ I2 : XI, I2 = up I1 c_then_parts (ix ((v3) + (v5))) ((I1 c_then_parts (ix ((v3) + (v5)))) + (ldiv ((w32 (v1)) * (w32 (I c_then_weights (ix (v5))))) (w32 (v2)))) → Wt_share_k12 G S I2 (v1) (v2) (v3) ((v4) - (ldiv ((w32 (v1)) * (w32 (I c_then_weights (ix (v5))))) (w32 (v2)))) (v5 + 1) R))))))))))) : Wt_share_k12 G S  I v1 v2 v3 v4 v5 R := by
  unfold Wt_share_k12
  refine x_iload (pc := 12) dX9_share_12 rfl ?_
  refine x_bipush (pc := 14) dX9_share_14 (by decide) ?_
  refine x_icmp_ge (pc := 16) (t := 80) dX9_share_16 (by decide) (fun e => ?_) (fun e => ?_)
  · have h := h.1 e
    refine x_iconst (pc := 80) dX9_share_80 ?_
    refine x_istore (pc := 81) (L' := [some (vr G c_then), some (vi (v1)), some (vi (v2)), some (vi (v3)), some (vi (v4)), some (vi (0)), none, none, none]) dX9_share_81 (by decide) (xst1 rfl rfl rfl) ?_
    refine x_less (L' := [some (vr G c_then), none, none, some (vi (v3)), some (vi (v4)), some (vi (0)), none, none, none]) (And.intro rfl (And.intro rfl (And.intro rfl (And.intro rfl trivial)))) ?_
    exact h
  · have h := h.2 e
    refine x_iload_n (pc := 19) dX9_share_19 rfl rfl ?_
    refine x_i2l (pc := 20) dX9_share_20 ?_
    refine x_aload_n (pc := 21) dX9_share_21 rfl rfl ?_
    refine x_getR (pc := 22) (i := c_then) (a := c_then_weights) fl_X9_24 dX9_share_22 (sN_c_then hS) (sT_c_then hS) rfl (sR_c_then_4 hS) ?_
    refine x_iload (pc := 25) dX9_share_25 rfl ?_
    refine y_iald (pc := 27) (i := c_then_weights) (n := 10) dX9_share_27 (sN_c_then_weights hS) (sT_c_then_weights hS) (sL_c_then_weights hS) h.1 ?_
    have h := h.2
    refine x_i2l (pc := 28) dX9_share_28 ?_
    refine x_lmul (pc := 29) dX9_share_29 ?_
    refine x_lstore (pc := 30) (L' := [some (vr G c_then), some (vi (v1)), some (vi (v2)), some (vi (v3)), some (vi (v4)), some (vi (v5)), some (vl ((w32 (v1)) * (w32 (I c_then_weights (ix (v5)))))), none, none]) dX9_share_30 (by decide) (xst2 rfl rfl) ?_
    refine x_lload (pc := 32) dX9_share_32 rfl ?_
    refine x_iload_n (pc := 34) dX9_share_34 rfl rfl ?_
    refine x_i2l (pc := 35) dX9_share_35 ?_
    refine x_ldiv (pc := 36) dX9_share_36 h.1 ?_
    have h := h.2
    refine x_l2i (pc := 37) dX9_share_37 ?_
    refine x_istore (pc := 38) (L' := [some (vr G c_then), some (vi (v1)), some (vi (v2)), some (vi (v3)), some (vi (v4)), some (vi (v5)), some (vl ((w32 (v1)) * (w32 (I c_then_weights (ix (v5)))))), none, some (vi (ldiv ((w32 (v1)) * (w32 (I c_then_weights (ix (v5))))) (w32 (v2))))]) dX9_share_38 (by decide) (xst1 rfl rfl trivial) ?_
    refine x_aload_n (pc := 40) dX9_share_40 rfl rfl ?_
    refine x_getR (pc := 41) (i := c_then) (a := c_then_rests) fl_X9_27 dX9_share_41 (sN_c_then hS) (sT_c_then hS) rfl (sR_c_then_5 hS) ?_
    refine x_iload (pc := 44) dX9_share_44 rfl ?_
    refine x_lload (pc := 46) dX9_share_46 rfl ?_
    refine x_iload_n (pc := 48) dX9_share_48 rfl rfl ?_
    refine x_i2l (pc := 49) dX9_share_49 ?_
    refine x_lrem (pc := 50) dX9_share_50 h.1 ?_
    have h := h.2
    refine x_l2i (pc := 51) dX9_share_51 ?_
    refine y_iast (pc := 52) (i := c_then_rests) (n := 10) dX9_share_52 (sN_c_then_rests hS) (sT_c_then_rests hS) (sL_c_then_rests hS) h.1 ?_
    have h := h.2
    have h := h _ rfl
    generalize up I c_then_rests (ix (v5)) (lrem ((w32 (v1)) * (w32 (I c_then_weights (ix (v5))))) (w32 (v2))) = I1 at h ⊢
    refine x_aload_n (pc := 53) dX9_share_53 rfl rfl ?_
    refine x_getR (pc := 54) (i := c_then) (a := c_then_parts) fl_X9_9 dX9_share_54 (sN_c_then hS) (sT_c_then hS) rfl (sR_c_then_0 hS) ?_
    refine x_iload_n (pc := 57) dX9_share_57 rfl rfl ?_
    refine x_iload (pc := 58) dX9_share_58 rfl ?_
    refine x_iadd (pc := 60) dX9_share_60 ?_
    refine x_dup2 (pc := 61) dX9_share_61 rfl rfl ?_
    refine y_iald (pc := 62) (i := c_then_parts) (n := 6000) dX9_share_62 (sN_c_then_parts hS) (sT_c_then_parts hS) (sL_c_then_parts hS) h.1 ?_
    have h := h.2
    refine x_iload (pc := 63) dX9_share_63 rfl ?_
    refine x_iadd (pc := 65) dX9_share_65 ?_
    refine y_iast (pc := 66) (i := c_then_parts) (n := 6000) dX9_share_66 (sN_c_then_parts hS) (sT_c_then_parts hS) (sL_c_then_parts hS) h.1 ?_
    have h := h.2
    have h := h _ rfl
    generalize up I1 c_then_parts (ix ((v3) + (v5))) ((I1 c_then_parts (ix ((v3) + (v5)))) + (ldiv ((w32 (v1)) * (w32 (I c_then_weights (ix (v5))))) (w32 (v2)))) = I2 at h ⊢
    refine x_iload (pc := 67) dX9_share_67 rfl ?_
    refine x_iload (pc := 69) dX9_share_69 rfl ?_
    refine x_isub (pc := 71) dX9_share_71 ?_
    refine x_istore (pc := 72) (L' := [some (vr G c_then), some (vi (v1)), some (vi (v2)), some (vi (v3)), some (vi ((v4) - (ldiv ((w32 (v1)) * (w32 (I c_then_weights (ix (v5))))) (w32 (v2))))), some (vi (v5)), some (vl ((w32 (v1)) * (w32 (I c_then_weights (ix (v5)))))), none, some (vi (ldiv ((w32 (v1)) * (w32 (I c_then_weights (ix (v5))))) (w32 (v2))))]) dX9_share_72 (by decide) (xst1 rfl rfl rfl) ?_
    refine x_iinc (pc := 74) (L' := [some (vr G c_then), some (vi (v1)), some (vi (v2)), some (vi (v3)), some (vi ((v4) - (ldiv ((w32 (v1)) * (w32 (I c_then_weights (ix (v5))))) (w32 (v2))))), some (vi (v5 + 1)), some (vl ((w32 (v1)) * (w32 (I c_then_weights (ix (v5)))))), none, some (vi (ldiv ((w32 (v1)) * (w32 (I c_then_weights (ix (v5))))) (w32 (v2))))]) dX9_share_74 rfl (by decide) (xst1 rfl rfl rfl) ?_
    refine x_goto (pc := 77) (t := 12) dX9_share_77 (by decide) ?_
    refine x_less (L' := [some (vr G c_then), some (vi (v1)), some (vi (v2)), some (vi (v3)), some (vi ((v4) - (ldiv ((w32 (v1)) * (w32 (I c_then_weights (ix (v5))))) (w32 (v2))))), some (vi (v5 + 1)), none, none, none]) (And.intro rfl (And.intro rfl (And.intro rfl (And.intro rfl (And.intro rfl (And.intro rfl trivial)))))) ?_
    exact h
set_option maxHeartbeats 4000000 in
set_option maxRecDepth 100000 in
theorem b_Wt_share_k83 {G : XG} {S : XS}  {I : XI} {v3 : Int} {v4 : Int} {v5 : Int} {R : Int → XI → Prop} (hS : xSh S)  (h : ((w32 (10) ≤ w32 (v5) → R (1) I) ∧ (¬ (w32 (10) ≤ w32 (v5)) → ((w32 (v4) ≤ 0 → R (1) I) ∧ (¬ (w32 (v4) ≤ 0) → Wt_share_k101 G S I (v3) (v4) (v5) (0) (1) R))))) : Wt_share_k83 G S  I v3 v4 v5 R := by
  unfold Wt_share_k83
  refine x_iload (pc := 83) dX9_share_83 rfl ?_
  refine x_bipush (pc := 85) dX9_share_85 (by decide) ?_
  refine x_icmp_ge (pc := 87) (t := 165) dX9_share_87 (by decide) (fun e => ?_) (fun e => ?_)
  · have h := h.1 e
    refine x_iconst (pc := 165) dX9_share_165 ?_
    exact y_zret (pc := 166) dX9_share_166 rfl ⟨Nat.le_refl _, Nat.le_refl _⟩ (Or.inr rfl) h
  · have h := h.2 e
    refine x_iload (pc := 90) dX9_share_90 rfl ?_
    refine x_if_le (pc := 92) (t := 165) dX9_share_92 (by decide) (fun e => ?_) (fun e => ?_)
    · have h := h.1 e
      refine x_iconst (pc := 165) dX9_share_165 ?_
      exact y_zret (pc := 166) dX9_share_166 rfl ⟨Nat.le_refl _, Nat.le_refl _⟩ (Or.inr rfl) h
    · have h := h.2 e
      refine x_iconst (pc := 95) dX9_share_95 ?_
      refine x_istore (pc := 96) (L' := [some (vr G c_then), none, none, some (vi (v3)), some (vi (v4)), some (vi (v5)), some (vi (0)), none, none]) dX9_share_96 (by decide) (xst1 rfl rfl rfl) ?_
      refine x_iconst (pc := 98) dX9_share_98 ?_
      refine x_istore (pc := 99) (L' := [some (vr G c_then), none, none, some (vi (v3)), some (vi (v4)), some (vi (v5)), some (vi (0)), some (vi (1)), none]) dX9_share_99 (by decide) (xst1 rfl rfl rfl) ?_
      exact h
set_option maxHeartbeats 4000000 in
set_option maxRecDepth 100000 in
theorem b_Wt_share_k101 {G : XG} {S : XS}  {I : XI} {v3 : Int} {v4 : Int} {v5 : Int} {v6 : Int} {v7 : Int} {R : Int → XI → Prop} (hS : xSh S)  (h : ((w32 (10) ≤ w32 (v7) → (inb ((v3) + (v6)) 6000 ∧ (inb ((v3) + (v6)) 6000 ∧ (∀ I3 : XI, I3 = up I c_then_parts (ix ((v3) + (v6))) ((I c_then_parts (ix ((v3) + (v6)))) + (1)) → (inb (v6) 10 ∧ (∀ I4 : XI, I4 = up I3 c_then_rests (ix (v6)) ((-1)) → Wt_share_k83 G S I4 (v3) (v4 + (-1)) (v5 + 1) R)))))) ∧ (¬ (w32 (10) ≤ w32 (v7)) → (inb (v7) 10 ∧ (inb (v6) 10 ∧ ((w32 (I c_then_rests (ix (v7))) ≤ w32 (I c_then_rests (ix (v6))) → Wt_share_k101 G S I (v3) (v4) (v5) (v6) (v7 + 1) R) ∧ (¬ (w32 (I c_then_rests (ix (v7))) ≤ w32 (I c_then_rests (ix (v6)))) → Wt_share_k101 G S I (v3) (v4) (v5) (v7) (v7 + 1) R))))))) : Wt_share_k101 G S  I v3 v4 v5 v6 v7 R := by
  unfold Wt_share_k101
  refine x_iload (pc := 101) dX9_share_101 rfl ?_
  refine x_bipush (pc := 103) dX9_share_103 (by decide) ?_
  refine x_icmp_ge (pc := 105) (t := 135) dX9_share_105 (by decide) (fun e => ?_) (fun e => ?_)
  · have h := h.1 e
    refine x_aload_n (pc := 135) dX9_share_135 rfl rfl ?_
    refine x_getR (pc := 136) (i := c_then) (a := c_then_parts) fl_X9_9 dX9_share_136 (sN_c_then hS) (sT_c_then hS) rfl (sR_c_then_0 hS) ?_
    refine x_iload_n (pc := 139) dX9_share_139 rfl rfl ?_
    refine x_iload (pc := 140) dX9_share_140 rfl ?_
    refine x_iadd (pc := 142) dX9_share_142 ?_
    refine x_dup2 (pc := 143) dX9_share_143 rfl rfl ?_
    refine y_iald (pc := 144) (i := c_then_parts) (n := 6000) dX9_share_144 (sN_c_then_parts hS) (sT_c_then_parts hS) (sL_c_then_parts hS) h.1 ?_
    have h := h.2
    refine x_iconst (pc := 145) dX9_share_145 ?_
    refine x_iadd (pc := 146) dX9_share_146 ?_
    refine y_iast (pc := 147) (i := c_then_parts) (n := 6000) dX9_share_147 (sN_c_then_parts hS) (sT_c_then_parts hS) (sL_c_then_parts hS) h.1 ?_
    have h := h.2
    have h := h _ rfl
    generalize up I c_then_parts (ix ((v3) + (v6))) ((I c_then_parts (ix ((v3) + (v6)))) + (1)) = I3 at h ⊢
    refine x_aload_n (pc := 148) dX9_share_148 rfl rfl ?_
    refine x_getR (pc := 149) (i := c_then) (a := c_then_rests) fl_X9_27 dX9_share_149 (sN_c_then hS) (sT_c_then hS) rfl (sR_c_then_5 hS) ?_
    refine x_iload (pc := 152) dX9_share_152 rfl ?_
    refine x_iconst (pc := 154) dX9_share_154 ?_
    refine y_iast (pc := 155) (i := c_then_rests) (n := 10) dX9_share_155 (sN_c_then_rests hS) (sT_c_then_rests hS) (sL_c_then_rests hS) h.1 ?_
    have h := h.2
    have h := h _ rfl
    generalize up I3 c_then_rests (ix (v6)) ((-1)) = I4 at h ⊢
    refine x_iinc (pc := 156) (L' := [some (vr G c_then), none, none, some (vi (v3)), some (vi (v4 + (-1))), some (vi (v5)), some (vi (v6)), some (vi (v7)), none]) dX9_share_156 rfl (by decide) (xst1 rfl rfl rfl) ?_
    refine x_iinc (pc := 159) (L' := [some (vr G c_then), none, none, some (vi (v3)), some (vi (v4 + (-1))), some (vi (v5 + 1)), some (vi (v6)), some (vi (v7)), none]) dX9_share_159 rfl (by decide) (xst1 rfl rfl rfl) ?_
    refine x_goto (pc := 162) (t := 83) dX9_share_162 (by decide) ?_
    refine x_less (L' := [some (vr G c_then), none, none, some (vi (v3)), some (vi (v4 + (-1))), some (vi (v5 + 1)), none, none, none]) (And.intro rfl (And.intro rfl (And.intro rfl (And.intro rfl trivial)))) ?_
    exact h
  · have h := h.2 e
    refine x_aload_n (pc := 108) dX9_share_108 rfl rfl ?_
    refine x_getR (pc := 109) (i := c_then) (a := c_then_rests) fl_X9_27 dX9_share_109 (sN_c_then hS) (sT_c_then hS) rfl (sR_c_then_5 hS) ?_
    refine x_iload (pc := 112) dX9_share_112 rfl ?_
    refine y_iald (pc := 114) (i := c_then_rests) (n := 10) dX9_share_114 (sN_c_then_rests hS) (sT_c_then_rests hS) (sL_c_then_rests hS) h.1 ?_
    have h := h.2
    refine x_aload_n (pc := 115) dX9_share_115 rfl rfl ?_
    refine x_getR (pc := 116) (i := c_then) (a := c_then_rests) fl_X9_27 dX9_share_116 (sN_c_then hS) (sT_c_then hS) rfl (sR_c_then_5 hS) ?_
    refine x_iload (pc := 119) dX9_share_119 rfl ?_
    refine y_iald (pc := 121) (i := c_then_rests) (n := 10) dX9_share_121 (sN_c_then_rests hS) (sT_c_then_rests hS) (sL_c_then_rests hS) h.1 ?_
    have h := h.2
    refine x_icmp_le (pc := 122) (t := 129) dX9_share_122 (by decide) (fun e => ?_) (fun e => ?_)
    · have h := h.1 e
      refine x_iinc (pc := 129) (L' := [some (vr G c_then), none, none, some (vi (v3)), some (vi (v4)), some (vi (v5)), some (vi (v6)), some (vi (v7 + 1)), none]) dX9_share_129 rfl (by decide) (xst1 rfl rfl rfl) ?_
      refine x_goto (pc := 132) (t := 101) dX9_share_132 (by decide) ?_
      exact h
    · have h := h.2 e
      refine x_iload (pc := 125) dX9_share_125 rfl ?_
      refine x_istore (pc := 127) (L' := [some (vr G c_then), none, none, some (vi (v3)), some (vi (v4)), some (vi (v5)), some (vi (v7)), some (vi (v7)), none]) dX9_share_127 (by decide) (xst1 rfl rfl rfl) ?_
      refine x_iinc (pc := 129) (L' := [some (vr G c_then), none, none, some (vi (v3)), some (vi (v4)), some (vi (v5)), some (vi (v7)), some (vi (v7 + 1)), none]) dX9_share_129 rfl (by decide) (xst1 rfl rfl rfl) ?_
      refine x_goto (pc := 132) (t := 101) dX9_share_132 (by decide) ?_
      exact h
set_option maxHeartbeats 4000000 in
set_option maxRecDepth 100000 in
theorem b_Wt_gather {G : XG} {S : XS} {I : XI} {v1 : Int} {v2 : Int} {R : Int → XI → Prop} (hS : xSh S)  (h : (inb ((v1) + (v2)) 6000 ∧ ((w32 (I c_then_parts (ix ((v1) + (v2)))) = 0 → R (0) I) ∧ (¬ (w32 (I c_then_parts (ix ((v1) + (v2)))) = 0) → Wt_clearRow G S I (v1) (fun I1 => (inb ((v1) + (v2)) 6000 ∧ (∀ I2 : XI, I2 = up I1 c_then_parts (ix ((v1) + (v2))) (1000000) → R (1) I2))))))) : Wt_gather G S I v1 v2 R := by
  refine x_start [some (vr G c_then), some (vi (v1)), some (vi (v2))] (by decide) (Nat.le_of_ble_eq_true rfl) rfl ?_
  refine x_aload_n (pc := 0) dX9_gather_0 rfl rfl ?_
  refine x_getR (pc := 1) (i := c_then) (a := c_then_parts) fl_X9_9 dX9_gather_1 (sN_c_then hS) (sT_c_then hS) rfl (sR_c_then_0 hS) ?_
  refine x_iload_n (pc := 4) dX9_gather_4 rfl rfl ?_
  refine x_iload_n (pc := 5) dX9_gather_5 rfl rfl ?_
  refine x_iadd (pc := 6) dX9_gather_6 ?_
  refine y_iald (pc := 7) (i := c_then_parts) (n := 6000) dX9_gather_7 (sN_c_then_parts hS) (sT_c_then_parts hS) (sL_c_then_parts hS) h.1 ?_
  have h := h.2
  refine x_if_ne (pc := 8) (t := 13) dX9_gather_8 (by decide) (fun e => ?_) (fun e => ?_)
  · have h := h.1 e
    refine x_iconst (pc := 11) dX9_gather_11 ?_
    exact y_zret (pc := 12) dX9_gather_12 rfl ⟨Nat.le_refl _, Nat.le_refl _⟩ (Or.inl rfl) h
  · have h := h.2 e
    refine x_aload_n (pc := 13) dX9_gather_13 rfl rfl ?_
    refine x_iload_n (pc := 14) dX9_gather_14 rfl rfl ?_
    refine y_Vv (pc := 15) (i := c_then) (As := [vi (v1)]) (rest := []) ok_X9_clearRow ml_X9_77 dX9_gather_15 (sN_c_then hS) (sT_c_then hS) (by decide) rfl rfl rfl ⟨rfl, rfl⟩ ⟨by decide, by decide⟩ ⟨Nat.le_refl _, Nat.le_refl _⟩ (Nat.le_of_ble_eq_true rfl) rfl h (fun I1 h => ?_)
    refine x_aload_n (pc := 18) dX9_gather_18 rfl rfl ?_
    refine x_getR (pc := 19) (i := c_then) (a := c_then_parts) fl_X9_9 dX9_gather_19 (sN_c_then hS) (sT_c_then hS) rfl (sR_c_then_0 hS) ?_
    refine x_iload_n (pc := 22) dX9_gather_22 rfl rfl ?_
    refine x_iload_n (pc := 23) dX9_gather_23 rfl rfl ?_
    refine x_iadd (pc := 24) dX9_gather_24 ?_
    refine x_ldc (pc := 25) (z := 1000000) dX9_gather_25 ko_X9_84 rfl ?_
    refine y_iast (pc := 27) (i := c_then_parts) (n := 6000) dX9_gather_27 (sN_c_then_parts hS) (sT_c_then_parts hS) (sL_c_then_parts hS) h.1 ?_
    have h := h.2
    have h := h _ rfl
    generalize up I1 c_then_parts (ix ((v1) + (v2))) (1000000) = I2 at h ⊢
    refine x_iconst (pc := 28) dX9_gather_28 ?_
    exact y_zret (pc := 29) dX9_gather_29 rfl ⟨Nat.le_refl _, Nat.le_refl _⟩ (Or.inr rfl) h
set_option maxHeartbeats 4000000 in
set_option maxRecDepth 100000 in
theorem b_Wt_leave {G : XG} {S : XS} {I : XI} {v1 : Int} {v2 : Int} {R : Int → XI → Prop} (hS : xSh S)  (h : (inb ((v1) + (v2)) 6000 ∧ ((w32 ((1000000) - (I c_then_parts (ix ((v1) + (v2))))) = 0 → R (0) I) ∧ (¬ (w32 ((1000000) - (I c_then_parts (ix ((v1) + (v2))))) = 0) → Wt_leave_k21 G S I (v1) (v2) ((1000000) - (I c_then_parts (ix ((v1) + (v2))))) (0) R)))) : Wt_leave G S I v1 v2 R := by
  refine x_start [some (vr G c_then), some (vi (v1)), some (vi (v2)), none, none] (by decide) (Nat.le_of_ble_eq_true rfl) rfl ?_
  refine x_ldc (pc := 0) (z := 1000000) dX9_leave_0 ko_X9_84 rfl ?_
  refine x_aload_n (pc := 2) dX9_leave_2 rfl rfl ?_
  refine x_getR (pc := 3) (i := c_then) (a := c_then_parts) fl_X9_9 dX9_leave_3 (sN_c_then hS) (sT_c_then hS) rfl (sR_c_then_0 hS) ?_
  refine x_iload_n (pc := 6) dX9_leave_6 rfl rfl ?_
  refine x_iload_n (pc := 7) dX9_leave_7 rfl rfl ?_
  refine x_iadd (pc := 8) dX9_leave_8 ?_
  refine y_iald (pc := 9) (i := c_then_parts) (n := 6000) dX9_leave_9 (sN_c_then_parts hS) (sT_c_then_parts hS) (sL_c_then_parts hS) h.1 ?_
  have h := h.2
  refine x_isub (pc := 10) dX9_leave_10 ?_
  refine x_istore_n (pc := 11) (L' := [some (vr G c_then), some (vi (v1)), some (vi (v2)), some (vi ((1000000) - (I c_then_parts (ix ((v1) + (v2)))))), none]) dX9_leave_11 rfl (by decide) (xst1 rfl rfl rfl) ?_
  refine x_iload_n (pc := 12) dX9_leave_12 rfl rfl ?_
  refine x_if_ne (pc := 13) (t := 18) dX9_leave_13 (by decide) (fun e => ?_) (fun e => ?_)
  · have h := h.1 e
    refine x_iconst (pc := 16) dX9_leave_16 ?_
    exact y_zret (pc := 17) dX9_leave_17 rfl ⟨Nat.le_refl _, Nat.le_refl _⟩ (Or.inl rfl) h
  · have h := h.2 e
    refine x_iconst (pc := 18) dX9_leave_18 ?_
    refine x_istore (pc := 19) (L' := [some (vr G c_then), some (vi (v1)), some (vi (v2)), some (vi ((1000000) - (I c_then_parts (ix ((v1) + (v2)))))), some (vi (0))]) dX9_leave_19 (by decide) (xst1 rfl rfl rfl) ?_
    exact h
set_option maxHeartbeats 4000000 in
set_option maxRecDepth 100000 in
theorem b_Wt_leave_k21 {G : XG} {S : XS}  {I : XI} {v1 : Int} {v2 : Int} {v3 : Int} {v4 : Int} {R : Int → XI → Prop} (hS : xSh S)  (h : ((w32 (10) ≤ w32 (v4) → Wt_share G S I (1000000) (v3) (v1) (fun r2 I1 => (((r2) = 0 ∨ (r2) = 1) ∧ R (r2) I1))) ∧ (¬ (w32 (10) ≤ w32 (v4)) → ((w32 (v4) = w32 (v2) → Wt_leave_k53 G S I (v1) (v2) (v3) (v4) (0) (v4) R) ∧ (¬ (w32 (v4) = w32 (v2)) → (inb ((v1) + (v4)) 6000 ∧ Wt_leave_k53 G S I (v1) (v2) (v3) (v4) (I c_then_parts (ix ((v1) + (v4)))) (v4) R)))))) : Wt_leave_k21 G S  I v1 v2 v3 v4 R := by
  unfold Wt_leave_k21
  refine x_iload (pc := 21) dX9_leave_21 rfl ?_
  refine x_bipush (pc := 23) dX9_leave_23 (by decide) ?_
  refine x_icmp_ge (pc := 25) (t := 70) dX9_leave_25 (by decide) (fun e => ?_) (fun e => ?_)
  · have h := h.1 e
    refine x_aload_n (pc := 70) dX9_leave_70 rfl rfl ?_
    refine x_ldc (pc := 71) (z := 1000000) dX9_leave_71 ko_X9_84 rfl ?_
    refine x_iload_n (pc := 73) dX9_leave_73 rfl rfl ?_
    refine x_iload_n (pc := 74) dX9_leave_74 rfl rfl ?_
    refine y_Vi (pc := 75) (i := c_then) (As := [vi (1000000), vi (v3), vi (v1)]) (rest := []) ok_X9_share ml_X9_110 dX9_leave_75 (sN_c_then hS) (sT_c_then hS) (by decide) rfl rfl rfl ⟨rfl, rfl⟩ ⟨by decide, by decide⟩ ⟨Nat.le_refl _, Nat.le_refl _⟩ (Nat.le_of_ble_eq_true rfl) rfl h (fun r2 I1 h => ?_)
    exact y_zret (pc := 78) dX9_leave_78 rfl ⟨Nat.le_refl _, Nat.le_refl _⟩ h.1 h.2
  · have h := h.2 e
    refine x_aload_n (pc := 28) dX9_leave_28 rfl rfl ?_
    refine x_getR (pc := 29) (i := c_then) (a := c_then_weights) fl_X9_24 dX9_leave_29 (sN_c_then hS) (sT_c_then hS) rfl (sR_c_then_4 hS) ?_
    refine x_iload (pc := 32) dX9_leave_32 rfl ?_
    refine x_iload (pc := 34) dX9_leave_34 rfl ?_
    refine x_iload_n (pc := 36) dX9_leave_36 rfl rfl ?_
    refine x_icmp_ne (pc := 37) (t := 44) dX9_leave_37 (by decide) (fun e => ?_) (fun e => ?_)
    · have h := h.1 e
      refine x_iconst (pc := 40) dX9_leave_40 ?_
      refine x_goto (pc := 41) (t := 53) dX9_leave_41 (by decide) ?_
      exact h
    · have h := h.2 e
      refine x_aload_n (pc := 44) dX9_leave_44 rfl rfl ?_
      refine x_getR (pc := 45) (i := c_then) (a := c_then_parts) fl_X9_9 dX9_leave_45 (sN_c_then hS) (sT_c_then hS) rfl (sR_c_then_0 hS) ?_
      refine x_iload_n (pc := 48) dX9_leave_48 rfl rfl ?_
      refine x_iload (pc := 49) dX9_leave_49 rfl ?_
      refine x_iadd (pc := 51) dX9_leave_51 ?_
      refine y_iald (pc := 52) (i := c_then_parts) (n := 6000) dX9_leave_52 (sN_c_then_parts hS) (sT_c_then_parts hS) (sL_c_then_parts hS) h.1 ?_
      have h := h.2
      exact h
set_option maxHeartbeats 4000000 in
set_option maxRecDepth 100000 in
theorem b_Wt_leave_k53 {G : XG} {S : XS}  {I : XI} {v1 : Int} {v2 : Int} {v3 : Int} {v4 : Int} {s0 : Int} {s1 : Int} {R : Int → XI → Prop} (hS : xSh S)  (h : (inb (s1) 10 ∧ (∀ I3 : XI, I3 = up I c_then_weights (ix (s1)) (s0) → (inb ((v1) + (v4)) 6000 ∧ (∀ I4 : XI, I4 = up I3 c_then_parts (ix ((v1) + (v4))) (0) → Wt_leave_k21 G S I4 (v1) (v2) (v3) (v4 + 1) R))))) : Wt_leave_k53 G S  I v1 v2 v3 v4 s0 s1 R := by
  unfold Wt_leave_k53
  refine y_iast (pc := 53) (i := c_then_weights) (n := 10) dX9_leave_53 (sN_c_then_weights hS) (sT_c_then_weights hS) (sL_c_then_weights hS) h.1 ?_
  have h := h.2
  have h := h _ rfl
  generalize up I c_then_weights (ix (s1)) (s0) = I3 at h ⊢
  refine x_aload_n (pc := 54) dX9_leave_54 rfl rfl ?_
  refine x_getR (pc := 55) (i := c_then) (a := c_then_parts) fl_X9_9 dX9_leave_55 (sN_c_then hS) (sT_c_then hS) rfl (sR_c_then_0 hS) ?_
  refine x_iload_n (pc := 58) dX9_leave_58 rfl rfl ?_
  refine x_iload (pc := 59) dX9_leave_59 rfl ?_
  refine x_iadd (pc := 61) dX9_leave_61 ?_
  refine x_iconst (pc := 62) dX9_leave_62 ?_
  refine y_iast (pc := 63) (i := c_then_parts) (n := 6000) dX9_leave_63 (sN_c_then_parts hS) (sT_c_then_parts hS) (sL_c_then_parts hS) h.1 ?_
  have h := h.2
  have h := h _ rfl
  generalize up I3 c_then_parts (ix ((v1) + (v4))) (0) = I4 at h ⊢
  refine x_iinc (pc := 64) (L' := [some (vr G c_then), some (vi (v1)), some (vi (v2)), some (vi (v3)), some (vi (v4 + 1))]) dX9_leave_64 rfl (by decide) (xst1 rfl rfl rfl) ?_
  refine x_goto (pc := 67) (t := 21) dX9_leave_67 (by decide) ?_
  exact h
set_option maxHeartbeats 4000000 in
set_option maxRecDepth 100000 in
theorem b_Pa_passRow {G : XG} {S : XS} {I : XI} {v1 : Int} {v2 : Int} {R : XI → Prop} (hS : xSh S)  (h : Pa_passRow_k0 G S I (v1) (v2) R) : Pa_passRow G S I v1 v2 R := by
  refine x_start [some (vr G c_parser), some (vi (v1)), some (vi (v2))] (by decide) (Nat.le_of_ble_eq_true rfl) rfl ?_
  exact h
set_option maxHeartbeats 4000000 in
set_option maxRecDepth 100000 in
theorem b_Pa_passRow_k0 {G : XG} {S : XS}  {I : XI} {v1 : Int} {v2 : Int} {R : XI → Prop} (hS : xSh S)  (h : ((w32 (I c_parser 4) ≤ w32 (I c_parser 5) → R I) ∧ (¬ (w32 (I c_parser 4) ≤ w32 (I c_parser 5)) → (inb (I c_parser 5) 500 ∧ ((w32 (I c_parser_bytes (ix (I c_parser 5))) < w32 (v1) → R I) ∧ (¬ (w32 (I c_parser_bytes (ix (I c_parser 5))) < w32 (v1)) → (inb (I c_parser 5) 500 ∧ ((w32 (v2) < w32 (I c_parser_bytes (ix (I c_parser 5))) → R I) ∧ (¬ (w32 (v2) < w32 (I c_parser_bytes (ix (I c_parser 5)))) → (∀ I1 : XI, I1 = up I c_parser 5 ((I c_parser 5) + (1)) → Pa_passRow_k0 G S I1 (v1) (v2) R)))))))))) : Pa_passRow_k0 G S  I v1 v2 R := by
  unfold Pa_passRow_k0
  refine x_aload_n (pc := 0) dX3_passRow_0 rfl rfl ?_
  refine x_getI (pc := 1) (i := c_parser) fl_X3_32 dX3_passRow_1 (sN_c_parser hS) (sT_c_parser hS) rfl ?_
  refine x_aload_n (pc := 4) dX3_passRow_4 rfl rfl ?_
  refine x_getI (pc := 5) (i := c_parser) fl_X3_29 dX3_passRow_5 (sN_c_parser hS) (sT_c_parser hS) rfl ?_
  refine x_icmp_ge (pc := 8) (t := 50) dX3_passRow_8 (by decide) (fun e => ?_) (fun e => ?_)
  · have h := h.1 e
    exact y_vret (pc := 50) dX3_passRow_50 rfl ⟨Nat.le_refl _, Nat.le_refl _⟩ h
  · have h := h.2 e
    refine x_aload_n (pc := 11) dX3_passRow_11 rfl rfl ?_
    refine x_getR (pc := 12) (i := c_parser) (a := c_parser_bytes) fl_X3_25 dX3_passRow_12 (sN_c_parser hS) (sT_c_parser hS) rfl (sR_c_parser_3 hS) ?_
    refine x_aload_n (pc := 15) dX3_passRow_15 rfl rfl ?_
    refine x_getI (pc := 16) (i := c_parser) fl_X3_32 dX3_passRow_16 (sN_c_parser hS) (sT_c_parser hS) rfl ?_
    refine y_iald (pc := 19) (i := c_parser_bytes) (n := 500) dX3_passRow_19 (sN_c_parser_bytes hS) (sT_c_parser_bytes hS) (sL_c_parser_bytes hS) h.1 ?_
    have h := h.2
    refine x_iload_n (pc := 20) dX3_passRow_20 rfl rfl ?_
    refine x_icmp_lt (pc := 21) (t := 50) dX3_passRow_21 (by decide) (fun e => ?_) (fun e => ?_)
    · have h := h.1 e
      exact y_vret (pc := 50) dX3_passRow_50 rfl ⟨Nat.le_refl _, Nat.le_refl _⟩ h
    · have h := h.2 e
      refine x_aload_n (pc := 24) dX3_passRow_24 rfl rfl ?_
      refine x_getR (pc := 25) (i := c_parser) (a := c_parser_bytes) fl_X3_25 dX3_passRow_25 (sN_c_parser hS) (sT_c_parser hS) rfl (sR_c_parser_3 hS) ?_
      refine x_aload_n (pc := 28) dX3_passRow_28 rfl rfl ?_
      refine x_getI (pc := 29) (i := c_parser) fl_X3_32 dX3_passRow_29 (sN_c_parser hS) (sT_c_parser hS) rfl ?_
      refine y_iald (pc := 32) (i := c_parser_bytes) (n := 500) dX3_passRow_32 (sN_c_parser_bytes hS) (sT_c_parser_bytes hS) (sL_c_parser_bytes hS) h.1 ?_
      have h := h.2
      refine x_iload_n (pc := 33) dX3_passRow_33 rfl rfl ?_
      refine x_icmp_gt (pc := 34) (t := 50) dX3_passRow_34 (by decide) (fun e => ?_) (fun e => ?_)
      · have h := h.1 e
        exact y_vret (pc := 50) dX3_passRow_50 rfl ⟨Nat.le_refl _, Nat.le_refl _⟩ h
      · have h := h.2 e
        refine x_aload_n (pc := 37) dX3_passRow_37 rfl rfl ?_
        refine x_dup (pc := 38) dX3_passRow_38 rfl ?_
        refine x_getI (pc := 39) (i := c_parser) fl_X3_32 dX3_passRow_39 (sN_c_parser hS) (sT_c_parser hS) rfl ?_
        refine x_iconst (pc := 42) dX3_passRow_42 ?_
        refine x_iadd (pc := 43) dX3_passRow_43 ?_
        refine x_putI (pc := 44) (i := c_parser) fl_X3_32 dX3_passRow_44 (sN_c_parser hS) (sT_c_parser hS) rfl ?_
        have h := h _ rfl
        generalize up I c_parser 5 ((I c_parser 5) + (1)) = I1 at h ⊢
        refine x_goto (pc := 47) (t := 0) dX3_passRow_47 (by decide) ?_
        exact h
set_option maxHeartbeats 4000000 in
set_option maxRecDepth 100000 in
theorem b_Pa_readDigits {G : XG} {S : XS} {I : XI}  {R : Int → XI → Prop} (hS : xSh S)  (h : Pa_readDigits_k7 G S I (0) (I c_parser 7) R) : Pa_readDigits G S I  R := by
  refine x_start [some (vr G c_parser), none, none] (by decide) (Nat.le_of_ble_eq_true rfl) rfl ?_
  refine x_iconst (pc := 0) dX3_readDigits_0 ?_
  refine x_istore_n (pc := 1) (L' := [some (vr G c_parser), some (vi (0)), none]) dX3_readDigits_1 rfl (by decide) (xst1 rfl rfl rfl) ?_
  refine x_aload_n (pc := 2) dX3_readDigits_2 rfl rfl ?_
  refine x_getI (pc := 3) (i := c_parser) fl_X3_38 dX3_readDigits_3 (sN_c_parser hS) (sT_c_parser hS) rfl ?_
  refine x_istore_n (pc := 6) (L' := [some (vr G c_parser), some (vi (0)), some (vi (I c_parser 7))]) dX3_readDigits_6 rfl (by decide) (xst1 rfl rfl rfl) ?_
  exact h
set_option maxHeartbeats 4000000 in
set_option maxRecDepth 100000 in
theorem b_Pa_readDigits_k7 {G : XG} {S : XS}  {I : XI} {v1 : Int} {v2 : Int} {R : Int → XI → Prop} (hS : xSh S)  (h : ((w32 (I c_parser 5) ≤ w32 (v2) → R (v1) I) ∧ (¬ (w32 (I c_parser 5) ≤ w32 (v2)) → (inb (v2) 500 ∧ Pa_readDigits_k7 G S I ((((v1) * (10)) + (I c_parser_bytes (ix (v2)))) - (48)) (v2 + 1) R)))) : Pa_readDigits_k7 G S  I v1 v2 R := by
  unfold Pa_readDigits_k7
  refine x_iload_n (pc := 7) dX3_readDigits_7 rfl rfl ?_
  refine x_aload_n (pc := 8) dX3_readDigits_8 rfl rfl ?_
  refine x_getI (pc := 9) (i := c_parser) fl_X3_32 dX3_readDigits_9 (sN_c_parser hS) (sT_c_parser hS) rfl ?_
  refine x_icmp_ge (pc := 12) (t := 36) dX3_readDigits_12 (by decide) (fun e => ?_) (fun e => ?_)
  · have h := h.1 e
    refine x_iload_n (pc := 36) dX3_readDigits_36 rfl rfl ?_
    exact y_iret (pc := 37) dX3_readDigits_37 rfl ⟨Nat.le_refl _, Nat.le_refl _⟩ h
  · have h := h.2 e
    refine x_iload_n (pc := 15) dX3_readDigits_15 rfl rfl ?_
    refine x_bipush (pc := 16) dX3_readDigits_16 (by decide) ?_
    refine x_imul (pc := 18) dX3_readDigits_18 ?_
    refine x_aload_n (pc := 19) dX3_readDigits_19 rfl rfl ?_
    refine x_getR (pc := 20) (i := c_parser) (a := c_parser_bytes) fl_X3_25 dX3_readDigits_20 (sN_c_parser hS) (sT_c_parser hS) rfl (sR_c_parser_3 hS) ?_
    refine x_iload_n (pc := 23) dX3_readDigits_23 rfl rfl ?_
    refine y_iald (pc := 24) (i := c_parser_bytes) (n := 500) dX3_readDigits_24 (sN_c_parser_bytes hS) (sT_c_parser_bytes hS) (sL_c_parser_bytes hS) h.1 ?_
    have h := h.2
    refine x_iadd (pc := 25) dX3_readDigits_25 ?_
    refine x_bipush (pc := 26) dX3_readDigits_26 (by decide) ?_
    refine x_isub (pc := 28) dX3_readDigits_28 ?_
    refine x_istore_n (pc := 29) (L' := [some (vr G c_parser), some (vi ((((v1) * (10)) + (I c_parser_bytes (ix (v2)))) - (48))), some (vi (v2))]) dX3_readDigits_29 rfl (by decide) (xst1 rfl rfl rfl) ?_
    refine x_iinc (pc := 30) (L' := [some (vr G c_parser), some (vi ((((v1) * (10)) + (I c_parser_bytes (ix (v2)))) - (48))), some (vi (v2 + 1))]) dX3_readDigits_30 rfl (by decide) (xst1 rfl rfl rfl) ?_
    refine x_goto (pc := 33) (t := 7) dX3_readDigits_33 (by decide) ?_
    exact h
set_option maxHeartbeats 4000000 in
set_option maxRecDepth 100000 in
theorem b_Pa_note {G : XG} {S : XS} {I : XI} {v1 : Int} {R : XI → Prop} (hS : xSh S)  (h : ((w32 (I c_parser 1) = 0 → (∀ I1 : XI, I1 = up I c_parser 1 (v1) → (∀ I2 : XI, I2 = up I1 c_parser 2 (I1 c_parser 7) → R I2))) ∧ (¬ (w32 (I c_parser 1) = 0) → R I))) : Pa_note G S I v1 R := by
  refine x_start [some (vr G c_parser), some (vi (v1))] (by decide) (Nat.le_of_ble_eq_true rfl) rfl ?_
  refine x_aload_n (pc := 0) dX3_note_0 rfl rfl ?_
  refine x_getI (pc := 1) (i := c_parser) fl_X3_18 dX3_note_1 (sN_c_parser hS) (sT_c_parser hS) rfl ?_
  refine x_if_ne (pc := 4) (t := 20) dX3_note_4 (by decide) (fun e => ?_) (fun e => ?_)
  · have h := h.1 e
    refine x_aload_n (pc := 7) dX3_note_7 rfl rfl ?_
    refine x_iload_n (pc := 8) dX3_note_8 rfl rfl ?_
    refine x_putI (pc := 9) (i := c_parser) fl_X3_18 dX3_note_9 (sN_c_parser hS) (sT_c_parser hS) rfl ?_
    have h := h _ rfl
    generalize up I c_parser 1 (v1) = I1 at h ⊢
    refine x_aload_n (pc := 12) dX3_note_12 rfl rfl ?_
    refine x_aload_n (pc := 13) dX3_note_13 rfl rfl ?_
    refine x_getI (pc := 14) (i := c_parser) fl_X3_38 dX3_note_14 (sN_c_parser hS) (sT_c_parser hS) rfl ?_
    refine x_putI (pc := 17) (i := c_parser) fl_X3_22 dX3_note_17 (sN_c_parser hS) (sT_c_parser hS) rfl ?_
    have h := h _ rfl
    generalize up I1 c_parser 2 (I1 c_parser 7) = I2 at h ⊢
    exact y_vret (pc := 20) dX3_note_20 rfl ⟨Nat.le_refl _, Nat.le_refl _⟩ h
  · have h := h.2 e
    exact y_vret (pc := 20) dX3_note_20 rfl ⟨Nat.le_refl _, Nat.le_refl _⟩ h
set_option maxHeartbeats 4000000 in
set_option maxRecDepth 100000 in
theorem b_Pa_isWord {G : XG} {S : XS} {I : XI} {v1 : Nat} {R : Int → XI → Prop} (hS : xSh S)  (h : ((w32 (I c_parser 6) = w32 (1) → (v1 < 16 ∧ ((w32 ((I c_parser 5) - (I c_parser 7)) = w32 (((xsL.getD v1 0 : Nat) : Int)) → Pa_isWord_k28 G S I (v1) (0) R) ∧ (¬ (w32 ((I c_parser 5) - (I c_parser 7)) = w32 (((xsL.getD v1 0 : Nat) : Int))) → R (0) I)))) ∧ (¬ (w32 (I c_parser 6) = w32 (1)) → R (0) I))) : Pa_isWord G S I v1 R := by
  refine x_start [some (vr G c_parser), some (vs G v1), none] (by decide) (Nat.le_of_ble_eq_true rfl) rfl ?_
  refine x_aload_n (pc := 0) dX3_isWord_0 rfl rfl ?_
  refine x_getI (pc := 1) (i := c_parser) fl_X3_35 dX3_isWord_1 (sN_c_parser hS) (sT_c_parser hS) rfl ?_
  refine x_iconst (pc := 4) dX3_isWord_4 ?_
  refine x_icmp_ne (pc := 5) (t := 24) dX3_isWord_5 (by decide) (fun e => ?_) (fun e => ?_)
  · have h := h.1 e
    refine x_aload_n (pc := 8) dX3_isWord_8 rfl rfl ?_
    refine x_getI (pc := 9) (i := c_parser) fl_X3_32 dX3_isWord_9 (sN_c_parser hS) (sT_c_parser hS) rfl ?_
    refine x_aload_n (pc := 12) dX3_isWord_12 rfl rfl ?_
    refine x_getI (pc := 13) (i := c_parser) fl_X3_38 dX3_isWord_13 (sN_c_parser hS) (sT_c_parser hS) rfl ?_
    refine x_isub (pc := 16) dX3_isWord_16 ?_
    refine x_aload_n (pc := 17) dX3_isWord_17 rfl rfl ?_
    refine y_slen (pc := 18) (q := v1) ml_X3_124 dX3_isWord_18 h.1 ⟨by decide, by decide⟩ (Nat.le_of_ble_eq_true rfl) ⟨Nat.le_refl _, Nat.le_refl _⟩ ?_
    have h := h.2
    refine x_icmp_eq (pc := 21) (t := 26) dX3_isWord_21 (by decide) (fun e => ?_) (fun e => ?_)
    · have h := h.1 e
      refine x_iconst (pc := 26) dX3_isWord_26 ?_
      refine x_istore_n (pc := 27) (L' := [some (vr G c_parser), some (vs G v1), some (vi (0))]) dX3_isWord_27 rfl (by decide) (xst1 rfl rfl rfl) ?_
      exact h
    · have h := h.2 e
      refine x_iconst (pc := 24) dX3_isWord_24 ?_
      exact y_zret (pc := 25) dX3_isWord_25 rfl ⟨Nat.le_refl _, Nat.le_refl _⟩ (Or.inl rfl) h
  · have h := h.2 e
    refine x_iconst (pc := 24) dX3_isWord_24 ?_
    exact y_zret (pc := 25) dX3_isWord_25 rfl ⟨Nat.le_refl _, Nat.le_refl _⟩ (Or.inl rfl) h
set_option maxHeartbeats 4000000 in
set_option maxRecDepth 100000 in
theorem b_Pa_isWord_k28 {G : XG} {S : XS}  {I : XI} {v1 : Nat} {v2 : Int} {R : Int → XI → Prop} (hS : xSh S)  (h : (v1 < 16 ∧ ((w32 (((xsL.getD v1 0 : Nat) : Int)) ≤ w32 (v2) → R (1) I) ∧ (¬ (w32 (((xsL.getD v1 0 : Nat) : Int)) ≤ w32 (v2)) → (inb ((I c_parser 7) + (v2)) 500 ∧ (v1 < 16 ∧ inb (v2) (xsL.getD v1 0) ∧ ((w32 (I c_parser_bytes (ix ((I c_parser 7) + (v2)))) = w32 (xsC v1 (ix (v2))) → Pa_isWord_k28 G S I (v1) (v2 + 1) R) ∧ (¬ (w32 (I c_parser_bytes (ix ((I c_parser 7) + (v2)))) = w32 (xsC v1 (ix (v2)))) → R (0) I)))))))) : Pa_isWord_k28 G S  I v1 v2 R := by
  unfold Pa_isWord_k28
  refine x_iload_n (pc := 28) dX3_isWord_28 rfl rfl ?_
  refine x_aload_n (pc := 29) dX3_isWord_29 rfl rfl ?_
  refine y_slen (pc := 30) (q := v1) ml_X3_124 dX3_isWord_30 h.1 ⟨by decide, by decide⟩ (Nat.le_of_ble_eq_true rfl) ⟨Nat.le_refl _, Nat.le_refl _⟩ ?_
  have h := h.2
  refine x_icmp_ge (pc := 33) (t := 63) dX3_isWord_33 (by decide) (fun e => ?_) (fun e => ?_)
  · have h := h.1 e
    refine x_iconst (pc := 63) dX3_isWord_63 ?_
    exact y_zret (pc := 64) dX3_isWord_64 rfl ⟨Nat.le_refl _, Nat.le_refl _⟩ (Or.inr rfl) h
  · have h := h.2 e
    refine x_aload_n (pc := 36) dX3_isWord_36 rfl rfl ?_
    refine x_getR (pc := 37) (i := c_parser) (a := c_parser_bytes) fl_X3_25 dX3_isWord_37 (sN_c_parser hS) (sT_c_parser hS) rfl (sR_c_parser_3 hS) ?_
    refine x_aload_n (pc := 40) dX3_isWord_40 rfl rfl ?_
    refine x_getI (pc := 41) (i := c_parser) fl_X3_38 dX3_isWord_41 (sN_c_parser hS) (sT_c_parser hS) rfl ?_
    refine x_iload_n (pc := 44) dX3_isWord_44 rfl rfl ?_
    refine x_iadd (pc := 45) dX3_isWord_45 ?_
    refine y_iald (pc := 46) (i := c_parser_bytes) (n := 500) dX3_isWord_46 (sN_c_parser_bytes hS) (sT_c_parser_bytes hS) (sL_c_parser_bytes hS) h.1 ?_
    have h := h.2
    refine x_aload_n (pc := 47) dX3_isWord_47 rfl rfl ?_
    refine x_iload_n (pc := 48) dX3_isWord_48 rfl rfl ?_
    refine y_schar (pc := 49) (q := v1) ml_X3_128 dX3_isWord_49 h.1 h.2.1 ⟨by decide, by decide⟩ (Nat.le_of_ble_eq_true rfl) ⟨Nat.le_refl _, Nat.le_refl _⟩ ?_
    have h := h.2.2
    refine x_icmp_eq (pc := 52) (t := 57) dX3_isWord_52 (by decide) (fun e => ?_) (fun e => ?_)
    · have h := h.1 e
      refine x_iinc (pc := 57) (L' := [some (vr G c_parser), some (vs G v1), some (vi (v2 + 1))]) dX3_isWord_57 rfl (by decide) (xst1 rfl rfl rfl) ?_
      refine x_goto (pc := 60) (t := 28) dX3_isWord_60 (by decide) ?_
      exact h
    · have h := h.2 e
      refine x_iconst (pc := 55) dX3_isWord_55 ?_
      exact y_zret (pc := 56) dX3_isWord_56 rfl ⟨Nat.le_refl _, Nat.le_refl _⟩ (Or.inl rfl) h
set_option maxHeartbeats 4000000 in
set_option maxRecDepth 100000 in
theorem b_Pa_parseTests {G : XG} {S : XS} {I : XI} {v1 : Int} {R : Int → XI → Prop} (hS : xSh S)  (h : Pa_parseTests_k2 G S I (v1) (0) R) : Pa_parseTests G S I v1 R := by
  refine x_start [some (vr G c_parser), some (vi (v1)), none] (by decide) (Nat.le_of_ble_eq_true rfl) rfl ?_
  refine x_iconst (pc := 0) dX3_parseTests_0 ?_
  refine x_istore_n (pc := 1) (L' := [some (vr G c_parser), some (vi (v1)), some (vi (0))]) dX3_parseTests_1 rfl (by decide) (xst1 rfl rfl rfl) ?_
  exact h
set_option maxHeartbeats 4000000 in
set_option maxRecDepth 100000 in
theorem b_Pa_parseTests_k2 {G : XG} {S : XS}  {I : XI} {v1 : Int} {v2 : Int} {R : Int → XI → Prop} (hS : xSh S)  (h : Pa_takeToken G S I (fun I1 => ((w32 (v2) = w32 (4) → Pa_note G S I1 (3) (fun I2 => Pa_parseTests_k16 G S I2 (v1) (v2) R)) ∧ (¬ (w32 (v2) = w32 (4)) → Pa_parseTests_k16 G S I1 (v1) (v2) R)))) : Pa_parseTests_k2 G S  I v1 v2 R := by
  unfold Pa_parseTests_k2
  refine x_aload_n (pc := 2) dX3_parseTests_2 rfl rfl ?_
  refine y_Vv (pc := 3) (i := c_parser) (As := []) (rest := []) ok_X3_takeToken ml_X3_50 dX3_parseTests_3 (sN_c_parser hS) (sT_c_parser hS) (by decide) rfl rfl rfl ⟨rfl, rfl⟩ ⟨by decide, by decide⟩ ⟨Nat.le_refl _, Nat.le_refl _⟩ (Nat.le_of_ble_eq_true rfl) rfl h (fun I1 h => ?_)
  refine x_iload_n (pc := 6) dX3_parseTests_6 rfl rfl ?_
  refine x_iconst (pc := 7) dX3_parseTests_7 ?_
  refine x_icmp_ne (pc := 8) (t := 16) dX3_parseTests_8 (by decide) (fun e => ?_) (fun e => ?_)
  · have h := h.1 e
    refine x_aload_n (pc := 11) dX3_parseTests_11 rfl rfl ?_
    refine x_iconst (pc := 12) dX3_parseTests_12 ?_
    refine y_Vv (pc := 13) (i := c_parser) (As := [vi (3)]) (rest := []) ok_X3_note ml_X3_66 dX3_parseTests_13 (sN_c_parser hS) (sT_c_parser hS) (by decide) rfl rfl rfl ⟨rfl, rfl⟩ ⟨by decide, by decide⟩ ⟨Nat.le_refl _, Nat.le_refl _⟩ (Nat.le_of_ble_eq_true rfl) rfl h (fun I2 h => ?_)
    exact h
  · have h := h.2 e
    exact h
set_option maxHeartbeats 4000000 in
set_option maxRecDepth 100000 in
theorem b_Pa_parseTests_k16 {G : XG} {S : XS}  {I : XI} {v1 : Int} {v2 : Int} {R : Int → XI → Prop} (hS : xSh S)  (h : Pa_parseTest G S I (v1) (v2) (fun r4 I3 => ((w32 (r4) = 0 → R ((-1)) I3) ∧ (¬ (w32 (r4) = 0) → ((w32 (500) < w32 (v2 + 1) → R (v2 + 1) I3) ∧ (¬ (w32 (500) < w32 (v2 + 1)) → Pa_isWord G S I3 (12) (fun r6 I5 => ((w32 (r6) = 0 → R (v2 + 1) I5) ∧ (¬ (w32 (r6) = 0) → Pa_parseTests_k2 G S I5 (v1) (v2 + 1) R))))))))) : Pa_parseTests_k16 G S  I v1 v2 R := by
  unfold Pa_parseTests_k16
  refine x_aload_n (pc := 16) dX3_parseTests_16 rfl rfl ?_
  refine x_iload_n (pc := 17) dX3_parseTests_17 rfl rfl ?_
  refine x_iload_n (pc := 18) dX3_parseTests_18 rfl rfl ?_
  refine y_Vi (pc := 19) (i := c_parser) (As := [vi (v1), vi (v2)]) (rest := []) ok_X3_parseTest ml_X3_91 dX3_parseTests_19 (sN_c_parser hS) (sT_c_parser hS) (by decide) rfl rfl rfl ⟨rfl, rfl⟩ ⟨by decide, by decide⟩ ⟨Nat.le_refl _, Nat.le_refl _⟩ (Nat.le_of_ble_eq_true rfl) rfl h (fun r4 I3 h => ?_)
  refine x_if_ne (pc := 22) (t := 27) dX3_parseTests_22 (by decide) (fun e => ?_) (fun e => ?_)
  · have h := h.1 e
    refine x_iconst (pc := 25) dX3_parseTests_25 ?_
    exact y_iret (pc := 26) dX3_parseTests_26 rfl ⟨Nat.le_refl _, Nat.le_refl _⟩ h
  · have h := h.2 e
    refine x_iinc (pc := 27) (L' := [some (vr G c_parser), some (vi (v1)), some (vi (v2 + 1))]) dX3_parseTests_27 rfl (by decide) (xst1 rfl rfl rfl) ?_
    refine x_iload_n (pc := 30) dX3_parseTests_30 rfl rfl ?_
    refine x_sipush (pc := 31) dX3_parseTests_31 (by decide) ?_
    refine x_icmp_gt (pc := 34) (t := 46) dX3_parseTests_34 (by decide) (fun e => ?_) (fun e => ?_)
    · have h := h.1 e
      refine x_iload_n (pc := 46) dX3_parseTests_46 rfl rfl ?_
      exact y_iret (pc := 47) dX3_parseTests_47 rfl ⟨Nat.le_refl _, Nat.le_refl _⟩ h
    · have h := h.2 e
      refine x_aload_n (pc := 37) dX3_parseTests_37 rfl rfl ?_
      refine x_ldcS (pc := 38) (q := 12) dX3_parseTests_38 (by decide) rfl rfl ?_
      refine y_Vi (pc := 40) (i := c_parser) (As := [vs G 12]) (rest := []) ok_X3_isWord ml_X3_71 dX3_parseTests_40 (sN_c_parser hS) (sT_c_parser hS) (by decide) rfl rfl rfl ⟨rfl, rfl⟩ ⟨by decide, by decide⟩ ⟨Nat.le_refl _, Nat.le_refl _⟩ (Nat.le_of_ble_eq_true rfl) rfl h (fun r6 I5 h => ?_)
      refine x_if_ne (pc := 43) (t := 2) dX3_parseTests_43 (by decide) (fun e => ?_) (fun e => ?_)
      · have h := h.1 e
        refine x_iload_n (pc := 46) dX3_parseTests_46 rfl rfl ?_
        exact y_iret (pc := 47) dX3_parseTests_47 rfl ⟨Nat.le_refl _, Nat.le_refl _⟩ h
      · have h := h.2 e
        exact h
set_option maxHeartbeats 4000000 in
set_option maxRecDepth 100000 in
theorem b_Pa_takeSign {G : XG} {S : XS} {I : XI} {v1 : Int} {R : Int → XI → Prop} (hS : xSh S)  (h : Pa_isSign G S I (v1) (fun r2 I1 => ((w32 (r2) = 0 → Pa_breakHere G S I1 (fun r4 I3 => (((r4) = 0 ∨ (r4) = 1) ∧ R (r4) I3))) ∧ (¬ (w32 (r2) = 0) → Pa_takeToken G S I1 (fun I5 => R (1) I5))))) : Pa_takeSign G S I v1 R := by
  refine x_start [some (vr G c_parser), some (vi (v1))] (by decide) (Nat.le_of_ble_eq_true rfl) rfl ?_
  refine x_aload_n (pc := 0) dX3_takeSign_0 rfl rfl ?_
  refine x_iload_n (pc := 1) dX3_takeSign_1 rfl rfl ?_
  refine y_Vi (pc := 2) (i := c_parser) (As := [vi (v1)]) (rest := []) ok_X3_isSign ml_X3_107 dX3_takeSign_2 (sN_c_parser hS) (sT_c_parser hS) (by decide) rfl rfl rfl ⟨rfl, rfl⟩ ⟨by decide, by decide⟩ ⟨Nat.le_refl _, Nat.le_refl _⟩ (Nat.le_of_ble_eq_true rfl) rfl h (fun r2 I1 h => ?_)
  refine x_if_ne (pc := 5) (t := 13) dX3_takeSign_5 (by decide) (fun e => ?_) (fun e => ?_)
  · have h := h.1 e
    refine x_aload_n (pc := 8) dX3_takeSign_8 rfl rfl ?_
    refine y_Vi (pc := 9) (i := c_parser) (As := []) (rest := []) ok_X3_breakHere ml_X3_103 dX3_takeSign_9 (sN_c_parser hS) (sT_c_parser hS) (by decide) rfl rfl rfl ⟨rfl, rfl⟩ ⟨by decide, by decide⟩ ⟨Nat.le_refl _, Nat.le_refl _⟩ (Nat.le_of_ble_eq_true rfl) rfl h (fun r4 I3 h => ?_)
    exact y_zret (pc := 12) dX3_takeSign_12 rfl ⟨Nat.le_refl _, Nat.le_refl _⟩ h.1 h.2
  · have h := h.2 e
    refine x_aload_n (pc := 13) dX3_takeSign_13 rfl rfl ?_
    refine y_Vv (pc := 14) (i := c_parser) (As := []) (rest := []) ok_X3_takeToken ml_X3_50 dX3_takeSign_14 (sN_c_parser hS) (sT_c_parser hS) (by decide) rfl rfl rfl ⟨rfl, rfl⟩ ⟨by decide, by decide⟩ ⟨Nat.le_refl _, Nat.le_refl _⟩ (Nat.le_of_ble_eq_true rfl) rfl h (fun I5 h => ?_)
    refine x_iconst (pc := 17) dX3_takeSign_17 ?_
    exact y_zret (pc := 18) dX3_takeSign_18 rfl ⟨Nat.le_refl _, Nat.le_refl _⟩ (Or.inr rfl) h
set_option maxHeartbeats 4000000 in
set_option maxRecDepth 100000 in
theorem b_Dr_keepTests {G : XG} {S : XS} {I : XI} {v1 : Int} {v2 : Int} {R : XI → Prop} (hS : xSh S)  (h : ((w32 (16) ≤ w32 (v1) → R I) ∧ (¬ (w32 (16) ≤ w32 (v1)) → (inb (v1) 16 ∧ (∀ I1 : XI, I1 = up I c_draft_tests (ix (v1)) (if w32 (4) < w32 (v2) then 4 else v2) → R I1))))) : Dr_keepTests G S I v1 v2 R := by
  refine x_start [some (vr G c_draft), some (vi (v1)), some (vi (v2))] (by decide) (Nat.le_of_ble_eq_true rfl) rfl ?_
  refine x_iload_n (pc := 0) dX5_keepTests_0 rfl rfl ?_
  refine x_bipush (pc := 1) dX5_keepTests_1 (by decide) ?_
  refine x_icmp_ge (pc := 3) (t := 17) dX5_keepTests_3 (by decide) (fun e => ?_) (fun e => ?_)
  · have h := h.1 e
    exact y_vret (pc := 17) dX5_keepTests_17 rfl ⟨Nat.le_refl _, Nat.le_refl _⟩ h
  · have h := h.2 e
    refine x_aload_n (pc := 6) dX5_keepTests_6 rfl rfl ?_
    refine x_getR (pc := 7) (i := c_draft) (a := c_draft_tests) fl_X5_22 dX5_keepTests_7 (sN_c_draft hS) (sT_c_draft hS) rfl (sR_c_draft_3 hS) ?_
    refine x_iload_n (pc := 10) dX5_keepTests_10 rfl rfl ?_
    refine x_iload_n (pc := 11) dX5_keepTests_11 rfl rfl ?_
    refine x_iconst (pc := 12) dX5_keepTests_12 ?_
    refine x_min (pc := 13) ⟨ml_X5_49, w_mins, w_mi, w_minc⟩ dX5_keepTests_13 ⟨by decide, Nat.le_of_ble_eq_true rfl, Nat.le_refl _, Nat.le_refl _⟩ ?_
    refine y_iast (pc := 16) (i := c_draft_tests) (n := 16) dX5_keepTests_16 (sN_c_draft_tests hS) (sT_c_draft_tests hS) (sL_c_draft_tests hS) h.1 ?_
    have h := h.2
    have h := h _ rfl
    generalize up I c_draft_tests (ix (v1)) (if w32 (4) < w32 (v2) then 4 else v2) = I1 at h ⊢
    exact y_vret (pc := 17) dX5_keepTests_17 rfl ⟨Nat.le_refl _, Nat.le_refl _⟩ h
set_option maxHeartbeats 4000000 in
set_option maxRecDepth 100000 in
theorem b_Pa_parseDeed {G : XG} {S : XS} {I : XI} {v1 : Int} {R : Int → XI → Prop} (hS : xSh S)  (h : Pa_isWord G S I (13) (fun r2 I1 => ((w32 (r2) = 0 → Pa_isWord G S I1 (14) (fun r4 I3 => ((w32 (r4) = 0 → Pa_isWord G S I3 (15) (fun r6 I5 => ((w32 (r6) = 0 → Pa_breakHere G S I5 (fun r8 I7 => (((r8) = 0 ∨ (r8) = 1) ∧ R (r8) I7))) ∧ (¬ (w32 (r6) = 0) → Pa_parseDeed_k50 G S I5 (v1) (r4) R)))) ∧ (¬ (w32 (r4) = 0) → Pa_parseDeed_k50 G S I3 (v1) (r4) R)))) ∧ (¬ (w32 (r2) = 0) → Dr_keepLine G S I1 (v1) (0) (0) (fun I9 => Pa_takeToken G S I9 (fun I10 => R (1) I10)))))) : Pa_parseDeed G S I v1 R := by
  refine x_start [some (vr G c_parser), some (vi (v1)), none] (by decide) (Nat.le_of_ble_eq_true rfl) rfl ?_
  refine x_aload_n (pc := 0) dX3_parseDeed_0 rfl rfl ?_
  refine x_ldcS (pc := 1) (q := 13) dX3_parseDeed_1 (by decide) rfl rfl ?_
  refine y_Vi (pc := 3) (i := c_parser) (As := [vs G 13]) (rest := []) ok_X3_isWord ml_X3_71 dX3_parseDeed_3 (sN_c_parser hS) (sT_c_parser hS) (by decide) rfl rfl rfl ⟨rfl, rfl⟩ ⟨by decide, by decide⟩ ⟨Nat.le_refl _, Nat.le_refl _⟩ (Nat.le_of_ble_eq_true rfl) rfl h (fun r2 I1 h => ?_)
  refine x_if_eq (pc := 6) (t := 25) dX3_parseDeed_6 (by decide) (fun e => ?_) (fun e => ?_)
  · have h := h.1 e
    refine x_aload_n (pc := 25) dX3_parseDeed_25 rfl rfl ?_
    refine x_ldcS (pc := 26) (q := 14) dX3_parseDeed_26 (by decide) rfl rfl ?_
    refine y_Vi (pc := 28) (i := c_parser) (As := [vs G 14]) (rest := []) ok_X3_isWord ml_X3_71 dX3_parseDeed_28 (sN_c_parser hS) (sT_c_parser hS) (by decide) rfl rfl rfl ⟨rfl, rfl⟩ ⟨by decide, by decide⟩ ⟨Nat.le_refl _, Nat.le_refl _⟩ (Nat.le_of_ble_eq_true rfl) rfl h (fun r4 I3 h => ?_)
    refine x_istore_n (pc := 31) (L' := [some (vr G c_parser), some (vi (v1)), some (vi (r4))]) dX3_parseDeed_31 rfl (by decide) (xst1 rfl rfl rfl) ?_
    refine x_iload_n (pc := 32) dX3_parseDeed_32 rfl rfl ?_
    refine x_if_ne (pc := 33) (t := 50) dX3_parseDeed_33 (by decide) (fun e => ?_) (fun e => ?_)
    · have h := h.1 e
      refine x_aload_n (pc := 36) dX3_parseDeed_36 rfl rfl ?_
      refine x_ldcS (pc := 37) (q := 15) dX3_parseDeed_37 (by decide) rfl rfl ?_
      refine y_Vi (pc := 39) (i := c_parser) (As := [vs G 15]) (rest := []) ok_X3_isWord ml_X3_71 dX3_parseDeed_39 (sN_c_parser hS) (sT_c_parser hS) (by decide) rfl rfl rfl ⟨rfl, rfl⟩ ⟨by decide, by decide⟩ ⟨Nat.le_refl _, Nat.le_refl _⟩ (Nat.le_of_ble_eq_true rfl) rfl h (fun r6 I5 h => ?_)
      refine x_if_ne (pc := 42) (t := 50) dX3_parseDeed_42 (by decide) (fun e => ?_) (fun e => ?_)
      · have h := h.1 e
        refine x_aload_n (pc := 45) dX3_parseDeed_45 rfl rfl ?_
        refine y_Vi (pc := 46) (i := c_parser) (As := []) (rest := []) ok_X3_breakHere ml_X3_103 dX3_parseDeed_46 (sN_c_parser hS) (sT_c_parser hS) (by decide) rfl rfl rfl ⟨rfl, rfl⟩ ⟨by decide, by decide⟩ ⟨Nat.le_refl _, Nat.le_refl _⟩ (Nat.le_of_ble_eq_true rfl) rfl h (fun r8 I7 h => ?_)
        exact y_zret (pc := 49) dX3_parseDeed_49 rfl ⟨Nat.le_refl _, Nat.le_refl _⟩ h.1 h.2
      · have h := h.2 e
        exact h
    · have h := h.2 e
      exact h
  · have h := h.2 e
    refine x_aload_n (pc := 9) dX3_parseDeed_9 rfl rfl ?_
    refine x_getR (pc := 10) (i := c_parser) (a := c_draft) fl_X3_12 dX3_parseDeed_10 (sN_c_parser hS) (sT_c_parser hS) rfl (sR_c_parser_0 hS) ?_
    refine x_iload_n (pc := 13) dX3_parseDeed_13 rfl rfl ?_
    refine x_iconst (pc := 14) dX3_parseDeed_14 ?_
    refine x_iconst (pc := 15) dX3_parseDeed_15 ?_
    refine y_Vv (pc := 16) (i := c_draft) (As := [vi (v1), vi (0), vi (0)]) (rest := []) ok_X5_keepLine ml_X3_116 dX3_parseDeed_16 (sN_c_draft hS) (sT_c_draft hS) (by decide) rfl rfl rfl ⟨rfl, rfl⟩ ⟨by decide, by decide⟩ ⟨Nat.le_refl _, Nat.le_refl _⟩ (Nat.le_of_ble_eq_true rfl) rfl h (fun I9 h => ?_)
    refine x_aload_n (pc := 19) dX3_parseDeed_19 rfl rfl ?_
    refine y_Vv (pc := 20) (i := c_parser) (As := []) (rest := []) ok_X3_takeToken ml_X3_50 dX3_parseDeed_20 (sN_c_parser hS) (sT_c_parser hS) (by decide) rfl rfl rfl ⟨rfl, rfl⟩ ⟨by decide, by decide⟩ ⟨Nat.le_refl _, Nat.le_refl _⟩ (Nat.le_of_ble_eq_true rfl) rfl h (fun I10 h => ?_)
    refine x_iconst (pc := 23) dX3_parseDeed_23 ?_
    exact y_zret (pc := 24) dX3_parseDeed_24 rfl ⟨Nat.le_refl _, Nat.le_refl _⟩ (Or.inr rfl) h
