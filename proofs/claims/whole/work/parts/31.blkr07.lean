set_option maxHeartbeats 4000000 in
set_option maxRecDepth 100000 in
theorem b_R_token_k79 {G : XG} {S : XS}  {I : XI} {v2 : Int} {R : XI → Prop} (hS : xSh S)  (h : R_see G S I (fun r34 I33 => R_in G S I33 (r34) (97) (122) (fun r36 I35 => ((w32 (r36) = 0 → ((w32 (v2) ≤ w32 (8) → (∀ I37 : XI, I37 = up I35 r_obj 64 (I35 r_obj 64) → (∀ I38 : XI, I38 = up I37 r_obj 62 (2) → R I38))) ∧ (¬ (w32 (v2) ≤ w32 (8)) → (∀ I39 : XI, I39 = up I35 r_obj 64 (0) → (∀ I40 : XI, I40 = up I39 r_obj 62 (2) → R I40))))) ∧ (¬ (w32 (r36) = 0) → R_see G S I35 (fun r42 I41 => (∀ I43 : XI, I43 = up I41 r_obj 64 (llor (llshl (I35 r_obj 64) (8)) (w32 (r42))) → (∀ I44 : XI, I44 = up I43 r_obj 59 ((I43 r_obj 59) + (1)) → R_token_k79 G S I44 (v2 + 1) R)))))))) : R_token_k79 G S  I v2 R := by
  unfold R_token_k79
  refine x_aload_n (pc := 79) dX11_token_79 rfl rfl ?_
  refine y_Vi (pc := 80) (i := r_obj) (As := []) (rest := []) ok_X11_see ml_X11_344 dX11_token_80 (sN_r_obj hS) (sT_r_obj hS) (by decide) rfl rfl rfl ⟨rfl, rfl⟩ ⟨by decide, by decide⟩ ⟨Nat.le_refl _, Nat.le_refl _⟩ (Nat.le_of_ble_eq_true rfl) rfl h (fun r34 I33 h => ?_)
  refine x_bipush (pc := 83) dX11_token_83 (by decide) ?_
  refine x_bipush (pc := 85) dX11_token_85 (by decide) ?_
  refine y_Si (pc := 87) (As := [vi (r34), vi (97), vi (122)]) (rest := []) ok_X11_in ml_X11_232 dX11_token_87 rfl ⟨rfl, rfl⟩ ⟨by decide, by decide⟩ ⟨Nat.le_refl _, Nat.le_refl _⟩ (Nat.le_of_ble_eq_true rfl) rfl h (fun r36 I35 h => ?_)
  refine x_if_eq (pc := 90) (t := 126) dX11_token_90 (by decide) (fun e => ?_) (fun e => ?_)
  · have h := h.1 e
    refine x_aload_n (pc := 126) dX11_token_126 rfl rfl ?_
    refine x_iload_n (pc := 127) dX11_token_127 rfl rfl ?_
    refine x_bipush (pc := 128) dX11_token_128 (by decide) ?_
    refine x_icmp_le (pc := 130) (t := 137) dX11_token_130 (by decide) (fun e => ?_) (fun e => ?_)
    · have h := h.1 e
      refine x_aload_n (pc := 137) dX11_token_137 rfl rfl ?_
      refine x_getL (pc := 138) (i := r_obj) fl_X11_353 dX11_token_138 (sN_r_obj hS) (sT_r_obj hS) rfl ?_
      refine x_putL (pc := 141) (i := r_obj) fl_X11_353 dX11_token_141 (sN_r_obj hS) (sT_r_obj hS) rfl ?_
      have h := h _ rfl
      generalize up I35 r_obj 64 (I35 r_obj 64) = I37 at h ⊢
      refine x_aload_n (pc := 144) dX11_token_144 rfl rfl ?_
      refine x_iconst (pc := 145) dX11_token_145 ?_
      refine x_putI (pc := 146) (i := r_obj) fl_X11_357 dX11_token_146 (sN_r_obj hS) (sT_r_obj hS) rfl ?_
      have h := h _ rfl
      generalize up I37 r_obj 62 (2) = I38 at h ⊢
      refine x_goto (pc := 149) (t := 295) dX11_token_149 (by decide) ?_
      exact y_vret (pc := 295) dX11_token_295 rfl ⟨Nat.le_refl _, Nat.le_refl _⟩ h
    · have h := h.2 e
      refine x_lconst (pc := 133) (z := 0) dX11_token_133 (by decide) ?_
      refine x_goto (pc := 134) (t := 141) dX11_token_134 (by decide) ?_
      refine x_putL (pc := 141) (i := r_obj) fl_X11_353 dX11_token_141 (sN_r_obj hS) (sT_r_obj hS) rfl ?_
      have h := h _ rfl
      generalize up I35 r_obj 64 (0) = I39 at h ⊢
      refine x_aload_n (pc := 144) dX11_token_144 rfl rfl ?_
      refine x_iconst (pc := 145) dX11_token_145 ?_
      refine x_putI (pc := 146) (i := r_obj) fl_X11_357 dX11_token_146 (sN_r_obj hS) (sT_r_obj hS) rfl ?_
      have h := h _ rfl
      generalize up I39 r_obj 62 (2) = I40 at h ⊢
      refine x_goto (pc := 149) (t := 295) dX11_token_149 (by decide) ?_
      exact y_vret (pc := 295) dX11_token_295 rfl ⟨Nat.le_refl _, Nat.le_refl _⟩ h
  · have h := h.2 e
    refine x_aload_n (pc := 93) dX11_token_93 rfl rfl ?_
    refine x_aload_n (pc := 94) dX11_token_94 rfl rfl ?_
    refine x_getL (pc := 95) (i := r_obj) fl_X11_353 dX11_token_95 (sN_r_obj hS) (sT_r_obj hS) rfl ?_
    refine x_bipush (pc := 98) dX11_token_98 (by decide) ?_
    refine x_lshl (pc := 100) dX11_token_100 ?_
    refine x_aload_n (pc := 101) dX11_token_101 rfl rfl ?_
    refine y_Vi (pc := 102) (i := r_obj) (As := []) (rest := [vl (llshl (I35 r_obj 64) (8)), vr G r_obj]) ok_X11_see ml_X11_344 dX11_token_102 (sN_r_obj hS) (sT_r_obj hS) (by decide) rfl rfl rfl ⟨rfl, rfl⟩ ⟨by decide, by decide⟩ ⟨Nat.le_refl _, Nat.le_refl _⟩ (Nat.le_of_ble_eq_true rfl) rfl h (fun r42 I41 h => ?_)
    refine x_i2l (pc := 105) dX11_token_105 ?_
    refine x_lor (pc := 106) dX11_token_106 ?_
    refine x_putL (pc := 107) (i := r_obj) fl_X11_353 dX11_token_107 (sN_r_obj hS) (sT_r_obj hS) rfl ?_
    have h := h _ rfl
    generalize up I41 r_obj 64 (llor (llshl (I35 r_obj 64) (8)) (w32 (r42))) = I43 at h ⊢
    refine x_aload_n (pc := 110) dX11_token_110 rfl rfl ?_
    refine x_dup (pc := 111) dX11_token_111 rfl ?_
    refine x_getI (pc := 112) (i := r_obj) fl_X11_338 dX11_token_112 (sN_r_obj hS) (sT_r_obj hS) rfl ?_
    refine x_iconst (pc := 115) dX11_token_115 ?_
    refine x_iadd (pc := 116) dX11_token_116 ?_
    refine x_putI (pc := 117) (i := r_obj) fl_X11_338 dX11_token_117 (sN_r_obj hS) (sT_r_obj hS) rfl ?_
    have h := h _ rfl
    generalize up I43 r_obj 59 ((I43 r_obj 59) + (1)) = I44 at h ⊢
    refine x_iinc (pc := 120) (L' := [some (vr G r_obj), none, some (vi (v2 + 1))]) dX11_token_120 rfl (by decide) (xst1 rfl rfl trivial) ?_
    refine x_goto (pc := 123) (t := 79) dX11_token_123 (by decide) ?_
    exact h
set_option maxHeartbeats 4000000 in
set_option maxRecDepth 100000 in
theorem b_R_token_k210 {G : XG} {S : XS}  {I : XI} {v2 : Int} {s0 : Int} {R : XI → Prop} (hS : xSh S)  (h : (∀ I45 : XI, I45 = up I r_obj 63 (s0) → (∀ I46 : XI, I46 = up I45 r_obj 59 ((I45 r_obj 59) + (1)) → R_token_k168 G S I46 (v2 + 1) R))) : R_token_k210 G S  I v2 s0 R := by
  unfold R_token_k210
  refine x_putI (pc := 210) (i := r_obj) fl_X11_350 dX11_token_210 (sN_r_obj hS) (sT_r_obj hS) rfl ?_
  have h := h _ rfl
  generalize up I r_obj 63 (s0) = I45 at h ⊢
  refine x_aload_n (pc := 213) dX11_token_213 rfl rfl ?_
  refine x_dup (pc := 214) dX11_token_214 rfl ?_
  refine x_getI (pc := 215) (i := r_obj) fl_X11_338 dX11_token_215 (sN_r_obj hS) (sT_r_obj hS) rfl ?_
  refine x_iconst (pc := 218) dX11_token_218 ?_
  refine x_iadd (pc := 219) dX11_token_219 ?_
  refine x_putI (pc := 220) (i := r_obj) fl_X11_338 dX11_token_220 (sN_r_obj hS) (sT_r_obj hS) rfl ?_
  have h := h _ rfl
  generalize up I45 r_obj 59 ((I45 r_obj 59) + (1)) = I46 at h ⊢
  refine x_iinc (pc := 223) (L' := [some (vr G r_obj), none, some (vi (v2 + 1))]) dX11_token_223 rfl (by decide) (xst1 rfl rfl trivial) ?_
  refine x_goto (pc := 226) (t := 168) dX11_token_226 (by decide) ?_
  exact h
set_option maxHeartbeats 4000000 in
set_option maxRecDepth 100000 in
theorem b_R_torn {G : XG} {S : XS} {I : XI} {v1 : Int} {v2 : Int} {v3 : Int} {v4 : Int} {v5 : Int} {R : Int → XI → Prop} (hS : xSh S)  (h : R_torn_k6 G S I (v1) (v2) (v3) (v4) (v5) (0) (0) R) : R_torn G S I v1 v2 v3 v4 v5 R := by
  refine x_start [some (vr G r_obj), some (vi (v1)), some (vi (v2)), some (vi (v3)), some (vi (v4)), some (vi (v5)), none, none, none] (by decide) (Nat.le_of_ble_eq_true rfl) rfl ?_
  refine x_iconst (pc := 0) dX11_torn_0 ?_
  refine x_istore (pc := 1) (L' := [some (vr G r_obj), some (vi (v1)), some (vi (v2)), some (vi (v3)), some (vi (v4)), some (vi (v5)), some (vi (0)), none, none]) dX11_torn_1 (by decide) (xst1 rfl rfl rfl) ?_
  refine x_iconst (pc := 3) dX11_torn_3 ?_
  refine x_istore (pc := 4) (L' := [some (vr G r_obj), some (vi (v1)), some (vi (v2)), some (vi (v3)), some (vi (v4)), some (vi (v5)), some (vi (0)), some (vi (0)), none]) dX11_torn_4 (by decide) (xst1 rfl rfl rfl) ?_
  exact h
set_option maxHeartbeats 4000000 in
set_option maxRecDepth 100000 in
theorem b_R_torn_k6 {G : XG} {S : XS}  {I : XI} {v1 : Int} {v2 : Int} {v3 : Int} {v4 : Int} {v5 : Int} {v6 : Int} {v7 : Int} {R : Int → XI → Prop} (hS : xSh S)  (h : ((w32 (I r_acts 0) ≤ w32 (v7) → R (v6) I) ∧ (¬ (w32 (I r_acts 0) ≤ w32 (v7)) → (inb (v7) 600 ∧ ((w32 (I r_actKind (ix (v7))) = w32 (3) → ((w32 (v1) = w32 ((-1)) → R_torn_k44 G S I (v1) (v2) (v3) (v4) (v5) (v6) (v7) R) ∧ (¬ (w32 (v1) = w32 ((-1))) → (inb (v7) 600 ∧ ((w32 (I r_actBook (ix (v7))) = w32 (v1) → R_torn_k44 G S I (v1) (v2) (v3) (v4) (v5) (v6) (v7) R) ∧ (¬ (w32 (I r_actBook (ix (v7))) = w32 (v1)) → R_torn_k88 G S I (v1) (v2) (v3) (v4) (v5) (v6) (v7) (0) R)))))) ∧ (¬ (w32 (I r_actKind (ix (v7))) = w32 (3)) → R_torn_k88 G S I (v1) (v2) (v3) (v4) (v5) (v6) (v7) (0) R)))))) : R_torn_k6 G S  I v1 v2 v3 v4 v5 v6 v7 R := by
  unfold R_torn_k6
  refine x_iload (pc := 6) dX11_torn_6 rfl ?_
  refine x_aload_n (pc := 8) dX11_torn_8 rfl rfl ?_
  refine x_getR (pc := 9) (i := r_obj) (a := r_acts) fl_X11_105 dX11_torn_9 (sN_r_obj hS) (sT_r_obj hS) rfl (sR_r_obj_32 hS) ?_
  refine x_iconst (pc := 12) dX11_torn_12 ?_
  refine y_iald (pc := 13) (i := r_acts) (n := 4) dX11_torn_13 (sN_r_acts hS) (sT_r_acts hS) (sL_r_acts hS) (inb_nat (k := 0) (by decide) (by decide)) ?_
  rw [show ix 0 = 0 from rfl]
  refine x_icmp_ge (pc := 14) (t := 134) dX11_torn_14 (by decide) (fun e => ?_) (fun e => ?_)
  · have h := h.1 e
    refine x_iload (pc := 134) dX11_torn_134 rfl ?_
    exact y_iret (pc := 136) dX11_torn_136 rfl ⟨Nat.le_refl _, Nat.le_refl _⟩ h
  · have h := h.2 e
    refine x_aload_n (pc := 17) dX11_torn_17 rfl rfl ?_
    refine x_getR (pc := 18) (i := r_obj) (a := r_actKind) fl_X11_111 dX11_torn_18 (sN_r_obj hS) (sT_r_obj hS) rfl (sR_r_obj_34 hS) ?_
    refine x_iload (pc := 21) dX11_torn_21 rfl ?_
    refine y_iald (pc := 23) (i := r_actKind) (n := 600) dX11_torn_23 (sN_r_actKind hS) (sT_r_actKind hS) (sL_r_actKind hS) h.1 ?_
    have h := h.2
    refine x_iconst (pc := 24) dX11_torn_24 ?_
    refine x_icmp_ne (pc := 25) (t := 87) dX11_torn_25 (by decide) (fun e => ?_) (fun e => ?_)
    · have h := h.1 e
      refine x_iload_n (pc := 28) dX11_torn_28 rfl rfl ?_
      refine x_iconst (pc := 29) dX11_torn_29 ?_
      refine x_icmp_eq (pc := 30) (t := 44) dX11_torn_30 (by decide) (fun e => ?_) (fun e => ?_)
      · have h := h.1 e
        exact h
      · have h := h.2 e
        refine x_aload_n (pc := 33) dX11_torn_33 rfl rfl ?_
        refine x_getR (pc := 34) (i := r_obj) (a := r_actBook) fl_X11_108 dX11_torn_34 (sN_r_obj hS) (sT_r_obj hS) rfl (sR_r_obj_33 hS) ?_
        refine x_iload (pc := 37) dX11_torn_37 rfl ?_
        refine y_iald (pc := 39) (i := r_actBook) (n := 600) dX11_torn_39 (sN_r_actBook hS) (sT_r_actBook hS) (sL_r_actBook hS) h.1 ?_
        have h := h.2
        refine x_iload_n (pc := 40) dX11_torn_40 rfl rfl ?_
        refine x_icmp_ne (pc := 41) (t := 87) dX11_torn_41 (by decide) (fun e => ?_) (fun e => ?_)
        · have h := h.1 e
          exact h
        · have h := h.2 e
          refine x_iconst (pc := 87) dX11_torn_87 ?_
          exact h
    · have h := h.2 e
      refine x_iconst (pc := 87) dX11_torn_87 ?_
      exact h
set_option maxHeartbeats 4000000 in
set_option maxRecDepth 100000 in
theorem b_R_torn_k44 {G : XG} {S : XS}  {I : XI} {v1 : Int} {v2 : Int} {v3 : Int} {v4 : Int} {v5 : Int} {v6 : Int} {v7 : Int} {R : Int → XI → Prop} (hS : xSh S)  (h : ((w32 (v2) = w32 ((-1)) → R_torn_k60 G S I (v1) (v2) (v3) (v4) (v5) (v6) (v7) R) ∧ (¬ (w32 (v2) = w32 ((-1))) → (inb (v7) 600 ∧ ((w32 (I r_actCamp (ix (v7))) = w32 (v2) → R_torn_k60 G S I (v1) (v2) (v3) (v4) (v5) (v6) (v7) R) ∧ (¬ (w32 (I r_actCamp (ix (v7))) = w32 (v2)) → R_torn_k88 G S I (v1) (v2) (v3) (v4) (v5) (v6) (v7) (0) R)))))) : R_torn_k44 G S  I v1 v2 v3 v4 v5 v6 v7 R := by
  unfold R_torn_k44
  refine x_iload_n (pc := 44) dX11_torn_44 rfl rfl ?_
  refine x_iconst (pc := 45) dX11_torn_45 ?_
  refine x_icmp_eq (pc := 46) (t := 60) dX11_torn_46 (by decide) (fun e => ?_) (fun e => ?_)
  · have h := h.1 e
    exact h
  · have h := h.2 e
    refine x_aload_n (pc := 49) dX11_torn_49 rfl rfl ?_
    refine x_getR (pc := 50) (i := r_obj) (a := r_actCamp) fl_X11_114 dX11_torn_50 (sN_r_obj hS) (sT_r_obj hS) rfl (sR_r_obj_35 hS) ?_
    refine x_iload (pc := 53) dX11_torn_53 rfl ?_
    refine y_iald (pc := 55) (i := r_actCamp) (n := 600) dX11_torn_55 (sN_r_actCamp hS) (sT_r_actCamp hS) (sL_r_actCamp hS) h.1 ?_
    have h := h.2
    refine x_iload_n (pc := 56) dX11_torn_56 rfl rfl ?_
    refine x_icmp_ne (pc := 57) (t := 87) dX11_torn_57 (by decide) (fun e => ?_) (fun e => ?_)
    · have h := h.1 e
      exact h
    · have h := h.2 e
      refine x_iconst (pc := 87) dX11_torn_87 ?_
      exact h
set_option maxHeartbeats 4000000 in
set_option maxRecDepth 100000 in
theorem b_R_torn_k88 {G : XG} {S : XS}  {I : XI} {v1 : Int} {v2 : Int} {v3 : Int} {v4 : Int} {v5 : Int} {v6 : Int} {v7 : Int} {s0 : Int} {R : Int → XI → Prop} (hS : xSh S)  (h : ((w32 (s0) = 0 → R_torn_k6 G S I (v1) (v2) (v3) (v4) (v5) ((v6) + (0)) (v7 + 1) R) ∧ (¬ (w32 (s0) = 0) → (inb (v7) 600 ∧ ((w32 (v5) = 0 → R_torn_k6 G S I (v1) (v2) (v3) (v4) (v5) ((v6) + ((I r_actMany (ix (v7))) * (1))) (v7 + 1) R) ∧ (¬ (w32 (v5) = 0) → (inb (v7) 600 ∧ R_torn_k6 G S I (v1) (v2) (v3) (v4) (v5) ((v6) + ((I r_actMany (ix (v7))) * (I r_actCost (ix (v7))))) (v7 + 1) R))))))) : R_torn_k88 G S  I v1 v2 v3 v4 v5 v6 v7 s0 R := by
  unfold R_torn_k88
  refine x_istore (pc := 88) (L' := [some (vr G r_obj), some (vi (v1)), some (vi (v2)), some (vi (v3)), some (vi (v4)), some (vi (v5)), some (vi (v6)), some (vi (v7)), some (vi (s0))]) dX11_torn_88 (by decide) (xst1 rfl rfl rfl) ?_
  refine x_iload (pc := 90) dX11_torn_90 rfl ?_
  refine x_iload (pc := 92) dX11_torn_92 rfl ?_
  refine x_if_eq (pc := 94) (t := 124) dX11_torn_94 (by decide) (fun e => ?_) (fun e => ?_)
  · have h := h.1 e
    refine x_iconst (pc := 124) dX11_torn_124 ?_
    refine x_iadd (pc := 125) dX11_torn_125 ?_
    refine x_istore (pc := 126) (L' := [some (vr G r_obj), some (vi (v1)), some (vi (v2)), some (vi (v3)), some (vi (v4)), some (vi (v5)), some (vi ((v6) + (0))), some (vi (v7)), some (vi (s0))]) dX11_torn_126 (by decide) (xst1 rfl rfl rfl) ?_
    refine x_iinc (pc := 128) (L' := [some (vr G r_obj), some (vi (v1)), some (vi (v2)), some (vi (v3)), some (vi (v4)), some (vi (v5)), some (vi ((v6) + (0))), some (vi (v7 + 1)), some (vi (s0))]) dX11_torn_128 rfl (by decide) (xst1 rfl rfl rfl) ?_
    refine x_goto (pc := 131) (t := 6) dX11_torn_131 (by decide) ?_
    refine x_less (L' := [some (vr G r_obj), some (vi (v1)), some (vi (v2)), some (vi (v3)), some (vi (v4)), some (vi (v5)), some (vi ((v6) + (0))), some (vi (v7 + 1)), none]) (And.intro rfl (And.intro rfl (And.intro rfl (And.intro rfl (And.intro rfl (And.intro rfl (And.intro rfl (And.intro rfl trivial)))))))) ?_
    exact h
  · have h := h.2 e
    refine x_aload_n (pc := 97) dX11_torn_97 rfl rfl ?_
    refine x_getR (pc := 98) (i := r_obj) (a := r_actMany) fl_X11_123 dX11_torn_98 (sN_r_obj hS) (sT_r_obj hS) rfl (sR_r_obj_38 hS) ?_
    refine x_iload (pc := 101) dX11_torn_101 rfl ?_
    refine y_iald (pc := 103) (i := r_actMany) (n := 600) dX11_torn_103 (sN_r_actMany hS) (sT_r_actMany hS) (sL_r_actMany hS) h.1 ?_
    have h := h.2
    refine x_iload (pc := 104) dX11_torn_104 rfl ?_
    refine x_if_eq (pc := 106) (t := 119) dX11_torn_106 (by decide) (fun e => ?_) (fun e => ?_)
    · have h := h.1 e
      refine x_iconst (pc := 119) dX11_torn_119 ?_
      refine x_imul (pc := 120) dX11_torn_120 ?_
      refine x_goto (pc := 121) (t := 125) dX11_torn_121 (by decide) ?_
      refine x_iadd (pc := 125) dX11_torn_125 ?_
      refine x_istore (pc := 126) (L' := [some (vr G r_obj), some (vi (v1)), some (vi (v2)), some (vi (v3)), some (vi (v4)), some (vi (v5)), some (vi ((v6) + ((I r_actMany (ix (v7))) * (1)))), some (vi (v7)), some (vi (s0))]) dX11_torn_126 (by decide) (xst1 rfl rfl rfl) ?_
      refine x_iinc (pc := 128) (L' := [some (vr G r_obj), some (vi (v1)), some (vi (v2)), some (vi (v3)), some (vi (v4)), some (vi (v5)), some (vi ((v6) + ((I r_actMany (ix (v7))) * (1)))), some (vi (v7 + 1)), some (vi (s0))]) dX11_torn_128 rfl (by decide) (xst1 rfl rfl rfl) ?_
      refine x_goto (pc := 131) (t := 6) dX11_torn_131 (by decide) ?_
      refine x_less (L' := [some (vr G r_obj), some (vi (v1)), some (vi (v2)), some (vi (v3)), some (vi (v4)), some (vi (v5)), some (vi ((v6) + ((I r_actMany (ix (v7))) * (1)))), some (vi (v7 + 1)), none]) (And.intro rfl (And.intro rfl (And.intro rfl (And.intro rfl (And.intro rfl (And.intro rfl (And.intro rfl (And.intro rfl trivial)))))))) ?_
      exact h
    · have h := h.2 e
      refine x_aload_n (pc := 109) dX11_torn_109 rfl rfl ?_
      refine x_getR (pc := 110) (i := r_obj) (a := r_actCost) fl_X11_126 dX11_torn_110 (sN_r_obj hS) (sT_r_obj hS) rfl (sR_r_obj_39 hS) ?_
      refine x_iload (pc := 113) dX11_torn_113 rfl ?_
      refine y_iald (pc := 115) (i := r_actCost) (n := 600) dX11_torn_115 (sN_r_actCost hS) (sT_r_actCost hS) (sL_r_actCost hS) h.1 ?_
      have h := h.2
      refine x_goto (pc := 116) (t := 120) dX11_torn_116 (by decide) ?_
      refine x_imul (pc := 120) dX11_torn_120 ?_
      refine x_goto (pc := 121) (t := 125) dX11_torn_121 (by decide) ?_
      refine x_iadd (pc := 125) dX11_torn_125 ?_
      refine x_istore (pc := 126) (L' := [some (vr G r_obj), some (vi (v1)), some (vi (v2)), some (vi (v3)), some (vi (v4)), some (vi (v5)), some (vi ((v6) + ((I r_actMany (ix (v7))) * (I r_actCost (ix (v7)))))), some (vi (v7)), some (vi (s0))]) dX11_torn_126 (by decide) (xst1 rfl rfl rfl) ?_
      refine x_iinc (pc := 128) (L' := [some (vr G r_obj), some (vi (v1)), some (vi (v2)), some (vi (v3)), some (vi (v4)), some (vi (v5)), some (vi ((v6) + ((I r_actMany (ix (v7))) * (I r_actCost (ix (v7)))))), some (vi (v7 + 1)), some (vi (s0))]) dX11_torn_128 rfl (by decide) (xst1 rfl rfl rfl) ?_
      refine x_goto (pc := 131) (t := 6) dX11_torn_131 (by decide) ?_
      refine x_less (L' := [some (vr G r_obj), some (vi (v1)), some (vi (v2)), some (vi (v3)), some (vi (v4)), some (vi (v5)), some (vi ((v6) + ((I r_actMany (ix (v7))) * (I r_actCost (ix (v7)))))), some (vi (v7 + 1)), none]) (And.intro rfl (And.intro rfl (And.intro rfl (And.intro rfl (And.intro rfl (And.intro rfl (And.intro rfl (And.intro rfl trivial)))))))) ?_
      exact h
set_option maxHeartbeats 4000000 in
set_option maxRecDepth 100000 in
theorem b_R_torn_k60 {G : XG} {S : XS}  {I : XI} {v1 : Int} {v2 : Int} {v3 : Int} {v4 : Int} {v5 : Int} {v6 : Int} {v7 : Int} {R : Int → XI → Prop} (hS : xSh S)  (h : (inb (v7) 600 ∧ ((w32 (v3) < w32 (I r_actWeek (ix (v7))) → R_torn_k88 G S I (v1) (v2) (v3) (v4) (v5) (v6) (v7) (0) R) ∧ (¬ (w32 (v3) < w32 (I r_actWeek (ix (v7)))) → (inb (v7) 600 ∧ ((w32 (v4) < w32 (I r_actTold (ix (v7))) → R_torn_k88 G S I (v1) (v2) (v3) (v4) (v5) (v6) (v7) (0) R) ∧ (¬ (w32 (v4) < w32 (I r_actTold (ix (v7)))) → R_torn_k88 G S I (v1) (v2) (v3) (v4) (v5) (v6) (v7) (1) R))))))) : R_torn_k60 G S  I v1 v2 v3 v4 v5 v6 v7 R := by
  unfold R_torn_k60
  refine x_aload_n (pc := 60) dX11_torn_60 rfl rfl ?_
  refine x_getR (pc := 61) (i := r_obj) (a := r_actWeek) fl_X11_117 dX11_torn_61 (sN_r_obj hS) (sT_r_obj hS) rfl (sR_r_obj_36 hS) ?_
  refine x_iload (pc := 64) dX11_torn_64 rfl ?_
  refine y_iald (pc := 66) (i := r_actWeek) (n := 600) dX11_torn_66 (sN_r_actWeek hS) (sT_r_actWeek hS) (sL_r_actWeek hS) h.1 ?_
  have h := h.2
  refine x_iload_n (pc := 67) dX11_torn_67 rfl rfl ?_
  refine x_icmp_gt (pc := 68) (t := 87) dX11_torn_68 (by decide) (fun e => ?_) (fun e => ?_)
  · have h := h.1 e
    refine x_iconst (pc := 87) dX11_torn_87 ?_
    exact h
  · have h := h.2 e
    refine x_aload_n (pc := 71) dX11_torn_71 rfl rfl ?_
    refine x_getR (pc := 72) (i := r_obj) (a := r_actTold) fl_X11_120 dX11_torn_72 (sN_r_obj hS) (sT_r_obj hS) rfl (sR_r_obj_37 hS) ?_
    refine x_iload (pc := 75) dX11_torn_75 rfl ?_
    refine y_iald (pc := 77) (i := r_actTold) (n := 600) dX11_torn_77 (sN_r_actTold hS) (sT_r_actTold hS) (sL_r_actTold hS) h.1 ?_
    have h := h.2
    refine x_iload (pc := 78) dX11_torn_78 rfl ?_
    refine x_icmp_gt (pc := 80) (t := 87) dX11_torn_80 (by decide) (fun e => ?_) (fun e => ?_)
    · have h := h.1 e
      refine x_iconst (pc := 87) dX11_torn_87 ?_
      exact h
    · have h := h.2 e
      refine x_iconst (pc := 83) dX11_torn_83 ?_
      refine x_goto (pc := 84) (t := 88) dX11_torn_84 (by decide) ?_
      exact h
set_option maxHeartbeats 4000000 in
set_option maxRecDepth 100000 in
theorem b_R_view {G : XG} {S : XS} {I : XI} {v1 : Int} {R : Int → XI → Prop} (hS : xSh S)  (h : (∀ I1 : XI, I1 = up I r_obj 0 (0) → R_in G S I1 (v1) ((-1)) (I1 r_now 0) (fun r3 I2 => ((w32 (r3) = 0 → R (0) I2) ∧ (¬ (w32 (r3) = 0) → (∀ I4 : XI, I4 = up I2 r_viewed 0 (v1) → R (1) I4)))))) : R_view G S I v1 R := by
  refine x_start [some (vr G r_obj), some (vi (v1))] (by decide) (Nat.le_of_ble_eq_true rfl) rfl ?_
  refine x_aload_n (pc := 0) dX11_view_0 rfl rfl ?_
  refine x_iconst (pc := 1) dX11_view_1 ?_
  refine x_putI (pc := 2) (i := r_obj) fl_X11_220 dX11_view_2 (sN_r_obj hS) (sT_r_obj hS) rfl ?_
  have h := h _ rfl
  generalize up I r_obj 0 (0) = I1 at h ⊢
  refine x_iload_n (pc := 5) dX11_view_5 rfl rfl ?_
  refine x_iconst (pc := 6) dX11_view_6 ?_
  refine x_aload_n (pc := 7) dX11_view_7 rfl rfl ?_
  refine x_getR (pc := 8) (i := r_obj) (a := r_now) fl_X11_23 dX11_view_8 (sN_r_obj hS) (sT_r_obj hS) rfl (sR_r_obj_5 hS) ?_
  refine x_iconst (pc := 11) dX11_view_11 ?_
  refine y_iald (pc := 12) (i := r_now) (n := 4) dX11_view_12 (sN_r_now hS) (sT_r_now hS) (sL_r_now hS) (inb_nat (k := 0) (by decide) (by decide)) ?_
  rw [show ix 0 = 0 from rfl]
  refine y_Si (pc := 13) (As := [vi (v1), vi ((-1)), vi (I1 r_now 0)]) (rest := []) ok_X11_in ml_X11_232 dX11_view_13 rfl ⟨rfl, rfl⟩ ⟨by decide, by decide⟩ ⟨Nat.le_refl _, Nat.le_refl _⟩ (Nat.le_of_ble_eq_true rfl) rfl h (fun r3 I2 h => ?_)
  refine x_if_ne (pc := 16) (t := 21) dX11_view_16 (by decide) (fun e => ?_) (fun e => ?_)
  · have h := h.1 e
    refine x_iconst (pc := 19) dX11_view_19 ?_
    exact y_zret (pc := 20) dX11_view_20 rfl ⟨Nat.le_refl _, Nat.le_refl _⟩ (Or.inl rfl) h
  · have h := h.2 e
    refine x_aload_n (pc := 21) dX11_view_21 rfl rfl ?_
    refine x_getR (pc := 22) (i := r_obj) (a := r_viewed) fl_X11_26 dX11_view_22 (sN_r_obj hS) (sT_r_obj hS) rfl (sR_r_obj_6 hS) ?_
    refine x_iconst (pc := 25) dX11_view_25 ?_
    refine x_iload_n (pc := 26) dX11_view_26 rfl rfl ?_
    refine y_iast (pc := 27) (i := r_viewed) (n := 4) dX11_view_27 (sN_r_viewed hS) (sT_r_viewed hS) (sL_r_viewed hS) (inb_nat (k := 0) (by decide) (by decide)) ?_
    rw [show ix 0 = 0 from rfl]
    have h := h _ rfl
    generalize up I2 r_viewed 0 (v1) = I4 at h ⊢
    refine x_iconst (pc := 28) dX11_view_28 ?_
    exact y_zret (pc := 29) dX11_view_29 rfl ⟨Nat.le_refl _, Nat.le_refl _⟩ (Or.inr rfl) h
set_option maxHeartbeats 4000000 in
set_option maxRecDepth 100000 in
theorem b_R_viewWeek {G : XG} {S : XS} {I : XI}  {R : Int → XI → Prop} (hS : xSh S)  (h : ((w32 (I r_viewed 0) = w32 ((-1)) → R (I r_now 0) I) ∧ (¬ (w32 (I r_viewed 0) = w32 ((-1))) → R (I r_viewed 0) I))) : R_viewWeek G S I  R := by
  refine x_start [some (vr G r_obj)] (by decide) (Nat.le_of_ble_eq_true rfl) rfl ?_
  refine x_aload_n (pc := 0) dX11_viewWeek_0 rfl rfl ?_
  refine x_getR (pc := 1) (i := r_obj) (a := r_viewed) fl_X11_26 dX11_viewWeek_1 (sN_r_obj hS) (sT_r_obj hS) rfl (sR_r_obj_6 hS) ?_
  refine x_iconst (pc := 4) dX11_viewWeek_4 ?_
  refine y_iald (pc := 5) (i := r_viewed) (n := 4) dX11_viewWeek_5 (sN_r_viewed hS) (sT_r_viewed hS) (sL_r_viewed hS) (inb_nat (k := 0) (by decide) (by decide)) ?_
  rw [show ix 0 = 0 from rfl]
  refine x_iconst (pc := 6) dX11_viewWeek_6 ?_
  refine x_icmp_ne (pc := 7) (t := 19) dX11_viewWeek_7 (by decide) (fun e => ?_) (fun e => ?_)
  · have h := h.1 e
    refine x_aload_n (pc := 10) dX11_viewWeek_10 rfl rfl ?_
    refine x_getR (pc := 11) (i := r_obj) (a := r_now) fl_X11_23 dX11_viewWeek_11 (sN_r_obj hS) (sT_r_obj hS) rfl (sR_r_obj_5 hS) ?_
    refine x_iconst (pc := 14) dX11_viewWeek_14 ?_
    refine y_iald (pc := 15) (i := r_now) (n := 4) dX11_viewWeek_15 (sN_r_now hS) (sT_r_now hS) (sL_r_now hS) (inb_nat (k := 0) (by decide) (by decide)) ?_
    rw [show ix 0 = 0 from rfl]
    refine x_goto (pc := 16) (t := 25) dX11_viewWeek_16 (by decide) ?_
    exact y_iret (pc := 25) dX11_viewWeek_25 rfl ⟨Nat.le_refl _, Nat.le_refl _⟩ h
  · have h := h.2 e
    refine x_aload_n (pc := 19) dX11_viewWeek_19 rfl rfl ?_
    refine x_getR (pc := 20) (i := r_obj) (a := r_viewed) fl_X11_26 dX11_viewWeek_20 (sN_r_obj hS) (sT_r_obj hS) rfl (sR_r_obj_6 hS) ?_
    refine x_iconst (pc := 23) dX11_viewWeek_23 ?_
    refine y_iald (pc := 24) (i := r_viewed) (n := 4) dX11_viewWeek_24 (sN_r_viewed hS) (sT_r_viewed hS) (sL_r_viewed hS) (inb_nat (k := 0) (by decide) (by decide)) ?_
    rw [show ix 0 = 0 from rfl]
    exact y_iret (pc := 25) dX11_viewWeek_25 rfl ⟨Nat.le_refl _, Nat.le_refl _⟩ h
set_option maxHeartbeats 4000000 in
set_option maxRecDepth 100000 in
theorem b_R_wander {G : XG} {S : XS} {I : XI} {v1 : Int} {v2 : Int} {R : XI → Prop} (hS : xSh S)  (h : R_wander_k2 G S I (v1) (v2) (0) R) : R_wander G S I v1 v2 R := by
  refine x_start [some (vr G r_obj), some (vi (v1)), some (vi (v2)), none, none, none, none, none, none] (by decide) (Nat.le_of_ble_eq_true rfl) rfl ?_
  refine x_iconst (pc := 0) dX11_wander_0 ?_
  refine x_istore_n (pc := 1) (L' := [some (vr G r_obj), some (vi (v1)), some (vi (v2)), some (vi (0)), none, none, none, none, none]) dX11_wander_1 rfl (by decide) (xst1 rfl rfl rfl) ?_
  exact h
set_option maxHeartbeats 4000000 in
set_option maxRecDepth 100000 in
theorem b_R_wander_k2 {G : XG} {S : XS}  {I : XI} {v1 : Int} {v2 : Int} {v3 : Int} {R : XI → Prop} (hS : xSh S)  (h : ((w32 (10) ≤ w32 (v3) → R_wander_k43 G S I (0) R) ∧ (¬ (w32 (10) ≤ w32 (v3)) → ((w32 (I r_cells 0) ≤ w32 (v3) → (inb (v3) 10 ∧ (∀ I1 : XI, I1 = up I r_weight (ix (v3)) (0) → R_wander_k2 G S I1 (v1) (v2) (v3 + 1) R))) ∧ (¬ (w32 (I r_cells 0) ≤ w32 (v3)) → R_grassOf G S I (v3) (v1) (v2) (fun r3 I2 => (inb (v3) 10 ∧ (∀ I4 : XI, I4 = up I2 r_weight (ix (v3)) (r3) → R_wander_k2 G S I4 (v1) (v2) (v3 + 1) R)))))))) : R_wander_k2 G S  I v1 v2 v3 R := by
  unfold R_wander_k2
  refine x_iload_n (pc := 2) dX11_wander_2 rfl rfl ?_
  refine x_bipush (pc := 3) dX11_wander_3 (by decide) ?_
  refine x_icmp_ge (pc := 5) (t := 41) dX11_wander_5 (by decide) (fun e => ?_) (fun e => ?_)
  · have h := h.1 e
    refine x_iconst (pc := 41) dX11_wander_41 ?_
    refine x_istore_n (pc := 42) (L' := [some (vr G r_obj), some (vi (v1)), some (vi (v2)), some (vi (0)), none, none, none, none, none]) dX11_wander_42 rfl (by decide) (xst1 rfl rfl rfl) ?_
    refine x_less (L' := [some (vr G r_obj), none, none, some (vi (0)), none, none, none, none, none]) (And.intro rfl (And.intro rfl trivial)) ?_
    exact h
  · have h := h.2 e
    refine x_aload_n (pc := 8) dX11_wander_8 rfl rfl ?_
    refine x_getR (pc := 9) (i := r_obj) (a := r_weight) fl_X11_171 dX11_wander_9 (sN_r_obj hS) (sT_r_obj hS) rfl (sR_r_obj_54 hS) ?_
    refine x_iload_n (pc := 12) dX11_wander_12 rfl rfl ?_
    refine x_iload_n (pc := 13) dX11_wander_13 rfl rfl ?_
    refine x_aload_n (pc := 14) dX11_wander_14 rfl rfl ?_
    refine x_getR (pc := 15) (i := r_obj) (a := r_cells) fl_X11_29 dX11_wander_15 (sN_r_obj hS) (sT_r_obj hS) rfl (sR_r_obj_7 hS) ?_
    refine x_iconst (pc := 18) dX11_wander_18 ?_
    refine y_iald (pc := 19) (i := r_cells) (n := 4) dX11_wander_19 (sN_r_cells hS) (sT_r_cells hS) (sL_r_cells hS) (inb_nat (k := 0) (by decide) (by decide)) ?_
    rw [show ix 0 = 0 from rfl]
    refine x_icmp_ge (pc := 20) (t := 33) dX11_wander_20 (by decide) (fun e => ?_) (fun e => ?_)
    · have h := h.1 e
      refine x_iconst (pc := 33) dX11_wander_33 ?_
      refine y_iast (pc := 34) (i := r_weight) (n := 10) dX11_wander_34 (sN_r_weight hS) (sT_r_weight hS) (sL_r_weight hS) h.1 ?_
      have h := h.2
      have h := h _ rfl
      generalize up I r_weight (ix (v3)) (0) = I1 at h ⊢
      refine x_iinc (pc := 35) (L' := [some (vr G r_obj), some (vi (v1)), some (vi (v2)), some (vi (v3 + 1)), none, none, none, none, none]) dX11_wander_35 rfl (by decide) (xst1 rfl rfl rfl) ?_
      refine x_goto (pc := 38) (t := 2) dX11_wander_38 (by decide) ?_
      exact h
    · have h := h.2 e
      refine x_aload_n (pc := 23) dX11_wander_23 rfl rfl ?_
      refine x_iload_n (pc := 24) dX11_wander_24 rfl rfl ?_
      refine x_iload_n (pc := 25) dX11_wander_25 rfl rfl ?_
      refine x_iload_n (pc := 26) dX11_wander_26 rfl rfl ?_
      refine y_Vi (pc := 27) (i := r_obj) (As := [vi (v3), vi (v1), vi (v2)]) (rest := [vi (v3), vr G r_weight]) ok_X11_grassOf ml_X11_248 dX11_wander_27 (sN_r_obj hS) (sT_r_obj hS) (by decide) rfl rfl rfl ⟨rfl, rfl⟩ ⟨by decide, by decide⟩ ⟨Nat.le_refl _, Nat.le_refl _⟩ (Nat.le_of_ble_eq_true rfl) rfl h (fun r3 I2 h => ?_)
      refine x_goto (pc := 30) (t := 34) dX11_wander_30 (by decide) ?_
      refine y_iast (pc := 34) (i := r_weight) (n := 10) dX11_wander_34 (sN_r_weight hS) (sT_r_weight hS) (sL_r_weight hS) h.1 ?_
      have h := h.2
      have h := h _ rfl
      generalize up I2 r_weight (ix (v3)) (r3) = I4 at h ⊢
      refine x_iinc (pc := 35) (L' := [some (vr G r_obj), some (vi (v1)), some (vi (v2)), some (vi (v3 + 1)), none, none, none, none, none]) dX11_wander_35 rfl (by decide) (xst1 rfl rfl rfl) ?_
      refine x_goto (pc := 38) (t := 2) dX11_wander_38 (by decide) ?_
      exact h
set_option maxHeartbeats 4000000 in
set_option maxRecDepth 100000 in
theorem b_R_wander_k43 {G : XG} {S : XS}  {I : XI} {v3 : Int} {R : XI → Prop} (hS : xSh S)  (h : ((w32 (10) ≤ w32 (v3) → R_wander_k64 G S I (0) R) ∧ (¬ (w32 (10) ≤ w32 (v3)) → (inb (v3) 10 ∧ (∀ I5 : XI, I5 = up I r_next (ix (v3)) (0) → R_wander_k43 G S I5 (v3 + 1) R))))) : R_wander_k43 G S  I v3 R := by
  unfold R_wander_k43
  refine x_iload_n (pc := 43) dX11_wander_43 rfl rfl ?_
  refine x_bipush (pc := 44) dX11_wander_44 (by decide) ?_
  refine x_icmp_ge (pc := 46) (t := 62) dX11_wander_46 (by decide) (fun e => ?_) (fun e => ?_)
  · have h := h.1 e
    refine x_iconst (pc := 62) dX11_wander_62 ?_
    refine x_istore_n (pc := 63) (L' := [some (vr G r_obj), none, none, some (vi (0)), none, none, none, none, none]) dX11_wander_63 rfl (by decide) (xst1 rfl rfl trivial) ?_
    exact h
  · have h := h.2 e
    refine x_aload_n (pc := 49) dX11_wander_49 rfl rfl ?_
    refine x_getR (pc := 50) (i := r_obj) (a := r_next) fl_X11_168 dX11_wander_50 (sN_r_obj hS) (sT_r_obj hS) rfl (sR_r_obj_53 hS) ?_
    refine x_iload_n (pc := 53) dX11_wander_53 rfl rfl ?_
    refine x_iconst (pc := 54) dX11_wander_54 ?_
    refine y_iast (pc := 55) (i := r_next) (n := 10) dX11_wander_55 (sN_r_next hS) (sT_r_next hS) (sL_r_next hS) h.1 ?_
    have h := h.2
    have h := h _ rfl
    generalize up I r_next (ix (v3)) (0) = I5 at h ⊢
    refine x_iinc (pc := 56) (L' := [some (vr G r_obj), none, none, some (vi (v3 + 1)), none, none, none, none, none]) dX11_wander_56 rfl (by decide) (xst1 rfl rfl trivial) ?_
    refine x_goto (pc := 59) (t := 43) dX11_wander_59 (by decide) ?_
    exact h
set_option maxHeartbeats 4000000 in
set_option maxRecDepth 100000 in
theorem b_R_wander_k64 {G : XG} {S : XS}  {I : XI} {v3 : Int} {R : XI → Prop} (hS : xSh S)  (h : ((w32 (I r_cells 0) ≤ w32 (v3) → R_wander_k301 G S I (0) R) ∧ (¬ (w32 (I r_cells 0) ≤ w32 (v3)) → R_wander_k80 G S I (v3) (0) (0) R))) : R_wander_k64 G S  I v3 R := by
  unfold R_wander_k64
  refine x_iload_n (pc := 64) dX11_wander_64 rfl rfl ?_
  refine x_aload_n (pc := 65) dX11_wander_65 rfl rfl ?_
  refine x_getR (pc := 66) (i := r_obj) (a := r_cells) fl_X11_29 dX11_wander_66 (sN_r_obj hS) (sT_r_obj hS) rfl (sR_r_obj_7 hS) ?_
  refine x_iconst (pc := 69) dX11_wander_69 ?_
  refine y_iald (pc := 70) (i := r_cells) (n := 4) dX11_wander_70 (sN_r_cells hS) (sT_r_cells hS) (sL_r_cells hS) (inb_nat (k := 0) (by decide) (by decide)) ?_
  rw [show ix 0 = 0 from rfl]
  refine x_icmp_ge (pc := 71) (t := 299) dX11_wander_71 (by decide) (fun e => ?_) (fun e => ?_)
  · have h := h.1 e
    refine x_iconst (pc := 299) dX11_wander_299 ?_
    refine x_istore_n (pc := 300) (L' := [some (vr G r_obj), none, none, some (vi (0)), none, none, none, none, none]) dX11_wander_300 rfl (by decide) (xst1 rfl rfl trivial) ?_
    exact h
  · have h := h.2 e
    refine x_iconst (pc := 74) dX11_wander_74 ?_
    refine x_istore (pc := 75) (L' := [some (vr G r_obj), none, none, some (vi (v3)), some (vi (0)), none, none, none, none]) dX11_wander_75 (by decide) (xst1 rfl rfl rfl) ?_
    refine x_iconst (pc := 77) dX11_wander_77 ?_
    refine x_istore (pc := 78) (L' := [some (vr G r_obj), none, none, some (vi (v3)), some (vi (0)), some (vi (0)), none, none, none]) dX11_wander_78 (by decide) (xst1 rfl rfl rfl) ?_
    exact h
set_option maxHeartbeats 4000000 in
set_option maxRecDepth 100000 in
theorem b_R_wander_k301 {G : XG} {S : XS}  {I : XI} {v3 : Int} {R : XI → Prop} (hS : xSh S)  (h : ((w32 (10) ≤ w32 (v3) → R I) ∧ (¬ (w32 (10) ≤ w32 (v3)) → (inb (v3) 10 ∧ (inb (v3) 10 ∧ (∀ I6 : XI, I6 = up I r_parts (ix (v3)) (I r_next (ix (v3))) → R_wander_k301 G S I6 (v3 + 1) R)))))) : R_wander_k301 G S  I v3 R := by
  unfold R_wander_k301
  refine x_iload_n (pc := 301) dX11_wander_301 rfl rfl ?_
  refine x_bipush (pc := 302) dX11_wander_302 (by decide) ?_
  refine x_icmp_ge (pc := 304) (t := 325) dX11_wander_304 (by decide) (fun e => ?_) (fun e => ?_)
  · have h := h.1 e
    exact y_vret (pc := 325) dX11_wander_325 rfl ⟨Nat.le_refl _, Nat.le_refl _⟩ h
  · have h := h.2 e
    refine x_aload_n (pc := 307) dX11_wander_307 rfl rfl ?_
    refine x_getR (pc := 308) (i := r_obj) (a := r_parts) fl_X11_165 dX11_wander_308 (sN_r_obj hS) (sT_r_obj hS) rfl (sR_r_obj_52 hS) ?_
    refine x_iload_n (pc := 311) dX11_wander_311 rfl rfl ?_
    refine x_aload_n (pc := 312) dX11_wander_312 rfl rfl ?_
    refine x_getR (pc := 313) (i := r_obj) (a := r_next) fl_X11_168 dX11_wander_313 (sN_r_obj hS) (sT_r_obj hS) rfl (sR_r_obj_53 hS) ?_
    refine x_iload_n (pc := 316) dX11_wander_316 rfl rfl ?_
    refine y_iald (pc := 317) (i := r_next) (n := 10) dX11_wander_317 (sN_r_next hS) (sT_r_next hS) (sL_r_next hS) h.1 ?_
    have h := h.2
    refine y_iast (pc := 318) (i := r_parts) (n := 10) dX11_wander_318 (sN_r_parts hS) (sT_r_parts hS) (sL_r_parts hS) h.1 ?_
    have h := h.2
    have h := h _ rfl
    generalize up I r_parts (ix (v3)) (I r_next (ix (v3))) = I6 at h ⊢
    refine x_iinc (pc := 319) (L' := [some (vr G r_obj), none, none, some (vi (v3 + 1)), none, none, none, none, none]) dX11_wander_319 rfl (by decide) (xst1 rfl rfl trivial) ?_
    refine x_goto (pc := 322) (t := 301) dX11_wander_322 (by decide) ?_
    exact h
set_option maxHeartbeats 4000000 in
set_option maxRecDepth 100000 in
theorem b_R_wander_k80 {G : XG} {S : XS}  {I : XI} {v3 : Int} {v4 : Int} {v5 : Int} {R : XI → Prop} (hS : xSh S)  (h : ((w32 (I r_cells 0) ≤ w32 (v5) → ((w32 (v4) = 0 → (inb (v3) 10 ∧ (inb (v3) 10 ∧ (inb (v3) 10 ∧ (∀ I7 : XI, I7 = up I r_next (ix (v3)) ((I r_next (ix (v3))) + (I r_parts (ix (v3)))) → R_wander_k64 G S I7 (v3 + 1) R))))) ∧ (¬ (w32 (v4) = 0) → (inb (v3) 10 ∧ R_wander_k168 G S I (v3) (v4) (I r_parts (ix (v3))) (0) R)))) ∧ (¬ (w32 (I r_cells 0) ≤ w32 (v5)) → ((w32 (v5) = w32 (v3) → R_wander_k114 G S I (v3) (v5) (v4) R) ∧ (¬ (w32 (v5) = w32 (v3)) → (inb (((10) * (v3)) + (v5)) 400 ∧ ((w32 (I r_ways (ix (((10) * (v3)) + (v5)))) ≤ 0 → R_wander_k80 G S I (v3) ((v4) + (0)) (v5 + 1) R) ∧ (¬ (w32 (I r_ways (ix (((10) * (v3)) + (v5)))) ≤ 0) → R_wander_k114 G S I (v3) (v5) (v4) R)))))))) : R_wander_k80 G S  I v3 v4 v5 R := by
  unfold R_wander_k80
  refine x_iload (pc := 80) dX11_wander_80 rfl ?_
  refine x_aload_n (pc := 82) dX11_wander_82 rfl rfl ?_
  refine x_getR (pc := 83) (i := r_obj) (a := r_cells) fl_X11_29 dX11_wander_83 (sN_r_obj hS) (sT_r_obj hS) rfl (sR_r_obj_7 hS) ?_
  refine x_iconst (pc := 86) dX11_wander_86 ?_
  refine y_iald (pc := 87) (i := r_cells) (n := 4) dX11_wander_87 (sN_r_cells hS) (sT_r_cells hS) (sL_r_cells hS) (inb_nat (k := 0) (by decide) (by decide)) ?_
  rw [show ix 0 = 0 from rfl]
  refine x_icmp_ge (pc := 88) (t := 134) dX11_wander_88 (by decide) (fun e => ?_) (fun e => ?_)
  · have h := h.1 e
    refine x_iload (pc := 134) dX11_wander_134 rfl ?_
    refine x_if_ne (pc := 136) (t := 157) dX11_wander_136 (by decide) (fun e => ?_) (fun e => ?_)
    · have h := h.1 e
      refine x_aload_n (pc := 139) dX11_wander_139 rfl rfl ?_
      refine x_getR (pc := 140) (i := r_obj) (a := r_next) fl_X11_168 dX11_wander_140 (sN_r_obj hS) (sT_r_obj hS) rfl (sR_r_obj_53 hS) ?_
      refine x_iload_n (pc := 143) dX11_wander_143 rfl rfl ?_
      refine x_dup2 (pc := 144) dX11_wander_144 rfl rfl ?_
      refine y_iald (pc := 145) (i := r_next) (n := 10) dX11_wander_145 (sN_r_next hS) (sT_r_next hS) (sL_r_next hS) h.1 ?_
      have h := h.2
      refine x_aload_n (pc := 146) dX11_wander_146 rfl rfl ?_
      refine x_getR (pc := 147) (i := r_obj) (a := r_parts) fl_X11_165 dX11_wander_147 (sN_r_obj hS) (sT_r_obj hS) rfl (sR_r_obj_52 hS) ?_
      refine x_iload_n (pc := 150) dX11_wander_150 rfl rfl ?_
      refine y_iald (pc := 151) (i := r_parts) (n := 10) dX11_wander_151 (sN_r_parts hS) (sT_r_parts hS) (sL_r_parts hS) h.1 ?_
      have h := h.2
      refine x_iadd (pc := 152) dX11_wander_152 ?_
      refine y_iast (pc := 153) (i := r_next) (n := 10) dX11_wander_153 (sN_r_next hS) (sT_r_next hS) (sL_r_next hS) h.1 ?_
      have h := h.2
      have h := h _ rfl
      generalize up I r_next (ix (v3)) ((I r_next (ix (v3))) + (I r_parts (ix (v3)))) = I7 at h ⊢
      refine x_goto (pc := 154) (t := 293) dX11_wander_154 (by decide) ?_
      refine x_iinc (pc := 293) (L' := [some (vr G r_obj), none, none, some (vi (v3 + 1)), some (vi (v4)), some (vi (v5)), none, none, none]) dX11_wander_293 rfl (by decide) (xst1 rfl rfl trivial) ?_
      refine x_goto (pc := 296) (t := 64) dX11_wander_296 (by decide) ?_
      refine x_less (L' := [some (vr G r_obj), none, none, some (vi (v3 + 1)), none, none, none, none, none]) (And.intro rfl (And.intro rfl trivial)) ?_
      exact h
    · have h := h.2 e
      refine x_aload_n (pc := 157) dX11_wander_157 rfl rfl ?_
      refine x_getR (pc := 158) (i := r_obj) (a := r_parts) fl_X11_165 dX11_wander_158 (sN_r_obj hS) (sT_r_obj hS) rfl (sR_r_obj_52 hS) ?_
      refine x_iload_n (pc := 161) dX11_wander_161 rfl rfl ?_
      refine y_iald (pc := 162) (i := r_parts) (n := 10) dX11_wander_162 (sN_r_parts hS) (sT_r_parts hS) (sL_r_parts hS) h.1 ?_
      have h := h.2
      refine x_istore (pc := 163) (L' := [some (vr G r_obj), none, none, some (vi (v3)), some (vi (v4)), some (vi (I r_parts (ix (v3)))), none, none, none]) dX11_wander_163 (by decide) (xst1 rfl rfl rfl) ?_
      refine x_iconst (pc := 165) dX11_wander_165 ?_
      refine x_istore (pc := 166) (L' := [some (vr G r_obj), none, none, some (vi (v3)), some (vi (v4)), some (vi (I r_parts (ix (v3)))), some (vi (0)), none, none]) dX11_wander_166 (by decide) (xst1 rfl rfl rfl) ?_
      exact h
  · have h := h.2 e
    refine x_iload (pc := 91) dX11_wander_91 rfl ?_
    refine x_iload (pc := 93) dX11_wander_93 rfl ?_
    refine x_iload_n (pc := 95) dX11_wander_95 rfl rfl ?_
    refine x_icmp_eq (pc := 96) (t := 114) dX11_wander_96 (by decide) (fun e => ?_) (fun e => ?_)
    · have h := h.1 e
      refine x_less (L' := [some (vr G r_obj), none, none, some (vi (v3)), none, some (vi (v5)), none, none, none]) (And.intro rfl (And.intro rfl (And.intro rfl trivial))) ?_
      exact h
    · have h := h.2 e
      refine x_aload_n (pc := 99) dX11_wander_99 rfl rfl ?_
      refine x_getR (pc := 100) (i := r_obj) (a := r_ways) fl_X11_36 dX11_wander_100 (sN_r_obj hS) (sT_r_obj hS) rfl (sR_r_obj_9 hS) ?_
      refine x_bipush (pc := 103) dX11_wander_103 (by decide) ?_
      refine x_iload_n (pc := 105) dX11_wander_105 rfl rfl ?_
      refine x_imul (pc := 106) dX11_wander_106 ?_
      refine x_iload (pc := 107) dX11_wander_107 rfl ?_
      refine x_iadd (pc := 109) dX11_wander_109 ?_
      refine y_iald (pc := 110) (i := r_ways) (n := 400) dX11_wander_110 (sN_r_ways hS) (sT_r_ways hS) (sL_r_ways hS) h.1 ?_
      have h := h.2
      refine x_if_le (pc := 111) (t := 124) dX11_wander_111 (by decide) (fun e => ?_) (fun e => ?_)
      · have h := h.1 e
        refine x_iconst (pc := 124) dX11_wander_124 ?_
        refine x_iadd (pc := 125) dX11_wander_125 ?_
        refine x_istore (pc := 126) (L' := [some (vr G r_obj), none, none, some (vi (v3)), some (vi ((v4) + (0))), some (vi (v5)), none, none, none]) dX11_wander_126 (by decide) (xst1 rfl rfl rfl) ?_
        refine x_iinc (pc := 128) (L' := [some (vr G r_obj), none, none, some (vi (v3)), some (vi ((v4) + (0))), some (vi (v5 + 1)), none, none, none]) dX11_wander_128 rfl (by decide) (xst1 rfl rfl rfl) ?_
        refine x_goto (pc := 131) (t := 80) dX11_wander_131 (by decide) ?_
        exact h
      · have h := h.2 e
        refine x_less (L' := [some (vr G r_obj), none, none, some (vi (v3)), none, some (vi (v5)), none, none, none]) (And.intro rfl (And.intro rfl (And.intro rfl trivial))) ?_
        exact h
set_option maxHeartbeats 4000000 in
set_option maxRecDepth 100000 in
theorem b_R_wander_k168 {G : XG} {S : XS}  {I : XI} {v3 : Int} {v4 : Int} {v5 : Int} {v6 : Int} {R : XI → Prop} (hS : xSh S)  (h : ((w32 (I r_cells 0) ≤ w32 (v6) → R_share G S I (v5) (fun I8 => R_wander_k64 G S I8 (v3 + 1) R)) ∧ (¬ (w32 (I r_cells 0) ≤ w32 (v6)) → ((w32 (v6) = w32 (v3) → R_wander_k205 G S I (v3) (v4) (v5) (v6) (1) R) ∧ (¬ (w32 (v6) = w32 (v3)) → (inb (((10) * (v3)) + (v6)) 400 ∧ ((w32 (I r_ways (ix (((10) * (v3)) + (v6)))) ≤ 0 → R_wander_k205 G S I (v3) (v4) (v5) (v6) (0) R) ∧ (¬ (w32 (I r_ways (ix (((10) * (v3)) + (v6)))) ≤ 0) → R_wander_k205 G S I (v3) (v4) (v5) (v6) (1) R)))))))) : R_wander_k168 G S  I v3 v4 v5 v6 R := by
  unfold R_wander_k168
  refine x_iload (pc := 168) dX11_wander_168 rfl ?_
  refine x_aload_n (pc := 170) dX11_wander_170 rfl rfl ?_
  refine x_getR (pc := 171) (i := r_obj) (a := r_cells) fl_X11_29 dX11_wander_171 (sN_r_obj hS) (sT_r_obj hS) rfl (sR_r_obj_7 hS) ?_
  refine x_iconst (pc := 174) dX11_wander_174 ?_
  refine y_iald (pc := 175) (i := r_cells) (n := 4) dX11_wander_175 (sN_r_cells hS) (sT_r_cells hS) (sL_r_cells hS) (inb_nat (k := 0) (by decide) (by decide)) ?_
  rw [show ix 0 = 0 from rfl]
  refine x_icmp_ge (pc := 176) (t := 287) dX11_wander_176 (by decide) (fun e => ?_) (fun e => ?_)
  · have h := h.1 e
    refine x_aload_n (pc := 287) dX11_wander_287 rfl rfl ?_
    refine x_iload (pc := 288) dX11_wander_288 rfl ?_
    refine y_Vv (pc := 290) (i := r_obj) (As := [vi (v5)]) (rest := []) ok_X11_share ml_X11_252 dX11_wander_290 (sN_r_obj hS) (sT_r_obj hS) (by decide) rfl rfl rfl ⟨rfl, rfl⟩ ⟨by decide, by decide⟩ ⟨Nat.le_refl _, Nat.le_refl _⟩ (Nat.le_of_ble_eq_true rfl) rfl h (fun I8 h => ?_)
    refine x_iinc (pc := 293) (L' := [some (vr G r_obj), none, none, some (vi (v3 + 1)), some (vi (v4)), some (vi (v5)), some (vi (v6)), none, none]) dX11_wander_293 rfl (by decide) (xst1 rfl rfl trivial) ?_
    refine x_goto (pc := 296) (t := 64) dX11_wander_296 (by decide) ?_
    refine x_less (L' := [some (vr G r_obj), none, none, some (vi (v3 + 1)), none, none, none, none, none]) (And.intro rfl (And.intro rfl trivial)) ?_
    exact h
  · have h := h.2 e
    refine x_iload (pc := 179) dX11_wander_179 rfl ?_
    refine x_iload_n (pc := 181) dX11_wander_181 rfl rfl ?_
    refine x_icmp_eq (pc := 182) (t := 200) dX11_wander_182 (by decide) (fun e => ?_) (fun e => ?_)
    · have h := h.1 e
      refine x_iconst (pc := 200) dX11_wander_200 ?_
      refine x_goto (pc := 201) (t := 205) dX11_wander_201 (by decide) ?_
      exact h
    · have h := h.2 e
      refine x_aload_n (pc := 185) dX11_wander_185 rfl rfl ?_
      refine x_getR (pc := 186) (i := r_obj) (a := r_ways) fl_X11_36 dX11_wander_186 (sN_r_obj hS) (sT_r_obj hS) rfl (sR_r_obj_9 hS) ?_
      refine x_bipush (pc := 189) dX11_wander_189 (by decide) ?_
      refine x_iload_n (pc := 191) dX11_wander_191 rfl rfl ?_
      refine x_imul (pc := 192) dX11_wander_192 ?_
      refine x_iload (pc := 193) dX11_wander_193 rfl ?_
      refine x_iadd (pc := 195) dX11_wander_195 ?_
      refine y_iald (pc := 196) (i := r_ways) (n := 400) dX11_wander_196 (sN_r_ways hS) (sT_r_ways hS) (sL_r_ways hS) h.1 ?_
      have h := h.2
      refine x_if_le (pc := 197) (t := 204) dX11_wander_197 (by decide) (fun e => ?_) (fun e => ?_)
      · have h := h.1 e
        refine x_iconst (pc := 204) dX11_wander_204 ?_
        exact h
      · have h := h.2 e
        refine x_iconst (pc := 200) dX11_wander_200 ?_
        refine x_goto (pc := 201) (t := 205) dX11_wander_201 (by decide) ?_
        exact h
set_option maxHeartbeats 4000000 in
set_option maxRecDepth 100000 in
theorem b_R_wander_k114 {G : XG} {S : XS}  {I : XI} {v3 : Int} {v5 : Int} {s0 : Int} {R : XI → Prop} (hS : xSh S)  (h : (inb (v5) 10 ∧ R_wander_k80 G S I (v3) ((s0) + (I r_weight (ix (v5)))) (v5 + 1) R)) : R_wander_k114 G S  I v3 v5 s0 R := by
  unfold R_wander_k114
  refine x_aload_n (pc := 114) dX11_wander_114 rfl rfl ?_
  refine x_getR (pc := 115) (i := r_obj) (a := r_weight) fl_X11_171 dX11_wander_115 (sN_r_obj hS) (sT_r_obj hS) rfl (sR_r_obj_54 hS) ?_
  refine x_iload (pc := 118) dX11_wander_118 rfl ?_
  refine y_iald (pc := 120) (i := r_weight) (n := 10) dX11_wander_120 (sN_r_weight hS) (sT_r_weight hS) (sL_r_weight hS) h.1 ?_
  have h := h.2
  refine x_goto (pc := 121) (t := 125) dX11_wander_121 (by decide) ?_
  refine x_iadd (pc := 125) dX11_wander_125 ?_
  refine x_istore (pc := 126) (L' := [some (vr G r_obj), none, none, some (vi (v3)), some (vi ((s0) + (I r_weight (ix (v5))))), some (vi (v5)), none, none, none]) dX11_wander_126 (by decide) (xst1 rfl rfl rfl) ?_
  refine x_iinc (pc := 128) (L' := [some (vr G r_obj), none, none, some (vi (v3)), some (vi ((s0) + (I r_weight (ix (v5))))), some (vi (v5 + 1)), none, none, none]) dX11_wander_128 rfl (by decide) (xst1 rfl rfl rfl) ?_
  refine x_goto (pc := 131) (t := 80) dX11_wander_131 (by decide) ?_
  exact h
set_option maxHeartbeats 4000000 in
set_option maxRecDepth 100000 in
theorem b_R_wander_k205 {G : XG} {S : XS}  {I : XI} {v3 : Int} {v4 : Int} {v5 : Int} {v6 : Int} {s0 : Int} {R : XI → Prop} (hS : xSh S)  (h : ((w32 (s0) = 0 → R_wander_k230 G S I (v3) (v4) (v5) (v6) (s0) (0) R) ∧ (¬ (w32 (s0) = 0) → (inb (v3) 10 ∧ (inb (v6) 10 ∧ R_wander_k230 G S I (v3) (v4) (v5) (v6) (s0) ((I r_parts (ix (v3))) * (I r_weight (ix (v6)))) R))))) : R_wander_k205 G S  I v3 v4 v5 v6 s0 R := by
  unfold R_wander_k205
  refine x_istore (pc := 205) (L' := [some (vr G r_obj), none, none, some (vi (v3)), some (vi (v4)), some (vi (v5)), some (vi (v6)), some (vi (s0)), none]) dX11_wander_205 (by decide) (xst1 rfl rfl rfl) ?_
  refine x_iload (pc := 207) dX11_wander_207 rfl ?_
  refine x_if_eq (pc := 209) (t := 229) dX11_wander_209 (by decide) (fun e => ?_) (fun e => ?_)
  · have h := h.1 e
    refine x_iconst (pc := 229) dX11_wander_229 ?_
    exact h
  · have h := h.2 e
    refine x_aload_n (pc := 212) dX11_wander_212 rfl rfl ?_
    refine x_getR (pc := 213) (i := r_obj) (a := r_parts) fl_X11_165 dX11_wander_213 (sN_r_obj hS) (sT_r_obj hS) rfl (sR_r_obj_52 hS) ?_
    refine x_iload_n (pc := 216) dX11_wander_216 rfl rfl ?_
    refine y_iald (pc := 217) (i := r_parts) (n := 10) dX11_wander_217 (sN_r_parts hS) (sT_r_parts hS) (sL_r_parts hS) h.1 ?_
    have h := h.2
    refine x_aload_n (pc := 218) dX11_wander_218 rfl rfl ?_
    refine x_getR (pc := 219) (i := r_obj) (a := r_weight) fl_X11_171 dX11_wander_219 (sN_r_obj hS) (sT_r_obj hS) rfl (sR_r_obj_54 hS) ?_
    refine x_iload (pc := 222) dX11_wander_222 rfl ?_
    refine y_iald (pc := 224) (i := r_weight) (n := 10) dX11_wander_224 (sN_r_weight hS) (sT_r_weight hS) (sL_r_weight hS) h.1 ?_
    have h := h.2
    refine x_imul (pc := 225) dX11_wander_225 ?_
    refine x_goto (pc := 226) (t := 230) dX11_wander_226 (by decide) ?_
    exact h
set_option maxHeartbeats 4000000 in
set_option maxRecDepth 100000 in
theorem b_R_wander_k230 {G : XG} {S : XS}  {I : XI} {v3 : Int} {v4 : Int} {v5 : Int} {v6 : Int} {v7 : Int} {s0 : Int} {R : XI → Prop} (hS : xSh S)  (h : (inb (v6) 10 ∧ (w32 (v4) ≠ 0 ∧ (inb (v6) 10 ∧ (∀ I9 : XI, I9 = up I r_next (ix (v6)) ((I r_next (ix (v6))) + (idiv (s0) (v4))) → (w32 (v4) ≠ 0 ∧ ((w32 (v7) = 0 → (inb (v6) 10 ∧ (∀ I10 : XI, I10 = up I9 r_rest (ix (v6)) ((-1)) → R_wander_k168 G S I10 (v3) (v4) ((v5) - (idiv (s0) (v4))) (v6 + 1) R))) ∧ (¬ (w32 (v7) = 0) → (w32 (v4) ≠ 0 ∧ (inb (v6) 10 ∧ (∀ I11 : XI, I11 = up I9 r_rest (ix (v6)) (w32 (irem (s0) (v4))) → R_wander_k168 G S I11 (v3) (v4) ((v5) - (idiv (s0) (v4))) (v6 + 1) R))))))))))) : R_wander_k230 G S  I v3 v4 v5 v6 v7 s0 R := by
  unfold R_wander_k230
  refine x_istore (pc := 230) (L' := [some (vr G r_obj), none, none, some (vi (v3)), some (vi (v4)), some (vi (v5)), some (vi (v6)), some (vi (v7)), some (vi (s0))]) dX11_wander_230 (by decide) (xst1 rfl rfl rfl) ?_
  refine x_aload_n (pc := 232) dX11_wander_232 rfl rfl ?_
  refine x_getR (pc := 233) (i := r_obj) (a := r_next) fl_X11_168 dX11_wander_233 (sN_r_obj hS) (sT_r_obj hS) rfl (sR_r_obj_53 hS) ?_
  refine x_iload (pc := 236) dX11_wander_236 rfl ?_
  refine x_dup2 (pc := 238) dX11_wander_238 rfl rfl ?_
  refine y_iald (pc := 239) (i := r_next) (n := 10) dX11_wander_239 (sN_r_next hS) (sT_r_next hS) (sL_r_next hS) h.1 ?_
  have h := h.2
  refine x_iload (pc := 240) dX11_wander_240 rfl ?_
  refine x_iload (pc := 242) dX11_wander_242 rfl ?_
  refine x_idiv (pc := 244) dX11_wander_244 h.1 ?_
  have h := h.2
  refine x_iadd (pc := 245) dX11_wander_245 ?_
  refine y_iast (pc := 246) (i := r_next) (n := 10) dX11_wander_246 (sN_r_next hS) (sT_r_next hS) (sL_r_next hS) h.1 ?_
  have h := h.2
  have h := h _ rfl
  generalize up I r_next (ix (v6)) ((I r_next (ix (v6))) + (idiv (s0) (v4))) = I9 at h ⊢
  refine x_iload (pc := 247) dX11_wander_247 rfl ?_
  refine x_iload (pc := 249) dX11_wander_249 rfl ?_
  refine x_iload (pc := 251) dX11_wander_251 rfl ?_
  refine x_idiv (pc := 253) dX11_wander_253 h.1 ?_
  have h := h.2
  refine x_isub (pc := 254) dX11_wander_254 ?_
  refine x_istore (pc := 255) (L' := [some (vr G r_obj), none, none, some (vi (v3)), some (vi (v4)), some (vi ((v5) - (idiv (s0) (v4)))), some (vi (v6)), some (vi (v7)), some (vi (s0))]) dX11_wander_255 (by decide) (xst1 rfl rfl rfl) ?_
  refine x_aload_n (pc := 257) dX11_wander_257 rfl rfl ?_
  refine x_getR (pc := 258) (i := r_obj) (a := r_rest) fl_X11_174 dX11_wander_258 (sN_r_obj hS) (sT_r_obj hS) rfl (sR_r_obj_55 hS) ?_
  refine x_iload (pc := 261) dX11_wander_261 rfl ?_
  refine x_iload (pc := 263) dX11_wander_263 rfl ?_
  refine x_if_eq (pc := 265) (t := 277) dX11_wander_265 (by decide) (fun e => ?_) (fun e => ?_)
  · have h := h.1 e
    refine x_ldc2 (pc := 277) (z := (-1)) dX11_wander_277 kl_X11_246 rfl ?_
    refine y_last (pc := 280) (i := r_rest) (n := 10) dX11_wander_280 (sN_r_rest hS) (sT_r_rest hS) (sL_r_rest hS) h.1 ?_
    have h := h.2
    have h := h _ rfl
    generalize up I9 r_rest (ix (v6)) ((-1)) = I10 at h ⊢
    refine x_iinc (pc := 281) (L' := [some (vr G r_obj), none, none, some (vi (v3)), some (vi (v4)), some (vi ((v5) - (idiv (s0) (v4)))), some (vi (v6 + 1)), some (vi (v7)), some (vi (s0))]) dX11_wander_281 rfl (by decide) (xst1 rfl rfl rfl) ?_
    refine x_goto (pc := 284) (t := 168) dX11_wander_284 (by decide) ?_
    refine x_less (L' := [some (vr G r_obj), none, none, some (vi (v3)), some (vi (v4)), some (vi ((v5) - (idiv (s0) (v4)))), some (vi (v6 + 1)), none, none]) (And.intro rfl (And.intro rfl (And.intro rfl (And.intro rfl (And.intro rfl trivial))))) ?_
    exact h
  · have h := h.2 e
    refine x_iload (pc := 268) dX11_wander_268 rfl ?_
    refine x_iload (pc := 270) dX11_wander_270 rfl ?_
    refine x_irem (pc := 272) dX11_wander_272 h.1 ?_
    have h := h.2
    refine x_i2l (pc := 273) dX11_wander_273 ?_
    refine x_goto (pc := 274) (t := 280) dX11_wander_274 (by decide) ?_
    refine y_last (pc := 280) (i := r_rest) (n := 10) dX11_wander_280 (sN_r_rest hS) (sT_r_rest hS) (sL_r_rest hS) h.1 ?_
    have h := h.2
    have h := h _ rfl
    generalize up I9 r_rest (ix (v6)) (w32 (irem (s0) (v4))) = I11 at h ⊢
    refine x_iinc (pc := 281) (L' := [some (vr G r_obj), none, none, some (vi (v3)), some (vi (v4)), some (vi ((v5) - (idiv (s0) (v4)))), some (vi (v6 + 1)), some (vi (v7)), some (vi (s0))]) dX11_wander_281 rfl (by decide) (xst1 rfl rfl rfl) ?_
    refine x_goto (pc := 284) (t := 168) dX11_wander_284 (by decide) ?_
    refine x_less (L' := [some (vr G r_obj), none, none, some (vi (v3)), some (vi (v4)), some (vi ((v5) - (idiv (s0) (v4)))), some (vi (v6 + 1)), none, none]) (And.intro rfl (And.intro rfl (And.intro rfl (And.intro rfl (And.intro rfl trivial))))) ?_
    exact h
set_option maxHeartbeats 4000000 in
set_option maxRecDepth 100000 in
theorem b_R_way {G : XG} {S : XS} {I : XI} {v1 : Int} {v2 : Int} {v3 : Int} {R : Int → XI → Prop} (hS : xSh S)  (h : (∀ I1 : XI, I1 = up I r_obj 0 (0) → R_isCell G S I1 (v1) (fun r3 I2 => ((w32 (r3) = 0 → R (0) I2) ∧ (¬ (w32 (r3) = 0) → R_isCell G S I2 (v2) (fun r5 I4 => ((w32 (r5) = 0 → R (0) I4) ∧ (¬ (w32 (r5) = 0) → ((w32 (v1) = w32 (v2) → R (0) I4) ∧ (¬ (w32 (v1) = w32 (v2)) → R_in G S I4 (v3) (1) (9) (fun r7 I6 => ((w32 (r7) = 0 → R (0) I6) ∧ (¬ (w32 (r7) = 0) → (inb (((10) * (v1)) + (v2)) 400 ∧ (∀ I8 : XI, I8 = up I6 r_ways (ix (((10) * (v1)) + (v2))) (v3) → (inb (((10) * (v2)) + (v1)) 400 ∧ (∀ I9 : XI, I9 = up I8 r_ways (ix (((10) * (v2)) + (v1))) (v3) → R (1) I9))))))))))))))))) : R_way G S I v1 v2 v3 R := by
  refine x_start [some (vr G r_obj), some (vi (v1)), some (vi (v2)), some (vi (v3))] (by decide) (Nat.le_of_ble_eq_true rfl) rfl ?_
  refine x_aload_n (pc := 0) dX11_way_0 rfl rfl ?_
  refine x_iconst (pc := 1) dX11_way_1 ?_
  refine x_putI (pc := 2) (i := r_obj) fl_X11_220 dX11_way_2 (sN_r_obj hS) (sT_r_obj hS) rfl ?_
  have h := h _ rfl
  generalize up I r_obj 0 (0) = I1 at h ⊢
  refine x_aload_n (pc := 5) dX11_way_5 rfl rfl ?_
  refine x_iload_n (pc := 6) dX11_way_6 rfl rfl ?_
  refine y_Vi (pc := 7) (i := r_obj) (As := [vi (v1)]) (rest := []) ok_X11_isCell ml_X11_236 dX11_way_7 (sN_r_obj hS) (sT_r_obj hS) (by decide) rfl rfl rfl ⟨rfl, rfl⟩ ⟨by decide, by decide⟩ ⟨Nat.le_refl _, Nat.le_refl _⟩ (Nat.le_of_ble_eq_true rfl) rfl h (fun r3 I2 h => ?_)
  refine x_if_eq (pc := 10) (t := 36) dX11_way_10 (by decide) (fun e => ?_) (fun e => ?_)
  · have h := h.1 e
    refine x_iconst (pc := 36) dX11_way_36 ?_
    exact y_zret (pc := 37) dX11_way_37 rfl ⟨Nat.le_refl _, Nat.le_refl _⟩ (Or.inl rfl) h
  · have h := h.2 e
    refine x_aload_n (pc := 13) dX11_way_13 rfl rfl ?_
    refine x_iload_n (pc := 14) dX11_way_14 rfl rfl ?_
    refine y_Vi (pc := 15) (i := r_obj) (As := [vi (v2)]) (rest := []) ok_X11_isCell ml_X11_236 dX11_way_15 (sN_r_obj hS) (sT_r_obj hS) (by decide) rfl rfl rfl ⟨rfl, rfl⟩ ⟨by decide, by decide⟩ ⟨Nat.le_refl _, Nat.le_refl _⟩ (Nat.le_of_ble_eq_true rfl) rfl h (fun r5 I4 h => ?_)
    refine x_if_eq (pc := 18) (t := 36) dX11_way_18 (by decide) (fun e => ?_) (fun e => ?_)
    · have h := h.1 e
      refine x_iconst (pc := 36) dX11_way_36 ?_
      exact y_zret (pc := 37) dX11_way_37 rfl ⟨Nat.le_refl _, Nat.le_refl _⟩ (Or.inl rfl) h
    · have h := h.2 e
      refine x_iload_n (pc := 21) dX11_way_21 rfl rfl ?_
      refine x_iload_n (pc := 22) dX11_way_22 rfl rfl ?_
      refine x_icmp_eq (pc := 23) (t := 36) dX11_way_23 (by decide) (fun e => ?_) (fun e => ?_)
      · have h := h.1 e
        refine x_iconst (pc := 36) dX11_way_36 ?_
        exact y_zret (pc := 37) dX11_way_37 rfl ⟨Nat.le_refl _, Nat.le_refl _⟩ (Or.inl rfl) h
      · have h := h.2 e
        refine x_iload_n (pc := 26) dX11_way_26 rfl rfl ?_
        refine x_iconst (pc := 27) dX11_way_27 ?_
        refine x_bipush (pc := 28) dX11_way_28 (by decide) ?_
        refine y_Si (pc := 30) (As := [vi (v3), vi (1), vi (9)]) (rest := []) ok_X11_in ml_X11_232 dX11_way_30 rfl ⟨rfl, rfl⟩ ⟨by decide, by decide⟩ ⟨Nat.le_refl _, Nat.le_refl _⟩ (Nat.le_of_ble_eq_true rfl) rfl h (fun r7 I6 h => ?_)
        refine x_if_ne (pc := 33) (t := 38) dX11_way_33 (by decide) (fun e => ?_) (fun e => ?_)
        · have h := h.1 e
          refine x_iconst (pc := 36) dX11_way_36 ?_
          exact y_zret (pc := 37) dX11_way_37 rfl ⟨Nat.le_refl _, Nat.le_refl _⟩ (Or.inl rfl) h
        · have h := h.2 e
          refine x_aload_n (pc := 38) dX11_way_38 rfl rfl ?_
          refine x_getR (pc := 39) (i := r_obj) (a := r_ways) fl_X11_36 dX11_way_39 (sN_r_obj hS) (sT_r_obj hS) rfl (sR_r_obj_9 hS) ?_
          refine x_bipush (pc := 42) dX11_way_42 (by decide) ?_
          refine x_iload_n (pc := 44) dX11_way_44 rfl rfl ?_
          refine x_imul (pc := 45) dX11_way_45 ?_
          refine x_iload_n (pc := 46) dX11_way_46 rfl rfl ?_
          refine x_iadd (pc := 47) dX11_way_47 ?_
          refine x_iload_n (pc := 48) dX11_way_48 rfl rfl ?_
          refine y_iast (pc := 49) (i := r_ways) (n := 400) dX11_way_49 (sN_r_ways hS) (sT_r_ways hS) (sL_r_ways hS) h.1 ?_
          have h := h.2
          have h := h _ rfl
          generalize up I6 r_ways (ix (((10) * (v1)) + (v2))) (v3) = I8 at h ⊢
          refine x_aload_n (pc := 50) dX11_way_50 rfl rfl ?_
          refine x_getR (pc := 51) (i := r_obj) (a := r_ways) fl_X11_36 dX11_way_51 (sN_r_obj hS) (sT_r_obj hS) rfl (sR_r_obj_9 hS) ?_
          refine x_bipush (pc := 54) dX11_way_54 (by decide) ?_
          refine x_iload_n (pc := 56) dX11_way_56 rfl rfl ?_
          refine x_imul (pc := 57) dX11_way_57 ?_
          refine x_iload_n (pc := 58) dX11_way_58 rfl rfl ?_
          refine x_iadd (pc := 59) dX11_way_59 ?_
          refine x_iload_n (pc := 60) dX11_way_60 rfl rfl ?_
          refine y_iast (pc := 61) (i := r_ways) (n := 400) dX11_way_61 (sN_r_ways hS) (sT_r_ways hS) (sL_r_ways hS) h.1 ?_
          have h := h.2
          have h := h _ rfl
          generalize up I8 r_ways (ix (((10) * (v2)) + (v1))) (v3) = I9 at h ⊢
          refine x_iconst (pc := 62) dX11_way_62 ?_
          exact y_zret (pc := 63) dX11_way_63 rfl ⟨Nat.le_refl _, Nat.le_refl _⟩ (Or.inr rfl) h
set_option maxHeartbeats 4000000 in
set_option maxRecDepth 100000 in
theorem b_R_week {G : XG} {S : XS} {I : XI} {v1 : Int} {R : Int → XI → Prop} (hS : xSh S)  (h : (∀ I1 : XI, I1 = up I r_obj 0 (0) → R_in G S I1 (v1) (I1 r_now 0) (99) (fun r3 I2 => ((w32 (r3) = 0 → R (0) I2) ∧ (¬ (w32 (r3) = 0) → (∀ I4 : XI, I4 = up I2 r_now 0 (v1) → R (1) I4)))))) : R_week G S I v1 R := by
  refine x_start [some (vr G r_obj), some (vi (v1))] (by decide) (Nat.le_of_ble_eq_true rfl) rfl ?_
  refine x_aload_n (pc := 0) dX11_week_0 rfl rfl ?_
  refine x_iconst (pc := 1) dX11_week_1 ?_
  refine x_putI (pc := 2) (i := r_obj) fl_X11_220 dX11_week_2 (sN_r_obj hS) (sT_r_obj hS) rfl ?_
  have h := h _ rfl
  generalize up I r_obj 0 (0) = I1 at h ⊢
  refine x_iload_n (pc := 5) dX11_week_5 rfl rfl ?_
  refine x_aload_n (pc := 6) dX11_week_6 rfl rfl ?_
  refine x_getR (pc := 7) (i := r_obj) (a := r_now) fl_X11_23 dX11_week_7 (sN_r_obj hS) (sT_r_obj hS) rfl (sR_r_obj_5 hS) ?_
  refine x_iconst (pc := 10) dX11_week_10 ?_
  refine y_iald (pc := 11) (i := r_now) (n := 4) dX11_week_11 (sN_r_now hS) (sT_r_now hS) (sL_r_now hS) (inb_nat (k := 0) (by decide) (by decide)) ?_
  rw [show ix 0 = 0 from rfl]
  refine x_bipush (pc := 12) dX11_week_12 (by decide) ?_
  refine y_Si (pc := 14) (As := [vi (v1), vi (I1 r_now 0), vi (99)]) (rest := []) ok_X11_in ml_X11_232 dX11_week_14 rfl ⟨rfl, rfl⟩ ⟨by decide, by decide⟩ ⟨Nat.le_refl _, Nat.le_refl _⟩ (Nat.le_of_ble_eq_true rfl) rfl h (fun r3 I2 h => ?_)
  refine x_if_ne (pc := 17) (t := 22) dX11_week_17 (by decide) (fun e => ?_) (fun e => ?_)
  · have h := h.1 e
    refine x_iconst (pc := 20) dX11_week_20 ?_
    exact y_zret (pc := 21) dX11_week_21 rfl ⟨Nat.le_refl _, Nat.le_refl _⟩ (Or.inl rfl) h
  · have h := h.2 e
    refine x_aload_n (pc := 22) dX11_week_22 rfl rfl ?_
    refine x_getR (pc := 23) (i := r_obj) (a := r_now) fl_X11_23 dX11_week_23 (sN_r_obj hS) (sT_r_obj hS) rfl (sR_r_obj_5 hS) ?_
    refine x_iconst (pc := 26) dX11_week_26 ?_
    refine x_iload_n (pc := 27) dX11_week_27 rfl rfl ?_
    refine y_iast (pc := 28) (i := r_now) (n := 4) dX11_week_28 (sN_r_now hS) (sT_r_now hS) (sL_r_now hS) (inb_nat (k := 0) (by decide) (by decide)) ?_
    rw [show ix 0 = 0 from rfl]
    have h := h _ rfl
    generalize up I2 r_now 0 (v1) = I4 at h ⊢
    refine x_iconst (pc := 29) dX11_week_29 ?_
    exact y_zret (pc := 30) dX11_week_30 rfl ⟨Nat.le_refl _, Nat.le_refl _⟩ (Or.inr rfl) h
set_option maxHeartbeats 4000000 in
set_option maxRecDepth 100000 in
theorem b_R_whatIs {G : XG} {S : XS} {I : XI}  {R : Int → XI → Prop} (hS : xSh S)  (h : R_isWord G S I (1751477348) (fun r2 I1 => ((w32 (r2) = 0 → R_isWord G S I1 (1818326117) (fun r4 I3 => ((w32 (r4) = 0 → R_isWord G S I3 (1802071652) (fun r6 I5 => ((w32 (r6) = 0 → R_isWord G S I5 (465558725996) (fun r8 I7 => ((w32 (r8) = 0 → R_isWord G S I7 (1818584692) (fun r10 I9 => ((w32 (r10) = 0 → R_isWord G S I9 (1953460846) (fun r12 I11 => ((w32 (r12) = 0 → R_isWord G S I11 (2003133803) (fun r14 I13 => ((w32 (r14) = 0 → R_isWord G S I13 (128021942465893) (fun r16 I15 => ((w32 (r16) = 0 → R_isWord G S I15 (6582905) (fun r18 I17 => ((w32 (r18) = 0 → R_isWord G S I17 (2003135596) (fun r20 I19 => ((w32 (r20) = 0 → R ((-1)) I19) ∧ (¬ (w32 (r20) = 0) → R (9) I19)))) ∧ (¬ (w32 (r18) = 0) → R (8) I17)))) ∧ (¬ (w32 (r16) = 0) → R (7) I15)))) ∧ (¬ (w32 (r14) = 0) → R (6) I13)))) ∧ (¬ (w32 (r12) = 0) → R (5) I11)))) ∧ (¬ (w32 (r10) = 0) → R (4) I9)))) ∧ (¬ (w32 (r8) = 0) → R (3) I7)))) ∧ (¬ (w32 (r6) = 0) → R (2) I5)))) ∧ (¬ (w32 (r4) = 0) → R (1) I3)))) ∧ (¬ (w32 (r2) = 0) → R (0) I1)))) : R_whatIs G S I  R := by
  refine x_start [some (vr G r_obj)] (by decide) (Nat.le_of_ble_eq_true rfl) rfl ?_
  refine x_aload_n (pc := 0) dX11_whatIs_0 rfl rfl ?_
  refine x_ldc2 (pc := 1) (z := 1751477348) dX11_whatIs_1 kl_X11_376 rfl ?_
  refine y_Vi (pc := 4) (i := r_obj) (As := [vl (1751477348)]) (rest := []) ok_X11_isWord ml_X11_378 dX11_whatIs_4 (sN_r_obj hS) (sT_r_obj hS) (by decide) rfl rfl rfl ⟨rfl, rfl⟩ ⟨by decide, by decide⟩ ⟨Nat.le_refl _, Nat.le_refl _⟩ (Nat.le_of_ble_eq_true rfl) rfl h (fun r2 I1 h => ?_)
  refine x_if_eq (pc := 7) (t := 14) dX11_whatIs_7 (by decide) (fun e => ?_) (fun e => ?_)
  · have h := h.1 e
    refine x_aload_n (pc := 14) dX11_whatIs_14 rfl rfl ?_
    refine x_ldc2 (pc := 15) (z := 1818326117) dX11_whatIs_15 kl_X11_382 rfl ?_
    refine y_Vi (pc := 18) (i := r_obj) (As := [vl (1818326117)]) (rest := []) ok_X11_isWord ml_X11_378 dX11_whatIs_18 (sN_r_obj hS) (sT_r_obj hS) (by decide) rfl rfl rfl ⟨rfl, rfl⟩ ⟨by decide, by decide⟩ ⟨Nat.le_refl _, Nat.le_refl _⟩ (Nat.le_of_ble_eq_true rfl) rfl h (fun r4 I3 h => ?_)
    refine x_if_eq (pc := 21) (t := 28) dX11_whatIs_21 (by decide) (fun e => ?_) (fun e => ?_)
    · have h := h.1 e
      refine x_aload_n (pc := 28) dX11_whatIs_28 rfl rfl ?_
      refine x_ldc2 (pc := 29) (z := 1802071652) dX11_whatIs_29 kl_X11_384 rfl ?_
      refine y_Vi (pc := 32) (i := r_obj) (As := [vl (1802071652)]) (rest := []) ok_X11_isWord ml_X11_378 dX11_whatIs_32 (sN_r_obj hS) (sT_r_obj hS) (by decide) rfl rfl rfl ⟨rfl, rfl⟩ ⟨by decide, by decide⟩ ⟨Nat.le_refl _, Nat.le_refl _⟩ (Nat.le_of_ble_eq_true rfl) rfl h (fun r6 I5 h => ?_)
      refine x_if_eq (pc := 35) (t := 42) dX11_whatIs_35 (by decide) (fun e => ?_) (fun e => ?_)
      · have h := h.1 e
        refine x_aload_n (pc := 42) dX11_whatIs_42 rfl rfl ?_
        refine x_ldc2 (pc := 43) (z := 465558725996) dX11_whatIs_43 kl_X11_386 rfl ?_
        refine y_Vi (pc := 46) (i := r_obj) (As := [vl (465558725996)]) (rest := []) ok_X11_isWord ml_X11_378 dX11_whatIs_46 (sN_r_obj hS) (sT_r_obj hS) (by decide) rfl rfl rfl ⟨rfl, rfl⟩ ⟨by decide, by decide⟩ ⟨Nat.le_refl _, Nat.le_refl _⟩ (Nat.le_of_ble_eq_true rfl) rfl h (fun r8 I7 h => ?_)
        refine x_if_eq (pc := 49) (t := 56) dX11_whatIs_49 (by decide) (fun e => ?_) (fun e => ?_)
        · have h := h.1 e
          refine x_aload_n (pc := 56) dX11_whatIs_56 rfl rfl ?_
          refine x_ldc2 (pc := 57) (z := 1818584692) dX11_whatIs_57 kl_X11_388 rfl ?_
          refine y_Vi (pc := 60) (i := r_obj) (As := [vl (1818584692)]) (rest := []) ok_X11_isWord ml_X11_378 dX11_whatIs_60 (sN_r_obj hS) (sT_r_obj hS) (by decide) rfl rfl rfl ⟨rfl, rfl⟩ ⟨by decide, by decide⟩ ⟨Nat.le_refl _, Nat.le_refl _⟩ (Nat.le_of_ble_eq_true rfl) rfl h (fun r10 I9 h => ?_)
          refine x_if_eq (pc := 63) (t := 70) dX11_whatIs_63 (by decide) (fun e => ?_) (fun e => ?_)
          · have h := h.1 e
            refine x_aload_n (pc := 70) dX11_whatIs_70 rfl rfl ?_
            refine x_ldc2 (pc := 71) (z := 1953460846) dX11_whatIs_71 kl_X11_390 rfl ?_
            refine y_Vi (pc := 74) (i := r_obj) (As := [vl (1953460846)]) (rest := []) ok_X11_isWord ml_X11_378 dX11_whatIs_74 (sN_r_obj hS) (sT_r_obj hS) (by decide) rfl rfl rfl ⟨rfl, rfl⟩ ⟨by decide, by decide⟩ ⟨Nat.le_refl _, Nat.le_refl _⟩ (Nat.le_of_ble_eq_true rfl) rfl h (fun r12 I11 h => ?_)
            refine x_if_eq (pc := 77) (t := 84) dX11_whatIs_77 (by decide) (fun e => ?_) (fun e => ?_)
            · have h := h.1 e
              refine x_aload_n (pc := 84) dX11_whatIs_84 rfl rfl ?_
              refine x_ldc2 (pc := 85) (z := 2003133803) dX11_whatIs_85 kl_X11_392 rfl ?_
              refine y_Vi (pc := 88) (i := r_obj) (As := [vl (2003133803)]) (rest := []) ok_X11_isWord ml_X11_378 dX11_whatIs_88 (sN_r_obj hS) (sT_r_obj hS) (by decide) rfl rfl rfl ⟨rfl, rfl⟩ ⟨by decide, by decide⟩ ⟨Nat.le_refl _, Nat.le_refl _⟩ (Nat.le_of_ble_eq_true rfl) rfl h (fun r14 I13 h => ?_)
              refine x_if_eq (pc := 91) (t := 99) dX11_whatIs_91 (by decide) (fun e => ?_) (fun e => ?_)
              · have h := h.1 e
                refine x_aload_n (pc := 99) dX11_whatIs_99 rfl rfl ?_
                refine x_ldc2 (pc := 100) (z := 128021942465893) dX11_whatIs_100 kl_X11_394 rfl ?_
                refine y_Vi (pc := 103) (i := r_obj) (As := [vl (128021942465893)]) (rest := []) ok_X11_isWord ml_X11_378 dX11_whatIs_103 (sN_r_obj hS) (sT_r_obj hS) (by decide) rfl rfl rfl ⟨rfl, rfl⟩ ⟨by decide, by decide⟩ ⟨Nat.le_refl _, Nat.le_refl _⟩ (Nat.le_of_ble_eq_true rfl) rfl h (fun r16 I15 h => ?_)
                refine x_if_eq (pc := 106) (t := 114) dX11_whatIs_106 (by decide) (fun e => ?_) (fun e => ?_)
                · have h := h.1 e
                  refine x_aload_n (pc := 114) dX11_whatIs_114 rfl rfl ?_
                  refine x_ldc2 (pc := 115) (z := 6582905) dX11_whatIs_115 kl_X11_396 rfl ?_
                  refine y_Vi (pc := 118) (i := r_obj) (As := [vl (6582905)]) (rest := []) ok_X11_isWord ml_X11_378 dX11_whatIs_118 (sN_r_obj hS) (sT_r_obj hS) (by decide) rfl rfl rfl ⟨rfl, rfl⟩ ⟨by decide, by decide⟩ ⟨Nat.le_refl _, Nat.le_refl _⟩ (Nat.le_of_ble_eq_true rfl) rfl h (fun r18 I17 h => ?_)
                  refine x_if_eq (pc := 121) (t := 129) dX11_whatIs_121 (by decide) (fun e => ?_) (fun e => ?_)
                  · have h := h.1 e
                    refine x_aload_n (pc := 129) dX11_whatIs_129 rfl rfl ?_
                    refine x_ldc2 (pc := 130) (z := 2003135596) dX11_whatIs_130 kl_X11_398 rfl ?_
                    refine y_Vi (pc := 133) (i := r_obj) (As := [vl (2003135596)]) (rest := []) ok_X11_isWord ml_X11_378 dX11_whatIs_133 (sN_r_obj hS) (sT_r_obj hS) (by decide) rfl rfl rfl ⟨rfl, rfl⟩ ⟨by decide, by decide⟩ ⟨Nat.le_refl _, Nat.le_refl _⟩ (Nat.le_of_ble_eq_true rfl) rfl h (fun r20 I19 h => ?_)
                    refine x_if_eq (pc := 136) (t := 144) dX11_whatIs_136 (by decide) (fun e => ?_) (fun e => ?_)
                    · have h := h.1 e
                      refine x_iconst (pc := 144) dX11_whatIs_144 ?_
                      exact y_iret (pc := 145) dX11_whatIs_145 rfl ⟨Nat.le_refl _, Nat.le_refl _⟩ h
                    · have h := h.2 e
                      refine x_bipush (pc := 139) dX11_whatIs_139 (by decide) ?_
                      refine x_goto (pc := 141) (t := 145) dX11_whatIs_141 (by decide) ?_
                      exact y_iret (pc := 145) dX11_whatIs_145 rfl ⟨Nat.le_refl _, Nat.le_refl _⟩ h
                  · have h := h.2 e
                    refine x_bipush (pc := 124) dX11_whatIs_124 (by decide) ?_
                    refine x_goto (pc := 126) (t := 145) dX11_whatIs_126 (by decide) ?_
                    exact y_iret (pc := 145) dX11_whatIs_145 rfl ⟨Nat.le_refl _, Nat.le_refl _⟩ h
                · have h := h.2 e
                  refine x_bipush (pc := 109) dX11_whatIs_109 (by decide) ?_
                  refine x_goto (pc := 111) (t := 145) dX11_whatIs_111 (by decide) ?_
                  exact y_iret (pc := 145) dX11_whatIs_145 rfl ⟨Nat.le_refl _, Nat.le_refl _⟩ h
              · have h := h.2 e
                refine x_bipush (pc := 94) dX11_whatIs_94 (by decide) ?_
                refine x_goto (pc := 96) (t := 145) dX11_whatIs_96 (by decide) ?_
                exact y_iret (pc := 145) dX11_whatIs_145 rfl ⟨Nat.le_refl _, Nat.le_refl _⟩ h
            · have h := h.2 e
              refine x_iconst (pc := 80) dX11_whatIs_80 ?_
              refine x_goto (pc := 81) (t := 145) dX11_whatIs_81 (by decide) ?_
              exact y_iret (pc := 145) dX11_whatIs_145 rfl ⟨Nat.le_refl _, Nat.le_refl _⟩ h
          · have h := h.2 e
            refine x_iconst (pc := 66) dX11_whatIs_66 ?_
            refine x_goto (pc := 67) (t := 145) dX11_whatIs_67 (by decide) ?_
            exact y_iret (pc := 145) dX11_whatIs_145 rfl ⟨Nat.le_refl _, Nat.le_refl _⟩ h
        · have h := h.2 e
          refine x_iconst (pc := 52) dX11_whatIs_52 ?_
          refine x_goto (pc := 53) (t := 145) dX11_whatIs_53 (by decide) ?_
          exact y_iret (pc := 145) dX11_whatIs_145 rfl ⟨Nat.le_refl _, Nat.le_refl _⟩ h
      · have h := h.2 e
        refine x_iconst (pc := 38) dX11_whatIs_38 ?_
        refine x_goto (pc := 39) (t := 145) dX11_whatIs_39 (by decide) ?_
        exact y_iret (pc := 145) dX11_whatIs_145 rfl ⟨Nat.le_refl _, Nat.le_refl _⟩ h
    · have h := h.2 e
      refine x_iconst (pc := 24) dX11_whatIs_24 ?_
      refine x_goto (pc := 25) (t := 145) dX11_whatIs_25 (by decide) ?_
      exact y_iret (pc := 145) dX11_whatIs_145 rfl ⟨Nat.le_refl _, Nat.le_refl _⟩ h
  · have h := h.2 e
    refine x_iconst (pc := 10) dX11_whatIs_10 ?_
    refine x_goto (pc := 11) (t := 145) dX11_whatIs_11 (by decide) ?_
    exact y_iret (pc := 145) dX11_whatIs_145 rfl ⟨Nat.le_refl _, Nat.le_refl _⟩ h
set_option maxHeartbeats 4000000 in
set_option maxRecDepth 100000 in
theorem b_R_who {G : XG} {S : XS} {I : XI} {v1 : Int} {v2 : Int} {R : Int → XI → Prop} (hS : xSh S)  (h : (∀ I1 : XI, I1 = up I r_obj 0 (0) → R_isBook G S I1 (v1) (fun r3 I2 => ((w32 (r3) = 0 → R ((-2)) I2) ∧ (¬ (w32 (r3) = 0) → R_isWeek G S I2 (v2) (fun r5 I4 => ((w32 (r5) = 0 → R ((-2)) I4) ∧ (¬ (w32 (r5) = 0) → R_viewWeek G S I4 (fun r7 I6 => R_whoHas G S I6 (v1) (v2) (r7) (fun r9 I8 => R (r9) I8)))))))))) : R_who G S I v1 v2 R := by
  refine x_start [some (vr G r_obj), some (vi (v1)), some (vi (v2))] (by decide) (Nat.le_of_ble_eq_true rfl) rfl ?_
  refine x_aload_n (pc := 0) dX11_who_0 rfl rfl ?_
  refine x_iconst (pc := 1) dX11_who_1 ?_
  refine x_putI (pc := 2) (i := r_obj) fl_X11_220 dX11_who_2 (sN_r_obj hS) (sT_r_obj hS) rfl ?_
  have h := h _ rfl
  generalize up I r_obj 0 (0) = I1 at h ⊢
  refine x_aload_n (pc := 5) dX11_who_5 rfl rfl ?_
  refine x_iload_n (pc := 6) dX11_who_6 rfl rfl ?_
  refine y_Vi (pc := 7) (i := r_obj) (As := [vi (v1)]) (rest := []) ok_X11_isBook ml_X11_317 dX11_who_7 (sN_r_obj hS) (sT_r_obj hS) (by decide) rfl rfl rfl ⟨rfl, rfl⟩ ⟨by decide, by decide⟩ ⟨Nat.le_refl _, Nat.le_refl _⟩ (Nat.le_of_ble_eq_true rfl) rfl h (fun r3 I2 h => ?_)
  refine x_if_eq (pc := 10) (t := 33) dX11_who_10 (by decide) (fun e => ?_) (fun e => ?_)
  · have h := h.1 e
    refine x_bipush (pc := 33) dX11_who_33 (by decide) ?_
    exact y_iret (pc := 35) dX11_who_35 rfl ⟨Nat.le_refl _, Nat.le_refl _⟩ h
  · have h := h.2 e
    refine x_iload_n (pc := 13) dX11_who_13 rfl rfl ?_
    refine y_Si (pc := 14) (As := [vi (v2)]) (rest := []) ok_X11_isWeek ml_X11_240 dX11_who_14 rfl ⟨rfl, rfl⟩ ⟨by decide, by decide⟩ ⟨Nat.le_refl _, Nat.le_refl _⟩ (Nat.le_of_ble_eq_true rfl) rfl h (fun r5 I4 h => ?_)
    refine x_if_eq (pc := 17) (t := 33) dX11_who_17 (by decide) (fun e => ?_) (fun e => ?_)
    · have h := h.1 e
      refine x_bipush (pc := 33) dX11_who_33 (by decide) ?_
      exact y_iret (pc := 35) dX11_who_35 rfl ⟨Nat.le_refl _, Nat.le_refl _⟩ h
    · have h := h.2 e
      refine x_aload_n (pc := 20) dX11_who_20 rfl rfl ?_
      refine x_iload_n (pc := 21) dX11_who_21 rfl rfl ?_
      refine x_iload_n (pc := 22) dX11_who_22 rfl rfl ?_
      refine x_aload_n (pc := 23) dX11_who_23 rfl rfl ?_
      refine y_Vi (pc := 24) (i := r_obj) (As := []) (rest := [vi (v2), vi (v1), vr G r_obj]) ok_X11_viewWeek ml_X11_283 dX11_who_24 (sN_r_obj hS) (sT_r_obj hS) (by decide) rfl rfl rfl ⟨rfl, rfl⟩ ⟨by decide, by decide⟩ ⟨Nat.le_refl _, Nat.le_refl _⟩ (Nat.le_of_ble_eq_true rfl) rfl h (fun r7 I6 h => ?_)
      refine y_Vi (pc := 27) (i := r_obj) (As := [vi (v1), vi (v2), vi (r7)]) (rest := []) ok_X11_whoHas ml_X11_297 dX11_who_27 (sN_r_obj hS) (sT_r_obj hS) (by decide) rfl rfl rfl ⟨rfl, rfl⟩ ⟨by decide, by decide⟩ ⟨Nat.le_refl _, Nat.le_refl _⟩ (Nat.le_of_ble_eq_true rfl) rfl h (fun r9 I8 h => ?_)
      refine x_goto (pc := 30) (t := 35) dX11_who_30 (by decide) ?_
      exact y_iret (pc := 35) dX11_who_35 rfl ⟨Nat.le_refl _, Nat.le_refl _⟩ h
set_option maxHeartbeats 4000000 in
set_option maxRecDepth 100000 in
theorem b_R_whoHas {G : XG} {S : XS} {I : XI} {v1 : Int} {v2 : Int} {v3 : Int} {R : Int → XI → Prop} (hS : xSh S)  (h : R_lastAct G S I (v1) (v2) (v3) (0) (fun r2 I1 => ((w32 (r2) = w32 ((-1)) → R ((-1)) I1) ∧ (¬ (w32 (r2) = w32 ((-1))) → (inb (r2) 600 ∧ ((w32 (I1 r_actKind (ix (r2))) = w32 (2) → R ((-1)) I1) ∧ (¬ (w32 (I1 r_actKind (ix (r2))) = w32 (2)) → (inb (r2) 600 ∧ R (I1 r_actCamp (ix (r2))) I1)))))))) : R_whoHas G S I v1 v2 v3 R := by
  refine x_start [some (vr G r_obj), some (vi (v1)), some (vi (v2)), some (vi (v3)), none] (by decide) (Nat.le_of_ble_eq_true rfl) rfl ?_
  refine x_aload_n (pc := 0) dX11_whoHas_0 rfl rfl ?_
  refine x_iload_n (pc := 1) dX11_whoHas_1 rfl rfl ?_
  refine x_iload_n (pc := 2) dX11_whoHas_2 rfl rfl ?_
  refine x_iload_n (pc := 3) dX11_whoHas_3 rfl rfl ?_
  refine x_iconst (pc := 4) dX11_whoHas_4 ?_
  refine y_Vi (pc := 5) (i := r_obj) (As := [vi (v1), vi (v2), vi (v3), vi (0)]) (rest := []) ok_X11_lastAct ml_X11_293 dX11_whoHas_5 (sN_r_obj hS) (sT_r_obj hS) (by decide) rfl rfl rfl ⟨rfl, rfl⟩ ⟨by decide, by decide⟩ ⟨Nat.le_refl _, Nat.le_refl _⟩ (Nat.le_of_ble_eq_true rfl) rfl h (fun r2 I1 h => ?_)
  refine x_istore (pc := 8) (L' := [some (vr G r_obj), some (vi (v1)), some (vi (v2)), some (vi (v3)), some (vi (r2))]) dX11_whoHas_8 (by decide) (xst1 rfl rfl rfl) ?_
  refine x_iload (pc := 10) dX11_whoHas_10 rfl ?_
  refine x_iconst (pc := 12) dX11_whoHas_12 ?_
  refine x_icmp_eq (pc := 13) (t := 27) dX11_whoHas_13 (by decide) (fun e => ?_) (fun e => ?_)
  · have h := h.1 e
    refine x_iconst (pc := 27) dX11_whoHas_27 ?_
    refine x_goto (pc := 28) (t := 38) dX11_whoHas_28 (by decide) ?_
    exact y_iret (pc := 38) dX11_whoHas_38 rfl ⟨Nat.le_refl _, Nat.le_refl _⟩ h
  · have h := h.2 e
    refine x_aload_n (pc := 16) dX11_whoHas_16 rfl rfl ?_
    refine x_getR (pc := 17) (i := r_obj) (a := r_actKind) fl_X11_111 dX11_whoHas_17 (sN_r_obj hS) (sT_r_obj hS) rfl (sR_r_obj_34 hS) ?_
    refine x_iload (pc := 20) dX11_whoHas_20 rfl ?_
    refine y_iald (pc := 22) (i := r_actKind) (n := 600) dX11_whoHas_22 (sN_r_actKind hS) (sT_r_actKind hS) (sL_r_actKind hS) h.1 ?_
    have h := h.2
    refine x_iconst (pc := 23) dX11_whoHas_23 ?_
    refine x_icmp_ne (pc := 24) (t := 31) dX11_whoHas_24 (by decide) (fun e => ?_) (fun e => ?_)
    · have h := h.1 e
      refine x_iconst (pc := 27) dX11_whoHas_27 ?_
      refine x_goto (pc := 28) (t := 38) dX11_whoHas_28 (by decide) ?_
      exact y_iret (pc := 38) dX11_whoHas_38 rfl ⟨Nat.le_refl _, Nat.le_refl _⟩ h
    · have h := h.2 e
      refine x_aload_n (pc := 31) dX11_whoHas_31 rfl rfl ?_
      refine x_getR (pc := 32) (i := r_obj) (a := r_actCamp) fl_X11_114 dX11_whoHas_32 (sN_r_obj hS) (sT_r_obj hS) rfl (sR_r_obj_35 hS) ?_
      refine x_iload (pc := 35) dX11_whoHas_35 rfl ?_
      refine y_iald (pc := 37) (i := r_actCamp) (n := 600) dX11_whoHas_37 (sN_r_actCamp hS) (sT_r_actCamp hS) (sL_r_actCamp hS) h.1 ?_
      have h := h.2
      exact y_iret (pc := 38) dX11_whoHas_38 rfl ⟨Nat.le_refl _, Nat.le_refl _⟩ h
set_option maxHeartbeats 4000000 in
set_option maxRecDepth 100000 in
theorem b_R_wish {G : XG} {S : XS} {I : XI} {v1 : Int} {v2 : Int} {v3 : Int} {R : Int → XI → Prop} (hS : xSh S)  (h : (∀ I1 : XI, I1 = up I r_obj 0 (0) → R_isCamp G S I1 (v1) (fun r3 I2 => ((w32 (r3) = 0 → R (0) I2) ∧ (¬ (w32 (r3) = 0) → R_in G S I2 (v2) (0) (7) (fun r5 I4 => ((w32 (r5) = 0 → R (0) I4) ∧ (¬ (w32 (r5) = 0) → R_in G S I4 (v3) (0) (99) (fun r7 I6 => ((w32 (r7) = 0 → R (0) I6) ∧ (¬ (w32 (r7) = 0) → (inb (((8) * (v1)) + (v2)) 192 ∧ (∀ I8 : XI, I8 = up I6 r_wishes (ix (((8) * (v1)) + (v2))) (v3) → R (1) I8))))))))))))) : R_wish G S I v1 v2 v3 R := by
  refine x_start [some (vr G r_obj), some (vi (v1)), some (vi (v2)), some (vi (v3))] (by decide) (Nat.le_of_ble_eq_true rfl) rfl ?_
  refine x_aload_n (pc := 0) dX11_wish_0 rfl rfl ?_
  refine x_iconst (pc := 1) dX11_wish_1 ?_
  refine x_putI (pc := 2) (i := r_obj) fl_X11_220 dX11_wish_2 (sN_r_obj hS) (sT_r_obj hS) rfl ?_
  have h := h _ rfl
  generalize up I r_obj 0 (0) = I1 at h ⊢
  refine x_aload_n (pc := 5) dX11_wish_5 rfl rfl ?_
  refine x_iload_n (pc := 6) dX11_wish_6 rfl rfl ?_
  refine y_Vi (pc := 7) (i := r_obj) (As := [vi (v1)]) (rest := []) ok_X11_isCamp ml_X11_243 dX11_wish_7 (sN_r_obj hS) (sT_r_obj hS) (by decide) rfl rfl rfl ⟨rfl, rfl⟩ ⟨by decide, by decide⟩ ⟨Nat.le_refl _, Nat.le_refl _⟩ (Nat.le_of_ble_eq_true rfl) rfl h (fun r3 I2 h => ?_)
  refine x_if_eq (pc := 10) (t := 33) dX11_wish_10 (by decide) (fun e => ?_) (fun e => ?_)
  · have h := h.1 e
    refine x_iconst (pc := 33) dX11_wish_33 ?_
    exact y_zret (pc := 34) dX11_wish_34 rfl ⟨Nat.le_refl _, Nat.le_refl _⟩ (Or.inl rfl) h
  · have h := h.2 e
    refine x_iload_n (pc := 13) dX11_wish_13 rfl rfl ?_
    refine x_iconst (pc := 14) dX11_wish_14 ?_
    refine x_bipush (pc := 15) dX11_wish_15 (by decide) ?_
    refine y_Si (pc := 17) (As := [vi (v2), vi (0), vi (7)]) (rest := []) ok_X11_in ml_X11_232 dX11_wish_17 rfl ⟨rfl, rfl⟩ ⟨by decide, by decide⟩ ⟨Nat.le_refl _, Nat.le_refl _⟩ (Nat.le_of_ble_eq_true rfl) rfl h (fun r5 I4 h => ?_)
    refine x_if_eq (pc := 20) (t := 33) dX11_wish_20 (by decide) (fun e => ?_) (fun e => ?_)
    · have h := h.1 e
      refine x_iconst (pc := 33) dX11_wish_33 ?_
      exact y_zret (pc := 34) dX11_wish_34 rfl ⟨Nat.le_refl _, Nat.le_refl _⟩ (Or.inl rfl) h
    · have h := h.2 e
      refine x_iload_n (pc := 23) dX11_wish_23 rfl rfl ?_
      refine x_iconst (pc := 24) dX11_wish_24 ?_
      refine x_bipush (pc := 25) dX11_wish_25 (by decide) ?_
      refine y_Si (pc := 27) (As := [vi (v3), vi (0), vi (99)]) (rest := []) ok_X11_in ml_X11_232 dX11_wish_27 rfl ⟨rfl, rfl⟩ ⟨by decide, by decide⟩ ⟨Nat.le_refl _, Nat.le_refl _⟩ (Nat.le_of_ble_eq_true rfl) rfl h (fun r7 I6 h => ?_)
      refine x_if_ne (pc := 30) (t := 35) dX11_wish_30 (by decide) (fun e => ?_) (fun e => ?_)
      · have h := h.1 e
        refine x_iconst (pc := 33) dX11_wish_33 ?_
        exact y_zret (pc := 34) dX11_wish_34 rfl ⟨Nat.le_refl _, Nat.le_refl _⟩ (Or.inl rfl) h
      · have h := h.2 e
        refine x_aload_n (pc := 35) dX11_wish_35 rfl rfl ?_
        refine x_getR (pc := 36) (i := r_obj) (a := r_wishes) fl_X11_153 dX11_wish_36 (sN_r_obj hS) (sT_r_obj hS) rfl (sR_r_obj_48 hS) ?_
        refine x_bipush (pc := 39) dX11_wish_39 (by decide) ?_
        refine x_iload_n (pc := 41) dX11_wish_41 rfl rfl ?_
        refine x_imul (pc := 42) dX11_wish_42 ?_
        refine x_iload_n (pc := 43) dX11_wish_43 rfl rfl ?_
        refine x_iadd (pc := 44) dX11_wish_44 ?_
        refine x_iload_n (pc := 45) dX11_wish_45 rfl rfl ?_
        refine y_iast (pc := 46) (i := r_wishes) (n := 192) dX11_wish_46 (sN_r_wishes hS) (sT_r_wishes hS) (sL_r_wishes hS) h.1 ?_
        have h := h.2
        have h := h _ rfl
        generalize up I6 r_wishes (ix (((8) * (v1)) + (v2))) (v3) = I8 at h ⊢
        refine x_iconst (pc := 47) dX11_wish_47 ?_
        exact y_zret (pc := 48) dX11_wish_48 rfl ⟨Nat.le_refl _, Nat.le_refl _⟩ (Or.inr rfl) h
set_option maxHeartbeats 4000000 in
set_option maxRecDepth 100000 in
theorem b_R_wrong {G : XG} {S : XS} {I : XI}  {R : Int → XI → Prop} (hS : xSh S)  (h : (∀ I1 : XI, I1 = up I r_obj 65 (I r_obj 61) → R (0) I1)) : R_wrong G S I  R := by
  refine x_start [some (vr G r_obj)] (by decide) (Nat.le_of_ble_eq_true rfl) rfl ?_
  refine x_aload_n (pc := 0) dX11_wrong_0 rfl rfl ?_
  refine x_aload_n (pc := 1) dX11_wrong_1 rfl rfl ?_
  refine x_getI (pc := 2) (i := r_obj) fl_X11_347 dX11_wrong_2 (sN_r_obj hS) (sT_r_obj hS) rfl ?_
  refine x_putI (pc := 5) (i := r_obj) fl_X11_360 dX11_wrong_5 (sN_r_obj hS) (sT_r_obj hS) rfl ?_
  have h := h _ rfl
  generalize up I r_obj 65 (I r_obj 61) = I1 at h ⊢
  refine x_iconst (pc := 8) dX11_wrong_8 ?_
  exact y_zret (pc := 9) dX11_wrong_9 rfl ⟨Nat.le_refl _, Nat.le_refl _⟩ (Or.inl rfl) h
set_option maxHeartbeats 4000000 in
set_option maxRecDepth 100000 in
theorem b_R_move {G : XG} {S : XS} {I : XI} {v0 : Nat} {v1 : Int} {v2 : Int} {v3 : Int} {R : XI → Prop} (hS : xSh S) (hN_v0 : v0 < S.1) (hT_v0 : xtag S v0 = 13) (h : R_move_k3 G S I (v0) (v1) (v2) (v3) (0) R) : R_move G S I v0 v1 v2 v3 R := by
  refine x_start [some (vr G v0), some (vi (v1)), some (vi (v2)), some (vi (v3)), none] (by decide) (Nat.le_of_ble_eq_true rfl) rfl ?_
  refine x_iconst (pc := 0) dX11_move_0 ?_
  refine x_istore (pc := 1) (L' := [some (vr G v0), some (vi (v1)), some (vi (v2)), some (vi (v3)), some (vi (0))]) dX11_move_1 (by decide) (xst1 rfl rfl rfl) ?_
  exact h
set_option maxHeartbeats 4000000 in
set_option maxRecDepth 100000 in
theorem b_R_move_k3 {G : XG} {S : XS}  {I : XI} {v0 : Nat} {v1 : Int} {v2 : Int} {v3 : Int} {v4 : Int} {R : XI → Prop} (hS : xSh S) (hN_v0 : v0 < S.1) (hT_v0 : xtag S v0 = 13) (h : ((w32 (v1) ≤ w32 (v4) → R I) ∧ (¬ (w32 (v1) ≤ w32 (v4)) → (inb (((v1) * (v2)) + (v4)) (xlen S v0) ∧ (inb (((v1) * (v3)) + (v4)) (xlen S v0) ∧ (∀ I1 : XI, I1 = up I v0 (ix (((v1) * (v3)) + (v4))) (I v0 (ix (((v1) * (v2)) + (v4)))) → R_move_k3 G S I1 (v0) (v1) (v2) (v3) (v4 + 1) R)))))) : R_move_k3 G S  I v0 v1 v2 v3 v4 R := by
  unfold R_move_k3
  refine x_iload (pc := 3) dX11_move_3 rfl ?_
  refine x_iload_n (pc := 5) dX11_move_5 rfl rfl ?_
  refine x_icmp_ge (pc := 6) (t := 31) dX11_move_6 (by decide) (fun e => ?_) (fun e => ?_)
  · have h := h.1 e
    exact y_vret (pc := 31) dX11_move_31 rfl ⟨Nat.le_refl _, Nat.le_refl _⟩ h
  · have h := h.2 e
    refine x_aload_n (pc := 9) dX11_move_9 rfl rfl ?_
    refine x_iload_n (pc := 10) dX11_move_10 rfl rfl ?_
    refine x_iload_n (pc := 11) dX11_move_11 rfl rfl ?_
    refine x_imul (pc := 12) dX11_move_12 ?_
    refine x_iload (pc := 13) dX11_move_13 rfl ?_
    refine x_iadd (pc := 15) dX11_move_15 ?_
    refine x_aload_n (pc := 16) dX11_move_16 rfl rfl ?_
    refine x_iload_n (pc := 17) dX11_move_17 rfl rfl ?_
    refine x_iload_n (pc := 18) dX11_move_18 rfl rfl ?_
    refine x_imul (pc := 19) dX11_move_19 ?_
    refine x_iload (pc := 20) dX11_move_20 rfl ?_
    refine x_iadd (pc := 22) dX11_move_22 ?_
    refine y_iald (pc := 23) (i := v0) (n := (xlen S v0)) dX11_move_23 hN_v0 hT_v0 rfl h.1 ?_
    have h := h.2
    refine y_iast (pc := 24) (i := v0) (n := (xlen S v0)) dX11_move_24 hN_v0 hT_v0 rfl h.1 ?_
    have h := h.2
    have h := h _ rfl
    generalize up I v0 (ix (((v1) * (v3)) + (v4))) (I v0 (ix (((v1) * (v2)) + (v4)))) = I1 at h ⊢
    refine x_iinc (pc := 25) (L' := [some (vr G v0), some (vi (v1)), some (vi (v2)), some (vi (v3)), some (vi (v4 + 1))]) dX11_move_25 rfl (by decide) (xst1 rfl rfl rfl) ?_
    refine x_goto (pc := 28) (t := 3) dX11_move_28 (by decide) ?_
    exact h
set_option maxHeartbeats 4000000 in
set_option maxRecDepth 100000 in
theorem b_R_moveFlags {G : XG} {S : XS} {I : XI} {v0 : Nat} {v1 : Int} {v2 : Int} {v3 : Int} {R : XI → Prop} (hS : xSh S) (hN_v0 : v0 < S.1) (hT_v0 : xtag S v0 = 15) (h : R_moveFlags_k3 G S I (v0) (v1) (v2) (v3) (0) R) : R_moveFlags G S I v0 v1 v2 v3 R := by
  refine x_start [some (vr G v0), some (vi (v1)), some (vi (v2)), some (vi (v3)), none] (by decide) (Nat.le_of_ble_eq_true rfl) rfl ?_
  refine x_iconst (pc := 0) dX11_moveFlags_0 ?_
  refine x_istore (pc := 1) (L' := [some (vr G v0), some (vi (v1)), some (vi (v2)), some (vi (v3)), some (vi (0))]) dX11_moveFlags_1 (by decide) (xst1 rfl rfl rfl) ?_
  exact h
set_option maxHeartbeats 4000000 in
set_option maxRecDepth 100000 in
theorem b_R_moveFlags_k3 {G : XG} {S : XS}  {I : XI} {v0 : Nat} {v1 : Int} {v2 : Int} {v3 : Int} {v4 : Int} {R : XI → Prop} (hS : xSh S) (hN_v0 : v0 < S.1) (hT_v0 : xtag S v0 = 15) (h : ((w32 (v1) ≤ w32 (v4) → R I) ∧ (¬ (w32 (v1) ≤ w32 (v4)) → (inb (((v1) * (v2)) + (v4)) (xlen S v0) ∧ (((I v0 (ix (((v1) * (v2)) + (v4)))) = 0 ∨ (I v0 (ix (((v1) * (v2)) + (v4)))) = 1) ∧ (inb (((v1) * (v3)) + (v4)) (xlen S v0) ∧ (∀ I1 : XI, I1 = up I v0 (ix (((v1) * (v3)) + (v4))) (I v0 (ix (((v1) * (v2)) + (v4)))) → R_moveFlags_k3 G S I1 (v0) (v1) (v2) (v3) (v4 + 1) R))))))) : R_moveFlags_k3 G S  I v0 v1 v2 v3 v4 R := by
  unfold R_moveFlags_k3
  refine x_iload (pc := 3) dX11_moveFlags_3 rfl ?_
  refine x_iload_n (pc := 5) dX11_moveFlags_5 rfl rfl ?_
  refine x_icmp_ge (pc := 6) (t := 31) dX11_moveFlags_6 (by decide) (fun e => ?_) (fun e => ?_)
  · have h := h.1 e
    exact y_vret (pc := 31) dX11_moveFlags_31 rfl ⟨Nat.le_refl _, Nat.le_refl _⟩ h
  · have h := h.2 e
    refine x_aload_n (pc := 9) dX11_moveFlags_9 rfl rfl ?_
    refine x_iload_n (pc := 10) dX11_moveFlags_10 rfl rfl ?_
    refine x_iload_n (pc := 11) dX11_moveFlags_11 rfl rfl ?_
    refine x_imul (pc := 12) dX11_moveFlags_12 ?_
    refine x_iload (pc := 13) dX11_moveFlags_13 rfl ?_
    refine x_iadd (pc := 15) dX11_moveFlags_15 ?_
    refine x_aload_n (pc := 16) dX11_moveFlags_16 rfl rfl ?_
    refine x_iload_n (pc := 17) dX11_moveFlags_17 rfl rfl ?_
    refine x_iload_n (pc := 18) dX11_moveFlags_18 rfl rfl ?_
    refine x_imul (pc := 19) dX11_moveFlags_19 ?_
    refine x_iload (pc := 20) dX11_moveFlags_20 rfl ?_
    refine x_iadd (pc := 22) dX11_moveFlags_22 ?_
    refine y_zald (pc := 23) (i := v0) (n := (xlen S v0)) dX11_moveFlags_23 hN_v0 hT_v0 rfl h.1 ?_
    have h := h.2
    have hz := h.1
    have h := h.2
    refine y_zast (pc := 24) (i := v0) (n := (xlen S v0)) dX11_moveFlags_24 hN_v0 hT_v0 rfl h.1 hz ?_
    have h := h.2
    have h := h _ rfl
    generalize up I v0 (ix (((v1) * (v3)) + (v4))) (I v0 (ix (((v1) * (v2)) + (v4)))) = I1 at h ⊢
    refine x_iinc (pc := 25) (L' := [some (vr G v0), some (vi (v1)), some (vi (v2)), some (vi (v3)), some (vi (v4 + 1))]) dX11_moveFlags_25 rfl (by decide) (xst1 rfl rfl rfl) ?_
    refine x_goto (pc := 28) (t := 3) dX11_moveFlags_28 (by decide) ?_
    exact h
