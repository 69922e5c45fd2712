set_option maxHeartbeats 4000000 in
set_option maxRecDepth 100000 in
theorem b_R_look {G : XG} {S : XS} {I : XI} {v1 : Int} {v2 : Int} {v3 : Int} {v4 : Int} {R : XI → Prop} (hS : xSh S)  (h : R_held G S I (v1) (v3) (v4) (0) (fun r2 I1 => (∀ I3 : XI, I3 = up I1 r_seen 0 (r2) → R_held G S I3 (v1) (v3) (v4) (1) (fun r5 I4 => (∀ I6 : XI, I6 = up I4 r_seen 1 (r5) → (inb (v2) 96 ∧ (∀ I7 : XI, I7 = up I6 r_seen 2 (I6 r_bookKind (ix (v2))) → (inb (v2) 96 ∧ (∀ I8 : XI, I8 = up I7 r_seen 3 (I7 r_bookLevel (ix (v2))) → (inb (v2) 96 ∧ R_torn G S I8 (v2) ((-1)) (v3) (v4) (0) (fun r10 I9 => (∀ I11 : XI, I11 = up I9 r_seen 4 ((I8 r_bookPages (ix (v2))) - (r10)) → R_torn G S I11 ((-1)) (v1) (v3) (v4) (0) (fun r13 I12 => (∀ I14 : XI, I14 = up I12 r_seen 5 (r13) → (∀ I15 : XI, I15 = up I14 r_seen 6 (v3) → (inb (v1) 24 ∧ (inb (v2) 96 ∧ ((w32 (I15 r_campTongue (ix (v1))) = w32 (I15 r_bookTongue (ix (v2))) → R_look_k127 G S I15 (v1) (v3) (v4) (1) (7) R) ∧ (¬ (w32 (I15 r_campTongue (ix (v1))) = w32 (I15 r_bookTongue (ix (v2)))) → R_look_k127 G S I15 (v1) (v3) (v4) (0) (7) R))))))))))))))))))) : R_look G S I v1 v2 v3 v4 R := by
  refine x_start [some (vr G r_obj), some (vi (v1)), some (vi (v2)), some (vi (v3)), some (vi (v4))] (by decide) (Nat.le_of_ble_eq_true rfl) rfl ?_
  refine x_aload_n (pc := 0) dX11_look_0 rfl rfl ?_
  refine x_getR (pc := 1) (i := r_obj) (a := r_seen) fl_X11_181 dX11_look_1 (sN_r_obj hS) (sT_r_obj hS) rfl (sR_r_obj_58 hS) ?_
  refine x_iconst (pc := 4) dX11_look_4 ?_
  refine x_aload_n (pc := 5) dX11_look_5 rfl rfl ?_
  refine x_iload_n (pc := 6) dX11_look_6 rfl rfl ?_
  refine x_iload_n (pc := 7) dX11_look_7 rfl rfl ?_
  refine x_iload (pc := 8) dX11_look_8 rfl ?_
  refine x_iconst (pc := 10) dX11_look_10 ?_
  refine y_Vi (pc := 11) (i := r_obj) (As := [vi (v1), vi (v3), vi (v4), vi (0)]) (rest := [vi (0), vr G r_seen]) ok_X11_held ml_X11_306 dX11_look_11 (sN_r_obj hS) (sT_r_obj hS) (by decide) rfl rfl rfl ⟨rfl, rfl⟩ ⟨by decide, by decide⟩ ⟨Nat.le_refl _, Nat.le_refl _⟩ (Nat.le_of_ble_eq_true rfl) rfl h (fun r2 I1 h => ?_)
  refine y_iast (pc := 14) (i := r_seen) (n := 10) dX11_look_14 (sN_r_seen hS) (sT_r_seen hS) (sL_r_seen hS) (inb_nat (k := 0) (by decide) (by decide)) ?_
  rw [show ix 0 = 0 from rfl]
  have h := h _ rfl
  generalize up I1 r_seen 0 (r2) = I3 at h ⊢
  refine x_aload_n (pc := 15) dX11_look_15 rfl rfl ?_
  refine x_getR (pc := 16) (i := r_obj) (a := r_seen) fl_X11_181 dX11_look_16 (sN_r_obj hS) (sT_r_obj hS) rfl (sR_r_obj_58 hS) ?_
  refine x_iconst (pc := 19) dX11_look_19 ?_
  refine x_aload_n (pc := 20) dX11_look_20 rfl rfl ?_
  refine x_iload_n (pc := 21) dX11_look_21 rfl rfl ?_
  refine x_iload_n (pc := 22) dX11_look_22 rfl rfl ?_
  refine x_iload (pc := 23) dX11_look_23 rfl ?_
  refine x_iconst (pc := 25) dX11_look_25 ?_
  refine y_Vi (pc := 26) (i := r_obj) (As := [vi (v1), vi (v3), vi (v4), vi (1)]) (rest := [vi (1), vr G r_seen]) ok_X11_held ml_X11_306 dX11_look_26 (sN_r_obj hS) (sT_r_obj hS) (by decide) rfl rfl rfl ⟨rfl, rfl⟩ ⟨by decide, by decide⟩ ⟨Nat.le_refl _, Nat.le_refl _⟩ (Nat.le_of_ble_eq_true rfl) rfl h (fun r5 I4 h => ?_)
  refine y_iast (pc := 29) (i := r_seen) (n := 10) dX11_look_29 (sN_r_seen hS) (sT_r_seen hS) (sL_r_seen hS) (inb_nat (k := 1) (by decide) (by decide)) ?_
  rw [show ix 1 = 1 from rfl]
  have h := h _ rfl
  generalize up I4 r_seen 1 (r5) = I6 at h ⊢
  refine x_aload_n (pc := 30) dX11_look_30 rfl rfl ?_
  refine x_getR (pc := 31) (i := r_obj) (a := r_seen) fl_X11_181 dX11_look_31 (sN_r_obj hS) (sT_r_obj hS) rfl (sR_r_obj_58 hS) ?_
  refine x_iconst (pc := 34) dX11_look_34 ?_
  refine x_aload_n (pc := 35) dX11_look_35 rfl rfl ?_
  refine x_getR (pc := 36) (i := r_obj) (a := r_bookKind) fl_X11_90 dX11_look_36 (sN_r_obj hS) (sT_r_obj hS) rfl (sR_r_obj_27 hS) ?_
  refine x_iload_n (pc := 39) dX11_look_39 rfl rfl ?_
  refine y_iald (pc := 40) (i := r_bookKind) (n := 96) dX11_look_40 (sN_r_bookKind hS) (sT_r_bookKind hS) (sL_r_bookKind hS) h.1 ?_
  have h := h.2
  refine y_iast (pc := 41) (i := r_seen) (n := 10) dX11_look_41 (sN_r_seen hS) (sT_r_seen hS) (sL_r_seen hS) (inb_nat (k := 2) (by decide) (by decide)) ?_
  rw [show ix 2 = 2 from rfl]
  have h := h _ rfl
  generalize up I6 r_seen 2 (I6 r_bookKind (ix (v2))) = I7 at h ⊢
  refine x_aload_n (pc := 42) dX11_look_42 rfl rfl ?_
  refine x_getR (pc := 43) (i := r_obj) (a := r_seen) fl_X11_181 dX11_look_43 (sN_r_obj hS) (sT_r_obj hS) rfl (sR_r_obj_58 hS) ?_
  refine x_iconst (pc := 46) dX11_look_46 ?_
  refine x_aload_n (pc := 47) dX11_look_47 rfl rfl ?_
  refine x_getR (pc := 48) (i := r_obj) (a := r_bookLevel) fl_X11_96 dX11_look_48 (sN_r_obj hS) (sT_r_obj hS) rfl (sR_r_obj_29 hS) ?_
  refine x_iload_n (pc := 51) dX11_look_51 rfl rfl ?_
  refine y_iald (pc := 52) (i := r_bookLevel) (n := 96) dX11_look_52 (sN_r_bookLevel hS) (sT_r_bookLevel hS) (sL_r_bookLevel hS) h.1 ?_
  have h := h.2
  refine y_iast (pc := 53) (i := r_seen) (n := 10) dX11_look_53 (sN_r_seen hS) (sT_r_seen hS) (sL_r_seen hS) (inb_nat (k := 3) (by decide) (by decide)) ?_
  rw [show ix 3 = 3 from rfl]
  have h := h _ rfl
  generalize up I7 r_seen 3 (I7 r_bookLevel (ix (v2))) = I8 at h ⊢
  refine x_aload_n (pc := 54) dX11_look_54 rfl rfl ?_
  refine x_getR (pc := 55) (i := r_obj) (a := r_seen) fl_X11_181 dX11_look_55 (sN_r_obj hS) (sT_r_obj hS) rfl (sR_r_obj_58 hS) ?_
  refine x_iconst (pc := 58) dX11_look_58 ?_
  refine x_aload_n (pc := 59) dX11_look_59 rfl rfl ?_
  refine x_getR (pc := 60) (i := r_obj) (a := r_bookPages) fl_X11_99 dX11_look_60 (sN_r_obj hS) (sT_r_obj hS) rfl (sR_r_obj_30 hS) ?_
  refine x_iload_n (pc := 63) dX11_look_63 rfl rfl ?_
  refine y_iald (pc := 64) (i := r_bookPages) (n := 96) dX11_look_64 (sN_r_bookPages hS) (sT_r_bookPages hS) (sL_r_bookPages hS) h.1 ?_
  have h := h.2
  refine x_aload_n (pc := 65) dX11_look_65 rfl rfl ?_
  refine x_iload_n (pc := 66) dX11_look_66 rfl rfl ?_
  refine x_iconst (pc := 67) dX11_look_67 ?_
  refine x_iload_n (pc := 68) dX11_look_68 rfl rfl ?_
  refine x_iload (pc := 69) dX11_look_69 rfl ?_
  refine x_iconst (pc := 71) dX11_look_71 ?_
  refine y_Vi (pc := 72) (i := r_obj) (As := [vi (v2), vi ((-1)), vi (v3), vi (v4), vi (0)]) (rest := [vi (I8 r_bookPages (ix (v2))), vi (4), vr G r_seen]) ok_X11_torn ml_X11_309 dX11_look_72 (sN_r_obj hS) (sT_r_obj hS) (by decide) rfl rfl rfl ⟨rfl, rfl⟩ ⟨by decide, by decide⟩ ⟨Nat.le_refl _, Nat.le_refl _⟩ (Nat.le_of_ble_eq_true rfl) rfl h (fun r10 I9 h => ?_)
  refine x_isub (pc := 75) dX11_look_75 ?_
  refine y_iast (pc := 76) (i := r_seen) (n := 10) dX11_look_76 (sN_r_seen hS) (sT_r_seen hS) (sL_r_seen hS) (inb_nat (k := 4) (by decide) (by decide)) ?_
  rw [show ix 4 = 4 from rfl]
  have h := h _ rfl
  generalize up I9 r_seen 4 ((I8 r_bookPages (ix (v2))) - (r10)) = I11 at h ⊢
  refine x_aload_n (pc := 77) dX11_look_77 rfl rfl ?_
  refine x_getR (pc := 78) (i := r_obj) (a := r_seen) fl_X11_181 dX11_look_78 (sN_r_obj hS) (sT_r_obj hS) rfl (sR_r_obj_58 hS) ?_
  refine x_iconst (pc := 81) dX11_look_81 ?_
  refine x_aload_n (pc := 82) dX11_look_82 rfl rfl ?_
  refine x_iconst (pc := 83) dX11_look_83 ?_
  refine x_iload_n (pc := 84) dX11_look_84 rfl rfl ?_
  refine x_iload_n (pc := 85) dX11_look_85 rfl rfl ?_
  refine x_iload (pc := 86) dX11_look_86 rfl ?_
  refine x_iconst (pc := 88) dX11_look_88 ?_
  refine y_Vi (pc := 89) (i := r_obj) (As := [vi ((-1)), vi (v1), vi (v3), vi (v4), vi (0)]) (rest := [vi (5), vr G r_seen]) ok_X11_torn ml_X11_309 dX11_look_89 (sN_r_obj hS) (sT_r_obj hS) (by decide) rfl rfl rfl ⟨rfl, rfl⟩ ⟨by decide, by decide⟩ ⟨Nat.le_refl _, Nat.le_refl _⟩ (Nat.le_of_ble_eq_true rfl) rfl h (fun r13 I12 h => ?_)
  refine y_iast (pc := 92) (i := r_seen) (n := 10) dX11_look_92 (sN_r_seen hS) (sT_r_seen hS) (sL_r_seen hS) (inb_nat (k := 5) (by decide) (by decide)) ?_
  rw [show ix 5 = 5 from rfl]
  have h := h _ rfl
  generalize up I12 r_seen 5 (r13) = I14 at h ⊢
  refine x_aload_n (pc := 93) dX11_look_93 rfl rfl ?_
  refine x_getR (pc := 94) (i := r_obj) (a := r_seen) fl_X11_181 dX11_look_94 (sN_r_obj hS) (sT_r_obj hS) rfl (sR_r_obj_58 hS) ?_
  refine x_bipush (pc := 97) dX11_look_97 (by decide) ?_
  refine x_iload_n (pc := 99) dX11_look_99 rfl rfl ?_
  refine y_iast (pc := 100) (i := r_seen) (n := 10) dX11_look_100 (sN_r_seen hS) (sT_r_seen hS) (sL_r_seen hS) (inb_nat (k := 6) (by decide) (by decide)) ?_
  rw [show ix 6 = 6 from rfl]
  have h := h _ rfl
  generalize up I14 r_seen 6 (v3) = I15 at h ⊢
  refine x_aload_n (pc := 101) dX11_look_101 rfl rfl ?_
  refine x_getR (pc := 102) (i := r_obj) (a := r_seen) fl_X11_181 dX11_look_102 (sN_r_obj hS) (sT_r_obj hS) rfl (sR_r_obj_58 hS) ?_
  refine x_bipush (pc := 105) dX11_look_105 (by decide) ?_
  refine x_aload_n (pc := 107) dX11_look_107 rfl rfl ?_
  refine x_getR (pc := 108) (i := r_obj) (a := r_campTongue) fl_X11_42 dX11_look_108 (sN_r_obj hS) (sT_r_obj hS) rfl (sR_r_obj_11 hS) ?_
  refine x_iload_n (pc := 111) dX11_look_111 rfl rfl ?_
  refine y_iald (pc := 112) (i := r_campTongue) (n := 24) dX11_look_112 (sN_r_campTongue hS) (sT_r_campTongue hS) (sL_r_campTongue hS) h.1 ?_
  have h := h.2
  refine x_aload_n (pc := 113) dX11_look_113 rfl rfl ?_
  refine x_getR (pc := 114) (i := r_obj) (a := r_bookTongue) fl_X11_93 dX11_look_114 (sN_r_obj hS) (sT_r_obj hS) rfl (sR_r_obj_28 hS) ?_
  refine x_iload_n (pc := 117) dX11_look_117 rfl rfl ?_
  refine y_iald (pc := 118) (i := r_bookTongue) (n := 96) dX11_look_118 (sN_r_bookTongue hS) (sT_r_bookTongue hS) (sL_r_bookTongue hS) h.1 ?_
  have h := h.2
  refine x_icmp_ne (pc := 119) (t := 126) dX11_look_119 (by decide) (fun e => ?_) (fun e => ?_)
  · have h := h.1 e
    refine x_iconst (pc := 122) dX11_look_122 ?_
    refine x_goto (pc := 123) (t := 127) dX11_look_123 (by decide) ?_
    refine x_less (L' := [some (vr G r_obj), some (vi (v1)), none, some (vi (v3)), some (vi (v4))]) (And.intro rfl (And.intro rfl (And.intro rfl (And.intro rfl trivial)))) ?_
    exact h
  · have h := h.2 e
    refine x_iconst (pc := 126) dX11_look_126 ?_
    refine x_less (L' := [some (vr G r_obj), some (vi (v1)), none, some (vi (v3)), some (vi (v4))]) (And.intro rfl (And.intro rfl (And.intro rfl (And.intro rfl trivial)))) ?_
    exact h
set_option maxHeartbeats 4000000 in
set_option maxRecDepth 100000 in
theorem b_R_look_k127 {G : XG} {S : XS}  {I : XI} {v1 : Int} {v3 : Int} {v4 : Int} {s0 : Int} {s1 : Int} {R : XI → Prop} (hS : xSh S)  (h : (inb (s1) 10 ∧ (∀ I16 : XI, I16 = up I r_seen (ix (s1)) (s0) → (inb (v3) 400 ∧ ((w32 (I16 r_dryWeek (ix (v3))) = 0 → R_look_k148 G S I16 (v1) (v3) (v4) (0) (8) R) ∧ (¬ (w32 (I16 r_dryWeek (ix (v3))) = 0) → R_look_k148 G S I16 (v1) (v3) (v4) (1) (8) R)))))) : R_look_k127 G S  I v1 v3 v4 s0 s1 R := by
  unfold R_look_k127
  refine y_iast (pc := 127) (i := r_seen) (n := 10) dX11_look_127 (sN_r_seen hS) (sT_r_seen hS) (sL_r_seen hS) h.1 ?_
  have h := h.2
  have h := h _ rfl
  generalize up I r_seen (ix (s1)) (s0) = I16 at h ⊢
  refine x_aload_n (pc := 128) dX11_look_128 rfl rfl ?_
  refine x_getR (pc := 129) (i := r_obj) (a := r_seen) fl_X11_181 dX11_look_129 (sN_r_obj hS) (sT_r_obj hS) rfl (sR_r_obj_58 hS) ?_
  refine x_bipush (pc := 132) dX11_look_132 (by decide) ?_
  refine x_aload_n (pc := 134) dX11_look_134 rfl rfl ?_
  refine x_getR (pc := 135) (i := r_obj) (a := r_dryWeek) fl_X11_66 dX11_look_135 (sN_r_obj hS) (sT_r_obj hS) rfl (sR_r_obj_19 hS) ?_
  refine x_iload_n (pc := 138) dX11_look_138 rfl rfl ?_
  refine y_zald (pc := 139) (i := r_dryWeek) (n := 400) dX11_look_139 (sN_r_dryWeek hS) (sT_r_dryWeek hS) (sL_r_dryWeek hS) h.1 ?_
  have h := h.2
  refine x_if_eq (pc := 140) (t := 147) dX11_look_140 (by decide) (fun e => ?_) (fun e => ?_)
  · have h := h.1 e
    refine x_iconst (pc := 147) dX11_look_147 ?_
    exact h
  · have h := h.2 e
    refine x_iconst (pc := 143) dX11_look_143 ?_
    refine x_goto (pc := 144) (t := 148) dX11_look_144 (by decide) ?_
    exact h
set_option maxHeartbeats 4000000 in
set_option maxRecDepth 100000 in
theorem b_R_look_k148 {G : XG} {S : XS}  {I : XI} {v1 : Int} {v3 : Int} {v4 : Int} {s0 : Int} {s1 : Int} {R : XI → Prop} (hS : xSh S)  (h : (inb (s1) 10 ∧ (∀ I17 : XI, I17 = up I r_seen (ix (s1)) (s0) → (∀ I18 : XI, I18 = up I17 r_seen 9 (0) → R_isThere G S I18 (v1) (v3) (fun r20 I19 => ((w32 (r20) = 0 → R I19) ∧ (¬ (w32 (r20) = 0) → R_findParts G S I19 (v1) (v3) (v4) (fun I21 => R_greatest G S I21 (fun r23 I22 => (inb (r23) 40 ∧ ((w32 (I22 r_wells (ix (r23))) = 0 → (∀ I24 : XI, I24 = up I22 r_seen 9 (0) → R I24)) ∧ (¬ (w32 (I22 r_wells (ix (r23))) = 0) → (∀ I25 : XI, I25 = up I22 r_seen 9 (1) → R I25))))))))))))) : R_look_k148 G S  I v1 v3 v4 s0 s1 R := by
  unfold R_look_k148
  refine y_iast (pc := 148) (i := r_seen) (n := 10) dX11_look_148 (sN_r_seen hS) (sT_r_seen hS) (sL_r_seen hS) h.1 ?_
  have h := h.2
  have h := h _ rfl
  generalize up I r_seen (ix (s1)) (s0) = I17 at h ⊢
  refine x_aload_n (pc := 149) dX11_look_149 rfl rfl ?_
  refine x_getR (pc := 150) (i := r_obj) (a := r_seen) fl_X11_181 dX11_look_150 (sN_r_obj hS) (sT_r_obj hS) rfl (sR_r_obj_58 hS) ?_
  refine x_bipush (pc := 153) dX11_look_153 (by decide) ?_
  refine x_iconst (pc := 155) dX11_look_155 ?_
  refine y_iast (pc := 156) (i := r_seen) (n := 10) dX11_look_156 (sN_r_seen hS) (sT_r_seen hS) (sL_r_seen hS) (inb_nat (k := 9) (by decide) (by decide)) ?_
  rw [show ix 9 = 9 from rfl]
  have h := h _ rfl
  generalize up I17 r_seen 9 (0) = I18 at h ⊢
  refine x_aload_n (pc := 157) dX11_look_157 rfl rfl ?_
  refine x_iload_n (pc := 158) dX11_look_158 rfl rfl ?_
  refine x_iload_n (pc := 159) dX11_look_159 rfl rfl ?_
  refine y_Vi (pc := 160) (i := r_obj) (As := [vi (v1), vi (v3)]) (rest := []) ok_X11_isThere ml_X11_279 dX11_look_160 (sN_r_obj hS) (sT_r_obj hS) (by decide) rfl rfl rfl ⟨rfl, rfl⟩ ⟨by decide, by decide⟩ ⟨Nat.le_refl _, Nat.le_refl _⟩ (Nat.le_of_ble_eq_true rfl) rfl h (fun r20 I19 h => ?_)
  refine x_if_eq (pc := 163) (t := 198) dX11_look_163 (by decide) (fun e => ?_) (fun e => ?_)
  · have h := h.1 e
    exact y_vret (pc := 198) dX11_look_198 rfl ⟨Nat.le_refl _, Nat.le_refl _⟩ h
  · have h := h.2 e
    refine x_aload_n (pc := 166) dX11_look_166 rfl rfl ?_
    refine x_iload_n (pc := 167) dX11_look_167 rfl rfl ?_
    refine x_iload_n (pc := 168) dX11_look_168 rfl rfl ?_
    refine x_iload (pc := 169) dX11_look_169 rfl ?_
    refine y_Vv (pc := 171) (i := r_obj) (As := [vi (v1), vi (v3), vi (v4)]) (rest := []) ok_X11_findParts ml_X11_287 dX11_look_171 (sN_r_obj hS) (sT_r_obj hS) (by decide) rfl rfl rfl ⟨rfl, rfl⟩ ⟨by decide, by decide⟩ ⟨Nat.le_refl _, Nat.le_refl _⟩ (Nat.le_of_ble_eq_true rfl) rfl h (fun I21 h => ?_)
    refine x_aload_n (pc := 174) dX11_look_174 rfl rfl ?_
    refine x_getR (pc := 175) (i := r_obj) (a := r_seen) fl_X11_181 dX11_look_175 (sN_r_obj hS) (sT_r_obj hS) rfl (sR_r_obj_58 hS) ?_
    refine x_bipush (pc := 178) dX11_look_178 (by decide) ?_
    refine x_aload_n (pc := 180) dX11_look_180 rfl rfl ?_
    refine x_getR (pc := 181) (i := r_obj) (a := r_wells) fl_X11_32 dX11_look_181 (sN_r_obj hS) (sT_r_obj hS) rfl (sR_r_obj_8 hS) ?_
    refine x_aload_n (pc := 184) dX11_look_184 rfl rfl ?_
    refine y_Vi (pc := 185) (i := r_obj) (As := []) (rest := [vr G r_wells, vi (9), vr G r_seen]) ok_X11_greatest ml_X11_290 dX11_look_185 (sN_r_obj hS) (sT_r_obj hS) (by decide) rfl rfl rfl ⟨rfl, rfl⟩ ⟨by decide, by decide⟩ ⟨Nat.le_refl _, Nat.le_refl _⟩ (Nat.le_of_ble_eq_true rfl) rfl h (fun r23 I22 h => ?_)
    refine y_zald (pc := 188) (i := r_wells) (n := 40) dX11_look_188 (sN_r_wells hS) (sT_r_wells hS) (sL_r_wells hS) h.1 ?_
    have h := h.2
    refine x_if_eq (pc := 189) (t := 196) dX11_look_189 (by decide) (fun e => ?_) (fun e => ?_)
    · have h := h.1 e
      refine x_iconst (pc := 196) dX11_look_196 ?_
      refine y_iast (pc := 197) (i := r_seen) (n := 10) dX11_look_197 (sN_r_seen hS) (sT_r_seen hS) (sL_r_seen hS) (inb_nat (k := 9) (by decide) (by decide)) ?_
      rw [show ix 9 = 9 from rfl]
      have h := h _ rfl
      generalize up I22 r_seen 9 (0) = I24 at h ⊢
      exact y_vret (pc := 198) dX11_look_198 rfl ⟨Nat.le_refl _, Nat.le_refl _⟩ h
    · have h := h.2 e
      refine x_iconst (pc := 192) dX11_look_192 ?_
      refine x_goto (pc := 193) (t := 197) dX11_look_193 (by decide) ?_
      refine y_iast (pc := 197) (i := r_seen) (n := 10) dX11_look_197 (sN_r_seen hS) (sT_r_seen hS) (sL_r_seen hS) (inb_nat (k := 9) (by decide) (by decide)) ?_
      rw [show ix 9 = 9 from rfl]
      have h := h _ rfl
      generalize up I22 r_seen 9 (1) = I25 at h ⊢
      exact y_vret (pc := 198) dX11_look_198 rfl ⟨Nat.le_refl _, Nat.le_refl _⟩ h
set_option maxHeartbeats 4000000 in
set_option maxRecDepth 100000 in
theorem b_R_need {G : XG} {S : XS} {I : XI} {v1 : Int} {R : Int → XI → Prop} (hS : xSh S)  (h : ((w32 (I r_obj 62) = w32 (4) → ((w32 (I r_obj 63) = w32 (v1) → R_token G S I (fun I1 => R (1) I1)) ∧ (¬ (w32 (I r_obj 63) = w32 (v1)) → R_wrong G S I (fun r3 I2 => (((r3) = 0 ∨ (r3) = 1) ∧ R (r3) I2))))) ∧ (¬ (w32 (I r_obj 62) = w32 (4)) → R_wrong G S I (fun r5 I4 => (((r5) = 0 ∨ (r5) = 1) ∧ R (r5) I4))))) : R_need G S I v1 R := by
  refine x_start [some (vr G r_obj), some (vi (v1))] (by decide) (Nat.le_of_ble_eq_true rfl) rfl ?_
  refine x_aload_n (pc := 0) dX11_need_0 rfl rfl ?_
  refine x_getI (pc := 1) (i := r_obj) fl_X11_357 dX11_need_1 (sN_r_obj hS) (sT_r_obj hS) rfl ?_
  refine x_iconst (pc := 4) dX11_need_4 ?_
  refine x_icmp_ne (pc := 5) (t := 16) dX11_need_5 (by decide) (fun e => ?_) (fun e => ?_)
  · have h := h.1 e
    refine x_aload_n (pc := 8) dX11_need_8 rfl rfl ?_
    refine x_getI (pc := 9) (i := r_obj) fl_X11_350 dX11_need_9 (sN_r_obj hS) (sT_r_obj hS) rfl ?_
    refine x_iload_n (pc := 12) dX11_need_12 rfl rfl ?_
    refine x_icmp_eq (pc := 13) (t := 21) dX11_need_13 (by decide) (fun e => ?_) (fun e => ?_)
    · have h := h.1 e
      refine x_aload_n (pc := 21) dX11_need_21 rfl rfl ?_
      refine y_Vv (pc := 22) (i := r_obj) (As := []) (rest := []) ok_X11_token ml_X11_373 dX11_need_22 (sN_r_obj hS) (sT_r_obj hS) (by decide) rfl rfl rfl ⟨rfl, rfl⟩ ⟨by decide, by decide⟩ ⟨Nat.le_refl _, Nat.le_refl _⟩ (Nat.le_of_ble_eq_true rfl) rfl h (fun I1 h => ?_)
      refine x_iconst (pc := 25) dX11_need_25 ?_
      exact y_zret (pc := 26) dX11_need_26 rfl ⟨Nat.le_refl _, Nat.le_refl _⟩ (Or.inr rfl) h
    · have h := h.2 e
      refine x_aload_n (pc := 16) dX11_need_16 rfl rfl ?_
      refine y_Vi (pc := 17) (i := r_obj) (As := []) (rest := []) ok_X11_wrong ml_X11_369 dX11_need_17 (sN_r_obj hS) (sT_r_obj hS) (by decide) rfl rfl rfl ⟨rfl, rfl⟩ ⟨by decide, by decide⟩ ⟨Nat.le_refl _, Nat.le_refl _⟩ (Nat.le_of_ble_eq_true rfl) rfl h (fun r3 I2 h => ?_)
      exact y_zret (pc := 20) dX11_need_20 rfl ⟨Nat.le_refl _, Nat.le_refl _⟩ h.1 h.2
  · have h := h.2 e
    refine x_aload_n (pc := 16) dX11_need_16 rfl rfl ?_
    refine y_Vi (pc := 17) (i := r_obj) (As := []) (rest := []) ok_X11_wrong ml_X11_369 dX11_need_17 (sN_r_obj hS) (sT_r_obj hS) (by decide) rfl rfl rfl ⟨rfl, rfl⟩ ⟨by decide, by decide⟩ ⟨Nat.le_refl _, Nat.le_refl _⟩ (Nat.le_of_ble_eq_true rfl) rfl h (fun r5 I4 h => ?_)
    exact y_zret (pc := 20) dX11_need_20 rfl ⟨Nat.le_refl _, Nat.le_refl _⟩ h.1 h.2
set_option maxHeartbeats 4000000 in
set_option maxRecDepth 100000 in
theorem b_R_news {G : XG} {S : XS} {I : XI} {v1 : Int} {v2 : Int} {v3 : Int} {v4 : Int} {R : Int → XI → Prop} (hS : xSh S)  (h : (∀ I1 : XI, I1 = up I r_obj 0 (0) → ((w32 (I1 r_newsMany 0) = w32 (60) → R ((-1)) I1) ∧ (¬ (w32 (I1 r_newsMany 0) = w32 (60)) → R_isCamp G S I1 (v1) (fun r3 I2 => ((w32 (r3) = 0 → R ((-1)) I2) ∧ (¬ (w32 (r3) = 0) → R_isCell G S I2 (v2) (fun r5 I4 => ((w32 (r5) = 0 → R ((-1)) I4) ∧ (¬ (w32 (r5) = 0) → (inb (v1) 24 ∧ R_in G S I4 (v3) (I4 r_campWeek (ix (v1))) (I4 r_now 0) (fun r7 I6 => ((w32 (r7) = 0 → R ((-1)) I6) ∧ (¬ (w32 (r7) = 0) → (∀ I8 : XI, I8 = up I6 r_newsMany 0 ((I6 r_newsMany 0) + (1)) → (inb (I6 r_newsMany 0) 240 ∧ (∀ I9 : XI, I9 = up I8 r_newsCamp (ix (I6 r_newsMany 0)) (v1) → (inb (I6 r_newsMany 0) 240 ∧ (∀ I10 : XI, I10 = up I9 r_newsCell (ix (I6 r_newsMany 0)) (v2) → (inb (I6 r_newsMany 0) 240 ∧ (∀ I11 : XI, I11 = up I10 r_newsWeek (ix (I6 r_newsMany 0)) (v3) → (((v4) = 0 ∨ (v4) = 1) ∧ (inb (I6 r_newsMany 0) 240 ∧ (∀ I12 : XI, I12 = up I11 r_newsSeen (ix (I6 r_newsMany 0)) (v4) → (inb (I6 r_newsMany 0) 240 ∧ (∀ I13 : XI, I13 = up I12 r_newsTold (ix (I6 r_newsMany 0)) (I12 r_now 0) → R (I6 r_newsMany 0) I13)))))))))))))))))))))))))) : R_news G S I v1 v2 v3 v4 R := by
  refine x_start [some (vr G r_obj), some (vi (v1)), some (vi (v2)), some (vi (v3)), some (vi (v4)), none] (by decide) (Nat.le_of_ble_eq_true rfl) rfl ?_
  refine x_aload_n (pc := 0) dX11_news_0 rfl rfl ?_
  refine x_iconst (pc := 1) dX11_news_1 ?_
  refine x_putI (pc := 2) (i := r_obj) fl_X11_220 dX11_news_2 (sN_r_obj hS) (sT_r_obj hS) rfl ?_
  have h := h _ rfl
  generalize up I r_obj 0 (0) = I1 at h ⊢
  refine x_aload_n (pc := 5) dX11_news_5 rfl rfl ?_
  refine x_getR (pc := 6) (i := r_obj) (a := r_newsMany) fl_X11_69 dX11_news_6 (sN_r_obj hS) (sT_r_obj hS) rfl (sR_r_obj_20 hS) ?_
  refine x_iconst (pc := 9) dX11_news_9 ?_
  refine y_iald (pc := 10) (i := r_newsMany) (n := 4) dX11_news_10 (sN_r_newsMany hS) (sT_r_newsMany hS) (sL_r_newsMany hS) (inb_nat (k := 0) (by decide) (by decide)) ?_
  rw [show ix 0 = 0 from rfl]
  refine x_bipush (pc := 11) dX11_news_11 (by decide) ?_
  refine x_icmp_eq (pc := 13) (t := 51) dX11_news_13 (by decide) (fun e => ?_) (fun e => ?_)
  · have h := h.1 e
    refine x_iconst (pc := 51) dX11_news_51 ?_
    exact y_iret (pc := 52) dX11_news_52 rfl ⟨Nat.le_refl _, Nat.le_refl _⟩ h
  · have h := h.2 e
    refine x_aload_n (pc := 16) dX11_news_16 rfl rfl ?_
    refine x_iload_n (pc := 17) dX11_news_17 rfl rfl ?_
    refine y_Vi (pc := 18) (i := r_obj) (As := [vi (v1)]) (rest := []) ok_X11_isCamp ml_X11_243 dX11_news_18 (sN_r_obj hS) (sT_r_obj hS) (by decide) rfl rfl rfl ⟨rfl, rfl⟩ ⟨by decide, by decide⟩ ⟨Nat.le_refl _, Nat.le_refl _⟩ (Nat.le_of_ble_eq_true rfl) rfl h (fun r3 I2 h => ?_)
    refine x_if_eq (pc := 21) (t := 51) dX11_news_21 (by decide) (fun e => ?_) (fun e => ?_)
    · have h := h.1 e
      refine x_iconst (pc := 51) dX11_news_51 ?_
      exact y_iret (pc := 52) dX11_news_52 rfl ⟨Nat.le_refl _, Nat.le_refl _⟩ h
    · have h := h.2 e
      refine x_aload_n (pc := 24) dX11_news_24 rfl rfl ?_
      refine x_iload_n (pc := 25) dX11_news_25 rfl rfl ?_
      refine y_Vi (pc := 26) (i := r_obj) (As := [vi (v2)]) (rest := []) ok_X11_isCell ml_X11_236 dX11_news_26 (sN_r_obj hS) (sT_r_obj hS) (by decide) rfl rfl rfl ⟨rfl, rfl⟩ ⟨by decide, by decide⟩ ⟨Nat.le_refl _, Nat.le_refl _⟩ (Nat.le_of_ble_eq_true rfl) rfl h (fun r5 I4 h => ?_)
      refine x_if_eq (pc := 29) (t := 51) dX11_news_29 (by decide) (fun e => ?_) (fun e => ?_)
      · have h := h.1 e
        refine x_iconst (pc := 51) dX11_news_51 ?_
        exact y_iret (pc := 52) dX11_news_52 rfl ⟨Nat.le_refl _, Nat.le_refl _⟩ h
      · have h := h.2 e
        refine x_iload_n (pc := 32) dX11_news_32 rfl rfl ?_
        refine x_aload_n (pc := 33) dX11_news_33 rfl rfl ?_
        refine x_getR (pc := 34) (i := r_obj) (a := r_campWeek) fl_X11_48 dX11_news_34 (sN_r_obj hS) (sT_r_obj hS) rfl (sR_r_obj_13 hS) ?_
        refine x_iload_n (pc := 37) dX11_news_37 rfl rfl ?_
        refine y_iald (pc := 38) (i := r_campWeek) (n := 24) dX11_news_38 (sN_r_campWeek hS) (sT_r_campWeek hS) (sL_r_campWeek hS) h.1 ?_
        have h := h.2
        refine x_aload_n (pc := 39) dX11_news_39 rfl rfl ?_
        refine x_getR (pc := 40) (i := r_obj) (a := r_now) fl_X11_23 dX11_news_40 (sN_r_obj hS) (sT_r_obj hS) rfl (sR_r_obj_5 hS) ?_
        refine x_iconst (pc := 43) dX11_news_43 ?_
        refine y_iald (pc := 44) (i := r_now) (n := 4) dX11_news_44 (sN_r_now hS) (sT_r_now hS) (sL_r_now hS) (inb_nat (k := 0) (by decide) (by decide)) ?_
        rw [show ix 0 = 0 from rfl]
        refine y_Si (pc := 45) (As := [vi (v3), vi (I4 r_campWeek (ix (v1))), vi (I4 r_now 0)]) (rest := []) ok_X11_in ml_X11_232 dX11_news_45 rfl ⟨rfl, rfl⟩ ⟨by decide, by decide⟩ ⟨Nat.le_refl _, Nat.le_refl _⟩ (Nat.le_of_ble_eq_true rfl) rfl h (fun r7 I6 h => ?_)
        refine x_if_ne (pc := 48) (t := 53) dX11_news_48 (by decide) (fun e => ?_) (fun e => ?_)
        · have h := h.1 e
          refine x_iconst (pc := 51) dX11_news_51 ?_
          exact y_iret (pc := 52) dX11_news_52 rfl ⟨Nat.le_refl _, Nat.le_refl _⟩ h
        · have h := h.2 e
          refine x_aload_n (pc := 53) dX11_news_53 rfl rfl ?_
          refine x_getR (pc := 54) (i := r_obj) (a := r_newsMany) fl_X11_69 dX11_news_54 (sN_r_obj hS) (sT_r_obj hS) rfl (sR_r_obj_20 hS) ?_
          refine x_iconst (pc := 57) dX11_news_57 ?_
          refine y_iald (pc := 58) (i := r_newsMany) (n := 4) dX11_news_58 (sN_r_newsMany hS) (sT_r_newsMany hS) (sL_r_newsMany hS) (inb_nat (k := 0) (by decide) (by decide)) ?_
          rw [show ix 0 = 0 from rfl]
          refine x_istore (pc := 59) (L' := [some (vr G r_obj), some (vi (v1)), some (vi (v2)), some (vi (v3)), some (vi (v4)), some (vi (I6 r_newsMany 0))]) dX11_news_59 (by decide) (xst1 rfl rfl rfl) ?_
          refine x_aload_n (pc := 61) dX11_news_61 rfl rfl ?_
          refine x_getR (pc := 62) (i := r_obj) (a := r_newsMany) fl_X11_69 dX11_news_62 (sN_r_obj hS) (sT_r_obj hS) rfl (sR_r_obj_20 hS) ?_
          refine x_iconst (pc := 65) dX11_news_65 ?_
          refine x_dup2 (pc := 66) dX11_news_66 rfl rfl ?_
          refine y_iald (pc := 67) (i := r_newsMany) (n := 4) dX11_news_67 (sN_r_newsMany hS) (sT_r_newsMany hS) (sL_r_newsMany hS) (inb_nat (k := 0) (by decide) (by decide)) ?_
          rw [show ix 0 = 0 from rfl]
          refine x_iconst (pc := 68) dX11_news_68 ?_
          refine x_iadd (pc := 69) dX11_news_69 ?_
          refine y_iast (pc := 70) (i := r_newsMany) (n := 4) dX11_news_70 (sN_r_newsMany hS) (sT_r_newsMany hS) (sL_r_newsMany hS) (inb_nat (k := 0) (by decide) (by decide)) ?_
          rw [show ix 0 = 0 from rfl]
          have h := h _ rfl
          generalize up I6 r_newsMany 0 ((I6 r_newsMany 0) + (1)) = I8 at h ⊢
          refine x_aload_n (pc := 71) dX11_news_71 rfl rfl ?_
          refine x_getR (pc := 72) (i := r_obj) (a := r_newsCamp) fl_X11_72 dX11_news_72 (sN_r_obj hS) (sT_r_obj hS) rfl (sR_r_obj_21 hS) ?_
          refine x_iload (pc := 75) dX11_news_75 rfl ?_
          refine x_iload_n (pc := 77) dX11_news_77 rfl rfl ?_
          refine y_iast (pc := 78) (i := r_newsCamp) (n := 240) dX11_news_78 (sN_r_newsCamp hS) (sT_r_newsCamp hS) (sL_r_newsCamp hS) h.1 ?_
          have h := h.2
          have h := h _ rfl
          generalize up I8 r_newsCamp (ix (I6 r_newsMany 0)) (v1) = I9 at h ⊢
          refine x_aload_n (pc := 79) dX11_news_79 rfl rfl ?_
          refine x_getR (pc := 80) (i := r_obj) (a := r_newsCell) fl_X11_75 dX11_news_80 (sN_r_obj hS) (sT_r_obj hS) rfl (sR_r_obj_22 hS) ?_
          refine x_iload (pc := 83) dX11_news_83 rfl ?_
          refine x_iload_n (pc := 85) dX11_news_85 rfl rfl ?_
          refine y_iast (pc := 86) (i := r_newsCell) (n := 240) dX11_news_86 (sN_r_newsCell hS) (sT_r_newsCell hS) (sL_r_newsCell hS) h.1 ?_
          have h := h.2
          have h := h _ rfl
          generalize up I9 r_newsCell (ix (I6 r_newsMany 0)) (v2) = I10 at h ⊢
          refine x_aload_n (pc := 87) dX11_news_87 rfl rfl ?_
          refine x_getR (pc := 88) (i := r_obj) (a := r_newsWeek) fl_X11_78 dX11_news_88 (sN_r_obj hS) (sT_r_obj hS) rfl (sR_r_obj_23 hS) ?_
          refine x_iload (pc := 91) dX11_news_91 rfl ?_
          refine x_iload_n (pc := 93) dX11_news_93 rfl rfl ?_
          refine y_iast (pc := 94) (i := r_newsWeek) (n := 240) dX11_news_94 (sN_r_newsWeek hS) (sT_r_newsWeek hS) (sL_r_newsWeek hS) h.1 ?_
          have h := h.2
          have h := h _ rfl
          generalize up I10 r_newsWeek (ix (I6 r_newsMany 0)) (v3) = I11 at h ⊢
          refine x_aload_n (pc := 95) dX11_news_95 rfl rfl ?_
          refine x_getR (pc := 96) (i := r_obj) (a := r_newsSeen) fl_X11_81 dX11_news_96 (sN_r_obj hS) (sT_r_obj hS) rfl (sR_r_obj_24 hS) ?_
          refine x_iload (pc := 99) dX11_news_99 rfl ?_
          refine x_iload (pc := 101) dX11_news_101 rfl ?_
          have hz := h.1
          have h := h.2
          refine y_zast (pc := 103) (i := r_newsSeen) (n := 240) dX11_news_103 (sN_r_newsSeen hS) (sT_r_newsSeen hS) (sL_r_newsSeen hS) h.1 hz ?_
          have h := h.2
          have h := h _ rfl
          generalize up I11 r_newsSeen (ix (I6 r_newsMany 0)) (v4) = I12 at h ⊢
          refine x_aload_n (pc := 104) dX11_news_104 rfl rfl ?_
          refine x_getR (pc := 105) (i := r_obj) (a := r_newsTold) fl_X11_84 dX11_news_105 (sN_r_obj hS) (sT_r_obj hS) rfl (sR_r_obj_25 hS) ?_
          refine x_iload (pc := 108) dX11_news_108 rfl ?_
          refine x_aload_n (pc := 110) dX11_news_110 rfl rfl ?_
          refine x_getR (pc := 111) (i := r_obj) (a := r_now) fl_X11_23 dX11_news_111 (sN_r_obj hS) (sT_r_obj hS) rfl (sR_r_obj_5 hS) ?_
          refine x_iconst (pc := 114) dX11_news_114 ?_
          refine y_iald (pc := 115) (i := r_now) (n := 4) dX11_news_115 (sN_r_now hS) (sT_r_now hS) (sL_r_now hS) (inb_nat (k := 0) (by decide) (by decide)) ?_
          rw [show ix 0 = 0 from rfl]
          refine y_iast (pc := 116) (i := r_newsTold) (n := 240) dX11_news_116 (sN_r_newsTold hS) (sT_r_newsTold hS) (sL_r_newsTold hS) h.1 ?_
          have h := h.2
          have h := h _ rfl
          generalize up I12 r_newsTold (ix (I6 r_newsMany 0)) (I12 r_now 0) = I13 at h ⊢
          refine x_iload (pc := 117) dX11_news_117 rfl ?_
          exact y_iret (pc := 119) dX11_news_119 rfl ⟨Nat.le_refl _, Nat.le_refl _⟩ h
set_option maxHeartbeats 4000000 in
set_option maxRecDepth 100000 in
theorem b_R_nextFor {G : XG} {S : XS} {I : XI} {v1 : Int} {R : Int → XI → Prop} (hS : xSh S)  (h : R_levelOf G S I (v1) (fun r2 I1 => R_nextFor_k16 G S I1 (v1) ((r2) + (1)) ((-1)) (0) (0) R)) : R_nextFor G S I v1 R := by
  refine x_start [some (vr G r_obj), some (vi (v1)), none, none, none, none, none] (by decide) (Nat.le_of_ble_eq_true rfl) rfl ?_
  refine x_aload_n (pc := 0) dX11_nextFor_0 rfl rfl ?_
  refine x_iload_n (pc := 1) dX11_nextFor_1 rfl rfl ?_
  refine y_Vi (pc := 2) (i := r_obj) (As := [vi (v1)]) (rest := []) ok_X11_levelOf ml_X11_466 dX11_nextFor_2 (sN_r_obj hS) (sT_r_obj hS) (by decide) rfl rfl rfl ⟨rfl, rfl⟩ ⟨by decide, by decide⟩ ⟨Nat.le_refl _, Nat.le_refl _⟩ (Nat.le_of_ble_eq_true rfl) rfl h (fun r2 I1 h => ?_)
  refine x_iconst (pc := 5) dX11_nextFor_5 ?_
  refine x_iadd (pc := 6) dX11_nextFor_6 ?_
  refine x_istore_n (pc := 7) (L' := [some (vr G r_obj), some (vi (v1)), some (vi ((r2) + (1))), none, none, none, none]) dX11_nextFor_7 rfl (by decide) (xst1 rfl rfl rfl) ?_
  refine x_iconst (pc := 8) dX11_nextFor_8 ?_
  refine x_istore_n (pc := 9) (L' := [some (vr G r_obj), some (vi (v1)), some (vi ((r2) + (1))), some (vi ((-1))), none, none, none]) dX11_nextFor_9 rfl (by decide) (xst1 rfl rfl rfl) ?_
  refine x_iconst (pc := 10) dX11_nextFor_10 ?_
  refine x_istore (pc := 11) (L' := [some (vr G r_obj), some (vi (v1)), some (vi ((r2) + (1))), some (vi ((-1))), some (vi (0)), none, none]) dX11_nextFor_11 (by decide) (xst1 rfl rfl rfl) ?_
  refine x_iconst (pc := 13) dX11_nextFor_13 ?_
  refine x_istore (pc := 14) (L' := [some (vr G r_obj), some (vi (v1)), some (vi ((r2) + (1))), some (vi ((-1))), some (vi (0)), some (vi (0)), none]) dX11_nextFor_14 (by decide) (xst1 rfl rfl rfl) ?_
  exact h
set_option maxHeartbeats 4000000 in
set_option maxRecDepth 100000 in
theorem b_R_nextFor_k16 {G : XG} {S : XS}  {I : XI} {v1 : Int} {v2 : Int} {v3 : Int} {v4 : Int} {v5 : Int} {R : Int → XI → Prop} (hS : xSh S)  (h : ((w32 (I r_books 0) ≤ w32 (v5) → R (v3) I) ∧ (¬ (w32 (I r_books 0) ≤ w32 (v5)) → R_hasRead G S I (v1) (v5) (fun r4 I3 => ((w32 (r4) = 0 → (inb (v5) 96 ∧ (inb (v1) 48 ∧ (inb (I3 r_readerCamp (ix (v1))) 24 ∧ ((w32 (I3 r_bookTongue (ix (v5))) = w32 (I3 r_campTongue (ix (I3 r_readerCamp (ix (v1))))) → R_viewWeek G S I3 (fun r6 I5 => R_whoHas G S I5 (v5) (I3 r_now 0) (r6) (fun r8 I7 => ((w32 (r8) = w32 ((-1)) → (inb (v5) 96 ∧ ((w32 (v2) ≤ w32 (I7 r_bookLevel (ix (v5))) → (inb (v5) 96 ∧ R_nextFor_k113 G S I7 (v1) (v2) (v3) (v4) (v5) ((I7 r_bookLevel (ix (v5))) - (v2)) R)) ∧ (¬ (w32 (v2) ≤ w32 (I7 r_bookLevel (ix (v5)))) → (inb (v5) 96 ∧ R_nextFor_k113 G S I7 (v1) (v2) (v3) (v4) (v5) ((v2) - (I7 r_bookLevel (ix (v5)))) R))))) ∧ (¬ (w32 (r8) = w32 ((-1))) → R_nextFor_k16 G S I7 (v1) (v2) (v3) (v4) (v5 + 1) R))))) ∧ (¬ (w32 (I3 r_bookTongue (ix (v5))) = w32 (I3 r_campTongue (ix (I3 r_readerCamp (ix (v1)))))) → R_nextFor_k16 G S I3 (v1) (v2) (v3) (v4) (v5 + 1) R)))))) ∧ (¬ (w32 (r4) = 0) → R_nextFor_k16 G S I3 (v1) (v2) (v3) (v4) (v5 + 1) R)))))) : R_nextFor_k16 G S  I v1 v2 v3 v4 v5 R := by
  unfold R_nextFor_k16
  refine x_iload (pc := 16) dX11_nextFor_16 rfl ?_
  refine x_aload_n (pc := 18) dX11_nextFor_18 rfl rfl ?_
  refine x_getR (pc := 19) (i := r_obj) (a := r_books) fl_X11_87 dX11_nextFor_19 (sN_r_obj hS) (sT_r_obj hS) rfl (sR_r_obj_26 hS) ?_
  refine x_iconst (pc := 22) dX11_nextFor_22 ?_
  refine y_iald (pc := 23) (i := r_books) (n := 4) dX11_nextFor_23 (sN_r_books hS) (sT_r_books hS) (sL_r_books hS) (inb_nat (k := 0) (by decide) (by decide)) ?_
  rw [show ix 0 = 0 from rfl]
  refine x_icmp_ge (pc := 24) (t := 140) dX11_nextFor_24 (by decide) (fun e => ?_) (fun e => ?_)
  · have h := h.1 e
    refine x_iload_n (pc := 140) dX11_nextFor_140 rfl rfl ?_
    exact y_iret (pc := 141) dX11_nextFor_141 rfl ⟨Nat.le_refl _, Nat.le_refl _⟩ h
  · have h := h.2 e
    refine x_aload_n (pc := 27) dX11_nextFor_27 rfl rfl ?_
    refine x_iload_n (pc := 28) dX11_nextFor_28 rfl rfl ?_
    refine x_iload (pc := 29) dX11_nextFor_29 rfl ?_
    refine y_Vi (pc := 31) (i := r_obj) (As := [vi (v1), vi (v5)]) (rest := []) ok_X11_hasRead ml_X11_463 dX11_nextFor_31 (sN_r_obj hS) (sT_r_obj hS) (by decide) rfl rfl rfl ⟨rfl, rfl⟩ ⟨by decide, by decide⟩ ⟨Nat.le_refl _, Nat.le_refl _⟩ (Nat.le_of_ble_eq_true rfl) rfl h (fun r4 I3 h => ?_)
    refine x_if_ne (pc := 34) (t := 134) dX11_nextFor_34 (by decide) (fun e => ?_) (fun e => ?_)
    · have h := h.1 e
      refine x_aload_n (pc := 37) dX11_nextFor_37 rfl rfl ?_
      refine x_getR (pc := 38) (i := r_obj) (a := r_bookTongue) fl_X11_93 dX11_nextFor_38 (sN_r_obj hS) (sT_r_obj hS) rfl (sR_r_obj_28 hS) ?_
      refine x_iload (pc := 41) dX11_nextFor_41 rfl ?_
      refine y_iald (pc := 43) (i := r_bookTongue) (n := 96) dX11_nextFor_43 (sN_r_bookTongue hS) (sT_r_bookTongue hS) (sL_r_bookTongue hS) h.1 ?_
      have h := h.2
      refine x_aload_n (pc := 44) dX11_nextFor_44 rfl rfl ?_
      refine x_getR (pc := 45) (i := r_obj) (a := r_campTongue) fl_X11_42 dX11_nextFor_45 (sN_r_obj hS) (sT_r_obj hS) rfl (sR_r_obj_11 hS) ?_
      refine x_aload_n (pc := 48) dX11_nextFor_48 rfl rfl ?_
      refine x_getR (pc := 49) (i := r_obj) (a := r_readerCamp) fl_X11_159 dX11_nextFor_49 (sN_r_obj hS) (sT_r_obj hS) rfl (sR_r_obj_50 hS) ?_
      refine x_iload_n (pc := 52) dX11_nextFor_52 rfl rfl ?_
      refine y_iald (pc := 53) (i := r_readerCamp) (n := 48) dX11_nextFor_53 (sN_r_readerCamp hS) (sT_r_readerCamp hS) (sL_r_readerCamp hS) h.1 ?_
      have h := h.2
      refine y_iald (pc := 54) (i := r_campTongue) (n := 24) dX11_nextFor_54 (sN_r_campTongue hS) (sT_r_campTongue hS) (sL_r_campTongue hS) h.1 ?_
      have h := h.2
      refine x_icmp_ne (pc := 55) (t := 134) dX11_nextFor_55 (by decide) (fun e => ?_) (fun e => ?_)
      · have h := h.1 e
        refine x_aload_n (pc := 58) dX11_nextFor_58 rfl rfl ?_
        refine x_iload (pc := 59) dX11_nextFor_59 rfl ?_
        refine x_aload_n (pc := 61) dX11_nextFor_61 rfl rfl ?_
        refine x_getR (pc := 62) (i := r_obj) (a := r_now) fl_X11_23 dX11_nextFor_62 (sN_r_obj hS) (sT_r_obj hS) rfl (sR_r_obj_5 hS) ?_
        refine x_iconst (pc := 65) dX11_nextFor_65 ?_
        refine y_iald (pc := 66) (i := r_now) (n := 4) dX11_nextFor_66 (sN_r_now hS) (sT_r_now hS) (sL_r_now hS) (inb_nat (k := 0) (by decide) (by decide)) ?_
        rw [show ix 0 = 0 from rfl]
        refine x_aload_n (pc := 67) dX11_nextFor_67 rfl rfl ?_
        refine y_Vi (pc := 68) (i := r_obj) (As := []) (rest := [vi (I3 r_now 0), vi (v5), vr G r_obj]) ok_X11_viewWeek ml_X11_283 dX11_nextFor_68 (sN_r_obj hS) (sT_r_obj hS) (by decide) rfl rfl rfl ⟨rfl, rfl⟩ ⟨by decide, by decide⟩ ⟨Nat.le_refl _, Nat.le_refl _⟩ (Nat.le_of_ble_eq_true rfl) rfl h (fun r6 I5 h => ?_)
        refine y_Vi (pc := 71) (i := r_obj) (As := [vi (v5), vi (I3 r_now 0), vi (r6)]) (rest := []) ok_X11_whoHas ml_X11_297 dX11_nextFor_71 (sN_r_obj hS) (sT_r_obj hS) (by decide) rfl rfl rfl ⟨rfl, rfl⟩ ⟨by decide, by decide⟩ ⟨Nat.le_refl _, Nat.le_refl _⟩ (Nat.le_of_ble_eq_true rfl) rfl h (fun r8 I7 h => ?_)
        refine x_iconst (pc := 74) dX11_nextFor_74 ?_
        refine x_icmp_eq (pc := 75) (t := 81) dX11_nextFor_75 (by decide) (fun e => ?_) (fun e => ?_)
        · have h := h.1 e
          refine x_aload_n (pc := 81) dX11_nextFor_81 rfl rfl ?_
          refine x_getR (pc := 82) (i := r_obj) (a := r_bookLevel) fl_X11_96 dX11_nextFor_82 (sN_r_obj hS) (sT_r_obj hS) rfl (sR_r_obj_29 hS) ?_
          refine x_iload (pc := 85) dX11_nextFor_85 rfl ?_
          refine y_iald (pc := 87) (i := r_bookLevel) (n := 96) dX11_nextFor_87 (sN_r_bookLevel hS) (sT_r_bookLevel hS) (sL_r_bookLevel hS) h.1 ?_
          have h := h.2
          refine x_iload_n (pc := 88) dX11_nextFor_88 rfl rfl ?_
          refine x_icmp_ge (pc := 89) (t := 104) dX11_nextFor_89 (by decide) (fun e => ?_) (fun e => ?_)
          · have h := h.1 e
            refine x_aload_n (pc := 104) dX11_nextFor_104 rfl rfl ?_
            refine x_getR (pc := 105) (i := r_obj) (a := r_bookLevel) fl_X11_96 dX11_nextFor_105 (sN_r_obj hS) (sT_r_obj hS) rfl (sR_r_obj_29 hS) ?_
            refine x_iload (pc := 108) dX11_nextFor_108 rfl ?_
            refine y_iald (pc := 110) (i := r_bookLevel) (n := 96) dX11_nextFor_110 (sN_r_bookLevel hS) (sT_r_bookLevel hS) (sL_r_bookLevel hS) h.1 ?_
            have h := h.2
            refine x_iload_n (pc := 111) dX11_nextFor_111 rfl rfl ?_
            refine x_isub (pc := 112) dX11_nextFor_112 ?_
            exact h
          · have h := h.2 e
            refine x_iload_n (pc := 92) dX11_nextFor_92 rfl rfl ?_
            refine x_aload_n (pc := 93) dX11_nextFor_93 rfl rfl ?_
            refine x_getR (pc := 94) (i := r_obj) (a := r_bookLevel) fl_X11_96 dX11_nextFor_94 (sN_r_obj hS) (sT_r_obj hS) rfl (sR_r_obj_29 hS) ?_
            refine x_iload (pc := 97) dX11_nextFor_97 rfl ?_
            refine y_iald (pc := 99) (i := r_bookLevel) (n := 96) dX11_nextFor_99 (sN_r_bookLevel hS) (sT_r_bookLevel hS) (sL_r_bookLevel hS) h.1 ?_
            have h := h.2
            refine x_isub (pc := 100) dX11_nextFor_100 ?_
            refine x_goto (pc := 101) (t := 113) dX11_nextFor_101 (by decide) ?_
            exact h
        · have h := h.2 e
          refine x_goto (pc := 78) (t := 134) dX11_nextFor_78 (by decide) ?_
          refine x_iinc (pc := 134) (L' := [some (vr G r_obj), some (vi (v1)), some (vi (v2)), some (vi (v3)), some (vi (v4)), some (vi (v5 + 1)), none]) dX11_nextFor_134 rfl (by decide) (xst1 rfl rfl rfl) ?_
          refine x_goto (pc := 137) (t := 16) dX11_nextFor_137 (by decide) ?_
          exact h
      · have h := h.2 e
        refine x_iinc (pc := 134) (L' := [some (vr G r_obj), some (vi (v1)), some (vi (v2)), some (vi (v3)), some (vi (v4)), some (vi (v5 + 1)), none]) dX11_nextFor_134 rfl (by decide) (xst1 rfl rfl rfl) ?_
        refine x_goto (pc := 137) (t := 16) dX11_nextFor_137 (by decide) ?_
        exact h
    · have h := h.2 e
      refine x_iinc (pc := 134) (L' := [some (vr G r_obj), some (vi (v1)), some (vi (v2)), some (vi (v3)), some (vi (v4)), some (vi (v5 + 1)), none]) dX11_nextFor_134 rfl (by decide) (xst1 rfl rfl rfl) ?_
      refine x_goto (pc := 137) (t := 16) dX11_nextFor_137 (by decide) ?_
      exact h
set_option maxHeartbeats 4000000 in
set_option maxRecDepth 100000 in
theorem b_R_nextFor_k113 {G : XG} {S : XS}  {I : XI} {v1 : Int} {v2 : Int} {v3 : Int} {v4 : Int} {v5 : Int} {s0 : Int} {R : Int → XI → Prop} (hS : xSh S)  (h : ((w32 (v3) = w32 ((-1)) → R_nextFor_k16 G S I (v1) (v2) (v5) (s0) (v5 + 1) R) ∧ (¬ (w32 (v3) = w32 ((-1))) → ((w32 (v4) ≤ w32 (s0) → R_nextFor_k16 G S I (v1) (v2) (v3) (v4) (v5 + 1) R) ∧ (¬ (w32 (v4) ≤ w32 (s0)) → R_nextFor_k16 G S I (v1) (v2) (v5) (s0) (v5 + 1) R))))) : R_nextFor_k113 G S  I v1 v2 v3 v4 v5 s0 R := by
  unfold R_nextFor_k113
  refine x_istore (pc := 113) (L' := [some (vr G r_obj), some (vi (v1)), some (vi (v2)), some (vi (v3)), some (vi (v4)), some (vi (v5)), some (vi (s0))]) dX11_nextFor_113 (by decide) (xst1 rfl rfl rfl) ?_
  refine x_iload_n (pc := 115) dX11_nextFor_115 rfl rfl ?_
  refine x_iconst (pc := 116) dX11_nextFor_116 ?_
  refine x_icmp_eq (pc := 117) (t := 127) dX11_nextFor_117 (by decide) (fun e => ?_) (fun e => ?_)
  · have h := h.1 e
    refine x_iload (pc := 127) dX11_nextFor_127 rfl ?_
    refine x_istore_n (pc := 129) (L' := [some (vr G r_obj), some (vi (v1)), some (vi (v2)), some (vi (v5)), some (vi (v4)), some (vi (v5)), some (vi (s0))]) dX11_nextFor_129 rfl (by decide) (xst1 rfl rfl rfl) ?_
    refine x_iload (pc := 130) dX11_nextFor_130 rfl ?_
    refine x_istore (pc := 132) (L' := [some (vr G r_obj), some (vi (v1)), some (vi (v2)), some (vi (v5)), some (vi (s0)), some (vi (v5)), some (vi (s0))]) dX11_nextFor_132 (by decide) (xst1 rfl rfl rfl) ?_
    refine x_iinc (pc := 134) (L' := [some (vr G r_obj), some (vi (v1)), some (vi (v2)), some (vi (v5)), some (vi (s0)), some (vi (v5 + 1)), some (vi (s0))]) dX11_nextFor_134 rfl (by decide) (xst1 rfl rfl rfl) ?_
    refine x_goto (pc := 137) (t := 16) dX11_nextFor_137 (by decide) ?_
    refine x_less (L' := [some (vr G r_obj), some (vi (v1)), some (vi (v2)), some (vi (v5)), some (vi (s0)), some (vi (v5 + 1)), none]) (And.intro rfl (And.intro rfl (And.intro rfl (And.intro rfl (And.intro rfl (And.intro rfl trivial)))))) ?_
    exact h
  · have h := h.2 e
    refine x_iload (pc := 120) dX11_nextFor_120 rfl ?_
    refine x_iload (pc := 122) dX11_nextFor_122 rfl ?_
    refine x_icmp_ge (pc := 124) (t := 134) dX11_nextFor_124 (by decide) (fun e => ?_) (fun e => ?_)
    · have h := h.1 e
      refine x_iinc (pc := 134) (L' := [some (vr G r_obj), some (vi (v1)), some (vi (v2)), some (vi (v3)), some (vi (v4)), some (vi (v5 + 1)), some (vi (s0))]) dX11_nextFor_134 rfl (by decide) (xst1 rfl rfl rfl) ?_
      refine x_goto (pc := 137) (t := 16) dX11_nextFor_137 (by decide) ?_
      refine x_less (L' := [some (vr G r_obj), some (vi (v1)), some (vi (v2)), some (vi (v3)), some (vi (v4)), some (vi (v5 + 1)), none]) (And.intro rfl (And.intro rfl (And.intro rfl (And.intro rfl (And.intro rfl (And.intro rfl trivial)))))) ?_
      exact h
    · have h := h.2 e
      refine x_iload (pc := 127) dX11_nextFor_127 rfl ?_
      refine x_istore_n (pc := 129) (L' := [some (vr G r_obj), some (vi (v1)), some (vi (v2)), some (vi (v5)), some (vi (v4)), some (vi (v5)), some (vi (s0))]) dX11_nextFor_129 rfl (by decide) (xst1 rfl rfl rfl) ?_
      refine x_iload (pc := 130) dX11_nextFor_130 rfl ?_
      refine x_istore (pc := 132) (L' := [some (vr G r_obj), some (vi (v1)), some (vi (v2)), some (vi (v5)), some (vi (s0)), some (vi (v5)), some (vi (s0))]) dX11_nextFor_132 (by decide) (xst1 rfl rfl rfl) ?_
      refine x_iinc (pc := 134) (L' := [some (vr G r_obj), some (vi (v1)), some (vi (v2)), some (vi (v5)), some (vi (s0)), some (vi (v5 + 1)), some (vi (s0))]) dX11_nextFor_134 rfl (by decide) (xst1 rfl rfl rfl) ?_
      refine x_goto (pc := 137) (t := 16) dX11_nextFor_137 (by decide) ?_
      refine x_less (L' := [some (vr G r_obj), some (vi (v1)), some (vi (v2)), some (vi (v5)), some (vi (s0)), some (vi (v5 + 1)), none]) (And.intro rfl (And.intro rfl (And.intro rfl (And.intro rfl (And.intro rfl (And.intro rfl trivial)))))) ?_
      exact h
set_option maxHeartbeats 4000000 in
set_option maxRecDepth 100000 in
theorem b_R_numberOf {G : XG} {S : XS} {I : XI} {v1 : Int} {v2 : Int} {R : Int → XI → Prop} (hS : xSh S)  (h : R_lineOf G S I (v1) (fun r2 I1 => ((w32 (r2) = w32 ((-1)) → R (v2) I1) ∧ (¬ (w32 (r2) = w32 ((-1))) → (inb (r2) 64 ∧ R (I1 r_lineNumber (ix (r2))) I1))))) : R_numberOf G S I v1 v2 R := by
  refine x_start [some (vr G r_obj), some (vi (v1)), some (vi (v2)), none] (by decide) (Nat.le_of_ble_eq_true rfl) rfl ?_
  refine x_aload_n (pc := 0) dX11_numberOf_0 rfl rfl ?_
  refine x_iload_n (pc := 1) dX11_numberOf_1 rfl rfl ?_
  refine y_Vi (pc := 2) (i := r_obj) (As := [vi (v1)]) (rest := []) ok_X11_lineOf ml_X11_313 dX11_numberOf_2 (sN_r_obj hS) (sT_r_obj hS) (by decide) rfl rfl rfl ⟨rfl, rfl⟩ ⟨by decide, by decide⟩ ⟨Nat.le_refl _, Nat.le_refl _⟩ (Nat.le_of_ble_eq_true rfl) rfl h (fun r2 I1 h => ?_)
  refine x_istore_n (pc := 5) (L' := [some (vr G r_obj), some (vi (v1)), some (vi (v2)), some (vi (r2))]) dX11_numberOf_5 rfl (by decide) (xst1 rfl rfl rfl) ?_
  refine x_iload_n (pc := 6) dX11_numberOf_6 rfl rfl ?_
  refine x_iconst (pc := 7) dX11_numberOf_7 ?_
  refine x_icmp_ne (pc := 8) (t := 15) dX11_numberOf_8 (by decide) (fun e => ?_) (fun e => ?_)
  · have h := h.1 e
    refine x_iload_n (pc := 11) dX11_numberOf_11 rfl rfl ?_
    refine x_goto (pc := 12) (t := 21) dX11_numberOf_12 (by decide) ?_
    exact y_iret (pc := 21) dX11_numberOf_21 rfl ⟨Nat.le_refl _, Nat.le_refl _⟩ h
  · have h := h.2 e
    refine x_aload_n (pc := 15) dX11_numberOf_15 rfl rfl ?_
    refine x_getR (pc := 16) (i := r_obj) (a := r_lineNumber) fl_X11_135 dX11_numberOf_16 (sN_r_obj hS) (sT_r_obj hS) rfl (sR_r_obj_42 hS) ?_
    refine x_iload_n (pc := 19) dX11_numberOf_19 rfl rfl ?_
    refine y_iald (pc := 20) (i := r_lineNumber) (n := 64) dX11_numberOf_20 (sN_r_lineNumber hS) (sT_r_lineNumber hS) (sL_r_lineNumber hS) h.1 ?_
    have h := h.2
    exact y_iret (pc := 21) dX11_numberOf_21 rfl ⟨Nat.le_refl _, Nat.le_refl _⟩ h
set_option maxHeartbeats 4000000 in
set_option maxRecDepth 100000 in
theorem b_R_oneLine {G : XG} {S : XS} {I : XI}  {R : Int → XI → Prop} (hS : xSh S)  (h : ((w32 (16) ≤ w32 (I r_obj 68) → R_oneLine_k18 G S I (16) R) ∧ (¬ (w32 (16) ≤ w32 (I r_obj 68)) → R_oneLine_k18 G S I (I r_obj 68) R))) : R_oneLine G S I  R := by
  refine x_start [some (vr G r_obj), none, none, none] (by decide) (Nat.le_of_ble_eq_true rfl) rfl ?_
  refine x_aload_n (pc := 0) dX11_oneLine_0 rfl rfl ?_
  refine x_getI (pc := 1) (i := r_obj) fl_X11_408 dX11_oneLine_1 (sN_r_obj hS) (sT_r_obj hS) rfl ?_
  refine x_bipush (pc := 4) dX11_oneLine_4 (by decide) ?_
  refine x_icmp_ge (pc := 6) (t := 16) dX11_oneLine_6 (by decide) (fun e => ?_) (fun e => ?_)
  · have h := h.1 e
    refine x_bipush (pc := 16) dX11_oneLine_16 (by decide) ?_
    exact h
  · have h := h.2 e
    refine x_aload_n (pc := 9) dX11_oneLine_9 rfl rfl ?_
    refine x_getI (pc := 10) (i := r_obj) fl_X11_408 dX11_oneLine_10 (sN_r_obj hS) (sT_r_obj hS) rfl ?_
    refine x_goto (pc := 13) (t := 18) dX11_oneLine_13 (by decide) ?_
    exact h
set_option maxHeartbeats 4000000 in
set_option maxRecDepth 100000 in
theorem b_R_oneLine_k18 {G : XG} {S : XS}  {I : XI} {s0 : Int} {R : Int → XI → Prop} (hS : xSh S)  (h : ((w32 (I r_obj 68) = w32 (16) → R_later G S I (3) (fun I1 => R_oneLine_k33 G S I1 (s0) R)) ∧ (¬ (w32 (I r_obj 68) = w32 (16)) → R_oneLine_k33 G S I (s0) R))) : R_oneLine_k18 G S  I s0 R := by
  unfold R_oneLine_k18
  refine x_istore_n (pc := 18) (L' := [some (vr G r_obj), some (vi (s0)), none, none]) dX11_oneLine_18 rfl (by decide) (xst1 rfl rfl rfl) ?_
  refine x_aload_n (pc := 19) dX11_oneLine_19 rfl rfl ?_
  refine x_getI (pc := 20) (i := r_obj) fl_X11_408 dX11_oneLine_20 (sN_r_obj hS) (sT_r_obj hS) rfl ?_
  refine x_bipush (pc := 23) dX11_oneLine_23 (by decide) ?_
  refine x_icmp_ne (pc := 25) (t := 33) dX11_oneLine_25 (by decide) (fun e => ?_) (fun e => ?_)
  · have h := h.1 e
    refine x_aload_n (pc := 28) dX11_oneLine_28 rfl rfl ?_
    refine x_iconst (pc := 29) dX11_oneLine_29 ?_
    refine y_Vv (pc := 30) (i := r_obj) (As := [vi (3)]) (rest := []) ok_X11_later ml_X11_400 dX11_oneLine_30 (sN_r_obj hS) (sT_r_obj hS) (by decide) rfl rfl rfl ⟨rfl, rfl⟩ ⟨by decide, by decide⟩ ⟨Nat.le_refl _, Nat.le_refl _⟩ (Nat.le_of_ble_eq_true rfl) rfl h (fun I1 h => ?_)
    exact h
  · have h := h.2 e
    exact h
set_option maxHeartbeats 4000000 in
set_option maxRecDepth 100000 in
theorem b_R_oneLine_k33 {G : XG} {S : XS}  {I : XI} {v1 : Int} {R : Int → XI → Prop} (hS : xSh S)  (h : R_isWord G S I (26982) (fun r3 I2 => ((w32 (r3) = 0 → R_oneLine_k91 G S I2 (v1) (0) R) ∧ (¬ (w32 (r3) = 0) → R_oneLine_k47 G S I2 (v1) (0) (1) R)))) : R_oneLine_k33 G S  I v1 R := by
  unfold R_oneLine_k33
  refine x_iconst (pc := 33) dX11_oneLine_33 ?_
  refine x_istore_n (pc := 34) (L' := [some (vr G r_obj), some (vi (v1)), some (vi (0)), none]) dX11_oneLine_34 rfl (by decide) (xst1 rfl rfl rfl) ?_
  refine x_aload_n (pc := 35) dX11_oneLine_35 rfl rfl ?_
  refine x_ldc2 (pc := 36) (z := 26982) dX11_oneLine_36 kl_X11_411 rfl ?_
  refine y_Vi (pc := 39) (i := r_obj) (As := [vl (26982)]) (rest := []) ok_X11_isWord ml_X11_378 dX11_oneLine_39 (sN_r_obj hS) (sT_r_obj hS) (by decide) rfl rfl rfl ⟨rfl, rfl⟩ ⟨by decide, by decide⟩ ⟨Nat.le_refl _, Nat.le_refl _⟩ (Nat.le_of_ble_eq_true rfl) rfl h (fun r3 I2 h => ?_)
  refine x_if_eq (pc := 42) (t := 91) dX11_oneLine_42 (by decide) (fun e => ?_) (fun e => ?_)
  · have h := h.1 e
    exact h
  · have h := h.2 e
    refine x_iconst (pc := 45) dX11_oneLine_45 ?_
    refine x_istore_n (pc := 46) (L' := [some (vr G r_obj), some (vi (v1)), some (vi (0)), some (vi (1))]) dX11_oneLine_46 rfl (by decide) (xst1 rfl rfl rfl) ?_
    exact h
set_option maxHeartbeats 4000000 in
set_option maxRecDepth 100000 in
theorem b_R_oneLine_k91 {G : XG} {S : XS}  {I : XI} {v1 : Int} {v2 : Int} {R : Int → XI → Prop} (hS : xSh S)  (h : ((w32 (4) ≤ w32 (v2) → R_oneLine_k106 G S I (v1) (4) (v1) R) ∧ (¬ (w32 (4) ≤ w32 (v2)) → R_oneLine_k106 G S I (v1) (v2) (v1) R))) : R_oneLine_k91 G S  I v1 v2 R := by
  unfold R_oneLine_k91
  refine x_aload_n (pc := 91) dX11_oneLine_91 rfl rfl ?_
  refine x_getR (pc := 92) (i := r_obj) (a := r_newTests) fl_X11_190 dX11_oneLine_92 (sN_r_obj hS) (sT_r_obj hS) rfl (sR_r_obj_71 hS) ?_
  refine x_iload_n (pc := 95) dX11_oneLine_95 rfl rfl ?_
  refine x_iload_n (pc := 96) dX11_oneLine_96 rfl rfl ?_
  refine x_iconst (pc := 97) dX11_oneLine_97 ?_
  refine x_icmp_ge (pc := 98) (t := 105) dX11_oneLine_98 (by decide) (fun e => ?_) (fun e => ?_)
  · have h := h.1 e
    refine x_iconst (pc := 105) dX11_oneLine_105 ?_
    refine x_less (L' := [some (vr G r_obj), some (vi (v1)), none, none]) (And.intro rfl (And.intro rfl trivial)) ?_
    exact h
  · have h := h.2 e
    refine x_iload_n (pc := 101) dX11_oneLine_101 rfl rfl ?_
    refine x_goto (pc := 102) (t := 106) dX11_oneLine_102 (by decide) ?_
    refine x_less (L' := [some (vr G r_obj), some (vi (v1)), none, none]) (And.intro rfl (And.intro rfl trivial)) ?_
    exact h
set_option maxHeartbeats 4000000 in
set_option maxRecDepth 100000 in
theorem b_R_oneLine_k47 {G : XG} {S : XS}  {I : XI} {v1 : Int} {v2 : Int} {v3 : Int} {R : Int → XI → Prop} (hS : xSh S)  (h : ((w32 (v3) = 0 → R_need G S I (58) (fun r5 I4 => ((w32 (r5) = 0 → R (0) I4) ∧ (¬ (w32 (r5) = 0) → R_oneLine_k91 G S I4 (v1) (v2) R)))) ∧ (¬ (w32 (v3) = 0) → R_token G S I (fun I6 => R_oneTest G S I6 (v1) (v2) (fun r8 I7 => ((w32 (r8) = 0 → R (0) I7) ∧ (¬ (w32 (r8) = 0) → R_isWord G S I7 (6385252) (fun r10 I9 => R_oneLine_k47 G S I9 (v1) (v2 + 1) (r10) R)))))))) : R_oneLine_k47 G S  I v1 v2 v3 R := by
  unfold R_oneLine_k47
  refine x_iload_n (pc := 47) dX11_oneLine_47 rfl rfl ?_
  refine x_if_eq (pc := 48) (t := 80) dX11_oneLine_48 (by decide) (fun e => ?_) (fun e => ?_)
  · have h := h.1 e
    refine x_aload_n (pc := 80) dX11_oneLine_80 rfl rfl ?_
    refine x_bipush (pc := 81) dX11_oneLine_81 (by decide) ?_
    refine y_Vi (pc := 83) (i := r_obj) (As := [vi (58)]) (rest := []) ok_X11_need ml_X11_418 dX11_oneLine_83 (sN_r_obj hS) (sT_r_obj hS) (by decide) rfl rfl rfl ⟨rfl, rfl⟩ ⟨by decide, by decide⟩ ⟨Nat.le_refl _, Nat.le_refl _⟩ (Nat.le_of_ble_eq_true rfl) rfl h (fun r5 I4 h => ?_)
    refine x_if_ne (pc := 86) (t := 91) dX11_oneLine_86 (by decide) (fun e => ?_) (fun e => ?_)
    · have h := h.1 e
      refine x_iconst (pc := 89) dX11_oneLine_89 ?_
      exact y_zret (pc := 90) dX11_oneLine_90 rfl ⟨Nat.le_refl _, Nat.le_refl _⟩ (Or.inl rfl) h
    · have h := h.2 e
      refine x_less (L' := [some (vr G r_obj), some (vi (v1)), some (vi (v2)), none]) (And.intro rfl (And.intro rfl (And.intro rfl trivial))) ?_
      exact h
  · have h := h.2 e
    refine x_aload_n (pc := 51) dX11_oneLine_51 rfl rfl ?_
    refine y_Vv (pc := 52) (i := r_obj) (As := []) (rest := []) ok_X11_token ml_X11_373 dX11_oneLine_52 (sN_r_obj hS) (sT_r_obj hS) (by decide) rfl rfl rfl ⟨rfl, rfl⟩ ⟨by decide, by decide⟩ ⟨Nat.le_refl _, Nat.le_refl _⟩ (Nat.le_of_ble_eq_true rfl) rfl h (fun I6 h => ?_)
    refine x_aload_n (pc := 55) dX11_oneLine_55 rfl rfl ?_
    refine x_iload_n (pc := 56) dX11_oneLine_56 rfl rfl ?_
    refine x_iload_n (pc := 57) dX11_oneLine_57 rfl rfl ?_
    refine y_Vi (pc := 58) (i := r_obj) (As := [vi (v1), vi (v2)]) (rest := []) ok_X11_oneTest ml_X11_413 dX11_oneLine_58 (sN_r_obj hS) (sT_r_obj hS) (by decide) rfl rfl rfl ⟨rfl, rfl⟩ ⟨by decide, by decide⟩ ⟨Nat.le_refl _, Nat.le_refl _⟩ (Nat.le_of_ble_eq_true rfl) rfl h (fun r8 I7 h => ?_)
    refine x_if_ne (pc := 61) (t := 66) dX11_oneLine_61 (by decide) (fun e => ?_) (fun e => ?_)
    · have h := h.1 e
      refine x_iconst (pc := 64) dX11_oneLine_64 ?_
      exact y_zret (pc := 65) dX11_oneLine_65 rfl ⟨Nat.le_refl _, Nat.le_refl _⟩ (Or.inl rfl) h
    · have h := h.2 e
      refine x_iinc (pc := 66) (L' := [some (vr G r_obj), some (vi (v1)), some (vi (v2 + 1)), some (vi (v3))]) dX11_oneLine_66 rfl (by decide) (xst1 rfl rfl rfl) ?_
      refine x_aload_n (pc := 69) dX11_oneLine_69 rfl rfl ?_
      refine x_ldc2 (pc := 70) (z := 6385252) dX11_oneLine_70 kl_X11_416 rfl ?_
      refine y_Vi (pc := 73) (i := r_obj) (As := [vl (6385252)]) (rest := []) ok_X11_isWord ml_X11_378 dX11_oneLine_73 (sN_r_obj hS) (sT_r_obj hS) (by decide) rfl rfl rfl ⟨rfl, rfl⟩ ⟨by decide, by decide⟩ ⟨Nat.le_refl _, Nat.le_refl _⟩ (Nat.le_of_ble_eq_true rfl) rfl h (fun r10 I9 h => ?_)
      refine x_istore_n (pc := 76) (L' := [some (vr G r_obj), some (vi (v1)), some (vi (v2 + 1)), some (vi (r10))]) dX11_oneLine_76 rfl (by decide) (xst1 rfl rfl rfl) ?_
      refine x_goto (pc := 77) (t := 47) dX11_oneLine_77 (by decide) ?_
      exact h
set_option maxHeartbeats 4000000 in
set_option maxRecDepth 100000 in
theorem b_R_oneLine_k106 {G : XG} {S : XS}  {I : XI} {v1 : Int} {s0 : Int} {s1 : Int} {R : Int → XI → Prop} (hS : xSh S)  (h : (inb (s1) 17 ∧ (∀ I11 : XI, I11 = up I r_newTests (ix (s1)) (s0) → R_isWord G S I11 (6447474) (fun r13 I12 => ((w32 (r13) = 0 → R_isWord G S I12 (512802253683) (fun r15 I14 => ((w32 (r15) = 0 → R_isWord G S I14 (1668248436) (fun r17 I16 => ((w32 (r17) = 0 → R_oneLine_k155 G S I16 (v1) ((-1)) (v1) R) ∧ (¬ (w32 (r17) = 0) → R_oneLine_k155 G S I16 (v1) (2) (v1) R)))) ∧ (¬ (w32 (r15) = 0) → R_oneLine_k155 G S I14 (v1) (1) (v1) R)))) ∧ (¬ (w32 (r13) = 0) → R_oneLine_k155 G S I12 (v1) (0) (v1) R)))))) : R_oneLine_k106 G S  I v1 s0 s1 R := by
  unfold R_oneLine_k106
  refine y_iast (pc := 106) (i := r_newTests) (n := 17) dX11_oneLine_106 (sN_r_newTests hS) (sT_r_newTests hS) (sL_r_newTests hS) h.1 ?_
  have h := h.2
  have h := h _ rfl
  generalize up I r_newTests (ix (s1)) (s0) = I11 at h ⊢
  refine x_aload_n (pc := 107) dX11_oneLine_107 rfl rfl ?_
  refine x_getR (pc := 108) (i := r_obj) (a := r_newAct) fl_X11_184 dX11_oneLine_108 (sN_r_obj hS) (sT_r_obj hS) rfl (sR_r_obj_69 hS) ?_
  refine x_iload_n (pc := 111) dX11_oneLine_111 rfl rfl ?_
  refine x_aload_n (pc := 112) dX11_oneLine_112 rfl rfl ?_
  refine x_ldc2 (pc := 113) (z := 6447474) dX11_oneLine_113 kl_X11_421 rfl ?_
  refine y_Vi (pc := 116) (i := r_obj) (As := [vl (6447474)]) (rest := [vi (v1), vr G r_newAct]) ok_X11_isWord ml_X11_378 dX11_oneLine_116 (sN_r_obj hS) (sT_r_obj hS) (by decide) rfl rfl rfl ⟨rfl, rfl⟩ ⟨by decide, by decide⟩ ⟨Nat.le_refl _, Nat.le_refl _⟩ (Nat.le_of_ble_eq_true rfl) rfl h (fun r13 I12 h => ?_)
  refine x_if_eq (pc := 119) (t := 126) dX11_oneLine_119 (by decide) (fun e => ?_) (fun e => ?_)
  · have h := h.1 e
    refine x_aload_n (pc := 126) dX11_oneLine_126 rfl rfl ?_
    refine x_ldc2 (pc := 127) (z := 512802253683) dX11_oneLine_127 kl_X11_423 rfl ?_
    refine y_Vi (pc := 130) (i := r_obj) (As := [vl (512802253683)]) (rest := [vi (v1), vr G r_newAct]) ok_X11_isWord ml_X11_378 dX11_oneLine_130 (sN_r_obj hS) (sT_r_obj hS) (by decide) rfl rfl rfl ⟨rfl, rfl⟩ ⟨by decide, by decide⟩ ⟨Nat.le_refl _, Nat.le_refl _⟩ (Nat.le_of_ble_eq_true rfl) rfl h (fun r15 I14 h => ?_)
    refine x_if_eq (pc := 133) (t := 140) dX11_oneLine_133 (by decide) (fun e => ?_) (fun e => ?_)
    · have h := h.1 e
      refine x_aload_n (pc := 140) dX11_oneLine_140 rfl rfl ?_
      refine x_ldc2 (pc := 141) (z := 1668248436) dX11_oneLine_141 kl_X11_425 rfl ?_
      refine y_Vi (pc := 144) (i := r_obj) (As := [vl (1668248436)]) (rest := [vi (v1), vr G r_newAct]) ok_X11_isWord ml_X11_378 dX11_oneLine_144 (sN_r_obj hS) (sT_r_obj hS) (by decide) rfl rfl rfl ⟨rfl, rfl⟩ ⟨by decide, by decide⟩ ⟨Nat.le_refl _, Nat.le_refl _⟩ (Nat.le_of_ble_eq_true rfl) rfl h (fun r17 I16 h => ?_)
      refine x_if_eq (pc := 147) (t := 154) dX11_oneLine_147 (by decide) (fun e => ?_) (fun e => ?_)
      · have h := h.1 e
        refine x_iconst (pc := 154) dX11_oneLine_154 ?_
        exact h
      · have h := h.2 e
        refine x_iconst (pc := 150) dX11_oneLine_150 ?_
        refine x_goto (pc := 151) (t := 155) dX11_oneLine_151 (by decide) ?_
        exact h
    · have h := h.2 e
      refine x_iconst (pc := 136) dX11_oneLine_136 ?_
      refine x_goto (pc := 137) (t := 155) dX11_oneLine_137 (by decide) ?_
      exact h
  · have h := h.2 e
    refine x_iconst (pc := 122) dX11_oneLine_122 ?_
    refine x_goto (pc := 123) (t := 155) dX11_oneLine_123 (by decide) ?_
    exact h
set_option maxHeartbeats 4000000 in
set_option maxRecDepth 100000 in
theorem b_R_oneLine_k155 {G : XG} {S : XS}  {I : XI} {v1 : Int} {s0 : Int} {s1 : Int} {R : Int → XI → Prop} (hS : xSh S)  (h : (inb (s1) 17 ∧ (∀ I18 : XI, I18 = up I r_newAct (ix (s1)) (s0) → (inb (v1) 17 ∧ (∀ I19 : XI, I19 = up I18 r_newNumber (ix (v1)) (0) → (inb (v1) 17 ∧ ((w32 (I19 r_newAct (ix (v1))) = w32 ((-1)) → R_wrong G S I19 (fun r21 I20 => (((r21) = 0 ∨ (r21) = 1) ∧ R (r21) I20))) ∧ (¬ (w32 (I19 r_newAct (ix (v1))) = w32 ((-1))) → R_token G S I19 (fun I22 => (inb (v1) 17 ∧ ((w32 (I22 r_newAct (ix (v1))) = 0 → R_oneLine_k246 G S I22  R) ∧ (¬ (w32 (I22 r_newAct (ix (v1))) = 0) → ((w32 (I22 r_obj 62) = w32 (3) → (inb (v1) 17 ∧ (∀ I23 : XI, I23 = up I22 r_newNumber (ix (v1)) (I22 r_obj 63) → (inb (v1) 17 ∧ ((w32 (I23 r_newAct (ix (v1))) = w32 (1) → R_in G S I23 (I23 r_obj 63) (1) (99) (fun r25 I24 => ((w32 (r25) = 0 → R_later G S I24 (2) (fun I26 => R_token G S I26 (fun I27 => R_oneLine_k246 G S I27  R))) ∧ (¬ (w32 (r25) = 0) → R_token G S I24 (fun I28 => R_oneLine_k246 G S I28  R))))) ∧ (¬ (w32 (I23 r_newAct (ix (v1))) = w32 (1)) → R_token G S I23 (fun I29 => R_oneLine_k246 G S I29  R))))))) ∧ (¬ (w32 (I22 r_obj 62) = w32 (3)) → R_wrong G S I22 (fun r31 I30 => (((r31) = 0 ∨ (r31) = 1) ∧ R (r31) I30)))))))))))))))) : R_oneLine_k155 G S  I v1 s0 s1 R := by
  unfold R_oneLine_k155
  refine y_iast (pc := 155) (i := r_newAct) (n := 17) dX11_oneLine_155 (sN_r_newAct hS) (sT_r_newAct hS) (sL_r_newAct hS) h.1 ?_
  have h := h.2
  have h := h _ rfl
  generalize up I r_newAct (ix (s1)) (s0) = I18 at h ⊢
  refine x_aload_n (pc := 156) dX11_oneLine_156 rfl rfl ?_
  refine x_getR (pc := 157) (i := r_obj) (a := r_newNumber) fl_X11_187 dX11_oneLine_157 (sN_r_obj hS) (sT_r_obj hS) rfl (sR_r_obj_70 hS) ?_
  refine x_iload_n (pc := 160) dX11_oneLine_160 rfl rfl ?_
  refine x_iconst (pc := 161) dX11_oneLine_161 ?_
  refine y_iast (pc := 162) (i := r_newNumber) (n := 17) dX11_oneLine_162 (sN_r_newNumber hS) (sT_r_newNumber hS) (sL_r_newNumber hS) h.1 ?_
  have h := h.2
  have h := h _ rfl
  generalize up I18 r_newNumber (ix (v1)) (0) = I19 at h ⊢
  refine x_aload_n (pc := 163) dX11_oneLine_163 rfl rfl ?_
  refine x_getR (pc := 164) (i := r_obj) (a := r_newAct) fl_X11_184 dX11_oneLine_164 (sN_r_obj hS) (sT_r_obj hS) rfl (sR_r_obj_69 hS) ?_
  refine x_iload_n (pc := 167) dX11_oneLine_167 rfl rfl ?_
  refine y_iald (pc := 168) (i := r_newAct) (n := 17) dX11_oneLine_168 (sN_r_newAct hS) (sT_r_newAct hS) (sL_r_newAct hS) h.1 ?_
  have h := h.2
  refine x_iconst (pc := 169) dX11_oneLine_169 ?_
  refine x_icmp_ne (pc := 170) (t := 178) dX11_oneLine_170 (by decide) (fun e => ?_) (fun e => ?_)
  · have h := h.1 e
    refine x_aload_n (pc := 173) dX11_oneLine_173 rfl rfl ?_
    refine y_Vi (pc := 174) (i := r_obj) (As := []) (rest := []) ok_X11_wrong ml_X11_369 dX11_oneLine_174 (sN_r_obj hS) (sT_r_obj hS) (by decide) rfl rfl rfl ⟨rfl, rfl⟩ ⟨by decide, by decide⟩ ⟨Nat.le_refl _, Nat.le_refl _⟩ (Nat.le_of_ble_eq_true rfl) rfl h (fun r21 I20 h => ?_)
    exact y_zret (pc := 177) dX11_oneLine_177 rfl ⟨Nat.le_refl _, Nat.le_refl _⟩ h.1 h.2
  · have h := h.2 e
    refine x_aload_n (pc := 178) dX11_oneLine_178 rfl rfl ?_
    refine y_Vv (pc := 179) (i := r_obj) (As := []) (rest := []) ok_X11_token ml_X11_373 dX11_oneLine_179 (sN_r_obj hS) (sT_r_obj hS) (by decide) rfl rfl rfl ⟨rfl, rfl⟩ ⟨by decide, by decide⟩ ⟨Nat.le_refl _, Nat.le_refl _⟩ (Nat.le_of_ble_eq_true rfl) rfl h (fun I22 h => ?_)
    refine x_aload_n (pc := 182) dX11_oneLine_182 rfl rfl ?_
    refine x_getR (pc := 183) (i := r_obj) (a := r_newAct) fl_X11_184 dX11_oneLine_183 (sN_r_obj hS) (sT_r_obj hS) rfl (sR_r_obj_69 hS) ?_
    refine x_iload_n (pc := 186) dX11_oneLine_186 rfl rfl ?_
    refine y_iald (pc := 187) (i := r_newAct) (n := 17) dX11_oneLine_187 (sN_r_newAct hS) (sT_r_newAct hS) (sL_r_newAct hS) h.1 ?_
    have h := h.2
    refine x_if_eq (pc := 188) (t := 246) dX11_oneLine_188 (by decide) (fun e => ?_) (fun e => ?_)
    · have h := h.1 e
      refine x_less (L' := [some (vr G r_obj), none, none, none]) (And.intro rfl trivial) ?_
      exact h
    · have h := h.2 e
      refine x_aload_n (pc := 191) dX11_oneLine_191 rfl rfl ?_
      refine x_getI (pc := 192) (i := r_obj) fl_X11_357 dX11_oneLine_192 (sN_r_obj hS) (sT_r_obj hS) rfl ?_
      refine x_iconst (pc := 195) dX11_oneLine_195 ?_
      refine x_icmp_eq (pc := 196) (t := 204) dX11_oneLine_196 (by decide) (fun e => ?_) (fun e => ?_)
      · have h := h.1 e
        refine x_aload_n (pc := 204) dX11_oneLine_204 rfl rfl ?_
        refine x_getR (pc := 205) (i := r_obj) (a := r_newNumber) fl_X11_187 dX11_oneLine_205 (sN_r_obj hS) (sT_r_obj hS) rfl (sR_r_obj_70 hS) ?_
        refine x_iload_n (pc := 208) dX11_oneLine_208 rfl rfl ?_
        refine x_aload_n (pc := 209) dX11_oneLine_209 rfl rfl ?_
        refine x_getI (pc := 210) (i := r_obj) fl_X11_350 dX11_oneLine_210 (sN_r_obj hS) (sT_r_obj hS) rfl ?_
        refine y_iast (pc := 213) (i := r_newNumber) (n := 17) dX11_oneLine_213 (sN_r_newNumber hS) (sT_r_newNumber hS) (sL_r_newNumber hS) h.1 ?_
        have h := h.2
        have h := h _ rfl
        generalize up I22 r_newNumber (ix (v1)) (I22 r_obj 63) = I23 at h ⊢
        refine x_aload_n (pc := 214) dX11_oneLine_214 rfl rfl ?_
        refine x_getR (pc := 215) (i := r_obj) (a := r_newAct) fl_X11_184 dX11_oneLine_215 (sN_r_obj hS) (sT_r_obj hS) rfl (sR_r_obj_69 hS) ?_
        refine x_iload_n (pc := 218) dX11_oneLine_218 rfl rfl ?_
        refine y_iald (pc := 219) (i := r_newAct) (n := 17) dX11_oneLine_219 (sN_r_newAct hS) (sT_r_newAct hS) (sL_r_newAct hS) h.1 ?_
        have h := h.2
        refine x_iconst (pc := 220) dX11_oneLine_220 ?_
        refine x_icmp_ne (pc := 221) (t := 242) dX11_oneLine_221 (by decide) (fun e => ?_) (fun e => ?_)
        · have h := h.1 e
          refine x_aload_n (pc := 224) dX11_oneLine_224 rfl rfl ?_
          refine x_getI (pc := 225) (i := r_obj) fl_X11_350 dX11_oneLine_225 (sN_r_obj hS) (sT_r_obj hS) rfl ?_
          refine x_iconst (pc := 228) dX11_oneLine_228 ?_
          refine x_bipush (pc := 229) dX11_oneLine_229 (by decide) ?_
          refine y_Si (pc := 231) (As := [vi (I23 r_obj 63), vi (1), vi (99)]) (rest := []) ok_X11_in ml_X11_232 dX11_oneLine_231 rfl ⟨rfl, rfl⟩ ⟨by decide, by decide⟩ ⟨Nat.le_refl _, Nat.le_refl _⟩ (Nat.le_of_ble_eq_true rfl) rfl h (fun r25 I24 h => ?_)
          refine x_if_ne (pc := 234) (t := 242) dX11_oneLine_234 (by decide) (fun e => ?_) (fun e => ?_)
          · have h := h.1 e
            refine x_aload_n (pc := 237) dX11_oneLine_237 rfl rfl ?_
            refine x_iconst (pc := 238) dX11_oneLine_238 ?_
            refine y_Vv (pc := 239) (i := r_obj) (As := [vi (2)]) (rest := []) ok_X11_later ml_X11_400 dX11_oneLine_239 (sN_r_obj hS) (sT_r_obj hS) (by decide) rfl rfl rfl ⟨rfl, rfl⟩ ⟨by decide, by decide⟩ ⟨Nat.le_refl _, Nat.le_refl _⟩ (Nat.le_of_ble_eq_true rfl) rfl h (fun I26 h => ?_)
            refine x_aload_n (pc := 242) dX11_oneLine_242 rfl rfl ?_
            refine y_Vv (pc := 243) (i := r_obj) (As := []) (rest := []) ok_X11_token ml_X11_373 dX11_oneLine_243 (sN_r_obj hS) (sT_r_obj hS) (by decide) rfl rfl rfl ⟨rfl, rfl⟩ ⟨by decide, by decide⟩ ⟨Nat.le_refl _, Nat.le_refl _⟩ (Nat.le_of_ble_eq_true rfl) rfl h (fun I27 h => ?_)
            refine x_less (L' := [some (vr G r_obj), none, none, none]) (And.intro rfl trivial) ?_
            exact h
          · have h := h.2 e
            refine x_aload_n (pc := 242) dX11_oneLine_242 rfl rfl ?_
            refine y_Vv (pc := 243) (i := r_obj) (As := []) (rest := []) ok_X11_token ml_X11_373 dX11_oneLine_243 (sN_r_obj hS) (sT_r_obj hS) (by decide) rfl rfl rfl ⟨rfl, rfl⟩ ⟨by decide, by decide⟩ ⟨Nat.le_refl _, Nat.le_refl _⟩ (Nat.le_of_ble_eq_true rfl) rfl h (fun I28 h => ?_)
            refine x_less (L' := [some (vr G r_obj), none, none, none]) (And.intro rfl trivial) ?_
            exact h
        · have h := h.2 e
          refine x_aload_n (pc := 242) dX11_oneLine_242 rfl rfl ?_
          refine y_Vv (pc := 243) (i := r_obj) (As := []) (rest := []) ok_X11_token ml_X11_373 dX11_oneLine_243 (sN_r_obj hS) (sT_r_obj hS) (by decide) rfl rfl rfl ⟨rfl, rfl⟩ ⟨by decide, by decide⟩ ⟨Nat.le_refl _, Nat.le_refl _⟩ (Nat.le_of_ble_eq_true rfl) rfl h (fun I29 h => ?_)
          refine x_less (L' := [some (vr G r_obj), none, none, none]) (And.intro rfl trivial) ?_
          exact h
      · have h := h.2 e
        refine x_aload_n (pc := 199) dX11_oneLine_199 rfl rfl ?_
        refine y_Vi (pc := 200) (i := r_obj) (As := []) (rest := []) ok_X11_wrong ml_X11_369 dX11_oneLine_200 (sN_r_obj hS) (sT_r_obj hS) (by decide) rfl rfl rfl ⟨rfl, rfl⟩ ⟨by decide, by decide⟩ ⟨Nat.le_refl _, Nat.le_refl _⟩ (Nat.le_of_ble_eq_true rfl) rfl h (fun r31 I30 h => ?_)
        exact y_zret (pc := 203) dX11_oneLine_203 rfl ⟨Nat.le_refl _, Nat.le_refl _⟩ h.1 h.2
set_option maxHeartbeats 4000000 in
set_option maxRecDepth 100000 in
theorem b_R_oneLine_k246 {G : XG} {S : XS}  {I : XI}  {R : Int → XI → Prop} (hS : xSh S)  (h : (∀ I32 : XI, I32 = up I r_obj 68 ((I r_obj 68) + (1)) → R_need G S I32 (59) (fun r34 I33 => (((r34) = 0 ∨ (r34) = 1) ∧ R (r34) I33)))) : R_oneLine_k246 G S  I  R := by
  unfold R_oneLine_k246
  refine x_aload_n (pc := 246) dX11_oneLine_246 rfl rfl ?_
  refine x_dup (pc := 247) dX11_oneLine_247 rfl ?_
  refine x_getI (pc := 248) (i := r_obj) fl_X11_408 dX11_oneLine_248 (sN_r_obj hS) (sT_r_obj hS) rfl ?_
  refine x_iconst (pc := 251) dX11_oneLine_251 ?_
  refine x_iadd (pc := 252) dX11_oneLine_252 ?_
  refine x_putI (pc := 253) (i := r_obj) fl_X11_408 dX11_oneLine_253 (sN_r_obj hS) (sT_r_obj hS) rfl ?_
  have h := h _ rfl
  generalize up I r_obj 68 ((I r_obj 68) + (1)) = I32 at h ⊢
  refine x_aload_n (pc := 256) dX11_oneLine_256 rfl rfl ?_
  refine x_bipush (pc := 257) dX11_oneLine_257 (by decide) ?_
  refine y_Vi (pc := 259) (i := r_obj) (As := [vi (59)]) (rest := []) ok_X11_need ml_X11_418 dX11_oneLine_259 (sN_r_obj hS) (sT_r_obj hS) (by decide) rfl rfl rfl ⟨rfl, rfl⟩ ⟨by decide, by decide⟩ ⟨Nat.le_refl _, Nat.le_refl _⟩ (Nat.le_of_ble_eq_true rfl) rfl h (fun r34 I33 h => ?_)
  exact y_zret (pc := 262) dX11_oneLine_262 rfl ⟨Nat.le_refl _, Nat.le_refl _⟩ h.1 h.2
set_option maxHeartbeats 4000000 in
set_option maxRecDepth 100000 in
theorem b_R_oneTest {G : XG} {S : XS} {I : XI} {v1 : Int} {v2 : Int} {R : Int → XI → Prop} (hS : xSh S)  (h : ((w32 (4) ≤ w32 (v2) → ((w32 (v2) = w32 (4) → R_later G S I (3) (fun I1 => R_oneTest_k26 G S I1 (68) R)) ∧ (¬ (w32 (v2) = w32 (4)) → R_oneTest_k26 G S I (68) R))) ∧ (¬ (w32 (4) ≤ w32 (v2)) → ((w32 (v2) = w32 (4) → R_later G S I (3) (fun I2 => R_oneTest_k26 G S I2 (((4) * (v1)) + (v2)) R)) ∧ (¬ (w32 (v2) = w32 (4)) → R_oneTest_k26 G S I (((4) * (v1)) + (v2)) R))))) : R_oneTest G S I v1 v2 R := by
  refine x_start [some (vr G r_obj), some (vi (v1)), some (vi (v2)), none] (by decide) (Nat.le_of_ble_eq_true rfl) rfl ?_
  refine x_iload_n (pc := 0) dX11_oneTest_0 rfl rfl ?_
  refine x_iconst (pc := 1) dX11_oneTest_1 ?_
  refine x_icmp_ge (pc := 2) (t := 13) dX11_oneTest_2 (by decide) (fun e => ?_) (fun e => ?_)
  · have h := h.1 e
    refine x_bipush (pc := 13) dX11_oneTest_13 (by decide) ?_
    refine x_istore_n (pc := 15) (L' := [some (vr G r_obj), some (vi (v1)), some (vi (v2)), some (vi (68))]) dX11_oneTest_15 rfl (by decide) (xst1 rfl rfl rfl) ?_
    refine x_iload_n (pc := 16) dX11_oneTest_16 rfl rfl ?_
    refine x_iconst (pc := 17) dX11_oneTest_17 ?_
    refine x_icmp_ne (pc := 18) (t := 26) dX11_oneTest_18 (by decide) (fun e => ?_) (fun e => ?_)
    · have h := h.1 e
      refine x_aload_n (pc := 21) dX11_oneTest_21 rfl rfl ?_
      refine x_iconst (pc := 22) dX11_oneTest_22 ?_
      refine y_Vv (pc := 23) (i := r_obj) (As := [vi (3)]) (rest := []) ok_X11_later ml_X11_400 dX11_oneTest_23 (sN_r_obj hS) (sT_r_obj hS) (by decide) rfl rfl rfl ⟨rfl, rfl⟩ ⟨by decide, by decide⟩ ⟨Nat.le_refl _, Nat.le_refl _⟩ (Nat.le_of_ble_eq_true rfl) rfl h (fun I1 h => ?_)
      refine x_less (L' := [some (vr G r_obj), none, none, some (vi (68))]) (And.intro rfl (And.intro rfl trivial)) ?_
      exact h
    · have h := h.2 e
      refine x_less (L' := [some (vr G r_obj), none, none, some (vi (68))]) (And.intro rfl (And.intro rfl trivial)) ?_
      exact h
  · have h := h.2 e
    refine x_iconst (pc := 5) dX11_oneTest_5 ?_
    refine x_iload_n (pc := 6) dX11_oneTest_6 rfl rfl ?_
    refine x_imul (pc := 7) dX11_oneTest_7 ?_
    refine x_iload_n (pc := 8) dX11_oneTest_8 rfl rfl ?_
    refine x_iadd (pc := 9) dX11_oneTest_9 ?_
    refine x_goto (pc := 10) (t := 15) dX11_oneTest_10 (by decide) ?_
    refine x_istore_n (pc := 15) (L' := [some (vr G r_obj), some (vi (v1)), some (vi (v2)), some (vi (((4) * (v1)) + (v2)))]) dX11_oneTest_15 rfl (by decide) (xst1 rfl rfl rfl) ?_
    refine x_iload_n (pc := 16) dX11_oneTest_16 rfl rfl ?_
    refine x_iconst (pc := 17) dX11_oneTest_17 ?_
    refine x_icmp_ne (pc := 18) (t := 26) dX11_oneTest_18 (by decide) (fun e => ?_) (fun e => ?_)
    · have h := h.1 e
      refine x_aload_n (pc := 21) dX11_oneTest_21 rfl rfl ?_
      refine x_iconst (pc := 22) dX11_oneTest_22 ?_
      refine y_Vv (pc := 23) (i := r_obj) (As := [vi (3)]) (rest := []) ok_X11_later ml_X11_400 dX11_oneTest_23 (sN_r_obj hS) (sT_r_obj hS) (by decide) rfl rfl rfl ⟨rfl, rfl⟩ ⟨by decide, by decide⟩ ⟨Nat.le_refl _, Nat.le_refl _⟩ (Nat.le_of_ble_eq_true rfl) rfl h (fun I2 h => ?_)
      refine x_less (L' := [some (vr G r_obj), none, none, some (vi (((4) * (v1)) + (v2)))]) (And.intro rfl (And.intro rfl trivial)) ?_
      exact h
    · have h := h.2 e
      refine x_less (L' := [some (vr G r_obj), none, none, some (vi (((4) * (v1)) + (v2)))]) (And.intro rfl (And.intro rfl trivial)) ?_
      exact h
set_option maxHeartbeats 4000000 in
set_option maxRecDepth 100000 in
theorem b_R_oneTest_k26 {G : XG} {S : XS}  {I : XI} {v3 : Int} {R : Int → XI → Prop} (hS : xSh S)  (h : R_isWord G S I (7237492) (fun r4 I3 => (((r4) = 0 ∨ (r4) = 1) ∧ (inb (v3) 69 ∧ (∀ I5 : XI, I5 = up I3 r_newNot (ix (v3)) (r4) → (inb (v3) 69 ∧ ((w32 (I5 r_newNot (ix (v3))) = 0 → R_oneTest_k52 G S I5 (v3) R) ∧ (¬ (w32 (I5 r_newNot (ix (v3))) = 0) → R_token G S I5 (fun I6 => R_oneTest_k52 G S I6 (v3) R))))))))) : R_oneTest_k26 G S  I v3 R := by
  unfold R_oneTest_k26
  refine x_aload_n (pc := 26) dX11_oneTest_26 rfl rfl ?_
  refine x_getR (pc := 27) (i := r_obj) (a := r_newNot) fl_X11_202 dX11_oneTest_27 (sN_r_obj hS) (sT_r_obj hS) rfl (sR_r_obj_75 hS) ?_
  refine x_iload_n (pc := 30) dX11_oneTest_30 rfl rfl ?_
  refine x_aload_n (pc := 31) dX11_oneTest_31 rfl rfl ?_
  refine x_ldc2 (pc := 32) (z := 7237492) dX11_oneTest_32 kl_X11_403 rfl ?_
  refine y_Vi (pc := 35) (i := r_obj) (As := [vl (7237492)]) (rest := [vi (v3), vr G r_newNot]) ok_X11_isWord ml_X11_378 dX11_oneTest_35 (sN_r_obj hS) (sT_r_obj hS) (by decide) rfl rfl rfl ⟨rfl, rfl⟩ ⟨by decide, by decide⟩ ⟨Nat.le_refl _, Nat.le_refl _⟩ (Nat.le_of_ble_eq_true rfl) rfl h (fun r4 I3 h => ?_)
  have hz := h.1
  have h := h.2
  refine y_zast (pc := 38) (i := r_newNot) (n := 69) dX11_oneTest_38 (sN_r_newNot hS) (sT_r_newNot hS) (sL_r_newNot hS) h.1 hz ?_
  have h := h.2
  have h := h _ rfl
  generalize up I3 r_newNot (ix (v3)) (r4) = I5 at h ⊢
  refine x_aload_n (pc := 39) dX11_oneTest_39 rfl rfl ?_
  refine x_getR (pc := 40) (i := r_obj) (a := r_newNot) fl_X11_202 dX11_oneTest_40 (sN_r_obj hS) (sT_r_obj hS) rfl (sR_r_obj_75 hS) ?_
  refine x_iload_n (pc := 43) dX11_oneTest_43 rfl rfl ?_
  refine y_zald (pc := 44) (i := r_newNot) (n := 69) dX11_oneTest_44 (sN_r_newNot hS) (sT_r_newNot hS) (sL_r_newNot hS) h.1 ?_
  have h := h.2
  refine x_if_eq (pc := 45) (t := 52) dX11_oneTest_45 (by decide) (fun e => ?_) (fun e => ?_)
  · have h := h.1 e
    exact h
  · have h := h.2 e
    refine x_aload_n (pc := 48) dX11_oneTest_48 rfl rfl ?_
    refine y_Vv (pc := 49) (i := r_obj) (As := []) (rest := []) ok_X11_token ml_X11_373 dX11_oneTest_49 (sN_r_obj hS) (sT_r_obj hS) (by decide) rfl rfl rfl ⟨rfl, rfl⟩ ⟨by decide, by decide⟩ ⟨Nat.le_refl _, Nat.le_refl _⟩ (Nat.le_of_ble_eq_true rfl) rfl h (fun I6 h => ?_)
    exact h
set_option maxHeartbeats 4000000 in
set_option maxRecDepth 100000 in
theorem b_R_oneTest_k52 {G : XG} {S : XS}  {I : XI} {v3 : Int} {R : Int → XI → Prop} (hS : xSh S)  (h : R_whatIs G S I (fun r8 I7 => (inb (v3) 69 ∧ (∀ I9 : XI, I9 = up I7 r_newWhat (ix (v3)) (r8) → (inb (v3) 69 ∧ (∀ I10 : XI, I10 = up I9 r_newSign (ix (v3)) (61) → (inb (v3) 69 ∧ (∀ I11 : XI, I11 = up I10 r_newThan (ix (v3)) (1) → (inb (v3) 69 ∧ ((w32 (I11 r_newWhat (ix (v3))) = w32 ((-1)) → R_wrong G S I11 (fun r13 I12 => (((r13) = 0 ∨ (r13) = 1) ∧ R (r13) I12))) ∧ (¬ (w32 (I11 r_newWhat (ix (v3))) = w32 ((-1))) → R_token G S I11 (fun I14 => (inb (v3) 69 ∧ ((w32 (7) ≤ w32 (I14 r_newWhat (ix (v3))) → R (1) I14) ∧ (¬ (w32 (7) ≤ w32 (I14 r_newWhat (ix (v3)))) → ((w32 (I14 r_obj 62) = w32 (4) → ((w32 (I14 r_obj 63) = w32 (60) → R_oneTest_k147 G S I14 (v3) R) ∧ (¬ (w32 (I14 r_obj 63) = w32 (60)) → ((w32 (I14 r_obj 63) = w32 (62) → R_oneTest_k147 G S I14 (v3) R) ∧ (¬ (w32 (I14 r_obj 63) = w32 (62)) → ((w32 (I14 r_obj 63) = w32 (61) → R_oneTest_k147 G S I14 (v3) R) ∧ (¬ (w32 (I14 r_obj 63) = w32 (61)) → R_wrong G S I14 (fun r16 I15 => (((r16) = 0 ∨ (r16) = 1) ∧ R (r16) I15))))))))) ∧ (¬ (w32 (I14 r_obj 62) = w32 (4)) → R_wrong G S I14 (fun r18 I17 => (((r18) = 0 ∨ (r18) = 1) ∧ R (r18) I17))))))))))))))))))) : R_oneTest_k52 G S  I v3 R := by
  unfold R_oneTest_k52
  refine x_aload_n (pc := 52) dX11_oneTest_52 rfl rfl ?_
  refine x_getR (pc := 53) (i := r_obj) (a := r_newWhat) fl_X11_193 dX11_oneTest_53 (sN_r_obj hS) (sT_r_obj hS) rfl (sR_r_obj_72 hS) ?_
  refine x_iload_n (pc := 56) dX11_oneTest_56 rfl rfl ?_
  refine x_aload_n (pc := 57) dX11_oneTest_57 rfl rfl ?_
  refine y_Vi (pc := 58) (i := r_obj) (As := []) (rest := [vi (v3), vr G r_newWhat]) ok_X11_whatIs ml_X11_405 dX11_oneTest_58 (sN_r_obj hS) (sT_r_obj hS) (by decide) rfl rfl rfl ⟨rfl, rfl⟩ ⟨by decide, by decide⟩ ⟨Nat.le_refl _, Nat.le_refl _⟩ (Nat.le_of_ble_eq_true rfl) rfl h (fun r8 I7 h => ?_)
  refine y_iast (pc := 61) (i := r_newWhat) (n := 69) dX11_oneTest_61 (sN_r_newWhat hS) (sT_r_newWhat hS) (sL_r_newWhat hS) h.1 ?_
  have h := h.2
  have h := h _ rfl
  generalize up I7 r_newWhat (ix (v3)) (r8) = I9 at h ⊢
  refine x_aload_n (pc := 62) dX11_oneTest_62 rfl rfl ?_
  refine x_getR (pc := 63) (i := r_obj) (a := r_newSign) fl_X11_196 dX11_oneTest_63 (sN_r_obj hS) (sT_r_obj hS) rfl (sR_r_obj_73 hS) ?_
  refine x_iload_n (pc := 66) dX11_oneTest_66 rfl rfl ?_
  refine x_bipush (pc := 67) dX11_oneTest_67 (by decide) ?_
  refine y_iast (pc := 69) (i := r_newSign) (n := 69) dX11_oneTest_69 (sN_r_newSign hS) (sT_r_newSign hS) (sL_r_newSign hS) h.1 ?_
  have h := h.2
  have h := h _ rfl
  generalize up I9 r_newSign (ix (v3)) (61) = I10 at h ⊢
  refine x_aload_n (pc := 70) dX11_oneTest_70 rfl rfl ?_
  refine x_getR (pc := 71) (i := r_obj) (a := r_newThan) fl_X11_199 dX11_oneTest_71 (sN_r_obj hS) (sT_r_obj hS) rfl (sR_r_obj_74 hS) ?_
  refine x_iload_n (pc := 74) dX11_oneTest_74 rfl rfl ?_
  refine x_iconst (pc := 75) dX11_oneTest_75 ?_
  refine y_iast (pc := 76) (i := r_newThan) (n := 69) dX11_oneTest_76 (sN_r_newThan hS) (sT_r_newThan hS) (sL_r_newThan hS) h.1 ?_
  have h := h.2
  have h := h _ rfl
  generalize up I10 r_newThan (ix (v3)) (1) = I11 at h ⊢
  refine x_aload_n (pc := 77) dX11_oneTest_77 rfl rfl ?_
  refine x_getR (pc := 78) (i := r_obj) (a := r_newWhat) fl_X11_193 dX11_oneTest_78 (sN_r_obj hS) (sT_r_obj hS) rfl (sR_r_obj_72 hS) ?_
  refine x_iload_n (pc := 81) dX11_oneTest_81 rfl rfl ?_
  refine y_iald (pc := 82) (i := r_newWhat) (n := 69) dX11_oneTest_82 (sN_r_newWhat hS) (sT_r_newWhat hS) (sL_r_newWhat hS) h.1 ?_
  have h := h.2
  refine x_iconst (pc := 83) dX11_oneTest_83 ?_
  refine x_icmp_ne (pc := 84) (t := 92) dX11_oneTest_84 (by decide) (fun e => ?_) (fun e => ?_)
  · have h := h.1 e
    refine x_aload_n (pc := 87) dX11_oneTest_87 rfl rfl ?_
    refine y_Vi (pc := 88) (i := r_obj) (As := []) (rest := []) ok_X11_wrong ml_X11_369 dX11_oneTest_88 (sN_r_obj hS) (sT_r_obj hS) (by decide) rfl rfl rfl ⟨rfl, rfl⟩ ⟨by decide, by decide⟩ ⟨Nat.le_refl _, Nat.le_refl _⟩ (Nat.le_of_ble_eq_true rfl) rfl h (fun r13 I12 h => ?_)
    exact y_zret (pc := 91) dX11_oneTest_91 rfl ⟨Nat.le_refl _, Nat.le_refl _⟩ h.1 h.2
  · have h := h.2 e
    refine x_aload_n (pc := 92) dX11_oneTest_92 rfl rfl ?_
    refine y_Vv (pc := 93) (i := r_obj) (As := []) (rest := []) ok_X11_token ml_X11_373 dX11_oneTest_93 (sN_r_obj hS) (sT_r_obj hS) (by decide) rfl rfl rfl ⟨rfl, rfl⟩ ⟨by decide, by decide⟩ ⟨Nat.le_refl _, Nat.le_refl _⟩ (Nat.le_of_ble_eq_true rfl) rfl h (fun I14 h => ?_)
    refine x_aload_n (pc := 96) dX11_oneTest_96 rfl rfl ?_
    refine x_getR (pc := 97) (i := r_obj) (a := r_newWhat) fl_X11_193 dX11_oneTest_97 (sN_r_obj hS) (sT_r_obj hS) rfl (sR_r_obj_72 hS) ?_
    refine x_iload_n (pc := 100) dX11_oneTest_100 rfl rfl ?_
    refine y_iald (pc := 101) (i := r_newWhat) (n := 69) dX11_oneTest_101 (sN_r_newWhat hS) (sT_r_newWhat hS) (sL_r_newWhat hS) h.1 ?_
    have h := h.2
    refine x_bipush (pc := 102) dX11_oneTest_102 (by decide) ?_
    refine x_icmp_ge (pc := 104) (t := 188) dX11_oneTest_104 (by decide) (fun e => ?_) (fun e => ?_)
    · have h := h.1 e
      refine x_iconst (pc := 188) dX11_oneTest_188 ?_
      exact y_zret (pc := 189) dX11_oneTest_189 rfl ⟨Nat.le_refl _, Nat.le_refl _⟩ (Or.inr rfl) h
    · have h := h.2 e
      refine x_aload_n (pc := 107) dX11_oneTest_107 rfl rfl ?_
      refine x_getI (pc := 108) (i := r_obj) fl_X11_357 dX11_oneTest_108 (sN_r_obj hS) (sT_r_obj hS) rfl ?_
      refine x_iconst (pc := 111) dX11_oneTest_111 ?_
      refine x_icmp_ne (pc := 112) (t := 142) dX11_oneTest_112 (by decide) (fun e => ?_) (fun e => ?_)
      · have h := h.1 e
        refine x_aload_n (pc := 115) dX11_oneTest_115 rfl rfl ?_
        refine x_getI (pc := 116) (i := r_obj) fl_X11_350 dX11_oneTest_116 (sN_r_obj hS) (sT_r_obj hS) rfl ?_
        refine x_bipush (pc := 119) dX11_oneTest_119 (by decide) ?_
        refine x_icmp_eq (pc := 121) (t := 147) dX11_oneTest_121 (by decide) (fun e => ?_) (fun e => ?_)
        · have h := h.1 e
          exact h
        · have h := h.2 e
          refine x_aload_n (pc := 124) dX11_oneTest_124 rfl rfl ?_
          refine x_getI (pc := 125) (i := r_obj) fl_X11_350 dX11_oneTest_125 (sN_r_obj hS) (sT_r_obj hS) rfl ?_
          refine x_bipush (pc := 128) dX11_oneTest_128 (by decide) ?_
          refine x_icmp_eq (pc := 130) (t := 147) dX11_oneTest_130 (by decide) (fun e => ?_) (fun e => ?_)
          · have h := h.1 e
            exact h
          · have h := h.2 e
            refine x_aload_n (pc := 133) dX11_oneTest_133 rfl rfl ?_
            refine x_getI (pc := 134) (i := r_obj) fl_X11_350 dX11_oneTest_134 (sN_r_obj hS) (sT_r_obj hS) rfl ?_
            refine x_bipush (pc := 137) dX11_oneTest_137 (by decide) ?_
            refine x_icmp_eq (pc := 139) (t := 147) dX11_oneTest_139 (by decide) (fun e => ?_) (fun e => ?_)
            · have h := h.1 e
              exact h
            · have h := h.2 e
              refine x_aload_n (pc := 142) dX11_oneTest_142 rfl rfl ?_
              refine y_Vi (pc := 143) (i := r_obj) (As := []) (rest := []) ok_X11_wrong ml_X11_369 dX11_oneTest_143 (sN_r_obj hS) (sT_r_obj hS) (by decide) rfl rfl rfl ⟨rfl, rfl⟩ ⟨by decide, by decide⟩ ⟨Nat.le_refl _, Nat.le_refl _⟩ (Nat.le_of_ble_eq_true rfl) rfl h (fun r16 I15 h => ?_)
              exact y_zret (pc := 146) dX11_oneTest_146 rfl ⟨Nat.le_refl _, Nat.le_refl _⟩ h.1 h.2
      · have h := h.2 e
        refine x_aload_n (pc := 142) dX11_oneTest_142 rfl rfl ?_
        refine y_Vi (pc := 143) (i := r_obj) (As := []) (rest := []) ok_X11_wrong ml_X11_369 dX11_oneTest_143 (sN_r_obj hS) (sT_r_obj hS) (by decide) rfl rfl rfl ⟨rfl, rfl⟩ ⟨by decide, by decide⟩ ⟨Nat.le_refl _, Nat.le_refl _⟩ (Nat.le_of_ble_eq_true rfl) rfl h (fun r18 I17 h => ?_)
        exact y_zret (pc := 146) dX11_oneTest_146 rfl ⟨Nat.le_refl _, Nat.le_refl _⟩ h.1 h.2
set_option maxHeartbeats 4000000 in
set_option maxRecDepth 100000 in
theorem b_R_oneTest_k147 {G : XG} {S : XS}  {I : XI} {v3 : Int} {R : Int → XI → Prop} (hS : xSh S)  (h : (inb (v3) 69 ∧ (∀ I19 : XI, I19 = up I r_newSign (ix (v3)) (I r_obj 63) → R_token G S I19 (fun I20 => ((w32 (I20 r_obj 62) = w32 (3) → (inb (v3) 69 ∧ (∀ I21 : XI, I21 = up I20 r_newThan (ix (v3)) (I20 r_obj 63) → R_token G S I21 (fun I22 => R (1) I22)))) ∧ (¬ (w32 (I20 r_obj 62) = w32 (3)) → R_wrong G S I20 (fun r24 I23 => (((r24) = 0 ∨ (r24) = 1) ∧ R (r24) I23)))))))) : R_oneTest_k147 G S  I v3 R := by
  unfold R_oneTest_k147
  refine x_aload_n (pc := 147) dX11_oneTest_147 rfl rfl ?_
  refine x_getR (pc := 148) (i := r_obj) (a := r_newSign) fl_X11_196 dX11_oneTest_148 (sN_r_obj hS) (sT_r_obj hS) rfl (sR_r_obj_73 hS) ?_
  refine x_iload_n (pc := 151) dX11_oneTest_151 rfl rfl ?_
  refine x_aload_n (pc := 152) dX11_oneTest_152 rfl rfl ?_
  refine x_getI (pc := 153) (i := r_obj) fl_X11_350 dX11_oneTest_153 (sN_r_obj hS) (sT_r_obj hS) rfl ?_
  refine y_iast (pc := 156) (i := r_newSign) (n := 69) dX11_oneTest_156 (sN_r_newSign hS) (sT_r_newSign hS) (sL_r_newSign hS) h.1 ?_
  have h := h.2
  have h := h _ rfl
  generalize up I r_newSign (ix (v3)) (I r_obj 63) = I19 at h ⊢
  refine x_aload_n (pc := 157) dX11_oneTest_157 rfl rfl ?_
  refine y_Vv (pc := 158) (i := r_obj) (As := []) (rest := []) ok_X11_token ml_X11_373 dX11_oneTest_158 (sN_r_obj hS) (sT_r_obj hS) (by decide) rfl rfl rfl ⟨rfl, rfl⟩ ⟨by decide, by decide⟩ ⟨Nat.le_refl _, Nat.le_refl _⟩ (Nat.le_of_ble_eq_true rfl) rfl h (fun I20 h => ?_)
  refine x_aload_n (pc := 161) dX11_oneTest_161 rfl rfl ?_
  refine x_getI (pc := 162) (i := r_obj) fl_X11_357 dX11_oneTest_162 (sN_r_obj hS) (sT_r_obj hS) rfl ?_
  refine x_iconst (pc := 165) dX11_oneTest_165 ?_
  refine x_icmp_eq (pc := 166) (t := 174) dX11_oneTest_166 (by decide) (fun e => ?_) (fun e => ?_)
  · have h := h.1 e
    refine x_aload_n (pc := 174) dX11_oneTest_174 rfl rfl ?_
    refine x_getR (pc := 175) (i := r_obj) (a := r_newThan) fl_X11_199 dX11_oneTest_175 (sN_r_obj hS) (sT_r_obj hS) rfl (sR_r_obj_74 hS) ?_
    refine x_iload_n (pc := 178) dX11_oneTest_178 rfl rfl ?_
    refine x_aload_n (pc := 179) dX11_oneTest_179 rfl rfl ?_
    refine x_getI (pc := 180) (i := r_obj) fl_X11_350 dX11_oneTest_180 (sN_r_obj hS) (sT_r_obj hS) rfl ?_
    refine y_iast (pc := 183) (i := r_newThan) (n := 69) dX11_oneTest_183 (sN_r_newThan hS) (sT_r_newThan hS) (sL_r_newThan hS) h.1 ?_
    have h := h.2
    have h := h _ rfl
    generalize up I20 r_newThan (ix (v3)) (I20 r_obj 63) = I21 at h ⊢
    refine x_aload_n (pc := 184) dX11_oneTest_184 rfl rfl ?_
    refine y_Vv (pc := 185) (i := r_obj) (As := []) (rest := []) ok_X11_token ml_X11_373 dX11_oneTest_185 (sN_r_obj hS) (sT_r_obj hS) (by decide) rfl rfl rfl ⟨rfl, rfl⟩ ⟨by decide, by decide⟩ ⟨Nat.le_refl _, Nat.le_refl _⟩ (Nat.le_of_ble_eq_true rfl) rfl h (fun I22 h => ?_)
    refine x_iconst (pc := 188) dX11_oneTest_188 ?_
    exact y_zret (pc := 189) dX11_oneTest_189 rfl ⟨Nat.le_refl _, Nat.le_refl _⟩ (Or.inr rfl) h
  · have h := h.2 e
    refine x_aload_n (pc := 169) dX11_oneTest_169 rfl rfl ?_
    refine y_Vi (pc := 170) (i := r_obj) (As := []) (rest := []) ok_X11_wrong ml_X11_369 dX11_oneTest_170 (sN_r_obj hS) (sT_r_obj hS) (by decide) rfl rfl rfl ⟨rfl, rfl⟩ ⟨by decide, by decide⟩ ⟨Nat.le_refl _, Nat.le_refl _⟩ (Nat.le_of_ble_eq_true rfl) rfl h (fun r24 I23 h => ?_)
    exact y_zret (pc := 173) dX11_oneTest_173 rfl ⟨Nat.le_refl _, Nat.le_refl _⟩ h.1 h.2
set_option maxHeartbeats 4000000 in
set_option maxRecDepth 100000 in
theorem b_R_owes {G : XG} {S : XS} {I : XI} {v1 : Int} {v2 : Int} {v3 : Int} {R : Int → XI → Prop} (hS : xSh S)  (h : (∀ I1 : XI, I1 = up I r_obj 0 (0) → R_isCamp G S I1 (v1) (fun r3 I2 => ((w32 (r3) = 0 → R ((-1)) I2) ∧ (¬ (w32 (r3) = 0) → R_isWeek G S I2 (v2) (fun r5 I4 => ((w32 (r5) = 0 → R ((-1)) I4) ∧ (¬ (w32 (r5) = 0) → R_viewWeek G S I4 (fun r7 I6 => ((w32 (v3) = 0 → R_held G S I6 (v1) (v2) (r7) (0) (fun r9 I8 => R (r9) I8)) ∧ (w32 (v3) = 1 → R_held G S I6 (v1) (v2) (r7) (1) (fun r11 I10 => R (r11) I10)) ∧ (w32 (v3) = 2 → R_torn G S I6 ((-1)) (v1) (v2) (r7) (0) (fun r13 I12 => R (r13) I12)) ∧ (w32 (v3) = 3 → R_torn G S I6 ((-1)) (v1) (v2) (r7) (1) (fun r15 I14 => R (r15) I14)) ∧ ((w32 (v3) < 0 ∨ 3 < w32 (v3)) → R ((-1)) I6))))))))))) : R_owes G S I v1 v2 v3 R := by
  refine x_start [some (vr G r_obj), some (vi (v1)), some (vi (v2)), some (vi (v3)), none] (by decide) (Nat.le_of_ble_eq_true rfl) rfl ?_
  refine x_aload_n (pc := 0) dX11_owes_0 rfl rfl ?_
  refine x_iconst (pc := 1) dX11_owes_1 ?_
  refine x_putI (pc := 2) (i := r_obj) fl_X11_220 dX11_owes_2 (sN_r_obj hS) (sT_r_obj hS) rfl ?_
  have h := h _ rfl
  generalize up I r_obj 0 (0) = I1 at h ⊢
  refine x_aload_n (pc := 5) dX11_owes_5 rfl rfl ?_
  refine x_iload_n (pc := 6) dX11_owes_6 rfl rfl ?_
  refine y_Vi (pc := 7) (i := r_obj) (As := [vi (v1)]) (rest := []) ok_X11_isCamp ml_X11_243 dX11_owes_7 (sN_r_obj hS) (sT_r_obj hS) (by decide) rfl rfl rfl ⟨rfl, rfl⟩ ⟨by decide, by decide⟩ ⟨Nat.le_refl _, Nat.le_refl _⟩ (Nat.le_of_ble_eq_true rfl) rfl h (fun r3 I2 h => ?_)
  refine x_if_eq (pc := 10) (t := 20) dX11_owes_10 (by decide) (fun e => ?_) (fun e => ?_)
  · have h := h.1 e
    refine x_iconst (pc := 20) dX11_owes_20 ?_
    exact y_iret (pc := 21) dX11_owes_21 rfl ⟨Nat.le_refl _, Nat.le_refl _⟩ h
  · have h := h.2 e
    refine x_iload_n (pc := 13) dX11_owes_13 rfl rfl ?_
    refine y_Si (pc := 14) (As := [vi (v2)]) (rest := []) ok_X11_isWeek ml_X11_240 dX11_owes_14 rfl ⟨rfl, rfl⟩ ⟨by decide, by decide⟩ ⟨Nat.le_refl _, Nat.le_refl _⟩ (Nat.le_of_ble_eq_true rfl) rfl h (fun r5 I4 h => ?_)
    refine x_if_ne (pc := 17) (t := 22) dX11_owes_17 (by decide) (fun e => ?_) (fun e => ?_)
    · have h := h.1 e
      refine x_iconst (pc := 20) dX11_owes_20 ?_
      exact y_iret (pc := 21) dX11_owes_21 rfl ⟨Nat.le_refl _, Nat.le_refl _⟩ h
    · have h := h.2 e
      refine x_aload_n (pc := 22) dX11_owes_22 rfl rfl ?_
      refine y_Vi (pc := 23) (i := r_obj) (As := []) (rest := []) ok_X11_viewWeek ml_X11_283 dX11_owes_23 (sN_r_obj hS) (sT_r_obj hS) (by decide) rfl rfl rfl ⟨rfl, rfl⟩ ⟨by decide, by decide⟩ ⟨Nat.le_refl _, Nat.le_refl _⟩ (Nat.le_of_ble_eq_true rfl) rfl h (fun r7 I6 h => ?_)
      refine x_istore (pc := 26) (L' := [some (vr G r_obj), some (vi (v1)), some (vi (v2)), some (vi (v3)), some (vi (r7))]) dX11_owes_26 (by decide) (xst1 rfl rfl rfl) ?_
      refine x_iload_n (pc := 28) dX11_owes_28 rfl rfl ?_
      by_cases e0 : w32 (v3) = 0
      · have h := h.1 e0
        refine x_tabIn (pc := 29) (off := 31) (t := 60) dX11_owes_29 0 e0 (by decide) (by decide) rfl (by decide) ?_
        refine x_aload_n (pc := 60) dX11_owes_60 rfl rfl ?_
        refine x_iload_n (pc := 61) dX11_owes_61 rfl rfl ?_
        refine x_iload_n (pc := 62) dX11_owes_62 rfl rfl ?_
        refine x_iload (pc := 63) dX11_owes_63 rfl ?_
        refine x_iconst (pc := 65) dX11_owes_65 ?_
        refine y_Vi (pc := 66) (i := r_obj) (As := [vi (v1), vi (v2), vi (r7), vi (0)]) (rest := []) ok_X11_held ml_X11_306 dX11_owes_66 (sN_r_obj hS) (sT_r_obj hS) (by decide) rfl rfl rfl ⟨rfl, rfl⟩ ⟨by decide, by decide⟩ ⟨Nat.le_refl _, Nat.le_refl _⟩ (Nat.le_of_ble_eq_true rfl) rfl h (fun r9 I8 h => ?_)
        exact y_iret (pc := 69) dX11_owes_69 rfl ⟨Nat.le_refl _, Nat.le_refl _⟩ h
      by_cases e1 : w32 (v3) = 1
      · have h := h.2.1 e1
        refine x_tabIn (pc := 29) (off := 41) (t := 70) dX11_owes_29 1 e1 (by decide) (by decide) rfl (by decide) ?_
        refine x_aload_n (pc := 70) dX11_owes_70 rfl rfl ?_
        refine x_iload_n (pc := 71) dX11_owes_71 rfl rfl ?_
        refine x_iload_n (pc := 72) dX11_owes_72 rfl rfl ?_
        refine x_iload (pc := 73) dX11_owes_73 rfl ?_
        refine x_iconst (pc := 75) dX11_owes_75 ?_
        refine y_Vi (pc := 76) (i := r_obj) (As := [vi (v1), vi (v2), vi (r7), vi (1)]) (rest := []) ok_X11_held ml_X11_306 dX11_owes_76 (sN_r_obj hS) (sT_r_obj hS) (by decide) rfl rfl rfl ⟨rfl, rfl⟩ ⟨by decide, by decide⟩ ⟨Nat.le_refl _, Nat.le_refl _⟩ (Nat.le_of_ble_eq_true rfl) rfl h (fun r11 I10 h => ?_)
        exact y_iret (pc := 79) dX11_owes_79 rfl ⟨Nat.le_refl _, Nat.le_refl _⟩ h
      by_cases e2 : w32 (v3) = 2
      · have h := h.2.2.1 e2
        refine x_tabIn (pc := 29) (off := 51) (t := 80) dX11_owes_29 2 e2 (by decide) (by decide) rfl (by decide) ?_
        refine x_aload_n (pc := 80) dX11_owes_80 rfl rfl ?_
        refine x_iconst (pc := 81) dX11_owes_81 ?_
        refine x_iload_n (pc := 82) dX11_owes_82 rfl rfl ?_
        refine x_iload_n (pc := 83) dX11_owes_83 rfl rfl ?_
        refine x_iload (pc := 84) dX11_owes_84 rfl ?_
        refine x_iconst (pc := 86) dX11_owes_86 ?_
        refine y_Vi (pc := 87) (i := r_obj) (As := [vi ((-1)), vi (v1), vi (v2), vi (r7), vi (0)]) (rest := []) ok_X11_torn ml_X11_309 dX11_owes_87 (sN_r_obj hS) (sT_r_obj hS) (by decide) rfl rfl rfl ⟨rfl, rfl⟩ ⟨by decide, by decide⟩ ⟨Nat.le_refl _, Nat.le_refl _⟩ (Nat.le_of_ble_eq_true rfl) rfl h (fun r13 I12 h => ?_)
        exact y_iret (pc := 90) dX11_owes_90 rfl ⟨Nat.le_refl _, Nat.le_refl _⟩ h
      by_cases e3 : w32 (v3) = 3
      · have h := h.2.2.2.1 e3
        refine x_tabIn (pc := 29) (off := 62) (t := 91) dX11_owes_29 3 e3 (by decide) (by decide) rfl (by decide) ?_
        refine x_aload_n (pc := 91) dX11_owes_91 rfl rfl ?_
        refine x_iconst (pc := 92) dX11_owes_92 ?_
        refine x_iload_n (pc := 93) dX11_owes_93 rfl rfl ?_
        refine x_iload_n (pc := 94) dX11_owes_94 rfl rfl ?_
        refine x_iload (pc := 95) dX11_owes_95 rfl ?_
        refine x_iconst (pc := 97) dX11_owes_97 ?_
        refine y_Vi (pc := 98) (i := r_obj) (As := [vi ((-1)), vi (v1), vi (v2), vi (r7), vi (1)]) (rest := []) ok_X11_torn ml_X11_309 dX11_owes_98 (sN_r_obj hS) (sT_r_obj hS) (by decide) rfl rfl rfl ⟨rfl, rfl⟩ ⟨by decide, by decide⟩ ⟨Nat.le_refl _, Nat.le_refl _⟩ (Nat.le_of_ble_eq_true rfl) rfl h (fun r15 I14 h => ?_)
        exact y_iret (pc := 101) dX11_owes_101 rfl ⟨Nat.le_refl _, Nat.le_refl _⟩ h
      have hd9 : w32 (v3) < 0 ∨ 3 < w32 (v3) := by omega
      have h := h.2.2.2.2 hd9
      refine x_tabOut (pc := 29) (t := 102) dX11_owes_29 hd9 (by decide) ?_
      refine x_iconst (pc := 102) dX11_owes_102 ?_
      exact y_iret (pc := 103) dX11_owes_103 rfl ⟨Nat.le_refl _, Nat.le_refl _⟩ h
set_option maxHeartbeats 4000000 in
set_option maxRecDepth 100000 in
theorem b_R_parts {G : XG} {S : XS} {I : XI} {v1 : Int} {v2 : Int} {v3 : Int} {R : Int → XI → Prop} (hS : xSh S)  (h : (∀ I1 : XI, I1 = up I r_obj 0 (0) → R_isThere G S I1 (v1) (v3) (fun r3 I2 => ((w32 (r3) = 0 → R ((-1)) I2) ∧ (¬ (w32 (r3) = 0) → R_isCell G S I2 (v2) (fun r5 I4 => ((w32 (r5) = 0 → R ((-1)) I4) ∧ (¬ (w32 (r5) = 0) → R_viewWeek G S I4 (fun r7 I6 => R_findParts G S I6 (v1) (v3) (r7) (fun I8 => (inb (v2) 10 ∧ R (I8 r_parts (ix (v2))) I8))))))))))) : R_parts G S I v1 v2 v3 R := by
  refine x_start [some (vr G r_obj), some (vi (v1)), some (vi (v2)), some (vi (v3))] (by decide) (Nat.le_of_ble_eq_true rfl) rfl ?_
  refine x_aload_n (pc := 0) dX11_parts_0 rfl rfl ?_
  refine x_iconst (pc := 1) dX11_parts_1 ?_
  refine x_putI (pc := 2) (i := r_obj) fl_X11_220 dX11_parts_2 (sN_r_obj hS) (sT_r_obj hS) rfl ?_
  have h := h _ rfl
  generalize up I r_obj 0 (0) = I1 at h ⊢
  refine x_aload_n (pc := 5) dX11_parts_5 rfl rfl ?_
  refine x_iload_n (pc := 6) dX11_parts_6 rfl rfl ?_
  refine x_iload_n (pc := 7) dX11_parts_7 rfl rfl ?_
  refine y_Vi (pc := 8) (i := r_obj) (As := [vi (v1), vi (v3)]) (rest := []) ok_X11_isThere ml_X11_279 dX11_parts_8 (sN_r_obj hS) (sT_r_obj hS) (by decide) rfl rfl rfl ⟨rfl, rfl⟩ ⟨by decide, by decide⟩ ⟨Nat.le_refl _, Nat.le_refl _⟩ (Nat.le_of_ble_eq_true rfl) rfl h (fun r3 I2 h => ?_)
  refine x_if_eq (pc := 11) (t := 22) dX11_parts_11 (by decide) (fun e => ?_) (fun e => ?_)
  · have h := h.1 e
    refine x_iconst (pc := 22) dX11_parts_22 ?_
    exact y_iret (pc := 23) dX11_parts_23 rfl ⟨Nat.le_refl _, Nat.le_refl _⟩ h
  · have h := h.2 e
    refine x_aload_n (pc := 14) dX11_parts_14 rfl rfl ?_
    refine x_iload_n (pc := 15) dX11_parts_15 rfl rfl ?_
    refine y_Vi (pc := 16) (i := r_obj) (As := [vi (v2)]) (rest := []) ok_X11_isCell ml_X11_236 dX11_parts_16 (sN_r_obj hS) (sT_r_obj hS) (by decide) rfl rfl rfl ⟨rfl, rfl⟩ ⟨by decide, by decide⟩ ⟨Nat.le_refl _, Nat.le_refl _⟩ (Nat.le_of_ble_eq_true rfl) rfl h (fun r5 I4 h => ?_)
    refine x_if_ne (pc := 19) (t := 24) dX11_parts_19 (by decide) (fun e => ?_) (fun e => ?_)
    · have h := h.1 e
      refine x_iconst (pc := 22) dX11_parts_22 ?_
      exact y_iret (pc := 23) dX11_parts_23 rfl ⟨Nat.le_refl _, Nat.le_refl _⟩ h
    · have h := h.2 e
      refine x_aload_n (pc := 24) dX11_parts_24 rfl rfl ?_
      refine x_iload_n (pc := 25) dX11_parts_25 rfl rfl ?_
      refine x_iload_n (pc := 26) dX11_parts_26 rfl rfl ?_
      refine x_aload_n (pc := 27) dX11_parts_27 rfl rfl ?_
      refine y_Vi (pc := 28) (i := r_obj) (As := []) (rest := [vi (v3), vi (v1), vr G r_obj]) ok_X11_viewWeek ml_X11_283 dX11_parts_28 (sN_r_obj hS) (sT_r_obj hS) (by decide) rfl rfl rfl ⟨rfl, rfl⟩ ⟨by decide, by decide⟩ ⟨Nat.le_refl _, Nat.le_refl _⟩ (Nat.le_of_ble_eq_true rfl) rfl h (fun r7 I6 h => ?_)
      refine y_Vv (pc := 31) (i := r_obj) (As := [vi (v1), vi (v3), vi (r7)]) (rest := []) ok_X11_findParts ml_X11_287 dX11_parts_31 (sN_r_obj hS) (sT_r_obj hS) (by decide) rfl rfl rfl ⟨rfl, rfl⟩ ⟨by decide, by decide⟩ ⟨Nat.le_refl _, Nat.le_refl _⟩ (Nat.le_of_ble_eq_true rfl) rfl h (fun I8 h => ?_)
      refine x_aload_n (pc := 34) dX11_parts_34 rfl rfl ?_
      refine x_getR (pc := 35) (i := r_obj) (a := r_parts) fl_X11_165 dX11_parts_35 (sN_r_obj hS) (sT_r_obj hS) rfl (sR_r_obj_52 hS) ?_
      refine x_iload_n (pc := 38) dX11_parts_38 rfl rfl ?_
      refine y_iald (pc := 39) (i := r_parts) (n := 10) dX11_parts_39 (sN_r_parts hS) (sT_r_parts hS) (sL_r_parts hS) h.1 ?_
      have h := h.2
      exact y_iret (pc := 40) dX11_parts_40 rfl ⟨Nat.le_refl _, Nat.le_refl _⟩ h
set_option maxHeartbeats 4000000 in
set_option maxRecDepth 100000 in
theorem b_R_pass {G : XG} {S : XS} {I : XI} {v1 : Int} {v2 : Int} {v3 : Int} {R : Int → XI → Prop} (hS : xSh S)  (h : (∀ I1 : XI, I1 = up I r_obj 0 (0) → ((w32 (I1 r_acts 0) = w32 (150) → R ((-1)) I1) ∧ (¬ (w32 (I1 r_acts 0) = w32 (150)) → R_isBook G S I1 (v1) (fun r3 I2 => ((w32 (r3) = 0 → R ((-1)) I2) ∧ (¬ (w32 (r3) = 0) → R_isCamp G S I2 (v2) (fun r5 I4 => ((w32 (r5) = 0 → R ((-1)) I4) ∧ (¬ (w32 (r5) = 0) → R_in G S I4 (v3) (0) (I4 r_now 0) (fun r7 I6 => ((w32 (r7) = 0 → R ((-1)) I6) ∧ (¬ (w32 (r7) = 0) → R_whoHas G S I6 (v1) (v3) (I6 r_now 0) (fun r9 I8 => ((w32 (r9) = w32 ((-1)) → R ((-1)) I8) ∧ (¬ (w32 (r9) = w32 ((-1))) → ((w32 (r9) = w32 (v2) → R ((-1)) I8) ∧ (¬ (w32 (r9) = w32 (v2)) → R_tellAct G S I8 (v1) (1) (v2) (v3) (0) (0) (fun r11 I10 => R (r11) I10))))))))))))))))))) : R_pass G S I v1 v2 v3 R := by
  refine x_start [some (vr G r_obj), some (vi (v1)), some (vi (v2)), some (vi (v3)), none] (by decide) (Nat.le_of_ble_eq_true rfl) rfl ?_
  refine x_aload_n (pc := 0) dX11_pass_0 rfl rfl ?_
  refine x_iconst (pc := 1) dX11_pass_1 ?_
  refine x_putI (pc := 2) (i := r_obj) fl_X11_220 dX11_pass_2 (sN_r_obj hS) (sT_r_obj hS) rfl ?_
  have h := h _ rfl
  generalize up I r_obj 0 (0) = I1 at h ⊢
  refine x_aload_n (pc := 5) dX11_pass_5 rfl rfl ?_
  refine x_getR (pc := 6) (i := r_obj) (a := r_acts) fl_X11_105 dX11_pass_6 (sN_r_obj hS) (sT_r_obj hS) rfl (sR_r_obj_32 hS) ?_
  refine x_iconst (pc := 9) dX11_pass_9 ?_
  refine y_iald (pc := 10) (i := r_acts) (n := 4) dX11_pass_10 (sN_r_acts hS) (sT_r_acts hS) (sL_r_acts hS) (inb_nat (k := 0) (by decide) (by decide)) ?_
  rw [show ix 0 = 0 from rfl]
  refine x_sipush (pc := 11) dX11_pass_11 (by decide) ?_
  refine x_icmp_eq (pc := 14) (t := 47) dX11_pass_14 (by decide) (fun e => ?_) (fun e => ?_)
  · have h := h.1 e
    refine x_iconst (pc := 47) dX11_pass_47 ?_
    exact y_iret (pc := 48) dX11_pass_48 rfl ⟨Nat.le_refl _, Nat.le_refl _⟩ h
  · have h := h.2 e
    refine x_aload_n (pc := 17) dX11_pass_17 rfl rfl ?_
    refine x_iload_n (pc := 18) dX11_pass_18 rfl rfl ?_
    refine y_Vi (pc := 19) (i := r_obj) (As := [vi (v1)]) (rest := []) ok_X11_isBook ml_X11_317 dX11_pass_19 (sN_r_obj hS) (sT_r_obj hS) (by decide) rfl rfl rfl ⟨rfl, rfl⟩ ⟨by decide, by decide⟩ ⟨Nat.le_refl _, Nat.le_refl _⟩ (Nat.le_of_ble_eq_true rfl) rfl h (fun r3 I2 h => ?_)
    refine x_if_eq (pc := 22) (t := 47) dX11_pass_22 (by decide) (fun e => ?_) (fun e => ?_)
    · have h := h.1 e
      refine x_iconst (pc := 47) dX11_pass_47 ?_
      exact y_iret (pc := 48) dX11_pass_48 rfl ⟨Nat.le_refl _, Nat.le_refl _⟩ h
    · have h := h.2 e
      refine x_aload_n (pc := 25) dX11_pass_25 rfl rfl ?_
      refine x_iload_n (pc := 26) dX11_pass_26 rfl rfl ?_
      refine y_Vi (pc := 27) (i := r_obj) (As := [vi (v2)]) (rest := []) ok_X11_isCamp ml_X11_243 dX11_pass_27 (sN_r_obj hS) (sT_r_obj hS) (by decide) rfl rfl rfl ⟨rfl, rfl⟩ ⟨by decide, by decide⟩ ⟨Nat.le_refl _, Nat.le_refl _⟩ (Nat.le_of_ble_eq_true rfl) rfl h (fun r5 I4 h => ?_)
      refine x_if_eq (pc := 30) (t := 47) dX11_pass_30 (by decide) (fun e => ?_) (fun e => ?_)
      · have h := h.1 e
        refine x_iconst (pc := 47) dX11_pass_47 ?_
        exact y_iret (pc := 48) dX11_pass_48 rfl ⟨Nat.le_refl _, Nat.le_refl _⟩ h
      · have h := h.2 e
        refine x_iload_n (pc := 33) dX11_pass_33 rfl rfl ?_
        refine x_iconst (pc := 34) dX11_pass_34 ?_
        refine x_aload_n (pc := 35) dX11_pass_35 rfl rfl ?_
        refine x_getR (pc := 36) (i := r_obj) (a := r_now) fl_X11_23 dX11_pass_36 (sN_r_obj hS) (sT_r_obj hS) rfl (sR_r_obj_5 hS) ?_
        refine x_iconst (pc := 39) dX11_pass_39 ?_
        refine y_iald (pc := 40) (i := r_now) (n := 4) dX11_pass_40 (sN_r_now hS) (sT_r_now hS) (sL_r_now hS) (inb_nat (k := 0) (by decide) (by decide)) ?_
        rw [show ix 0 = 0 from rfl]
        refine y_Si (pc := 41) (As := [vi (v3), vi (0), vi (I4 r_now 0)]) (rest := []) ok_X11_in ml_X11_232 dX11_pass_41 rfl ⟨rfl, rfl⟩ ⟨by decide, by decide⟩ ⟨Nat.le_refl _, Nat.le_refl _⟩ (Nat.le_of_ble_eq_true rfl) rfl h (fun r7 I6 h => ?_)
        refine x_if_ne (pc := 44) (t := 49) dX11_pass_44 (by decide) (fun e => ?_) (fun e => ?_)
        · have h := h.1 e
          refine x_iconst (pc := 47) dX11_pass_47 ?_
          exact y_iret (pc := 48) dX11_pass_48 rfl ⟨Nat.le_refl _, Nat.le_refl _⟩ h
        · have h := h.2 e
          refine x_aload_n (pc := 49) dX11_pass_49 rfl rfl ?_
          refine x_iload_n (pc := 50) dX11_pass_50 rfl rfl ?_
          refine x_iload_n (pc := 51) dX11_pass_51 rfl rfl ?_
          refine x_aload_n (pc := 52) dX11_pass_52 rfl rfl ?_
          refine x_getR (pc := 53) (i := r_obj) (a := r_now) fl_X11_23 dX11_pass_53 (sN_r_obj hS) (sT_r_obj hS) rfl (sR_r_obj_5 hS) ?_
          refine x_iconst (pc := 56) dX11_pass_56 ?_
          refine y_iald (pc := 57) (i := r_now) (n := 4) dX11_pass_57 (sN_r_now hS) (sT_r_now hS) (sL_r_now hS) (inb_nat (k := 0) (by decide) (by decide)) ?_
          rw [show ix 0 = 0 from rfl]
          refine y_Vi (pc := 58) (i := r_obj) (As := [vi (v1), vi (v3), vi (I6 r_now 0)]) (rest := []) ok_X11_whoHas ml_X11_297 dX11_pass_58 (sN_r_obj hS) (sT_r_obj hS) (by decide) rfl rfl rfl ⟨rfl, rfl⟩ ⟨by decide, by decide⟩ ⟨Nat.le_refl _, Nat.le_refl _⟩ (Nat.le_of_ble_eq_true rfl) rfl h (fun r9 I8 h => ?_)
          refine x_istore (pc := 61) (L' := [some (vr G r_obj), some (vi (v1)), some (vi (v2)), some (vi (v3)), some (vi (r9))]) dX11_pass_61 (by decide) (xst1 rfl rfl rfl) ?_
          refine x_iload (pc := 63) dX11_pass_63 rfl ?_
          refine x_iconst (pc := 65) dX11_pass_65 ?_
          refine x_icmp_eq (pc := 66) (t := 75) dX11_pass_66 (by decide) (fun e => ?_) (fun e => ?_)
          · have h := h.1 e
            refine x_iconst (pc := 75) dX11_pass_75 ?_
            exact y_iret (pc := 76) dX11_pass_76 rfl ⟨Nat.le_refl _, Nat.le_refl _⟩ h
          · have h := h.2 e
            refine x_iload (pc := 69) dX11_pass_69 rfl ?_
            refine x_iload_n (pc := 71) dX11_pass_71 rfl rfl ?_
            refine x_icmp_ne (pc := 72) (t := 77) dX11_pass_72 (by decide) (fun e => ?_) (fun e => ?_)
            · have h := h.1 e
              refine x_iconst (pc := 75) dX11_pass_75 ?_
              exact y_iret (pc := 76) dX11_pass_76 rfl ⟨Nat.le_refl _, Nat.le_refl _⟩ h
            · have h := h.2 e
              refine x_aload_n (pc := 77) dX11_pass_77 rfl rfl ?_
              refine x_iload_n (pc := 78) dX11_pass_78 rfl rfl ?_
              refine x_iconst (pc := 79) dX11_pass_79 ?_
              refine x_iload_n (pc := 80) dX11_pass_80 rfl rfl ?_
              refine x_iload_n (pc := 81) dX11_pass_81 rfl rfl ?_
              refine x_iconst (pc := 82) dX11_pass_82 ?_
              refine x_iconst (pc := 83) dX11_pass_83 ?_
              refine y_Vi (pc := 84) (i := r_obj) (As := [vi (v1), vi (1), vi (v2), vi (v3), vi (0), vi (0)]) (rest := []) ok_X11_tellAct ml_X11_328 dX11_pass_84 (sN_r_obj hS) (sT_r_obj hS) (by decide) rfl rfl rfl ⟨rfl, rfl⟩ ⟨by decide, by decide⟩ ⟨Nat.le_refl _, Nat.le_refl _⟩ (Nat.le_of_ble_eq_true rfl) rfl h (fun r11 I10 h => ?_)
              exact y_iret (pc := 87) dX11_pass_87 rfl ⟨Nat.le_refl _, Nat.le_refl _⟩ h
set_option maxHeartbeats 4000000 in
set_option maxRecDepth 100000 in
theorem b_R_quarrel {G : XG} {S : XS} {I : XI} {v1 : Int} {v2 : Int} {R : Int → XI → Prop} (hS : xSh S)  (h : (∀ I1 : XI, I1 = up I r_obj 0 (0) → R_isCamp G S I1 (v1) (fun r3 I2 => ((w32 (r3) = 0 → R ((-1)) I2) ∧ (¬ (w32 (r3) = 0) → R_viewWeek G S I2 (fun r5 I4 => R_findParts G S I4 (v1) (99) (r5) (fun I6 => R_in G S I6 (v2) (0) ((I6 r_obj 56) - (1)) (fun r8 I7 => ((w32 (r8) = 0 → R ((-1)) I7) ∧ (¬ (w32 (r8) = 0) → (inb (v2) 60 ∧ R (I7 r_quarrel (ix (v2))) I7))))))))))) : R_quarrel G S I v1 v2 R := by
  refine x_start [some (vr G r_obj), some (vi (v1)), some (vi (v2))] (by decide) (Nat.le_of_ble_eq_true rfl) rfl ?_
  refine x_aload_n (pc := 0) dX11_quarrel_0 rfl rfl ?_
  refine x_iconst (pc := 1) dX11_quarrel_1 ?_
  refine x_putI (pc := 2) (i := r_obj) fl_X11_220 dX11_quarrel_2 (sN_r_obj hS) (sT_r_obj hS) rfl ?_
  have h := h _ rfl
  generalize up I r_obj 0 (0) = I1 at h ⊢
  refine x_aload_n (pc := 5) dX11_quarrel_5 rfl rfl ?_
  refine x_iload_n (pc := 6) dX11_quarrel_6 rfl rfl ?_
  refine y_Vi (pc := 7) (i := r_obj) (As := [vi (v1)]) (rest := []) ok_X11_isCamp ml_X11_243 dX11_quarrel_7 (sN_r_obj hS) (sT_r_obj hS) (by decide) rfl rfl rfl ⟨rfl, rfl⟩ ⟨by decide, by decide⟩ ⟨Nat.le_refl _, Nat.le_refl _⟩ (Nat.le_of_ble_eq_true rfl) rfl h (fun r3 I2 h => ?_)
  refine x_if_ne (pc := 10) (t := 15) dX11_quarrel_10 (by decide) (fun e => ?_) (fun e => ?_)
  · have h := h.1 e
    refine x_iconst (pc := 13) dX11_quarrel_13 ?_
    exact y_iret (pc := 14) dX11_quarrel_14 rfl ⟨Nat.le_refl _, Nat.le_refl _⟩ h
  · have h := h.2 e
    refine x_aload_n (pc := 15) dX11_quarrel_15 rfl rfl ?_
    refine x_iload_n (pc := 16) dX11_quarrel_16 rfl rfl ?_
    refine x_bipush (pc := 17) dX11_quarrel_17 (by decide) ?_
    refine x_aload_n (pc := 19) dX11_quarrel_19 rfl rfl ?_
    refine y_Vi (pc := 20) (i := r_obj) (As := []) (rest := [vi (99), vi (v1), vr G r_obj]) ok_X11_viewWeek ml_X11_283 dX11_quarrel_20 (sN_r_obj hS) (sT_r_obj hS) (by decide) rfl rfl rfl ⟨rfl, rfl⟩ ⟨by decide, by decide⟩ ⟨Nat.le_refl _, Nat.le_refl _⟩ (Nat.le_of_ble_eq_true rfl) rfl h (fun r5 I4 h => ?_)
    refine y_Vv (pc := 23) (i := r_obj) (As := [vi (v1), vi (99), vi (r5)]) (rest := []) ok_X11_findParts ml_X11_287 dX11_quarrel_23 (sN_r_obj hS) (sT_r_obj hS) (by decide) rfl rfl rfl ⟨rfl, rfl⟩ ⟨by decide, by decide⟩ ⟨Nat.le_refl _, Nat.le_refl _⟩ (Nat.le_of_ble_eq_true rfl) rfl h (fun I6 h => ?_)
    refine x_iload_n (pc := 26) dX11_quarrel_26 rfl rfl ?_
    refine x_iconst (pc := 27) dX11_quarrel_27 ?_
    refine x_aload_n (pc := 28) dX11_quarrel_28 rfl rfl ?_
    refine x_getI (pc := 29) (i := r_obj) fl_X11_257 dX11_quarrel_29 (sN_r_obj hS) (sT_r_obj hS) rfl ?_
    refine x_iconst (pc := 32) dX11_quarrel_32 ?_
    refine x_isub (pc := 33) dX11_quarrel_33 ?_
    refine y_Si (pc := 34) (As := [vi (v2), vi (0), vi ((I6 r_obj 56) - (1))]) (rest := []) ok_X11_in ml_X11_232 dX11_quarrel_34 rfl ⟨rfl, rfl⟩ ⟨by decide, by decide⟩ ⟨Nat.le_refl _, Nat.le_refl _⟩ (Nat.le_of_ble_eq_true rfl) rfl h (fun r8 I7 h => ?_)
    refine x_if_eq (pc := 37) (t := 49) dX11_quarrel_37 (by decide) (fun e => ?_) (fun e => ?_)
    · have h := h.1 e
      refine x_iconst (pc := 49) dX11_quarrel_49 ?_
      exact y_iret (pc := 50) dX11_quarrel_50 rfl ⟨Nat.le_refl _, Nat.le_refl _⟩ h
    · have h := h.2 e
      refine x_aload_n (pc := 40) dX11_quarrel_40 rfl rfl ?_
      refine x_getR (pc := 41) (i := r_obj) (a := r_quarrel) fl_X11_178 dX11_quarrel_41 (sN_r_obj hS) (sT_r_obj hS) rfl (sR_r_obj_57 hS) ?_
      refine x_iload_n (pc := 44) dX11_quarrel_44 rfl rfl ?_
      refine y_iald (pc := 45) (i := r_quarrel) (n := 60) dX11_quarrel_45 (sN_r_quarrel hS) (sT_r_quarrel hS) (sL_r_quarrel hS) h.1 ?_
      have h := h.2
      refine x_goto (pc := 46) (t := 50) dX11_quarrel_46 (by decide) ?_
      exact y_iret (pc := 50) dX11_quarrel_50 rfl ⟨Nat.le_refl _, Nat.le_refl _⟩ h
