/-! ===== printed by wip/gen36.py: a Told at any place, copied from another ===== -/
def ToldAt (S : XS) (t : Nat) : Prop := t + 43 ≤ S.1 ∧ (∀ d, d < 43 → S.2.1 (t + d) = xTL (1 + d)) ∧ ∀ d, d < 43 → ∀ j o, xRF (1 + d) j = o + 2 → S.2.2 (t + d) j = t + o + 1
theorem tN {S : XS} {t d : Nat} (h : ToldAt S t) (hd : d < 43) : t + d < S.1 := by have := h.1; omega
theorem tT {S : XS} {t k : Nat} (h : ToldAt S t) (d : Nat) (hd : d < 43) (hk : (xTL (1 + d)).1 = k) : xtag S (t + d) = k := by show (S.2.1 (t + d)).1 = k; rw [h.2.1 d hd]; exact hk
theorem tL {S : XS} {t k : Nat} (h : ToldAt S t) (d : Nat) (hd : d < 43) (hk : (xTL (1 + d)).2 = k) : xlen S (t + d) = k := by show (S.2.1 (t + d)).2 = k; rw [h.2.1 d hd]; exact hk
theorem tR {S : XS} {t : Nat} (h : ToldAt S t) (d j o : Nat) (hd : d < 43) (hk : xRF (1 + d) j = o + 2) (ho : o < 43) : xref S (t + d) j = t + o + 1 := h.2.2 d hd j o hk
theorem told_main {S : XS} (h : xSh S) : ToldAt S c_told := by
  refine ⟨by have := h.1; show 1 + 43 ≤ S.1; omega, fun d hd => h.2.1 _ (by show 1 + d < 147; omega), fun d hd j o hx => ?_⟩
  rw [show c_told + d = 1 + d from rfl, h.2.2 (1 + d) (by omega) (by show 1 + d ≠ 44; omega) j, hx]
  show o + 2 = 1 + o + 1
  omega
def Tc_land (G : XG) (S : XS) (I : XI) (v0 v1 : Nat) (R : XI → Prop) : Prop := Mw G mX2_copyFrom [vr G (v0 + 1), vr G (v1 + 1)] S I (qv S R)
def Tc_herds (G : XG) (S : XS) (I : XI) (v0 v1 : Nat) (R : XI → Prop) : Prop := Mw G mX1_copyFrom [vr G (v0 + 8), vr G (v1 + 8)] S I (qv S R)
def Tc_shelf (G : XG) (S : XS) (I : XI) (v0 v1 : Nat) (R : XI → Prop) : Prop := Mw G mX6_copyFrom [vr G (v0 + 18), vr G (v1 + 18)] S I (qv S R)
def Tc_rules (G : XG) (S : XS) (I : XI) (v0 v1 : Nat) (R : XI → Prop) : Prop := Mw G mX5_copyFrom [vr G (v0 + 31), vr G (v1 + 31)] S I (qv S R)
def Tc_readers (G : XG) (S : XS) (I : XI) (v0 v1 : Nat) (R : XI → Prop) : Prop := Mw G mX4_copyFrom [vr G (v0 + 39), vr G (v1 + 39)] S I (qv S R)
def Tc_told (G : XG) (S : XS) (I : XI) (v0 v1 : Nat) (R : XI → Prop) : Prop := Mw G mX7_copyFrom [vr G v0, vr G v1] S I (qv S R)
set_option maxHeartbeats 4000000 in
set_option maxRecDepth 100000 in
theorem b_Tc_land {G : XG} {S : XS} {I : XI} {v0 v1 : Nat} {R : XI → Prop} (h_v0 : ToldAt S v0) (h_v1 : ToldAt S v1) (h : (∀ I1 : XI, I1 = up I (v0 + 1) 0 (I (v1 + 1) 0) → (∀ I2 : XI, I2 = up I1 (v0 + 1) 1 (I1 (v1 + 1) 1) → (∀ I3 : XI, I3 = up I2 (v0 + 1) 3 (I2 (v1 + 1) 3) → To_copyRow G S I3 ((v1 + 2)) ((v0 + 2)) (fun I4 => To_copyRow G S I4 ((v1 + 3)) ((v0 + 3)) (fun I5 => To_copyRow G S I5 ((v1 + 4)) ((v0 + 4)) (fun I6 => To_copyRow G S I6 ((v1 + 5)) ((v0 + 5)) (fun I7 => To_copyRow G S I7 ((v1 + 6)) ((v0 + 6)) (fun I8 => To_copyRow G S I8 ((v1 + 7)) ((v0 + 7)) (fun I9 => R I9)))))))))) : Tc_land G S I v0 v1 R := by
  refine x_start [some (vr G (v0 + 1)), some (vr G (v1 + 1))] (by decide) (Nat.le_of_ble_eq_true rfl) rfl ?_
  refine x_aload_n (pc := 0) dX2_copyFrom_0 rfl rfl ?_
  refine x_aload_n (pc := 1) dX2_copyFrom_1 rfl rfl ?_
  refine x_getI (pc := 2) (i := (v1 + 1)) fl_X2_9 dX2_copyFrom_2 (tN h_v1 (d := 1) (by decide)) (tT h_v1 1 (by decide) rfl) rfl ?_
  refine x_putI (pc := 5) (i := (v0 + 1)) fl_X2_9 dX2_copyFrom_5 (tN h_v0 (d := 1) (by decide)) (tT h_v0 1 (by decide) rfl) rfl ?_
  have h := h _ rfl
  generalize up I (v0 + 1) 0 (I (v1 + 1) 0) = I1 at h ⊢
  refine x_aload_n (pc := 8) dX2_copyFrom_8 rfl rfl ?_
  refine x_aload_n (pc := 9) dX2_copyFrom_9 rfl rfl ?_
  refine x_getI (pc := 10) (i := (v1 + 1)) fl_X2_15 dX2_copyFrom_10 (tN h_v1 (d := 1) (by decide)) (tT h_v1 1 (by decide) rfl) rfl ?_
  refine x_putI (pc := 13) (i := (v0 + 1)) fl_X2_15 dX2_copyFrom_13 (tN h_v0 (d := 1) (by decide)) (tT h_v0 1 (by decide) rfl) rfl ?_
  have h := h _ rfl
  generalize up I1 (v0 + 1) 1 (I1 (v1 + 1) 1) = I2 at h ⊢
  refine x_aload_n (pc := 16) dX2_copyFrom_16 rfl rfl ?_
  refine x_aload_n (pc := 17) dX2_copyFrom_17 rfl rfl ?_
  refine x_getI (pc := 18) (i := (v1 + 1)) fl_X2_22 dX2_copyFrom_18 (tN h_v1 (d := 1) (by decide)) (tT h_v1 1 (by decide) rfl) rfl ?_
  refine x_putI (pc := 21) (i := (v0 + 1)) fl_X2_22 dX2_copyFrom_21 (tN h_v0 (d := 1) (by decide)) (tT h_v0 1 (by decide) rfl) rfl ?_
  have h := h _ rfl
  generalize up I2 (v0 + 1) 3 (I2 (v1 + 1) 3) = I3 at h ⊢
  refine x_aload_n (pc := 24) dX2_copyFrom_24 rfl rfl ?_
  refine x_getR (pc := 25) (i := (v1 + 1)) (a := (v1 + 2)) fl_X2_18 dX2_copyFrom_25 (tN h_v1 (d := 1) (by decide)) (tT h_v1 1 (by decide) rfl) rfl (tR h_v1 1 2 2 (by decide) rfl (by decide)) ?_
  refine x_aload_n (pc := 28) dX2_copyFrom_28 rfl rfl ?_
  refine x_getR (pc := 29) (i := (v0 + 1)) (a := (v0 + 2)) fl_X2_18 dX2_copyFrom_29 (tN h_v0 (d := 1) (by decide)) (tT h_v0 1 (by decide) rfl) rfl (tR h_v0 1 2 2 (by decide) rfl (by decide)) ?_
  refine y_Sv (pc := 32) (As := [vr G (v1 + 2), vr G (v0 + 2)]) (rest := []) ok_X7_copyRow ml_X2_50 dX2_copyFrom_32 rfl ⟨rfl, rfl⟩ ⟨by decide, by decide⟩ ⟨Nat.le_refl _, Nat.le_refl _⟩ (Nat.le_of_ble_eq_true rfl) rfl h (fun I4 h => ?_)
  refine x_aload_n (pc := 35) dX2_copyFrom_35 rfl rfl ?_
  refine x_getR (pc := 36) (i := (v1 + 1)) (a := (v1 + 3)) fl_X2_25 dX2_copyFrom_36 (tN h_v1 (d := 1) (by decide)) (tT h_v1 1 (by decide) rfl) rfl (tR h_v1 1 4 3 (by decide) rfl (by decide)) ?_
  refine x_aload_n (pc := 39) dX2_copyFrom_39 rfl rfl ?_
  refine x_getR (pc := 40) (i := (v0 + 1)) (a := (v0 + 3)) fl_X2_25 dX2_copyFrom_40 (tN h_v0 (d := 1) (by decide)) (tT h_v0 1 (by decide) rfl) rfl (tR h_v0 1 4 3 (by decide) rfl (by decide)) ?_
  refine y_Sv (pc := 43) (As := [vr G (v1 + 3), vr G (v0 + 3)]) (rest := []) ok_X7_copyRow ml_X2_50 dX2_copyFrom_43 rfl ⟨rfl, rfl⟩ ⟨by decide, by decide⟩ ⟨Nat.le_refl _, Nat.le_refl _⟩ (Nat.le_of_ble_eq_true rfl) rfl h (fun I5 h => ?_)
  refine x_aload_n (pc := 46) dX2_copyFrom_46 rfl rfl ?_
  refine x_getR (pc := 47) (i := (v1 + 1)) (a := (v1 + 4)) fl_X2_28 dX2_copyFrom_47 (tN h_v1 (d := 1) (by decide)) (tT h_v1 1 (by decide) rfl) rfl (tR h_v1 1 5 4 (by decide) rfl (by decide)) ?_
  refine x_aload_n (pc := 50) dX2_copyFrom_50 rfl rfl ?_
  refine x_getR (pc := 51) (i := (v0 + 1)) (a := (v0 + 4)) fl_X2_28 dX2_copyFrom_51 (tN h_v0 (d := 1) (by decide)) (tT h_v0 1 (by decide) rfl) rfl (tR h_v0 1 5 4 (by decide) rfl (by decide)) ?_
  refine y_Sv (pc := 54) (As := [vr G (v1 + 4), vr G (v0 + 4)]) (rest := []) ok_X7_copyRow ml_X2_50 dX2_copyFrom_54 rfl ⟨rfl, rfl⟩ ⟨by decide, by decide⟩ ⟨Nat.le_refl _, Nat.le_refl _⟩ (Nat.le_of_ble_eq_true rfl) rfl h (fun I6 h => ?_)
  refine x_aload_n (pc := 57) dX2_copyFrom_57 rfl rfl ?_
  refine x_getR (pc := 58) (i := (v1 + 1)) (a := (v1 + 5)) fl_X2_31 dX2_copyFrom_58 (tN h_v1 (d := 1) (by decide)) (tT h_v1 1 (by decide) rfl) rfl (tR h_v1 1 6 5 (by decide) rfl (by decide)) ?_
  refine x_aload_n (pc := 61) dX2_copyFrom_61 rfl rfl ?_
  refine x_getR (pc := 62) (i := (v0 + 1)) (a := (v0 + 5)) fl_X2_31 dX2_copyFrom_62 (tN h_v0 (d := 1) (by decide)) (tT h_v0 1 (by decide) rfl) rfl (tR h_v0 1 6 5 (by decide) rfl (by decide)) ?_
  refine y_Sv (pc := 65) (As := [vr G (v1 + 5), vr G (v0 + 5)]) (rest := []) ok_X7_copyRow ml_X2_50 dX2_copyFrom_65 rfl ⟨rfl, rfl⟩ ⟨by decide, by decide⟩ ⟨Nat.le_refl _, Nat.le_refl _⟩ (Nat.le_of_ble_eq_true rfl) rfl h (fun I7 h => ?_)
  refine x_aload_n (pc := 68) dX2_copyFrom_68 rfl rfl ?_
  refine x_getR (pc := 69) (i := (v1 + 1)) (a := (v1 + 6)) fl_X2_34 dX2_copyFrom_69 (tN h_v1 (d := 1) (by decide)) (tT h_v1 1 (by decide) rfl) rfl (tR h_v1 1 7 6 (by decide) rfl (by decide)) ?_
  refine x_aload_n (pc := 72) dX2_copyFrom_72 rfl rfl ?_
  refine x_getR (pc := 73) (i := (v0 + 1)) (a := (v0 + 6)) fl_X2_34 dX2_copyFrom_73 (tN h_v0 (d := 1) (by decide)) (tT h_v0 1 (by decide) rfl) rfl (tR h_v0 1 7 6 (by decide) rfl (by decide)) ?_
  refine y_Sv (pc := 76) (As := [vr G (v1 + 6), vr G (v0 + 6)]) (rest := []) ok_X7_copyRow ml_X2_50 dX2_copyFrom_76 rfl ⟨rfl, rfl⟩ ⟨by decide, by decide⟩ ⟨Nat.le_refl _, Nat.le_refl _⟩ (Nat.le_of_ble_eq_true rfl) rfl h (fun I8 h => ?_)
  refine x_aload_n (pc := 79) dX2_copyFrom_79 rfl rfl ?_
  refine x_getR (pc := 80) (i := (v1 + 1)) (a := (v1 + 7)) fl_X2_37 dX2_copyFrom_80 (tN h_v1 (d := 1) (by decide)) (tT h_v1 1 (by decide) rfl) rfl (tR h_v1 1 8 7 (by decide) rfl (by decide)) ?_
  refine x_aload_n (pc := 83) dX2_copyFrom_83 rfl rfl ?_
  refine x_getR (pc := 84) (i := (v0 + 1)) (a := (v0 + 7)) fl_X2_37 dX2_copyFrom_84 (tN h_v0 (d := 1) (by decide)) (tT h_v0 1 (by decide) rfl) rfl (tR h_v0 1 8 7 (by decide) rfl (by decide)) ?_
  refine y_Sv (pc := 87) (As := [vr G (v1 + 7), vr G (v0 + 7)]) (rest := []) ok_X7_copyRow ml_X2_50 dX2_copyFrom_87 rfl ⟨rfl, rfl⟩ ⟨by decide, by decide⟩ ⟨Nat.le_refl _, Nat.le_refl _⟩ (Nat.le_of_ble_eq_true rfl) rfl h (fun I9 h => ?_)
  exact y_vret (pc := 90) dX2_copyFrom_90 rfl ⟨Nat.le_refl _, Nat.le_refl _⟩ h
set_option maxHeartbeats 4000000 in
set_option maxRecDepth 100000 in
theorem b_Tc_herds {G : XG} {S : XS} {I : XI} {v0 v1 : Nat} {R : XI → Prop} (h_v0 : ToldAt S v0) (h_v1 : ToldAt S v1) (h : (∀ I1 : XI, I1 = up I (v0 + 8) 0 (I (v1 + 8) 0) → (∀ I2 : XI, I2 = up I1 (v0 + 8) 5 (I1 (v1 + 8) 5) → To_copyRow G S I2 ((v1 + 9)) ((v0 + 9)) (fun I3 => To_copyRow G S I3 ((v1 + 10)) ((v0 + 10)) (fun I4 => To_copyRow G S I4 ((v1 + 11)) ((v0 + 11)) (fun I5 => To_copyRow G S I5 ((v1 + 12)) ((v0 + 12)) (fun I6 => To_copyRow G S I6 ((v1 + 13)) ((v0 + 13)) (fun I7 => To_copyRow G S I7 ((v1 + 14)) ((v0 + 14)) (fun I8 => To_copyRow G S I8 ((v1 + 15)) ((v0 + 15)) (fun I9 => To_copyRow G S I9 ((v1 + 16)) ((v0 + 16)) (fun I10 => To_copyRow G S I10 ((v1 + 17)) ((v0 + 17)) (fun I11 => R I11)))))))))))) : Tc_herds G S I v0 v1 R := by
  refine x_start [some (vr G (v0 + 8)), some (vr G (v1 + 8))] (by decide) (Nat.le_of_ble_eq_true rfl) rfl ?_
  refine x_aload_n (pc := 0) dX1_copyFrom_0 rfl rfl ?_
  refine x_aload_n (pc := 1) dX1_copyFrom_1 rfl rfl ?_
  refine x_getI (pc := 2) (i := (v1 + 8)) fl_X1_9 dX1_copyFrom_2 (tN h_v1 (d := 8) (by decide)) (tT h_v1 8 (by decide) rfl) rfl ?_
  refine x_putI (pc := 5) (i := (v0 + 8)) fl_X1_9 dX1_copyFrom_5 (tN h_v0 (d := 8) (by decide)) (tT h_v0 8 (by decide) rfl) rfl ?_
  have h := h _ rfl
  generalize up I (v0 + 8) 0 (I (v1 + 8) 0) = I1 at h ⊢
  refine x_aload_n (pc := 8) dX1_copyFrom_8 rfl rfl ?_
  refine x_aload_n (pc := 9) dX1_copyFrom_9 rfl rfl ?_
  refine x_getI (pc := 10) (i := (v1 + 8)) fl_X1_28 dX1_copyFrom_10 (tN h_v1 (d := 8) (by decide)) (tT h_v1 8 (by decide) rfl) rfl ?_
  refine x_putI (pc := 13) (i := (v0 + 8)) fl_X1_28 dX1_copyFrom_13 (tN h_v0 (d := 8) (by decide)) (tT h_v0 8 (by decide) rfl) rfl ?_
  have h := h _ rfl
  generalize up I1 (v0 + 8) 5 (I1 (v1 + 8) 5) = I2 at h ⊢
  refine x_aload_n (pc := 16) dX1_copyFrom_16 rfl rfl ?_
  refine x_getR (pc := 17) (i := (v1 + 8)) (a := (v1 + 9)) fl_X1_15 dX1_copyFrom_17 (tN h_v1 (d := 8) (by decide)) (tT h_v1 8 (by decide) rfl) rfl (tR h_v1 8 1 9 (by decide) rfl (by decide)) ?_
  refine x_aload_n (pc := 20) dX1_copyFrom_20 rfl rfl ?_
  refine x_getR (pc := 21) (i := (v0 + 8)) (a := (v0 + 9)) fl_X1_15 dX1_copyFrom_21 (tN h_v0 (d := 8) (by decide)) (tT h_v0 8 (by decide) rfl) rfl (tR h_v0 8 1 9 (by decide) rfl (by decide)) ?_
  refine y_Sv (pc := 24) (As := [vr G (v1 + 9), vr G (v0 + 9)]) (rest := []) ok_X7_copyRow ml_X1_46 dX1_copyFrom_24 rfl ⟨rfl, rfl⟩ ⟨by decide, by decide⟩ ⟨Nat.le_refl _, Nat.le_refl _⟩ (Nat.le_of_ble_eq_true rfl) rfl h (fun I3 h => ?_)
  refine x_aload_n (pc := 27) dX1_copyFrom_27 rfl rfl ?_
  refine x_getR (pc := 28) (i := (v1 + 8)) (a := (v1 + 10)) fl_X1_19 dX1_copyFrom_28 (tN h_v1 (d := 8) (by decide)) (tT h_v1 8 (by decide) rfl) rfl (tR h_v1 8 2 10 (by decide) rfl (by decide)) ?_
  refine x_aload_n (pc := 31) dX1_copyFrom_31 rfl rfl ?_
  refine x_getR (pc := 32) (i := (v0 + 8)) (a := (v0 + 10)) fl_X1_19 dX1_copyFrom_32 (tN h_v0 (d := 8) (by decide)) (tT h_v0 8 (by decide) rfl) rfl (tR h_v0 8 2 10 (by decide) rfl (by decide)) ?_
  refine y_Sv (pc := 35) (As := [vr G (v1 + 10), vr G (v0 + 10)]) (rest := []) ok_X7_copyRow ml_X1_46 dX1_copyFrom_35 rfl ⟨rfl, rfl⟩ ⟨by decide, by decide⟩ ⟨Nat.le_refl _, Nat.le_refl _⟩ (Nat.le_of_ble_eq_true rfl) rfl h (fun I4 h => ?_)
  refine x_aload_n (pc := 38) dX1_copyFrom_38 rfl rfl ?_
  refine x_getR (pc := 39) (i := (v1 + 8)) (a := (v1 + 11)) fl_X1_22 dX1_copyFrom_39 (tN h_v1 (d := 8) (by decide)) (tT h_v1 8 (by decide) rfl) rfl (tR h_v1 8 3 11 (by decide) rfl (by decide)) ?_
  refine x_aload_n (pc := 42) dX1_copyFrom_42 rfl rfl ?_
  refine x_getR (pc := 43) (i := (v0 + 8)) (a := (v0 + 11)) fl_X1_22 dX1_copyFrom_43 (tN h_v0 (d := 8) (by decide)) (tT h_v0 8 (by decide) rfl) rfl (tR h_v0 8 3 11 (by decide) rfl (by decide)) ?_
  refine y_Sv (pc := 46) (As := [vr G (v1 + 11), vr G (v0 + 11)]) (rest := []) ok_X7_copyRow ml_X1_46 dX1_copyFrom_46 rfl ⟨rfl, rfl⟩ ⟨by decide, by decide⟩ ⟨Nat.le_refl _, Nat.le_refl _⟩ (Nat.le_of_ble_eq_true rfl) rfl h (fun I5 h => ?_)
  refine x_aload_n (pc := 49) dX1_copyFrom_49 rfl rfl ?_
  refine x_getR (pc := 50) (i := (v1 + 8)) (a := (v1 + 12)) fl_X1_25 dX1_copyFrom_50 (tN h_v1 (d := 8) (by decide)) (tT h_v1 8 (by decide) rfl) rfl (tR h_v1 8 4 12 (by decide) rfl (by decide)) ?_
  refine x_aload_n (pc := 53) dX1_copyFrom_53 rfl rfl ?_
  refine x_getR (pc := 54) (i := (v0 + 8)) (a := (v0 + 12)) fl_X1_25 dX1_copyFrom_54 (tN h_v0 (d := 8) (by decide)) (tT h_v0 8 (by decide) rfl) rfl (tR h_v0 8 4 12 (by decide) rfl (by decide)) ?_
  refine y_Sv (pc := 57) (As := [vr G (v1 + 12), vr G (v0 + 12)]) (rest := []) ok_X7_copyRow ml_X1_46 dX1_copyFrom_57 rfl ⟨rfl, rfl⟩ ⟨by decide, by decide⟩ ⟨Nat.le_refl _, Nat.le_refl _⟩ (Nat.le_of_ble_eq_true rfl) rfl h (fun I6 h => ?_)
  refine x_aload_n (pc := 60) dX1_copyFrom_60 rfl rfl ?_
  refine x_getR (pc := 61) (i := (v1 + 8)) (a := (v1 + 13)) fl_X1_31 dX1_copyFrom_61 (tN h_v1 (d := 8) (by decide)) (tT h_v1 8 (by decide) rfl) rfl (tR h_v1 8 6 13 (by decide) rfl (by decide)) ?_
  refine x_aload_n (pc := 64) dX1_copyFrom_64 rfl rfl ?_
  refine x_getR (pc := 65) (i := (v0 + 8)) (a := (v0 + 13)) fl_X1_31 dX1_copyFrom_65 (tN h_v0 (d := 8) (by decide)) (tT h_v0 8 (by decide) rfl) rfl (tR h_v0 8 6 13 (by decide) rfl (by decide)) ?_
  refine y_Sv (pc := 68) (As := [vr G (v1 + 13), vr G (v0 + 13)]) (rest := []) ok_X7_copyRow ml_X1_46 dX1_copyFrom_68 rfl ⟨rfl, rfl⟩ ⟨by decide, by decide⟩ ⟨Nat.le_refl _, Nat.le_refl _⟩ (Nat.le_of_ble_eq_true rfl) rfl h (fun I7 h => ?_)
  refine x_aload_n (pc := 71) dX1_copyFrom_71 rfl rfl ?_
  refine x_getR (pc := 72) (i := (v1 + 8)) (a := (v1 + 14)) fl_X1_34 dX1_copyFrom_72 (tN h_v1 (d := 8) (by decide)) (tT h_v1 8 (by decide) rfl) rfl (tR h_v1 8 7 14 (by decide) rfl (by decide)) ?_
  refine x_aload_n (pc := 75) dX1_copyFrom_75 rfl rfl ?_
  refine x_getR (pc := 76) (i := (v0 + 8)) (a := (v0 + 14)) fl_X1_34 dX1_copyFrom_76 (tN h_v0 (d := 8) (by decide)) (tT h_v0 8 (by decide) rfl) rfl (tR h_v0 8 7 14 (by decide) rfl (by decide)) ?_
  refine y_Sv (pc := 79) (As := [vr G (v1 + 14), vr G (v0 + 14)]) (rest := []) ok_X7_copyRow ml_X1_46 dX1_copyFrom_79 rfl ⟨rfl, rfl⟩ ⟨by decide, by decide⟩ ⟨Nat.le_refl _, Nat.le_refl _⟩ (Nat.le_of_ble_eq_true rfl) rfl h (fun I8 h => ?_)
  refine x_aload_n (pc := 82) dX1_copyFrom_82 rfl rfl ?_
  refine x_getR (pc := 83) (i := (v1 + 8)) (a := (v1 + 15)) fl_X1_37 dX1_copyFrom_83 (tN h_v1 (d := 8) (by decide)) (tT h_v1 8 (by decide) rfl) rfl (tR h_v1 8 8 15 (by decide) rfl (by decide)) ?_
  refine x_aload_n (pc := 86) dX1_copyFrom_86 rfl rfl ?_
  refine x_getR (pc := 87) (i := (v0 + 8)) (a := (v0 + 15)) fl_X1_37 dX1_copyFrom_87 (tN h_v0 (d := 8) (by decide)) (tT h_v0 8 (by decide) rfl) rfl (tR h_v0 8 8 15 (by decide) rfl (by decide)) ?_
  refine y_Sv (pc := 90) (As := [vr G (v1 + 15), vr G (v0 + 15)]) (rest := []) ok_X7_copyRow ml_X1_46 dX1_copyFrom_90 rfl ⟨rfl, rfl⟩ ⟨by decide, by decide⟩ ⟨Nat.le_refl _, Nat.le_refl _⟩ (Nat.le_of_ble_eq_true rfl) rfl h (fun I9 h => ?_)
  refine x_aload_n (pc := 93) dX1_copyFrom_93 rfl rfl ?_
  refine x_getR (pc := 94) (i := (v1 + 8)) (a := (v1 + 16)) fl_X1_40 dX1_copyFrom_94 (tN h_v1 (d := 8) (by decide)) (tT h_v1 8 (by decide) rfl) rfl (tR h_v1 8 9 16 (by decide) rfl (by decide)) ?_
  refine x_aload_n (pc := 97) dX1_copyFrom_97 rfl rfl ?_
  refine x_getR (pc := 98) (i := (v0 + 8)) (a := (v0 + 16)) fl_X1_40 dX1_copyFrom_98 (tN h_v0 (d := 8) (by decide)) (tT h_v0 8 (by decide) rfl) rfl (tR h_v0 8 9 16 (by decide) rfl (by decide)) ?_
  refine y_Sv (pc := 101) (As := [vr G (v1 + 16), vr G (v0 + 16)]) (rest := []) ok_X7_copyRow ml_X1_46 dX1_copyFrom_101 rfl ⟨rfl, rfl⟩ ⟨by decide, by decide⟩ ⟨Nat.le_refl _, Nat.le_refl _⟩ (Nat.le_of_ble_eq_true rfl) rfl h (fun I10 h => ?_)
  refine x_aload_n (pc := 104) dX1_copyFrom_104 rfl rfl ?_
  refine x_getR (pc := 105) (i := (v1 + 8)) (a := (v1 + 17)) fl_X1_43 dX1_copyFrom_105 (tN h_v1 (d := 8) (by decide)) (tT h_v1 8 (by decide) rfl) rfl (tR h_v1 8 10 17 (by decide) rfl (by decide)) ?_
  refine x_aload_n (pc := 108) dX1_copyFrom_108 rfl rfl ?_
  refine x_getR (pc := 109) (i := (v0 + 8)) (a := (v0 + 17)) fl_X1_43 dX1_copyFrom_109 (tN h_v0 (d := 8) (by decide)) (tT h_v0 8 (by decide) rfl) rfl (tR h_v0 8 10 17 (by decide) rfl (by decide)) ?_
  refine y_Sv (pc := 112) (As := [vr G (v1 + 17), vr G (v0 + 17)]) (rest := []) ok_X7_copyRow ml_X1_46 dX1_copyFrom_112 rfl ⟨rfl, rfl⟩ ⟨by decide, by decide⟩ ⟨Nat.le_refl _, Nat.le_refl _⟩ (Nat.le_of_ble_eq_true rfl) rfl h (fun I11 h => ?_)
  exact y_vret (pc := 115) dX1_copyFrom_115 rfl ⟨Nat.le_refl _, Nat.le_refl _⟩ h
set_option maxHeartbeats 4000000 in
set_option maxRecDepth 100000 in
theorem b_Tc_shelf {G : XG} {S : XS} {I : XI} {v0 v1 : Nat} {R : XI → Prop} (h_v0 : ToldAt S v0) (h_v1 : ToldAt S v1) (h : (∀ I1 : XI, I1 = up I (v0 + 18) 0 (I (v1 + 18) 0) → (∀ I2 : XI, I2 = up I1 (v0 + 18) 6 (I1 (v1 + 18) 6) → To_copyRow G S I2 ((v1 + 19)) ((v0 + 19)) (fun I3 => To_copyRow G S I3 ((v1 + 20)) ((v0 + 20)) (fun I4 => To_copyRow G S I4 ((v1 + 21)) ((v0 + 21)) (fun I5 => To_copyRow G S I5 ((v1 + 22)) ((v0 + 22)) (fun I6 => To_copyRow G S I6 ((v1 + 23)) ((v0 + 23)) (fun I7 => To_copyRow G S I7 ((v1 + 24)) ((v0 + 24)) (fun I8 => To_copyRow G S I8 ((v1 + 25)) ((v0 + 25)) (fun I9 => To_copyRow G S I9 ((v1 + 26)) ((v0 + 26)) (fun I10 => To_copyRow G S I10 ((v1 + 27)) ((v0 + 27)) (fun I11 => To_copyRow G S I11 ((v1 + 28)) ((v0 + 28)) (fun I12 => To_copyRow G S I12 ((v1 + 29)) ((v0 + 29)) (fun I13 => To_copyRow G S I13 ((v1 + 30)) ((v0 + 30)) (fun I14 => R I14))))))))))))))) : Tc_shelf G S I v0 v1 R := by
  refine x_start [some (vr G (v0 + 18)), some (vr G (v1 + 18))] (by decide) (Nat.le_of_ble_eq_true rfl) rfl ?_
  refine x_aload_n (pc := 0) dX6_copyFrom_0 rfl rfl ?_
  refine x_aload_n (pc := 1) dX6_copyFrom_1 rfl rfl ?_
  refine x_getI (pc := 2) (i := (v1 + 18)) fl_X6_9 dX6_copyFrom_2 (tN h_v1 (d := 18) (by decide)) (tT h_v1 18 (by decide) rfl) rfl ?_
  refine x_putI (pc := 5) (i := (v0 + 18)) fl_X6_9 dX6_copyFrom_5 (tN h_v0 (d := 18) (by decide)) (tT h_v0 18 (by decide) rfl) rfl ?_
  have h := h _ rfl
  generalize up I (v0 + 18) 0 (I (v1 + 18) 0) = I1 at h ⊢
  refine x_aload_n (pc := 8) dX6_copyFrom_8 rfl rfl ?_
  refine x_aload_n (pc := 9) dX6_copyFrom_9 rfl rfl ?_
  refine x_getI (pc := 10) (i := (v1 + 18)) fl_X6_31 dX6_copyFrom_10 (tN h_v1 (d := 18) (by decide)) (tT h_v1 18 (by decide) rfl) rfl ?_
  refine x_putI (pc := 13) (i := (v0 + 18)) fl_X6_31 dX6_copyFrom_13 (tN h_v0 (d := 18) (by decide)) (tT h_v0 18 (by decide) rfl) rfl ?_
  have h := h _ rfl
  generalize up I1 (v0 + 18) 6 (I1 (v1 + 18) 6) = I2 at h ⊢
  refine x_aload_n (pc := 16) dX6_copyFrom_16 rfl rfl ?_
  refine x_getR (pc := 17) (i := (v1 + 18)) (a := (v1 + 19)) fl_X6_15 dX6_copyFrom_17 (tN h_v1 (d := 18) (by decide)) (tT h_v1 18 (by decide) rfl) rfl (tR h_v1 18 1 19 (by decide) rfl (by decide)) ?_
  refine x_aload_n (pc := 20) dX6_copyFrom_20 rfl rfl ?_
  refine x_getR (pc := 21) (i := (v0 + 18)) (a := (v0 + 19)) fl_X6_15 dX6_copyFrom_21 (tN h_v0 (d := 18) (by decide)) (tT h_v0 18 (by decide) rfl) rfl (tR h_v0 18 1 19 (by decide) rfl (by decide)) ?_
  refine y_Sv (pc := 24) (As := [vr G (v1 + 19), vr G (v0 + 19)]) (rest := []) ok_X7_copyRow ml_X6_74 dX6_copyFrom_24 rfl ⟨rfl, rfl⟩ ⟨by decide, by decide⟩ ⟨Nat.le_refl _, Nat.le_refl _⟩ (Nat.le_of_ble_eq_true rfl) rfl h (fun I3 h => ?_)
  refine x_aload_n (pc := 27) dX6_copyFrom_27 rfl rfl ?_
  refine x_getR (pc := 28) (i := (v1 + 18)) (a := (v1 + 20)) fl_X6_19 dX6_copyFrom_28 (tN h_v1 (d := 18) (by decide)) (tT h_v1 18 (by decide) rfl) rfl (tR h_v1 18 2 20 (by decide) rfl (by decide)) ?_
  refine x_aload_n (pc := 31) dX6_copyFrom_31 rfl rfl ?_
  refine x_getR (pc := 32) (i := (v0 + 18)) (a := (v0 + 20)) fl_X6_19 dX6_copyFrom_32 (tN h_v0 (d := 18) (by decide)) (tT h_v0 18 (by decide) rfl) rfl (tR h_v0 18 2 20 (by decide) rfl (by decide)) ?_
  refine y_Sv (pc := 35) (As := [vr G (v1 + 20), vr G (v0 + 20)]) (rest := []) ok_X7_copyRow ml_X6_74 dX6_copyFrom_35 rfl ⟨rfl, rfl⟩ ⟨by decide, by decide⟩ ⟨Nat.le_refl _, Nat.le_refl _⟩ (Nat.le_of_ble_eq_true rfl) rfl h (fun I4 h => ?_)
  refine x_aload_n (pc := 38) dX6_copyFrom_38 rfl rfl ?_
  refine x_getR (pc := 39) (i := (v1 + 18)) (a := (v1 + 21)) fl_X6_22 dX6_copyFrom_39 (tN h_v1 (d := 18) (by decide)) (tT h_v1 18 (by decide) rfl) rfl (tR h_v1 18 3 21 (by decide) rfl (by decide)) ?_
  refine x_aload_n (pc := 42) dX6_copyFrom_42 rfl rfl ?_
  refine x_getR (pc := 43) (i := (v0 + 18)) (a := (v0 + 21)) fl_X6_22 dX6_copyFrom_43 (tN h_v0 (d := 18) (by decide)) (tT h_v0 18 (by decide) rfl) rfl (tR h_v0 18 3 21 (by decide) rfl (by decide)) ?_
  refine y_Sv (pc := 46) (As := [vr G (v1 + 21), vr G (v0 + 21)]) (rest := []) ok_X7_copyRow ml_X6_74 dX6_copyFrom_46 rfl ⟨rfl, rfl⟩ ⟨by decide, by decide⟩ ⟨Nat.le_refl _, Nat.le_refl _⟩ (Nat.le_of_ble_eq_true rfl) rfl h (fun I5 h => ?_)
  refine x_aload_n (pc := 49) dX6_copyFrom_49 rfl rfl ?_
  refine x_getR (pc := 50) (i := (v1 + 18)) (a := (v1 + 22)) fl_X6_25 dX6_copyFrom_50 (tN h_v1 (d := 18) (by decide)) (tT h_v1 18 (by decide) rfl) rfl (tR h_v1 18 4 22 (by decide) rfl (by decide)) ?_
  refine x_aload_n (pc := 53) dX6_copyFrom_53 rfl rfl ?_
  refine x_getR (pc := 54) (i := (v0 + 18)) (a := (v0 + 22)) fl_X6_25 dX6_copyFrom_54 (tN h_v0 (d := 18) (by decide)) (tT h_v0 18 (by decide) rfl) rfl (tR h_v0 18 4 22 (by decide) rfl (by decide)) ?_
  refine y_Sv (pc := 57) (As := [vr G (v1 + 22), vr G (v0 + 22)]) (rest := []) ok_X7_copyRow ml_X6_74 dX6_copyFrom_57 rfl ⟨rfl, rfl⟩ ⟨by decide, by decide⟩ ⟨Nat.le_refl _, Nat.le_refl _⟩ (Nat.le_of_ble_eq_true rfl) rfl h (fun I6 h => ?_)
  refine x_aload_n (pc := 60) dX6_copyFrom_60 rfl rfl ?_
  refine x_getR (pc := 61) (i := (v1 + 18)) (a := (v1 + 23)) fl_X6_28 dX6_copyFrom_61 (tN h_v1 (d := 18) (by decide)) (tT h_v1 18 (by decide) rfl) rfl (tR h_v1 18 5 23 (by decide) rfl (by decide)) ?_
  refine x_aload_n (pc := 64) dX6_copyFrom_64 rfl rfl ?_
  refine x_getR (pc := 65) (i := (v0 + 18)) (a := (v0 + 23)) fl_X6_28 dX6_copyFrom_65 (tN h_v0 (d := 18) (by decide)) (tT h_v0 18 (by decide) rfl) rfl (tR h_v0 18 5 23 (by decide) rfl (by decide)) ?_
  refine y_Sv (pc := 68) (As := [vr G (v1 + 23), vr G (v0 + 23)]) (rest := []) ok_X7_copyRow ml_X6_74 dX6_copyFrom_68 rfl ⟨rfl, rfl⟩ ⟨by decide, by decide⟩ ⟨Nat.le_refl _, Nat.le_refl _⟩ (Nat.le_of_ble_eq_true rfl) rfl h (fun I7 h => ?_)
  refine x_aload_n (pc := 71) dX6_copyFrom_71 rfl rfl ?_
  refine x_getR (pc := 72) (i := (v1 + 18)) (a := (v1 + 24)) fl_X6_34 dX6_copyFrom_72 (tN h_v1 (d := 18) (by decide)) (tT h_v1 18 (by decide) rfl) rfl (tR h_v1 18 7 24 (by decide) rfl (by decide)) ?_
  refine x_aload_n (pc := 75) dX6_copyFrom_75 rfl rfl ?_
  refine x_getR (pc := 76) (i := (v0 + 18)) (a := (v0 + 24)) fl_X6_34 dX6_copyFrom_76 (tN h_v0 (d := 18) (by decide)) (tT h_v0 18 (by decide) rfl) rfl (tR h_v0 18 7 24 (by decide) rfl (by decide)) ?_
  refine y_Sv (pc := 79) (As := [vr G (v1 + 24), vr G (v0 + 24)]) (rest := []) ok_X7_copyRow ml_X6_74 dX6_copyFrom_79 rfl ⟨rfl, rfl⟩ ⟨by decide, by decide⟩ ⟨Nat.le_refl _, Nat.le_refl _⟩ (Nat.le_of_ble_eq_true rfl) rfl h (fun I8 h => ?_)
  refine x_aload_n (pc := 82) dX6_copyFrom_82 rfl rfl ?_
  refine x_getR (pc := 83) (i := (v1 + 18)) (a := (v1 + 25)) fl_X6_37 dX6_copyFrom_83 (tN h_v1 (d := 18) (by decide)) (tT h_v1 18 (by decide) rfl) rfl (tR h_v1 18 8 25 (by decide) rfl (by decide)) ?_
  refine x_aload_n (pc := 86) dX6_copyFrom_86 rfl rfl ?_
  refine x_getR (pc := 87) (i := (v0 + 18)) (a := (v0 + 25)) fl_X6_37 dX6_copyFrom_87 (tN h_v0 (d := 18) (by decide)) (tT h_v0 18 (by decide) rfl) rfl (tR h_v0 18 8 25 (by decide) rfl (by decide)) ?_
  refine y_Sv (pc := 90) (As := [vr G (v1 + 25), vr G (v0 + 25)]) (rest := []) ok_X7_copyRow ml_X6_74 dX6_copyFrom_90 rfl ⟨rfl, rfl⟩ ⟨by decide, by decide⟩ ⟨Nat.le_refl _, Nat.le_refl _⟩ (Nat.le_of_ble_eq_true rfl) rfl h (fun I9 h => ?_)
  refine x_aload_n (pc := 93) dX6_copyFrom_93 rfl rfl ?_
  refine x_getR (pc := 94) (i := (v1 + 18)) (a := (v1 + 26)) fl_X6_40 dX6_copyFrom_94 (tN h_v1 (d := 18) (by decide)) (tT h_v1 18 (by decide) rfl) rfl (tR h_v1 18 9 26 (by decide) rfl (by decide)) ?_
  refine x_aload_n (pc := 97) dX6_copyFrom_97 rfl rfl ?_
  refine x_getR (pc := 98) (i := (v0 + 18)) (a := (v0 + 26)) fl_X6_40 dX6_copyFrom_98 (tN h_v0 (d := 18) (by decide)) (tT h_v0 18 (by decide) rfl) rfl (tR h_v0 18 9 26 (by decide) rfl (by decide)) ?_
  refine y_Sv (pc := 101) (As := [vr G (v1 + 26), vr G (v0 + 26)]) (rest := []) ok_X7_copyRow ml_X6_74 dX6_copyFrom_101 rfl ⟨rfl, rfl⟩ ⟨by decide, by decide⟩ ⟨Nat.le_refl _, Nat.le_refl _⟩ (Nat.le_of_ble_eq_true rfl) rfl h (fun I10 h => ?_)
  refine x_aload_n (pc := 104) dX6_copyFrom_104 rfl rfl ?_
  refine x_getR (pc := 105) (i := (v1 + 18)) (a := (v1 + 27)) fl_X6_43 dX6_copyFrom_105 (tN h_v1 (d := 18) (by decide)) (tT h_v1 18 (by decide) rfl) rfl (tR h_v1 18 10 27 (by decide) rfl (by decide)) ?_
  refine x_aload_n (pc := 108) dX6_copyFrom_108 rfl rfl ?_
  refine x_getR (pc := 109) (i := (v0 + 18)) (a := (v0 + 27)) fl_X6_43 dX6_copyFrom_109 (tN h_v0 (d := 18) (by decide)) (tT h_v0 18 (by decide) rfl) rfl (tR h_v0 18 10 27 (by decide) rfl (by decide)) ?_
  refine y_Sv (pc := 112) (As := [vr G (v1 + 27), vr G (v0 + 27)]) (rest := []) ok_X7_copyRow ml_X6_74 dX6_copyFrom_112 rfl ⟨rfl, rfl⟩ ⟨by decide, by decide⟩ ⟨Nat.le_refl _, Nat.le_refl _⟩ (Nat.le_of_ble_eq_true rfl) rfl h (fun I11 h => ?_)
  refine x_aload_n (pc := 115) dX6_copyFrom_115 rfl rfl ?_
  refine x_getR (pc := 116) (i := (v1 + 18)) (a := (v1 + 28)) fl_X6_46 dX6_copyFrom_116 (tN h_v1 (d := 18) (by decide)) (tT h_v1 18 (by decide) rfl) rfl (tR h_v1 18 11 28 (by decide) rfl (by decide)) ?_
  refine x_aload_n (pc := 119) dX6_copyFrom_119 rfl rfl ?_
  refine x_getR (pc := 120) (i := (v0 + 18)) (a := (v0 + 28)) fl_X6_46 dX6_copyFrom_120 (tN h_v0 (d := 18) (by decide)) (tT h_v0 18 (by decide) rfl) rfl (tR h_v0 18 11 28 (by decide) rfl (by decide)) ?_
  refine y_Sv (pc := 123) (As := [vr G (v1 + 28), vr G (v0 + 28)]) (rest := []) ok_X7_copyRow ml_X6_74 dX6_copyFrom_123 rfl ⟨rfl, rfl⟩ ⟨by decide, by decide⟩ ⟨Nat.le_refl _, Nat.le_refl _⟩ (Nat.le_of_ble_eq_true rfl) rfl h (fun I12 h => ?_)
  refine x_aload_n (pc := 126) dX6_copyFrom_126 rfl rfl ?_
  refine x_getR (pc := 127) (i := (v1 + 18)) (a := (v1 + 29)) fl_X6_49 dX6_copyFrom_127 (tN h_v1 (d := 18) (by decide)) (tT h_v1 18 (by decide) rfl) rfl (tR h_v1 18 12 29 (by decide) rfl (by decide)) ?_
  refine x_aload_n (pc := 130) dX6_copyFrom_130 rfl rfl ?_
  refine x_getR (pc := 131) (i := (v0 + 18)) (a := (v0 + 29)) fl_X6_49 dX6_copyFrom_131 (tN h_v0 (d := 18) (by decide)) (tT h_v0 18 (by decide) rfl) rfl (tR h_v0 18 12 29 (by decide) rfl (by decide)) ?_
  refine y_Sv (pc := 134) (As := [vr G (v1 + 29), vr G (v0 + 29)]) (rest := []) ok_X7_copyRow ml_X6_74 dX6_copyFrom_134 rfl ⟨rfl, rfl⟩ ⟨by decide, by decide⟩ ⟨Nat.le_refl _, Nat.le_refl _⟩ (Nat.le_of_ble_eq_true rfl) rfl h (fun I13 h => ?_)
  refine x_aload_n (pc := 137) dX6_copyFrom_137 rfl rfl ?_
  refine x_getR (pc := 138) (i := (v1 + 18)) (a := (v1 + 30)) fl_X6_52 dX6_copyFrom_138 (tN h_v1 (d := 18) (by decide)) (tT h_v1 18 (by decide) rfl) rfl (tR h_v1 18 13 30 (by decide) rfl (by decide)) ?_
  refine x_aload_n (pc := 141) dX6_copyFrom_141 rfl rfl ?_
  refine x_getR (pc := 142) (i := (v0 + 18)) (a := (v0 + 30)) fl_X6_52 dX6_copyFrom_142 (tN h_v0 (d := 18) (by decide)) (tT h_v0 18 (by decide) rfl) rfl (tR h_v0 18 13 30 (by decide) rfl (by decide)) ?_
  refine y_Sv (pc := 145) (As := [vr G (v1 + 30), vr G (v0 + 30)]) (rest := []) ok_X7_copyRow ml_X6_74 dX6_copyFrom_145 rfl ⟨rfl, rfl⟩ ⟨by decide, by decide⟩ ⟨Nat.le_refl _, Nat.le_refl _⟩ (Nat.le_of_ble_eq_true rfl) rfl h (fun I14 h => ?_)
  exact y_vret (pc := 148) dX6_copyFrom_148 rfl ⟨Nat.le_refl _, Nat.le_refl _⟩ h
set_option maxHeartbeats 4000000 in
set_option maxRecDepth 100000 in
theorem b_Tc_rules {G : XG} {S : XS} {I : XI} {v0 v1 : Nat} {R : XI → Prop} (h_v0 : ToldAt S v0) (h_v1 : ToldAt S v1) (h : (∀ I1 : XI, I1 = up I (v0 + 31) 0 (I (v1 + 31) 0) → To_copyRow G S I1 ((v1 + 32)) ((v0 + 32)) (fun I2 => To_copyRow G S I2 ((v1 + 33)) ((v0 + 33)) (fun I3 => To_copyRow G S I3 ((v1 + 34)) ((v0 + 34)) (fun I4 => To_copyRow G S I4 ((v1 + 35)) ((v0 + 35)) (fun I5 => To_copyRow G S I5 ((v1 + 36)) ((v0 + 36)) (fun I6 => To_copyRow G S I6 ((v1 + 37)) ((v0 + 37)) (fun I7 => To_copyRow G S I7 ((v1 + 38)) ((v0 + 38)) (fun I8 => R I8))))))))) : Tc_rules G S I v0 v1 R := by
  refine x_start [some (vr G (v0 + 31)), some (vr G (v1 + 31))] (by decide) (Nat.le_of_ble_eq_true rfl) rfl ?_
  refine x_aload_n (pc := 0) dX5_copyFrom_0 rfl rfl ?_
  refine x_aload_n (pc := 1) dX5_copyFrom_1 rfl rfl ?_
  refine x_getI (pc := 2) (i := (v1 + 31)) fl_X5_9 dX5_copyFrom_2 (tN h_v1 (d := 31) (by decide)) (tT h_v1 31 (by decide) rfl) rfl ?_
  refine x_putI (pc := 5) (i := (v0 + 31)) fl_X5_9 dX5_copyFrom_5 (tN h_v0 (d := 31) (by decide)) (tT h_v0 31 (by decide) rfl) rfl ?_
  have h := h _ rfl
  generalize up I (v0 + 31) 0 (I (v1 + 31) 0) = I1 at h ⊢
  refine x_aload_n (pc := 8) dX5_copyFrom_8 rfl rfl ?_
  refine x_getR (pc := 9) (i := (v1 + 31)) (a := (v1 + 32)) fl_X5_15 dX5_copyFrom_9 (tN h_v1 (d := 31) (by decide)) (tT h_v1 31 (by decide) rfl) rfl (tR h_v1 31 1 32 (by decide) rfl (by decide)) ?_
  refine x_aload_n (pc := 12) dX5_copyFrom_12 rfl rfl ?_
  refine x_getR (pc := 13) (i := (v0 + 31)) (a := (v0 + 32)) fl_X5_15 dX5_copyFrom_13 (tN h_v0 (d := 31) (by decide)) (tT h_v0 31 (by decide) rfl) rfl (tR h_v0 31 1 32 (by decide) rfl (by decide)) ?_
  refine y_Sv (pc := 16) (As := [vr G (v1 + 32), vr G (v0 + 32)]) (rest := []) ok_X7_copyRow ml_X5_55 dX5_copyFrom_16 rfl ⟨rfl, rfl⟩ ⟨by decide, by decide⟩ ⟨Nat.le_refl _, Nat.le_refl _⟩ (Nat.le_of_ble_eq_true rfl) rfl h (fun I2 h => ?_)
  refine x_aload_n (pc := 19) dX5_copyFrom_19 rfl rfl ?_
  refine x_getR (pc := 20) (i := (v1 + 31)) (a := (v1 + 33)) fl_X5_19 dX5_copyFrom_20 (tN h_v1 (d := 31) (by decide)) (tT h_v1 31 (by decide) rfl) rfl (tR h_v1 31 2 33 (by decide) rfl (by decide)) ?_
  refine x_aload_n (pc := 23) dX5_copyFrom_23 rfl rfl ?_
  refine x_getR (pc := 24) (i := (v0 + 31)) (a := (v0 + 33)) fl_X5_19 dX5_copyFrom_24 (tN h_v0 (d := 31) (by decide)) (tT h_v0 31 (by decide) rfl) rfl (tR h_v0 31 2 33 (by decide) rfl (by decide)) ?_
  refine y_Sv (pc := 27) (As := [vr G (v1 + 33), vr G (v0 + 33)]) (rest := []) ok_X7_copyRow ml_X5_55 dX5_copyFrom_27 rfl ⟨rfl, rfl⟩ ⟨by decide, by decide⟩ ⟨Nat.le_refl _, Nat.le_refl _⟩ (Nat.le_of_ble_eq_true rfl) rfl h (fun I3 h => ?_)
  refine x_aload_n (pc := 30) dX5_copyFrom_30 rfl rfl ?_
  refine x_getR (pc := 31) (i := (v1 + 31)) (a := (v1 + 34)) fl_X5_22 dX5_copyFrom_31 (tN h_v1 (d := 31) (by decide)) (tT h_v1 31 (by decide) rfl) rfl (tR h_v1 31 3 34 (by decide) rfl (by decide)) ?_
  refine x_aload_n (pc := 34) dX5_copyFrom_34 rfl rfl ?_
  refine x_getR (pc := 35) (i := (v0 + 31)) (a := (v0 + 34)) fl_X5_22 dX5_copyFrom_35 (tN h_v0 (d := 31) (by decide)) (tT h_v0 31 (by decide) rfl) rfl (tR h_v0 31 3 34 (by decide) rfl (by decide)) ?_
  refine y_Sv (pc := 38) (As := [vr G (v1 + 34), vr G (v0 + 34)]) (rest := []) ok_X7_copyRow ml_X5_55 dX5_copyFrom_38 rfl ⟨rfl, rfl⟩ ⟨by decide, by decide⟩ ⟨Nat.le_refl _, Nat.le_refl _⟩ (Nat.le_of_ble_eq_true rfl) rfl h (fun I4 h => ?_)
  refine x_aload_n (pc := 41) dX5_copyFrom_41 rfl rfl ?_
  refine x_getR (pc := 42) (i := (v1 + 31)) (a := (v1 + 35)) fl_X5_25 dX5_copyFrom_42 (tN h_v1 (d := 31) (by decide)) (tT h_v1 31 (by decide) rfl) rfl (tR h_v1 31 4 35 (by decide) rfl (by decide)) ?_
  refine x_aload_n (pc := 45) dX5_copyFrom_45 rfl rfl ?_
  refine x_getR (pc := 46) (i := (v0 + 31)) (a := (v0 + 35)) fl_X5_25 dX5_copyFrom_46 (tN h_v0 (d := 31) (by decide)) (tT h_v0 31 (by decide) rfl) rfl (tR h_v0 31 4 35 (by decide) rfl (by decide)) ?_
  refine y_Sv (pc := 49) (As := [vr G (v1 + 35), vr G (v0 + 35)]) (rest := []) ok_X7_copyRow ml_X5_55 dX5_copyFrom_49 rfl ⟨rfl, rfl⟩ ⟨by decide, by decide⟩ ⟨Nat.le_refl _, Nat.le_refl _⟩ (Nat.le_of_ble_eq_true rfl) rfl h (fun I5 h => ?_)
  refine x_aload_n (pc := 52) dX5_copyFrom_52 rfl rfl ?_
  refine x_getR (pc := 53) (i := (v1 + 31)) (a := (v1 + 36)) fl_X5_28 dX5_copyFrom_53 (tN h_v1 (d := 31) (by decide)) (tT h_v1 31 (by decide) rfl) rfl (tR h_v1 31 5 36 (by decide) rfl (by decide)) ?_
  refine x_aload_n (pc := 56) dX5_copyFrom_56 rfl rfl ?_
  refine x_getR (pc := 57) (i := (v0 + 31)) (a := (v0 + 36)) fl_X5_28 dX5_copyFrom_57 (tN h_v0 (d := 31) (by decide)) (tT h_v0 31 (by decide) rfl) rfl (tR h_v0 31 5 36 (by decide) rfl (by decide)) ?_
  refine y_Sv (pc := 60) (As := [vr G (v1 + 36), vr G (v0 + 36)]) (rest := []) ok_X7_copyRow ml_X5_55 dX5_copyFrom_60 rfl ⟨rfl, rfl⟩ ⟨by decide, by decide⟩ ⟨Nat.le_refl _, Nat.le_refl _⟩ (Nat.le_of_ble_eq_true rfl) rfl h (fun I6 h => ?_)
  refine x_aload_n (pc := 63) dX5_copyFrom_63 rfl rfl ?_
  refine x_getR (pc := 64) (i := (v1 + 31)) (a := (v1 + 37)) fl_X5_31 dX5_copyFrom_64 (tN h_v1 (d := 31) (by decide)) (tT h_v1 31 (by decide) rfl) rfl (tR h_v1 31 6 37 (by decide) rfl (by decide)) ?_
  refine x_aload_n (pc := 67) dX5_copyFrom_67 rfl rfl ?_
  refine x_getR (pc := 68) (i := (v0 + 31)) (a := (v0 + 37)) fl_X5_31 dX5_copyFrom_68 (tN h_v0 (d := 31) (by decide)) (tT h_v0 31 (by decide) rfl) rfl (tR h_v0 31 6 37 (by decide) rfl (by decide)) ?_
  refine y_Sv (pc := 71) (As := [vr G (v1 + 37), vr G (v0 + 37)]) (rest := []) ok_X7_copyRow ml_X5_55 dX5_copyFrom_71 rfl ⟨rfl, rfl⟩ ⟨by decide, by decide⟩ ⟨Nat.le_refl _, Nat.le_refl _⟩ (Nat.le_of_ble_eq_true rfl) rfl h (fun I7 h => ?_)
  refine x_aload_n (pc := 74) dX5_copyFrom_74 rfl rfl ?_
  refine x_getR (pc := 75) (i := (v1 + 31)) (a := (v1 + 38)) fl_X5_34 dX5_copyFrom_75 (tN h_v1 (d := 31) (by decide)) (tT h_v1 31 (by decide) rfl) rfl (tR h_v1 31 7 38 (by decide) rfl (by decide)) ?_
  refine x_aload_n (pc := 78) dX5_copyFrom_78 rfl rfl ?_
  refine x_getR (pc := 79) (i := (v0 + 31)) (a := (v0 + 38)) fl_X5_34 dX5_copyFrom_79 (tN h_v0 (d := 31) (by decide)) (tT h_v0 31 (by decide) rfl) rfl (tR h_v0 31 7 38 (by decide) rfl (by decide)) ?_
  refine y_Sv (pc := 82) (As := [vr G (v1 + 38), vr G (v0 + 38)]) (rest := []) ok_X7_copyRow ml_X5_55 dX5_copyFrom_82 rfl ⟨rfl, rfl⟩ ⟨by decide, by decide⟩ ⟨Nat.le_refl _, Nat.le_refl _⟩ (Nat.le_of_ble_eq_true rfl) rfl h (fun I8 h => ?_)
  exact y_vret (pc := 85) dX5_copyFrom_85 rfl ⟨Nat.le_refl _, Nat.le_refl _⟩ h
set_option maxHeartbeats 4000000 in
set_option maxRecDepth 100000 in
theorem b_Tc_readers {G : XG} {S : XS} {I : XI} {v0 v1 : Nat} {R : XI → Prop} (h_v0 : ToldAt S v0) (h_v1 : ToldAt S v1) (h : (∀ I1 : XI, I1 = up I (v0 + 39) 0 (I (v1 + 39) 0) → To_copyRow G S I1 ((v1 + 40)) ((v0 + 40)) (fun I2 => To_copyRow G S I2 ((v1 + 41)) ((v0 + 41)) (fun I3 => R I3)))) : Tc_readers G S I v0 v1 R := by
  refine x_start [some (vr G (v0 + 39)), some (vr G (v1 + 39))] (by decide) (Nat.le_of_ble_eq_true rfl) rfl ?_
  refine x_aload_n (pc := 0) dX4_copyFrom_0 rfl rfl ?_
  refine x_aload_n (pc := 1) dX4_copyFrom_1 rfl rfl ?_
  refine x_getI (pc := 2) (i := (v1 + 39)) fl_X4_9 dX4_copyFrom_2 (tN h_v1 (d := 39) (by decide)) (tT h_v1 39 (by decide) rfl) rfl ?_
  refine x_putI (pc := 5) (i := (v0 + 39)) fl_X4_9 dX4_copyFrom_5 (tN h_v0 (d := 39) (by decide)) (tT h_v0 39 (by decide) rfl) rfl ?_
  have h := h _ rfl
  generalize up I (v0 + 39) 0 (I (v1 + 39) 0) = I1 at h ⊢
  refine x_aload_n (pc := 8) dX4_copyFrom_8 rfl rfl ?_
  refine x_getR (pc := 9) (i := (v1 + 39)) (a := (v1 + 40)) fl_X4_15 dX4_copyFrom_9 (tN h_v1 (d := 39) (by decide)) (tT h_v1 39 (by decide) rfl) rfl (tR h_v1 39 1 40 (by decide) rfl (by decide)) ?_
  refine x_aload_n (pc := 12) dX4_copyFrom_12 rfl rfl ?_
  refine x_getR (pc := 13) (i := (v0 + 39)) (a := (v0 + 40)) fl_X4_15 dX4_copyFrom_13 (tN h_v0 (d := 39) (by decide)) (tT h_v0 39 (by decide) rfl) rfl (tR h_v0 39 1 40 (by decide) rfl (by decide)) ?_
  refine y_Sv (pc := 16) (As := [vr G (v1 + 40), vr G (v0 + 40)]) (rest := []) ok_X7_copyRow ml_X4_40 dX4_copyFrom_16 rfl ⟨rfl, rfl⟩ ⟨by decide, by decide⟩ ⟨Nat.le_refl _, Nat.le_refl _⟩ (Nat.le_of_ble_eq_true rfl) rfl h (fun I2 h => ?_)
  refine x_aload_n (pc := 19) dX4_copyFrom_19 rfl rfl ?_
  refine x_getR (pc := 20) (i := (v1 + 39)) (a := (v1 + 41)) fl_X4_19 dX4_copyFrom_20 (tN h_v1 (d := 39) (by decide)) (tT h_v1 39 (by decide) rfl) rfl (tR h_v1 39 2 41 (by decide) rfl (by decide)) ?_
  refine x_aload_n (pc := 23) dX4_copyFrom_23 rfl rfl ?_
  refine x_getR (pc := 24) (i := (v0 + 39)) (a := (v0 + 41)) fl_X4_19 dX4_copyFrom_24 (tN h_v0 (d := 39) (by decide)) (tT h_v0 39 (by decide) rfl) rfl (tR h_v0 39 2 41 (by decide) rfl (by decide)) ?_
  refine y_Sv (pc := 27) (As := [vr G (v1 + 41), vr G (v0 + 41)]) (rest := []) ok_X7_copyRow ml_X4_40 dX4_copyFrom_27 rfl ⟨rfl, rfl⟩ ⟨by decide, by decide⟩ ⟨Nat.le_refl _, Nat.le_refl _⟩ (Nat.le_of_ble_eq_true rfl) rfl h (fun I3 h => ?_)
  exact y_vret (pc := 30) dX4_copyFrom_30 rfl ⟨Nat.le_refl _, Nat.le_refl _⟩ h
set_option maxHeartbeats 4000000 in
set_option maxRecDepth 100000 in
theorem b_Tc_told {G : XG} {S : XS} {I : XI} {v0 v1 : Nat} {R : XI → Prop} (h_v0 : ToldAt S v0) (h_v1 : ToldAt S v1) (h : Tc_land G S I v0 v1 (fun I1 => Tc_herds G S I1 v0 v1 (fun I2 => Tc_shelf G S I2 v0 v1 (fun I3 => Tc_rules G S I3 v0 v1 (fun I4 => Tc_readers G S I4 v0 v1 (fun I5 => To_copyRow G S I5 ((v1 + 42)) ((v0 + 42)) (fun I6 => (∀ I7 : XI, I7 = up I6 v0 6 (I6 v1 6) → (∀ I8 : XI, I8 = up I7 v0 7 (I7 v1 7) → (∀ I9 : XI, I9 = up I8 v0 8 (I8 v1 8) → (∀ I10 : XI, I10 = up I9 v0 9 (I9 v1 9) → (∀ I11 : XI, I11 = up I10 v0 10 (I10 v1 10) → R I11)))))))))))) : Tc_told G S I v0 v1 R := by
  refine x_start [some (vr G v0), some (vr G v1)] (by decide) (Nat.le_of_ble_eq_true rfl) rfl ?_
  refine x_aload_n (pc := 0) dX7_copyFrom_0 rfl rfl ?_
  refine x_getR (pc := 1) (i := v0) (a := (v0 + 1)) fl_X7_12 dX7_copyFrom_1 (tN h_v0 (d := 0) (by decide)) (tT h_v0 0 (by decide) rfl) rfl (tR h_v0 0 0 1 (by decide) rfl (by decide)) ?_
  refine x_aload_n (pc := 4) dX7_copyFrom_4 rfl rfl ?_
  refine x_getR (pc := 5) (i := v1) (a := (v1 + 1)) fl_X7_12 dX7_copyFrom_5 (tN h_v1 (d := 0) (by decide)) (tT h_v1 0 (by decide) rfl) rfl (tR h_v1 0 0 1 (by decide) rfl (by decide)) ?_
  refine y_Vv (pc := 8) (i := (v0 + 1)) (As := [vr G (v1 + 1)]) (rest := []) ok_X2_copyFrom ml_X7_66 dX7_copyFrom_8 (tN h_v0 (d := 1) (by decide)) (tT h_v0 1 (by decide) rfl) (by decide) rfl rfl rfl ⟨rfl, rfl⟩ ⟨by decide, by decide⟩ ⟨Nat.le_refl _, Nat.le_refl _⟩ (Nat.le_of_ble_eq_true rfl) rfl h (fun I1 h => ?_)
  refine x_aload_n (pc := 11) dX7_copyFrom_11 rfl rfl ?_
  refine x_getR (pc := 12) (i := v0) (a := (v0 + 8)) fl_X7_21 dX7_copyFrom_12 (tN h_v0 (d := 0) (by decide)) (tT h_v0 0 (by decide) rfl) rfl (tR h_v0 0 1 8 (by decide) rfl (by decide)) ?_
  refine x_aload_n (pc := 15) dX7_copyFrom_15 rfl rfl ?_
  refine x_getR (pc := 16) (i := v1) (a := (v1 + 8)) fl_X7_21 dX7_copyFrom_16 (tN h_v1 (d := 0) (by decide)) (tT h_v1 0 (by decide) rfl) rfl (tR h_v1 0 1 8 (by decide) rfl (by decide)) ?_
  refine y_Vv (pc := 19) (i := (v0 + 8)) (As := [vr G (v1 + 8)]) (rest := []) ok_X1_copyFrom ml_X7_70 dX7_copyFrom_19 (tN h_v0 (d := 8) (by decide)) (tT h_v0 8 (by decide) rfl) (by decide) rfl rfl rfl ⟨rfl, rfl⟩ ⟨by decide, by decide⟩ ⟨Nat.le_refl _, Nat.le_refl _⟩ (Nat.le_of_ble_eq_true rfl) rfl h (fun I2 h => ?_)
  refine x_aload_n (pc := 22) dX7_copyFrom_22 rfl rfl ?_
  refine x_getR (pc := 23) (i := v0) (a := (v0 + 18)) fl_X7_28 dX7_copyFrom_23 (tN h_v0 (d := 0) (by decide)) (tT h_v0 0 (by decide) rfl) rfl (tR h_v0 0 2 18 (by decide) rfl (by decide)) ?_
  refine x_aload_n (pc := 26) dX7_copyFrom_26 rfl rfl ?_
  refine x_getR (pc := 27) (i := v1) (a := (v1 + 18)) fl_X7_28 dX7_copyFrom_27 (tN h_v1 (d := 0) (by decide)) (tT h_v1 0 (by decide) rfl) rfl (tR h_v1 0 2 18 (by decide) rfl (by decide)) ?_
  refine y_Vv (pc := 30) (i := (v0 + 18)) (As := [vr G (v1 + 18)]) (rest := []) ok_X6_copyFrom ml_X7_73 dX7_copyFrom_30 (tN h_v0 (d := 18) (by decide)) (tT h_v0 18 (by decide) rfl) (by decide) rfl rfl rfl ⟨rfl, rfl⟩ ⟨by decide, by decide⟩ ⟨Nat.le_refl _, Nat.le_refl _⟩ (Nat.le_of_ble_eq_true rfl) rfl h (fun I3 h => ?_)
  refine x_aload_n (pc := 33) dX7_copyFrom_33 rfl rfl ?_
  refine x_getR (pc := 34) (i := v0) (a := (v0 + 31)) fl_X7_35 dX7_copyFrom_34 (tN h_v0 (d := 0) (by decide)) (tT h_v0 0 (by decide) rfl) rfl (tR h_v0 0 3 31 (by decide) rfl (by decide)) ?_
  refine x_aload_n (pc := 37) dX7_copyFrom_37 rfl rfl ?_
  refine x_getR (pc := 38) (i := v1) (a := (v1 + 31)) fl_X7_35 dX7_copyFrom_38 (tN h_v1 (d := 0) (by decide)) (tT h_v1 0 (by decide) rfl) rfl (tR h_v1 0 3 31 (by decide) rfl (by decide)) ?_
  refine y_Vv (pc := 41) (i := (v0 + 31)) (As := [vr G (v1 + 31)]) (rest := []) ok_X5_copyFrom ml_X7_76 dX7_copyFrom_41 (tN h_v0 (d := 31) (by decide)) (tT h_v0 31 (by decide) rfl) (by decide) rfl rfl rfl ⟨rfl, rfl⟩ ⟨by decide, by decide⟩ ⟨Nat.le_refl _, Nat.le_refl _⟩ (Nat.le_of_ble_eq_true rfl) rfl h (fun I4 h => ?_)
  refine x_aload_n (pc := 44) dX7_copyFrom_44 rfl rfl ?_
  refine x_getR (pc := 45) (i := v0) (a := (v0 + 39)) fl_X7_42 dX7_copyFrom_45 (tN h_v0 (d := 0) (by decide)) (tT h_v0 0 (by decide) rfl) rfl (tR h_v0 0 4 39 (by decide) rfl (by decide)) ?_
  refine x_aload_n (pc := 48) dX7_copyFrom_48 rfl rfl ?_
  refine x_getR (pc := 49) (i := v1) (a := (v1 + 39)) fl_X7_42 dX7_copyFrom_49 (tN h_v1 (d := 0) (by decide)) (tT h_v1 0 (by decide) rfl) rfl (tR h_v1 0 4 39 (by decide) rfl (by decide)) ?_
  refine y_Vv (pc := 52) (i := (v0 + 39)) (As := [vr G (v1 + 39)]) (rest := []) ok_X4_copyFrom ml_X7_79 dX7_copyFrom_52 (tN h_v0 (d := 39) (by decide)) (tT h_v0 39 (by decide) rfl) (by decide) rfl rfl rfl ⟨rfl, rfl⟩ ⟨by decide, by decide⟩ ⟨Nat.le_refl _, Nat.le_refl _⟩ (Nat.le_of_ble_eq_true rfl) rfl h (fun I5 h => ?_)
  refine x_aload_n (pc := 55) dX7_copyFrom_55 rfl rfl ?_
  refine x_getR (pc := 56) (i := v1) (a := (v1 + 42)) fl_X7_46 dX7_copyFrom_56 (tN h_v1 (d := 0) (by decide)) (tT h_v1 0 (by decide) rfl) rfl (tR h_v1 0 5 42 (by decide) rfl (by decide)) ?_
  refine x_aload_n (pc := 59) dX7_copyFrom_59 rfl rfl ?_
  refine x_getR (pc := 60) (i := v0) (a := (v0 + 42)) fl_X7_46 dX7_copyFrom_60 (tN h_v0 (d := 0) (by decide)) (tT h_v0 0 (by decide) rfl) rfl (tR h_v0 0 5 42 (by decide) rfl (by decide)) ?_
  refine y_Sv (pc := 63) (As := [vr G (v1 + 42), vr G (v0 + 42)]) (rest := []) ok_X7_copyRow ml_X7_82 dX7_copyFrom_63 rfl ⟨rfl, rfl⟩ ⟨by decide, by decide⟩ ⟨Nat.le_refl _, Nat.le_refl _⟩ (Nat.le_of_ble_eq_true rfl) rfl h (fun I6 h => ?_)
  refine x_aload_n (pc := 66) dX7_copyFrom_66 rfl rfl ?_
  refine x_aload_n (pc := 67) dX7_copyFrom_67 rfl rfl ?_
  refine x_getI (pc := 68) (i := v1) fl_X7_50 dX7_copyFrom_68 (tN h_v1 (d := 0) (by decide)) (tT h_v1 0 (by decide) rfl) rfl ?_
  refine x_putI (pc := 71) (i := v0) fl_X7_50 dX7_copyFrom_71 (tN h_v0 (d := 0) (by decide)) (tT h_v0 0 (by decide) rfl) rfl ?_
  have h := h _ rfl
  generalize up I6 v0 6 (I6 v1 6) = I7 at h ⊢
  refine x_aload_n (pc := 74) dX7_copyFrom_74 rfl rfl ?_
  refine x_aload_n (pc := 75) dX7_copyFrom_75 rfl rfl ?_
  refine x_getI (pc := 76) (i := v1) fl_X7_54 dX7_copyFrom_76 (tN h_v1 (d := 0) (by decide)) (tT h_v1 0 (by decide) rfl) rfl ?_
  refine x_putI (pc := 79) (i := v0) fl_X7_54 dX7_copyFrom_79 (tN h_v0 (d := 0) (by decide)) (tT h_v0 0 (by decide) rfl) rfl ?_
  have h := h _ rfl
  generalize up I7 v0 7 (I7 v1 7) = I8 at h ⊢
  refine x_aload_n (pc := 82) dX7_copyFrom_82 rfl rfl ?_
  refine x_aload_n (pc := 83) dX7_copyFrom_83 rfl rfl ?_
  refine x_getI (pc := 84) (i := v1) fl_X7_57 dX7_copyFrom_84 (tN h_v1 (d := 0) (by decide)) (tT h_v1 0 (by decide) rfl) rfl ?_
  refine x_putI (pc := 87) (i := v0) fl_X7_57 dX7_copyFrom_87 (tN h_v0 (d := 0) (by decide)) (tT h_v0 0 (by decide) rfl) rfl ?_
  have h := h _ rfl
  generalize up I8 v0 8 (I8 v1 8) = I9 at h ⊢
  refine x_aload_n (pc := 90) dX7_copyFrom_90 rfl rfl ?_
  refine x_aload_n (pc := 91) dX7_copyFrom_91 rfl rfl ?_
  refine x_getI (pc := 92) (i := v1) fl_X7_60 dX7_copyFrom_92 (tN h_v1 (d := 0) (by decide)) (tT h_v1 0 (by decide) rfl) rfl ?_
  refine x_putI (pc := 95) (i := v0) fl_X7_60 dX7_copyFrom_95 (tN h_v0 (d := 0) (by decide)) (tT h_v0 0 (by decide) rfl) rfl ?_
  have h := h _ rfl
  generalize up I9 v0 9 (I9 v1 9) = I10 at h ⊢
  refine x_aload_n (pc := 98) dX7_copyFrom_98 rfl rfl ?_
  refine x_aload_n (pc := 99) dX7_copyFrom_99 rfl rfl ?_
  refine x_getI (pc := 100) (i := v1) fl_X7_63 dX7_copyFrom_100 (tN h_v1 (d := 0) (by decide)) (tT h_v1 0 (by decide) rfl) rfl ?_
  refine x_putI (pc := 103) (i := v0) fl_X7_63 dX7_copyFrom_103 (tN h_v0 (d := 0) (by decide)) (tT h_v0 0 (by decide) rfl) rfl ?_
  have h := h _ rfl
  generalize up I10 v0 10 (I10 v1 10) = I11 at h ⊢
  exact y_vret (pc := 106) dX7_copyFrom_106 rfl ⟨Nat.le_refl _, Nat.le_refl _⟩ h
