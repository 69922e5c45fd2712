/-! ===== String.length and String.charAt of the sixteen constants ===== -/
abbrev vt (G : XG) (q : Nat) : Value := .ref (G.2.2.2.2.1 q)
def xsC (q j : Nat) : Int := ((xsB.getD q []).getD j 0).toInt
theorem wf_sv : Cond.fieldLink RJ0 9 "java/lang/String" "value" "[B" ∈ lw_gd := gdT 1759 (by decide +kernel) rfl
theorem wf_sc : Cond.fieldLink RJ0 15 "java/lang/String" "coder" "B" ∈ lw_gd := gdT 1760 (by decide +kernel) rfl
theorem wf_cs : Cond.fieldLink RJ0 38 "java/lang/String" "COMPACT_STRINGS" "Z" ∈ lw_gd := gdT 813 (by decide +kernel) rfl
theorem wf_sf : Cond.fieldLink RJ0 1053 "jdk/internal/util/Preconditions" "SIOOBE_FORMATTER" "Ljava/util/function/BiFunction;" ∈ lw_gd := gdT 829 (by decide +kernel) rfl
section XT
variable {G : XG} {μ : XMeth} {k : Nat × Nat} {pc : Nat} {L : List (Option Value)} {st : List Value} {S : XS} {I : XI} {Q : Option Value → XS → XI → Prop} {q : Nat}
theorem t_val (ho : μ.1.cls = RJ0) (hd : decode μ.2.1 pc = .ok (.getfield 9, 3)) (hq : q < 16) (kk : Xw G μ k (pc + 3) L (vt G q :: st) S I Q) : Xw G μ k pc L (vs G q :: st) S I Q := by
  intro p l e s m args below meth c C H locs ls hR hS hL
  have kk := kk p l e s m args below meth c C H locs ls hR hS hL
  have hw : Cond.fieldLink μ.1.cls 9 "java/lang/String" "value" "[B" ∈ lw_gd := by rw [ho]; exact wf_sv
  exact vk_getf C.1 C.2.1 (C.2.2.2.2.2.2.2.2.2.1.1.1 q hq).2.2.1 hS C.2.2.2.2.1 (C.2.2.2.2.2.1 _ hw) (fun x h => h) hd kk
theorem t_cod (ho : μ.1.cls = RJ0) (hd : decode μ.2.1 pc = .ok (.getfield 15, 3)) (hq : q < 16) (kk : Xw G μ k (pc + 3) L (vi 0 :: st) S I Q) : Xw G μ k pc L (vs G q :: st) S I Q := by
  intro p l e s m args below meth c C H locs ls hR hS hL
  have kk := kk p l e s m args below meth c C H locs ls hR hS hL
  have hw : Cond.fieldLink μ.1.cls 15 "java/lang/String" "coder" "B" ∈ lw_gd := by rw [ho]; exact wf_sc
  exact vk_getf C.1 C.2.1 (C.2.2.2.2.2.2.2.2.2.1.1.1 q hq).2.1 hS C.2.2.2.2.1 (C.2.2.2.2.2.1 _ hw) (fun x h => h) hd kk
theorem t_cs (ho : μ.1.cls = RJ0) (hd : decode μ.2.1 pc = .ok (.getstatic 38, 3)) (kk : Xw G μ k (pc + 3) L (vi 1 :: st) S I Q) : Xw G μ k pc L st S I Q := by
  intro p l e s m args below meth c C H locs ls hR hS hL
  have kk := kk p l e s m args below meth c C H locs ls hR hS hL
  have hw : Cond.fieldLink μ.1.cls 38 "java/lang/String" "COMPACT_STRINGS" "Z" ∈ lw_gd := by rw [ho]; exact wf_cs
  exact va_gets C.1 C.2.1 C.2.2.2.2.2.2.2.2.2.1.2.1 hS C.2.2.2.2.1 (C.2.2.2.2.2.1 _ hw) (fun x h => h) hd kk
theorem t_sf (ho : μ.1.cls = RJ0) (hd : decode μ.2.1 pc = .ok (.getstatic 1053, 3)) (kk : ∀ r : Option Nat, Xw G μ k (pc + 3) L (va_rf r :: st) S I Q) : Xw G μ k pc L st S I Q := by
  intro p l e s m args below meth c C H locs ls hR hS hL
  obtain ⟨r, hr⟩ := C.2.2.2.2.2.2.2.2.2.1.2.2.1
  have kk := kk r p l e s m args below meth c C H locs ls hR hS hL
  have hw : Cond.fieldLink μ.1.cls 1053 "jdk/internal/util/Preconditions" "SIOOBE_FORMATTER" "Ljava/util/function/BiFunction;" ∈ lw_gd := by rw [ho]; exact wf_sf
  exact va_gets C.1 C.2.1 hr hS C.2.2.2.2.1 (C.2.2.2.2.2.1 _ hw) (fun x h => h) hd kk
theorem t_len (hd : decode μ.2.1 pc = .ok (.arraylength, 1)) (hq : q < 16) (kk : Xw G μ k (pc + 1) L (vi ((xsL.getD q 0 : Nat) : Int) :: st) S I Q) : Xw G μ k pc L (vt G q :: st) S I Q := by
  intro p l e s m args below meth c C H locs ls hR hS hL
  have kk := kk p l e s m args below meth c C H locs ls hR hS hL
  exact va_tlen C.1 C.2.1 (C.2.2.2.2.2.2.2.2.2.1.1.1 q hq).2.2.2 hS (i_nat _) hd kk
theorem t_ald {x : Int} (hd : decode μ.2.1 pc = .ok (.baload, 1)) (hq : q < 16) (hb : inb x (xsL.getD q 0)) (kk : Xw G μ k (pc + 1) L (vi (xsC q (ix x)) :: st) S I Q) : Xw G μ k pc L (vi x :: vt G q :: st) S I Q := by
  intro p l e s m args below meth c C H locs ls hR hS hL
  have kk := kk p l e s m args below meth c C H locs ls hR hS hL
  obtain ⟨cell, h1, h2, h3, h4, h5, h6, h7⟩ := (C.2.2.2.2.2.2.2.2.2.1.1.1 q hq).2.2.2
  have hlt := inb_lt hb
  have hin := inb_vp hb
  refine W.bald (v := vi (xsC q (ix x))) C.1 C.2.1 (by rw [hS.2.1 _ (Array.getElem?_eq_some_iff.mp h1).1 h7]; exact h1) h2 h3 (fun z => ?_) (by rw [ix_clamp, h6 _ hlt]; show _ = some (Value.int (Int32.ofInt (xsC q (ix x)))); unfold xsC; rw [i_of]) rfl rfl hd kk
  rcases z with z | z
  · exact hin (Or.inl z)
  · rw [ix_clamp] at z; omega
theorem tt_i2c {x z : Int} (hd : decode μ.2.1 pc = .ok (.i2c, 1)) (hz : ((Int32.ofInt x).toUInt32 % 65536).toInt32 = Int32.ofInt z) (kk : Xw G μ k (pc + 1) L (vi z :: st) S I Q) : Xw G μ k pc L (vi x :: st) S I Q := by
  intro p l e s m args below meth c C H locs ls hR hS hL
  exact lv_i2c C.1 C.2.1 hd hz (kk p l e s m args below meth c C H locs ls hR hS hL)
theorem t_ret {z : Int} {ty : FieldType} {R : Int → XI → Prop} (hd : decode μ.2.1 pc = .ok (.ireturn, 1)) (hr : μ.2.2.2.1 = some ty) (hk : k.1 ≤ μ.2.2.2.2.2.2.1 ∧ k.2 ≤ μ.2.2.2.2.2.2.2) (hn : narrow ty (vi z) = vi z) (hq : R z I) : Xw G μ k pc L [vi z] S I (qi S R) := by
  intro p l e s m args below meth c C H locs ls hR hS hL
  have hlocks := C.2.2.2.2.2.2.1
  refine W.widen hk.1 hk.2 (W.zret C.1 C.2.1 (C.2.2.1.trans hr) hn (fun t ht hW => ⟨_, S, I, rfl, ⟨rfl, z, rfl, hq⟩, by rw [ht]; exact hR, hS.F ht⟩) hS.2.2 hd)
/-- a call on a constant -/
theorem t_callV {μ' : XMeth} {idx n : Nat} {As rest : List Value} {R : Int → XI → Prop} (hm : xMokV μ' n) (hw : Cond.methodLink μ.1.cls idx μ'.1 ∈ lw_gd) (hd : decode μ.2.1 pc = .ok (.invokevirtual idx, 3)) (hq : q < 16) (hcls : μ'.1.cls = RJ0) (hn : As.length = n) (h0 : x0 μ') (hf : xf0 μ μ') (hk : k.1 ≤ μ.2.2.2.2.2.2.1 ∧ k.2 ≤ μ.2.2.2.2.2.2.2) (hcat : (rest.map fun v => v.category).sum ≤ 8)
    (hst : st = As.reverse ++ vs G q :: rest) (hM : Mw G μ' (vs G q :: As) S I (qi S R)) (kk : ∀ r I', R r I' → Xw G μ k (pc + 3) L (vi r :: rest) S I' Q) : Xw G μ k pc L st S I Q := by
  intro p l e s m args below meth c C H locs ls hR hS hL
  have hts := C.2.2.2.2.2.1
  have hrc := vk_recv C.2.2.2.2.2.2.2.2.2.1.1 hq hS
  have hrc' : ∃ cell : Cell, H[G.2.2.2.1 q]? = some cell ∧ cell.vm.isStatics = false ∧ s.vm.findClass μ'.1.cls = some cell.cls := by rw [hcls]; exact hrc
  have hf' := xfit0 (k := k) h0 hf hk
  refine x_after C (va_runV (C := μ'.1.cls) (bytes := μ'.2.1) (maxL := μ'.2.2.1) (ret := μ'.2.2.2.1) (nL := μ.2.2.1) (cc := μ.2.1) ⟨C.1, C.2.1, C.2.2.2.1, C.2.2.2.2.1, hts⟩ (hM l) ⟨callB_of n hts (xgood hm.1) rfl rfl rfl (hts _ hm.1.1) (hts _ hw) hm.1.2.2 hf'.1, hts _ hm.2.1, hts _ hm.2.2⟩ ⟨xPc_blind, hrc', x_pre C hR hS⟩ rfl hn hL.1 hst (lv_room hcat) hd hf'.2) hS hL (fun v S' I' h => ?_)
  obtain ⟨rfl, z, rfl, h⟩ := h
  rw [h0.1, h0.2]
  exact kk z I' h
end XT
section XU
variable {G : XG} {S : XS} {I : XI} {q : Nat}
theorem t_coder {R : Int → XI → Prop} (hq : q < 16) (h : R 0 I) : Mw G mJ0_coder_7d493 [vs G q] S I (qi S R) := by
  refine x_start [some (vs G q)] (by decide) (Nat.le_of_ble_eq_true rfl) rfl ?_
  refine t_cs (pc := 0) rfl dJ0_coder_7d493_0 ?_
  refine x_if_eq (pc := 3) (t := 13) dJ0_coder_7d493_3 (by decide) (fun e => absurd e (by decide)) (fun e => ?_)
  refine x_aload_n (pc := 6) dJ0_coder_7d493_6 rfl rfl ?_
  refine t_cod (pc := 7) (q := q) rfl dJ0_coder_7d493_7 hq ?_
  refine x_goto (pc := 10) (t := 14) dJ0_coder_7d493_10 (by decide) ?_
  exact t_ret (pc := 14) dJ0_coder_7d493_14 rfl ⟨Nat.le_refl _, Nat.le_refl _⟩ rfl h
theorem t_latin {R : Int → XI → Prop} (hq : q < 16) (h : R 1 I) : Mw G mJ0_isLatin1_aae02 [vs G q] S I (qi S R) := by
  refine x_start [some (vs G q)] (by decide) (Nat.le_of_ble_eq_true rfl) rfl ?_
  refine t_cs (pc := 0) rfl dJ0_isLatin1_aae02_0 ?_
  refine x_if_eq (pc := 3) (t := 17) dJ0_isLatin1_aae02_3 (by decide) (fun e => absurd e (by decide)) (fun e => ?_)
  refine x_aload_n (pc := 6) dJ0_isLatin1_aae02_6 rfl rfl ?_
  refine t_cod (pc := 7) (q := q) rfl dJ0_isLatin1_aae02_7 hq ?_
  refine x_if_ne (pc := 10) (t := 17) dJ0_isLatin1_aae02_10 (by decide) (fun e => ?_) (fun e => absurd rfl e)
  refine x_iconst (pc := 13) dJ0_isLatin1_aae02_13 ?_
  refine x_goto (pc := 14) (t := 18) dJ0_isLatin1_aae02_14 (by decide) ?_
  exact t_ret (pc := 18) dJ0_isLatin1_aae02_18 rfl ⟨Nat.le_refl _, Nat.le_refl _⟩ rfl h
theorem t_pre {R : Int → XI → Prop} {x n : Int} {r : Option Nat} (h0 : 0 ≤ w32 x) (h1 : w32 x < w32 n) (h : R x I) : Mw G mJ3_checkIndex_8e157 [vi x, vi n, va_rf r] S I (qi S R) := by
  refine x_start [some (vi x), some (vi n), some (va_rf r)] (by decide) (by cases r <;> exact Nat.le_of_ble_eq_true rfl) (by cases r <;> rfl) ?_
  refine x_iload_n (pc := 0) dJ3_checkIndex_8e157_0 rfl rfl ?_
  refine x_if_lt (pc := 1) (t := 9) dJ3_checkIndex_8e157_1 (by decide) (fun e => absurd e (by omega)) (fun e => ?_)
  refine x_iload_n (pc := 4) dJ3_checkIndex_8e157_4 rfl rfl ?_
  refine x_iload_n (pc := 5) dJ3_checkIndex_8e157_5 rfl rfl ?_
  refine x_icmp_lt (pc := 6) (t := 16) dJ3_checkIndex_8e157_6 (by decide) (fun e => ?_) (fun e => absurd h1 e)
  refine x_iload_n (pc := 16) dJ3_checkIndex_8e157_16 rfl rfl ?_
  exact y_iret (pc := 17) dJ3_checkIndex_8e157_17 rfl ⟨Nat.le_refl _, Nat.le_refl _⟩ h
theorem t_chk {R : XI → Prop} {x n : Int} (h0 : 0 ≤ w32 x) (h1 : w32 x < w32 n) (h : R I) : Mw G mJ0_checkIndex_df160 [vi x, vi n] S I (qv S R) := by
  refine x_start [some (vi x), some (vi n)] (by decide) (Nat.le_of_ble_eq_true rfl) rfl ?_
  refine x_iload_n (pc := 0) dJ0_checkIndex_df160_0 rfl rfl ?_
  refine x_iload_n (pc := 1) dJ0_checkIndex_df160_1 rfl rfl ?_
  refine t_sf (pc := 2) rfl dJ0_checkIndex_df160_2 (fun r => ?_)
  refine y_Si (pc := 5) (As := [vi x, vi n, va_rf r]) (rest := []) (R := fun _ I' => R I') ok_J3_checkIndex_8e157 ml_J0_1059 dJ0_checkIndex_df160_5 rfl ⟨rfl, rfl⟩ ⟨by decide, by decide⟩ ⟨Nat.le_refl _, Nat.le_refl _⟩ (Nat.le_of_ble_eq_true rfl) rfl (t_pre h0 h1 h) (fun r1 I1 h => ?_)
  refine x_pop (pc := 8) dJ0_checkIndex_df160_8 rfl ?_
  exact y_vret (pc := 9) dJ0_checkIndex_df160_9 rfl ⟨Nat.le_refl _, Nat.le_refl _⟩ h
theorem xsC_in : ∀ q, q < 16 → ∀ j, j < xsL.getD q 0 → 97 ≤ xsC q j ∧ xsC q j ≤ 122 ∧ iand (xsC q j) 255 = xsC q j ∧ ((Int32.ofInt (xsC q j)).toUInt32 % 65536).toInt32 = Int32.ofInt (xsC q j) ∧ narrow .char (vi (xsC q j)) = vi (xsC q j) := by decide +kernel
theorem xsL_in : ∀ q, q < 16 → xsL.getD q 0 < 7 := by decide +kernel
theorem t_char1 {R : Int → XI → Prop} {x : Int} (hq : q < 16) (hb : inb x (xsL.getD q 0)) (h : R (xsC q (ix x)) I) : Mw G mJ1_charAt_3b067 [vt G q, vi x] S I (qi S R) := by
  obtain ⟨-, -, c3, c4, c5⟩ := xsC_in q hq (ix x) (inb_lt hb)
  have hl := xsL_in q hq
  have hb' := hb
  unfold inb at hb'
  refine x_start [some (vt G q), some (vi x)] (by decide) (Nat.le_of_ble_eq_true rfl) rfl ?_
  refine x_iload_n (pc := 0) dJ1_charAt_3b067_0 rfl rfl ?_
  refine x_aload_n (pc := 1) dJ1_charAt_3b067_1 rfl rfl ?_
  refine t_len (pc := 2) (q := q) dJ1_charAt_3b067_2 hq ?_
  refine y_Sv (pc := 3) (As := [vi x, vi ((xsL.getD q 0 : Nat) : Int)]) (rest := []) (R := fun I' => I' = I) ok_J0_checkIndex_df160 ml_J1_9 dJ1_charAt_3b067_3 rfl ⟨rfl, rfl⟩ ⟨by decide, by decide⟩ ⟨Nat.le_refl _, Nat.le_refl _⟩ (Nat.le_of_ble_eq_true rfl) rfl (t_chk hb'.1 (by rw [w32_id (z := ((xsL.getD q 0 : Nat) : Int)) (by omega) (by omega)]; exact hb'.2) rfl) (fun I1 e => ?_)
  subst e
  refine x_aload_n (pc := 6) dJ1_charAt_3b067_6 rfl rfl ?_
  refine x_iload_n (pc := 7) dJ1_charAt_3b067_7 rfl rfl ?_
  refine t_ald (pc := 8) (q := q) dJ1_charAt_3b067_8 hq hb ?_
  refine x_sipush (pc := 9) dJ1_charAt_3b067_9 (by decide) ?_
  refine x_iand (pc := 12) dJ1_charAt_3b067_12 ?_
  rw [c3]
  refine tt_i2c (pc := 13) (z := xsC q (ix x)) dJ1_charAt_3b067_13 c4 ?_
  exact t_ret (pc := 14) dJ1_charAt_3b067_14 rfl ⟨Nat.le_refl _, Nat.le_refl _⟩ c5 h
theorem t_char {R : Int → XI → Prop} {x : Int} (hq : q < 16) (hb : inb x (xsL.getD q 0)) (h : R (xsC q (ix x)) I) : Mw G mJ0_charAt_5068e [vs G q, vi x] S I (qi S R) := by
  obtain ⟨-, -, c3, c4, c5⟩ := xsC_in q hq (ix x) (inb_lt hb)
  refine x_start [some (vs G q), some (vi x)] (by decide) (Nat.le_of_ble_eq_true rfl) rfl ?_
  refine x_aload_n (pc := 0) dJ0_charAt_5068e_0 rfl rfl ?_
  refine t_callV (pc := 1) (q := q) (As := []) (rest := []) (R := fun r I' => r = 1 ∧ I' = I) ok_J0_isLatin1_aae02 ml_J0_492 dJ0_charAt_5068e_1 hq rfl rfl ⟨rfl, rfl⟩ ⟨by decide, by decide⟩ ⟨Nat.le_refl _, Nat.le_refl _⟩ (Nat.le_of_ble_eq_true rfl) rfl (t_latin hq ⟨rfl, rfl⟩) (fun r1 I1 e => ?_)
  obtain ⟨rfl, rfl⟩ := e
  refine x_if_eq (pc := 4) (t := 16) dJ0_charAt_5068e_4 (by decide) (fun e => absurd e (by decide)) (fun e => ?_)
  refine x_aload_n (pc := 7) dJ0_charAt_5068e_7 rfl rfl ?_
  refine t_val (pc := 8) (q := q) rfl dJ0_charAt_5068e_8 hq ?_
  refine x_iload_n (pc := 11) dJ0_charAt_5068e_11 rfl rfl ?_
  refine y_Si (pc := 12) (As := [vt G q, vi x]) (rest := []) (R := fun r I' => r = xsC q (ix x) ∧ I' = I1) ok_J1_charAt_3b067 ml_J0_495 dJ0_charAt_5068e_12 rfl ⟨rfl, rfl⟩ ⟨by decide, by decide⟩ ⟨Nat.le_refl _, Nat.le_refl _⟩ (Nat.le_of_ble_eq_true rfl) rfl (t_char1 hq hb ⟨rfl, rfl⟩) (fun r2 I2 e => ?_)
  obtain ⟨rfl, rfl⟩ := e
  exact t_ret (pc := 15) dJ0_charAt_5068e_15 rfl ⟨Nat.le_refl _, Nat.le_refl _⟩ c5 h
theorem t_length {R : Int → XI → Prop} (hq : q < 16) (h : R ((xsL.getD q 0 : Nat) : Int) I) : Mw G mJ0_length_8abf5 [vs G q] S I (qi S R) := by
  have hl := xsL_in q hq
  have e0 : ishr ((xsL.getD q 0 : Nat) : Int) 0 = ((xsL.getD q 0 : Nat) : Int) := by
    have : ∀ n, n < 7 → ishr ((n : Nat) : Int) 0 = ((n : Nat) : Int) := by decide +kernel
    exact this _ hl
  refine x_start [some (vs G q)] (by decide) (Nat.le_of_ble_eq_true rfl) rfl ?_
  refine x_aload_n (pc := 0) dJ0_length_8abf5_0 rfl rfl ?_
  refine t_val (pc := 1) (q := q) rfl dJ0_length_8abf5_1 hq ?_
  refine t_len (pc := 4) (q := q) dJ0_length_8abf5_4 hq ?_
  refine x_aload_n (pc := 5) dJ0_length_8abf5_5 rfl rfl ?_
  refine t_callV (pc := 6) (q := q) (As := []) (rest := [vi ((xsL.getD q 0 : Nat) : Int)]) (R := fun r I' => r = 0 ∧ I' = I) ok_J0_coder_7d493 ml_J0_335 dJ0_length_8abf5_6 hq rfl rfl ⟨rfl, rfl⟩ ⟨by decide, by decide⟩ ⟨Nat.le_refl _, Nat.le_refl _⟩ (Nat.le_of_ble_eq_true rfl) rfl (t_coder hq ⟨rfl, rfl⟩) (fun r1 I1 e => ?_)
  obtain ⟨rfl, rfl⟩ := e
  refine x_ishr (pc := 9) dJ0_length_8abf5_9 ?_
  rw [e0]
  exact y_iret (pc := 10) dJ0_length_8abf5_10 rfl ⟨Nat.le_refl _, Nat.le_refl _⟩ h
end XU
section XV
variable {G : XG} {μ : XMeth} {k : Nat × Nat} {pc : Nat} {L : List (Option Value)} {st : List Value} {S : XS} {I : XI} {Q : Option Value → XS → XI → Prop} {q : Nat}
theorem y_slen {idx : Nat} (hw : Cond.methodLink μ.1.cls idx yJ0_length_8abf5 ∈ lw_gd) (hd : decode μ.2.1 pc = .ok (.invokevirtual idx, 3)) (hq : q < 16) (hf : xf0 μ mJ0_length_8abf5) (hcat : (st.map fun v => v.category).sum ≤ 8) (hk : k.1 ≤ μ.2.2.2.2.2.2.1 ∧ k.2 ≤ μ.2.2.2.2.2.2.2) (kk : Xw G μ k (pc + 3) L (vi ((xsL.getD q 0 : Nat) : Int) :: st) S I Q) : Xw G μ k pc L (vs G q :: st) S I Q := by
  refine t_callV (q := q) (As := []) (rest := st) (R := fun r I' => r = ((xsL.getD q 0 : Nat) : Int) ∧ I' = I) ok_J0_length_8abf5 hw hd hq rfl rfl ⟨rfl, rfl⟩ hf hk hcat rfl (t_length hq ⟨rfl, rfl⟩) (fun r1 I1 e => ?_)
  obtain ⟨rfl, rfl⟩ := e
  exact kk
theorem y_schar {idx : Nat} {x : Int} (hw : Cond.methodLink μ.1.cls idx yJ0_charAt_5068e ∈ lw_gd) (hd : decode μ.2.1 pc = .ok (.invokevirtual idx, 3)) (hq : q < 16) (hb : inb x (xsL.getD q 0)) (hf : xf0 μ mJ0_charAt_5068e) (hcat : (st.map fun v => v.category).sum ≤ 8) (hk : k.1 ≤ μ.2.2.2.2.2.2.1 ∧ k.2 ≤ μ.2.2.2.2.2.2.2) (kk : Xw G μ k (pc + 3) L (vi (xsC q (ix x)) :: st) S I Q) : Xw G μ k pc L (vi x :: vs G q :: st) S I Q := by
  refine t_callV (q := q) (As := [vi x]) (rest := st) (R := fun r I' => r = xsC q (ix x) ∧ I' = I) ok_J0_charAt_5068e hw hd hq rfl rfl ⟨rfl, rfl⟩ hf hk hcat rfl (t_char hq hb ⟨rfl, rfl⟩) (fun r1 I1 e => ?_)
  obtain ⟨rfl, rfl⟩ := e
  exact kk
end XV
/-! ===== the script ===== -/
section XSC
variable {G : XG} {μ : XMeth} {k : Nat × Nat} {pc : Nat} {L : List (Option Value)} {st : List Value} {S : XS} {I : XI} {Q : Option Value → XS → XI → Prop}
abbrev vb (G : XG) : Value := .ref G.2.2.2.2.2.1
theorem x_scr {x : Int} (hd : decode μ.2.1 pc = .ok (.iaload, 1)) (hb : inb x G.2.2.2.2.2.2.1) (kk : Xw G μ k (pc + 1) L (vi (G.2.2.2.2.2.2.2 (ix x)) :: st) S I Q) : Xw G μ k pc L (vi x :: vb G :: st) S I Q := by
  intro p l e s m args below meth c C H locs ls hR hS hL
  have kk := kk p l e s m args below meth c C H locs ls hR hS hL
  have hx := C.2.2.2.2.2.2.2.2.2.1.2.2.2
  refine va_sld C.1 C.2.1 hx.1 (Nat.lt_of_lt_of_le hx.2.1 hx.2.2) (Nat.not_le.mpr hx.2.1) hS (inb_vp hb) hd ?_
  rw [ix_clamp]; exact kk
theorem x_scl (hd : decode μ.2.1 pc = .ok (.arraylength, 1)) (kk : Xw G μ k (pc + 1) L (vi (G.2.2.2.2.2.2.1 : Int) :: st) S I Q) : Xw G μ k pc L (vb G :: st) S I Q := by
  intro p l e s m args below meth c C H locs ls hR hS hL
  have kk := kk p l e s m args below meth c C H locs ls hR hS hL
  have hx := C.2.2.2.2.2.2.2.2.2.1.2.2.2
  refine va_slen C.1 C.2.1 hx.1 (Nat.lt_of_lt_of_le hx.2.1 hx.2.2) (Nat.not_le.mpr hx.2.1) hS hd ?_
  have e9 : Int32.ofNat G.2.2.2.2.2.2.1 = Int32.ofInt (G.2.2.2.2.2.2.1 : Int) := i_nat _
  rw [e9]; exact kk
end XSC
section XCP
variable {G : XG} {μ : XMeth} {k : Nat × Nat} {pc : Nat} {L : List (Option Value)} {st : List Value} {S : XS} {I : XI} {Q : Option Value → XS → XI → Prop}
theorem y_copy0 {idx a b : Nat} {n : Int} (hw : Cond.methodLink μ.1.cls idx arraycopyName ∈ lw_gd) (hwn : Cond.native arraycopyName ∈ lw_gd) (hws : Cond.static arraycopyName ∈ lw_gd) (hwi : Cond.initialized "java/lang/System" ∈ lw_gd) (hd : decode μ.2.1 pc = .ok (.invokestatic idx, 3)) (ha : a < S.1) (hta : xtag S a = 13) (hb : b < S.1) (htb : xtag S b = 13) (h3 : 0 ≤ w32 n) (h4 : ix n ≤ xlen S a) (h5 : ix n ≤ xlen S b) (hf : 1 ≤ μ.2.2.2.2.1 ∧ (st.map fun v => v.category).sum + (nativeFrameWords "java/lang/System" "arraycopy" 5 + 11) ≤ μ.2.2.2.2.2.1)
    (kk : Xw G μ k (pc + 3) L st S (xcpy I a b 0 0 (ix n)) Q) : Xw G μ k pc L (vi n :: vi 0 :: vr G b :: vi 0 :: vr G a :: st) S I Q :=
  x_copy hw hwn hws hwi hd ha hta hb htb (by decide) (by decide) h3 (by rw [show ix 0 = 0 from rfl]; omega) (by rw [show ix 0 = 0 from rfl]; omega) hf kk
end XCP
