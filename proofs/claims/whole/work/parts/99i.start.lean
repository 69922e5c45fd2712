/-! ===== what the two constructors leave: Rel at the start ===== -/
def stS : XS := (0, fun _ => (0, 0), fun _ _ => 0)
def stI : XI := fun _ _ => 0
/-- behind both constructors -/
def fnS : XS := mkS (mkS stS lt_X10 77 rt_X10 76) lt_X11 70 rt_X11 69
def fnI : XI := mkI (mkI stI 0 77 wt_X10 43) 77 70 wt_X11 2
theorem mkV_z {W : List (Nat × Nat × Int)} {d : Nat} (j : Nat) : ∀ m, (∀ q, q < m → (W.getD q (0, 0, 0)).1 = d → (W.getD q (0, 0, 0)).2.2 = 0) → mkV W m d j = 0
  | 0, _ => rfl
  | m + 1, h => by
    unfold mkV
    split
    · next e => exact h m (by omega) e.1
    · exact mkV_z j m (fun q hq => h q (by omega))
theorem mkV_in {W : List (Nat × Nat × Int)} {d : Nat} (j : Nat) : ∀ m, (∀ q, q < m → InR (W.getD q (0, 0, 0)).2.2) → InR (mkV W m d j)
  | 0, _ => ⟨by show (-2147483648 : Int) ≤ 0; decide, by show (0 : Int) < 2147483648; decide⟩
  | m + 1, h => by
    unfold mkV
    split
    · exact h m (by omega)
    · exact mkV_in j m (fun q hq => h q (by omega))
theorem fnI_c {a : Nat} (h : a < 77) (j : Nat) : fnI a j = mkV wt_X10 43 a j := by
  show (if 77 ≤ a ∧ a < 77 + 70 then mkV wt_X11 2 (a - 77) j else if 0 ≤ a ∧ a < 0 + 77 then mkV wt_X10 43 (a - 0) j else stI a j) = _
  rw [if_neg (by omega), if_pos (by omega), Nat.sub_zero]
theorem fnI_r {a : Nat} (h : 77 ≤ a) (h2 : a < 147) (j : Nat) : fnI a j = mkV wt_X11 2 (a - 77) j := by
  show (if 77 ≤ a ∧ a < 77 + 70 then mkV wt_X11 2 (a - 77) j else if 0 ≤ a ∧ a < 0 + 77 then mkV wt_X10 43 (a - 0) j else stI a j) = _
  rw [if_pos (by omega)]
theorem w10_in : ∀ q, q < 43 → -2147483648 ≤ (wt_X10.getD q (0, 0, 0)).2.2 ∧ (wt_X10.getD q (0, 0, 0)).2.2 < 2147483648 := by decide +kernel
theorem w11_in : ∀ q, q < 2 → -2147483648 ≤ (wt_X11.getD q (0, 0, 0)).2.2 ∧ (wt_X11.getD q (0, 0, 0)).2.2 < 2147483648 := by decide +kernel
theorem fnI_in (a j : Nat) : InR (fnI a j) := by
  by_cases h : a < 77
  · rw [fnI_c h]; exact mkV_in j 43 w10_in
  · by_cases h2 : a < 147
    · rw [fnI_r (by omega) h2]; exact mkV_in j 2 w11_in
    · show InR (if 77 ≤ a ∧ a < 77 + 70 then mkV wt_X11 2 (a - 77) j else if 0 ≤ a ∧ a < 0 + 77 then mkV wt_X10 43 (a - 0) j else stI a j)
      rw [if_neg (by omega), if_neg (by omega)]
      exact ⟨by show (-2147483648 : Int) ≤ 0; decide, by show (0 : Int) < 2147483648; decide⟩
theorem w10_z : ((List.range 77).all fun a => decide (a = 1 ∨ a = 45 ∨ a = 47 ∨ a = 52 ∨ a = 54 ∨ a = 63) || (List.range 43).all fun q => decide ((wt_X10.getD q (0, 0, 0)).1 = a → (wt_X10.getD q (0, 0, 0)).2.2 = 0)) = true := by decide +kernel
theorem w11_z : ((List.range 70).all fun a => decide (a = 4 ∨ a = 6) || (List.range 2).all fun q => decide ((wt_X11.getD q (0, 0, 0)).1 = a → (wt_X11.getD q (0, 0, 0)).2.2 = 0)) = true := by decide +kernel
theorem fnI_z {a : Nat} (h : a < 147) (h1 : a ≠ 1 ∧ a ≠ 45 ∧ a ≠ 47 ∧ a ≠ 52 ∧ a ≠ 54 ∧ a ≠ 63 ∧ a ≠ 81 ∧ a ≠ 83) (j : Nat) : fnI a j = 0 := by
  by_cases c : a < 77
  · rw [fnI_c c]
    have e := allR w10_z c
    rw [Bool.or_eq_true] at e
    rcases e with e | e
    · have := of_decide_eq_true e; omega
    · exact mkV_z j 43 (fun q hq => of_decide_eq_true (allR e hq))
  · rw [fnI_r (by omega) h]
    have e := allR w11_z (show a - 77 < 70 by omega)
    rw [Bool.or_eq_true] at e
    rcases e with e | e
    · have := of_decide_eq_true e; omega
    · exact mkV_z j 2 (fun q hq => of_decide_eq_true (allR e hq))
theorem fn_tl : ((List.range 77).all fun d => lt_X10.getD d (0, 0) == xTL d) = true ∧ ((List.range 70).all fun d => lt_X11.getD d (0, 0) == xTL (77 + d)) = true := by decide +kernel
theorem fn_rf : ((List.range 77).all fun d => decide (d = 44) || (List.range 20).all fun j => mkR rt_X10 76 d j == xRF d j) = true := by decide +kernel
theorem fn_rg : ((List.range 70).all fun d => (List.range 84).all fun j => (if mkR rt_X11 69 d j = 0 then 0 else 77 + mkR rt_X11 69 d j) == xRF (77 + d) j) = true := by decide +kernel
theorem fn_len : ((List.range 147).all fun i => decide ((xRFl.getD i []).length ≤ (if i < 77 then 20 else 84))) = true := by decide +kernel
theorem mkR_j {R : List (Nat × Nat × Nat)} {d j : Nat} : ∀ m, (∀ q, q < m → (R.getD q (0, 0, 0)).2.1 ≠ j) → mkR R m d j = 0
  | 0, _ => rfl
  | m + 1, h => by
    unfold mkR
    rw [if_neg (fun q => h m (by omega) q.2)]
    exact mkR_j m (fun q hq => h q (by omega))
theorem r10_j : ∀ q, q < 76 → (rt_X10.getD q (0, 0, 0)).2.1 < 20 := by decide +kernel
theorem r11_j : ∀ q, q < 69 → (rt_X11.getD q (0, 0, 0)).2.1 < 84 := by decide +kernel
theorem xRF_out {i j : Nat} (h : i < 147) (hj : (if i < 77 then 20 else 84) ≤ j) : xRF i j = 0 := by
  have l := of_decide_eq_true (allR fn_len h)
  unfold xRF
  rw [List.getD_eq_getElem?_getD, List.getElem?_eq_none (by omega)]
  rfl
theorem fnS_t {i : Nat} (h : i < 147) : fnS.2.1 i = xTL i := by
  show (if 77 ≤ i ∧ i < 77 + 70 then lt_X11.getD (i - 77) (0, 0) else if 0 ≤ i ∧ i < 0 + 77 then lt_X10.getD (i - 0) (0, 0) else (0, 0)) = xTL i
  by_cases c : i < 77
  · rw [if_neg (by omega), if_pos (by omega), Nat.sub_zero]
    exact eq_of_beq (allR fn_tl.1 c)
  · rw [if_pos (by omega)]
    have := eq_of_beq (allR fn_tl.2 (show i - 77 < 70 by omega))
    rw [show 77 + (i - 77) = i by omega] at this
    exact this
theorem fnS_r (i j : Nat) : fnS.2.2 i j = if 77 ≤ i ∧ i < 77 + 70 then (if mkR rt_X11 69 (i - 77) j = 0 then 0 else 77 + mkR rt_X11 69 (i - 77) j) else if 0 ≤ i ∧ i < 0 + 77 then (if mkR rt_X10 76 (i - 0) j = 0 then 0 else 0 + mkR rt_X10 76 (i - 0) j) else 0 := rfl
theorem fnS_sh : xSh fnS := by
  refine ⟨by show 147 ≤ 0 + 77 + 70; decide, fun i hi => fnS_t hi, fun i hi hne j => ?_⟩
  rw [fnS_r]
  by_cases c : i < 77
  · rw [if_neg (by omega), if_pos (by omega), Nat.sub_zero, Nat.zero_add]
    have e0 : (if mkR rt_X10 76 i j = 0 then 0 else mkR rt_X10 76 i j) = mkR rt_X10 76 i j := by
      split
      · next z => rw [z]
      · rfl
    rw [e0]
    by_cases hj : j < 20
    · have e := allR fn_rf c
      rw [Bool.or_eq_true] at e
      rcases e with e | e
      · exact absurd (of_decide_eq_true e) hne
      · exact eq_of_beq (allR e hj)
    · rw [mkR_j 76 (fun q hq => by have := r10_j q hq; omega), xRF_out hi (by rw [if_pos c]; omega)]
  · rw [if_pos (by omega)]
    by_cases hj : j < 84
    · have e := eq_of_beq (allR (allR fn_rg (show i - 77 < 70 by omega)) hj)
      rw [show 77 + (i - 77) = i by omega] at e
      exact e
    · rw [mkR_j 69 (fun q hq => by have := r11_j q hq; omega), if_pos rfl, xRF_out hi (by rw [if_neg c]; omega)]
theorem plT_st : ∀ q ∈ plT, (q.1 = 0 ∧ q.2.2.2 = 1 ∧ fnI 1 q.2.1 = fnI q.2.2.1 0) ∨ (q.1 ≠ 0 ∧ q.2.2.1 ≠ 81 ∧ q.2.2.1 ≠ 83) := by decide +kernel
theorem fn_v : fnI r_now 0 = 0 ∧ fnI r_viewed 0 = -1 ∧ fnI r_size 0 = 0 ∧ fnI c_now 6 = 99 ∧ fnI c_then 6 = -1 := by decide +kernel
theorem fn_kn : ∀ c, c < 6 → fnI c_now_knownTo c = -1 ∧ fnI c_then_knownTo c = -1 := by decide +kernel
theorem fn_kp : ∀ k, k < 3 → fnS.2.2 44 k = 0 := by decide +kernel
theorem fn_rel : Rel fnS fnI := by
  have zr : ∀ a, 77 < a → a < 147 → a ≠ 81 → a ≠ 83 → ∀ j, fnI a j = 0 := fun a h1 h2 h3 h4 j => fnI_z h2 (by omega) j
  have z : ∀ a, 83 < a → a < 147 → ∀ j, fnI a j = 0 := fun a h1 h2 j => zr a (by omega) h2 (by omega) (by omega) j
  have zd : ∀ a, 77 < a → a < 147 → a ≠ 81 → a ≠ 83 → fnI a = fun _ => 0 := fun a h1 h2 h3 h4 => funext (zr a h1 h2 h3 h4)
  obtain ⟨v1, v2, v3, v4, v5⟩ := fn_v
  have n0 : ∀ a, 83 < a → a < 147 → ∀ l : Nat, ¬ ((l : Int) < fnI a 0) := fun a h1 h2 l x => by rw [z a h1 h2 0] at x; omega
  have hG : Good fnI := by
    refine ⟨?_, ?_, ⟨?_, fun j hj => absurd hj (n0 r_grasses (by decide) (by decide) j)⟩, ⟨?_, fun j hj => absurd hj (n0 r_camps (by decide) (by decide) j), fun j _ => ?_⟩, ⟨?_, fun j hj => absurd hj (n0 r_newsMany (by decide) (by decide) j)⟩, ⟨?_, fun j hj => absurd hj (n0 r_books (by decide) (by decide) j)⟩, ⟨?_, fun j hj => absurd hj (n0 r_acts (by decide) (by decide) j)⟩, ⟨?_, fun j hj => absurd hj (n0 r_lines (by decide) (by decide) j)⟩, ⟨?_, fun j hj => absurd hj (n0 r_readers (by decide) (by decide) j)⟩⟩
    · unfold gSc
      rw [v1, v2, v3]
      decide
    · unfold gLa
      refine ⟨?_, fun j _ => ?_, fun a b _ _ => ?_, fun a b _ _ _ => ?_, fun c _ => ?_, fun c _ _ => ?_, fun j _ => ?_⟩
      · rw [z r_cells (by decide) (by decide)]; decide
      · rw [z r_ways (by decide) (by decide)]; decide
      · rw [z r_ways (by decide) (by decide), z r_ways (by decide) (by decide)]
      · rw [z r_ways (by decide) (by decide)]
      · rw [z r_wells (by decide) (by decide)]; exact Or.inl rfl
      · rw [z r_wells (by decide) (by decide)]
      · rw [z r_dryWeek (by decide) (by decide)]; exact Or.inl rfl
    · rw [z r_grasses (by decide) (by decide)]; decide
    · rw [z r_camps (by decide) (by decide)]; decide
    · rw [z r_wishes (by decide) (by decide)]; decide
    · rw [z r_newsMany (by decide) (by decide)]; decide
    · rw [z r_books (by decide) (by decide)]; decide
    · rw [z r_acts (by decide) (by decide)]; decide
    · rw [z r_lines (by decide) (by decide)]; decide
    · rw [z r_readers (by decide) (by decide)]; decide
  have hP : Pl fnI 1 fnI := by
    intro q hq j hj
    obtain ⟨o1, o2, o3, o4⟩ := plT_ok q hq
    rcases plT_st q hq with ⟨e1, e2, e3⟩ | ⟨e1, e2, e3⟩
    · have ej : j = 0 := by omega
      rw [ej, e1, Nat.zero_add]; exact e3
    · rw [fnI_z (a := 1 + q.1) (by omega) (by omega), zr _ o2 (by omega) e2 e3]
  have hC : CT fnI 1 fnI := by
    refine ⟨hP, ?_, fun j _ => ?_, fun l hl => absurd hl (n0 r_lines (by decide) (by decide) l), fun d j _ => fnI_in _ _⟩
    · rw [fnI_z (a := 1 + 1) (by decide) (by decide)]
      refine ⟨by decide, fun c _ => ?_⟩
      rw [z r_wells (by decide) (by decide)]
      unfold bitI
      rw [Int.zero_ediv]; rfl
    · rw [fnI_z (a := 1 + 42) (by decide) (by decide), zr r_tape (by decide) (by decide) (by decide) (by decide)]
      exact ⟨by decide, rfl⟩
  refine ⟨⟨fun a j _ _ => fnI_in a j, hG, hC⟩, Cach.none (nM_c hG).2 v4 (by rw [v5]; decide) (fun c hc => (fn_kn c hc).1) (fun c hc => (fn_kn c hc).2), Or.inl (fnI_z (a := 59) (by decide) (by decide) 6), ⟨⟨⟨fun j _ => Or.inl (z r_newsSeen (by decide) (by decide) j), fun j _ => Or.inl (z r_testNot (by decide) (by decide) j)⟩, fun a j _ => fnI_in a j, fun j => Or.inl (z r_newNot (by decide) (by decide) j)⟩, fun _ => 0, fun k hk => Or.inl ⟨z r_kept (by decide) (by decide) k, fn_kp k hk⟩, fun k k' h1 _ _ h2 _ => ?_⟩, fun j => fnI_in 0 j⟩
  rw [z r_kept (by decide) (by decide) k] at h2
  exact absurd h2 (by decide)
section SC
variable {G : XG} {Q : Option Value → XS → XI → Prop}
theorem cl_L_7 : Cond.classLink RL 7 RX10 ∈ lw_gd := gdT 20 (by decide +kernel) rfl
theorem cl_L_10 : Cond.classLink RL 10 RX11 ∈ lw_gd := gdT 1124 (by decide +kernel) rfl
/-- the law from its entry to its loop -/
theorem law_start (h : L_k18 G fnS (147, 38740) fnI 0 Q) : Xw G mL (0, 0) 0 [some (vb G), none, none, none] [] stS stI Q := by
  have n1 : xnew stS 10 0 = mkS stS lt_X10 1 rt_X10 0 := by
    have := mkS_new (S := stS) (L := lt_X10) (R := rt_X10) (n := 0) (m := 0) (t := 10) (k := 0) rfl (fun q hq => absurd hq (by omega))
    rw [mkS_0] at this; exact this
  have n2 : xzer stI stS.1 = mkI stI stS.1 1 wt_X10 0 := by
    have := mkI_new (I := stI) (b := stS.1) (W := wt_X10) (n := 0) (w := 0) (fun q hq => absurd hq (by omega))
    rw [mkI_0] at this; exact this
  refine x_new (pc := 0) xc10 xd10 cl_L_7 wi_10 wn_10 dL_law_0 ⟨Nat.le_of_ble_eq_true rfl, Nat.le_of_ble_eq_true rfl⟩ ?_
  rw [n1, n2]
  refine x_dup (pc := 3) dL_law_3 rfl ?_
  refine x_callI (pc := 4) (i := stS.1 + 0) (As := []) (rest := [vr G stS.1]) ok_X10_init ml_L_9 dL_law_4 rfl ⟨⟨by decide, by decide⟩, Nat.le_of_ble_eq_true rfl, Nat.le_of_ble_eq_true rfl⟩ (Nat.le_of_ble_eq_true rfl) rfl (i_X10 stS stI) (fun v S' I' hh => ?_)
  obtain ⟨rfl, rfl, rfl⟩ := hh
  refine (?_ : Xw G mL (77, 21670) 7 [some (vb G), none, none, none] [vr G c_obj] (mkS stS lt_X10 77 rt_X10 76) (mkI stI 0 77 wt_X10 43) Q)
  refine x_astore_n (pc := 7) (L' := [some (vb G), some (vr G c_obj), none, none]) dL_law_7 rfl (by decide) (xst1 rfl rfl rfl) ?_
  obtain ⟨S1, e1⟩ : ∃ S1, S1 = mkS stS lt_X10 77 rt_X10 76 := ⟨_, rfl⟩
  obtain ⟨I1, f1⟩ : ∃ I1, I1 = mkI stI 0 77 wt_X10 43 := ⟨_, rfl⟩
  have s77 : S1.1 = 77 := by rw [e1]; rfl
  rw [← e1, ← f1]
  have m1 : xnew S1 11 0 = mkS S1 lt_X11 1 rt_X11 0 := by
    have := mkS_new (S := S1) (L := lt_X11) (R := rt_X11) (n := 0) (m := 0) (t := 11) (k := 0) rfl (fun q hq => absurd hq (by omega))
    rw [mkS_0] at this; exact this
  have m2 : xzer I1 S1.1 = mkI I1 S1.1 1 wt_X11 0 := by
    have := mkI_new (I := I1) (b := S1.1) (W := wt_X11) (n := 0) (w := 0) (fun q hq => absurd hq (by omega))
    rw [mkI_0] at this; exact this
  refine x_new (pc := 8) xc11 xd11 cl_L_10 wi_11 wn_11 dL_law_8 ⟨Nat.le_of_ble_eq_true rfl, Nat.le_of_ble_eq_true rfl⟩ ?_
  rw [m1, m2]
  refine x_dup (pc := 11) dL_law_11 rfl ?_
  refine x_callI (pc := 12) (i := S1.1 + 0) (As := []) (rest := [vr G S1.1]) ok_X11_init ml_L_12 dL_law_12 rfl ⟨⟨by decide, by decide⟩, Nat.le_of_ble_eq_true rfl, Nat.le_of_ble_eq_true rfl⟩ (Nat.le_of_ble_eq_true rfl) rfl (i_X11 S1 I1) (fun v S' I' hh => ?_)
  obtain ⟨rfl, rfl, rfl⟩ := hh
  rw [s77, e1, f1]
  refine (?_ : Xw G mL (147, 38740) 15 [some (vb G), some (vr G c_obj), none, none] [vr G r_obj] fnS fnI Q)
  refine x_astore_n (pc := 15) (L' := [some (vb G), some (vr G c_obj), some (vr G r_obj), none]) dL_law_15 rfl (by decide) (xst1 rfl rfl rfl) ?_
  refine x_iconst (pc := 16) dL_law_16 ?_
  refine x_istore_n (pc := 17) (L' := [some (vb G), some (vr G c_obj), some (vr G r_obj), some (vi 0)]) dL_law_17 rfl (by decide) (xst1 rfl rfl rfl) ?_
  exact h
end SC
