/-! ===== printed by wip/gen99j.py (the frame of the claim is the kit's skeleton): the world at the entry, the claim ===== -/
def R_law : String := "HerdBooksLaw"
def lw_P (b : Addr) (xs : List Int32) (args : Array Value) (s : State) : Prop := args = #[.ref b] ∧ s.IntsAt b xs ∧ xs.length ≤ 3072 ∧ (Jvm.Cond.and given_1 narrow_1).before args s = true
def lw_Q (_ : Array Value) (s : State) (o : Outcome) (t : State) : Prop := o = .returned (some (.int 1)) ∧ Framed s o t [] 73020 8883190
def lw_Z (below : List Frame) (a : Array Value) (s : State) : State → Prop := fun t => ∃ o, t.status = .running ∧ Ended t below o ∧ lw_Q a s o t
/-- the law's own end, with 1 on the stack, nothing written that was there before, its room as the claim has it -/
theorem lw_ret {p : Program} {l : Launch} {e : Env} {s : State} {m : MethodId} {below : List Frame} {meth : Method} {c : Code} {b : Nat} (hx : p.tables.exec = Jvm.exec) (hb : c.code = code) (hr : meth.sig.returnType = ret) (hlocks : meth.locks = false) {pc : Nat} {H : Heap} {ls : Array Slot} (hdg : decode code pc = .ok (.ireturn, 1)) : W p l e room_1 s m #[Value.ref b] below meth c H [] 73020 8883190 (lw_Z below #[Value.ref b] s) (F0 m pc ls [.int 1]) := by
  intro T hT X
  obtain ⟨fs, hret, hrun, hended, hW, hframe⟩ := X.leave (v := some (.int 1)) (hlocks := hlocks) (fun h => by rw [hr] at h; cases h)
  have hmeth' : T.vm.method? m = some meth := X.method'
  refine ⟨T.setFrames fs, ?_, .returned (some (.int 1)), hrun, hended, rfl, ⟨_, rfl⟩, hW, hframe⟩
  jvm_step X.here [X.here.top, hx, hb, hdg, hmeth', hr, ret, narrow_b1]
  (try refine ⟨rfl, ?_⟩); (try refine ⟨rfl, ?_⟩)
  first | (intro acts; rw [hret _ acts rfl rfl rfl]) | rw [hret _ _ rfl rfl rfl]
  exact Steps.refl _
/-- what holds at the law's entry: the machine, the code, the tables' words (any of lw_tbl by 'hts w (by decide +kernel)'), the script of L ints xs at the cell b, what the Statement gives of the start (any of its parts by flat_of_before) -/
def lw_At (p : Program) (s : State) (m : MethodId) (meth : Method) (c : Code) (b L : Nat) (xs : Nat → Int32) : Prop :=
  p.tables.exec = Jvm.exec ∧ c.code = code ∧ meth.sig.returnType = ret ∧ c.maxLocals = 4 ∧ s.vm.findClass R_law = some m.cls ∧ (∀ w ∈ lw_tbl, w.before #[Value.ref b] s = true) ∧ va_X b L xs s s.heap ∧ b < s.heap.size ∧ meth.locks = false ∧ (Jvm.Cond.and given_1 narrow_1).before #[Value.ref b] s = true
/-! what the Statement gives of the strings, by its places -/
abbrev fcL : List Cond := flatC (Jvm.Cond.and given_1 narrow_1)
abbrev tmS (i : Nat) : Term := .string RX3 (xsI.getD i 0)
def ixX : List Nat := [9, 15, 23, 35, 45, 57, 70, 84, 99, 116, 133, 151, 170, 189, 209, 232]
def ixC : List Nat := [10, 16, 24, 36, 46, 58, 71, 85, 100, 117, 134, 152, 171, 190, 210, 233]
def ixA : List Nat := [11, 17, 25, 37, 47, 59, 72, 86, 101, 118, 135, 153, 172, 191, 211, 234]
def ixL : List Nat := [12, 18, 26, 38, 48, 60, 73, 87, 102, 119, 136, 154, 173, 192, 212, 235]
def ixE : List (List Nat) := [[13, 14], [19, 20, 21], [27, 28, 29, 30, 31, 32], [39, 40, 41], [49, 50, 51, 52], [61, 62, 63, 64], [74, 75, 76, 77], [88, 89, 90, 91], [103, 104, 105, 106, 107], [120, 121, 122, 123], [137, 138, 139, 140], [155, 156, 157, 158], [174, 175, 176], [193, 194, 195], [213, 214, 215, 216, 217], [236, 237, 238, 239]]
def ixN : List (Nat × Nat × Nat) := [(0, 1, 22), (0, 2, 33), (1, 2, 34), (0, 3, 42), (1, 3, 43), (2, 3, 44), (0, 4, 53), (1, 4, 54), (2, 4, 55), (3, 4, 56), (0, 5, 65), (1, 5, 66), (2, 5, 67), (3, 5, 68), (4, 5, 69), (0, 6, 78), (1, 6, 79), (2, 6, 80), (3, 6, 81), (4, 6, 82), (5, 6, 83), (0, 7, 92), (1, 7, 93), (2, 7, 94), (3, 7, 95), (4, 7, 96), (5, 7, 97), (6, 7, 98), (0, 8, 108), (1, 8, 109), (2, 8, 110), (3, 8, 111), (4, 8, 112), (5, 8, 113), (6, 8, 114), (7, 8, 115), (0, 9, 124), (1, 9, 125), (2, 9, 126), (3, 9, 127), (4, 9, 128), (5, 9, 129), (6, 9, 130), (7, 9, 131), (8, 9, 132), (0, 10, 141), (1, 10, 142), (2, 10, 143), (3, 10, 144), (4, 10, 145), (5, 10, 146), (6, 10, 147), (7, 10, 148), (8, 10, 149), (9, 10, 150), (0, 11, 159), (1, 11, 160), (2, 11, 161), (3, 11, 162), (4, 11, 163), (5, 11, 164), (6, 11, 165), (7, 11, 166), (8, 11, 167), (9, 11, 168), (10, 11, 169), (0, 12, 177), (1, 12, 178), (2, 12, 179), (3, 12, 180), (4, 12, 181), (5, 12, 182), (6, 12, 183), (7, 12, 184), (8, 12, 185), (9, 12, 186), (10, 12, 187), (11, 12, 188), (0, 13, 196), (1, 13, 197), (2, 13, 198), (3, 13, 199), (4, 13, 200), (5, 13, 201), (6, 13, 202), (7, 13, 203), (8, 13, 204), (9, 13, 205), (10, 13, 206), (11, 13, 207), (12, 13, 208), (0, 14, 218), (1, 14, 219), (2, 14, 220), (3, 14, 221), (4, 14, 222), (5, 14, 223), (6, 14, 224), (7, 14, 225), (8, 14, 226), (9, 14, 227), (10, 14, 228), (11, 14, 229), (12, 14, 230), (13, 14, 231), (0, 15, 240), (1, 15, 241), (2, 15, 242), (3, 15, 243), (4, 15, 244), (5, 15, 245), (6, 15, 246), (7, 15, 247), (8, 15, 248), (9, 15, 249), (10, 15, 250), (11, 15, 251), (12, 15, 252), (13, 15, 253), (14, 15, 254)]
def ixR : List Nat := [800, 861, 869, 870, 871, 872, 873, 874, 875, 876, 877, 878, 891, 905, 910, 911]
theorem f_ex : ∀ i, i < 16 → fcL[ixX.getD i 0]? = some (Cond.exactly (tmS i) "java/lang/String") := by decide +kernel
theorem f_co : ∀ i, i < 16 → fcL[ixC.getD i 0]? = some (Cond.eq (.field (tmS i) "java/lang/String" "coder" "B") (.int 0)) := by decide +kernel
theorem f_ar : ∀ i, i < 16 → fcL[ixA.getD i 0]? = some (Cond.arrayOf (.field (tmS i) "java/lang/String" "value" "[B") .byte) := by decide +kernel
theorem f_le : ∀ i, i < 16 → fcL[ixL.getD i 0]? = some (Cond.eq (.length (.field (tmS i) "java/lang/String" "value" "[B")) (.int (Int32.ofNat (xsL.getD i 0)))) := by decide +kernel
theorem f_el : ∀ i, i < 16 → ∀ j, j < xsL.getD i 0 → fcL[(ixE.getD i []).getD j 0]? = some (Cond.eq (.elem (.field (tmS i) "java/lang/String" "value" "[B") (.int (Int32.ofNat j))) (.int ((xsB.getD i []).getD j 0))) := by decide +kernel
theorem f_ne : ∀ q ∈ ixN, fcL[q.2.2]? = some (Cond.not (Cond.eq (tmS q.1) (tmS q.2.1))) := by decide +kernel
theorem f_nx : ((List.range 16).all fun i => (List.range 16).all fun j => decide (i = j) || ixN.any fun q => decide ((q.1 = i ∧ q.2.1 = j) ∨ (q.1 = j ∧ q.2.1 = i))) = true := by decide +kernel
theorem f_sr : ∀ i, i < 16 → tables_1[ixR.getD i 0]? = some (Cond.stringRef RX3 (xsI.getD i 0) (xsT.getD i "")) := by decide +kernel
theorem f_cs : fcL[4]? = some (Cond.eq (.static "java/lang/String" "COMPACT_STRINGS" "Z") (.int 1)) := by decide +kernel
theorem f_si : fcL[5]? = some (Cond.isRef (.static "jdk/internal/util/Preconditions" "SIOOBE_FORMATTER" "Ljava/util/function/BiFunction;")) := by decide +kernel
theorem tbI {w : Cond} (i : Nat) (h : tables_1[i]? = some w) : w ∈ lw_tbl := List.mem_append_right _ (List.mem_of_getElem? h)
theorem rf_of {v : Value} (h : v.isRef = true) : ∃ r : Option Nat, v = va_rf r := by
  cases v with
  | null => exact ⟨none, rfl⟩
  | ref a => exact ⟨some a, rfl⟩
  | _ => simp [Value.isRef] at h
set_option maxHeartbeats 4000000 in
theorem wld_start {p : Program} {s : State} {m : MethodId} {meth : Method} {c : Code} {b L : Nat} {xs : Nat → Int32} (C0 : lw_At p s m meth c b L xs) : ∃ (D : va_G) (ac : Nat → ClassId) (aK aV : Nat → Nat), xCx (s.heap.size, D, ac, aK, aV, b, L, fun j => (xs j).toInt) mL p s m #[Value.ref b] meth c := by
  obtain ⟨hx, hb, hr, hml, hown, hts, hX, hbl, hlocks, hgv⟩ := C0
  have hgd : ∀ w ∈ lw_gd, w.before #[Value.ref b] s = true := fun w hw => hts w (List.mem_filter.mp hw).1
  have hs := flat_of_before _ hgv
  have hA : ∀ a : Nat, a < s.heap.size → ¬ s.heap.size ≤ a := fun a h => by omega
  obtain ⟨c0, i0, k0⟩ := u_known (C := RX0) (T := TX0) (N := 4) (n := 4) hgd xu0 (hgd _ wi_0)
  obtain ⟨c1, i1, k1⟩ := u_known (C := RX1) (T := TX1) (N := 11) (n := 11) hgd xu1 (hgd _ wi_1)
  obtain ⟨c2, i2, k2⟩ := u_known (C := RX2) (T := TX2) (N := 9) (n := 9) hgd xu2 (hgd _ wi_2)
  obtain ⟨c3, i3, k3⟩ := u_known (C := RX3) (T := TX3) (N := 9) (n := 9) hgd xu3 (hgd _ wi_3)
  obtain ⟨c4, i4, k4⟩ := u_known (C := RX4) (T := TX4) (N := 3) (n := 3) hgd xu4 (hgd _ wi_4)
  obtain ⟨c5, i5, k5⟩ := u_known (C := RX5) (T := TX5) (N := 8) (n := 8) hgd xu5 (hgd _ wi_5)
  obtain ⟨c6, i6, k6⟩ := u_known (C := RX6) (T := TX6) (N := 14) (n := 14) hgd xu6 (hgd _ wi_6)
  obtain ⟨c7, i7, k7⟩ := u_known (C := RX7) (T := TX7) (N := 11) (n := 11) hgd xu7 (hgd _ wi_7)
  obtain ⟨c8, i8, k8⟩ := u_known (C := RX8) (T := TX8) (N := 7) (n := 7) hgd xu8 (hgd _ wi_8)
  obtain ⟨c9, i9, k9⟩ := u_known (C := RX9) (T := TX9) (N := 7) (n := 7) hgd xu9 (hgd _ wi_9)
  obtain ⟨c10, i10, k10⟩ := u_known (C := RX10) (T := TX10) (N := 9) (n := 9) hgd xu10 (hgd _ wi_10)
  obtain ⟨c11, i11, k11⟩ := u_known (C := RX11) (T := TX11) (N := 84) (n := 84) hgd xu11 (hgd _ wi_11)
  obtain ⟨cb, kb, pb, b1, b2, b3⟩ := Cond.arrayClass_spec (hgd _ w_ab)
  obtain ⟨ci, ki, pi, j1, j2, j3⟩ := Cond.arrayClass_spec (hgd _ w_ai)
  obtain ⟨cj, kj, pj, l1, l2, l3⟩ := Cond.arrayClass_spec (hgd _ w_aj)
  obtain ⟨cz, kz, pz, z1, z2, z3⟩ := Cond.arrayClass_spec (hgd _ w_az)
  have hao : (Cond.arrayOver (.object RX7)).before #[Value.ref b] s = true := hts _ (tbI 295 (by decide +kernel))
  obtain ⟨po, ca, ka, o1, o2, o3, o4, o5⟩ := Cond.arrayOver_spec hao
  obtain ⟨aK, aV, hSt, hTm⟩ := vk_Sof (args := #[Value.ref b]) (s := s) (N := 16) (tm := tmS) (len := xsL) (byt := xsB) (A := fun q => s.heap.size ≤ q) (by decide) (fun i hi => hs _ (List.mem_of_getElem? (f_ex i hi))) (fun i hi => hs _ (List.mem_of_getElem? (f_co i hi))) (fun i hi => hs _ (List.mem_of_getElem? (f_ar i hi))) (fun i hi => hs _ (List.mem_of_getElem? (f_le i hi))) (fun i hi j hj => hs _ (List.mem_of_getElem? (f_el i hi j hj))) (fun i j hi hj hne => by
    have e := allR (allR f_nx hi) hj
    rw [Bool.or_eq_true] at e
    rcases e with e | e
    · exact absurd (of_decide_eq_true e) hne
    · obtain ⟨q, hq, e⟩ := List.any_eq_true.mp e
      have hm := hs _ (List.mem_of_getElem? (f_ne q hq))
      rcases of_decide_eq_true e with ⟨e1, e2⟩ | ⟨e1, e2⟩
      · left; rw [← e1, ← e2]; exact hm
      · right; rw [← e1, ← e2]; exact hm) hA
  obtain ⟨v, v1, v2⟩ := Cond.isRef_spec (hs _ (List.mem_of_getElem? f_si))
  obtain ⟨r, rfl⟩ := rf_of v2
  refine ⟨(fun k => [c0, c1, c2, c3, c4, c5, c6, c7, c8, c9, c10, c11].getD k c0, fun k => [i0, i1, i2, i3, i4, i5, i6, i7, i8, i9, i10, i11].getD k i0), fun t => if t = 12 then cb else if t = 13 then ci else if t = 14 then cj else if t = 15 then cz else ca, aK, aV, hx, hb, hr, hml, hown, hgd, hlocks, fun h => absurd h (by decide), ⟨⟨fun k q hq => ?_, fun k q hq => ?_⟩, ?_, va_AO.of hao, fun i hi => vk_R.of (hts _ (tbI _ (f_sr i hi))) (hTm i hi)⟩, ⟨hSt, va_Zof (hts _ (tbI 814 (by decide +kernel))) (hts _ (tbI 16 (by decide +kernel))) (va_eqt (hs _ (List.mem_of_getElem? f_cs))) hA, ⟨r, va_Zof (hts _ (tbI 830 (by decide +kernel))) (hts _ (tbI 18 (by decide +kernel))) v1 hA⟩, ?_, hbl, Nat.le_refl _⟩, Nat.le_refl _⟩
  · match k, hq with
    | 0, hq => cases hq; exact k0
    | 1, hq => cases hq; exact k1
    | 2, hq => cases hq; exact k2
    | 3, hq => cases hq; exact k3
    | 4, hq => cases hq; exact k4
    | 5, hq => cases hq; exact k5
    | 6, hq => cases hq; exact k6
    | 7, hq => cases hq; exact k7
    | 8, hq => cases hq; exact k8
    | 9, hq => cases hq; exact k9
    | 10, hq => cases hq; exact k10
    | 11, hq => cases hq; exact k11
    | k + 12, hq => simp at hq
  · match k, hq with
    | 0, hq => cases hq; exact ⟨fun n z => ⟨fun k h => (by cases h), kb, b2, pb, b3⟩, b1⟩
    | 1, hq => cases hq; exact ⟨fun n z => ⟨fun k h => (by cases h), ki, j2, pi, j3⟩, j1⟩
    | 2, hq => cases hq; exact ⟨fun n z => ⟨fun k h => (by cases h), kj, l2, pj, l3⟩, l1⟩
    | 3, hq => cases hq; exact ⟨fun n z => ⟨fun k h => (by cases h), kz, z2, pz, z3⟩, z1⟩
    | 4, hq => cases hq; exact ⟨fun n z => ⟨fun k h => (by cases h), ka, o3, po, o4⟩, ka, po, o3, o4, o1, o5⟩
    | k + 5, hq => simp [xtys] at hq
  · intro q hq
    have hn : ∀ q ∈ xnest, Cond.methodLinkNest q.1 q.2.1 q.2.2 RX10 ∈ lw_tbl := List.forall_mem_cons.mpr ⟨tbI 30 (by decide +kernel), List.forall_mem_cons.mpr ⟨tbI 36 (by decide +kernel), List.forall_mem_cons.mpr ⟨tbI 77 (by decide +kernel), List.forall_mem_cons.mpr ⟨tbI 129 (by decide +kernel), List.forall_mem_cons.mpr ⟨tbI 195 (by decide +kernel), List.forall_mem_cons.mpr ⟨tbI 228 (by decide +kernel), List.forall_mem_cons.mpr ⟨tbI 329 (by decide +kernel), List.forall_mem_cons.mpr ⟨tbI 360 (by decide +kernel), List.forall_mem_cons.mpr ⟨tbI 365 (by decide +kernel), List.forall_mem_cons.mpr ⟨tbI 399 (by decide +kernel), fun _ h => absurd h List.not_mem_nil⟩⟩⟩⟩⟩⟩⟩⟩⟩⟩
    exact va_Nw.of rfl (hts _ (hn q hq))
  · show va_X b L (fun j => Int32.ofInt (xs j).toInt) s s.heap
    rw [show (fun j => Int32.ofInt (xs j).toInt) = xs from funext fun j => Int32.ofInt_toInt _]
    exact hX
