/-! ===== calls ===== -/
def xfit (μ μ' : XMeth) (k : Nat × Nat) : Prop := (μ'.2.2.2.2.1 + 1 ≤ μ.2.2.2.2.1 ∧ 8 + (μ'.2.2.1 + 11) + μ'.2.2.2.2.2.1 ≤ μ.2.2.2.2.2.1) ∧ k.1 + μ'.2.2.2.2.2.2.1 ≤ μ.2.2.2.2.2.2.1 ∧ k.2 + μ'.2.2.2.2.2.2.2 ≤ μ.2.2.2.2.2.2.2
theorem xgood {μ : XMeth} {n : Nat} (h : xMok μ n) : GoodIn lw_gd (xwl μ) := by
  intro w hw
  have hm : w ∈ lw_gd := by
    rcases List.mem_cons.mp hw with rfl | h'
    · exact h.2.1
    · exact h'
  exact ⟨hm, good_of_word (List.mem_filter.mp hm).2⟩
section XC
variable {G : XG} {μ : XMeth} {k : Nat × Nat} {pc : Nat} {L : List (Option Value)} {st : List Value} {S : XS} {I : XI} {Q : Option Value → XS → XI → Prop} {P : Option Value → XS → XI → Prop}
variable {p : Program} {l : Launch} {e : Env} {s : State} {m : MethodId} {args : Array Value} {below : List Frame} {meth : Method} {c : Code} {H : Heap} {locs : List Loc} {ls : Array Slot}
theorem x_after {mc ms : Nat} {st0 rest : List Value} {a : Array Value} (C : xCx G μ p s m args meth c) (hr : va_Run p l e (xrm μ) s m args below meth c H locs k.1 k.2 mc ms (F0 m pc ls st0) rest (xQc G P a) (xA G)) (hS : va_S (xA G) s.heap H locs) (hL : xL ls μ.2.2.1 L) (kk : ∀ v S' I', P v S' I' → Xw G μ (k.1 + mc, k.2 + ms) (pc + 3) L (v.toList ++ rest) S' I' Q) :
    W p l e (xrm μ) s m args below meth c H locs k.1 k.2 (MQ below (xQc G Q) args s μ.2.2.2.2.2.2.1 μ.2.2.2.2.2.2.2 (xA G)) (F0 m pc ls st0) := by
  intro T hT X0
  obtain ⟨v, st₀, t, T', L', h0, X', hL', e1, e2, ⟨v', S', I', hv, hp, hR', hz, hk'⟩, st⟩ := hr T hT X0
  cases hv
  rw [h0] at hz hk'
  obtain ⟨t2, a1, b1⟩ := kk v S' I' hp p l e s m args below meth c C T'.heap (locs ++ L') ls (by rw [e1]; exact hR') ⟨Nat.le_trans hS.1 (by rw [e1]; exact hz), fun q h1 h2 => by rw [e1, hk' q (Nat.lt_of_lt_of_le h1 hS.1) h2]; exact hS.2.1 q h1 h2, fun q hq => by
      rcases List.mem_append.mp hq with h | h
      · exact hS.2.2 q h
      · exact hL' q h⟩ hL T' rfl X'
  exact ⟨t2, st t2 a1, b1⟩
theorem x_pre {as : List Value} (C : xCx G μ p s m args meth c) (hR : xRep G S I H) (hS : va_S (xA G) s.heap H locs) : ∀ U : State, U.heap = H → s.WarmedH U.vm → xPc G as S I as.toArray U := by
  intro U hU hW
  refine ⟨rfl, by rw [hU]; exact hR, C.2.2.2.2.2.2.2.2.1.warm hW, ?_⟩
  rw [hU]
  exact (C.2.2.2.2.2.2.2.2.2.1.kept hS.2.1 hS.1).moved hW.alike
theorem x_recv {i ci : Nat} {q : vw_C} (C : xCx G μ p s m args meth c) (hR : xRep G S I H) (hi : i < S.1) (ht : xtag S i = ci) (hc : ci < 12) (hq : vwCl[ci]? = some q) : ∃ cell : Cell, H[G.1 + i]? = some cell ∧ cell.vm.isStatics = false ∧ s.vm.findClass q.1 = some cell.cls := by
  obtain ⟨cell, q1, q2, q3, -⟩ := hR.obj hi ht hc
  exact ⟨cell, q1, by rw [q3]; rfl, by rw [q2]; exact (C.2.2.2.2.2.2.2.2.1.1.1 ci q hq).2.1⟩
theorem x_callV {μ' : XMeth} {i ci idx n : Nat} {As rest : List Value} {q : vw_C} (hm : xMokV μ' n) (hw : Cond.methodLink μ.1.cls idx μ'.1 ∈ lw_gd) (hd : decode μ.2.1 pc = .ok (.invokevirtual idx, 3)) (hi : i < S.1) (ht : xtag S i = ci) (hc : ci < 12) (hq : vwCl[ci]? = some q) (hcls : q.1 = μ'.1.cls) (hn : As.length = n) (hf : xfit μ μ' k) (hcat : (rest.map fun v => v.category).sum ≤ 8)
    (hst : st = As.reverse ++ vr G i :: rest) (hM : Mw G μ' (vr G i :: As) S I P) (kk : ∀ v S' I', P v S' I' → Xw G μ (k.1 + μ'.2.2.2.2.2.2.1, k.2 + μ'.2.2.2.2.2.2.2) (pc + 3) L (v.toList ++ rest) S' I' Q) : Xw G μ k pc L st S I Q := by
  intro p l e s m args below meth c C H locs ls hR hS hL
  have hts := C.2.2.2.2.2.1
  have hrc := x_recv C hR hi ht hc hq
  rw [hcls] at hrc
  exact x_after C (va_runV (C := μ'.1.cls) (bytes := μ'.2.1) (maxL := μ'.2.2.1) (ret := μ'.2.2.2.1) (nL := μ.2.2.1) (cc := μ.2.1) ⟨C.1, C.2.1, C.2.2.2.1, C.2.2.2.2.1, hts⟩ (hM l) ⟨callB_of n hts (xgood hm.1) rfl rfl rfl (hts _ hm.1.1) (hts _ hw) hm.1.2.2 hf.1, hts _ hm.2.1, hts _ hm.2.2⟩ ⟨xPc_blind, hrc, x_pre C hR hS⟩ rfl hn hL.1 hst (lv_room hcat) hd hf.2) hS hL kk
theorem x_callS {μ' : XMeth} {idx n : Nat} {As rest : List Value} (hm : xMokS μ' n) (hw : Cond.methodLink μ.1.cls idx μ'.1 ∈ lw_gd) (hd : decode μ.2.1 pc = .ok (.invokestatic idx, 3)) (hn : As.length = n) (hf : xfit μ μ' k) (hcat : (rest.map fun v => v.category).sum ≤ 8)
    (hst : st = As.reverse ++ rest) (hM : Mw G μ' As S I P) (kk : ∀ v S' I', P v S' I' → Xw G μ (k.1 + μ'.2.2.2.2.2.2.1, k.2 + μ'.2.2.2.2.2.2.2) (pc + 3) L (v.toList ++ rest) S' I' Q) : Xw G μ k pc L st S I Q := by
  intro p l e s m args below meth c C H locs ls hR hS hL
  have hts := C.2.2.2.2.2.1
  exact x_after C (va_runS (bytes := μ'.2.1) (maxL := μ'.2.2.1) (ret := μ'.2.2.2.1) (nL := μ.2.2.1) (cc := μ.2.1) ⟨C.1, C.2.1, C.2.2.2.1, C.2.2.2.2.1, hts⟩ (hM l) ⟨callB_of n hts (xgood hm.1) rfl rfl rfl (hts _ hm.1.1) (hts _ hw) hm.1.2.2 hf.1, hts _ hm.2⟩ ⟨xPc_blind, x_pre C hR hS⟩ rfl hn hL.1 hst (lv_room hcat) hd hf.2) hS hL kk
theorem x_callI {μ' : XMeth} {i idx n : Nat} {As rest : List Value} (hm : xMokI μ' n) (hw : Cond.methodLink μ.1.cls idx μ'.1 ∈ lw_gd) (hd : decode μ.2.1 pc = .ok (.invokespecial idx, 3)) (hn : As.length = n) (hf : xfit μ μ' k) (hcat : (rest.map fun v => v.category).sum ≤ 8)
    (hst : st = As.reverse ++ vr G i :: rest) (hM : Mw G μ' (vr G i :: As) S I P) (kk : ∀ v S' I', P v S' I' → Xw G μ (k.1 + μ'.2.2.2.2.2.2.1, k.2 + μ'.2.2.2.2.2.2.2) (pc + 3) L (v.toList ++ rest) S' I' Q) : Xw G μ k pc L st S I Q := by
  intro p l e s m args below meth c C H locs ls hR hS hL
  have hts := C.2.2.2.2.2.1
  have hb := callB_of (R := xrm μ) (rm := xrm μ') (mc := μ'.2.2.2.2.2.2.1) (ms := μ'.2.2.2.2.2.2.2) (own := μ.1.cls) (index := idx) (y := μ'.1) (bytes := μ'.2.1) (maxL := μ'.2.2.1) (ret := μ'.2.2.2.1) n hts (xgood hm.1) rfl rfl rfl (hts _ hm.1.1) (hts _ hw) hm.1.2.2 hf.1
  rw [hm.2.2.2] at hb
  exact x_after C (va_runI (bytes := μ'.2.1) (maxL := μ'.2.2.1) (nL := μ.2.2.1) (cc := μ.2.1) ⟨C.1, C.2.1, C.2.2.2.1, C.2.2.2.2.1, hts⟩ (hM l) ⟨hb, hm.2.1, hts _ hm.2.2.1⟩ ⟨xPc_blind, x_pre C hR hS⟩ rfl hn hL.1 hst (lv_room hcat) hd hf.2) hS hL kk
/-- a private constructor of a nest mate -/
theorem x_callN {μ' : XMeth} {i idx n : Nat} {As rest : List Value} (hm : xMokI μ' n) (hw : (μ.1.cls, idx, μ'.1) ∈ xnest) (hd : decode μ.2.1 pc = .ok (.invokespecial idx, 3)) (hn : As.length = n) (hf : xfit μ μ' k) (hcat : (rest.map fun v => v.category).sum ≤ 8)
    (hst : st = As.reverse ++ vr G i :: rest) (hM : Mw G μ' (vr G i :: As) S I P) (kk : ∀ v S' I', P v S' I' → Xw G μ (k.1 + μ'.2.2.2.2.2.2.1, k.2 + μ'.2.2.2.2.2.2.2) (pc + 3) L (v.toList ++ rest) S' I' Q) : Xw G μ k pc L st S I Q := by
  intro p l e s m args below meth c C H locs ls hR hS hL
  have hts := C.2.2.2.2.2.1
  have hb := va_cnB (R := xrm μ) (rm := xrm μ') (mc := μ'.2.2.2.2.2.2.1) (ms := μ'.2.2.2.2.2.2.2) (own := μ.1.cls) (index := idx) (y := μ'.1) (host := RX10) (bytes := μ'.2.1) (maxL := μ'.2.2.1) (ret := μ'.2.2.2.1) n hts (xgood hm.1) rfl rfl rfl (C.2.2.2.2.2.2.2.2.1.2.1 _ hw) (hts _ hm.1.1) hm.1.2.2 hf.1
  rw [hm.2.2.2] at hb
  exact x_after C (va_runIN (bytes := μ'.2.1) (maxL := μ'.2.2.1) (nL := μ.2.2.1) (cc := μ.2.1) ⟨C.1, C.2.1, C.2.2.2.1, C.2.2.2.2.1, hts⟩ (hM l) ⟨hb, hm.2.1, hts _ hm.2.2.1⟩ ⟨xPc_blind, x_pre C hR hS⟩ rfl hn hL.1 hst (lv_room hcat) hd hf.2) hS hL kk
theorem x_objInit {idx a : Nat} (hw : Cond.methodLink μ.1.cls idx Lib.objectInit ∈ lw_gd) (hwi : Cond.instanceMethod Lib.objectInit ∈ lw_gd) (hwc : Cond.code Lib.objectInit ⟨#[0xb1]⟩ 1 none ∈ lw_gd) (hd : decode μ.2.1 pc = .ok (.invokespecial idx, 3)) (hf : 1 ≤ μ.2.2.2.2.1 ∧ 12 ≤ μ.2.2.2.2.2.1) (kk : Xw G μ k (pc + 3) L [] S I Q) : Xw G μ k pc L [.ref a] S I Q := by
  intro p l e s m args below meth c C H locs ls hR hS hL
  have kk := kk p l e s m args below meth c C H locs ls hR hS hL
  have hts := C.2.2.2.2.2.1
  exact W.objInit C.1 C.2.1 C.2.2.2.2.1 (hts _ hw) (hts _ hwi) (hts _ hwc) rfl (by rw [C.2.2.2.1]; exact hL.1) rfl hd hf.1 (show 2 * 0 + 0 + 12 ≤ μ.2.2.2.2.2.1 by have := hf.2; omega) kk
/-! Math -/
def xmath (μ : XMeth) (idx : Nat) (y : MethodName) (cc : ByteArray) (n : Nat) : Prop := Cond.methodLink μ.1.cls idx y ∈ lw_gd ∧ Cond.static y ∈ lw_gd ∧ Cond.initialized "java/lang/Math" ∈ lw_gd ∧ Cond.code y cc n (some .int) ∈ lw_gd
theorem x_max {idx : Nat} {x y : Int} (hm : xmath μ idx Lib.Math.max.name Lib.Math.max.code 2) (hd : decode μ.2.1 pc = .ok (.invokestatic idx, 3)) (hf : 1 ≤ μ.2.2.2.2.1 ∧ (st.map fun v => v.category).sum + 13 ≤ μ.2.2.2.2.2.1 ∧ k.1 ≤ μ.2.2.2.2.2.2.1 ∧ k.2 ≤ μ.2.2.2.2.2.2.2) (kk : Xw G μ k (pc + 3) L (vi (if w32 x < w32 y then y else x) :: st) S I Q) : Xw G μ k pc L (vi y :: vi x :: st) S I Q := by
  intro p l e s m args below meth c C H locs ls hR hS hL
  have kk := kk p l e s m args below meth c C H locs ls hR hS hL
  have hts := C.2.2.2.2.2.1
  refine va_mmax C.1 C.2.1 (by rw [C.2.2.2.1]; exact hL.1.symm) C.2.2.2.2.1 (hts _ hm.1) (hts _ hm.2.1) (hts _ hm.2.2.1) (hts _ hm.2.2.2) hf.1 hf.2.1 hf.2.2.1 hf.2.2.2 hd ?_
  have e9 : (if Int32.ofInt x < Int32.ofInt y then Int32.ofInt y else Int32.ofInt x) = Int32.ofInt (if w32 x < w32 y then y else x) := by
    simp only [i_lt]; split <;> rfl
  rw [e9]; exact kk
theorem x_min {idx : Nat} {x y : Int} (hm : xmath μ idx Lib.Math.min.name Lib.Math.min.code 2) (hd : decode μ.2.1 pc = .ok (.invokestatic idx, 3)) (hf : 1 ≤ μ.2.2.2.2.1 ∧ (st.map fun v => v.category).sum + 13 ≤ μ.2.2.2.2.2.1 ∧ k.1 ≤ μ.2.2.2.2.2.2.1 ∧ k.2 ≤ μ.2.2.2.2.2.2.2) (kk : Xw G μ k (pc + 3) L (vi (if w32 y < w32 x then y else x) :: st) S I Q) : Xw G μ k pc L (vi y :: vi x :: st) S I Q := by
  intro p l e s m args below meth c C H locs ls hR hS hL
  have kk := kk p l e s m args below meth c C H locs ls hR hS hL
  have hts := C.2.2.2.2.2.1
  refine va_mmin C.1 C.2.1 (by rw [C.2.2.2.1]; exact hL.1.symm) C.2.2.2.2.1 (hts _ hm.1) (hts _ hm.2.1) (hts _ hm.2.2.1) (hts _ hm.2.2.2) hf.1 hf.2.1 hf.2.2.1 hf.2.2.2 hd ?_
  have e9 : (if Int32.ofInt y < Int32.ofInt x then Int32.ofInt y else Int32.ofInt x) = Int32.ofInt (if w32 y < w32 x then y else x) := by
    simp only [i_lt]; split <;> rfl
  rw [e9]; exact kk
theorem x_abs {idx : Nat} {x : Int} (hm : xmath μ idx Lib.Math.abs.name Lib.Math.abs.code 1) (hd : decode μ.2.1 pc = .ok (.invokestatic idx, 3)) (hf : 1 ≤ μ.2.2.2.2.1 ∧ (st.map fun v => v.category).sum + 13 ≤ μ.2.2.2.2.2.1 ∧ k.1 ≤ μ.2.2.2.2.2.2.1 ∧ k.2 ≤ μ.2.2.2.2.2.2.2) (kk : Xw G μ k (pc + 3) L (vi (if 0 ≤ w32 x then x else 0 - x) :: st) S I Q) : Xw G μ k pc L (vi x :: st) S I Q := by
  intro p l e s m args below meth c C H locs ls hR hS hL
  have kk := kk p l e s m args below meth c C H locs ls hR hS hL
  have hts := C.2.2.2.2.2.1
  refine va_mabs C.1 C.2.1 (by rw [C.2.2.2.1]; exact hL.1.symm) C.2.2.2.2.1 (hts _ hm.1) (hts _ hm.2.1) (hts _ hm.2.2.1) (hts _ hm.2.2.2) hf.1 hf.2.1 hf.2.2.1 hf.2.2.2 hd ?_
  have e9 : (if 0 ≤ Int32.ofInt x then Int32.ofInt x else 0 - Int32.ofInt x) = Int32.ofInt (if 0 ≤ w32 x then x else 0 - x) := by
    simp only [i_0le]; split
    · rfl
    · rw [i_0, i_sub]
  rw [e9]; exact kk
end XC
/-! what is called for its answer -/
def Mi (G : XG) (μ : XMeth) (args : List Value) (S : XS) (I : XI) (Q : Int → XS → XI → Prop) : Prop := Mw G μ args S I (fun v S' I' => ∃ z, v = some (vi z) ∧ Q z S' I')
def Mv (G : XG) (μ : XMeth) (args : List Value) (S : XS) (I : XI) (Q : XS → XI → Prop) : Prop := Mw G μ args S I (fun v S' I' => v = none ∧ Q S' I')
def Ma (G : XG) (μ : XMeth) (args : List Value) (S : XS) (I : XI) (Q : Value → XS → XI → Prop) : Prop := Mw G μ args S I (fun v S' I' => ∃ a, v = some a ∧ Q a S' I')
