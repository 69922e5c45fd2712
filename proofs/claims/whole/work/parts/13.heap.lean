/-! ===== rows for fields and arrays ===== -/
theorem i_nat (n : Nat) : Nat.toInt32 n = Int32.ofInt (n : Int) := by
  rw [← Int32.toInt_inj, i_t]
  show (Int32.ofNat n).toInt = _
  first | rw [Int32.toInt_ofNat'] | simp [w32]
  rfl
section XH
variable {G : XG} {μ : XMeth} {k : Nat × Nat} {pc : Nat} {L : List (Option Value)} {st : List Value} {S : XS} {I : XI} {Q : Option Value → XS → XI → Prop}
theorem xRep.obj {H : Heap} (h : xRep G S I H) {i ci : Nat} (hi : i < S.1) (ht : xtag S i = ci) (hc : ci < 12) : t_OB (G.1 + i) (G.2.1.1 ci) (xnf ci) (G.2.1.2 ci) H (xval G S I i) := by
  have := h.2 i hi
  unfold xcell at this
  rw [ht, if_pos hc] at this
  exact this
theorem xRep.arr {H : Heap} (h : xRep G S I H) {i t : Nat} (hi : i < S.1) (ht : xtag S i = t) (hc : ¬ t < 12) : H[G.1 + i]? = some (arrV (G.2.2.1 t) (xlen S i) (xval G S I i)) := by
  have := h.2 i hi
  unfold xcell at this
  rw [ht, if_neg hc] at this
  exact this
/-- one slot is written -/
theorem xRep.put {H H1 : Heap} (h : xRep G S I H) {i j : Nat} {z : Int} (hi : i < S.1) (hz : H1.size = H.size) (hq : ∀ q : Nat, q ≠ G.1 + i → H1[q]? = H[q]?) (hn : xcell G S (up I i j z) H1 i) : xRep G S (up I i j z) H1 := by
  refine ⟨hz.trans h.1, fun a ha => ?_⟩
  by_cases e : a = i
  · subst e; exact hn
  · have h0 := h.2 a ha
    have hq' := hq (G.1 + a) (by omega)
    unfold xcell at h0 ⊢
    rw [xval_up e]
    split at h0
    next hlt => rw [if_pos hlt]; exact h0.kept hq'
    next hlt => rw [if_neg hlt, hq']; exact h0
theorem x_getf {i ci j idx : Nat} {fin : Bool} {fty : FieldType} (hf : xFld μ.1.cls idx ci j fin fty) (hd : decode μ.2.1 pc = .ok (.getfield idx, 3)) (hi : i < S.1) (ht : xtag S i = ci) (kk : Xw G μ k (pc + 3) L (xval G S I i j :: st) S I Q) : Xw G μ k pc L (vr G i :: st) S I Q := by
  intro p l e s m args below meth c C H locs ls hR hS hL
  have kk := kk p l e s m args below meth c C H locs ls hR hS hL
  obtain ⟨Cn, T, N, ty, ⟨c1, c2, c3, c4, c5, c6, c7⟩, hj, hw, -, -, -⟩ := hf
  obtain ⟨cell, q1, q2, q3, q4⟩ := hR.obj hi ht c6
  obtain ⟨hSl, hfc, kC, hkC, hkind⟩ := C.2.2.2.2.2.2.2.2.1.1.1 ci _ c1
  obtain ⟨cf, kf, fi, f, hfi, hsl⟩ := hSl j hj
  have hfi' := hfi
  rw [c7 j hj] at hfi'
  refine W.getf C.1 C.2.1 C.2.2.2.2.1 (C.2.2.2.2.2.1 _ hw) hfi' (u_facts hfc hkC (u_lays C.2.2.2.2.2.1 c3 hj) hfi).1 q1 (by rw [q3]; exact fun h => by cases h) (v := xval G S I i j) ?_ rfl rfl hd kk
  rw [hsl]; exact q4 j (by rw [c2]; exact hj)
theorem x_getI {i ci j idx : Nat} {fin : Bool} {fty : FieldType} (hf : xFld μ.1.cls idx ci j fin fty) (hd : decode μ.2.1 pc = .ok (.getfield idx, 3)) (hi : i < S.1) (ht : xtag S i = ci) (hk : xk ci j = 0) (kk : Xw G μ k (pc + 3) L (vi (I i j) :: st) S I Q) : Xw G μ k pc L (vr G i :: st) S I Q :=
  x_getf hf hd hi ht (by rw [xval_I ht hk]; exact kk)
theorem x_getL {i ci j idx : Nat} {fin : Bool} {fty : FieldType} (hf : xFld μ.1.cls idx ci j fin fty) (hd : decode μ.2.1 pc = .ok (.getfield idx, 3)) (hi : i < S.1) (ht : xtag S i = ci) (hk : xk ci j = 1) (kk : Xw G μ k (pc + 3) L (vl (I i j) :: st) S I Q) : Xw G μ k pc L (vr G i :: st) S I Q :=
  x_getf hf hd hi ht (by rw [xval_L ht hk]; exact kk)
theorem x_getR {i ci j idx a : Nat} {fin : Bool} {fty : FieldType} (hf : xFld μ.1.cls idx ci j fin fty) (hd : decode μ.2.1 pc = .ok (.getfield idx, 3)) (hi : i < S.1) (ht : xtag S i = ci) (hk : xk ci j = 2) (hr : xref S i j = a + 1) (kk : Xw G μ k (pc + 3) L (vr G a :: st) S I Q) : Xw G μ k pc L (vr G i :: st) S I Q :=
  x_getf hf hd hi ht (by rw [xval_R ht hk, hr]; exact kk)
theorem xap {p : Program} {s : State} {m : MethodId} {args : Array Value} {meth : Method} {c : Code} (C : xCx G μ p s m args meth c) {ci N : Nat} {Cn : String} {T : u_T} {ty : Nat → FieldType} (hc : xCls ci Cn T N ty) : ∀ x y, x < N → y < N → x ≠ y → (G.2.1.2 ci) x ≠ (G.2.1.2 ci) y :=
  va_apart (own := Cn) C.2.2.2.2.2.1 hc.2.2.1 ty hc.2.2.2.1 hc.2.2.2.2.1 C.2.2.2.2.2.2.2.2.1.1 hc.1
/-- an int, a long or a reference is written into a field that isn't final -/
theorem x_putv {i ci j idx : Nat} {z : Int} {v : Value} {fty : FieldType} (hf : xFld μ.1.cls idx ci j false fty) (hd : decode μ.2.1 pc = .ok (.putfield idx, 3)) (hi : i < S.1) (ht : xtag S i = ci) (hn : narrow fty v = v) (hfit : fits fty v = true) (hv : xval G S (up I i j z) i j = v) (kk : Xw G μ k (pc + 3) L st S (up I i j z) Q) : Xw G μ k pc L (v :: vr G i :: st) S I Q := by
  intro p l e s m args below meth c C H locs ls hR hS hL
  obtain ⟨Cn, T, N, ty, hc, hj, hw, hfin, rfl, -⟩ := hf
  have hap := xap C hc
  obtain ⟨c1, c2, c3, c4, c5, c6, c7⟩ := hc
  obtain ⟨cell, q1, q2, q3, q4⟩ := hR.obj hi ht c6
  obtain ⟨hSl, hfc, kC, hkC, hkind⟩ := C.2.2.2.2.2.2.2.2.1.1.1 ci _ c1
  obtain ⟨cf, kf, fi, f, hfi, hsl⟩ := hSl j hj
  have hfi' := hfi
  rw [c7 j hj] at hfi'
  have hlay := C.2.2.2.2.2.1 _ (c3 _ (u_in_lay hj))
  unfold u_lay at hlay
  rw [if_neg (by rw [hfin]; decide)] at hlay
  have hst := (u_facts hfc hkC (u_lays C.2.2.2.2.2.1 c3 hj) hfi).1
  have h6 := u_store hfc hkC hkind hlay hfi (c4 j hj) hn hfit
  refine W.putK C.1 C.2.1 (f := f) ⟨C.2.2.2.2.1, C.2.2.2.2.2.1 _ hw, ⟨_, _, _, hfi'⟩, hst⟩ (by rw [q2]; exact h6) q1 q3 (by rw [hsl]; exact k2_hasslot (q4 j (by rw [c2]; exact hj))) rfl rfl hd fun H' e1 e2 e3 => ?_
  rw [hsl] at e1 ⊢
  refine kk p l e s m args below meth c C H' _ ls (hR.put hi e2 e3 ?_) (hS.put e2 e3 (show G.1 ≤ G.1 + i from Nat.le_add_right _ _)) hL
  unfold xcell
  rw [ht, if_pos c6]
  rw [c2] at q4 ⊢
  exact t_OB.to (V := updV (xval G S I i) j v) ⟨_, e1, q2, q3, t_set q4 hap hj v⟩ (fun b _ => (xval_upV b hv).symm)
theorem x_putI {i ci j idx : Nat} {z : Int} (hf : xFld μ.1.cls idx ci j false .int) (hd : decode μ.2.1 pc = .ok (.putfield idx, 3)) (hi : i < S.1) (ht : xtag S i = ci) (hk : xk ci j = 0) (kk : Xw G μ k (pc + 3) L st S (up I i j z) Q) : Xw G μ k pc L (vi z :: vr G i :: st) S I Q :=
  x_putv hf hd hi ht rfl rfl (by rw [xval_I ht hk, up_s]) kk
theorem x_putZ {i ci j idx : Nat} {z : Int} (hf : xFld μ.1.cls idx ci j false .boolean) (hd : decode μ.2.1 pc = .ok (.putfield idx, 3)) (hi : i < S.1) (ht : xtag S i = ci) (hk : xk ci j = 0) (hz : z = 0 ∨ z = 1) (kk : Xw G μ k (pc + 3) L st S (up I i j z) Q) : Xw G μ k pc L (vi z :: vr G i :: st) S I Q :=
  x_putv hf hd hi ht (by rcases hz with rfl | rfl <;> rfl) (by rcases hz with rfl | rfl <;> rfl) (by rw [xval_I ht hk, up_s]) kk
theorem x_putL {i ci j idx : Nat} {z : Int} (hf : xFld μ.1.cls idx ci j false .long) (hd : decode μ.2.1 pc = .ok (.putfield idx, 3)) (hi : i < S.1) (ht : xtag S i = ci) (hk : xk ci j = 1) (kk : Xw G μ k (pc + 3) L st S (up I i j z) Q) : Xw G μ k pc L (vl z :: vr G i :: st) S I Q :=
  x_putv hf hd hi ht rfl rfl (by rw [xval_L ht hk, up_s]) kk
/-! arrays -/
theorem xarr {p : Program} {s : State} {m : MethodId} {args : Array Value} {meth : Method} {c : Code} (C : xCx G μ p s m args meth c) (t0 : Nat) {q : ClassId × FieldType} (h : (xtys G)[t0]? = some q) (n : Nat) (z : Nat → Value) : s.isArrayOf (arrV q.1 n z) q.2 :=
  (C.2.2.2.2.2.2.2.2.1.1.2 t0 q h).1 n z
theorem x_iald {i : Nat} {x : Int} (hd : decode μ.2.1 pc = .ok (.iaload, 1)) (hi : i < S.1) (ht : xtag S i = 13) (hb : inb x (xlen S i)) (kk : Xw G μ k (pc + 1) L (vi (I i (ix x)) :: st) S I Q) : Xw G μ k pc L (vi x :: vr G i :: st) S I Q := by
  intro p l e s m args below meth c C H locs ls hR hS hL
  have kk := kk p l e s m args below meth c C H locs ls hR hS hL
  refine W.iald (v := vi (I i (ix x))) C.1 C.2.1 (hR.arr hi ht (by decide)) (xarr C 1 rfl _ _) (fun q => by cases q) (by rw [arrV_size]; exact inb_vp hb) (by rw [ix_clamp, arrV_read _ _ (inb_lt hb), xval_I ht rfl]) rfl rfl hd kk
theorem x_bald {i : Nat} {x : Int} (hd : decode μ.2.1 pc = .ok (.baload, 1)) (hi : i < S.1) (ht : xtag S i = 12) (hb : inb x (xlen S i)) (kk : Xw G μ k (pc + 1) L (vi (I i (ix x)) :: st) S I Q) : Xw G μ k pc L (vi x :: vr G i :: st) S I Q := by
  intro p l e s m args below meth c C H locs ls hR hS hL
  have kk := kk p l e s m args below meth c C H locs ls hR hS hL
  refine W.bald (v := vi (I i (ix x))) C.1 C.2.1 (hR.arr hi ht (by decide)) (xarr C 0 rfl _ _) (fun q => by cases q) (by rw [arrV_size]; exact inb_vp hb) (by rw [ix_clamp, arrV_read _ _ (inb_lt hb), xval_I ht rfl]) rfl rfl hd kk
theorem x_zald {i : Nat} {x : Int} (hd : decode μ.2.1 pc = .ok (.baload, 1)) (hi : i < S.1) (ht : xtag S i = 15) (hb : inb x (xlen S i)) (kk : Xw G μ k (pc + 1) L (vi (I i (ix x)) :: st) S I Q) : Xw G μ k pc L (vi x :: vr G i :: st) S I Q := by
  intro p l e s m args below meth c C H locs ls hR hS hL
  have kk := kk p l e s m args below meth c C H locs ls hR hS hL
  refine W.zald (v := vi (I i (ix x))) C.1 C.2.1 (hR.arr hi ht (by decide)) (xarr C 3 rfl _ _) (fun q => by cases q) (by rw [arrV_size]; exact inb_vp hb) (by rw [ix_clamp, arrV_read _ _ (inb_lt hb), xval_I ht rfl]) rfl rfl hd kk
theorem x_lald {i : Nat} {x : Int} (hd : decode μ.2.1 pc = .ok (.laload, 1)) (hi : i < S.1) (ht : xtag S i = 14) (hb : inb x (xlen S i)) (kk : Xw G μ k (pc + 1) L (vl (I i (ix x)) :: st) S I Q) : Xw G μ k pc L (vi x :: vr G i :: st) S I Q := by
  intro p l e s m args below meth c C H locs ls hR hS hL
  have kk := kk p l e s m args below meth c C H locs ls hR hS hL
  refine W.lald (v := vl (I i (ix x))) C.1 C.2.1 (hR.arr hi ht (by decide)) (xarr C 2 rfl _ _) (fun q => by cases q) (by rw [arrV_size]; exact inb_vp hb) (by rw [ix_clamp, arrV_read _ _ (inb_lt hb), xval_L ht rfl]) rfl rfl hd kk
theorem x_aald {i : Nat} {x : Int} (hd : decode μ.2.1 pc = .ok (.aaload, 1)) (hi : i < S.1) (ht : xtag S i = 16) (hb : inb x (xlen S i)) (kk : Xw G μ k (pc + 1) L (vo G (xref S i (ix x)) :: st) S I Q) : Xw G μ k pc L (vi x :: vr G i :: st) S I Q := by
  intro p l e s m args below meth c C H locs ls hR hS hL
  have kk := kk p l e s m args below meth c C H locs ls hR hS hL
  refine W.aald (v := vo G (xref S i (ix x))) (ty := .object RX7) C.1 C.2.1 (hR.arr hi ht (by decide)) (xarr C 4 rfl _ _) rfl (fun q => by cases q) (by rw [arrV_size]; exact inb_vp hb) (by rw [ix_clamp, arrV_read _ _ (inb_lt hb), xval_R ht rfl]) rfl rfl hd kk
theorem x_alen {i t t0 : Nat} {q : ClassId × FieldType} (hd : decode μ.2.1 pc = .ok (.arraylength, 1)) (hi : i < S.1) (ht : xtag S i = t) (hc : ¬ t < 12) (hq : (xtys G)[t0]? = some q) (hq1 : q.1 = G.2.2.1 t) (kk : Xw G μ k (pc + 1) L (vi (xlen S i) :: st) S I Q) : Xw G μ k pc L (vr G i :: st) S I Q := by
  intro p l e s m args below meth c C H locs ls hR hS hL
  have kk := kk p l e s m args below meth c C H locs ls hR hS hL
  have h := xarr C t0 hq (xlen S i) (xval G S I i)
  rw [hq1] at h
  exact W.alen C.1 C.2.1 (hR.arr hi ht hc) h (by rw [arrV_size]; exact i_nat _) rfl rfl hd kk
theorem xcell_arr {H1 : Heap} {i t : Nat} {x z : Int} {v : Value} (ht : xtag S i = t) (hc : ¬ t < 12) (hv : xval G S (up I i (ix x) z) i (ix x) = v) (e : H1[G.1 + i]? = some ((arrV (G.2.2.1 t) (xlen S i) (xval G S I i)).setSlot (Int32.ofInt x).toNatClampNeg v)) : xcell G S (up I i (ix x) z) H1 i := by
  unfold xcell
  rw [ht, if_neg hc, e, arrV_store, ix_clamp]
  congr 2
  funext b
  exact (xval_upV b hv).symm
theorem x_iast {i : Nat} {x z : Int} (hd : decode μ.2.1 pc = .ok (.iastore, 1)) (hi : i < S.1) (ht : xtag S i = 13) (hb : inb x (xlen S i)) (kk : Xw G μ k (pc + 1) L st S (up I i (ix x) z) Q) : Xw G μ k pc L (vi z :: vi x :: vr G i :: st) S I Q := by
  intro p l e s m args below meth c C H locs ls hR hS hL
  refine W.iast C.1 C.2.1 (hR.arr hi ht (by decide)) (xarr C 1 rfl _ _) (fun q => by cases q) (by rw [arrV_size]; exact inb_vp hb) rfl rfl hd fun H1 e' z' oq => ?_
  exact kk p l e s m args below meth c C H1 _ ls (hR.put hi z' oq (xcell_arr ht (by decide) (by rw [xval_I ht rfl, up_s]) e')) (hS.put z' oq (show G.1 ≤ G.1 + i from Nat.le_add_right _ _)) hL
theorem x_last {i : Nat} {x z : Int} (hd : decode μ.2.1 pc = .ok (.lastore, 1)) (hi : i < S.1) (ht : xtag S i = 14) (hb : inb x (xlen S i)) (kk : Xw G μ k (pc + 1) L st S (up I i (ix x) z) Q) : Xw G μ k pc L (vl z :: vi x :: vr G i :: st) S I Q := by
  intro p l e s m args below meth c C H locs ls hR hS hL
  refine W.last C.1 C.2.1 (hR.arr hi ht (by decide)) (xarr C 2 rfl _ _) (fun q => by cases q) (by rw [arrV_size]; exact inb_vp hb) rfl rfl hd fun H1 e' z' oq => ?_
  exact kk p l e s m args below meth c C H1 _ ls (hR.put hi z' oq (xcell_arr ht (by decide) (by rw [xval_L ht rfl, up_s]) e')) (hS.put z' oq (show G.1 ≤ G.1 + i from Nat.le_add_right _ _)) hL
theorem x_bast {i : Nat} {x z : Int} (hd : decode μ.2.1 pc = .ok (.bastore, 1)) (hi : i < S.1) (ht : xtag S i = 12) (hb : inb x (xlen S i)) (kk : Xw G μ k (pc + 1) L st S (up I i (ix x) (z.bmod 256)) Q) : Xw G μ k pc L (vi z :: vi x :: vr G i :: st) S I Q := by
  intro p l e s m args below meth c C H locs ls hR hS hL
  refine W.bast C.1 C.2.1 (hR.arr hi ht (by decide)) (xarr C 0 rfl _ _) (fun q => by cases q) (by rw [arrV_size]; exact inb_vp hb) rfl rfl hd fun H1 e' z' oq => ?_
  exact kk p l e s m args below meth c C H1 _ ls (hR.put hi z' oq (xcell_arr ht (by decide) (by rw [xval_I ht rfl, up_s]; show vi _ = Value.int (Int32.ofInt z).toInt8.toInt32; rw [i_2b]) e')) (hS.put z' oq (show G.1 ≤ G.1 + i from Nat.le_add_right _ _)) hL
theorem x_zast {i : Nat} {x z : Int} (hd : decode μ.2.1 pc = .ok (.bastore, 1)) (hi : i < S.1) (ht : xtag S i = 15) (hb : inb x (xlen S i)) (hz : z = 0 ∨ z = 1) (kk : Xw G μ k (pc + 1) L st S (up I i (ix x) z) Q) : Xw G μ k pc L (vi z :: vi x :: vr G i :: st) S I Q := by
  intro p l e s m args below meth c C H locs ls hR hS hL
  refine W.zast C.1 C.2.1 (hR.arr hi ht (by decide)) (xarr C 3 rfl _ _) (fun q => by cases q) (by rw [arrV_size]; exact inb_vp hb) rfl rfl hd fun H1 e' z' oq => ?_
  exact kk p l e s m args below meth c C H1 _ ls (hR.put hi z' oq (xcell_arr ht (by decide) (by rw [xval_I ht rfl, up_s]; rcases hz with rfl | rfl <;> rfl) e')) (hS.put z' oq (show G.1 ≤ G.1 + i from Nat.le_add_right _ _)) hL
/-! ends -/
theorem x_iret {z : Int} (hd : decode μ.2.1 pc = .ok (.ireturn, 1)) (hr : μ.2.2.2.1 = some .int) (hk : k.1 ≤ μ.2.2.2.2.2.2.1 ∧ k.2 ≤ μ.2.2.2.2.2.2.2) (hq : Q (some (vi z)) S I) : Xw G μ k pc L [vi z] S I Q := by
  intro p l e s m args below meth c C H locs ls hR hS hL
  have hlocks := C.2.2.2.2.2.2.1
  refine W.widen hk.1 hk.2 (W.iret C.1 C.2.1 (C.2.2.1.trans hr) (fun t ht hW => ⟨_, S, I, rfl, hq, by rw [ht]; exact hR, hS.F ht⟩) hS.2.2 hd)
theorem x_zret {z : Int} (hd : decode μ.2.1 pc = .ok (.ireturn, 1)) (hr : μ.2.2.2.1 = some .boolean) (hk : k.1 ≤ μ.2.2.2.2.2.2.1 ∧ k.2 ≤ μ.2.2.2.2.2.2.2) (hz : z = 0 ∨ z = 1) (hq : Q (some (vi z)) S I) : Xw G μ k pc L [vi z] S I Q := by
  intro p l e s m args below meth c C H locs ls hR hS hL
  have hlocks := C.2.2.2.2.2.2.1
  refine W.widen hk.1 hk.2 (W.zret C.1 C.2.1 (C.2.2.1.trans hr) (by rcases hz with rfl | rfl <;> rfl) (fun t ht hW => ⟨_, S, I, rfl, hq, by rw [ht]; exact hR, hS.F ht⟩) hS.2.2 hd)
theorem x_vret (hd : decode μ.2.1 pc = .ok (.return_, 1)) (hr : μ.2.2.2.1 = none) (hk : k.1 ≤ μ.2.2.2.2.2.2.1 ∧ k.2 ≤ μ.2.2.2.2.2.2.2) (hq : Q none S I) : Xw G μ k pc L [] S I Q := by
  intro p l e s m args below meth c C H locs ls hR hS hL
  have hlocks := C.2.2.2.2.2.2.1
  refine W.widen hk.1 hk.2 (W.vret C.1 C.2.1 (C.2.2.1.trans hr) (fun t ht hW => ⟨_, S, I, rfl, hq, by rw [ht]; exact hR, hS.F ht⟩) hS.2.2 hd)
theorem x_aret {a : Nat} {n : String} (hd : decode μ.2.1 pc = .ok (.areturn, 1)) (hr : μ.2.2.2.1 = some (.object n)) (hk : k.1 ≤ μ.2.2.2.2.2.2.1 ∧ k.2 ≤ μ.2.2.2.2.2.2.2) (hq : Q (some (.ref a)) S I) : Xw G μ k pc L [.ref a] S I Q := by
  intro p l e s m args below meth c C H locs ls hR hS hL
  have hlocks := C.2.2.2.2.2.2.1
  refine W.widen hk.1 hk.2 (W.aret C.1 C.2.1 (C.2.2.1.trans hr) (Or.inl ⟨n, rfl⟩) (Or.inr ⟨a, rfl⟩) (fun t ht hW => ⟨_, S, I, rfl, hq, by rw [ht]; exact hR, hS.F ht⟩) hS.2.2 hd)
end XH
