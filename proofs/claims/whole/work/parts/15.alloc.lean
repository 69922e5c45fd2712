/-! ===== making cells; rows of references; System.arraycopy ===== -/
def xnew (S : XS) (t n : Nat) : XS := (S.1 + 1, fun i => if i = S.1 then (t, n) else S.2.1 i, fun i j => if i = S.1 then 0 else S.2.2 i j)
def xzer (I : XI) (q : Nat) : XI := fun i j => if i = q then 0 else I i j
def upR (S : XS) (i j a : Nat) : XS := (S.1, S.2.1, fun x y => if x = i then (if y = j then a else S.2.2 x y) else S.2.2 x y)
section XN
variable {G : XG} {μ : XMeth} {k : Nat × Nat} {pc : Nat} {L : List (Option Value)} {st : List Value} {S : XS} {I : XI} {Q : Option Value → XS → XI → Prop}
theorem xval_new {t n : Nat} {a : Nat} (h : a ≠ S.1) : xval G (xnew S t n) (xzer I S.1) a = xval G S I a := by
  funext b
  simp [xval, xnew, xzer, xtag, xref, h]
theorem xval_newS {t n : Nat} (b : Nat) : xval G (xnew S t n) (xzer I S.1) S.1 b = xdef t b := by
  unfold xval xdef
  simp only [xnew, xzer, xtag, xref, if_true]
  generalize xk t b = z
  rcases z with _ | _ | _ | z <;> rfl
theorem xRep.new {H H1 : Heap} (h : xRep G S I H) {t n : Nat} (hz : H1.size = H.size + 1) (hq : ∀ q : Nat, q < H.size → H1[q]? = H[q]?) (hn : xcell G (xnew S t n) (xzer I S.1) H1 S.1) : xRep G (xnew S t n) (xzer I S.1) H1 := by
  refine ⟨by rw [hz, h.1]; rfl, fun a ha => ?_⟩
  by_cases e : a = S.1
  · subst e; exact hn
  · have ha' : a < S.1 := by have : a < S.1 + 1 := ha; omega
    have h0 := h.2 a ha'
    have hq' := hq (G.1 + a) (by rw [h.1]; omega)
    have et : xtag (xnew S t n) a = xtag S a := by simp [xnew, xtag, e]
    have el : xlen (xnew S t n) a = xlen S a := by simp [xnew, xlen, e]
    unfold xcell at h0 ⊢
    rw [et, el, xval_new e]
    split at h0
    next hlt => rw [if_pos hlt]; exact h0.kept hq'
    next hlt => rw [if_neg hlt, hq']; exact h0
theorem xS_new {s : State} {H H1 : Heap} {locs : List Loc} (hS : va_S (xA G) s.heap H locs) (hz : H1.size = H.size + 1) (hq : ∀ q : Nat, q < H.size → H1[q]? = H[q]?) : va_S (xA G) s.heap H1 locs :=
  ⟨Nat.le_trans hS.1 (by omega), fun x h1 h2 => (hq x (Nat.lt_of_lt_of_le h1 hS.1)).trans (hS.2.1 x h1 h2), hS.2.2⟩
theorem x_new {ci idx N : Nat} {Cn : String} {T : u_T} {ty : Nat → FieldType} (hc : xCls ci Cn T N ty) (hdf : ∀ j, j < N → defaultValue (ty j) = xdef ci j) (hw : Cond.classLink μ.1.cls idx Cn ∈ lw_gd) (hwi : Cond.instantiable Cn N ∈ lw_gd) (hwn : Cond.initialized Cn ∈ lw_gd) (hd : decode μ.2.1 pc = .ok (.new idx, 3)) (hk : k.1 + 1 ≤ μ.2.2.2.2.2.2.1 ∧ k.2 + N ≤ μ.2.2.2.2.2.2.2)
    (kk : Xw G μ (k.1 + 1, k.2 + N) (pc + 3) L (vr G S.1 :: st) (xnew S ci 0) (xzer I S.1) Q) : Xw G μ k pc L st S I Q := by
  intro p l e s m args below meth c C H locs ls hR hS hL
  have hts := C.2.2.2.2.2.1
  obtain ⟨c1, c2, c3, c4, c5, c6, c7⟩ := hc
  have hKn := C.2.2.2.2.2.2.2.2.1.1.1 ci _ c1
  refine W.newcK C.1 C.2.1 C.2.2.2.2.1 (hts _ hw) (hts _ hwi) (hts _ hwn) rfl hd hk.1 hk.2 hKn.2.1 hR.1 fun H1 kC hkC e1 z1 o1 => ?_
  have z1' : H1.size = H.size + 1 := by rw [z1, hR.1]
  have o1' : ∀ q : Nat, q < H.size → H1[q]? = H[q]? := fun q hq => o1 q (by rw [← hR.1]; exact hq)
  refine kk p l e s m args below meth c C H1 _ ls (hR.new z1' o1' ?_) (xS_new hS z1' o1') hL
  have et : xtag (xnew S ci 0) S.1 = ci := by simp [xnew, xtag]
  unfold xcell
  rw [et, if_pos c6, c2]
  exact (u_born ty hts c3 hKn hkC e1 c4).to (fun j hj => by rw [xval_newS]; exact hdf j hj)
theorem x_newa {t t0 : Nat} {n : Int} {N : Nat} {at_ : ArrayType} {fty : FieldType} (hw : Cond.arrayClass fty ∈ lw_gd) (hty : newarray.typeOf at_ = fty) (htt : (xtys G)[t0]? = some (G.2.2.1 t, fty)) (hra : ∀ U, va_RA U (G.2.2.1 t) fty → U.vm.findClass ("[" ++ fty.toString) = some (G.2.2.1 t)) (ht : ¬ t < 12) (hdf : ∀ j, defaultValue fty = xdef t j) (hn : n = (N : Int)) (hN : N < 100000) (hcb : componentBytes fty ≤ 8) (hd : decode μ.2.1 pc = .ok (.newarray at_, 2)) (hk : k.1 + 1 ≤ μ.2.2.2.2.2.2.1 ∧ k.2 + N ≤ μ.2.2.2.2.2.2.2)
    (kk : Xw G μ (k.1 + 1, k.2 + N) (pc + 2) L (vr G S.1 :: st) (xnew S t N) (xzer I S.1) Q) : Xw G μ k pc L (vi n :: st) S I Q := by
  intro p l e s m args below meth c C H locs ls hR hS hL
  have hts := C.2.2.2.2.2.1
  subst hty
  subst hn
  have hNn : (Int32.ofInt (N : Int)).toNatClampNeg = N := by rw [ix_clamp, ix_nat (by omega)]
  refine va_newaK C.1 C.2.1 (hts _ hw) rfl hd rfl (by rw [i_lt0, w32_id (by omega) (by omega)]; omega) hNn (Nat.le_trans (Nat.mul_le_mul (Nat.le_of_lt hN) hcb) (by decide)) hk.1 hk.2 hR.1 fun H1 cA e1 z1 o1 hAr hNm => ?_
  have hcA : cA = G.2.2.1 t := Option.some.inj (hNm.symm.trans (hra s (C.2.2.2.2.2.2.2.2.1.1.2 t0 _ htt).2))
  subst hcA
  have z1' : H1.size = H.size + 1 := by rw [z1, hR.1]
  have o1' : ∀ q : Nat, q < H.size → H1[q]? = H[q]? := fun q hq => o1 q (by rw [← hR.1]; exact hq)
  refine kk p l e s m args below meth c C H1 _ ls (hR.new z1' o1' ?_) (xS_new hS z1' o1') hL
  have et : xtag (xnew S t N) S.1 = t := by simp [xnew, xtag]
  have el : xlen (xnew S t N) S.1 = N := by simp [xnew, xlen]
  unfold xcell
  rw [et, if_neg ht, el, e1]
  congr 2
  funext j
  rw [xval_newS, hdf j]
theorem xval_upR {i j a b : Nat} (h : b ≠ i) : xval G (upR S i j a) I b = xval G S I b := by
  funext x
  simp [xval, upR, xtag, xref, h]
theorem xval_upRS {i j a : Nat} (b : Nat) {t : Nat} (ht : xtag S i = t) (hk : xk t j = 2) : xval G (upR S i j a) I i b = updV (xval G S I i) j (vo G a) b := by
  unfold updV
  by_cases h : b = j
  · subst h
    simp only [if_true]
    rw [xval_R (S := upR S i b a) (t := t) ht hk]
    simp [upR, xref]
  · simp [xval, upR, xtag, xref, h]
theorem xRep.putR {H H1 : Heap} (h : xRep G S I H) {i j a : Nat} (hi : i < S.1) (hz : H1.size = H.size) (hq : ∀ q : Nat, q ≠ G.1 + i → H1[q]? = H[q]?) (hn : xcell G (upR S i j a) I H1 i) : xRep G (upR S i j a) I H1 := by
  refine ⟨hz.trans h.1, fun b hb => ?_⟩
  by_cases e : b = i
  · subst e; exact hn
  · have h0 := h.2 b hb
    have hq' := hq (G.1 + b) (by omega)
    unfold xcell at h0 ⊢
    rw [xval_upR e]
    split at h0
    next hlt => exact (if_pos hlt).symm ▸ h0.kept hq'
    next hlt => 
      have : ¬ xtag (upR S i j a) b < 12 := hlt
      rw [if_neg this, hq']; exact h0
/-- a final field of a reference type, in its class' constructor -/
theorem x_putF {i ci j idx a N : Nat} {Cn : String} {T : u_T} {ty : Nat → FieldType} (hc : xCls ci Cn T N ty) (hj : j < N) (hw : Cond.fieldLink μ.1.cls idx Cn (T j).2.1 (T j).2.2.1 ∈ lw_gd) (hfin : (T j).2.2.2 = true) (hown : μ.1.cls = Cn) (hin : μ.1.name = "<init>") (hkk : xk ci j = 2) (hd : decode μ.2.1 pc = .ok (.putfield idx, 3)) (hi : i < S.1) (ht : xtag S i = ci) (hn : narrow (ty j) (vr G a) = vr G a) (hfit : fits (ty j) (vr G a) = true) (kk : Xw G μ k (pc + 3) L st (upR S i j (a + 1)) I Q) : Xw G μ k pc L (vr G a :: vr G i :: st) S I Q := by
  intro p l e s m args below meth c C H locs ls hR hS hL
  have hap := xap C hc
  obtain ⟨c1, c2, c3, c4, c5, c6, c7⟩ := hc
  obtain ⟨cell, q1, q2, q3, q4⟩ := hR.obj hi ht c6
  obtain ⟨hSl, hfc, kC, hkC, hkind⟩ := C.2.2.2.2.2.2.2.2.1.1.1 ci _ c1
  obtain ⟨cf, kf, fi, f, hfi, hsl⟩ := hSl j hj
  have hfi' := hfi
  rw [c7 j hj] at hfi'
  have hlay := C.2.2.2.2.2.1 _ (c3 _ (u_in_lay hj))
  unfold u_lay at hlay
  rw [if_pos hfin] at hlay
  have hst := (u_facts hfc hkC (u_lays C.2.2.2.2.2.1 c3 hj) hfi).1
  have hcf : m.cls = cf := by
    obtain ⟨_, _, c', _, _, _, -, -, hf', -, -, -, hown2, -⟩ := Cond.laysFinal_spec hlay
    have e1 : c' = cf := by have := hfi.symm.trans hf'; simp at this; exact this.1.symm
    rw [c7 j hj] at hown2
    have ho := C.2.2.2.2.1
    rw [hown] at ho
    rw [← e1]; exact Option.some.inj (ho.symm.trans hown2)
  have h6 := u_fits hfc hkC hkind (Or.inr hlay) hfi (c4 j hj) hn hfit
  refine W.putFinK C.1 C.2.1 C.2.2.2.2.1 (C.2.2.2.2.2.1 _ hw) hfi' hst hcf (C.2.2.2.2.2.2.2.1 hin) (by rw [q2]; exact h6) q1 q3 (by rw [hsl]; exact k2_hasslot (q4 j (by rw [c2]; exact hj))) rfl rfl hd fun H' e1 e2 e3 => ?_
  rw [hsl] at e1 ⊢
  refine kk p l e s m args below meth c C H' _ ls (hR.putR hi e2 e3 ?_) (hS.put e2 e3 (show G.1 ≤ G.1 + i from Nat.le_add_right _ _)) hL
  unfold xcell
  have ht' : xtag (upR S i j (a + 1)) i = ci := ht
  rw [ht', if_pos c6]
  rw [c2] at q4 ⊢
  exact t_OB.to (V := updV (xval G S I i) j (vr G a)) ⟨_, e1, q2, q3, t_set q4 hap hj (vr G a)⟩ (fun b _ => (xval_upRS (G := G) (I := I) (a := a + 1) b ht hkk).symm)
theorem x_anew {idx N : Nat} {n : Int} (hw : Cond.classLink μ.1.cls idx RX7 ∈ lw_gd) (hn : n = (N : Int)) (hN : N < 100000) (hd : decode μ.2.1 pc = .ok (.anewarray idx, 3)) (hk : k.1 + 1 ≤ μ.2.2.2.2.2.2.1 ∧ k.2 + N ≤ μ.2.2.2.2.2.2.2)
    (kk : Xw G μ (k.1 + 1, k.2 + N) (pc + 3) L (vr G S.1 :: st) (xnew S 16 N) (xzer I S.1) Q) : Xw G μ k pc L (vi n :: st) S I Q := by
  intro p l e s m args below meth c C H locs ls hR hS hL
  have hts := C.2.2.2.2.2.1
  subst hn
  have hNn : (Int32.ofInt (N : Int)).toNatClampNeg = N := by rw [ix_clamp, ix_nat (by omega)]
  refine W.anew C.1 C.2.1 C.2.2.2.2.1 (hts _ hw) (va_AO.use C.2.2.2.2.2.2.2.2.1.2.2.1) rfl hd rfl (by rw [i_lt0, w32_id (by omega) (by omega)]; omega) (by rw [hNn]; omega) hk.1 (by rw [hNn]; exact hk.2) fun cA kA comp f1 f2 f3 f4 => ?_
  rw [hNn]
  obtain ⟨kA', comp', g1, g2, g3, g4⟩ := (C.2.2.2.2.2.2.2.2.1.1.2 4 (G.2.2.1 16, .object RX7) rfl).2
  have hcA : cA = G.2.2.1 16 := Option.some.inj (f1.symm.trans g4)
  subst hcA
  generalize hH1 : H.push ({ cls := G.2.2.1 16, slots := Array.replicate N .null, vm := .none } : Cell) = H1
  have z1' : H1.size = H.size + 1 := by rw [← hH1, Array.size_push]
  have o1' : ∀ q : Nat, q < H.size → H1[q]? = H[q]? := fun q hq => by rw [← hH1, Array.getElem?_push, if_neg (Nat.ne_of_lt hq)]
  rw [hR.1]
  refine kk p l e s m args below meth c C H1 _ ls (hR.new z1' o1' ?_) (xS_new hS z1' o1') hL
  have et : xtag (xnew S 16 N) S.1 = 16 := by simp [xnew, xtag]
  have el : xlen (xnew S 16 N) S.1 = N := by simp [xnew, xlen]
  unfold xcell
  rw [et, if_neg (by decide), el, ← hR.1, ← hH1, Array.getElem?_push_size, arrV_new]
  congr 2
  funext j
  rw [xval_newS]
  rfl
/-- a Told is laid into the row of Tolds -/
theorem x_aast {i a : Nat} {x : Int} (hd : decode μ.2.1 pc = .ok (.aastore, 1)) (hi : i < S.1) (ht : xtag S i = 16) (hb : inb x (xlen S i)) (ha : a < S.1) (hta : xtag S a = 7) (kk : Xw G μ k (pc + 1) L st (upR S i (ix x) (a + 1)) I Q) : Xw G μ k pc L (vr G a :: vi x :: vr G i :: st) S I Q := by
  intro p l e s m args below meth c C H locs ls hR hS hL
  obtain ⟨cellV, g1, g2, g3, -⟩ := hR.obj ha hta (by decide)
  have hcls := (C.2.2.2.2.2.2.2.2.1.1.1 7 (RX7, TX7, 11) rfl).2
  obtain ⟨kA, comp, k1, k2, k3, -⟩ := (C.2.2.2.2.2.2.2.2.1.1.2 4 (G.2.2.1 16, .object RX7) rfl).2
  have hcomp : comp = G.2.1.1 7 := Option.some.inj (k3.symm.trans hcls.1)
  subst hcomp
  obtain ⟨kC, hkC, -⟩ := hcls.2
  have hin := inb_vp hb
  refine W.aast C.1 C.2.1 (hR.arr hi ht (by decide)) (fun q h => by cases h) (fun h => by cases h) k1 k2 rfl hkC ⟨fun q => hin (Or.inl q), by rw [arrV_size, ix_clamp]; exact inb_lt hb⟩ g1 (fun q h => by rw [g3] at h; cases h) (by rw [g2]; exact hkC) (by rw [g2]; exact va_assign hcls) rfl rfl hd fun H1 e' z' oq => ?_
  refine kk p l e s m args below meth c C H1 _ ls (hR.putR hi z' oq ?_) (hS.put z' oq (show G.1 ≤ G.1 + i from Nat.le_add_right _ _)) hL
  unfold xcell
  have ht' : xtag (upR S i (ix x) (a + 1)) i = 16 := ht
  rw [ht', if_neg (by decide), e', arrV_store, ix_clamp]
  congr 2
  funext b
  exact (xval_upRS (G := G) (I := I) (j := ix x) (a := a + 1) b ht rfl).symm
/-- n values from place sp of cell a on are laid into cell b from place dp on -/
def xcpy (I : XI) (a b sp dp n : Nat) : XI := fun i j => if i = b then (if dp ≤ j ∧ j < dp + n then I a (sp + (j - dp)) else I i j) else I i j
theorem x_copy {idx a b : Nat} {sp dp n : Int} (hw : Cond.methodLink μ.1.cls idx arraycopyName ∈ lw_gd) (hwn : Cond.native arraycopyName ∈ lw_gd) (hws : Cond.static arraycopyName ∈ lw_gd) (hwi : Cond.initialized "java/lang/System" ∈ lw_gd) (hd : decode μ.2.1 pc = .ok (.invokestatic idx, 3)) (ha : a < S.1) (hta : xtag S a = 13) (hb : b < S.1) (htb : xtag S b = 13) (h1 : 0 ≤ w32 sp) (h2 : 0 ≤ w32 dp) (h3 : 0 ≤ w32 n) (h4 : ix sp + ix n ≤ xlen S a) (h5 : ix dp + ix n ≤ xlen S b) (hf : 1 ≤ μ.2.2.2.2.1 ∧ (st.map fun v => v.category).sum + (nativeFrameWords "java/lang/System" "arraycopy" 5 + 11) ≤ μ.2.2.2.2.2.1)
    (kk : Xw G μ k (pc + 3) L st S (xcpy I a b (ix sp) (ix dp) (ix n)) Q) : Xw G μ k pc L (vi n :: vi dp :: vr G b :: vi sp :: vr G a :: st) S I Q := by
  intro p l e s m args below meth c C H locs ls hR hS hL
  have hts := C.2.2.2.2.2.1
  have kk := kk p l e s m args below meth c C
  have n1 : ¬ Int32.ofInt sp < 0 := by rw [i_lt0]; omega
  have n2 : ¬ Int32.ofInt dp < 0 := by rw [i_lt0]; omega
  have n3 : ¬ Int32.ofInt n < 0 := by rw [i_lt0]; omega
  have hc0 := hR.arr ha hta (by decide)
  have hc1 := hR.arr hb htb (by decide)
  obtain ⟨-, k0, hk0, cm0, hkk0⟩ := xarr C 1 rfl (xlen S a) (xval G S I a)
  obtain ⟨-, k1, hk1, cm1, hkk1⟩ := xarr C 1 rfl (xlen S b) (xval G S I b)
  have va : xval G S I a = fun j => Value.int (Int32.ofInt (I a j)) := by funext j; exact xval_I hta rfl
  have vb : xval G S I b = fun j => Value.int (Int32.ofInt (I b j)) := by funext j; exact xval_I htb rfl
  intro T hT X
  obtain ⟨vm', X', step⟩ := X.arraycopy C.1 C.2.2.2.2.1 (hts _ hw) (hts _ hwn) (hts _ hws) (hts _ hwi) (src := G.1 + a) (dst := G.1 + b) (cs := arrV (G.2.2.1 13) (xlen S a) (xval G S I a)) (cd := arrV (G.2.2.1 13) (xlen S b) (xval G S I b)) (srcPos := Int32.ofInt sp) (destPos := Int32.ofInt dp) (n := Int32.ofInt n) (by rw [hT]; exact hc0) (by rw [hT]; exact hc1)
    (fun _ h => by cases h) (fun _ h => by cases h) (fun h => by cases h) (fun h => by cases h) hk0 hk1 hkk0 hkk1 (by rfl) n1 n2 n3
    (by rw [i_t, i_t, arrV_size]; unfold ix at h4; omega)
    (by rw [i_t, i_t, arrV_size]; unfold ix at h5; omega)
    (fun vm₁ _ i hi => by
      rw [ix_clamp] at hi ⊢
      have e : (arrV (G.2.2.1 13) (xlen S a) (xval G S I a)).slots.getD (ix sp + i) .null = Value.int (Int32.ofInt (I a (ix sp + i))) := by
        rw [Array.getD_eq_getD_getElem?, arrV_read _ _ (by omega), va]
        rfl
      refine ⟨?_, ?_⟩
      · rw [e]; rfl
      · rw [e]; exact trivial)
    (g := F0 m pc ls (vi n :: vi dp :: vr G b :: vi sp :: vr G a :: st)) rfl (by rw [C.2.2.2.1]; exact hL.1) (rest := st) rfl (by rw [C.2.1]; exact hd) hf.1 (by show 2 * 0 + _ + _ ≤ _; have := hf.2; show 2 * 0 + _ + _ ≤ μ.2.2.2.2.2.1; omega)
  have e1 : copied (arrV (G.2.2.1 13) (xlen S a) (xval G S I a)) (arrV (G.2.2.1 13) (xlen S b) (xval G S I b)) (Int32.ofInt sp) (Int32.ofInt dp) (Int32.ofInt n) = arrV (G.2.2.1 13) (xlen S b) (xval G S (xcpy I a b (ix sp) (ix dp) (ix n)) b) := by
    rw [va, vb]
    have h9 := va_copied (fun z => Value.int (Int32.ofInt z)) (G.2.2.1 13) (G.2.2.1 13) (n0 := xlen S a) (n1 := xlen S b) (sp := ix sp) (dp := ix dp) (n := ix n) (I a) (I b) h4
    have h8 : copied (arrV (G.2.2.1 13) (xlen S a) fun j => Value.int (Int32.ofInt (I a j))) (arrV (G.2.2.1 13) (xlen S b) fun j => Value.int (Int32.ofInt (I b j))) (Int32.ofInt sp) (Int32.ofInt dp) (Int32.ofInt n) = (arrV (G.2.2.1 13) (xlen S b) fun j => Value.int (Int32.ofInt (I b j))).storeRun (ix dp) ((arrV (G.2.2.1 13) (xlen S a) fun j => Value.int (Int32.ofInt (I a j))).stretch (ix sp) (ix n)) := by
      rw [← ix_clamp, ← ix_clamp, ← ix_clamp]
    rw [h8, h9]
    congr 1
    funext j
    rw [xval_I htb rfl]
    simp only [xcpy, va_cpy, if_true]
  rw [e1] at X' step
  have hl : G.1 + b < H.size := (Array.getElem?_eq_some_iff.mp hc1).1
  have hheap : ((T.setVm vm').setCell (G.1 + b) (arrV (G.2.2.1 13) (xlen S b) (xval G S (xcpy I a b (ix sp) (ix dp) (ix n)) b))).heap = H.setIfInBounds (G.1 + b) (arrV (G.2.2.1 13) (xlen S b) (xval G S (xcpy I a b (ix sp) (ix dp) (ix n)) b)) := by rw [← hT]; rfl
  have oq : ∀ q : Nat, q ≠ G.1 + b → (H.setIfInBounds (G.1 + b) (arrV (G.2.2.1 13) (xlen S b) (xval G S (xcpy I a b (ix sp) (ix dp) (ix n)) b)))[q]? = H[q]? := fun q hq => by simp [Array.getElem?_setIfInBounds, Ne.symm hq]
  have hz : (H.setIfInBounds (G.1 + b) (arrV (G.2.2.1 13) (xlen S b) (xval G S (xcpy I a b (ix sp) (ix dp) (ix n)) b))).size = H.size := by simp
  obtain ⟨t, a1, b1⟩ := kk _ _ ls ⟨hz.trans hR.1, fun x hx => by
      by_cases ex : x = b
      · subst ex
        unfold xcell
        rw [htb, if_neg (by decide)]
        simp [Array.getElem?_setIfInBounds, hl]
      · have h0 := hR.2 x hx
        have hq' := oq (G.1 + x) (by omega)
        have ev : xval G S (xcpy I a b (ix sp) (ix dp) (ix n)) x = xval G S I x := by
          funext y
          simp [xval, xcpy, ex]
        unfold xcell at h0 ⊢
        rw [ev]
        split at h0
        next hlt => rw [if_pos hlt]; exact h0.kept hq'
        next hlt => rw [if_neg hlt, hq']; exact h0⟩ ⟨by rw [hz]; exact hS.1, fun q g1 g2 => by
      rw [oq q (fun e => g2 (by rw [e]; exact Nat.le_add_right _ _))]
      exact hS.2.1 q g1 g2, fun q hq => by
      rcases List.mem_append.mp hq with h | h
      · exact hS.2.2 q h
      · obtain ⟨z, -, hz⟩ := List.mem_map.mp h
        rw [← hz]
        exact Nat.le_add_right _ _⟩ hL _ hheap X'
  exact ⟨t, step t a1, b1⟩
end XN
