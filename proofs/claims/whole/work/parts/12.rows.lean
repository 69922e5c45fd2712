theorem l_cmp (a b : Int) : lg_cmp (Int64.ofInt a) (Int64.ofInt b) = Int32.ofInt (llcmp a b) := by
  unfold lg_cmp llcmp
  simp only [l_lt, l_eq]
  repeat' split
  all_goals first | rfl | omega
theorem x_iconst {G : XG} {μ : XMeth} {k : Nat × Nat} {pc : Nat} {L : List (Option Value)} {st : List Value} {S : XS} {I : XI} {Q : Option Value → XS → XI → Prop} {n : Int} (hd : decode μ.2.1 pc = .ok (.iconst n, 1))  (kk : Xw G μ k (pc + 1) L (vi n :: st) S I Q) : Xw G μ k pc L st S I Q := by
  intro p l e s m args below meth c C H locs ls hR hS hL
  have kk := kk p l e s m args below meth c C H locs ls hR hS hL
  exact lv_iconst C.1 C.2.1 hd rfl kk
theorem x_bipush {G : XG} {μ : XMeth} {k : Nat × Nat} {pc : Nat} {L : List (Option Value)} {st : List Value} {S : XS} {I : XI} {Q : Option Value → XS → XI → Prop} {n : Int} (hd : decode μ.2.1 pc = .ok (.bipush n, 2)) (hn : (Int8.ofInt n).toInt32 = Int32.ofInt n) (kk : Xw G μ k (pc + 2) L (vi n :: st) S I Q) : Xw G μ k pc L st S I Q := by
  intro p l e s m args below meth c C H locs ls hR hS hL
  have kk := kk p l e s m args below meth c C H locs ls hR hS hL
  exact lv_bipush C.1 C.2.1 hd hn kk
theorem x_sipush {G : XG} {μ : XMeth} {k : Nat × Nat} {pc : Nat} {L : List (Option Value)} {st : List Value} {S : XS} {I : XI} {Q : Option Value → XS → XI → Prop} {n : Int} (hd : decode μ.2.1 pc = .ok (.sipush n, 3)) (hn : (Int16.ofInt n).toInt32 = Int32.ofInt n) (kk : Xw G μ k (pc + 3) L (vi n :: st) S I Q) : Xw G μ k pc L st S I Q := by
  intro p l e s m args below meth c C H locs ls hR hS hL
  have kk := kk p l e s m args below meth c C H locs ls hR hS hL
  exact lv_sipush C.1 C.2.1 hd hn kk
theorem x_lconst {G : XG} {μ : XMeth} {k : Nat × Nat} {pc : Nat} {L : List (Option Value)} {st : List Value} {S : XS} {I : XI} {Q : Option Value → XS → XI → Prop} {n : Fin 2} {z : Int} (hd : decode μ.2.1 pc = .ok (.lconst n, 1)) (hn : Int64.ofNat (n : Nat) = Int64.ofInt z) (kk : Xw G μ k (pc + 1) L (vl z :: st) S I Q) : Xw G μ k pc L st S I Q := by
  intro p l e s m args below meth c C H locs ls hR hS hL
  have kk := kk p l e s m args below meth c C H locs ls hR hS hL
  exact lv_lconst C.1 C.2.1 hd hn kk
theorem x_ldc {G : XG} {μ : XMeth} {k : Nat × Nat} {pc : Nat} {L : List (Option Value)} {st : List Value} {S : XS} {I : XI} {Q : Option Value → XS → XI → Prop} {i : Nat} {z : Int} {v : Int32} (hd : decode μ.2.1 pc = .ok (.ldc i, 2)) (hw : Cond.constant μ.1.cls i v ∈ lw_gd) (hv : v = Int32.ofInt z) (kk : Xw G μ k (pc + 2) L (vi z :: st) S I Q) : Xw G μ k pc L st S I Q := by
  intro p l e s m args below meth c C H locs ls hR hS hL
  have kk := kk p l e s m args below meth c C H locs ls hR hS hL
  subst hv; exact lv_ldc C.1 C.2.1 C.2.2.2.2.1 (C.2.2.2.2.2.1 _ hw) hd kk
theorem x_ldcw {G : XG} {μ : XMeth} {k : Nat × Nat} {pc : Nat} {L : List (Option Value)} {st : List Value} {S : XS} {I : XI} {Q : Option Value → XS → XI → Prop} {i : Nat} {z : Int} {v : Int32} (hd : decode μ.2.1 pc = .ok (.ldc_w i, 3)) (hw : Cond.constant μ.1.cls i v ∈ lw_gd) (hv : v = Int32.ofInt z) (kk : Xw G μ k (pc + 3) L (vi z :: st) S I Q) : Xw G μ k pc L st S I Q := by
  intro p l e s m args below meth c C H locs ls hR hS hL
  have kk := kk p l e s m args below meth c C H locs ls hR hS hL
  subst hv; exact lv_ldcw C.1 C.2.1 C.2.2.2.2.1 (C.2.2.2.2.2.1 _ hw) hd kk
theorem x_ldc2 {G : XG} {μ : XMeth} {k : Nat × Nat} {pc : Nat} {L : List (Option Value)} {st : List Value} {S : XS} {I : XI} {Q : Option Value → XS → XI → Prop} {i : Nat} {z : Int} {v : Int64} (hd : decode μ.2.1 pc = .ok (.ldc2_w i, 3)) (hw : Cond.constantLong μ.1.cls i v ∈ lw_gd) (hv : v = Int64.ofInt z) (kk : Xw G μ k (pc + 3) L (vl z :: st) S I Q) : Xw G μ k pc L st S I Q := by
  intro p l e s m args below meth c C H locs ls hR hS hL
  have kk := kk p l e s m args below meth c C H locs ls hR hS hL
  subst hv; exact lv_ldc2 C.1 C.2.1 C.2.2.2.2.1 (C.2.2.2.2.2.1 _ hw) hd kk
theorem x_ldcS {G : XG} {μ : XMeth} {k : Nat × Nat} {pc : Nat} {L : List (Option Value)} {st : List Value} {S : XS} {I : XI} {Q : Option Value → XS → XI → Prop} {i q : Nat} (hd : decode μ.2.1 pc = .ok (.ldc i, 2)) (hq : q < 16) (hi : xsI.getD q 0 = i) (ho : μ.1.cls = RX3) (kk : Xw G μ k (pc + 2) L (vs G q :: st) S I Q) : Xw G μ k pc L st S I Q := by
  intro p l e s m args below meth c C H locs ls hR hS hL
  have kk := kk p l e s m args below meth c C H locs ls hR hS hL
  subst hi; exact va_ldcS C.1 C.2.1 (own := RX3) (by rw [← ho]; exact C.2.2.2.2.1) (C.2.2.2.2.2.2.2.2.1.2.2.2 q hq) hd kk
theorem x_iload_n {G : XG} {μ : XMeth} {k : Nat × Nat} {pc : Nat} {L : List (Option Value)} {st : List Value} {S : XS} {I : XI} {Q : Option Value → XS → XI → Prop} {z : Int} {q : Fin 4} {i : Nat} (hd : decode μ.2.1 pc = .ok (.iload_n q, 1)) (hi : (q : Nat) = i) (hl : L[i]? = some (some (vi z))) (kk : Xw G μ k (pc + 1) L (vi z :: st) S I Q) : Xw G μ k pc L st S I Q := by
  intro p l e s m args below meth c C H locs ls hR hS hL
  have kk := kk p l e s m args below meth c C H locs ls hR hS hL
  exact lv_iload_n C.1 C.2.1 hd hi (xL_at hL hl) kk
theorem x_iload {G : XG} {μ : XMeth} {k : Nat × Nat} {pc : Nat} {L : List (Option Value)} {st : List Value} {S : XS} {I : XI} {Q : Option Value → XS → XI → Prop} {z : Int} {i : Nat} (hd : decode μ.2.1 pc = .ok (.iload i, 2)) (hl : L[i]? = some (some (vi z))) (kk : Xw G μ k (pc + 2) L (vi z :: st) S I Q) : Xw G μ k pc L st S I Q := by
  intro p l e s m args below meth c C H locs ls hR hS hL
  have kk := kk p l e s m args below meth c C H locs ls hR hS hL
  exact lv_iload C.1 C.2.1 hd (xL_at hL hl) kk
theorem x_lload_n {G : XG} {μ : XMeth} {k : Nat × Nat} {pc : Nat} {L : List (Option Value)} {st : List Value} {S : XS} {I : XI} {Q : Option Value → XS → XI → Prop} {z : Int} {q : Fin 4} {i : Nat} (hd : decode μ.2.1 pc = .ok (.lload_n q, 1)) (hi : (q : Nat) = i) (hl : L[i]? = some (some (vl z))) (kk : Xw G μ k (pc + 1) L (vl z :: st) S I Q) : Xw G μ k pc L st S I Q := by
  intro p l e s m args below meth c C H locs ls hR hS hL
  have kk := kk p l e s m args below meth c C H locs ls hR hS hL
  exact lv_lload_n C.1 C.2.1 hd hi (xL_at hL hl) kk
theorem x_lload {G : XG} {μ : XMeth} {k : Nat × Nat} {pc : Nat} {L : List (Option Value)} {st : List Value} {S : XS} {I : XI} {Q : Option Value → XS → XI → Prop} {z : Int} {i : Nat} (hd : decode μ.2.1 pc = .ok (.lload i, 2)) (hl : L[i]? = some (some (vl z))) (kk : Xw G μ k (pc + 2) L (vl z :: st) S I Q) : Xw G μ k pc L st S I Q := by
  intro p l e s m args below meth c C H locs ls hR hS hL
  have kk := kk p l e s m args below meth c C H locs ls hR hS hL
  exact lv_lload C.1 C.2.1 hd (xL_at hL hl) kk
theorem x_aload_n {G : XG} {μ : XMeth} {k : Nat × Nat} {pc : Nat} {L : List (Option Value)} {st : List Value} {S : XS} {I : XI} {Q : Option Value → XS → XI → Prop} {a : Nat} {q : Fin 4} {i : Nat} (hd : decode μ.2.1 pc = .ok (.aload_n q, 1)) (hi : (q : Nat) = i) (hl : L[i]? = some (some (.ref a))) (kk : Xw G μ k (pc + 1) L (.ref a :: st) S I Q) : Xw G μ k pc L st S I Q := by
  intro p l e s m args below meth c C H locs ls hR hS hL
  have kk := kk p l e s m args below meth c C H locs ls hR hS hL
  exact lv_aload_n C.1 C.2.1 hd hi (xL_at hL hl) kk
theorem x_aload {G : XG} {μ : XMeth} {k : Nat × Nat} {pc : Nat} {L : List (Option Value)} {st : List Value} {S : XS} {I : XI} {Q : Option Value → XS → XI → Prop} {a : Nat} {i : Nat} (hd : decode μ.2.1 pc = .ok (.aload i, 2)) (hl : L[i]? = some (some (.ref a))) (kk : Xw G μ k (pc + 2) L (.ref a :: st) S I Q) : Xw G μ k pc L st S I Q := by
  intro p l e s m args below meth c C H locs ls hR hS hL
  have kk := kk p l e s m args below meth c C H locs ls hR hS hL
  exact lv_aload C.1 C.2.1 hd (xL_at hL hl) kk
theorem x_istore_n {G : XG} {μ : XMeth} {k : Nat × Nat} {pc : Nat} {L : List (Option Value)} {st : List Value} {S : XS} {I : XI} {Q : Option Value → XS → XI → Prop} {z : Int} {q : Fin 4} {i : Nat} {L' : List (Option Value)} (hd : decode μ.2.1 pc = .ok (.istore_n q, 1)) (hi : (q : Nat) = i) (hn : i < μ.2.2.1) (hs : xst i (vi z) L L') (kk : Xw G μ k (pc + 1) L' st S I Q) : Xw G μ k pc L (vi z :: st) S I Q := by
  intro p l e s m args below meth c C H locs ls hR hS hL
  exact lv_istore_n C.1 C.2.1 hd hi hL hn rfl (fun ls' h' => kk p l e s m args below meth c C H locs ls' hR hS (xL_st1 h' hs))
theorem x_istore {G : XG} {μ : XMeth} {k : Nat × Nat} {pc : Nat} {L : List (Option Value)} {st : List Value} {S : XS} {I : XI} {Q : Option Value → XS → XI → Prop} {z : Int} {i : Nat} {L' : List (Option Value)} (hd : decode μ.2.1 pc = .ok (.istore i, 2)) (hn : i < μ.2.2.1) (hs : xst i (vi z) L L') (kk : Xw G μ k (pc + 2) L' st S I Q) : Xw G μ k pc L (vi z :: st) S I Q := by
  intro p l e s m args below meth c C H locs ls hR hS hL
  exact lv_istore C.1 C.2.1 hd hL hn rfl (fun ls' h' => kk p l e s m args below meth c C H locs ls' hR hS (xL_st1 h' hs))
theorem x_lstore_n {G : XG} {μ : XMeth} {k : Nat × Nat} {pc : Nat} {L : List (Option Value)} {st : List Value} {S : XS} {I : XI} {Q : Option Value → XS → XI → Prop} {z : Int} {q : Fin 4} {i : Nat} {L' : List (Option Value)} (hd : decode μ.2.1 pc = .ok (.lstore_n q, 1)) (hi : (q : Nat) = i) (hn : i + 1 < μ.2.2.1) (hs : xst i (vl z) L L') (kk : Xw G μ k (pc + 1) L' st S I Q) : Xw G μ k pc L (vl z :: st) S I Q := by
  intro p l e s m args below meth c C H locs ls hR hS hL
  exact lv_lstore_n C.1 C.2.1 hd hi hL hn rfl (fun ls' h' => kk p l e s m args below meth c C H locs ls' hR hS (xL_st2 rfl h' hs))
theorem x_lstore {G : XG} {μ : XMeth} {k : Nat × Nat} {pc : Nat} {L : List (Option Value)} {st : List Value} {S : XS} {I : XI} {Q : Option Value → XS → XI → Prop} {z : Int} {i : Nat} {L' : List (Option Value)} (hd : decode μ.2.1 pc = .ok (.lstore i, 2)) (hn : i + 1 < μ.2.2.1) (hs : xst i (vl z) L L') (kk : Xw G μ k (pc + 2) L' st S I Q) : Xw G μ k pc L (vl z :: st) S I Q := by
  intro p l e s m args below meth c C H locs ls hR hS hL
  exact lv_lstore C.1 C.2.1 hd hL hn rfl (fun ls' h' => kk p l e s m args below meth c C H locs ls' hR hS (xL_st2 rfl h' hs))
theorem x_astore_n {G : XG} {μ : XMeth} {k : Nat × Nat} {pc : Nat} {L : List (Option Value)} {st : List Value} {S : XS} {I : XI} {Q : Option Value → XS → XI → Prop} {a : Nat} {q : Fin 4} {i : Nat} {L' : List (Option Value)} (hd : decode μ.2.1 pc = .ok (.astore_n q, 1)) (hi : (q : Nat) = i) (hn : i < μ.2.2.1) (hs : xst i (.ref a) L L') (kk : Xw G μ k (pc + 1) L' st S I Q) : Xw G μ k pc L (.ref a :: st) S I Q := by
  intro p l e s m args below meth c C H locs ls hR hS hL
  exact lv_astore_n C.1 C.2.1 hd hi hL hn rfl (fun ls' h' => kk p l e s m args below meth c C H locs ls' hR hS (xL_st1 h' hs))
theorem x_astore {G : XG} {μ : XMeth} {k : Nat × Nat} {pc : Nat} {L : List (Option Value)} {st : List Value} {S : XS} {I : XI} {Q : Option Value → XS → XI → Prop} {a : Nat} {i : Nat} {L' : List (Option Value)} (hd : decode μ.2.1 pc = .ok (.astore i, 2)) (hn : i < μ.2.2.1) (hs : xst i (.ref a) L L') (kk : Xw G μ k (pc + 2) L' st S I Q) : Xw G μ k pc L (.ref a :: st) S I Q := by
  intro p l e s m args below meth c C H locs ls hR hS hL
  exact lv_astore C.1 C.2.1 hd hL hn rfl (fun ls' h' => kk p l e s m args below meth c C H locs ls' hR hS (xL_st1 h' hs))
theorem x_iinc {G : XG} {μ : XMeth} {k : Nat × Nat} {pc : Nat} {L : List (Option Value)} {st : List Value} {S : XS} {I : XI} {Q : Option Value → XS → XI → Prop} {z n : Int} {i : Nat} {L' : List (Option Value)} (hd : decode μ.2.1 pc = .ok (.iinc i n, 3)) (hl : L[i]? = some (some (vi z))) (hn : i < μ.2.2.1) (hs : xst i (vi (z + n)) L L') (kk : Xw G μ k (pc + 3) L' st S I Q) : Xw G μ k pc L st S I Q := by
  intro p l e s m args below meth c C H locs ls hR hS hL
  obtain ⟨j, hj⟩ := List.getElem?_of_mem ((xlv_mem (q := (i, vi z)) L 0).mpr ⟨i, by simp, hl⟩)
  exact lv_iinc C.1 C.2.1 hd hL hj (i_add z n) hn rfl (fun ls' h' => kk p l e s m args below meth c C H locs ls' hR hS (xL_st1 h' hs))
theorem x_iadd {G : XG} {μ : XMeth} {k : Nat × Nat} {pc : Nat} {L : List (Option Value)} {st : List Value} {S : XS} {I : XI} {Q : Option Value → XS → XI → Prop} {x y : Int} (hd : decode μ.2.1 pc = .ok (.iadd, 1))  (kk : Xw G μ k (pc + 1) L (vi (x + y) :: st) S I Q) : Xw G μ k pc L (vi y :: vi x :: st) S I Q := by
  intro p l e s m args below meth c C H locs ls hR hS hL
  have kk := kk p l e s m args below meth c C H locs ls hR hS hL
  exact lv_iadd C.1 C.2.1 hd (by rw [i_add]; exact kk)
theorem x_isub {G : XG} {μ : XMeth} {k : Nat × Nat} {pc : Nat} {L : List (Option Value)} {st : List Value} {S : XS} {I : XI} {Q : Option Value → XS → XI → Prop} {x y : Int} (hd : decode μ.2.1 pc = .ok (.isub, 1))  (kk : Xw G μ k (pc + 1) L (vi (x - y) :: st) S I Q) : Xw G μ k pc L (vi y :: vi x :: st) S I Q := by
  intro p l e s m args below meth c C H locs ls hR hS hL
  have kk := kk p l e s m args below meth c C H locs ls hR hS hL
  exact lv_isub C.1 C.2.1 hd (by rw [i_sub]; exact kk)
theorem x_imul {G : XG} {μ : XMeth} {k : Nat × Nat} {pc : Nat} {L : List (Option Value)} {st : List Value} {S : XS} {I : XI} {Q : Option Value → XS → XI → Prop} {x y : Int} (hd : decode μ.2.1 pc = .ok (.imul, 1))  (kk : Xw G μ k (pc + 1) L (vi (x * y) :: st) S I Q) : Xw G μ k pc L (vi y :: vi x :: st) S I Q := by
  intro p l e s m args below meth c C H locs ls hR hS hL
  have kk := kk p l e s m args below meth c C H locs ls hR hS hL
  exact lv_imul C.1 C.2.1 hd (by rw [i_mul]; exact kk)
theorem x_idiv {G : XG} {μ : XMeth} {k : Nat × Nat} {pc : Nat} {L : List (Option Value)} {st : List Value} {S : XS} {I : XI} {Q : Option Value → XS → XI → Prop} {x y : Int} (hd : decode μ.2.1 pc = .ok (.idiv, 1)) (hy : w32 y ≠ 0) (kk : Xw G μ k (pc + 1) L (vi (idiv x y) :: st) S I Q) : Xw G μ k pc L (vi y :: vi x :: st) S I Q := by
  intro p l e s m args below meth c C H locs ls hR hS hL
  have kk := kk p l e s m args below meth c C H locs ls hR hS hL
  exact lv_idiv C.1 C.2.1 hd (by rw [i_eq0]; exact hy) (by rw [i_div]; exact kk)
theorem x_irem {G : XG} {μ : XMeth} {k : Nat × Nat} {pc : Nat} {L : List (Option Value)} {st : List Value} {S : XS} {I : XI} {Q : Option Value → XS → XI → Prop} {x y : Int} (hd : decode μ.2.1 pc = .ok (.irem, 1)) (hy : w32 y ≠ 0) (kk : Xw G μ k (pc + 1) L (vi (irem x y) :: st) S I Q) : Xw G μ k pc L (vi y :: vi x :: st) S I Q := by
  intro p l e s m args below meth c C H locs ls hR hS hL
  have kk := kk p l e s m args below meth c C H locs ls hR hS hL
  exact lv_irem C.1 C.2.1 hd (by rw [i_eq0]; exact hy) (by rw [i_mod]; exact kk)
theorem x_iand {G : XG} {μ : XMeth} {k : Nat × Nat} {pc : Nat} {L : List (Option Value)} {st : List Value} {S : XS} {I : XI} {Q : Option Value → XS → XI → Prop} {x y : Int} (hd : decode μ.2.1 pc = .ok (.iand, 1))  (kk : Xw G μ k (pc + 1) L (vi (iand x y) :: st) S I Q) : Xw G μ k pc L (vi y :: vi x :: st) S I Q := by
  intro p l e s m args below meth c C H locs ls hR hS hL
  have kk := kk p l e s m args below meth c C H locs ls hR hS hL
  have kk : W p l e (xrm μ) s m args below meth c H locs k.1 k.2 _ (F0 m (pc + 1) ls (.int (Int32.ofInt (iand x y)) :: st)) := kk
  unfold iand at kk; rw [i_of] at kk; exact lv_iand C.1 C.2.1 hd kk
theorem x_ior {G : XG} {μ : XMeth} {k : Nat × Nat} {pc : Nat} {L : List (Option Value)} {st : List Value} {S : XS} {I : XI} {Q : Option Value → XS → XI → Prop} {x y : Int} (hd : decode μ.2.1 pc = .ok (.ior, 1))  (kk : Xw G μ k (pc + 1) L (vi (ior x y) :: st) S I Q) : Xw G μ k pc L (vi y :: vi x :: st) S I Q := by
  intro p l e s m args below meth c C H locs ls hR hS hL
  have kk := kk p l e s m args below meth c C H locs ls hR hS hL
  have kk : W p l e (xrm μ) s m args below meth c H locs k.1 k.2 _ (F0 m (pc + 1) ls (.int (Int32.ofInt (ior x y)) :: st)) := kk
  unfold ior at kk; rw [i_of] at kk; exact lv_ior C.1 C.2.1 hd kk
theorem x_ixor {G : XG} {μ : XMeth} {k : Nat × Nat} {pc : Nat} {L : List (Option Value)} {st : List Value} {S : XS} {I : XI} {Q : Option Value → XS → XI → Prop} {x y : Int} (hd : decode μ.2.1 pc = .ok (.ixor, 1))  (kk : Xw G μ k (pc + 1) L (vi (ixor x y) :: st) S I Q) : Xw G μ k pc L (vi y :: vi x :: st) S I Q := by
  intro p l e s m args below meth c C H locs ls hR hS hL
  have kk := kk p l e s m args below meth c C H locs ls hR hS hL
  have kk : W p l e (xrm μ) s m args below meth c H locs k.1 k.2 _ (F0 m (pc + 1) ls (.int (Int32.ofInt (ixor x y)) :: st)) := kk
  unfold ixor at kk; rw [i_of] at kk; exact lv_ixor C.1 C.2.1 hd kk
theorem x_ishl {G : XG} {μ : XMeth} {k : Nat × Nat} {pc : Nat} {L : List (Option Value)} {st : List Value} {S : XS} {I : XI} {Q : Option Value → XS → XI → Prop} {x y : Int} (hd : decode μ.2.1 pc = .ok (.ishl, 1))  (kk : Xw G μ k (pc + 1) L (vi (ishl x y) :: st) S I Q) : Xw G μ k pc L (vi y :: vi x :: st) S I Q := by
  intro p l e s m args below meth c C H locs ls hR hS hL
  have kk := kk p l e s m args below meth c C H locs ls hR hS hL
  have kk : W p l e (xrm μ) s m args below meth c H locs k.1 k.2 _ (F0 m (pc + 1) ls (.int (Int32.ofInt (ishl x y)) :: st)) := kk
  unfold ishl at kk; rw [i_of] at kk; exact lv_ishl C.1 C.2.1 hd kk
theorem x_ishr {G : XG} {μ : XMeth} {k : Nat × Nat} {pc : Nat} {L : List (Option Value)} {st : List Value} {S : XS} {I : XI} {Q : Option Value → XS → XI → Prop} {x y : Int} (hd : decode μ.2.1 pc = .ok (.ishr, 1))  (kk : Xw G μ k (pc + 1) L (vi (ishr x y) :: st) S I Q) : Xw G μ k pc L (vi y :: vi x :: st) S I Q := by
  intro p l e s m args below meth c C H locs ls hR hS hL
  have kk := kk p l e s m args below meth c C H locs ls hR hS hL
  have kk : W p l e (xrm μ) s m args below meth c H locs k.1 k.2 _ (F0 m (pc + 1) ls (.int (Int32.ofInt (ishr x y)) :: st)) := kk
  unfold ishr at kk; rw [i_of] at kk; exact lv_ishr C.1 C.2.1 hd kk
theorem x_lmul {G : XG} {μ : XMeth} {k : Nat × Nat} {pc : Nat} {L : List (Option Value)} {st : List Value} {S : XS} {I : XI} {Q : Option Value → XS → XI → Prop} {x y : Int} (hd : decode μ.2.1 pc = .ok (.lmul, 1))  (kk : Xw G μ k (pc + 1) L (vl (x * y) :: st) S I Q) : Xw G μ k pc L (vl y :: vl x :: st) S I Q := by
  intro p l e s m args below meth c C H locs ls hR hS hL
  have kk := kk p l e s m args below meth c C H locs ls hR hS hL
  exact lv_lmul C.1 C.2.1 hd (by rw [l_mul]; exact kk)
theorem x_ldiv {G : XG} {μ : XMeth} {k : Nat × Nat} {pc : Nat} {L : List (Option Value)} {st : List Value} {S : XS} {I : XI} {Q : Option Value → XS → XI → Prop} {x y : Int} (hd : decode μ.2.1 pc = .ok (.ldiv, 1)) (hy : w64 y ≠ 0) (kk : Xw G μ k (pc + 1) L (vl (ldiv x y) :: st) S I Q) : Xw G μ k pc L (vl y :: vl x :: st) S I Q := by
  intro p l e s m args below meth c C H locs ls hR hS hL
  have kk := kk p l e s m args below meth c C H locs ls hR hS hL
  exact lv_ldiv C.1 C.2.1 hd (by rw [show (0 : Int64) = Int64.ofInt 0 from rfl, l_eq]; exact hy) (by rw [l_div]; exact kk)
theorem x_lrem {G : XG} {μ : XMeth} {k : Nat × Nat} {pc : Nat} {L : List (Option Value)} {st : List Value} {S : XS} {I : XI} {Q : Option Value → XS → XI → Prop} {x y : Int} (hd : decode μ.2.1 pc = .ok (.lrem, 1)) (hy : w64 y ≠ 0) (kk : Xw G μ k (pc + 1) L (vl (lrem x y) :: st) S I Q) : Xw G μ k pc L (vl y :: vl x :: st) S I Q := by
  intro p l e s m args below meth c C H locs ls hR hS hL
  have kk := kk p l e s m args below meth c C H locs ls hR hS hL
  exact lv_lrem C.1 C.2.1 hd (by rw [show (0 : Int64) = Int64.ofInt 0 from rfl, l_eq]; exact hy) (by rw [l_mod]; exact kk)
theorem x_lor {G : XG} {μ : XMeth} {k : Nat × Nat} {pc : Nat} {L : List (Option Value)} {st : List Value} {S : XS} {I : XI} {Q : Option Value → XS → XI → Prop} {x y : Int} (hd : decode μ.2.1 pc = .ok (.lor, 1))  (kk : Xw G μ k (pc + 1) L (vl (llor x y) :: st) S I Q) : Xw G μ k pc L (vl y :: vl x :: st) S I Q := by
  intro p l e s m args below meth c C H locs ls hR hS hL
  have kk := kk p l e s m args below meth c C H locs ls hR hS hL
  have e : Int64.ofInt (llor x y) = Int64.ofInt x ||| Int64.ofInt y := i_of64 _
  exact lv_lor C.1 C.2.1 hd (by rw [← e]; exact kk)
theorem x_lshl {G : XG} {μ : XMeth} {k : Nat × Nat} {pc : Nat} {L : List (Option Value)} {st : List Value} {S : XS} {I : XI} {Q : Option Value → XS → XI → Prop} {x y : Int} (hd : decode μ.2.1 pc = .ok (.lshl, 1))  (kk : Xw G μ k (pc + 1) L (vl (llshl x y) :: st) S I Q) : Xw G μ k pc L (vi y :: vl x :: st) S I Q := by
  intro p l e s m args below meth c C H locs ls hR hS hL
  have kk := kk p l e s m args below meth c C H locs ls hR hS hL
  exact lv_lshl C.1 C.2.1 hd (i_of64 _).symm kk
theorem x_lcmp {G : XG} {μ : XMeth} {k : Nat × Nat} {pc : Nat} {L : List (Option Value)} {st : List Value} {S : XS} {I : XI} {Q : Option Value → XS → XI → Prop} {x y : Int} (hd : decode μ.2.1 pc = .ok (.lcmp, 1))  (kk : Xw G μ k (pc + 1) L (vi (llcmp x y) :: st) S I Q) : Xw G μ k pc L (vl y :: vl x :: st) S I Q := by
  intro p l e s m args below meth c C H locs ls hR hS hL
  have kk := kk p l e s m args below meth c C H locs ls hR hS hL
  exact W.lcmp C.1 C.2.1 hd (by rw [l_cmp]; exact kk)
theorem x_i2l {G : XG} {μ : XMeth} {k : Nat × Nat} {pc : Nat} {L : List (Option Value)} {st : List Value} {S : XS} {I : XI} {Q : Option Value → XS → XI → Prop} {x : Int} (hd : decode μ.2.1 pc = .ok (.i2l, 1))  (kk : Xw G μ k (pc + 1) L (vl (w32 x) :: st) S I Q) : Xw G μ k pc L (vi x :: st) S I Q := by
  intro p l e s m args below meth c C H locs ls hR hS hL
  have kk := kk p l e s m args below meth c C H locs ls hR hS hL
  exact lv_i2l C.1 C.2.1 hd (i_2l x) kk
theorem x_l2i {G : XG} {μ : XMeth} {k : Nat × Nat} {pc : Nat} {L : List (Option Value)} {st : List Value} {S : XS} {I : XI} {Q : Option Value → XS → XI → Prop} {x : Int} (hd : decode μ.2.1 pc = .ok (.l2i, 1))  (kk : Xw G μ k (pc + 1) L (vi x :: st) S I Q) : Xw G μ k pc L (vl x :: st) S I Q := by
  intro p l e s m args below meth c C H locs ls hR hS hL
  have kk := kk p l e s m args below meth c C H locs ls hR hS hL
  exact lv_l2i C.1 C.2.1 hd (l_2i x) kk
theorem x_i2b {G : XG} {μ : XMeth} {k : Nat × Nat} {pc : Nat} {L : List (Option Value)} {st : List Value} {S : XS} {I : XI} {Q : Option Value → XS → XI → Prop} {x : Int} (hd : decode μ.2.1 pc = .ok (.i2b, 1))  (kk : Xw G μ k (pc + 1) L (vi (x.bmod 256) :: st) S I Q) : Xw G μ k pc L (vi x :: st) S I Q := by
  intro p l e s m args below meth c C H locs ls hR hS hL
  have kk := kk p l e s m args below meth c C H locs ls hR hS hL
  exact lv_i2b C.1 C.2.1 hd (i_2b x) kk
theorem x_dup {G : XG} {μ : XMeth} {k : Nat × Nat} {pc : Nat} {L : List (Option Value)} {st : List Value} {S : XS} {I : XI} {Q : Option Value → XS → XI → Prop} {v : Value} (hd : decode μ.2.1 pc = .ok (.dup, 1)) (hv : v.category = 1) (kk : Xw G μ k (pc + 1) L (v :: v :: st) S I Q) : Xw G μ k pc L (v :: st) S I Q := by
  intro p l e s m args below meth c C H locs ls hR hS hL
  have kk := kk p l e s m args below meth c C H locs ls hR hS hL
  exact lv_dup C.1 C.2.1 hd hv kk
theorem x_dup2 {G : XG} {μ : XMeth} {k : Nat × Nat} {pc : Nat} {L : List (Option Value)} {st : List Value} {S : XS} {I : XI} {Q : Option Value → XS → XI → Prop} {v w : Value} (hd : decode μ.2.1 pc = .ok (.dup2, 1)) (hv : v.category = 1) (hw : w.category = 1) (kk : Xw G μ k (pc + 1) L (v :: w :: v :: w :: st) S I Q) : Xw G μ k pc L (v :: w :: st) S I Q := by
  intro p l e s m args below meth c C H locs ls hR hS hL
  have kk := kk p l e s m args below meth c C H locs ls hR hS hL
  exact lv_dup2_11 C.1 C.2.1 hd hv hw kk
theorem x_pop {G : XG} {μ : XMeth} {k : Nat × Nat} {pc : Nat} {L : List (Option Value)} {st : List Value} {S : XS} {I : XI} {Q : Option Value → XS → XI → Prop} {v : Value} (hd : decode μ.2.1 pc = .ok (.pop, 1)) (hv : v.category = 1) (kk : Xw G μ k (pc + 1) L st S I Q) : Xw G μ k pc L (v :: st) S I Q := by
  intro p l e s m args below meth c C H locs ls hR hS hL
  have kk := kk p l e s m args below meth c C H locs ls hR hS hL
  exact lv_pop C.1 C.2.1 hd hv kk
theorem x_goto {G : XG} {μ : XMeth} {k : Nat × Nat} {pc : Nat} {L : List (Option Value)} {st : List Value} {S : XS} {I : XI} {Q : Option Value → XS → XI → Prop} {off : Int} {t : Nat} (hd : decode μ.2.1 pc = .ok (.goto off, 3)) (ht : (pc : Int) + off = (t : Int)) (kk : Xw G μ k (t) L st S I Q) : Xw G μ k pc L st S I Q := by
  intro p l e s m args below meth c C H locs ls hR hS hL
  have kk := kk p l e s m args below meth c C H locs ls hR hS hL
  exact lv_goto C.1 C.2.1 hd ht kk
theorem x_icmp_eq {G : XG} {μ : XMeth} {k : Nat × Nat} {pc : Nat} {L : List (Option Value)} {st : List Value} {S : XS} {I : XI} {Q : Option Value → XS → XI → Prop} {x y : Int} {off : Int} {t : Nat} (hd : decode μ.2.1 pc = .ok (.if_icmp .eq off, 3)) (ht : (pc : Int) + off = (t : Int)) (kt : w32 x = w32 y → Xw G μ k t L st S I Q) (kf : ¬ (w32 x = w32 y) → Xw G μ k (pc + 3) L st S I Q) : Xw G μ k pc L (vi y :: vi x :: st) S I Q := by
  intro p l e s m args below meth c C H locs ls hR hS hL
  exact lv_icmp_eq C.1 C.2.1 hd ht (fun h => kt ((i_eq x y).mp h) p l e s m args below meth c C H locs ls hR hS hL) (fun h => kf (fun h' => h ((i_eq x y).mpr h')) p l e s m args below meth c C H locs ls hR hS hL)
theorem x_icmp_lt {G : XG} {μ : XMeth} {k : Nat × Nat} {pc : Nat} {L : List (Option Value)} {st : List Value} {S : XS} {I : XI} {Q : Option Value → XS → XI → Prop} {x y : Int} {off : Int} {t : Nat} (hd : decode μ.2.1 pc = .ok (.if_icmp .lt off, 3)) (ht : (pc : Int) + off = (t : Int)) (kt : w32 x < w32 y → Xw G μ k t L st S I Q) (kf : ¬ (w32 x < w32 y) → Xw G μ k (pc + 3) L st S I Q) : Xw G μ k pc L (vi y :: vi x :: st) S I Q := by
  intro p l e s m args below meth c C H locs ls hR hS hL
  exact lv_icmp_lt C.1 C.2.1 hd ht (fun h => kt ((i_lt x y).mp h) p l e s m args below meth c C H locs ls hR hS hL) (fun h => kf (fun h' => h ((i_lt x y).mpr h')) p l e s m args below meth c C H locs ls hR hS hL)
theorem x_icmp_ge {G : XG} {μ : XMeth} {k : Nat × Nat} {pc : Nat} {L : List (Option Value)} {st : List Value} {S : XS} {I : XI} {Q : Option Value → XS → XI → Prop} {x y : Int} {off : Int} {t : Nat} (hd : decode μ.2.1 pc = .ok (.if_icmp .ge off, 3)) (ht : (pc : Int) + off = (t : Int)) (kt : w32 y ≤ w32 x → Xw G μ k t L st S I Q) (kf : ¬ (w32 y ≤ w32 x) → Xw G μ k (pc + 3) L st S I Q) : Xw G μ k pc L (vi y :: vi x :: st) S I Q := by
  intro p l e s m args below meth c C H locs ls hR hS hL
  exact lv_icmp_ge C.1 C.2.1 hd ht (fun h => kt ((i_le y x).mp h) p l e s m args below meth c C H locs ls hR hS hL) (fun h => kf (fun h' => h ((i_le y x).mpr h')) p l e s m args below meth c C H locs ls hR hS hL)
theorem x_icmp_gt {G : XG} {μ : XMeth} {k : Nat × Nat} {pc : Nat} {L : List (Option Value)} {st : List Value} {S : XS} {I : XI} {Q : Option Value → XS → XI → Prop} {x y : Int} {off : Int} {t : Nat} (hd : decode μ.2.1 pc = .ok (.if_icmp .gt off, 3)) (ht : (pc : Int) + off = (t : Int)) (kt : w32 y < w32 x → Xw G μ k t L st S I Q) (kf : ¬ (w32 y < w32 x) → Xw G μ k (pc + 3) L st S I Q) : Xw G μ k pc L (vi y :: vi x :: st) S I Q := by
  intro p l e s m args below meth c C H locs ls hR hS hL
  exact lv_icmp_gt C.1 C.2.1 hd ht (fun h => kt ((i_lt y x).mp h) p l e s m args below meth c C H locs ls hR hS hL) (fun h => kf (fun h' => h ((i_lt y x).mpr h')) p l e s m args below meth c C H locs ls hR hS hL)
theorem x_icmp_le {G : XG} {μ : XMeth} {k : Nat × Nat} {pc : Nat} {L : List (Option Value)} {st : List Value} {S : XS} {I : XI} {Q : Option Value → XS → XI → Prop} {x y : Int} {off : Int} {t : Nat} (hd : decode μ.2.1 pc = .ok (.if_icmp .le off, 3)) (ht : (pc : Int) + off = (t : Int)) (kt : w32 x ≤ w32 y → Xw G μ k t L st S I Q) (kf : ¬ (w32 x ≤ w32 y) → Xw G μ k (pc + 3) L st S I Q) : Xw G μ k pc L (vi y :: vi x :: st) S I Q := by
  intro p l e s m args below meth c C H locs ls hR hS hL
  exact lv_icmp_le C.1 C.2.1 hd ht (fun h => kt ((i_le x y).mp h) p l e s m args below meth c C H locs ls hR hS hL) (fun h => kf (fun h' => h ((i_le x y).mpr h')) p l e s m args below meth c C H locs ls hR hS hL)
theorem x_if_eq {G : XG} {μ : XMeth} {k : Nat × Nat} {pc : Nat} {L : List (Option Value)} {st : List Value} {S : XS} {I : XI} {Q : Option Value → XS → XI → Prop} {x : Int} {off : Int} {t : Nat} (hd : decode μ.2.1 pc = .ok (.ifCond .eq off, 3)) (ht : (pc : Int) + off = (t : Int)) (kt : w32 x = 0 → Xw G μ k t L st S I Q) (kf : ¬ (w32 x = 0) → Xw G μ k (pc + 3) L st S I Q) : Xw G μ k pc L (vi x :: st) S I Q := by
  intro p l e s m args below meth c C H locs ls hR hS hL
  exact lv_if_eq C.1 C.2.1 hd ht (fun h => kt ((i_eq0 x).mp h) p l e s m args below meth c C H locs ls hR hS hL) (fun h => kf (fun h' => h ((i_eq0 x).mpr h')) p l e s m args below meth c C H locs ls hR hS hL)
theorem x_if_lt {G : XG} {μ : XMeth} {k : Nat × Nat} {pc : Nat} {L : List (Option Value)} {st : List Value} {S : XS} {I : XI} {Q : Option Value → XS → XI → Prop} {x : Int} {off : Int} {t : Nat} (hd : decode μ.2.1 pc = .ok (.ifCond .lt off, 3)) (ht : (pc : Int) + off = (t : Int)) (kt : w32 x < 0 → Xw G μ k t L st S I Q) (kf : ¬ (w32 x < 0) → Xw G μ k (pc + 3) L st S I Q) : Xw G μ k pc L (vi x :: st) S I Q := by
  intro p l e s m args below meth c C H locs ls hR hS hL
  exact lv_if_lt C.1 C.2.1 hd ht (fun h => kt ((i_lt0 x).mp h) p l e s m args below meth c C H locs ls hR hS hL) (fun h => kf (fun h' => h ((i_lt0 x).mpr h')) p l e s m args below meth c C H locs ls hR hS hL)
theorem x_if_ge {G : XG} {μ : XMeth} {k : Nat × Nat} {pc : Nat} {L : List (Option Value)} {st : List Value} {S : XS} {I : XI} {Q : Option Value → XS → XI → Prop} {x : Int} {off : Int} {t : Nat} (hd : decode μ.2.1 pc = .ok (.ifCond .ge off, 3)) (ht : (pc : Int) + off = (t : Int)) (kt : 0 ≤ w32 x → Xw G μ k t L st S I Q) (kf : ¬ (0 ≤ w32 x) → Xw G μ k (pc + 3) L st S I Q) : Xw G μ k pc L (vi x :: st) S I Q := by
  intro p l e s m args below meth c C H locs ls hR hS hL
  exact lv_if_ge C.1 C.2.1 hd ht (fun h => kt ((i_0le x).mp h) p l e s m args below meth c C H locs ls hR hS hL) (fun h => kf (fun h' => h ((i_0le x).mpr h')) p l e s m args below meth c C H locs ls hR hS hL)
theorem x_if_gt {G : XG} {μ : XMeth} {k : Nat × Nat} {pc : Nat} {L : List (Option Value)} {st : List Value} {S : XS} {I : XI} {Q : Option Value → XS → XI → Prop} {x : Int} {off : Int} {t : Nat} (hd : decode μ.2.1 pc = .ok (.ifCond .gt off, 3)) (ht : (pc : Int) + off = (t : Int)) (kt : 0 < w32 x → Xw G μ k t L st S I Q) (kf : ¬ (0 < w32 x) → Xw G μ k (pc + 3) L st S I Q) : Xw G μ k pc L (vi x :: st) S I Q := by
  intro p l e s m args below meth c C H locs ls hR hS hL
  exact lv_if_gt C.1 C.2.1 hd ht (fun h => kt ((i_0lt x).mp h) p l e s m args below meth c C H locs ls hR hS hL) (fun h => kf (fun h' => h ((i_0lt x).mpr h')) p l e s m args below meth c C H locs ls hR hS hL)
theorem x_if_le {G : XG} {μ : XMeth} {k : Nat × Nat} {pc : Nat} {L : List (Option Value)} {st : List Value} {S : XS} {I : XI} {Q : Option Value → XS → XI → Prop} {x : Int} {off : Int} {t : Nat} (hd : decode μ.2.1 pc = .ok (.ifCond .le off, 3)) (ht : (pc : Int) + off = (t : Int)) (kt : w32 x ≤ 0 → Xw G μ k t L st S I Q) (kf : ¬ (w32 x ≤ 0) → Xw G μ k (pc + 3) L st S I Q) : Xw G μ k pc L (vi x :: st) S I Q := by
  intro p l e s m args below meth c C H locs ls hR hS hL
  exact lv_if_le C.1 C.2.1 hd ht (fun h => kt ((i_le0 x).mp h) p l e s m args below meth c C H locs ls hR hS hL) (fun h => kf (fun h' => h ((i_le0 x).mpr h')) p l e s m args below meth c C H locs ls hR hS hL)
theorem x_icmp_ne {G : XG} {μ : XMeth} {k : Nat × Nat} {pc : Nat} {L : List (Option Value)} {st : List Value} {S : XS} {I : XI} {Q : Option Value → XS → XI → Prop} {x y : Int} {off : Int} {t : Nat} (hd : decode μ.2.1 pc = .ok (.if_icmp .ne off, 3)) (ht : (pc : Int) + off = (t : Int)) (kf : w32 x = w32 y → Xw G μ k (pc + 3) L st S I Q) (kt : ¬ (w32 x = w32 y) → Xw G μ k t L st S I Q) : Xw G μ k pc L (vi y :: vi x :: st) S I Q := by
  intro p l e s m args below meth c C H locs ls hR hS hL
  exact lv_icmp_ne C.1 C.2.1 hd ht (fun h => kt (fun h' => h ((i_eq x y).mpr h')) p l e s m args below meth c C H locs ls hR hS hL) (fun h => kf ((i_eq x y).mp h) p l e s m args below meth c C H locs ls hR hS hL)
theorem x_if_ne {G : XG} {μ : XMeth} {k : Nat × Nat} {pc : Nat} {L : List (Option Value)} {st : List Value} {S : XS} {I : XI} {Q : Option Value → XS → XI → Prop} {x : Int} {off : Int} {t : Nat} (hd : decode μ.2.1 pc = .ok (.ifCond .ne off, 3)) (ht : (pc : Int) + off = (t : Int)) (kf : w32 x = 0 → Xw G μ k (pc + 3) L st S I Q) (kt : ¬ (w32 x = 0) → Xw G μ k t L st S I Q) : Xw G μ k pc L (vi x :: st) S I Q := by
  intro p l e s m args below meth c C H locs ls hR hS hL
  exact lv_if_ne C.1 C.2.1 hd ht (fun h => kt (fun h' => h ((i_eq0 x).mpr h')) p l e s m args below meth c C H locs ls hR hS hL) (fun h => kf ((i_eq0 x).mp h) p l e s m args below meth c C H locs ls hR hS hL)
theorem x_nonnull {G : XG} {μ : XMeth} {k : Nat × Nat} {pc : Nat} {L : List (Option Value)} {st : List Value} {S : XS} {I : XI} {Q : Option Value → XS → XI → Prop} {a : Nat} {off : Int} {t : Nat} (hd : decode μ.2.1 pc = .ok (.ifnonnull off, 3)) (ht : (pc : Int) + off = (t : Int)) (kk : Xw G μ k (t) L st S I Q) : Xw G μ k pc L (.ref a :: st) S I Q := by
  intro p l e s m args below meth c C H locs ls hR hS hL
  have kk := kk p l e s m args below meth c C H locs ls hR hS hL
  exact lv_ifnonnull C.1 C.2.1 hd ht kk
theorem x_nonnullN {G : XG} {μ : XMeth} {k : Nat × Nat} {pc : Nat} {L : List (Option Value)} {st : List Value} {S : XS} {I : XI} {Q : Option Value → XS → XI → Prop} {off : Int} (hd : decode μ.2.1 pc = .ok (.ifnonnull off, 3))  (kk : Xw G μ k (pc + 3) L st S I Q) : Xw G μ k pc L (.null :: st) S I Q := by
  intro p l e s m args below meth c C H locs ls hR hS hL
  have kk := kk p l e s m args below meth c C H locs ls hR hS hL
  exact lv_ifnonnullN C.1 C.2.1 hd kk
theorem x_tabOut {G : XG} {μ : XMeth} {k : Nat × Nat} {pc : Nat} {L : List (Option Value)} {st : List Value} {S : XS} {I : XI} {Q : Option Value → XS → XI → Prop} {x df lo hi : Int} {offs : Array Int} {len t : Nat} (hd : decode μ.2.1 pc = .ok (.tableswitch df lo hi offs, len)) (h : w32 x < lo ∨ hi < w32 x) (ht : (pc : Int) + df = (t : Int)) (kk : Xw G μ k (t) L st S I Q) : Xw G μ k pc L (vi x :: st) S I Q := by
  intro p l e s m args below meth c C H locs ls hR hS hL
  have kk := kk p l e s m args below meth c C H locs ls hR hS hL
  exact lv_tableOut C.1 C.2.1 hd (by rw [i_t]; exact h) ht kk
theorem x_tabIn {G : XG} {μ : XMeth} {k : Nat × Nat} {pc : Nat} {L : List (Option Value)} {st : List Value} {S : XS} {I : XI} {Q : Option Value → XS → XI → Prop} {x df lo hi off : Int} {offs : Array Int} {len t : Nat} (hd : decode μ.2.1 pc = .ok (.tableswitch df lo hi offs, len)) (n : Int) (hx : w32 x = n) (h1 : ¬ n < lo) (h2 : ¬ hi < n) (ho : offs[(n - lo).toNat]? = some off) (ht : (pc : Int) + off = (t : Int)) (kk : Xw G μ k (t) L st S I Q) : Xw G μ k pc L (vi x :: st) S I Q := by
  intro p l e s m args below meth c C H locs ls hR hS hL
  have kk := kk p l e s m args below meth c C H locs ls hR hS hL
  subst hx; exact lv_tableIn C.1 C.2.1 hd (by rw [i_t]; exact h1) (by rw [i_t]; exact h2) (by rw [i_t]; exact ho) ht kk
theorem x_look {G : XG} {μ : XMeth} {k : Nat × Nat} {pc : Nat} {L : List (Option Value)} {st : List Value} {S : XS} {I : XI} {Q : Option Value → XS → XI → Prop} {x df off : Int} {ps : Array (Int × Int)} {len t : Nat} (hd : decode μ.2.1 pc = .ok (.lookupswitch df ps, len)) (hp : (ps.toList.zip (ps.toList.drop 1)).all (fun (a, next) => a.1 < next.1) = true) (ho : Op.lookupswitch.offset ps.toList df (w32 x) = off) (ht : (pc : Int) + off = (t : Int)) (kk : Xw G μ k (t) L st S I Q) : Xw G μ k pc L (vi x :: st) S I Q := by
  intro p l e s m args below meth c C H locs ls hR hS hL
  have kk := kk p l e s m args below meth c C H locs ls hR hS hL
  exact lv_lookup C.1 C.2.1 hd hp (by rw [i_t]; exact ho) ht kk
def xle : List (Option Value) → List (Option Value) → Prop
  | [], _ => True
  | none :: a, _ :: b => xle a b
  | some v :: a, some w :: b => v = w ∧ xle a b
  | _, _ => False
theorem xle_at : ∀ (a b : List (Option Value)), xle a b → ∀ (i : Nat) (v : Value), a[i]? = some (some v) → b[i]? = some (some v)
  | [], _, _, i, v, h => by simp at h
  | none :: a, x :: b, h, i, v, hv => by
    cases i with
    | zero => simp at hv
    | succ i => simpa using xle_at a b h i v (by simpa using hv)
  | some u :: a, some w :: b, h, i, v, hv => by
    cases i with
    | zero => simp at hv ⊢; rw [← h.1]; exact hv
    | succ i => simpa using xle_at a b h.2 i v (by simpa using hv)
  | none :: a, [], h, i, v, hv => by simp [xle] at h
  | some u :: a, none :: b, h, i, v, hv => by simp [xle] at h
  | some u :: a, [], h, i, v, hv => by simp [xle] at h
theorem x_less {G : XG} {μ : XMeth} {k : Nat × Nat} {pc : Nat} {L : List (Option Value)} {st : List Value} {S : XS} {I : XI} {Q : Option Value → XS → XI → Prop} {L' : List (Option Value)} (h : xle L' L) (kk : Xw G μ k pc L' st S I Q) : Xw G μ k pc L st S I Q := by
  intro p l e s m args below meth c C H locs ls hR hS hL
  refine kk p l e s m args below meth c C H locs ls hR hS ⟨hL.1, hL.2.1, fun q hq => ?_⟩
  obtain ⟨j, h1, h2⟩ := (xlv_mem L' 0).mp hq
  exact hL.2.2 q ((xlv_mem L 0).mpr ⟨j, h1, xle_at _ _ h j _ h2⟩)
