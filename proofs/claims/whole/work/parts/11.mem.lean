/-! ===== the world's numbers: where the cells begin, classes and slots, array classes, the constants' cells, the script ===== -/
abbrev XG : Type := Nat × va_G × (Nat → ClassId) × (Nat → Nat) × (Nat → Nat) × Nat × Nat × (Nat → Int)
abbrev vr (G : XG) (i : Nat) : Value := .ref (G.1 + i)
def vo (G : XG) : Nat → Value
  | 0 => .null
  | j + 1 => .ref (G.1 + j)
abbrev vs (G : XG) (i : Nat) : Value := .ref (G.2.2.2.1 i)
def xval (G : XG) (S : XS) (I : XI) (i j : Nat) : Value := match xk (xtag S i) j with
  | 1 => vl (I i j)
  | 2 => vo G (xref S i j)
  | _ => vi (I i j)
def xcell (G : XG) (S : XS) (I : XI) (H : Heap) (i : Nat) : Prop :=
  if xtag S i < 12 then t_OB (G.1 + i) (G.2.1.1 (xtag S i)) (xnf (xtag S i)) (G.2.1.2 (xtag S i)) H (xval G S I i) else H[G.1 + i]? = some (arrV (G.2.2.1 (xtag S i)) (xlen S i) (xval G S I i))
def xRep (G : XG) (S : XS) (I : XI) (H : Heap) : Prop := H.size = G.1 + S.1 ∧ ∀ i, i < S.1 → xcell G S I H i
def xA (G : XG) : Nat → Prop := fun q => G.1 ≤ q
/-- writing -/
def up (I : XI) (i j : Nat) (z : Int) : XI := fun a b => if a = i then (if b = j then z else I a b) else I a b
theorem up_s (I : XI) (i j : Nat) (z : Int) : up I i j z i j = z := by simp [up]
theorem up_1 {I : XI} {i j : Nat} {z : Int} {a : Nat} (b : Nat) (h : a ≠ i) : up I i j z a b = I a b := by simp [up, h]
theorem up_2 {I : XI} {i j : Nat} {z : Int} (a : Nat) {b : Nat} (h : b ≠ j) : up I i j z a b = I a b := by unfold up; split <;> simp_all
theorem xval_I {G : XG} {S : XS} {I : XI} {i j t : Nat} (ht : xtag S i = t) (hk : xk t j = 0) : xval G S I i j = vi (I i j) := by
  unfold xval; rw [ht, hk]; rfl
theorem xval_L {G : XG} {S : XS} {I : XI} {i j t : Nat} (ht : xtag S i = t) (hk : xk t j = 1) : xval G S I i j = vl (I i j) := by
  unfold xval; rw [ht, hk]; rfl
theorem xval_R {G : XG} {S : XS} {I : XI} {i j t : Nat} (ht : xtag S i = t) (hk : xk t j = 2) : xval G S I i j = vo G (xref S i j) := by
  unfold xval; rw [ht, hk]; rfl
theorem xval_up {G : XG} {S : XS} {I : XI} {i j : Nat} {z : Int} {a : Nat} (h : a ≠ i) : xval G S (up I i j z) a = xval G S I a := by
  funext b; unfold xval; rw [up_1 b h]
theorem xval_upV {G : XG} {S : XS} {I : XI} {i j : Nat} {z : Int} {v : Value} (b : Nat) (hv : xval G S (up I i j z) i j = v) : xval G S (up I i j z) i b = updV (xval G S I i) j v b := by
  unfold updV
  by_cases h : b = j
  · subst h; simp [hv]
  · simp only [h, if_false]; unfold xval; rw [up_2 i h]
/-! ===== the world beside the memory, the judgement ===== -/
def xtys (G : XG) : List (ClassId × FieldType) := [(G.2.2.1 12, .byte), (G.2.2.1 13, .int), (G.2.2.1 14, .long), (G.2.2.1 15, .boolean), (G.2.2.1 16, .object RX7)]
def xnest : List (String × Nat × MethodName) := [(RX10, 11, yX7_init), (RX7, 11, yX2_init), (RX7, 20, yX1_init), (RX7, 27, yX6_init), (RX7, 34, yX5_init), (RX7, 41, yX4_init), (RX10, 34, yX8_init), (RX10, 41, yX3_init), (RX3, 11, yX5_init), (RX10, 48, yX0_init)]
def xsI : List Nat := [69, 97, 136, 138, 140, 142, 144, 146, 148, 150, 152, 154, 95, 114, 120, 122]
def xsT : List String := ["if", "not", "tongue", "dry", "well", "held", "late", "kind", "level", "left", "torn", "week", "and", "bar", "weeks", "cost"]
def xsL : List Nat := [2, 3, 6, 3, 4, 4, 4, 4, 5, 4, 4, 4, 3, 3, 5, 4]
def xsB : List (List Int32) := [[105, 102], [110, 111, 116], [116, 111, 110, 103, 117, 101], [100, 114, 121], [119, 101, 108, 108], [104, 101, 108, 100], [108, 97, 116, 101], [107, 105, 110, 100], [108, 101, 118, 101, 108], [108, 101, 102, 116], [116, 111, 114, 110], [119, 101, 101, 107], [97, 110, 100], [98, 97, 114], [119, 101, 101, 107, 115], [99, 111, 115, 116]]
def xWld (G : XG) (U : State) : Prop := va_K G.2.1 vwCl (xtys G) U ∧ (∀ q ∈ xnest, va_Nw (.methodLinkNest q.1 q.2.1 q.2.2 RX10) U) ∧ va_AO RX7 U ∧ ∀ i : Nat, i < 16 → vk_R RX3 (xsI.getD i 0) (xsT.getD i "") (G.2.2.2.1 i) U
def xStr (G : XG) (U : State) (H : Heap) : Prop := vk_S 16 xsL xsB G.2.2.2.1 G.2.2.2.2.1 (xA G) U H ∧ va_Z "java/lang/String" "COMPACT_STRINGS" "Z" (.int 1) (xA G) U H ∧ (∃ r : Option Nat, va_Z "jdk/internal/util/Preconditions" "SIOOBE_FORMATTER" "Ljava/util/function/BiFunction;" (va_rf r) (xA G) U H) ∧ va_X G.2.2.2.2.2.1 G.2.2.2.2.2.2.1 (fun j => Int32.ofInt (G.2.2.2.2.2.2.2 j)) U H ∧ G.2.2.2.2.2.1 < G.1 ∧ G.1 ≤ H.size
theorem xWld.warm {G : XG} {s U : State} (hW : s.WarmedH U.vm) (h : xWld G s) : xWld G U :=
  ⟨va_K.moved hW.alike h.1, fun q hq => va_Nw.warmM hW (h.2.1 q hq), va_AO.moved hW.alike h.2.2.1, fun i hi => vk_R.warm hW (h.2.2.2 i hi)⟩
theorem xWld.same {G : XG} {u U : State} (hv : U.vm = u.vm) (h : xWld G u) : xWld G U :=
  ⟨va_K.moved (by rw [hv]; exact Vm.Alike.refl _) h.1, fun q hq => va_Nw.same rfl hv.symm (h.2.1 q hq), va_AO.moved (by rw [hv]; exact Vm.Alike.refl _) h.2.2.1, fun i hi => vk_R.same hv (h.2.2.2 i hi)⟩
theorem xStr.moved {G : XG} {u U : State} {H : Heap} (hvm : u.vm.Alike U.vm) (h : xStr G u H) : xStr G U H := ⟨vk_S.moved hvm h.1, va_Z.moved hvm h.2.1, h.2.2.1.imp fun _ q => va_Z.moved hvm q, va_X.moved hvm h.2.2.2.1, h.2.2.2.2.1, h.2.2.2.2.2⟩
theorem xStr.kept {G : XG} {U : State} {H H1 : Heap} (h : xStr G U H) (hq : ∀ a : Nat, a < H.size → ¬ xA G a → H1[a]? = H[a]?) (hz : H.size ≤ H1.size) : xStr G U H1 := ⟨vk_S.kept h.1 hq, va_Z.kept h.2.1 hq, h.2.2.1.imp fun _ q => va_Z.kept q hq, va_X.kept h.2.2.2.1 (hq _ (Nat.lt_of_lt_of_le h.2.2.2.2.1 h.2.2.2.2.2) (Nat.not_le.mpr h.2.2.2.2.1)), h.2.2.2.2.1, Nat.le_trans h.2.2.2.2.2 hz⟩
def xrm (μ : XMeth) : Room := { frames := μ.2.2.2.2.1, cells := μ.2.2.2.2.2.2.1, slots := μ.2.2.2.2.2.2.2, locals := μ.2.2.2.2.2.1 }
def xwl (μ : XMeth) : List Cond := Cond.code μ.1 μ.2.1 μ.2.2.1 μ.2.2.2.1 :: lw_gd
def xlv : Nat → List (Option Value) → List (Nat × Value)
  | _, [] => []
  | i, none :: l => xlv (i + 1) l
  | i, some v :: l => (i, v) :: xlv (i + 1) l
def xL (ls : Array Slot) (n : Nat) (L : List (Option Value)) : Prop := lv_has ls n (xlv 0 L)
theorem xlv_mem {q : Nat × Value} : ∀ (L : List (Option Value)) (i : Nat), q ∈ xlv i L ↔ ∃ j, q.1 = i + j ∧ L[j]? = some (some q.2)
  | [], i => by simp [xlv]
  | none :: l, i => by
    rw [xlv, xlv_mem l (i + 1)]
    constructor
    · rintro ⟨j, h1, h2⟩; exact ⟨j + 1, by omega, by simpa using h2⟩
    · rintro ⟨j, h1, h2⟩
      cases j with
      | zero => simp at h2
      | succ j => exact ⟨j, by omega, by simpa using h2⟩
  | some v :: l, i => by
    rw [xlv, List.mem_cons, xlv_mem l (i + 1)]
    constructor
    · rintro (rfl | ⟨j, h1, h2⟩)
      · exact ⟨0, by simp, by simp⟩
      · exact ⟨j + 1, by omega, by simpa using h2⟩
    · rintro ⟨j, h1, h2⟩
      cases j with
      | zero => left; simp at h2; exact Prod.ext (by simpa using h1) h2.symm
      | succ j => right; exact ⟨j, by omega, by simpa using h2⟩
theorem xL_at {ls : Array Slot} {n : Nat} {L : List (Option Value)} (h : xL ls n L) {i : Nat} {v : Value} (hi : L[i]? = some (some v)) : ls[i]? = some (.val v) :=
  h.2.2 (i, v) ((xlv_mem L 0).mpr ⟨i, by simp, hi⟩)
/-- what a store leaves known: L' holds the new value, and else only what L held -/
def xst (i : Nat) (v : Value) (L L' : List (Option Value)) : Prop := ∀ j w, L'[j]? = some (some w) → (j = i ∧ w = v) ∨ (j ≠ i ∧ L[j]? = some (some w) ∧ ¬ (w.category = 2 ∧ (j + 1 = i ∨ (v.category = 2 ∧ j = i + 1)))  ∧ ¬ (v.category = 2 ∧ j = i + 1))
theorem xL_st1 {ls' : Array Slot} {n : Nat} {L L' : List (Option Value)} {i : Nat} {v : Value} (h : lv_has ls' n ((i, v) :: (xlv 0 L).filter (fun q => !(q.1 == i) && !(q.1 + 1 == i && q.2.category == 2)))) (hs : xst i v L L') : xL ls' n L' := by
  refine ⟨h.1, h.2.1, fun q hq => h.2.2 q ?_⟩
  obtain ⟨j, h1, h2⟩ := (xlv_mem L' 0).mp hq
  have hj : q.1 = j := by omega
  rcases hs j q.2 h2 with ⟨e1, e2⟩ | ⟨e1, e2, e3, -⟩
  · rw [List.mem_cons]; left; exact Prod.ext (hj.trans e1) e2
  · rw [List.mem_cons]; right
    refine List.mem_filter.mpr ⟨(xlv_mem L 0).mpr ⟨j, by omega, e2⟩, ?_⟩
    rw [hj]
    simp only [Bool.and_eq_true, Bool.not_eq_true', beq_eq_false_iff_ne, Bool.and_eq_false_iff, ne_eq]
    refine ⟨e1, ?_⟩
    by_cases hc : q.2.category = 2
    · exact Or.inl (fun hh => e3 ⟨hc, Or.inl hh⟩)
    · exact Or.inr hc
theorem xL_st2 {ls' : Array Slot} {n : Nat} {L L' : List (Option Value)} {i : Nat} {v : Value} (hv : v.category = 2) (h : lv_has ls' n ((i, v) :: (xlv 0 L).filter (fun q => !(q.1 == i) && (!(q.1 == i + 1) && !(q.1 + 1 == i && q.2.category == 2))))) (hs : xst i v L L') : xL ls' n L' := by
  refine ⟨h.1, h.2.1, fun q hq => h.2.2 q ?_⟩
  obtain ⟨j, h1, h2⟩ := (xlv_mem L' 0).mp hq
  have hj : q.1 = j := by omega
  rcases hs j q.2 h2 with ⟨e1, e2⟩ | ⟨e1, e2, e3, e4⟩
  · rw [List.mem_cons]; left; exact Prod.ext (hj.trans e1) e2
  · rw [List.mem_cons]; right
    refine List.mem_filter.mpr ⟨(xlv_mem L 0).mpr ⟨j, by omega, e2⟩, ?_⟩
    rw [hj]
    simp only [Bool.and_eq_true, Bool.not_eq_true', beq_eq_false_iff_ne, Bool.and_eq_false_iff, ne_eq]
    refine ⟨e1, fun hh => e4 ⟨hv, hh⟩, ?_⟩
    by_cases hc : q.2.category = 2
    · exact Or.inl (fun hh => e3 ⟨hc, Or.inl hh⟩)
    · exact Or.inr hc
def xCx (G : XG) (μ : XMeth) (p : Program) (s : State) (m : MethodId) (args : Array Value) (meth : Method) (c : Code) : Prop :=
  p.tables.exec = Jvm.exec ∧ c.code = μ.2.1 ∧ meth.sig.returnType = μ.2.2.2.1 ∧ c.maxLocals = μ.2.2.1 ∧ s.vm.findClass μ.1.cls = some m.cls ∧ (∀ w ∈ lw_gd, w.before args s = true) ∧ meth.locks = false ∧ (μ.1.name = "<init>" → meth.name = "<init>") ∧ xWld G s ∧ xStr G s s.heap ∧ G.1 ≤ s.heap.size
def xQc (G : XG) (Q : Option Value → XS → XI → Prop) : Array Value → State → Outcome → State → Prop := fun _ st o t => ∃ (v : Option Value) (S : XS) (I : XI), o = .returned v ∧ Q v S I ∧ xRep G S I t.heap ∧ va_F (xA G) st t
/-- from pc on, with these locals and this stack, in this memory, the method comes to its end with Q -/
def Xw (G : XG) (μ : XMeth) (k : Nat × Nat) (pc : Nat) (L : List (Option Value)) (st : List Value) (S : XS) (I : XI) (Q : Option Value → XS → XI → Prop) : Prop :=
  ∀ (p : Program) (l : Launch) (e : Env) (s : State) (m : MethodId) (args : Array Value) (below : List Frame) (meth : Method) (c : Code), xCx G μ p s m args meth c → ∀ (H : Heap) (locs : List Loc) (ls : Array Slot), xRep G S I H → va_S (xA G) s.heap H locs → xL ls μ.2.2.1 L →
    W p l e (xrm μ) s m args below meth c H locs k.1 k.2 (MQ below (xQc G Q) args s μ.2.2.2.2.2.2.1 μ.2.2.2.2.2.2.2 (xA G)) (F0 m pc ls st)
def xPc (G : XG) (args : List Value) (S : XS) (I : XI) : Array Value → State → Prop := va_Pc args (fun U => xRep G S I U.heap ∧ xWld G U ∧ xStr G U U.heap)
/-- called with these arguments in this memory, the method ends with Q -/
def Mw (G : XG) (μ : XMeth) (args : List Value) (S : XS) (I : XI) (Q : Option Value → XS → XI → Prop) : Prop :=
  ∀ l : Launch, Met l μ.1 (xwl μ) (xrm μ) (xPc G args S I) (xQc G Q) μ.2.2.2.2.2.2.1 μ.2.2.2.2.2.2.2 (xA G)
theorem xPc_blind {G : XG} {args : List Value} {S : XS} {I : XI} : FrameBlind (xPc G args S I) := by
  intro a U g mk h
  obtain ⟨h1, h2, h3, h4⟩ := h
  exact ⟨h1, h2, xWld.same (u := U) rfl h3, xStr.moved (u := U) (Vm.Alike.refl U.vm) h4⟩
theorem x_start {G : XG} {μ : XMeth} {args : List Value} {S : XS} {I : XI} {Q : Option Value → XS → XI → Prop} (L : List (Option Value)) (hp : plainName μ.1.cls = true) (hn : (lg_sl args).length ≤ μ.2.2.1) (hL : xlv 0 L = lv_args 0 args) (h : Xw G μ (0, 0) 0 L [] S I Q) : Mw G μ args S I Q := by
  intro l
  refine Met.ofW (cc := μ.2.1) (maxL := μ.2.2.1) (ret := μ.2.2.2.1) hp rfl ?_
  intro p e s m args' below meth c s₁ B hml hv
  obtain ⟨rfl, hR, hWd, hSt⟩ := hv
  have hts := atoms_spec (ws := xwl μ) B.pre
  have hl := lv_entry args (n := μ.2.2.1) hn
  rw [lg_entry_eq]
  exact h p l e s m _ below meth c ⟨B.exec, B.bytes, B.returns, hml, findClass_of_methodNamed B.named, fun w hw => hts w (List.mem_cons_of_mem _ hw), B.notSynchronized, fun h => (name_of_methodNamed B.named B.method).1.trans h, hWd, hSt, by rw [hR.1]; exact Nat.le_add_right _ _⟩ s.heap [] _ hR va_S.rf (by unfold xL; rw [hL]; exact hl)
