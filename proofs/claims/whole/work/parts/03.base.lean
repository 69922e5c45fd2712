/-! ===== the memory: cells by number; what is an int or a long stands in I, what is a reference in S ===== -/
abbrev XS : Type := Nat × (Nat → Nat × Nat) × (Nat → Nat → Nat)
abbrev XI : Type := Nat → Nat → Int
/-- a method: its name, code, locals, what it returns; frames and words of its callees; cells and slots that it makes -/
abbrev XMeth : Type := MethodName × ByteArray × Nat × Option FieldType × Nat × Nat × Nat × Nat
abbrev vi (z : Int) : Value := .int (Int32.ofInt z)
abbrev vl (z : Int) : Value := .long (Int64.ofInt z)
/-- the kind of a slot: 0 an int, 1 a long, 2 a reference; by the cell's tag (a class' number; 12 byte[], 13 int[], 14 long[], 15 boolean[], 16 Told[]) -/
def xk (t j : Nat) : Nat := match t with
  | 0 => if j = 3 then 2 else 0
  | 1 => if j = 0 ∨ j = 5 then 0 else 2
  | 2 => if j = 0 ∨ j = 1 ∨ j = 3 then 0 else 2
  | 3 => if j = 0 ∨ j = 3 then 2 else 0
  | 4 => if j = 0 then 0 else 2
  | 5 => if j = 0 then 0 else 2
  | 6 => if j = 0 ∨ j = 6 then 0 else 2
  | 7 => if j < 6 then 2 else 0
  | 8 => if 3 ≤ j ∧ j < 6 then 2 else 0
  | 9 => if j = 6 then 0 else 2
  | 10 => 2
  | 11 => if j = 64 then 1 else if j = 0 ∨ j = 56 ∨ (59 ≤ j ∧ j < 69) ∨ (79 ≤ j ∧ j < 82) then 0 else 2
  | 14 => 1
  | 16 => 2
  | _ => 0
def xnf (t : Nat) : Nat := match t with
  | 0 => 4 | 1 => 11 | 2 => 9 | 3 => 9 | 4 => 3 | 5 => 8 | 6 => 14 | 7 => 11 | 8 => 7 | 9 => 7 | 10 => 9 | 11 => 84 | _ => 0
abbrev xtag (S : XS) (i : Nat) : Nat := (S.2.1 i).1
abbrev xlen (S : XS) (i : Nat) : Nat := (S.2.1 i).2
abbrev xref (S : XS) (i j : Nat) : Nat := S.2.2 i j
def lw_gd : List Cond := lw_tbl.filter goodWord
theorem gdT {w : Cond} (i : Nat) (h : tables_1[i]? = some w) (hg : goodWord w = true) : w ∈ lw_gd := List.mem_filter.mpr ⟨List.mem_append_right _ (List.mem_of_getElem? h), hg⟩
theorem gdP {w : Cond} (i : Nat) (h : (k2_sels lw_privs)[i]? = some w) (hg : goodWord w = true) : w ∈ lw_gd := List.mem_filter.mpr ⟨List.mem_append_left _ (List.mem_of_getElem? h), hg⟩
def xCls (ci : Nat) (C : String) (T : u_T) (N : Nat) (ty : Nat → FieldType) : Prop := vwCl[ci]? = some (C, T, N) ∧ xnf ci = N ∧ (∀ w ∈ u_ws C T N, w ∈ lw_gd) ∧ (∀ k, k < N → parseFieldDescriptor (T k).2.2.1 = some (ty k)) ∧ (∀ a, a < N → ∀ b, b < N → a ≠ b → (T a).2.1 ≠ (T b).2.1) ∧ ci < 12 ∧ ∀ k, k < N → (T k).1 = C
/-- the pool's entry idx of the class own names field j of the class ci; fin: a final one; fty: its type -/
def xFld (own : String) (idx ci j : Nat) (fin : Bool) (fty : FieldType) : Prop := ∃ (C : String) (T : u_T) (N : Nat) (ty : Nat → FieldType), xCls ci C T N ty ∧ j < N ∧ Cond.fieldLink own idx C (T j).2.1 (T j).2.2.1 ∈ lw_gd ∧ (T j).2.2.2 = fin ∧ ty j = fty ∧ (fin = true → own = C ∨ True)
def xMok (μ : XMeth) (n : Nat) : Prop := Cond.initialized μ.1.cls ∈ lw_gd ∧ Cond.code μ.1 μ.2.1 μ.2.2.1 μ.2.2.2.1 ∈ lw_gd ∧ (μ.1.cls ≠ "java/lang/invoke/MethodHandle" ∧ μ.1.cls ≠ "java/lang/invoke/VarHandle" ∧ (parseMethodDescriptor μ.1.desc).map (fun d => d.parameters.length) = some n)
def xMokV (μ : XMeth) (n : Nat) : Prop := xMok μ n ∧ Cond.instanceMethod μ.1 ∈ lw_gd ∧ Cond.selects μ.1.cls μ.1 μ.1 ∈ lw_gd
def xMokS (μ : XMeth) (n : Nat) : Prop := xMok μ n ∧ Cond.static μ.1 ∈ lw_gd
def xMokI (μ : XMeth) (n : Nat) : Prop := xMok μ n ∧ μ.1.name = "<init>" ∧ Cond.instanceMethod μ.1 ∈ lw_gd ∧ μ.2.2.2.1 = none
def xdef (t j : Nat) : Value := match xk t j with
  | 1 => vl 0
  | 2 => .null
  | _ => vi 0
