/-! ===== the rows as the lifted blocks use them: nothing is made, S stays ===== -/
def qi (S : XS) (R : Int → XI → Prop) : Option Value → XS → XI → Prop := fun v S' I' => S = S' ∧ ∃ z, v = some (vi z) ∧ R z I'
def qv (S : XS) (R : XI → Prop) : Option Value → XS → XI → Prop := fun v S' I' => S = S' ∧ v = none ∧ R I'
def qr (G : XG) (S : XS) (R : Nat → XI → Prop) : Option Value → XS → XI → Prop := fun v S' I' => S = S' ∧ ∃ a, v = some (vr G a) ∧ R a I'
def qs (G : XG) (S : XS) (R : Nat → XI → Prop) : Option Value → XS → XI → Prop := fun v S' I' => S = S' ∧ ∃ a, v = some (vs G a) ∧ R a I'
def xnl (L : List (Option Value)) : Nat → Prop
  | 0 => True
  | j + 1 => match L[j]? with
    | some (some w) => w.category = 1
    | _ => True
theorem xst1 {i : Nat} {v : Value} {L L' : List (Option Value)} (h : L' = L.set i (some v)) (hv : v.category = 1) (hc : xnl L i) : xst i v L L' := by
  intro j w hj
  subst h
  by_cases e : j = i
  · subst e
    left
    rw [List.getElem?_set] at hj
    simp at hj
    exact ⟨rfl, hj.2.symm⟩
  · right
    rw [List.getElem?_set_ne (Ne.symm e)] at hj
    refine ⟨e, hj, fun h => ?_, fun h => ?_⟩
    · rcases h.2 with h2 | h2
      · subst h2
        simp only [xnl, hj] at hc
        have := h.1
        omega
      · have := h2.1
        omega
    · have := h.1
      omega
/-- a long takes two places -/
theorem xst2 {i : Nat} {v : Value} {L L' : List (Option Value)} (h : L' = (L.set i (some v)).set (i + 1) none) (hc : xnl L i) : xst i v L L' := by
  intro j w hj
  subst h
  by_cases e1 : j = i + 1
  · subst e1
    rw [List.getElem?_set] at hj
    simp at hj
  rw [List.getElem?_set_ne (Ne.symm e1)] at hj
  by_cases e : j = i
  · subst e
    left
    rw [List.getElem?_set] at hj
    simp at hj
    exact ⟨rfl, hj.2.symm⟩
  · right
    rw [List.getElem?_set_ne (Ne.symm e)] at hj
    refine ⟨e, hj, fun h => ?_, fun h => e1 h.2⟩
    rcases h.2 with h2 | h2
    · subst h2
      simp only [xnl, hj] at hc
      have := h.1
      omega
    · exact e1 h2.2
section XW
variable {G : XG} {μ : XMeth} {k : Nat × Nat} {pc : Nat} {L : List (Option Value)} {st : List Value} {S : XS} {I : XI} {Q : Option Value → XS → XI → Prop} {n : Nat}
theorem y_iald {i : Nat} {x : Int} (hd : decode μ.2.1 pc = .ok (.iaload, 1)) (hi : i < S.1) (ht : xtag S i = 13) (hn : xlen S i = n) (hb : inb x n) (kk : Xw G μ k (pc + 1) L (vi (I i (ix x)) :: st) S I Q) : Xw G μ k pc L (vi x :: vr G i :: st) S I Q := x_iald hd hi ht (by rw [hn]; exact hb) kk
theorem y_bald {i : Nat} {x : Int} (hd : decode μ.2.1 pc = .ok (.baload, 1)) (hi : i < S.1) (ht : xtag S i = 12) (hn : xlen S i = n) (hb : inb x n) (kk : Xw G μ k (pc + 1) L (vi (I i (ix x)) :: st) S I Q) : Xw G μ k pc L (vi x :: vr G i :: st) S I Q := x_bald hd hi ht (by rw [hn]; exact hb) kk
theorem y_zald {i : Nat} {x : Int} (hd : decode μ.2.1 pc = .ok (.baload, 1)) (hi : i < S.1) (ht : xtag S i = 15) (hn : xlen S i = n) (hb : inb x n) (kk : Xw G μ k (pc + 1) L (vi (I i (ix x)) :: st) S I Q) : Xw G μ k pc L (vi x :: vr G i :: st) S I Q := x_zald hd hi ht (by rw [hn]; exact hb) kk
theorem y_lald {i : Nat} {x : Int} (hd : decode μ.2.1 pc = .ok (.laload, 1)) (hi : i < S.1) (ht : xtag S i = 14) (hn : xlen S i = n) (hb : inb x n) (kk : Xw G μ k (pc + 1) L (vl (I i (ix x)) :: st) S I Q) : Xw G μ k pc L (vi x :: vr G i :: st) S I Q := x_lald hd hi ht (by rw [hn]; exact hb) kk
theorem y_iast {i : Nat} {x z : Int} (hd : decode μ.2.1 pc = .ok (.iastore, 1)) (hi : i < S.1) (ht : xtag S i = 13) (hn : xlen S i = n) (hb : inb x n) (kk : Xw G μ k (pc + 1) L st S (up I i (ix x) z) Q) : Xw G μ k pc L (vi z :: vi x :: vr G i :: st) S I Q := x_iast hd hi ht (by rw [hn]; exact hb) kk
theorem y_last {i : Nat} {x z : Int} (hd : decode μ.2.1 pc = .ok (.lastore, 1)) (hi : i < S.1) (ht : xtag S i = 14) (hn : xlen S i = n) (hb : inb x n) (kk : Xw G μ k (pc + 1) L st S (up I i (ix x) z) Q) : Xw G μ k pc L (vl z :: vi x :: vr G i :: st) S I Q := x_last hd hi ht (by rw [hn]; exact hb) kk
theorem y_bast {i : Nat} {x z : Int} (hd : decode μ.2.1 pc = .ok (.bastore, 1)) (hi : i < S.1) (ht : xtag S i = 12) (hn : xlen S i = n) (hb : inb x n) (kk : Xw G μ k (pc + 1) L st S (up I i (ix x) (z.bmod 256)) Q) : Xw G μ k pc L (vi z :: vi x :: vr G i :: st) S I Q := x_bast hd hi ht (by rw [hn]; exact hb) kk
theorem y_zast {i : Nat} {x z : Int} (hd : decode μ.2.1 pc = .ok (.bastore, 1)) (hi : i < S.1) (ht : xtag S i = 15) (hn : xlen S i = n) (hb : inb x n) (hz : z = 0 ∨ z = 1) (kk : Xw G μ k (pc + 1) L st S (up I i (ix x) z) Q) : Xw G μ k pc L (vi z :: vi x :: vr G i :: st) S I Q := x_zast hd hi ht (by rw [hn]; exact hb) hz kk
theorem y_alen {i : Nat} (hd : decode μ.2.1 pc = .ok (.arraylength, 1)) (hi : i < S.1) (ht : xtag S i = 13) (hn : xlen S i = n) (kk : Xw G μ k (pc + 1) L (vi (n : Int) :: st) S I Q) : Xw G μ k pc L (vr G i :: st) S I Q := x_alen (t0 := 1) hd hi ht (by decide) rfl rfl (by rw [hn]; exact kk)
/-! calls that make nothing -/
def x0 (μ' : XMeth) : Prop := μ'.2.2.2.2.2.2.1 = 0 ∧ μ'.2.2.2.2.2.2.2 = 0
def xf0 (μ μ' : XMeth) : Prop := μ'.2.2.2.2.1 + 1 ≤ μ.2.2.2.2.1 ∧ 8 + (μ'.2.2.1 + 11) + μ'.2.2.2.2.2.1 ≤ μ.2.2.2.2.2.1
theorem xfit0 {μ' : XMeth} (h0 : x0 μ') (hf : xf0 μ μ') (hk : k.1 ≤ μ.2.2.2.2.2.2.1 ∧ k.2 ≤ μ.2.2.2.2.2.2.2) : xfit μ μ' k := ⟨hf, by rw [h0.1]; exact hk.1, by rw [h0.2]; exact hk.2⟩
theorem y_callV {μ' : XMeth} {i ci idx n : Nat} {As rest : List Value} {q : vw_C} {P : Option Value → XS → XI → Prop} (hm : xMokV μ' n) (hw : Cond.methodLink μ.1.cls idx μ'.1 ∈ lw_gd) (hd : decode μ.2.1 pc = .ok (.invokevirtual idx, 3)) (hi : i < S.1) (ht : xtag S i = ci) (hc : ci < 12) (hq : vwCl[ci]? = some q) (hcls : q.1 = μ'.1.cls) (hn : As.length = n) (h0 : x0 μ') (hf : xf0 μ μ') (hk : k.1 ≤ μ.2.2.2.2.2.2.1 ∧ k.2 ≤ μ.2.2.2.2.2.2.2) (hcat : (rest.map fun v => v.category).sum ≤ 8)
    (hst : st = As.reverse ++ vr G i :: rest) (hM : Mw G μ' (vr G i :: As) S I P) (kk : ∀ v S' I', P v S' I' → Xw G μ k (pc + 3) L (v.toList ++ rest) S' I' Q) : Xw G μ k pc L st S I Q := by
  refine x_callV hm hw hd hi ht hc hq hcls hn (xfit0 h0 hf hk) hcat hst hM (fun v S' I' h => ?_)
  rw [h0.1, h0.2]; exact kk v S' I' h
theorem y_callS {μ' : XMeth} {idx n : Nat} {As rest : List Value} {P : Option Value → XS → XI → Prop} (hm : xMokS μ' n) (hw : Cond.methodLink μ.1.cls idx μ'.1 ∈ lw_gd) (hd : decode μ.2.1 pc = .ok (.invokestatic idx, 3)) (hn : As.length = n) (h0 : x0 μ') (hf : xf0 μ μ') (hk : k.1 ≤ μ.2.2.2.2.2.2.1 ∧ k.2 ≤ μ.2.2.2.2.2.2.2) (hcat : (rest.map fun v => v.category).sum ≤ 8)
    (hst : st = As.reverse ++ rest) (hM : Mw G μ' As S I P) (kk : ∀ v S' I', P v S' I' → Xw G μ k (pc + 3) L (v.toList ++ rest) S' I' Q) : Xw G μ k pc L st S I Q := by
  refine x_callS hm hw hd hn (xfit0 h0 hf hk) hcat hst hM (fun v S' I' h => ?_)
  rw [h0.1, h0.2]; exact kk v S' I' h
theorem y_Vi {μ' : XMeth} {i ci idx n : Nat} {As rest : List Value} {q : vw_C} {R : Int → XI → Prop} (hm : xMokV μ' n) (hw : Cond.methodLink μ.1.cls idx μ'.1 ∈ lw_gd) (hd : decode μ.2.1 pc = .ok (.invokevirtual idx, 3)) (hi : i < S.1) (ht : xtag S i = ci) (hc : ci < 12) (hq : vwCl[ci]? = some q) (hcls : q.1 = μ'.1.cls) (hn : As.length = n) (h0 : x0 μ') (hf : xf0 μ μ') (hk : k.1 ≤ μ.2.2.2.2.2.2.1 ∧ k.2 ≤ μ.2.2.2.2.2.2.2) (hcat : (rest.map fun v => v.category).sum ≤ 8)
    (hst : st = As.reverse ++ vr G i :: rest) (hM : Mw G μ' (vr G i :: As) S I (qi S R)) (kk : ∀ r I', R r I' → Xw G μ k (pc + 3) L (vi r :: rest) S I' Q) : Xw G μ k pc L st S I Q := by
  refine y_callV hm hw hd hi ht hc hq hcls hn h0 hf hk hcat hst hM (fun v S' I' h => ?_)
  obtain ⟨rfl, z, rfl, h⟩ := h
  exact kk z I' h
theorem y_Vv {μ' : XMeth} {i ci idx n : Nat} {As rest : List Value} {q : vw_C} {R : XI → Prop} (hm : xMokV μ' n) (hw : Cond.methodLink μ.1.cls idx μ'.1 ∈ lw_gd) (hd : decode μ.2.1 pc = .ok (.invokevirtual idx, 3)) (hi : i < S.1) (ht : xtag S i = ci) (hc : ci < 12) (hq : vwCl[ci]? = some q) (hcls : q.1 = μ'.1.cls) (hn : As.length = n) (h0 : x0 μ') (hf : xf0 μ μ') (hk : k.1 ≤ μ.2.2.2.2.2.2.1 ∧ k.2 ≤ μ.2.2.2.2.2.2.2) (hcat : (rest.map fun v => v.category).sum ≤ 8)
    (hst : st = As.reverse ++ vr G i :: rest) (hM : Mw G μ' (vr G i :: As) S I (qv S R)) (kk : ∀ I', R I' → Xw G μ k (pc + 3) L rest S I' Q) : Xw G μ k pc L st S I Q := by
  refine y_callV hm hw hd hi ht hc hq hcls hn h0 hf hk hcat hst hM (fun v S' I' h => ?_)
  obtain ⟨rfl, rfl, h⟩ := h
  exact kk I' h
theorem y_Vr {μ' : XMeth} {i ci idx n : Nat} {As rest : List Value} {q : vw_C} {R : Nat → XI → Prop} (hm : xMokV μ' n) (hw : Cond.methodLink μ.1.cls idx μ'.1 ∈ lw_gd) (hd : decode μ.2.1 pc = .ok (.invokevirtual idx, 3)) (hi : i < S.1) (ht : xtag S i = ci) (hc : ci < 12) (hq : vwCl[ci]? = some q) (hcls : q.1 = μ'.1.cls) (hn : As.length = n) (h0 : x0 μ') (hf : xf0 μ μ') (hk : k.1 ≤ μ.2.2.2.2.2.2.1 ∧ k.2 ≤ μ.2.2.2.2.2.2.2) (hcat : (rest.map fun v => v.category).sum ≤ 8)
    (hst : st = As.reverse ++ vr G i :: rest) (hM : Mw G μ' (vr G i :: As) S I (qr G S R)) (kk : ∀ r I', R r I' → Xw G μ k (pc + 3) L (vr G r :: rest) S I' Q) : Xw G μ k pc L st S I Q := by
  refine y_callV hm hw hd hi ht hc hq hcls hn h0 hf hk hcat hst hM (fun v S' I' h => ?_)
  obtain ⟨rfl, z, rfl, h⟩ := h
  exact kk z I' h
theorem y_Si {μ' : XMeth} {idx n : Nat} {As rest : List Value} {R : Int → XI → Prop} (hm : xMokS μ' n) (hw : Cond.methodLink μ.1.cls idx μ'.1 ∈ lw_gd) (hd : decode μ.2.1 pc = .ok (.invokestatic idx, 3)) (hn : As.length = n) (h0 : x0 μ') (hf : xf0 μ μ') (hk : k.1 ≤ μ.2.2.2.2.2.2.1 ∧ k.2 ≤ μ.2.2.2.2.2.2.2) (hcat : (rest.map fun v => v.category).sum ≤ 8)
    (hst : st = As.reverse ++ rest) (hM : Mw G μ' As S I (qi S R)) (kk : ∀ r I', R r I' → Xw G μ k (pc + 3) L (vi r :: rest) S I' Q) : Xw G μ k pc L st S I Q := by
  refine y_callS hm hw hd hn h0 hf hk hcat hst hM (fun v S' I' h => ?_)
  obtain ⟨rfl, z, rfl, h⟩ := h
  exact kk z I' h
theorem y_Sv {μ' : XMeth} {idx n : Nat} {As rest : List Value} {R : XI → Prop} (hm : xMokS μ' n) (hw : Cond.methodLink μ.1.cls idx μ'.1 ∈ lw_gd) (hd : decode μ.2.1 pc = .ok (.invokestatic idx, 3)) (hn : As.length = n) (h0 : x0 μ') (hf : xf0 μ μ') (hk : k.1 ≤ μ.2.2.2.2.2.2.1 ∧ k.2 ≤ μ.2.2.2.2.2.2.2) (hcat : (rest.map fun v => v.category).sum ≤ 8)
    (hst : st = As.reverse ++ rest) (hM : Mw G μ' As S I (qv S R)) (kk : ∀ I', R I' → Xw G μ k (pc + 3) L rest S I' Q) : Xw G μ k pc L st S I Q := by
  refine y_callS hm hw hd hn h0 hf hk hcat hst hM (fun v S' I' h => ?_)
  obtain ⟨rfl, rfl, h⟩ := h
  exact kk I' h
theorem y_Ss {μ' : XMeth} {idx n : Nat} {As rest : List Value} {R : Nat → XI → Prop} (hm : xMokS μ' n) (hw : Cond.methodLink μ.1.cls idx μ'.1 ∈ lw_gd) (hd : decode μ.2.1 pc = .ok (.invokestatic idx, 3)) (hn : As.length = n) (h0 : x0 μ') (hf : xf0 μ μ') (hk : k.1 ≤ μ.2.2.2.2.2.2.1 ∧ k.2 ≤ μ.2.2.2.2.2.2.2) (hcat : (rest.map fun v => v.category).sum ≤ 8)
    (hst : st = As.reverse ++ rest) (hM : Mw G μ' As S I (qs G S R)) (kk : ∀ r I', R r I' → Xw G μ k (pc + 3) L (vs G r :: rest) S I' Q) : Xw G μ k pc L st S I Q := by
  refine y_callS hm hw hd hn h0 hf hk hcat hst hM (fun v S' I' h => ?_)
  obtain ⟨rfl, z, rfl, h⟩ := h
  exact kk z I' h
/-! ends -/
theorem y_iret {z : Int} {R : Int → XI → Prop} (hd : decode μ.2.1 pc = .ok (.ireturn, 1)) (hr : μ.2.2.2.1 = some .int) (hk : k.1 ≤ μ.2.2.2.2.2.2.1 ∧ k.2 ≤ μ.2.2.2.2.2.2.2) (hq : R z I) : Xw G μ k pc L [vi z] S I (qi S R) := x_iret hd hr hk ⟨rfl, z, rfl, hq⟩
theorem y_zret {z : Int} {R : Int → XI → Prop} (hd : decode μ.2.1 pc = .ok (.ireturn, 1)) (hr : μ.2.2.2.1 = some .boolean) (hk : k.1 ≤ μ.2.2.2.2.2.2.1 ∧ k.2 ≤ μ.2.2.2.2.2.2.2) (hz : z = 0 ∨ z = 1) (hq : R z I) : Xw G μ k pc L [vi z] S I (qi S R) := x_zret hd hr hk hz ⟨rfl, z, rfl, hq⟩
theorem y_vret {R : XI → Prop} (hd : decode μ.2.1 pc = .ok (.return_, 1)) (hr : μ.2.2.2.1 = none) (hk : k.1 ≤ μ.2.2.2.2.2.2.1 ∧ k.2 ≤ μ.2.2.2.2.2.2.2) (hq : R I) : Xw G μ k pc L [] S I (qv S R) := x_vret hd hr hk ⟨rfl, rfl, hq⟩
theorem y_aret {a : Nat} {n : String} {R : Nat → XI → Prop} (hd : decode μ.2.1 pc = .ok (.areturn, 1)) (hr : μ.2.2.2.1 = some (.object n)) (hk : k.1 ≤ μ.2.2.2.2.2.2.1 ∧ k.2 ≤ μ.2.2.2.2.2.2.2) (hq : R a I) : Xw G μ k pc L [vr G a] S I (qr G S R) := x_aret hd hr hk ⟨rfl, a, rfl, hq⟩
theorem y_sret {a : Nat} {n : String} {R : Nat → XI → Prop} (hd : decode μ.2.1 pc = .ok (.areturn, 1)) (hr : μ.2.2.2.1 = some (.object n)) (hk : k.1 ≤ μ.2.2.2.2.2.2.1 ∧ k.2 ≤ μ.2.2.2.2.2.2.2) (hq : R a I) : Xw G μ k pc L [vs G a] S I (qs G S R) := x_aret hd hr hk ⟨rfl, a, rfl, hq⟩
end XW
