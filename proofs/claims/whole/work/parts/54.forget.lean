/-! ===== the class: what is known is forgotten ===== -/
section PW
variable {G : XG} {S : XS}
theorem s_Wn_forget {I : XI} {R : XI → Prop} (hS : xSh S) (h : R (xfil I c_now_knownTo 6 (-1))) : Wn_forget G S I R :=
  b_Wn_forget hS (s_fill hS (sN_c_now_knownTo hS) (sT_c_now_knownTo hS) (sL_c_now_knownTo hS) (by decide) h)
theorem knWn_none {I : XI} {X : Nat → Nat → Int} {nc ng nn c fc f : Nat} (hk : I c_now_knownTo c = -1) : knWn I X nc ng nn c fc f :=
  ⟨by omega, by omega, fun w _ h => by omega⟩
theorem s_Wt_forget {I : XI} {R : XI → Prop} (hS : xSh S) (h : R (xfil I c_then_knownTo 6 (-1))) : Wt_forget G S I R :=
  b_Wt_forget hS (s_fill hS (sN_c_then_knownTo hS) (sT_c_then_knownTo hS) (sL_c_then_knownTo hS) (by decide) h)
theorem knWt_none {I : XI} {X : Nat → Nat → Int} {nc ng nn c fc f : Nat} (hk : I c_then_knownTo c = -1) : knWt I X nc ng nn c fc f :=
  ⟨by omega, by omega, fun w _ h => by omega⟩
end PW
