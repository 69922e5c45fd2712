/-! ===== GIVER ===== -/
section PGi
variable {G : XG} {S : XS} {I : XI}
theorem s_R_readersOf {kd : Int} {R : Int → XI → Prop} (hS : xSh S) (h : Rel S I) (h1 : InR kd) (hk : R (rdK I kd) I) : R_readersOf G S I kd R := by
  have cb := nB_c h.good
  have cr := nR_c h.good
  refine b_R_readersOf hS ?_
  refine down (n := nR I) (P := fun r => R_readersOf_k4 G S I kd (sumA (fun r => anyK (fun b => bitI (I r_readerBooks r) b = 1 ∧ I r_bookKind b = kd) (nB I)) r) (r : Int) R) ?_ ?_ 0 (Nat.zero_le _)
  · exact b_R_readersOf_k4 hS ⟨fun _ => hk, fun e => absurd (by rw [cr.1]; exact Int.le_refl _) e⟩
  · intro r hr ih
    have hs : sumA (fun r => anyK (fun b => bitI (I r_readerBooks r) b = 1 ∧ I r_bookKind b = kd) (nB I)) (r + 1) = sumA (fun r => anyK (fun b => bitI (I r_readerBooks r) b = 1 ∧ I r_bookKind b = kd) (nB I)) r + anyK (fun b => bitI (I r_readerBooks r) b = 1 ∧ I r_bookKind b = kd) (nB I) := rfl
    rw [hs] at ih
    generalize sumA (fun r => anyK (fun b => bitI (I r_readerBooks r) b = 1 ∧ I r_bookKind b = kd) (nB I)) r = a at ih ⊢
    refine b_R_readersOf_k4 hS ⟨fun e => absurd e (by rw [cr.1, w32_nat (by omega), w32_nat (by omega)]; omega), fun _ => ?_⟩
    refine down (n := nB I) (P := fun b => R_readersOf_k20 G S I kd a (r : Int) (anyK (fun b => bitI (I r_readerBooks r) b = 1 ∧ I r_bookKind b = kd) b) (b : Int) R) ?_ ?_ 0 (Nat.zero_le _)
    · refine b_R_readersOf_k20 hS ⟨fun _ => ?_, fun e => absurd (by rw [cb.1]; exact Int.le_refl _) e⟩
      rcases anyK_01 (P := fun b => bitI (I r_readerBooks r) b = 1 ∧ I r_bookKind b = kd) (nB I) with e | e
      · rw [e] at ih ⊢; exact br0 ih
      · rw [e] at ih ⊢; exact br1 ih
    · intro b hb ihb
      have gk := (h.good.2.2.2.2.2.1.2 b (by omega)).1
      rw [anyK] at ihb
      refine b_R_readersOf_k20 hS ⟨fun e => absurd e (by rw [cb.1, w32_nat (by omega), w32_nat (by omega)]; omega), fun _ => ?_⟩
      rcases anyK_01 (P := fun b => bitI (I r_readerBooks r) b = 1 ∧ I r_bookKind b = kd) b with e | e
      · rw [e] at ihb ⊢
        rw [if_neg (by decide)] at ihb
        refine br0 (s_R_hasRead hS h rfl hr rfl (by omega) (fun q => br1 ⟨inb_b (by omega) (by omega) (by decide), ?_⟩) (fun q => br0 ?_))
        · rw [ix_nat (by omega), w32_b (by omega) (by omega), w32_r h1]
          refine ⟨fun c => ?_, fun c => ?_⟩
          · rw [if_pos ⟨q, c⟩] at ihb; exact ihb
          · rw [if_neg (fun z => c z.2)] at ihb; exact ihb
        · rw [if_neg (fun z => by omega)] at ihb; exact ihb
      · rw [e] at ihb ⊢
        rw [if_pos rfl] at ihb
        exact br1 ihb
theorem gvS_big {f : Nat → Int} : ∀ k : Nat, (gvS f k).2 ≠ -1 → 2 < f (gvS f k).2.toNat
  | 0, h => absurd rfl h
  | k + 1, h => by
    have ih := gvS_big (f := f) k
    rw [gvS] at h ⊢
    split
    · next c => rw [if_pos c] at h; exact ih h
    · next c =>
      rw [if_neg c] at h
      split
      · next d => show 2 < f (k : Int).toNat; rw [Int.toNat_natCast]; exact d.1
      · next d => rw [if_neg d] at h; exact ih h
theorem gvS_few {f : Nat → Int} {k : Nat} (h : f k = 1 ∨ f k = 2) : gvS f (k + 1) = ((gvS f k).1 + 1, (gvS f k).2) := by rw [gvS, if_pos h]
theorem gvS_new {f : Nat → Int} {k : Nat} (h : ¬ (f k = 1 ∨ f k = 2)) (h2 : 2 < f k ∧ ((gvS f k).2 = -1 ∨ f k < f (gvS f k).2.toNat)) : gvS f (k + 1) = ((gvS f k).1, (k : Int)) := by rw [gvS, if_neg h, if_pos h2]
theorem gvS_old {f : Nat → Int} {k : Nat} (h : ¬ (f k = 1 ∨ f k = 2)) (h2 : ¬ (2 < f k ∧ ((gvS f k).2 = -1 ∨ f k < f (gvS f k).2.toNat))) : gvS f (k + 1) = gvS f k := by rw [gvS, if_neg h, if_neg h2]
theorem s_H_hiddenBesides {R : Int → XI → Prop} (hS : xSh S) (h : Rel S I) (hk : R (if (gvS (fun k => rdK I k) 8).1 = 1 then (gvS (fun k => rdK I k) 8).2 else -1) I) : H_hiddenBesides G S I R := by
  refine b_H_hiddenBesides hS ?_
  refine down (n := 8) (P := fun k => ∀ ls : Int, (ls = if (gvS (fun k => rdK I k) k).2 = -1 then 13 else rdK I (gvS (fun k => rdK I k) k).2.toNat) → H_hiddenBesides_k10 G S I (gvS (fun k => rdK I k) k).1 (gvS (fun k => rdK I k) k).2 ls (k : Int) R) ?_ ?_ 0 (Nat.zero_le _) 13 rfl
  · intro ls _
    have gi := gvS_in (fun k => rdK I k) 8
    refine b_H_hiddenBesides_k10 hS ⟨fun _ => ?_, fun e => absurd (by decide) e⟩
    rw [w32_b (z := (gvS (fun k => rdK I k) 8).1) (by omega) (by omega), show w32 1 = 1 from rfl]
    exact ⟨fun e => by rw [if_pos e] at hk; exact hk, fun e => by rw [if_neg e] at hk; exact hk⟩
  · intro k hk' ih ls hls
    have gi := gvS_in (fun k => rdK I k) k
    have ri := rdK_in h (k : Int)
    have rb := rdK_in h ((gvS (fun k => rdK I k) k).2.toNat : Int)
    have hls2 : 0 ≤ ls ∧ ls ≤ 13 := by rw [hls]; split <;> omega
    refine b_H_hiddenBesides_k10 hS ⟨fun e => absurd e (by rw [show w32 8 = 8 from rfl, w32_nat (by omega)]; omega), fun _ => s_Re_readersOf hS h ⟨by omega, by omega⟩ (b_H_isFew hS ?_)⟩
    rw [w32_b (z := rdK I (k : Int)) (by omega) (by omega), show w32 1 = 1 from rfl, show w32 2 = 2 from rfl, w32_b (z := ls) (by omega) (by omega)]
    have few : rdK I (k : Int) = 1 ∨ rdK I (k : Int) = 2 → H_hiddenBesides_k10 G S I ((gvS (fun k => rdK I k) k).1 + 1) (gvS (fun k => rdK I k) k).2 ls ((k : Int) + 1) R := fun c => by
      rw [gvS_few (f := fun k : Nat => rdK I (k : Int)) c] at ih; exact ih ls hls
    refine ⟨fun c => br1 (few (Or.inl c)), fun c1 => ⟨fun c => br1 (few (Or.inr c)), fun c2 => br0 ?_⟩⟩
    have nf : ¬ (rdK I (k : Int) = 1 ∨ rdK I (k : Int) = 2) := fun q => by omega
    refine ⟨fun c3 => ?_, fun c3 => ⟨fun c4 => ?_, fun c4 => ?_⟩⟩
    · rw [gvS_old (f := fun k : Nat => rdK I (k : Int)) nf (fun q => by have q1 : 2 < rdK I (k : Int) := q.1; omega)] at ih; exact ih ls hls
    · rw [gvS_old (f := fun k : Nat => rdK I (k : Int)) nf (fun q => by
        by_cases e : (gvS (fun k => rdK I k) k).2 = -1
        · rw [if_pos e] at hls; omega
        · rw [if_neg e] at hls
          have q2 : rdK I (k : Int) < rdK I ((gvS (fun k => rdK I k) k).2.toNat : Int) := q.2.resolve_left e
          omega)] at ih
      exact ih ls hls
    · rw [gvS_new (f := fun k : Nat => rdK I (k : Int)) nf ⟨show 2 < rdK I (k : Int) by omega, by
        by_cases e : (gvS (fun k => rdK I k) k).2 = -1
        · exact Or.inl e
        · rw [if_neg e] at hls
          exact Or.inr (show rdK I (k : Int) < rdK I ((gvS (fun k => rdK I k) k).2.toNat : Int) by omega)⟩] at ih
      refine ih _ ?_
      show rdK I (k : Int) = if (k : Int) = -1 then 13 else rdK I ((k : Int).toNat : Int)
      rw [if_neg (by omega), Int.toNat_natCast]
theorem s_R_giver_k {kd : Int} {R : Int → XI → Prop} (hS : xSh S) (h : Rel S I) (h1 : 0 ≤ kd ∧ kd ≤ 7) (hk : R (if rdK I kd = 1 ∨ rdK I kd = 2 ∨ ((gvS (fun k => rdK I k) 8).1 = 1 ∧ kd = (gvS (fun k => rdK I k) 8).2) then -3 else rdK I kd) I) : R_giver_k24 G S I kd 0 (-1) 0 R := by
  have hkr : InR kd := ⟨by omega, by omega⟩
  refine down (n := 8) (P := fun k => R_giver_k24 G S I kd (gvS (fun k => rdK I k) k).1 (gvS (fun k => rdK I k) k).2 (k : Int) R) ?_ ?_ 0 (Nat.zero_le _)
  · have gi := gvS_in (fun k => rdK I k) 8
    have ri := rdK_in h kd
    refine b_R_giver_k24 hS ⟨fun _ => s_R_readersOf hS h hkr ?_, fun e => absurd (by decide) e⟩
    rw [w32_b (z := rdK I kd) (by omega) (by omega), show w32 1 = 1 from rfl, show w32 2 = 2 from rfl, w32_b (z := (gvS (fun k => rdK I k) 8).1) (by omega) (by omega), w32_b (z := (gvS (fun k => rdK I k) 8).2) (by omega) (by omega), w32_r hkr]
    refine ⟨fun c => ?_, fun c => ⟨fun c2 => ?_, fun c2 => ⟨fun c3 => ⟨fun c4 => ?_, fun c4 => ?_⟩, fun c3 => ?_⟩⟩⟩
    · rw [if_pos (Or.inl c)] at hk; exact hk
    · rw [if_pos (Or.inr (Or.inl c2))] at hk; exact hk
    · rw [if_pos (Or.inr (Or.inr ⟨c3, c4⟩))] at hk; exact hk
    · rw [if_neg (fun q => by rcases q with q | q | q; exact c q; exact c2 q; exact c4 q.2)] at hk; exact hk
    · rw [if_neg (fun q => by rcases q with q | q | q; exact c q; exact c2 q; exact c3 q.1)] at hk; exact hk
  · intro k hk' ih
    have gi := gvS_in (fun k => rdK I k) k
    have ri := rdK_in h (k : Int)
    have k57 : ∀ s0 : Int, (s0 = 1 ∧ (rdK I (k : Int) = 1 ∨ rdK I (k : Int) = 2)) ∨ (s0 = 0 ∧ ¬ (rdK I (k : Int) = 1 ∨ rdK I (k : Int) = 2)) → R_giver_k57 G S I kd (gvS (fun k => rdK I k) k).2 (k : Int) (rdK I (k : Int)) s0 (gvS (fun k => rdK I k) k).1 R := by
      intro s0 hs0
      refine b_R_giver_k57 hS ?_
      rw [w32_b (z := rdK I (k : Int)) (by omega) (by omega), show w32 2 = 2 from rfl, w32_b (z := (gvS (fun k => rdK I k) k).2) (by omega) (by omega), show w32 (-1) = -1 from rfl]
      rcases hs0 with ⟨rfl, c⟩ | ⟨rfl, c⟩
      · rw [gvS_few (f := fun k : Nat => rdK I (k : Int)) c] at ih
        exact ⟨fun _ => ih, fun n => absurd (by omega) n⟩
      · rw [Int.add_zero]
        refine ⟨fun e => ?_, fun e => ⟨fun e2 => ?_, fun e2 => ?_⟩⟩
        · rw [gvS_old (f := fun k : Nat => rdK I (k : Int)) c (fun q => by have q1 : 2 < rdK I (k : Int) := q.1; omega)] at ih; exact ih
        · rw [gvS_new (f := fun k : Nat => rdK I (k : Int)) c ⟨show 2 < rdK I (k : Int) by omega, Or.inl e2⟩] at ih; exact ih
        · have rb := rdK_in h (gvS (fun k => rdK I k) k).2
          refine s_R_readersOf hS h ⟨by omega, by omega⟩ ?_
          rw [w32_b (z := rdK I (gvS (fun k => rdK I k) k).2) (by omega) (by omega)]
          have eb : (((gvS (fun k => rdK I k) k).2.toNat : Nat) : Int) = (gvS (fun k => rdK I k) k).2 := by omega
          refine ⟨fun e3 => ?_, fun e3 => ?_⟩
          · rw [gvS_old (f := fun k : Nat => rdK I (k : Int)) c (fun q => by
              have q2 : rdK I (k : Int) < rdK I ((gvS (fun k => rdK I k) k).2.toNat : Int) := q.2.resolve_left e2
              rw [eb] at q2; omega)] at ih
            exact ih
          · rw [gvS_new (f := fun k : Nat => rdK I (k : Int)) c ⟨show 2 < rdK I (k : Int) by omega, Or.inr (show rdK I (k : Int) < rdK I ((gvS (fun k => rdK I k) k).2.toNat : Int) by rw [eb]; omega)⟩] at ih; exact ih
    refine b_R_giver_k24 hS ⟨fun e => absurd e (by rw [show w32 8 = 8 from rfl, w32_nat (by omega)]; omega), fun _ => s_R_readersOf hS h ⟨by omega, by omega⟩ ?_⟩
    rw [w32_b (z := rdK I (k : Int)) (by omega) (by omega), show w32 1 = 1 from rfl, show w32 2 = 2 from rfl]
    exact ⟨fun c => k57 1 (Or.inl ⟨rfl, Or.inl c⟩), fun c => ⟨fun c2 => k57 1 (Or.inl ⟨rfl, Or.inr c2⟩), fun c2 => k57 0 (Or.inr ⟨rfl, by omega⟩)⟩⟩
theorem rdK_tf {I J : XI} (e : tf I J) (kd : Int) : rdK J kd = rdK I kd := by
  unfold rdK
  rw [rd_tf e, tf_nB e, e r_readerBooks (by decide) (by decide), e r_bookKind (by decide) (by decide)]
theorem t_giver {v1 : Int} {R : Int → Int → XI → Prop} (hS : xSh S) (hI : Rel S I) (a1 : InR v1) (h : ∀ r J, Rel S J → R r r J) : H_giver G S I v1 (fun r I1 => R_giver G S I1 v1 (fun r' J => R r r' J)) := by
  refine b_H_giver hS (s_isIn hS a1 ⟨by decide, by decide⟩ ⟨by decide, by decide⟩ (fun b1 b2 => br1 ?_) (fun n => br0 ?_))
  · have ref : ∀ T : Int → XI → Prop, (∀ J, Rel S J → T (if rdK I v1 = 1 ∨ rdK I v1 = 2 ∨ ((gvS (fun k => rdK I k) 8).1 = 1 ∧ v1 = (gvS (fun k => rdK I k) 8).2) then -3 else rdK I v1) J) → R_giver G S I v1 T := fun T k => by
      refine b_R_giver hS (fun J e => ?_)
      obtain ⟨hJ, ht, -⟩ := hI.code e
      refine s_Rin hS a1 ⟨by decide, by decide⟩ ⟨by decide, by decide⟩ (fun _ _ => br1 (s_R_giver_k hS hJ ⟨b1, b2⟩ ?_)) (fun n => absurd ⟨b1, b2⟩ n)
      have ef : (fun k : Nat => rdK J (k : Int)) = (fun k : Nat => rdK I (k : Int)) := by funext k; exact rdK_tf ht _
      rw [ef, rdK_tf ht]
      exact k J hJ
    have ri := rdK_in hI v1
    have gi := gvS_in (fun k => rdK I k) 8
    refine s_Re_readersOf hS hI a1 (b_H_isFew hS ?_)
    rw [w32_b (z := rdK I v1) (by omega) (by omega), show w32 1 = 1 from rfl, show w32 2 = 2 from rfl]
    refine ⟨fun c => br1 (ref _ (fun J hJ => ?_)), fun c1 => ⟨fun c => br1 (ref _ (fun J hJ => ?_)), fun c2 => br0 (s_H_hiddenBesides hS hI ?_)⟩⟩
    · rw [if_pos (Or.inl c)]; exact h _ _ hJ
    · rw [if_pos (Or.inr (Or.inl c))]; exact h _ _ hJ
    · rw [w32_r a1]
      by_cases c3 : (gvS (fun k => rdK I k) 8).1 = 1
      · rw [if_pos c3, w32_b (z := (gvS (fun k => rdK I k) 8).2) (by omega) (by omega)]
        refine ⟨fun c4 => ref _ (fun J hJ => ?_), fun c4 => ref _ (fun J hJ => ?_)⟩
        · rw [if_pos (Or.inr (Or.inr ⟨c3, c4⟩))]; exact h _ _ hJ
        · rw [if_neg (fun q => by rcases q with q | q | q; exact c1 q; exact c2 q; exact c4 q.2)]; exact h _ _ hJ
      · rw [if_neg c3, show w32 (-1) = -1 from rfl]
        refine ⟨fun c4 => absurd c4 (by omega), fun c4 => ref _ (fun J hJ => ?_)⟩
        rw [if_neg (fun q => by rcases q with q | q | q; exact c1 q; exact c2 q; exact c3 q.1)]; exact h _ _ hJ
  · refine b_R_giver hS (fun J e => ?_)
    obtain ⟨hJ, ht, -⟩ := hI.code e
    exact s_Rin hS a1 ⟨by decide, by decide⟩ ⟨by decide, by decide⟩ (fun b1 b2 => absurd ⟨b1, b2⟩ n) (fun _ => br0 (h _ _ hJ))
end PGi
