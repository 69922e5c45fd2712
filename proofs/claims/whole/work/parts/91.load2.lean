/-! ===== load: the reference's choice, and load ===== -/
section PLg
variable {G : XG} {S : XS} {I : XI}
theorem s_R75 {L : Nat → Int} {c s : Nat} {J : XI} {g w v4 v5 v6 : Int} {R : Int → XI → Prop} (hS : xSh S) (hJ : Rel S J) (hc : c < nM J) (hg : InR g) (hs : s < 256) (i4 : InR v4) (i5 : InR v5) (i6 : InR v6) (hL : ∀ k, k < 8 → L k = -1 ∨ (0 ≤ L k ∧ L k < (nB J : Int))) (lt : ∀ k, k < 8 → J r_lightest k = L k) (i3 : in3 (TL J L c s))
    (h0 : (¬ okS L s 8 ∨ g < (TL J L c s).2.1 ∨ ¬ btr (TL J L c s) (v4, v5, v6)) → R_load_k52 G S J (c : Int) g w v4 v5 v6 ((s : Int) + 1) R)
    (h1 : okS L s 8 → (TL J L c s).2.1 ≤ g → btr (TL J L c s) (v4, v5, v6) → R_load_k52 G S J (c : Int) g w (TL J L c s).1 (TL J L c s).2.1 (TL J L c s).2.2 ((s : Int) + 1) R) :
    ∀ m k, k + m = 8 → ∀ v8 v9 v10 v11 : Int, ((v11 = 1 ∧ (v8, v9, v10) = trL L (fun k => J r_wishes (c * 8 + k)) (J r_bookGrams) s k ∧ okS L s k) ∨ (v11 = 0 ∧ ¬ okS L s 8)) → R_load_k75 G S J (c : Int) g w v4 v5 v6 (s : Int) v8 v9 v10 v11 (k : Int) R := by
  have cb := nB_c hJ.good
  have cm := nM_c hJ.good
  intro m
  induction m with
  | zero =>
    intro k ek v8 v9 v10 v11 hv
    have k8 : k = 8 := by omega
    subst k8
    refine b_R_load_k75 hS ⟨fun _ => ?_, fun q => absurd (by decide) q⟩
    rcases hv with ⟨e1, et, ok⟩ | ⟨e1, ok⟩
    · subst e1
      have et' : (v8, v9, v10) = TL J L c s := et
      rw [← et'] at i3 h0 h1
      unfold in3 at i3
      have i3a : (0 ≤ v8 ∧ v8 ≤ 792) ∧ (0 ≤ v9 ∧ v9 ≤ 16000) ∧ 0 ≤ v10 ∧ v10 < 16777216 := i3
      have h0' : (g < v9 ∨ ¬ (v4 < v8 ∨ (v8 = v4 ∧ (v9 < v5 ∨ (v9 = v5 ∧ v10 < v6))))) → R_load_k52 G S J (c : Int) g w v4 v5 v6 ((s : Int) + 1) R := fun q => h0 (Or.inr q)
      have h1' : v9 ≤ g → (v4 < v8 ∨ (v8 = v4 ∧ (v9 < v5 ∨ (v9 = v5 ∧ v10 < v6)))) → R_load_k52 G S J (c : Int) g w v8 v9 v10 ((s : Int) + 1) R := fun q1 q2 => h1 ok q1 q2
      refine br1 ?_
      rw [w32_r hg, w32_r i4, w32_r i5, w32_r i6, w32_b (z := v8) (by omega) (by omega), w32_b (z := v9) (by omega) (by omega), w32_b (z := v10) (by omega) (by omega)]
      exact ⟨fun x => h0' (by omega), fun x => ⟨fun y => h1' (by omega) (by omega), fun y => ⟨fun z => ⟨fun u => h1' (by omega) (by omega), fun u => ⟨fun p => ⟨fun q => h0' (by omega), fun q => h1' (by omega) (by omega)⟩, fun p => h0' (by omega)⟩⟩, fun z => h0' (by omega)⟩⟩⟩
    · subst e1
      exact br0 (h0 (Or.inl ok))
  | succ m ih =>
    intro k ek v8 v9 v10 v11 hv
    have k8 : k < 8 := by omega
    have b01 := bitN_01 s k
    have hl := hL k k8
    have nk : inb (k : Int) 8 := inb_b (by omega) (by omega) (by decide)
    have nw : inb (8 * (c : Int) + (k : Int)) 192 := inb_b (by omega) (by omega) (by decide)
    have bad : bitN s k = 1 → (v11 = 0 ∨ L k = -1) → ∀ a b d : Int, R_load_k113 G S J (c : Int) g w v4 v5 v6 (s : Int) a b d (k : Int) 0 R := fun y q a b d => by
      refine b_R_load_k113 hS ⟨nw, br0 (b_R_load_k155 hS (br0 (ih (k + 1) (by omega) _ _ _ 0 (Or.inr ⟨rfl, fun o => ?_⟩))))⟩
      rcases q with q | q
      · rcases hv with ⟨e1, _⟩ | ⟨_, z⟩
        · omega
        · exact z o
      · exact o k k8 y q
    refine b_R_load_k75 hS ?_
    rw [w32_nat (k := k) (by omega), show w32 8 = 8 from rfl, bit_nat hs k8, w32_nat (k := bitN s k) (by omega), ix_nat (k := k) (by omega), lt k k8, show w32 (-1) = -1 from rfl, w32_b (z := L k) (by omega) (by omega)]
    refine ⟨fun q => absurd q (by omega), fun _ => ⟨fun y => ih (k + 1) (by omega) v8 v9 v10 v11 ?_, fun y => ?_⟩⟩
    · rcases hv with ⟨e1, et, ok⟩ | q
      · refine Or.inl ⟨e1, ?_, fun i hi hb => ?_⟩
        · unfold trL; rw [if_neg (fun q => by have := q.1; omega)]; exact et
        · by_cases x : i = k
          · subst x; omega
          · exact ok i (by omega) hb
      · exact Or.inr q
    · have y1 : bitN s k = 1 := by omega
      rcases hv with ⟨e1, et, ok⟩ | ⟨e1, q⟩
      · subst e1
        refine br1 ⟨nk, fun z => bad y1 (Or.inr z) _ _ _, fun z => ?_⟩
        have l := hl.resolve_left z
        obtain ⟨b, hb⟩ : ∃ b : Nat, L k = (b : Int) := ⟨(L k).toNat, by omega⟩
        refine b_R_load_k113 hS ⟨nw, br1 ⟨nk, ?_⟩⟩
        rw [ix_nat (k := k) (by omega), lt k k8, hb, ix_nat (k := b) (by omega), show 8 * (c : Int) + (k : Int) = ((c * 8 + k : Nat) : Int) by omega, ix_nat (k := c * 8 + k) (by omega)]
        refine ⟨inb_b (by omega) (by omega) (by decide), b_R_load_k155 hS (br1 ⟨nk, ?_⟩)⟩
        rw [ix_nat (k := k) (by omega), lt k k8, hb]
        refine ih (k + 1) (by omega) _ _ _ 1 (Or.inl ⟨rfl, ?_, fun i hi hi2 => ?_⟩)
        · unfold trL
          rw [if_pos ⟨y1, z⟩, ← et, hb, Int.toNat_natCast]
        · by_cases x : i = k
          · subst x; exact z
          · exact ok i (by omega) hi2
      · subst e1
        exact br0 (bad y1 (Or.inl rfl) _ _ _)
theorem s_R_best {L : Nat → Int} {c : Nat} {J : XI} {g w : Int} {R : Int → XI → Prop} (hS : xSh S) (hJ : Rel S J) (hc : c < nM J) (hg : 1 ≤ g ∧ g ≤ 20000) (hL : ∀ k, k < 8 → L k = -1 ∨ (0 ≤ L k ∧ L k < (nB J : Int))) (lt : ∀ k, k < 8 → J r_lightest k = L k) (hw : 0 ≤ w ∧ w ≤ 2)
    (h : (w = 0 → R (bst (TL J L c) g 255).1 J) ∧ (w = 1 → R (bst (TL J L c) g 255).2.1 J) ∧ (w = 2 → R (bst (TL J L c) g 255).2.2 J)) : R_load_k52 G S J (c : Int) g w (-1) 0 0 0 R := by
  have cb := nB_c hJ.good
  have cm := nM_c hJ.good
  have gW := hJ.good.2.2.2.1.2.2
  have gB := hJ.good.2.2.2.2.2.1.2
  have rg : InR g := ⟨by omega, by omega⟩
  have i3 : ∀ s, in3 (TL J L c s) := fun s => trL_in (L := L) (W := fun k => J r_wishes (c * 8 + k)) (Gr := J r_bookGrams) (fun k hk => by have := hL k hk; omega) (fun k hk => gW (c * 8 + k) (by omega)) (fun k hk q => by
    have x := (hL k hk).resolve_left q
    have y := (gB (L k).toNat (by omega)).2.2.2.2
    omega) s 8 (Nat.le_refl _)
  have ib : ∀ n, in3 (bst (TL J L c) g n) := fun n => bst_in (P := in3) ⟨⟨by decide, by decide⟩, ⟨by decide, by decide⟩, by decide, by decide⟩ i3 n
  have T0 : TL J L c 0 = (0, 0, 0) := by
    have : ∀ k, trL L (fun k => J r_wishes (c * 8 + k)) (J r_bookGrams) 0 k = (0, 0, 0) := by
      intro k
      induction k with
      | zero => rfl
      | succ k ih => unfold trL; rw [if_neg (fun q => by have := q.1; rw [bitN_0] at this; exact absurd this (by decide))]; exact ih
    exact this 8
  have ok0 : okS L 0 8 := fun i _ hb => by rw [bitN_0] at hb; exact absurd hb (by decide)
  have key : ∀ m n, n + 1 + m = 256 → ∀ b : T3, b = bst (TL J L c) g n → R_load_k52 G S J (c : Int) g w b.1 b.2.1 b.2.2 ((n + 1 : Nat) : Int) R := by
    intro m
    induction m with
    | zero =>
      intro n e b eb
      have en : n = 255 := by omega
      subst en
      subst eb
      refine b_R_load_k52 hS ⟨fun _ => ?_, fun q => absurd (by decide) q⟩
      rw [w32_b (z := w) (by omega) (by omega), show w32 1 = 1 from rfl]
      exact ⟨fun z => h.1 z, fun z => ⟨fun y => h.2.1 y, fun y => h.2.2 (by omega)⟩⟩
    | succ m ih =>
      intro n e b eb
      refine b_R_load_k52 hS ?_
      rw [w32_nat (k := n + 1) (by omega), show w32 256 = 256 from rfl]
      refine ⟨fun q => absurd q (by omega), fun _ => ?_⟩
      have x := ib n
      rw [← eb] at x
      unfold in3 at x
      refine s_R75 (L := L) (s := n + 1) hS hJ hc rg (by omega) ⟨by omega, by omega⟩ ⟨by omega, by omega⟩ ⟨by omega, by omega⟩ hL lt (i3 _) (fun q => ih (n + 1) (by omega) b ?_) (fun o q1 q2 => ih (n + 1) (by omega) (TL J L c (n + 1)) ?_) 8 0 (by omega) 0 0 0 1 (Or.inl ⟨rfl, rfl, fun i hi => absurd hi (by omega)⟩)
      · show b = if _ then _ else _
        rw [if_neg, eb]
        intro z
        rcases q with q | q | q
        · obtain ⟨s', l1, l2⟩ := trL_less (W := fun k => J r_wishes (c * 8 + k)) (Gr := J r_bookGrams) (show n + 1 < 256 by omega) q
          have l3 : TL J L c s' = TL J L c (n + 1) := l2
          have z1 := z.1
          have z2 := z.2
          rw [← l3] at z1 z2
          exact bst_top T0 n s' (by omega) z1 z2
        · omega
        · rw [← eb] at z; exact q z.2
      · show TL J L c (n + 1) = if _ then _ else _
        rw [if_pos]
        rw [← eb]
        exact ⟨q1, q2⟩
  refine b_R_load_k52 hS ⟨fun q => absurd q (by decide), fun _ => ?_⟩
  refine s_R75 (L := L) (s := 0) hS hJ hc rg (by omega) ⟨by decide, by decide⟩ ⟨by decide, by decide⟩ ⟨by decide, by decide⟩ hL lt (i3 _) (fun q => ?_) (fun _ _ _ => ?_) 8 0 (by omega) 0 0 0 1 (Or.inl ⟨rfl, rfl, fun i hi => absurd hi (by omega)⟩)
  · rw [T0] at q
    rcases q with q | q | q
    · exact absurd ok0 q
    · have q' : g < 0 := q
      omega
    · exact absurd (show btr (0, 0, 0) (-1, 0, 0) by decide) q
  · rw [T0]
    exact key 255 0 (by omega) (0, 0, 0) rfl
theorem t_load {v1 v2 v3 : Int} {R : Int → Int → XI → Prop} (hS : xSh S) (hI : Rel S I) (a1 : InR v1) (a2 : InR v2) (a3 : InR v3) (h : ∀ r J, Rel S J → R r r J) : H_load G S I v1 v2 v3 (fun r I1 => R_load G S I1 v1 v2 v3 (fun r' J => R r r' J)) := by
  have cb := nB_c hI.good
  have cm := nM_c hI.good
  have hl := limC_in hI.good
  have hnow := hI.good.1.1
  have ref0 : ∀ (J0 : XI) (T : Int → XI → Prop), tf I J0 → (¬ ((0 ≤ v1 ∧ v1 < I r_camps 0) ∧ (1 ≤ v2 ∧ v2 ≤ 20000) ∧ 0 ≤ v3 ∧ v3 ≤ 2) → T (-1) (up J0 r_obj 0 0)) → ((0 ≤ v1 ∧ v1 < I r_camps 0) ∧ (1 ≤ v2 ∧ v2 ≤ 20000) ∧ 0 ≤ v3 ∧ v3 ≤ 2 → R_findLightest G S (up J0 r_obj 0 0) v1 (fun I8 => R_load_k52 G S I8 v1 v2 v3 (-1) 0 0 0 T)) → R_load G S J0 v1 v2 v3 T := fun J0 T t0 kn ky => by
    refine b_R_load hS (fun J e => ?_)
    have tc := code_tf t0
    rw [← e] at kn ky tc
    exact s_R_isCamp (z := I r_camps 0) hS (by rw [tc r_camps (by decide) (by decide)]) (by omega) a1 (fun p1 p2 => br1 (s_Rin hS a2 ⟨by decide, by decide⟩ ⟨by decide, by decide⟩ (fun p3 p4 => br1 (s_Rin hS a3 ⟨by decide, by decide⟩ ⟨by decide, by decide⟩ (fun p5 p6 => br1 (ky ⟨⟨p1, p2⟩, ⟨p3, p4⟩, p5, p6⟩)) (fun n => br0 (kn (fun q => n q.2.2))))) (fun n => br0 (kn (fun q => n q.2.1))))) (fun n => br0 (kn (fun q => n q.1)))
  have bad : ¬ ((0 ≤ v1 ∧ v1 < I r_camps 0) ∧ (1 ≤ v2 ∧ v2 ≤ 20000) ∧ 0 ≤ v3 ∧ v3 ≤ 2) → R_load G S I v1 v2 v3 (fun r' J => R (-1) r' J) := fun q => ref0 I _ (tf.refl I) (fun _ => h _ _ (hI.code rfl).1) (fun z => absurd z q)
  refine b_H_load hS (s_He_hasCamp hS hI a1 (fun p1 p2 => br1 (s_isIn hS a2 ⟨by decide, by decide⟩ ⟨by decide, by decide⟩ (fun p3 p4 => br1 (s_isIn hS a3 ⟨by decide, by decide⟩ ⟨by decide, by decide⟩ (fun p5 p6 => br1 (s_H_limit hS hI.1 ?_)) (fun n => br0 (bad (fun q => n q.2.2))))) (fun n => br0 (bad (fun q => n q.2.1))))) (fun n => br0 (bad (fun q => n q.1))))
  obtain ⟨c, hcv⟩ : ∃ c : Nat, v1 = (c : Int) := ⟨v1.toNat, by omega⟩
  have hc : c < nM I := by omega
  obtain ⟨wk, hwk⟩ : ∃ wk : Nat, I r_now 0 = (wk : Int) := ⟨(I r_now 0).toNat, by omega⟩
  have hwn : I c_told 9 = (wk : Int) := (pl_now hI.pl).trans hwk
  obtain ⟨P, eP⟩ : ∃ P : Nat → Prop, P = offR I c wk := ⟨_, rfl⟩
  haveI : DecidablePred P := fun b => Classical.propDecidable _
  have hP : ∀ b, b < nB I → (P b ↔ offR I c wk b) := fun b _ => by rw [eP]
  obtain ⟨L, eL⟩ : ∃ L : Nat → Int, L = fun k => ltB P (I r_bookKind) (I r_bookGrams) (nB I) k := ⟨_, rfl⟩
  have hL : ∀ k, k < 8 → L k = -1 ∨ (0 ≤ L k ∧ L k < (nB I : Int)) := fun k _ => by rw [eL]; exact ltB_in P _ _ k _
  refine s_H_gatherCamp hS hI hcv hc hwn (by omega) hl (fun J1 hJ1 t1 hC1 => ?_)
  have n9 : J1 c_told 9 = (wk : Int) := by rw [t1.2 _ (by decide)]; exact hwn
  refine b_H_offerBooks hS (b_Bo_clear hS (s_fill hS (sN_c_box_lightest hS) (sT_c_box_lightest hS) (sL_c_box_lightest hS) (by decide) ?_))
  rw [n9, hcv]
  have x74 : ∀ a, a ≠ 74 → xfil J1 c_box_lightest 8 (-1) a = J1 a := fun a ha => xfil_out ha
  refine s_offers (P := P) hS hI hc hwk hP (fun J2 hJ2 t2 l2 => ?_) (nB I) 0 _ (by omega) (hJ1.keepA (fun a ha => x74 a (by omega))) (t1.trans ⟨fun a h1 h2 => x74 a (by omega), fun a ha => x74 a (by omega)⟩) (hC1.keep2 x74) (fun k hk => xfil_in hk)
  have nB2 : nB J2 = nB I := tf_nB t2.1
  have nM2 : nM J2 = nM I := nM_tf t2.1
  refine s_Bo_choose (L := L) hS hJ2 (by rw [nM2]; exact hc) a2 (by rw [nB2]; exact hL) (fun k hk => by rw [l2 k hk, eL]) (fun J3 e3 d0 d1 d2 => ?_)
  have hJ3 : Rel S J3 := hJ2.keepA (fun a ha => e3 a (by omega))
  have t3 : tf I J3 := t2.1.trans (fun a h1 h2 => e3 a (by omega))
  have same : ∀ K, tf I K → TL K L c = TL I L c := fun K tK => by
    funext s
    show trL _ _ _ _ _ = _
    rw [tK r_wishes (by decide) (by decide), tK r_bookGrams (by decide) (by decide)]
  rw [same J2 t2.1] at d0 d1 d2
  have fin : ∀ T : Int → XI → Prop, (∀ J, Rel S J → (v3 = 0 → T (bst (TL I L c) v2 255).1 J) ∧ (v3 = 1 → T (bst (TL I L c) v2 255).2.1 J) ∧ (v3 = 2 → T (bst (TL I L c) v2 255).2.2 J)) → R_load G S J3 (c : Int) v2 v3 T := fun T k => by
    rw [← hcv]
    refine ref0 J3 T t3 (fun q => absurd ⟨⟨p1, p2⟩, ⟨p3, p4⟩, p5, p6⟩ q) (fun _ => ?_)
    rw [hcv]
    obtain ⟨hJ4, t4, -⟩ := hJ3.code (J := up J3 r_obj 0 0) rfl
    refine s_R_findLightest (P := P) hS hI (t3.trans t4) hc hwk hP (fun J5 f5 l5 => ?_)
    have hJ5 : Rel S J5 := hJ4.keepA (fun a ha => f5 a (by omega))
    have t5 : tf I J5 := (t3.trans t4).trans f5.tf
    refine s_R_best (L := L) hS hJ5 (by rw [nM_tf t5]; exact hc) ⟨p3, p4⟩ (by rw [tf_nB t5]; exact hL) (fun k hk => by rw [l5 k hk, eL]) ⟨p5, p6⟩ ?_
    rw [same J5 t5]
    exact k J5 hJ5
  rw [w32_r a3, d0, d1, d2]
  exact ⟨fun z => fin _ (fun J hJ => ⟨fun _ => h _ _ hJ, fun q => absurd q (by omega), fun q => absurd q (by omega)⟩), fun z => fin _ (fun J hJ => ⟨fun q => absurd q (by omega), fun _ => h _ _ hJ, fun q => absurd q (by omega)⟩), fun z => fin _ (fun J hJ => ⟨fun q => absurd q (by omega), fun q => absurd q (by omega), fun _ => h _ _ hJ⟩)⟩
end PLg
