/-! ===== READERS: NEXT, learns; GIVER ===== -/
section PRf
variable {G : XG} {S : XS} {I : XI}
theorem rd_tf {I J : XI} (e : tf I J) : nR J = nR I := by show (J r_readers 0).toNat = _; rw [e r_readers (by decide) (by decide)]
theorem lv_tf {I J : XI} (e : tf I J) (x : Nat) : lvR J x = lvR I x := by
  unfold lvR bkF; rw [tf_nB e, e r_readerBooks (by decide) (by decide), e r_bookLevel (by decide) (by decide)]
theorem s_H_nextFor {v1 : Int} {x : Nat} {R : Int → XI → Prop} (hS : xSh S) (h : Rel S I) (h1 : v1 = (x : Int)) (hx : x < nR I) (hk : R (nxS (ndC I x) (ndA I x) (nB I)).1 I) : H_nextFor G S I v1 R := by
  subst h1
  have cb := nB_c h.good
  have cr := nR_c h.good
  have cm := nM_c h.good
  have p := h.pl
  have hn := h.good.1.1
  have hl := limC_in h.good
  have gr := (h.good.2.2.2.2.2.2.2.2.2 x (by omega)).1
  have e1 := pl_readerCamp p x (by omega)
  have lv : 0 ≤ lvR I x ∧ lvR I x ≤ 9 := lvS_in (fun l => sumA (bkF I x l) (nB I)) 9
  refine b_H_nextFor hS ⟨inb_b (by omega) (by omega) (by decide), ?_⟩
  rw [ix_nat (k := x) (by omega), e1]
  refine ⟨inb_b (by omega) (by omega) (by decide), s_Re_levelOf hS h rfl hx ?_⟩
  rw [ix_b (z := I r_readerCamp x) (by omega) (by omega), pl_campTongue p _ (by omega)]
  have gt := (h.good.2.2.2.1.2.1 (I r_readerCamp x).toNat (by omega)).1
  refine down (n := nB I) (P := fun k => H_nextFor_k58 G S I (x : Int) (I r_campTongue (I r_readerCamp x).toNat) (lvR I x + 1) (nxS (ndC I x) (ndA I x) k).1 (nxS (ndC I x) (ndA I x) k).2 (k : Int) R) ?_ ?_ 0 (Nat.zero_le _)
  · exact b_H_nextFor_k58 hS ⟨fun _ => hk, fun e => absurd (by rw [pl_books p, cb.1]; exact Int.le_refl _) e⟩
  · intro k hk' ih
    have gb := h.good.2.2.2.2.2.1.2 k (by omega)
    obtain ⟨n1, n2, n3⟩ := nxS_in (cand := ndC I x) (ap := ndA I x) k (fun j hj => ndA_in h x (by omega))
    have na := ndA_in h x hk'
    have ea : (if 0 ≤ w32 (I c_shelf_levels (ix (k : Int)) - (lvR I x + 1)) then I c_shelf_levels (ix (k : Int)) - (lvR I x + 1) else 0 - (I c_shelf_levels (ix (k : Int)) - (lvR I x + 1))) = ndA I x k := by
      rw [ix_nat (by omega), pl_bookLevel p k (by omega), w32_b (by omega) (by omega)]
      unfold ndA
      by_cases c : I r_bookLevel k < lvR I x + 1
      · rw [if_pos c, if_neg (by omega)]; omega
      · rw [if_neg c, if_pos (by omega)]
    have yes : ndC I x k ∧ ndA I x k < (nxS (ndC I x) (ndA I x) k).2 → H_nextFor_k58 G S I (x : Int) (I r_campTongue (I r_readerCamp x).toNat) (lvR I x + 1) (k : Int) (ndA I x k) ((k : Int) + 1) R := fun q => by rw [nxS, if_pos q] at ih; exact ih
    have no : ¬ (ndC I x k ∧ ndA I x k < (nxS (ndC I x) (ndA I x) k).2) → H_nextFor_k58 G S I (x : Int) (I r_campTongue (I r_readerCamp x).toNat) (lvR I x + 1) (nxS (ndC I x) (ndA I x) k).1 (nxS (ndC I x) (ndA I x) k).2 ((k : Int) + 1) R := fun q => by rw [nxS, if_neg q] at ih; exact ih
    refine b_H_nextFor_k58 hS ?_
    rw [ea, pl_books p, cb.1, w32_nat (k := nB I) (by omega), w32_nat (k := k) (by omega), w32_b (z := ndA I x k) (by omega) (by omega), w32_b (z := (nxS (ndC I x) (ndA I x) k).2) (by omega) (by omega), ix_nat (k := k) (by omega), pl_bookTongue p k (by omega), w32_b (z := I r_bookTongue k) (by omega) (by omega), w32_b (z := I r_campTongue (I r_readerCamp x).toNat) (by omega) (by omega)]
    refine ⟨fun e => absurd e (by omega), fun _ => ⟨inb_b (by omega) (by omega) (by decide), fun c1 => no (fun q => by omega), fun c1 => ⟨inb_b (by omega) (by omega) (by decide), fun c2 => s_Re_hasRead hS h rfl hx rfl (by omega) (fun b => br1 (no (fun q => q.1.2.1 b))) (fun b => br0 (s_H_limit hS h.1 (c_who hS h ⟨by omega, by omega⟩ (by rw [pl_now p]; exact ⟨by omega, by omega⟩) ⟨by omega, by omega⟩ ?_))), fun c2 => no (fun q => c2 q.1.1)⟩⟩⟩
    rw [pl_now p, whoR_le h.1.le, w32_r (whoR_in h.okR), show w32 (-1) = -1 from rfl]
    exact ⟨fun c3 => yes ⟨⟨c2, by omega, c3⟩, by omega⟩, fun c3 => no (fun q => c3 q.1.2.2)⟩
theorem s_R_nextFor {v1 : Int} {x : Nat} {R : Int → XI → Prop} (hS : xSh S) (h : Rel S I) (h1 : v1 = (x : Int)) (hx : x < nR I) (hk : R (nxS (ndC I x) (ndA I x) (nB I)).1 I) : R_nextFor G S I v1 R := by
  subst h1
  have cb := nB_c h.good
  have cr := nR_c h.good
  have cm := nM_c h.good
  have hn := h.good.1.1
  have gr := (h.good.2.2.2.2.2.2.2.2.2 x (by omega)).1
  have lv : 0 ≤ lvR I x ∧ lvR I x ≤ 9 := lvS_in (fun l => sumA (bkF I x l) (nB I)) 9
  have gt := (h.good.2.2.2.1.2.1 (I r_readerCamp x).toNat (by omega)).1
  refine b_R_nextFor hS (s_R_levelOf hS h rfl hx ?_)
  refine down (n := nB I) (P := fun k => ∀ nr : Int, (nr = (if (nxS (ndC I x) (ndA I x) k).1 = -1 then 0 else (nxS (ndC I x) (ndA I x) k).2)) → R_nextFor_k16 G S I (x : Int) (lvR I x + 1) (nxS (ndC I x) (ndA I x) k).1 nr (k : Int) R) ?_ ?_ 0 (Nat.zero_le _) 0 rfl
  · intro nr _
    exact b_R_nextFor_k16 hS ⟨fun _ => hk, fun e => absurd (by rw [cb.1]; exact Int.le_refl _) e⟩
  · intro k hk' ih nr hnr
    have gb := h.good.2.2.2.2.2.1.2 k (by omega)
    obtain ⟨n1, n2, n3⟩ := nxS_in (cand := ndC I x) (ap := ndA I x) k (fun j hj => ndA_in h x (by omega))
    have na := ndA_in h x hk'
    have yes : ndC I x k ∧ ndA I x k < (nxS (ndC I x) (ndA I x) k).2 → R_nextFor_k16 G S I (x : Int) (lvR I x + 1) (k : Int) (ndA I x k) ((k : Int) + 1) R := fun q => by
      rw [nxS, if_pos q] at ih
      exact ih (ndA I x k) (if_neg (show ¬ (k : Int) = -1 by omega)).symm
    have no : ¬ (ndC I x k ∧ ndA I x k < (nxS (ndC I x) (ndA I x) k).2) → R_nextFor_k16 G S I (x : Int) (lvR I x + 1) (nxS (ndC I x) (ndA I x) k).1 nr ((k : Int) + 1) R := fun q => by rw [nxS, if_neg q] at ih; exact ih nr hnr
    refine b_R_nextFor_k16 hS ?_
    rw [cb.1, w32_nat (k := nB I) (by omega), w32_nat (k := k) (by omega)]
    refine ⟨fun e => absurd e (by omega), fun _ => s_R_hasRead hS h rfl hx rfl (by omega) (fun b => br1 (no (fun q => q.1.2.1 b))) (fun b => br0 ?_)⟩
    rw [ix_nat (k := x) (by omega), ix_nat (k := k) (by omega), ix_b (z := I r_readerCamp x) (by omega) (by omega), w32_b (z := I r_bookTongue k) (by omega) (by omega), w32_b (z := I r_campTongue (I r_readerCamp x).toNat) (by omega) (by omega)]
    refine ⟨inb_b (by omega) (by omega) (by decide), inb_b (by omega) (by omega) (by decide), inb_b (by omega) (by omega) (by decide), fun c2 => s_R_viewWeek hS h.okR (s_R_who hS h.okR h.1.actR ⟨by omega, by omega⟩ ⟨by omega, by omega⟩ (viewR_in h.okR) ?_), fun c2 => no (fun q => c2 q.1.1)⟩
    rw [w32_r (whoR_in h.okR), show w32 (-1) = -1 from rfl, w32_b (z := I r_bookLevel k) (by omega) (by omega), w32_b (z := lvR I x + 1) (by omega) (by omega)]
    have fin : whoR I (nA I) (k : Int) (I r_now 0) (viewR I) = -1 → R_nextFor_k113 G S I (x : Int) (lvR I x + 1) (nxS (ndC I x) (ndA I x) k).1 nr (k : Int) (ndA I x k) R := fun c3 => by
      have hc : ndC I x k := ⟨c2, by omega, c3⟩
      refine b_R_nextFor_k113 hS ?_
      rw [w32_b (z := (nxS (ndC I x) (ndA I x) k).1) (by omega) (by omega), show w32 (-1) = -1 from rfl, w32_b (z := ndA I x k) (by omega) (by omega)]
      by_cases c4 : (nxS (ndC I x) (ndA I x) k).1 = -1
      · have := n3 c4
        exact ⟨fun _ => yes ⟨hc, by omega⟩, fun c => absurd c4 c⟩
      · rw [if_neg c4] at hnr
        rw [w32_b (z := nr) (by omega) (by omega)]
        exact ⟨fun c => absurd c c4, fun _ => ⟨fun c5 => no (fun q => by omega), fun c5 => yes ⟨hc, by omega⟩⟩⟩
    refine ⟨fun c3 => ⟨inb_b (by omega) (by omega) (by decide), fun c4 => ⟨inb_b (by omega) (by omega) (by decide), ?_⟩, fun c4 => ⟨inb_b (by omega) (by omega) (by decide), ?_⟩⟩, fun c3 => no (fun q => c3 q.1.2.2)⟩
    · have := fin c3
      unfold ndA at this
      rw [if_neg (by omega)] at this; exact this
    · have := fin c3
      unfold ndA at this
      rw [if_pos (by omega)] at this; exact this
theorem nx_tf {I J : XI} (e : tf I J) (x n : Nat) : (nxS (ndC J x) (ndA J x) n).1 = (nxS (ndC I x) (ndA I x) n).1 := by
  have ha : ndA J x = ndA I x := by funext b; unfold ndA; rw [lv_tf e, e r_bookLevel (by decide) (by decide)]
  rw [ha]
  have hc : ∀ b, ndC J x b ↔ ndC I x b := fun b => by
    unfold ndC
    rw [e r_bookTongue (by decide) (by decide), e r_campTongue (by decide) (by decide), e r_readerCamp (by decide) (by decide), e r_readerBooks (by decide) (by decide), e r_now (by decide) (by decide), tf_view e, tf_nA e, tf_who e]
  have : nxS (ndC J x) (ndA I x) n = nxS (ndC I x) (ndA I x) n := by
    induction n with
    | zero => rfl
    | succ n ih =>
      rw [nxS, nxS, ih]
      by_cases c : ndC J x n ∧ ndA I x n < (nxS (ndC I x) (ndA I x) n).2
      · rw [if_pos c, if_pos ⟨(hc n).mp c.1, c.2⟩]
      · rw [if_neg c, if_neg (fun q => c ⟨(hc n).mpr q.1, q.2⟩)]
  rw [this]
theorem t_learns {v1 v2 : Int} {R : Int → Int → XI → Prop} (hS : xSh S) (hI : Rel S I) (a1 : InR v1) (a2 : InR v2) (h : ∀ r J, Rel S J → R r r J) : H_learns G S I v1 v2 (fun r I1 => R_learns G S I1 v1 v2 (fun r' J => R r r' J)) := by
  have cr := nR_c hI.good
  have p := hI.pl
  refine b_H_learns hS (s_Re_hasReader hS hI a1 (fun b1 b2 => br1 ?_) (fun n => br0 ?_))
  · obtain ⟨x, rfl⟩ : ∃ x : Nat, v1 = (x : Int) := ⟨v1.toNat, by omega⟩
    have hx : x < nR I := by omega
    rw [w32_r a2, ix_nat (k := x) (by omega), pl_readerCamp p x (by omega), pl_readerBooks p x (by omega)]
    have ref : ∀ T : Int → XI → Prop, (∀ J, Rel S J → ((v2 = 0 → T (I r_readerCamp x) J) ∧ (v2 = 1 → T (lvR I x) J) ∧ (v2 = 2 → T (I r_readerBooks x) J) ∧ (v2 = 3 → T (nxS (ndC I x) (ndA I x) (nB I)).1 J) ∧ ((v2 < 0 ∨ 3 < v2) → T (-2) J))) → R_learns G S I (x : Int) v2 T := fun T k => by
      refine b_R_learns hS (fun J e => ?_)
      obtain ⟨hJ, ht, -⟩ := hI.code e
      obtain ⟨k0, k1, k2, k3, k4⟩ := k J hJ
      have hxJ : x < nR J := by rw [rd_tf ht]; exact hx
      refine s_R_isReader (z := I r_readers 0) hS (by rw [ht r_readers (by decide) (by decide)]) (by omega) a1 (fun _ _ => br1 ?_) (fun n => absurd ⟨b1, b2⟩ n)
      rw [w32_r a2, ix_nat (k := x) (by omega), ht r_readerCamp (by decide) (by decide), ht r_readerBooks (by decide) (by decide)]
      have i4 : inb (x : Int) 48 := inb_b (by omega) (by omega) (by decide)
      exact ⟨fun c => ⟨i4, k0 c⟩, fun c => s_R_levelOf hS hJ rfl hxJ (by rw [lv_tf ht]; exact k1 c), fun c => ⟨i4, k2 c⟩, fun c => s_R_nextFor hS hJ rfl hxJ (by rw [tf_nB ht, nx_tf ht]; exact k3 c), k4⟩
    have i1 : inb (x : Int) 12 := inb_b (by omega) (by omega) (by decide)
    refine ⟨fun c => ⟨i1, ref _ fun J hJ => ?_⟩, fun c => s_Re_levelOf hS hI rfl hx (ref _ fun J hJ => ?_), fun c => ⟨i1, ref _ fun J hJ => ?_⟩, fun c => s_H_nextFor hS hI rfl hx (ref _ fun J hJ => ?_), fun c => ref _ fun J hJ => ?_⟩
    all_goals (refine ⟨fun d => ?_, fun d => ?_, fun d => ?_, fun d => ?_, fun d => ?_⟩)
    all_goals first | exact h _ _ hJ | omega
  · refine b_R_learns hS (fun J e => ?_)
    obtain ⟨hJ, ht, -⟩ := hI.code e
    exact s_R_isReader (z := I r_readers 0) hS (by rw [ht r_readers (by decide) (by decide)]) (by omega) a1 (fun b1 b2 => absurd ⟨b1, b2⟩ n) (fun _ => br0 (h _ _ hJ))
/-! GIVER -/
theorem rdK_in (h : Rel S I) (kd : Int) : 0 ≤ rdK I kd ∧ rdK I kd ≤ 12 := by
  have cr := nR_c h.good
  have a := sumA_nn (f := fun r => anyK (fun b => bitI (I r_readerBooks r) b = 1 ∧ I r_bookKind b = kd) (nB I)) (n := nR I) (fun j _ => by have := anyK_01 (P := fun b => bitI (I r_readerBooks j) b = 1 ∧ I r_bookKind b = kd) (nB I); omega)
  have b := sumA_le1 (f := fun r => anyK (fun b => bitI (I r_readerBooks r) b = 1 ∧ I r_bookKind b = kd) (nB I)) (n := nR I) (fun j _ => by have := anyK_01 (P := fun b => bitI (I r_readerBooks j) b = 1 ∧ I r_bookKind b = kd) (nB I); omega)
  exact ⟨a, Int.le_trans b (by omega)⟩
theorem s_Re_readersOf {kd : Int} {R : Int → XI → Prop} (hS : xSh S) (h : Rel S I) (h1 : InR kd) (hk : R (rdK I kd) I) : Re_readersOf G S I kd R := by
  have cb := nB_c h.good
  have cr := nR_c h.good
  have p := h.pl
  refine b_Re_readersOf hS ?_
  refine down (n := nB I) (P := fun n => ∀ m : Int, (0 ≤ m ∧ m < 16777216) → (∀ k, bitI m k = if k < n ∧ I r_bookKind k = kd then 1 else 0) → Re_readersOf_k5 G S I kd m (n : Int) R) ?_ ?_ 0 (Nat.zero_le _) 0 ⟨by decide, by decide⟩ (fun k => ?_)
  · intro m hm hb
    refine b_Re_readersOf_k5 hS ⟨fun _ => ?_, fun e => absurd (by rw [pl_books p, cb.1]; exact Int.le_refl _) e⟩
    refine down (n := nR I) (P := fun r => Re_readersOf_k44 G S I m (sumA (fun r => anyK (fun b => bitI (I r_readerBooks r) b = 1 ∧ I r_bookKind b = kd) (nB I)) r) (r : Int) R) ?_ ?_ 0 (Nat.zero_le _)
    · exact b_Re_readersOf_k44 hS ⟨fun _ => hk, fun e => absurd (by rw [pl_readers p, cr.1]; exact Int.le_refl _) e⟩
    · intro r hr ih
      obtain ⟨r1, r2⟩ := h.rb hr
      have hs : sumA (fun r => anyK (fun b => bitI (I r_readerBooks r) b = 1 ∧ I r_bookKind b = kd) (nB I)) (r + 1) = sumA (fun r => anyK (fun b => bitI (I r_readerBooks r) b = 1 ∧ I r_bookKind b = kd) (nB I)) r + anyK (fun b => bitI (I r_readerBooks r) b = 1 ∧ I r_bookKind b = kd) (nB I) := rfl
      rw [hs] at ih
      have ax := anyK_ex (P := fun b => bitI (I r_readerBooks r) b = 1 ∧ I r_bookKind b = kd) (nB I)
      have a01 := anyK_01 (P := fun b => bitI (I r_readerBooks r) b = 1 ∧ I r_bookKind b = kd) (nB I)
      have hand : iand (I r_readerBooks r) m = 0 ↔ anyK (fun b => bitI (I r_readerBooks r) b = 1 ∧ I r_bookKind b = kd) (nB I) = 0 := by
        obtain ⟨wn, hwn⟩ : ∃ n : Nat, I r_readerBooks r = (n : Int) := ⟨(I r_readerBooks r).toNat, by omega⟩
        obtain ⟨mn, hmn⟩ : ∃ n : Nat, m = (n : Int) := ⟨m.toNat, by omega⟩
        rw [hwn] at ax a01 ⊢
        rw [hmn] at hb ⊢
        rw [iandN (by omega)]
        constructor
        · intro e
          have e0 : wn &&& mn = 0 := by omega
          rcases a01 with a | a
          · exact a
          · obtain ⟨b, b1, b2, b3⟩ := ax.mp a
            have q1 : bitN wn b = 1 := by rw [bitI_N] at b2; omega
            have q2 : bitN mn b = 1 := by have := hb b; rw [if_pos ⟨b1, b3⟩, bitI_N] at this; omega
            have := (bitN_and wn mn b).mpr ⟨q1, q2⟩
            rw [e0, bitN_0] at this; omega
        · intro a
          have e0 : wn &&& mn = 0 := bitN_ext (fun k => ⟨fun q => by
            obtain ⟨q1, q2⟩ := (bitN_and wn mn k).mp q
            have hbk := hb k
            rw [bitI_N, q2] at hbk
            by_cases c : k < nB I ∧ I r_bookKind k = kd
            · have := ax.mpr ⟨k, c.1, by rw [bitI_N, q1]; rfl, c.2⟩; omega
            · rw [if_neg c] at hbk; omega, fun q => by rw [bitN_0] at q; omega⟩)
          rw [e0]; rfl
      refine b_Re_readersOf_k44 hS ?_
      rw [pl_readers p, cr.1, w32_nat (k := nR I) (by omega), w32_nat (k := r) (by omega), ix_nat (k := r) (by omega), r2]
      have hin : w32 (iand (I r_readerBooks r) m) = iand (I r_readerBooks r) m := by
        unfold iand
        have := Int32.minValue_le_toInt (Int32.ofInt (I r_readerBooks r) &&& Int32.ofInt m)
        have := Int32.toInt_le (Int32.ofInt (I r_readerBooks r) &&& Int32.ofInt m)
        exact w32_id (by simpa using Int32.le_toInt _) (by have := Int32.toInt_lt (Int32.ofInt (I r_readerBooks r) &&& Int32.ofInt m); omega)
      rw [hin, hand]
      refine ⟨fun e => absurd e (by omega), fun _ => ⟨inb_b (by omega) (by omega) (by decide), fun e => ?_, fun e => ?_⟩⟩
      · rw [e, Int.add_zero] at ih; exact ih
      · rw [show anyK (fun b => bitI (I r_readerBooks r) b = 1 ∧ I r_bookKind b = kd) (nB I) = 1 by omega] at ih; exact ih
  · intro n hn ih m hm hb
    have gk := (h.good.2.2.2.2.2.1.2 n (by omega)).1
    refine b_Re_readersOf_k5 hS ?_
    rw [pl_books p, cb.1, w32_nat (k := nB I) (by omega), w32_nat (k := n) (by omega), ix_nat (k := n) (by omega), pl_bookKind p n (by omega), w32_b (z := I r_bookKind n) (by omega) (by omega), w32_r h1]
    refine ⟨fun e => absurd e (by omega), fun _ => ⟨inb_b (by omega) (by omega) (by decide), fun e => ?_, fun e => ?_⟩⟩
    · obtain ⟨s1, s2⟩ := bit_set (w := m) (b := n) hm.1 hm.2 (by omega)
      refine ih _ s1 (fun k => ?_)
      rw [s2 k, hb k]
      by_cases ek : k = n
      · rw [if_pos ek, if_pos ⟨by omega, by rw [ek]; exact e⟩]
      · rw [if_neg ek]
        by_cases c : k < n ∧ I r_bookKind k = kd
        · rw [if_pos c, if_pos ⟨by omega, c.2⟩]
        · rw [if_neg c, if_neg (fun q => c ⟨by omega, q.2⟩)]
    · refine ih _ hm (fun k => ?_)
      rw [hb k]
      by_cases c : k < n ∧ I r_bookKind k = kd
      · rw [if_pos c, if_pos ⟨by omega, c.2⟩]
      · rw [if_neg c, if_neg (fun q => c ⟨by
          by_cases ek : k = n
          · subst ek; exact absurd q.2 e
          · omega, q.2⟩)]
  · rw [if_neg (fun q => by omega)]
    show (0 : Int) / 2 ^ k % 2 = 0
    simp
end PRf
