/-! ===== sets of CELLS; fewest days through them ===== -/
theorem set_wo1 : ∀ s : Nat, s < 512 → ∀ t : Nat, t < 10 → (hasS s t → woS s t < s) := by decide +kernel
def okW (s : Nat) : Bool := (List.range 10).all fun t => (List.range 10).all fun u => decide (hasS s t → (hasS (woS s t) u ↔ (hasS s u ∧ u ≠ t)))
theorem okW_all : ∀ s : Nat, s < 512 → okW s = true := by decide +kernel
theorem set_wo2 (s : Nat) (hs : s < 512) (t : Nat) (ht : t < 10) (u : Nat) (hu : u < 10) : hasS s t → (hasS (woS s t) u ↔ (hasS s u ∧ u ≠ t)) := by
  have h := okW_all s hs
  unfold okW at h
  rw [List.all_eq_true] at h
  have h := h t (List.mem_range.mpr ht)
  rw [List.all_eq_true] at h
  exact of_decide_eq_true (h u (List.mem_range.mpr hu))
theorem set_wo (s : Nat) (hs : s < 512) (t : Nat) (ht : t < 10) (h : hasS s t) : woS s t < s ∧ ∀ u, u < 10 → (hasS (woS s t) u ↔ (hasS s u ∧ u ≠ t)) := ⟨set_wo1 s hs t ht h, fun u hu => set_wo2 s hs t ht u hu h⟩
theorem set_out : ∀ s : Nat, s < 512 → ∀ t : Nat, t < 10 → (hasS s t → iand (s : Int) (ixor (ishl 1 ((t : Int) - 1)) (-1)) = (woS s t : Int)) := by decide +kernel
theorem set_xor : ∀ s : Nat, s < 512 → ∀ t : Nat, t < 10 → (hasS s t → ixor (s : Int) (ishl 1 ((t : Int) - 1)) = (woS s t : Int)) := by decide +kernel
theorem set_and : ∀ s : Nat, s < 512 → ∀ t : Nat, t < 10 → (1 ≤ t → (iand (s : Int) (ishl 1 ((t : Int) - 1)) = 0 ↔ ¬ hasS s t)) := by decide +kernel
theorem set_has : ∀ s : Nat, s < 512 → ∀ t : Nat, t < 10 → (1 ≤ t → iand (ishr (s : Int) ((t : Int) - 1)) 1 = if hasS s t then 1 else 0) := by decide +kernel
theorem set_bit : ∀ t : Nat, t < 10 → (1 ≤ t → ishl 1 ((t : Int) - 1) = (((2 : Nat) ^ (t - 1) : Nat) : Int)) := by decide +kernel
theorem set_ex : ∀ s : Nat, s < 512 → (s ≠ 0 → ∃ t, t < 10 ∧ hasS s t) := by decide +kernel
theorem set_one : ∀ s : Nat, s < 512 → ∀ t : Nat, t < 10 → (hasS s t → (woS s t = 0 ↔ s = 2 ^ (t - 1))) := by decide +kernel
theorem iand_in (a b : Int) : InR (iand a b) := by
  unfold iand
  exact ⟨by simpa using Int32.le_toInt _, by have := Int32.toInt_lt (Int32.ofInt a &&& Int32.ofInt b); omega⟩
theorem and_not {a b : Nat} (ha : a < 2147483648) : iand (a : Int) (ixor (b : Int) (-1)) = 0 ↔ ∀ i, i < 32 → bitN a i = 1 → bitN b i = 1 := by
  have e1 : Int32.ofInt (ixor (b : Int) (-1)) = nI b ^^^ Int32.ofInt (-1) := by unfold ixor; rw [i_of, nI_cst]
  have hm : ∀ i, i < 32 → (Int32.ofInt (-1)).toBitVec.getLsbD i = true := by decide +kernel
  unfold iand
  rw [e1, nI_cst]
  have hz : (nI a &&& (nI b ^^^ Int32.ofInt (-1))).toInt = 0 ↔ (nI a &&& (nI b ^^^ Int32.ofInt (-1))) = 0 := by
    rw [← Int32.toInt_inj]; rfl
  rw [hz]
  have hb : ∀ n i, i < 32 → (nI n).toBitVec.getLsbD i = n.testBit i := fun n i hi => by
    show (BitVec.ofNat 32 n).getLsbD i = _
    rw [BitVec.getLsbD_ofNat]; simp [hi]
  constructor
  · intro h i hi h1
    have h2 : (nI a &&& (nI b ^^^ Int32.ofInt (-1))).toBitVec.getLsbD i = false := by rw [h]; simp
    rw [Int32.toBitVec_and, Int32.toBitVec_xor, BitVec.getLsbD_and, BitVec.getLsbD_xor, hb a i hi, hb b i hi, hm i hi, (bitN_tb a i).mpr h1] at h2
    rw [← bitN_tb]
    cases hc : b.testBit i <;> simp_all
  · intro h
    apply Int32.toBitVec_inj.mp
    apply BitVec.eq_of_getLsbD_eq
    intro i hi
    rw [Int32.toBitVec_and, Int32.toBitVec_xor, BitVec.getLsbD_and, BitVec.getLsbD_xor, hb a i hi, hb b i hi, hm i hi]
    have h3 := h i hi
    rw [← bitN_tb, ← bitN_tb] at h3
    cases hc : a.testBit i <;> cases hd : b.testBit i <;> simp_all
theorem wells_test {w : Int} {s : Nat} (hs : s < 512) (h0 : 0 ≤ w) (h1 : w < 1024) : iand (ishl (s : Int) 1) (ixor w (-1)) = 0 ↔ allW w s := by
  obtain ⟨n, rfl⟩ : ∃ n : Nat, w = (n : Int) := ⟨w.toNat, by omega⟩
  have e1 : ishl (s : Int) 1 = ((s * 2 ^ 1 : Nat) : Int) := ishlN (n := s) (k := 1) (by decide) (by omega)
  have sh : ∀ t, 1 ≤ t → bitN (s * 2 ^ 1) t = s / 2 ^ (t - 1) % 2 := fun t ht => by
    obtain ⟨u, rfl⟩ : ∃ u, t = u + 1 := ⟨t - 1, by omega⟩
    show s * 2 / 2 ^ (u + 1) % 2 = s / 2 ^ (u + 1 - 1) % 2
    rw [Nat.add_sub_cancel, Nat.pow_succ, Nat.mul_div_mul_right _ _ (by decide)]
  rw [e1, and_not (by omega)]
  constructor
  · intro h t ht q
    rw [bitI_N, h t (by omega) (by rw [sh t q.1]; exact q.2)]; rfl
  · intro h t ht q
    by_cases t1 : 1 ≤ t
    · rw [sh t t1] at q
      by_cases t10 : t < 10
      · have := h t t10 ⟨t1, q⟩
        rw [bitI_N] at this; omega
      · have : s / 2 ^ (t - 1) = 0 := Nat.div_eq_of_lt (Nat.lt_of_lt_of_le hs (Nat.pow_le_pow_right (n := 2) (by decide) (show 9 ≤ t - 1 by omega)))
        rw [this] at q; omega
    · have : t = 0 := by omega
      subst this
      have q' : s * 2 / 1 % 2 = 1 := q
      omega
theorem mnT_cong {F : Int} {P Q : Nat → Prop} [DecidablePred P] [DecidablePred Q] {f g : Nat → Int} : ∀ {n : Nat}, (∀ j, j < n → (P j ↔ Q j) ∧ (P j → f j = g j)) → mnT F P f n = mnT F Q g n
  | 0, _ => rfl
  | n + 1, h => by
    have ih := mnT_cong (F := F) (n := n) (fun j hj => h j (by omega))
    obtain ⟨h1, h2⟩ := h n (by omega)
    rw [mnT, mnT, ih]
    by_cases c : P n
    · rw [if_pos c, if_pos (h1.mp c), h2 c]
    · rw [if_neg c, if_neg (fun q => c (h1.mpr q))]
theorem mnT_in {F : Int} {P : Nat → Prop} [DecidablePred P] {f : Nat → Int} (hF : 0 ≤ F) : ∀ {n : Nat}, (∀ j, j < n → P j → 0 ≤ f j) → 0 ≤ mnT F P f n ∧ mnT F P f n ≤ F
  | 0, _ => ⟨hF, Int.le_refl _⟩
  | n + 1, h => by
    have ih := mnT_in (f := f) hF (n := n) (fun j hj => h j (by omega))
    rw [mnT]
    by_cases c : P n
    · have := h n (by omega) c
      rw [if_pos c]; split <;> omega
    · rw [if_neg c]; exact ih
/-- the least is F, or it is reached -/
theorem mnT_at {F : Int} {P : Nat → Prop} [DecidablePred P] {f : Nat → Int} : ∀ n, mnT F P f n = F ∨ ∃ j, j < n ∧ P j ∧ f j = mnT F P f n
  | 0 => Or.inl rfl
  | n + 1 => by
    have ih := mnT_at (F := F) (P := P) (f := f) n
    rw [mnT]
    by_cases c : P n
    · rw [if_pos c]
      by_cases d : f n < mnT F P f n
      · rw [if_pos d]; exact Or.inr ⟨n, by omega, c, rfl⟩
      · rw [if_neg d]
        rcases ih with e | ⟨j, h1, h2, h3⟩
        · exact Or.inl e
        · exact Or.inr ⟨j, by omega, h2, h3⟩
    · rw [if_neg c]
      rcases ih with e | ⟨j, h1, h2, h3⟩
      · exact Or.inl e
      · exact Or.inr ⟨j, by omega, h2, h3⟩
theorem mnT_sat {P : Nat → Prop} [DecidablePred P] {f g : Nat → Int} : ∀ {n : Nat}, (∀ j, j < n → P j → 0 ≤ f j ∧ 0 ≤ g j) → mnT 100000 P (fun t => sat (f t) + sat (g t)) n = sat (mnT 1000000 P (fun t => f t + g t) n)
  | 0, _ => rfl
  | n + 1, h => by
    have ih := mnT_sat (f := f) (g := g) (n := n) (fun j hj => h j (by omega))
    have hb := mnT_in (F := 1000000) (P := P) (f := fun t => f t + g t) (by decide) (n := n) (fun j hj q => by have := h j (by omega) q; omega)
    rw [mnT, mnT, ih]
    generalize mnT 1000000 P (fun t => f t + g t) n = m at *
    by_cases c : P n
    · obtain ⟨h1, h2⟩ := h n (by omega) c
      rw [if_pos c, if_pos c]
      generalize f n = x at *
      generalize g n = y at *
      unfold sat
      repeat' split
      all_goals omega
    · rw [if_neg c, if_neg c]
/-- fewest days home: one entry -/
def HM (w : Int) (D H : Nat → Int) (s c : Nat) : Prop := (allW w s → H (s * 10 + c) = if s = 0 then D (c * 10) else mnT 100000 (fun t => hasS s t) (fun t => D (c * 10 + t) + H (woS s t * 10 + t)) 10) ∧ (¬ allW w s → H (s * 10 + c) = 100000)
theorem HM.ext {w : Int} {D H H' : Nat → Int} {s c : Nat} (hs : s < 512) (h : HM w D H s c) (e : ∀ i, i ≤ s * 10 + c → H' i = H i) : HM w D H' s c := by
  refine ⟨fun q => ?_, fun q => by rw [e _ (Nat.le_refl _)]; exact h.2 q⟩
  rw [e _ (Nat.le_refl _), h.1 q]
  split
  · rfl
  · refine mnT_cong (fun t ht => ⟨Iff.rfl, fun p => ?_⟩)
    have := (set_wo s hs t ht p).1
    rw [e _ (by omega)]
section PHm
variable {G : XG} {S : XS}
theorem s_Wa_hasStop {I : XI} {s t : Nat} {sv tv : Int} {R : Int → XI → Prop} (hS : xSh S) (hsv : sv = (s : Int)) (hs : s < 512) (htv : tv = (t : Int)) (ht : t < 10) (h1 : 1 ≤ t) (hy : hasS s t → R 1 I) (hn : ¬ hasS s t → R 0 I) : Wa_hasStop G S I sv tv R := by
  subst hsv; subst htv
  refine b_Wa_hasStop hS ?_
  rw [set_has s hs t ht h1]
  by_cases c : hasS s t
  · rw [if_pos c]; exact ⟨fun _ => hy c, fun n => absurd rfl n⟩
  · rw [if_neg c]; exact ⟨fun e => absurd e (by decide), fun _ => hn c⟩
theorem s_Wa_without {I : XI} {s t : Nat} {sv tv : Int} {R : Int → XI → Prop} (hS : xSh S) (hsv : sv = (s : Int)) (hs : s < 512) (htv : tv = (t : Int)) (ht : t < 10) (hh : hasS s t) (h : R (woS s t : Int) I) : Wa_without G S I sv tv R := by
  subst hsv; subst htv
  refine b_Wa_without hS ?_
  rw [set_out s hs t ht hh]; exact h
theorem s_Wa_lengthBy {I : XI} {s t c : Nat} {sv tv cv : Int} {R : Int → XI → Prop} (hS : xSh S) (hcv : cv = (c : Int)) (hc : c < 10) (hsv : sv = (s : Int)) (hs : s < 512) (htv : tv = (t : Int)) (ht : t < 10) (hh : hasS s t) (h : R (I c_walks_days (c * 10 + t) + I c_walks_home (woS s t * 10 + t)) I) : Wa_lengthBy G S I cv tv sv R := by
  subst hcv; subst hsv; subst htv
  have hw := (set_wo s hs t ht hh).1
  have e1 : ((c : Int) * 10 + (t : Int)) = ((c * 10 + t : Nat) : Int) := by omega
  have e2 : ((woS s t : Int) * 10 + (t : Int)) = ((woS s t * 10 + t : Nat) : Int) := by omega
  refine b_Wa_lengthBy hS ⟨inb_b (by omega) (by omega) (by decide), s_Wa_without hS rfl hs rfl ht hh ⟨inb_b (by omega) (by omega) (by decide), ?_⟩⟩
  rw [e1, e2, ix_nat (by omega), ix_nat (by omega)]; exact h
theorem s_Wa_fewestHome {I : XI} {s c : Nat} {sv cv : Int} {D H : Nat → Int} {R : Int → XI → Prop} (hS : xSh S) (hcv : cv = (c : Int)) (hc : c < 10) (hsv : sv = (s : Int)) (hs : s < 512) (hD : ∀ k, k < 100 → I c_walks_days k = D k ∧ 0 ≤ D k ∧ D k ≤ 100000) (hH : ∀ i, i < s * 10 → I c_walks_home i = H i ∧ 0 ≤ H i ∧ H i ≤ 100000)
    (h : R (if s = 0 then D (c * 10) else mnT 100000 (fun t => hasS s t) (fun t => D (c * 10 + t) + H (woS s t * 10 + t)) 10) I) : Wa_fewestHome G S I cv sv R := by
  subst hcv; subst hsv
  refine b_Wa_fewestHome hS ?_
  rw [w32_nat (k := s) (by omega)]
  refine ⟨fun e => ⟨inb_b (by omega) (by omega) (by decide), ?_⟩, fun e => ?_⟩
  · rw [show ((c : Int) * 10) = ((c * 10 : Nat) : Int) by omega, ix_nat (by omega), (hD _ (by omega)).1]
    rw [if_pos (by omega)] at h; exact h
  · rw [if_neg (by omega)] at h
    have hb : ∀ j, j < 10 → hasS s j → 0 ≤ D (c * 10 + j) + H (woS s j * 10 + j) := fun j hj q => by
      have := hD (c * 10 + j) (by omega)
      have hw := (set_wo s hs j hj q).1
      have := hH (woS s j * 10 + j) (by omega)
      omega
    refine down (n := 9) (P := fun n => Wa_fewestHome_k20 G S I (c : Int) (s : Int) (mnT 100000 (fun t => hasS s t) (fun t => D (c * 10 + t) + H (woS s t * 10 + t)) (n + 1)) ((n : Int) + 1) R) ?_ ?_ 0 (Nat.zero_le _)
    · exact b_Wa_fewestHome_k20 hS ⟨fun _ => h, fun e => absurd (by decide) e⟩
    · intro n hn ih
      rw [mnT] at ih
      have ek : ((n : Int) + 1) = ((n + 1 : Nat) : Int) := rfl
      refine b_Wa_fewestHome_k20 hS ⟨fun e => absurd e (by rw [ek, show w32 10 = 10 from rfl, w32_nat (by omega)]; omega), fun _ => s_Wa_hasStop (t := n + 1) hS rfl hs ek (by omega) (by omega) (fun q => br1 (s_Wa_lengthBy (t := n + 1) hS rfl hc rfl hs ek (by omega) q ?_)) (fun q => br0 ?_)⟩
      · have hw := (set_wo s hs (n + 1) (by omega) q).1
        have d := hD (c * 10 + (n + 1)) (by omega)
        have hh := hH (woS s (n + 1) * 10 + (n + 1)) (by omega)
        have mi := mnT_in (F := 100000) (P := fun t => hasS s t) (f := fun t => D (c * 10 + t) + H (woS s t * 10 + t)) (by decide) (n := n + 1) (fun j hj q => hb j (by omega) q)
        rw [d.1, hh.1, w32_b (by omega) (by omega), w32_b (by omega) (by omega)]
        rw [if_pos q] at ih; exact ih
      · rw [if_neg q] at ih; exact ih
theorem s_Wa_findHome {I : XI} {D : Nat → Int} {w : Int} {R : XI → Prop} (hS : xSh S) (hw : I c_land 1 = w) (hw2 : 0 ≤ w ∧ w < 1024) (hD : ∀ k, k < 100 → I c_walks_days k = D k ∧ 0 ≤ D k ∧ D k ≤ 100000)
    (h : ∀ I', (∀ s c, s < 512 → c < 10 → HM w D (I' c_walks_home) s c) → (∀ i, i < 5120 → 0 ≤ I' c_walks_home i ∧ I' c_walks_home i ≤ 100000) → (∀ a, a ≠ c_walks_home → I' a = I a) → R I') : Wa_findHome G S I R := by
  refine b_Wa_findHome hS ?_
  refine down (n := 512) (P := fun n => ∀ I1 : XI, (∀ s c, s < n → c < 10 → HM w D (I1 c_walks_home) s c) → (∀ i, i < n * 10 → 0 ≤ I1 c_walks_home i ∧ I1 c_walks_home i ≤ 100000) → (∀ a, a ≠ c_walks_home → I1 a = I a) → Wa_findHome_k2 G S I1 (n : Int) R) ?_ ?_ 0 (Nat.zero_le _) I (fun s c hs => absurd hs (by omega)) (fun i hi => absurd hi (by omega)) (fun _ _ => rfl)
  · intro I1 q1 q2 q3
    exact b_Wa_findHome_k2 hS ⟨fun _ => h I1 q1 q2 q3, fun e => absurd (by decide) e⟩
  · intro n hn ih I1 q1 q2 q3
    have loop : ∀ fl : Int, (fl = 1 ∧ allW w n) ∨ (fl = 0 ∧ ¬ allW w n) → Wa_findHome_k31 G S I1 (n : Int) fl 0 R := by
      intro fl hfl
      refine down (n := 10) (P := fun d => ∀ I2 : XI, (∀ s c, s < n → c < 10 → HM w D (I2 c_walks_home) s c) → (∀ c, c < d → HM w D (I2 c_walks_home) n c) → (∀ i, i < n * 10 + d → 0 ≤ I2 c_walks_home i ∧ I2 c_walks_home i ≤ 100000) → (∀ a, a ≠ c_walks_home → I2 a = I a) → Wa_findHome_k31 G S I2 (n : Int) fl (d : Int) R) ?_ ?_ 0 (Nat.zero_le _) I1 q1 (fun c hc => absurd hc (by omega)) q2 q3
      · intro I2 r1 r2 r3 r4
        refine b_Wa_findHome_k31 hS ⟨fun _ => ih I2 (fun s c hs hc => ?_) (fun i hi => r3 i (by omega)) r4, fun e => absurd (by decide) e⟩
        by_cases e : s = n
        · subst e; exact r2 c hc
        · exact r1 s c (by omega) hc
      · intro d hd ihd I2 r1 r2 r3 r4
        have e1 : ((n : Int) * 10 + (d : Int)) = ((n * 10 + d : Nat) : Int) := by omega
        have fin : ∀ z : Int, 0 ≤ z → z ≤ 100000 → HM w D (up I2 c_walks_home (n * 10 + d) z c_walks_home) n d → Wa_findHome_k31 G S (up I2 c_walks_home (n * 10 + d) z) (n : Int) fl ((d : Int) + 1) R := fun z z0 z1 hz => by
          have eold : ∀ i, i < n * 10 + d → up I2 c_walks_home (n * 10 + d) z c_walks_home i = I2 c_walks_home i := fun i hi => up_2 _ (by omega)
          refine ihd _ (fun s c hs hc => (r1 s c hs hc).ext (by omega) (fun i hi => eold i (by omega))) (fun c hc => ?_) (fun i hi => ?_) (fun a ha => (up_row ha).trans (r4 a ha))
          · by_cases e : c = d
            · subst e; exact hz
            · exact (r2 c (by omega)).ext hn (fun i hi => eold i (by omega))
          · by_cases e : i = n * 10 + d
            · rw [e, up_s]; exact ⟨z0, z1⟩
            · rw [up_2 _ e]; exact r3 i (by omega)
        refine b_Wa_findHome_k31 hS ⟨fun e => absurd e (by rw [show w32 10 = 10 from rfl, w32_nat (by omega)]; omega), fun _ => ?_⟩
        rw [e1, ix_nat (k := n * 10 + d) (by omega)]
        rcases hfl with ⟨rfl, ha⟩ | ⟨rfl, ha⟩
        · have hD2 : ∀ k, k < 100 → I2 c_walks_days k = D k ∧ 0 ≤ D k ∧ D k ≤ 100000 := fun k hk => by rw [r4 _ (by decide)]; exact hD k hk
          refine br1 (s_Wa_fewestHome (H := I2 c_walks_home) hS rfl hd rfl hn hD2 (fun i hi => ⟨rfl, r3 i (by omega)⟩) ⟨inb_b (by omega) (by omega) (by decide), fun I4 e4 => ?_⟩)
          subst e4
          have mi := mnT_in (F := 100000) (P := fun t => hasS n t) (f := fun t => D (d * 10 + t) + I2 c_walks_home (woS n t * 10 + t)) (by decide) (n := 10) (fun j hj q => by
            have := hD (d * 10 + j) (by omega)
            have hw' := (set_wo n hn j hj q).1
            have := r3 (woS n j * 10 + j) (by omega)
            omega)
          have hd0 := hD (d * 10) (by omega)
          refine fin _ (by split <;> omega) (by split <;> omega) ⟨fun _ => ?_, fun q => absurd ha q⟩
          rw [up_s]
          split
          · rfl
          · refine mnT_cong (fun t ht => ⟨Iff.rfl, fun p => ?_⟩)
            have := (set_wo n hn t ht p).1
            rw [up_2 _ (by omega)]
        · refine br0 ⟨inb_b (by omega) (by omega) (by decide), fun I4 e4 => ?_⟩
          subst e4
          exact fin _ (by decide) (by decide) ⟨fun q => absurd q ha, fun _ => up_s _ _ _ _⟩
    refine b_Wa_findHome_k2 hS ⟨fun e => absurd e (by rw [show w32 512 = 512 from rfl, w32_nat (by omega)]; omega), fun _ => ?_⟩
    rw [q3 c_land (by decide), hw, w32_r (iand_in _ _), wells_test hn hw2.1 hw2.2]
    exact ⟨fun c => loop 1 (Or.inl ⟨rfl, c⟩), fun c => loop 0 (Or.inr ⟨rfl, c⟩)⟩
end PHm
