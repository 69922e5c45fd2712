/-! ===== the reference: fewest days through sets; both sides tied ===== -/
def LM (D L : Nat → Int) (s c : Nat) : Prop := L (s * 10 + c) = if s = 2 ^ (c - 1) then D c else mnT 1000000 (fun t => hasS s t ∧ t ≠ c) (fun t => L (woS s c * 10 + t) + D (t * 10 + c)) 10
def LOk (D L : Nat → Int) : Prop := ∀ s c, s < 512 → c < 10 → hasS s c → LM D L s c
def LB (L : Nat → Int) : Prop := ∀ s c, 1 ≤ s → s < 512 → 1 ≤ c → c < 10 → 0 ≤ L (s * 10 + c) ∧ L (s * 10 + c) ≤ 1000000
theorem hasS_pos {s c : Nat} (h : hasS s c) : 1 ≤ s := by
  apply Nat.pos_of_ne_zero
  intro e
  subst e
  have := h.2
  simp at this
theorem LM.ext {D L L' : Nat → Int} {s c : Nat} (hs : s < 512) (hc : c < 10) (hh : hasS s c) (h : LM D L s c) (e : ∀ i, i ≤ s * 10 + c → L' i = L i) : LM D L' s c := by
  unfold LM at h ⊢
  rw [e _ (Nat.le_refl _), h]
  split
  · rfl
  · have := (set_wo s hs c hc hh).1
    refine mnT_cong (fun t ht => ⟨Iff.rfl, fun p => ?_⟩)
    rw [e _ (by omega)]
section PLe
variable {G : XG} {S : XS}
theorem s_R_cheaper {I : XI} {a b : Int} {R : Int → XI → Prop} (hS : xSh S) (ha : InR a) (hb : InR b) (h : R (if b < a then b else a) I) : R_cheaper G S I a b R := by
  refine b_R_cheaper hS ?_
  rw [w32_r ha, w32_r hb]
  refine ⟨fun e => ?_, fun e => ?_⟩
  · by_cases c : b < a
    · rw [if_pos c] at h; exact h
    · rw [if_neg c] at h
      rw [show b = a by omega]; exact h
  · rw [if_neg (by omega)] at h; exact h
theorem s_R_findLeast {I : XI} {D : Nat → Int} {R : XI → Prop} (hS : xSh S) (hD : ∀ k, k < 100 → I r_far k = D k ∧ 0 ≤ D k ∧ D k ≤ 1000000)
    (h : ∀ I', LOk D (I' r_least) → LB (I' r_least) → (∀ a, a ≠ r_least → I' a = I a) → R I') : R_findLeast G S I R := by
  refine b_R_findLeast hS ?_
  refine down (n := 512) (P := fun n => 1 ≤ n → ∀ I1 : XI, (∀ s c, s < n → c < 10 → hasS s c → LM D (I1 r_least) s c) → (∀ s c, 1 ≤ s → s < n → 1 ≤ c → c < 10 → 0 ≤ I1 r_least (s * 10 + c) ∧ I1 r_least (s * 10 + c) ≤ 1000000) → (∀ a, a ≠ r_least → I1 a = I a) → R_findLeast_k2 G S I1 (n : Int) R) ?_ ?_ 1 (by decide) (Nat.le_refl _) I (fun s c hs _ hh => by have := hasS_pos hh; omega) (fun s c h1 h2 => by omega) (fun _ _ => rfl)
  · intro _ I1 q1 q2 q3
    exact b_R_findLeast_k2 hS ⟨fun _ => h I1 (fun s c hs hc hh => q1 s c hs hc hh) (fun s c h1 h2 h3 h4 => q2 s c h1 h2 h3 h4) q3, fun e => absurd (by decide) e⟩
  · intro n hn ih n1 I1 q1 q2 q3
    refine b_R_findLeast_k2 hS ⟨fun e => absurd e (by rw [show w32 512 = 512 from rfl, w32_nat (by omega)]; omega), fun _ => ?_⟩
    refine down (n := 10) (P := fun c => 1 ≤ c → ∀ I2 : XI, (∀ s d, s < n → d < 10 → hasS s d → LM D (I2 r_least) s d) → (∀ d, d < c → hasS n d → LM D (I2 r_least) n d) → (∀ s d, 1 ≤ s → s < n → 1 ≤ d → d < 10 → 0 ≤ I2 r_least (s * 10 + d) ∧ I2 r_least (s * 10 + d) ≤ 1000000) → (∀ d, 1 ≤ d → d < c → 0 ≤ I2 r_least (n * 10 + d) ∧ I2 r_least (n * 10 + d) ≤ 1000000) → (∀ a, a ≠ r_least → I2 a = I a) → R_findLeast_k11 G S I2 (n : Int) (c : Int) R) ?_ ?_ 1 (by decide) (Nat.le_refl _) I1 q1 (fun d hd hh => by have := hh.1; omega) q2 (fun d h1 h2 => by omega) q3
    · intro _ I2 r1 r2 r3 r4 r5
      refine b_R_findLeast_k11 hS ⟨fun _ => ih (by omega) I2 (fun s d hs hd hh => ?_) (fun s d h1 h2 h3 h4 => ?_) r5, fun e => absurd (by decide) e⟩
      · by_cases e : s = n
        · subst e; exact r2 d hd hh
        · exact r1 s d (by omega) hd hh
      · by_cases e : s = n
        · subst e; exact r4 d h3 h4
        · exact r3 s d h1 (by omega) h3 h4
    · intro c hc ihc c1 I2 r1 r2 r3 r4 r5
      have ex : ((10 : Int) * (n : Int) + (c : Int)) = ((n * 10 + c : Nat) : Int) := by omega
      have hp : 2 ^ (c - 1) ≤ 256 := Nat.pow_le_pow_right (n := 2) (by decide) (show c - 1 ≤ 8 by omega)
      -- the entry settled: on to the next CELL
      have nxt : ∀ I3 : XI, (∀ i, i ≠ n * 10 + c → I3 r_least i = I2 r_least i) → (0 ≤ I3 r_least (n * 10 + c) ∧ I3 r_least (n * 10 + c) ≤ 1000000) → (hasS n c → LM D (I3 r_least) n c) → (∀ a, a ≠ r_least → I3 a = I a) → R_findLeast_k11 G S I3 (n : Int) ((c : Int) + 1) R := by
        intro I3 t1 t2 t3 t4
        refine ihc (by omega) I3 (fun s d hs hd hh => (r1 s d hs hd hh).ext (by omega) hd hh (fun i hi => t1 i (by omega))) (fun d hd hh => ?_) (fun s d h1 h2 h3 h4 => by rw [t1 _ (by omega)]; exact r3 s d h1 h2 h3 h4) (fun d h1 h2 => ?_) t4
        · by_cases e : d = c
          · subst e; exact t3 hh
          · exact (r2 d (by omega) hh).ext hn (by omega) hh (fun i hi => t1 i (by omega))
        · by_cases e : d = c
          · subst e; exact t2
          · rw [t1 _ (by omega)]; exact r4 d h1 (by omega)
      refine b_R_findLeast_k11 hS ⟨fun e => absurd e (by rw [show w32 10 = 10 from rfl, w32_nat (by omega)]; omega), fun _ => ?_⟩
      rw [ex, set_bit c hc c1, w32_nat (k := n) (by omega), w32_nat (k := 2 ^ (c - 1)) (by omega), ix_nat (k := n * 10 + c) (by omega), ix_nat (k := c) (by omega), r5 r_far (by decide), (hD c (by omega)).1]
      have hd0 := (hD c (by omega)).2
      refine ⟨fun e => ⟨inb_b (by omega) (by omega) (by decide), inb_b (by omega) (by omega) (by decide), fun I3 e3 => ?_⟩, fun e => ⟨inb_b (by omega) (by omega) (by decide), fun I3 e3 => ?_⟩⟩
      · subst e3
        have en : n = 2 ^ (c - 1) := by omega
        have go := nxt (up I2 r_least (n * 10 + c) (D c)) (fun i hi => up_2 _ hi) (by rw [up_s]; exact hd0) (fun _ => by unfold LM; rw [up_s, if_pos en]) (fun a ha => (up_row ha).trans (r5 a ha))
        refine b_R_findLeast_k58 hS ⟨fun e9 => absurd e9 (by decide), fun _ => ⟨fun _ => go, fun _ => ⟨fun _ => go, fun e9 => absurd ?_ e9⟩⟩⟩
        rw [← en]
      · subst e3
        have en : n ≠ 2 ^ (c - 1) := by omega
        have hsa := set_and n hn c hc c1
        rw [set_bit c hc c1] at hsa
        by_cases hh : hasS n c
        · have hwo := set_wo n hn c hc hh
          have hx := set_xor n hn c hc hh
          rw [set_bit c hc c1] at hx
          have hwp : 1 ≤ woS n c := by
            apply Nat.pos_of_ne_zero
            intro z
            exact en ((set_one n hn c hc hh).mp z)
          have fb : ∀ j, j < 10 → (hasS n j ∧ j ≠ c) → 0 ≤ I2 r_least (woS n c * 10 + j) + D (j * 10 + c) := fun j hj q => by
            have a1 := r3 (woS n c) j hwp hwo.1 q.1.1 hj
            have a2 := hD (j * 10 + c) (by omega)
            omega
          refine down (n := 10) (P := fun d => 1 ≤ d → ∀ I3 : XI, (∀ i, i ≠ n * 10 + c → I3 r_least i = I2 r_least i) → I3 r_least (n * 10 + c) = mnT 1000000 (fun t => hasS n t ∧ t ≠ c) (fun t => I2 r_least (woS n c * 10 + t) + D (t * 10 + c)) d → (∀ a, a ≠ r_least → I3 a = I a) → R_findLeast_k58 G S I3 (n : Int) (c : Int) ((n * 10 + c : Nat) : Int) ((2 ^ (c - 1) : Nat) : Int) (d : Int) R) ?_ ?_ 1 (by decide) (Nat.le_refl _) (up I2 r_least (n * 10 + c) 1000000) (fun i hi => up_2 _ hi) (up_s _ _ _ _) (fun a ha => (up_row ha).trans (r5 a ha))
          · intro _ I3 t1 t2 t3
            refine b_R_findLeast_k58 hS ⟨fun _ => nxt I3 t1 (by rw [t2]; exact mnT_in (by decide) (fun j hj q => fb j hj q)) (fun _ => ?_) t3, fun e9 => absurd (by decide) e9⟩
            unfold LM
            rw [t2, if_neg en]
            exact mnT_cong (fun t ht => ⟨Iff.rfl, fun _ => by rw [t1 _ (by omega)]⟩)
          · intro d hd ihd d1 I3 t1 t2 t3
            have mi := mnT_in (F := 1000000) (P := fun t => hasS n t ∧ t ≠ c) (f := fun t => I2 r_least (woS n c * 10 + t) + D (t * 10 + c)) (by decide) (n := d) (fun j hj q => fb j (by omega) q)
            have skip : ¬ (hasS n d ∧ d ≠ c) → R_findLeast_k58 G S I3 (n : Int) (c : Int) ((n * 10 + c : Nat) : Int) ((2 ^ (c - 1) : Nat) : Int) ((d : Int) + 1) R := fun q => ihd (by omega) I3 t1 (by rw [t2, mnT, if_neg q]) t3
            refine b_R_findLeast_k58 hS ⟨fun e9 => absurd e9 (by rw [show w32 10 = 10 from rfl, w32_nat (by omega)]; omega), fun _ => ⟨fun e9 => absurd hh (hsa.mp (by rw [w32_r (iand_in _ _)] at e9; exact e9)), fun _ => ⟨fun e9 => absurd e9 (by rw [w32_nat (by omega), w32_nat (by omega)]; omega), fun _ => ?_⟩⟩⟩
            rw [w32_nat (k := d) (by omega), w32_nat (k := c) (by omega), set_has n hn d hd d1]
            refine ⟨fun e9 => skip (fun q => q.2 (by omega)), fun e9 => ?_⟩
            by_cases hd2 : hasS n d
            · rw [if_pos hd2]
              have e1 : ((10 : Int) * (woS n c : Int) + (d : Int)) = ((woS n c * 10 + d : Nat) : Int) := by omega
              have e2 : ((10 : Int) * (d : Int) + (c : Int)) = ((d * 10 + c : Nat) : Int) := by omega
              have lb := r3 (woS n c) d hwp hwo.1 d1 hd
              have db := hD (d * 10 + c) (by omega)
              rw [hx, e1, e2, ix_nat (k := n * 10 + c) (by omega), ix_nat (k := woS n c * 10 + d) (by omega), ix_nat (k := d * 10 + c) (by omega), t1 (woS n c * 10 + d) (by omega), t3 r_far (by decide), db.1, t2]
              refine br1 ⟨inb_b (by omega) (by omega) (by decide), inb_b (by omega) (by omega) (by decide), inb_b (by omega) (by omega) (by decide), s_R_cheaper hS ⟨by omega, by omega⟩ ⟨by omega, by omega⟩ ⟨inb_b (by omega) (by omega) (by decide), fun I5 e5 => ?_⟩⟩
              subst e5
              refine ihd (by omega) _ (fun i hi => (up_2 _ hi).trans (t1 i hi)) ?_ (fun a ha => (up_row ha).trans (t3 a ha))
              rw [up_s, mnT, if_pos (show hasS n d ∧ d ≠ c from ⟨hd2, fun z => e9 (by rw [z])⟩)]
            · rw [if_neg hd2]
              exact br0 (skip (fun q => hd2 q.1))
        · have go := nxt (up I2 r_least (n * 10 + c) 1000000) (fun i hi => up_2 _ hi) (by rw [up_s]; exact ⟨by decide, by decide⟩) (fun q => absurd q hh) (fun a ha => (up_row ha).trans (r5 a ha))
          refine b_R_findLeast_k58 hS ⟨fun e9 => absurd e9 (by decide), fun _ => ⟨fun _ => go, fun e9 => absurd ?_ e9⟩⟩
          rw [hsa.mpr hh]; rfl
abbrev dR (D L : Nat → Int) (s : Nat) : Int := mnT (if s = 0 then 0 else 1000000) (fun t => hasS s t) (fun t => L (s * 10 + t) + D t) 10
theorem s_R_daysOf {I : XI} {D L : Nat → Int} {s : Nat} {sv : Int} {R : Int → XI → Prop} (hS : xSh S) (hsv : sv = (s : Int)) (hs : s < 512) (hD : ∀ k, k < 100 → I r_far k = D k ∧ 0 ≤ D k ∧ D k ≤ 1000000) (hL : I r_least = L) (hB : LB L) (h : R (dR D L s) I) : R_daysOf G S I sv R := by
  subst hsv
  have key : ∀ F : Int, F = (if s = 0 then 0 else 1000000) → R_daysOf_k14 G S I (s : Int) F 1 R := by
    intro F hF
    have hF0 : 0 ≤ F ∧ F ≤ 1000000 := by rw [hF]; split <;> decide
    refine down (n := 10) (P := fun d => 1 ≤ d → R_daysOf_k14 G S I (s : Int) (mnT F (fun t => hasS s t) (fun t => L (s * 10 + t) + D t) d) (d : Int) R) ?_ ?_ 1 (by decide) (Nat.le_refl _)
    · intro _
      subst hF
      exact b_R_daysOf_k14 hS ⟨fun _ => h, fun e => absurd (by decide) e⟩
    · intro d hd ih d1
      have ih := ih (by omega)
      rw [mnT] at ih
      have mi := mnT_in (F := F) (P := fun t => hasS s t) (f := fun t => L (s * 10 + t) + D t) hF0.1 (n := d) (fun j hj q => by
        have a1 := hB s j (hasS_pos q) hs q.1 (by omega)
        have a2 := hD j (by omega)
        omega)
      have ex : ((10 : Int) * (s : Int) + (d : Int)) = ((s * 10 + d : Nat) : Int) := by omega
      refine b_R_daysOf_k14 hS ⟨fun e => absurd e (by rw [show w32 10 = 10 from rfl, w32_nat (by omega)]; omega), fun _ => ?_⟩
      rw [set_has s hs d hd d1, ex, ix_nat (k := s * 10 + d) (by omega), ix_nat (k := d) (by omega), hL, (hD d (by omega)).1]
      by_cases c : hasS s d
      · rw [if_pos c] at ih ⊢
        have a1 := hB s d (hasS_pos c) hs d1 hd
        have a2 := hD d (by omega)
        exact br1 ⟨inb_b (by omega) (by omega) (by decide), inb_b (by omega) (by omega) (by decide), s_R_cheaper hS ⟨by omega, by omega⟩ ⟨by omega, by omega⟩ ih⟩
      · rw [if_neg c] at ih ⊢
        exact br0 ih
  refine b_R_daysOf hS ?_
  rw [w32_nat (k := s) (by omega)]
  exact ⟨fun e => key 0 (by rw [if_pos (by omega)]), fun e => key 1000000 (by rw [if_neg (by omega)])⟩
end PLe
/-- fewest days from CELL x through s and to the SHED, by the reference's rows -/
def hR (D L : Nat → Int) (s x : Nat) : Int := if s = 0 then D (x * 10) else mnT 1000000 (fun t => hasS s t) (fun t => D (x * 10 + t) + L (s * 10 + t)) 10
theorem L_hR {D L : Nat → Int} (hf : flOk 1000000 D) (hL : LOk D L) {s c : Nat} (hs : s < 512) (hc : c < 10) (hh : hasS s c) : L (s * 10 + c) = hR D L (woS s c) c := by
  have h := hL s c hs hc hh
  unfold LM at h
  unfold hR
  rw [h]
  have h1 := set_one s hs c hc hh
  have hw := (set_wo s hs c hc hh).2
  by_cases e : s = 2 ^ (c - 1)
  · rw [if_pos e, if_pos (h1.mpr e)]
    have := hf.2.2 0 c (by decide) hc
    rw [show 0 * 10 + c = c by omega] at this
    exact this
  · rw [if_neg e, if_neg (fun z => e (h1.mp z))]
    refine mnT_cong (fun t ht => ⟨(hw t ht).symm, fun q => ?_⟩)
    rw [hf.2.2 t c ht hc, Int.add_comm]
theorem hR_in {D L : Nat → Int} (hf : flOk 1000000 D) (hB : LB L) {s x : Nat} (hs : s < 512) (hx : x < 10) : 0 ≤ hR D L s x ∧ hR D L s x ≤ 1000000 := by
  unfold hR
  split
  · exact hf.1 _ (by omega)
  · exact mnT_in (by decide) (fun j hj q => by
      have := hf.1 (x * 10 + j) (by omega)
      have := hB s j (hasS_pos q) hs q.1 hj
      omega)
theorem dR_hR {D L : Nat → Int} (hf : flOk 1000000 D) (s : Nat) : dR D L s = hR D L s 0 := by
  unfold dR hR
  by_cases e : s = 0
  · subst e
    have h0 := hf.2.1 0 (by decide)
    rw [if_pos rfl, if_pos rfl, show (0 : Nat) * 10 = 0 * 10 + 0 from rfl, h0]
    have : ∀ n, mnT 0 (fun t => hasS 0 t) (fun t => L (0 * 10 + t) + D t) n = 0 := by
      intro n
      induction n with
      | zero => rfl
      | succ n ih => rw [mnT, if_neg (fun q => by have := hasS_pos q; omega), ih]
    exact this 10
  · rw [if_neg e, if_neg e]
    exact mnT_cong (fun t ht => ⟨Iff.rfl, fun _ => by rw [show 0 * 10 + t = t by omega, Int.add_comm]⟩)
theorem allW_wo {w : Int} {s t : Nat} (hs : s < 512) (ht : t < 10) (hh : hasS s t) (h : allW w s) : allW w (woS s t) := fun u hu q => h u hu (((set_wo s hs t ht hh).2 u hu).mp q).1
/-- the class' days are the reference's, cut at 100000 -/
theorem home_sat {w : Int} {D E H L : Nat → Int} (hf : flOk 1000000 D) (hE : ∀ k, k < 100 → E k = sat (D k)) (hH : ∀ s c, s < 512 → c < 10 → HM w E H s c) (hL : LOk D L) (hB : LB L) : ∀ s, s < 512 → allW w s → ∀ x, x < 10 → H (s * 10 + x) = sat (hR D L s x) := by
  intro s
  induction s using Nat.strongRecOn with
  | ind s ih =>
    intro hs ha x hx
    rw [(hH s x hs hx).1 ha]
    unfold hR
    by_cases e : s = 0
    · rw [if_pos e, if_pos e, hE _ (by omega)]
    · rw [if_neg e, if_neg e]
      rw [← mnT_sat (fun j hj q => ⟨(hf.1 (x * 10 + j) (by omega)).1, (hB s j (hasS_pos q) hs q.1 hj).1⟩)]
      refine mnT_cong (fun t ht => ⟨Iff.rfl, fun q => ?_⟩)
      have hlt := (set_wo s hs t ht q).1
      rw [hE _ (by omega), ih (woS s t) hlt (by omega) (allW_wo hs ht q ha) t ht, L_hR hf hL hs ht q]
