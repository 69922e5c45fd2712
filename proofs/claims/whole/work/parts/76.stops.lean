/-! ===== ROUND and STOPS ===== -/
/-- the first t from t on, at most f further, of which P holds (else the last) -/
def lsT (P : Nat → Prop) [DecidablePred P] : Nat → Nat → Nat
  | 0, t => t
  | f + 1, t => if P t then t else lsT P f (t + 1)
theorem lsT_ge {P : Nat → Prop} [DecidablePred P] : ∀ f t, t ≤ lsT P f t ∧ lsT P f t ≤ t + f
  | 0, t => ⟨Nat.le_refl _, Nat.le_refl _⟩
  | f + 1, t => by
    rw [lsT]; split
    · omega
    · have := lsT_ge (P := P) f (t + 1); omega
theorem lsT_lo {P : Nat → Prop} [DecidablePred P] : ∀ f t u, t ≤ u → u < lsT P f t → ¬ P u
  | 0, t, u, h1, h2 => by have h2 : u < t := h2; omega
  | f + 1, t, u, h1, h2 => by
    rw [lsT] at h2
    by_cases c : P t
    · rw [if_pos c] at h2; omega
    · rw [if_neg c] at h2
      by_cases e : u = t
      · subst e; exact c
      · exact lsT_lo f (t + 1) u (by omega) h2
theorem lsT_at {P : Nat → Prop} [DecidablePred P] : ∀ f t u, t ≤ u → u ≤ t + f → P u → P (lsT P f t)
  | 0, t, u, h1, h2, p => by rw [lsT, show t = u by omega]; exact p
  | f + 1, t, u, h1, h2, p => by
    rw [lsT]
    by_cases c : P t
    · rw [if_pos c]; exact c
    · rw [if_neg c]
      by_cases e : u = t
      · subst e; exact absurd p c
      · exact lsT_at f (t + 1) u (by omega) (by omega) p
abbrev stP (D L : Nat → Int) (s x : Nat) : Nat → Prop := fun t => hasS s t ∧ D (x * 10 + t) + L (s * 10 + t) = hR D L s x
/-- the STOPS, one after the other -/
def stF (D L : Nat → Int) : Nat → Nat → Nat → Int → Int → Int
  | 0, _, _, _, _ => -1
  | f + 1, s, x, k, i => if s = 0 then -1 else if k = i then (lsT (stP D L s x) 8 1 : Int) else stF D L f (woS s (lsT (stP D L s x) 8 1)) (lsT (stP D L s x) 8 1) (k + 1) i
theorem st_ok {D L : Nat → Int} (hf : flOk 1000000 D) (hL : LOk D L) (hB : LB L) {s x : Nat} (hs : s < 512) (hx : x < 10) (h0 : s ≠ 0) (h : hR D L s x ≤ 60) : stP D L s x (lsT (stP D L s x) 8 1) ∧ (1 ≤ lsT (stP D L s x) 8 1 ∧ lsT (stP D L s x) 8 1 < 10) ∧ hR D L (woS s (lsT (stP D L s x) 8 1)) (lsT (stP D L s x) 8 1) = hR D L s x - D (x * 10 + lsT (stP D L s x) 8 1) ∧ hR D L (woS s (lsT (stP D L s x) 8 1)) (lsT (stP D L s x) 8 1) ≤ 60 := by
  have hge := lsT_ge (P := stP D L s x) 8 1
  have hex : ∃ t, 1 ≤ t ∧ t ≤ 1 + 8 ∧ stP D L s x t := by
    have hat := mnT_at (F := 1000000) (P := fun t => hasS s t) (f := fun t => D (x * 10 + t) + L (s * 10 + t)) 10
    have eh : hR D L s x = mnT 1000000 (fun t => hasS s t) (fun t => D (x * 10 + t) + L (s * 10 + t)) 10 := by unfold hR; rw [if_neg h0]
    rw [← eh] at hat
    rcases hat with e | ⟨j, j1, j2, j3⟩
    · omega
    · exact ⟨j, j2.1, by omega, j2, j3⟩
  obtain ⟨t, t1, t2, t3⟩ := hex
  have hp := lsT_at (P := stP D L s x) 8 1 t t1 t2 t3
  generalize lsT (stP D L s x) 8 1 = c at hge hp ⊢
  have hc : c < 10 := by omega
  have e := L_hR hf hL hs hc hp.1
  have d := hf.1 (x * 10 + c) (by omega)
  have p2 := hp.2
  exact ⟨hp, by omega, by omega, by omega⟩
theorem pc_step {s t : Nat} (hs : s < 512) (ht : t < 10) (hh : hasS s t) : mtS (fun _ => 1) 0 (woS s t) + 1 = mtS (fun _ => 1) 0 s := (mt_step (M := fun _ => 1) hs ht hh).symm
theorem pc_in (s : Nat) : 0 ≤ mtS (fun _ => 1) 0 s ∧ mtS (fun _ => 1) 0 s ≤ 9 := by
  have e : mtS (fun _ => 1) 0 s = 0 + (sumA (fun t => if hasS s t then (1 : Int) else 0) 10) := rfl
  have z : ∀ t, 0 ≤ (if hasS s t then (1 : Int) else 0) ∧ (if hasS s t then (1 : Int) else 0) ≤ 1 := fun t => by split <;> decide
  have z0 : (if hasS s 0 then (1 : Int) else 0) = 0 := if_neg (fun q => by have := q.1; omega)
  rw [e]
  simp only [sumA]
  have := z 1; have := z 2; have := z 3; have := z 4; have := z 5; have := z 6; have := z 7; have := z 8; have := z 9
  omega
theorem pc_pos {s : Nat} (hs : s < 512) (h : s ≠ 0) : 1 ≤ mtS (fun _ => 1) 0 s := by
  obtain ⟨t, ht, hh⟩ := set_ex s hs h
  have := pc_step hs ht hh
  have := pc_in (woS s t)
  omega
theorem sat_same {u v z : Int} (hu : 0 ≤ u) (hv : 0 ≤ v) (h0 : 0 ≤ z) (h6 : z ≤ 60) : sat u + sat v = sat z ↔ u + v = z := by
  unfold sat
  constructor <;> intro e9
  · revert e9
    repeat' split
    all_goals omega
  · repeat' split
    all_goals omega
section PSt
variable {G : XG} {S : XS} {I : XI}
/-- the class' STOPS -/
theorem s_Wa_stopAt_k {w i : Int} {D L : Nat → Int} {R : Int → XI → Prop} (hS : xSh S) (hi : InR i) (hf : flOk 1000000 D) (hL : LOk D L) (hB : LB L) (hE : ∀ k, k < 100 → I c_walks_days k = sat (D k)) (hH : ∀ s c, s < 512 → c < 10 → HM w (I c_walks_days) (I c_walks_home) s c) : ∀ m s x : Nat, ∀ k : Nat, k + m = 10 → s < 512 → x < 10 → allW w s → (s ≠ 0 → hR D L s x ≤ 60) → R (stF D L m s x k i) I → Wa_stopAt_k10 G S I i (x : Int) (s : Int) (k : Int) R
  | 0, s, x, k, hk, hs, hx, ha, hh, h => by
    refine b_Wa_stopAt_k10 hS ⟨fun _ => h, fun e => absurd ?_ e⟩
    rw [show k = 10 by omega]; decide
  | m + 1, s, x, k, hk, hs, hx, ha, hh, h => by
    have hom := home_sat (w := w) (E := I c_walks_days) (H := I c_walks_home) hf hE hH hL hB
    rw [stF] at h
    refine b_Wa_stopAt_k10 hS ⟨fun e => absurd e (by rw [show w32 10 = 10 from rfl, w32_nat (by omega)]; omega), fun _ => ?_⟩
    rw [w32_nat (k := s) (by omega)]
    refine ⟨fun e => by rw [if_pos (by omega)] at h; exact h, fun e => ?_⟩
    have s0 : s ≠ 0 := by omega
    rw [if_neg s0] at h
    have h60 := hh s0
    obtain ⟨p1, p2, p3, p4⟩ := st_ok hf hL hB hs hx s0 h60
    have hlo := lsT_lo (P := stP D L s x) 8 1
    have hn0 := (hR_in hf hB hs hx).1
    -- a stop is right on the class' side just where it is on the reference's
    have same : ∀ t, t < 10 → hasS s t → (I c_walks_days (x * 10 + t) + I c_walks_home (woS s t * 10 + t) = I c_walks_home (s * 10 + x) ↔ D (x * 10 + t) + L (s * 10 + t) = hR D L s x) := fun t ht q => by
      have hlt := (set_wo s hs t ht q).1
      rw [hE _ (by omega), hom (woS s t) (by omega) (allW_wo hs ht q ha) t ht, hom s hs ha x hx, ← L_hR hf hL hs ht q]
      have a1 := (hf.1 (x * 10 + t) (by omega)).1
      have a2 := (hB s t (hasS_pos q) hs q.1 ht).1
      exact sat_same a1 a2 hn0 h60
    have bnd : ∀ t, t < 10 → hasS s t → InR (I c_walks_days (x * 10 + t) + I c_walks_home (woS s t * 10 + t)) := fun t ht q => by
      have hlt := (set_wo s hs t ht q).1
      rw [hE _ (by omega), hom (woS s t) (by omega) (allW_wo hs ht q ha) t ht]
      have a1 := sat_in (hf.1 (x * 10 + t) (by omega)).1
      have a2 := sat_in (hR_in hf hB (s := woS s t) (x := t) (by omega) ht).1
      exact ⟨by omega, by omega⟩
    have bnd2 : InR (I c_walks_home (s * 10 + x)) := by
      rw [hom s hs ha x hx]
      have a2 := sat_in hn0
      exact ⟨by omega, by omega⟩
    generalize hc : lsT (stP D L s x) 8 1 = c at p1 p2 p3 p4 h hlo
    have hc10 : c < 10 := p2.2
    have find : ∀ T : Int → XI → Prop, T (c : Int) I → Wa_leastStop G S I (x : Int) (s : Int) T := fun T hT => by
      refine b_Wa_leastStop hS ?_
      refine down (n := c) (P := fun t => 1 ≤ t → Wa_leastStop_k2 G S I (x : Int) (s : Int) (t : Int) T) ?_ ?_ 1 p2.1 (Nat.le_refl _)
      · intro _
        refine b_Wa_leastStop_k2 hS ⟨fun _ => hT, fun _ => s_Wa_hasStop hS rfl hs rfl hc10 p2.1 (fun q => br1 (s_Wa_lengthBy hS rfl hx rfl hs rfl hc10 q ⟨inb_b (by omega) (by omega) (by decide), ?_⟩)) (fun q => absurd p1.1 q)⟩
        rw [show ((s : Int) * 10 + (x : Int)) = ((s * 10 + x : Nat) : Int) by omega, ix_nat (by omega), w32_r (bnd c hc10 q), w32_r bnd2]
        exact ⟨fun _ => hT, fun z => absurd ((same c hc10 q).mpr p1.2) z⟩
      · intro t ht iht t1
        have hnt := hlo t t1 ht
        refine b_Wa_leastStop_k2 hS ⟨fun e => absurd e (by rw [show w32 9 = 9 from rfl, w32_nat (by omega)]; omega), fun _ => s_Wa_hasStop hS rfl hs rfl (by omega) t1 (fun q => br1 (s_Wa_lengthBy hS rfl hx rfl hs rfl (by omega) q ⟨inb_b (by omega) (by omega) (by decide), ?_⟩)) (fun q => br0 (iht (by omega)))⟩
        rw [show ((s : Int) * 10 + (x : Int)) = ((s * 10 + x : Nat) : Int) by omega, ix_nat (by omega), w32_r (bnd t (by omega) q), w32_r bnd2]
        exact ⟨fun z => absurd ⟨q, (same t (by omega) q).mp z⟩ hnt, fun _ => iht (by omega)⟩
    have hlt := (set_wo s hs c hc10 p1.1).1
    refine find _ ?_
    rw [w32_nat (k := k) (by omega), w32_r hi]
    refine ⟨fun z => by rw [if_pos z] at h; exact h, fun z => s_Wa_without hS rfl hs rfl hc10 p1.1 ?_⟩
    rw [if_neg z] at h
    exact s_Wa_stopAt_k hS hi hf hL hB hE hH m (woS s c) c (k + 1) (by omega) (by omega) hc10 (allW_wo hs hc10 p1.1 ha) (fun _ => p4) h
/-- the reference's STOPS -/
theorem s_R_stop_k {i bd : Int} {D L : Nat → Int} {R : Int → XI → Prop} (hS : xSh S) (hi : InR i) (hf : flOk 1000000 D) (hL : LOk D L) (hB : LB L) (hD : ∀ k, k < 100 → I r_far k = D k) (hLr : I r_least = L) (h81 : I r_obj 81 = bd) (hbd : 0 ≤ bd ∧ bd ≤ 60) : ∀ m s x : Nat, ∀ k : Nat, ∀ gone : Int, k + m = 10 → (k : Int) + mtS (fun _ => 1) 0 s ≤ 9 → s < 512 → x < 10 → 0 ≤ gone → (s ≠ 0 → bd = gone + hR D L s x) → R (stF D L m s x k i) I → R_stop_k35 G S I i (s : Int) (x : Int) gone (k : Int) R
  | 0, s, x, k, gone, hk, hp, hs, hx, hg, hb, h => by
    have s0 : s = 0 := by
      apply Decidable.byContradiction
      intro z
      have := pc_pos hs z
      omega
    subst s0
    exact b_R_stop_k35 hS ⟨fun _ => h, fun e => absurd rfl e⟩
  | m + 1, s, x, k, gone, hk, hp, hs, hx, hg, hb, h => by
    rw [stF] at h
    refine b_R_stop_k35 hS ?_
    rw [w32_nat (k := s) (by omega)]
    refine ⟨fun e => by rw [if_pos (by omega)] at h; exact h, fun e => ?_⟩
    have s0 : s ≠ 0 := by omega
    rw [if_neg s0] at h
    have hb := hb s0
    have hn0 := (hR_in hf hB hs hx).1
    obtain ⟨p1, p2, p3, p4⟩ := st_ok hf hL hB hs hx s0 (by omega)
    have hlo := lsT_lo (P := stP D L s x) 8 1
    generalize hc : lsT (stP D L s x) 8 1 = c at p1 p2 p3 p4 h hlo
    have hc10 : c < 10 := p2.2
    have hlt := (set_wo s hs c hc10 p1.1).1
    have look : ∀ t, 1 ≤ t → t < 10 → hasS s t → (gone + I r_far (ix (10 * (x : Int) + (t : Int))) + I r_least (ix (10 * (s : Int) + (t : Int))) = gone + D (x * 10 + t) + L (s * 10 + t)) ∧ InR (gone + D (x * 10 + t) + L (s * 10 + t)) ∧ inb (10 * (x : Int) + (t : Int)) 100 ∧ inb (10 * (s : Int) + (t : Int)) 5120 := fun t t1 t2 q => by
      have a1 := hf.1 (x * 10 + t) (by omega)
      have a2 := hB s t (hasS_pos q) hs t1 t2
      refine ⟨?_, ⟨by omega, by omega⟩, inb_b (by omega) (by omega) (by decide), inb_b (by omega) (by omega) (by decide)⟩
      rw [show (10 * (x : Int) + (t : Int)) = ((x * 10 + t : Nat) : Int) by omega, show (10 * (s : Int) + (t : Int)) = ((s * 10 + t : Nat) : Int) by omega, ix_nat (by omega), ix_nat (by omega), hD _ (by omega), hLr]
    refine down (n := c) (P := fun t => 1 ≤ t → R_stop_k43 G S I i (s : Int) (x : Int) gone (k : Int) (t : Int) R) ?_ ?_ 1 p2.1 (Nat.le_refl _)
    · intro c1
      obtain ⟨l1, l2, l3, l4⟩ := look c c1 hc10 p1.1
      have hx2 := set_xor s hs c hc10 p1.1
      refine b_R_stop_k43 hS ?_
      rw [set_has s hs c hc10 c1, if_pos p1.1, l1, w32_r l2, h81, w32_b (z := bd) (by omega) (by omega), w32_nat (k := k) (by omega), w32_r hi, hx2]
      have ec := p1.2
      refine br1 ⟨l3, l4, fun _ => ⟨fun z => by rw [if_pos z] at h; exact h, fun z => ⟨l3, ?_⟩⟩, fun z => absurd (by omega) z⟩
      rw [if_neg z] at h
      have a1 := hf.1 (x * 10 + c) (by omega)
      have pcs := pc_step hs hc10 p1.1
      rw [show (10 * (x : Int) + (c : Int)) = ((x * 10 + c : Nat) : Int) by omega, ix_nat (by omega), hD _ (by omega)]
      exact s_R_stop_k hS hi hf hL hB hD hLr h81 hbd m (woS s c) c (k + 1) (gone + D (x * 10 + c)) (by omega) (by omega) (by omega) hc10 (by omega) (fun _ => by omega) h
    · intro t ht iht t1
      have hnt := hlo t t1 ht
      refine b_R_stop_k43 hS ?_
      rw [set_has s hs t (by omega) t1]
      by_cases q : hasS s t
      · obtain ⟨l1, l2, l3, l4⟩ := look t t1 (by omega) q
        rw [if_pos q, l1, w32_r l2, h81, w32_b (z := bd) (by omega) (by omega)]
        exact br1 ⟨l3, l4, fun z => absurd ⟨q, by omega⟩ hnt, fun _ => iht (by omega)⟩
      · rw [if_neg q]
        exact br0 (iht (by omega))
end PSt
