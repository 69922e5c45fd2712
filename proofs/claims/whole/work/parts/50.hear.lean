/-! ===== the class: NEWS of a WEEK ===== -/
section PN
variable {G : XG} {S : XS} {I : XI}
theorem s_rowOf {cp wk : Int} {c w : Nat} {R : Int → XI → Prop} (hS : xSh S) (hc : cp = (c : Int)) (hw : wk = (w : Int)) (h : R (((c * 100 + w) * 10 : Nat) : Int) I) : W_rowOf G S I cp wk R := by
  subst hc; subst hw
  refine b_W_rowOf hS ?_
  have e : (((c : Int) * 100 + (w : Int)) * 10) = (((c * 100 + w) * 10 : Nat) : Int) := by omega
  rw [e]; exact h
theorem s_isNewsOf {i cp wk lm : Int} {k : Nat} {R : Int → XI → Prop} (hS : xSh S) (hi : i = (k : Int)) (hk : k < 60) (hI : okC I) (h1 : InR cp) (h2 : InR wk) (h3 : InR lm) (ht : I c_herds_newsCamps k = cp ∧ I c_herds_newsWeeks k = wk ∧ I c_herds_newsTold k ≤ lm → R 1 I) (hf : ¬ (I c_herds_newsCamps k = cp ∧ I c_herds_newsWeeks k = wk ∧ I c_herds_newsTold k ≤ lm) → R 0 I) : He_isNewsOf G S I i cp wk lm R := by
  subst hi
  refine b_He_isNewsOf hS ?_
  simp (disch := first | decide | omega) only [ix_nat, hI.w, w32_r h1, w32_r h2, w32_r h3]
  repeat' (with_reducible first | apply And.intro | intro _)
  all_goals first | exact inb_b (by omega) (by omega) (by omega) | exact ht (by omega) | exact hf (by omega)
end PN
section PW
variable {G : XG} {S : XS}
theorem s_Wn_hear {I : XI} {c w nn : Nat} {cp wk : Int} {p : Nat → Int} {R : XI → Prop} (hS : xSh S) (hcp : cp = (c : Int)) (hc : c < 6) (hwk : wk = (w : Int)) (hw : w < 100) (hnn : I c_herds 5 = (nn : Int)) (hnn2 : nn ≤ 60) (hN : ∀ a, a = c_herds_newsCamps ∨ a = c_herds_newsWeeks ∨ a = c_herds_newsTold ∨ a = c_herds_newsSeen → ∀ j, j < nn → InR (I a j)) (hnl : ∀ j, j < nn → 0 ≤ I c_herds_newsCells j ∧ I c_herds_newsCells j < 10) (h4 : InR (I c_now 6)) (hp : ∀ j, j < 10 → I c_now_parts ((c * 100 + w) * 10 + j) = p j) (hok : rowOk p)
    (h : ∀ I', (∀ j, j < 10 → I' c_now_parts ((c * 100 + w) * 10 + j) = nwS (I c_herds_newsCamps) (I c_herds_newsCells) (I c_herds_newsWeeks) (I c_herds_newsSeen) (I c_herds_newsTold) cp wk (I c_now 6) p nn j) → (∀ j, (j < (c * 100 + w) * 10 ∨ (c * 100 + w) * 10 + 10 ≤ j) → I' c_now_parts j = I c_now_parts j)
      → (∀ i, i < nn → I' c_now_quarrels i = if I c_herds_newsCamps i = cp ∧ I c_herds_newsWeeks i = wk ∧ I c_herds_newsTold i ≤ I c_now 6 then (heS (nwS (I c_herds_newsCamps) (I c_herds_newsCells) (I c_herds_newsWeeks) (I c_herds_newsSeen) (I c_herds_newsTold) cp wk (I c_now 6) p i) (I c_herds_newsCells i).toNat (I c_herds_newsSeen i)).2 else I c_now_quarrels i)
      → (∀ a, a ≠ c_now_parts → a ≠ c_now_rests → a ≠ c_now_weights → a ≠ c_now_quarrels → I' a = I a) → R I') : Wn_hear G S I cp wk R := by
  have hrow2 : (c * 100 + w) * 10 + 10 ≤ 6000 := by omega
  have hi1 : InR cp := ⟨by omega, by omega⟩
  have hi2 : InR wk := ⟨by omega, by omega⟩
  refine b_Wn_hear hS (s_rowOf hS hcp hwk ?_)
  generalize (c * 100 + w) * 10 = rw' at hp h hrow2 ⊢
  generalize hnw : nwS (I c_herds_newsCamps) (I c_herds_newsCells) (I c_herds_newsWeeks) (I c_herds_newsSeen) (I c_herds_newsTold) cp wk (I c_now 6) p = N at h
  have hNok : ∀ k, k ≤ nn → rowOk (N k) := fun k hk => by rw [← hnw]; exact nwS_ok hok k (fun j hj => hnl j (by omega))
  have hNs : ∀ k, N (k + 1) = if I c_herds_newsCamps k = cp ∧ I c_herds_newsWeeks k = wk ∧ I c_herds_newsTold k ≤ I c_now 6 then (heS (N k) (I c_herds_newsCells k).toNat (I c_herds_newsSeen k)).1 else N k := fun k => by rw [← hnw]; rfl
  have hN0 : N 0 = p := by rw [← hnw]; rfl
  refine down (n := nn) (P := fun k => ∀ I1 : XI, (∀ j, j < 10 → I1 c_now_parts (rw' + j) = N k j) → (∀ j, (j < rw' ∨ rw' + 10 ≤ j) → I1 c_now_parts j = I c_now_parts j) → (∀ i, i < nn → I1 c_now_quarrels i = if i < k ∧ I c_herds_newsCamps i = cp ∧ I c_herds_newsWeeks i = wk ∧ I c_herds_newsTold i ≤ I c_now 6 then (heS (N i) (I c_herds_newsCells i).toNat (I c_herds_newsSeen i)).2 else I c_now_quarrels i) → (∀ a, a ≠ c_now_parts → a ≠ c_now_rests → a ≠ c_now_weights → a ≠ c_now_quarrels → I1 a = I a) → Wn_hear_k10 G S I1 cp wk (rw' : Int) (k : Int) R) ?_ ?_ 0 (Nat.zero_le _) I (fun j hj => by rw [hN0]; exact hp j hj) (fun _ _ => rfl) (fun i _ => by rw [if_neg (fun q => by omega)]) (fun _ _ _ _ _ => rfl)
  · intro I1 q1 q2 q3 q4
    refine b_Wn_hear_k10 hS ⟨fun _ => h I1 q1 q2 (fun i hi => ?_) q4, fun e => absurd (Int.le_refl _) (by rw [q4 _ (by decide) (by decide) (by decide) (by decide), hnn] at e; exact e)⟩
    rw [q3 i hi]
    by_cases hz : I c_herds_newsCamps i = cp ∧ I c_herds_newsWeeks i = wk ∧ I c_herds_newsTold i ≤ I c_now 6
    · rw [if_pos ⟨hi, hz⟩, if_pos hz]
    · rw [if_neg (fun q => hz q.2), if_neg hz]
  · intro k hk ih I1 q1 q2 q3 q4
    have u : ∀ a, a ≠ c_now_parts → a ≠ c_now_rests → a ≠ c_now_weights → a ≠ c_now_quarrels → ∀ j, I1 a j = I a j := fun a h1 h2 h3 h5 j => by rw [q4 a h1 h2 h3 h5]
    have hcl := hnl k hk
    have hsn := hN c_herds_newsSeen (Or.inr (Or.inr (Or.inr rfl))) k hk
    have hok1 := hNok k (by omega)
    have hnc := hN c_herds_newsCamps (Or.inl rfl) k hk
    have hnw' := hN c_herds_newsWeeks (Or.inr (Or.inl rfl)) k hk
    have hnt := hN c_herds_newsTold (Or.inr (Or.inr (Or.inl rfl))) k hk
    have k73 : (I c_herds_newsCamps k = cp ∧ I c_herds_newsWeeks k = wk ∧ I c_herds_newsTold k ≤ I c_now 6) → ∀ (I2 : XI) (fl : Int), (fl = 0 ∨ fl = 1) → (heS (N k) (I c_herds_newsCells k).toNat (I c_herds_newsSeen k)).2 = 1 - fl → (∀ j, j < 10 → I2 c_now_parts (rw' + j) = (heS (N k) (I c_herds_newsCells k).toNat (I c_herds_newsSeen k)).1 j) → frWn I1 I2 rw' → Wn_hear_k73 G S I2 cp wk (rw' : Int) (k : Int) fl R := by
      intro hz I2 fl hfl hq2 hr2 hf2
      have fin : ∀ v : Int, v = 1 - fl → ∀ I9, I9 = up I2 c_now_quarrels k v → Wn_hear_k10 G S I9 cp wk (rw' : Int) ((k : Int) + 1) R := by
        intro v hv I9 e9
        subst e9
        refine ih _ (fun j hj => ?_) (fun j hj => ?_) (fun i hi => ?_) (fun a a1 a2 a3 a4 => ?_)
        · rw [up_1 _ (by decide), hr2 j hj, hNs k, if_pos hz]
        · rw [up_1 _ (by decide), hf2.1 j hj]; exact q2 j hj
        · by_cases ei : i = k
          · subst ei
            rw [up_s, if_pos ⟨by omega, hz⟩, hq2, hv]
          · rw [up_2 _ ei, hf2.2 _ (by decide) (by decide) (by decide), q3 i hi]
            by_cases hlt : i < k
            · by_cases hzz : I c_herds_newsCamps i = cp ∧ I c_herds_newsWeeks i = wk ∧ I c_herds_newsTold i ≤ I c_now 6
              · rw [if_pos ⟨hlt, hzz⟩, if_pos ⟨by omega, hzz⟩]
              · rw [if_neg (fun q => hzz q.2), if_neg (fun q => hzz q.2)]
            · rw [if_neg (fun q => hlt q.1), if_neg (fun q => by have := q.1; omega)]
        · rw [up_row a4, hf2.2 a a1 a2 a3]; exact q4 a a1 a2 a3 a4
      refine b_Wn_hear_k73 hS ?_
      rw [ix_nat (by omega)]
      rcases hfl with rfl | rfl
      · exact br0 ⟨inb_b (by omega) (by omega) (by decide), fin 1 (by decide)⟩
      · exact br1 ⟨inb_b (by omega) (by omega) (by decide), fin 0 (by decide)⟩
    refine b_Wn_hear_k10 hS ?_
    rw [u c_herds (by decide) (by decide) (by decide) (by decide), hnn, u c_now (by decide) (by decide) (by decide) (by decide), w32_nat (by omega), w32_nat (by omega)]
    refine ⟨fun e => absurd e (by omega), fun _ => ?_⟩
    refine b_He_isNewsOf hS ?_
    rw [ix_nat (by omega), u c_herds_newsCamps (by decide) (by decide) (by decide) (by decide), u c_herds_newsWeeks (by decide) (by decide) (by decide) (by decide), u c_herds_newsTold (by decide) (by decide) (by decide) (by decide), w32_r hnc, w32_r hnw', w32_r hnt, w32_r hi1, w32_r hi2, w32_r h4]
    have skip : ¬ (I c_herds_newsCamps k = cp ∧ I c_herds_newsWeeks k = wk ∧ I c_herds_newsTold k ≤ I c_now 6) → Wn_hear_k10 G S I1 cp wk (rw' : Int) ((k : Int) + 1) R := by
      intro hz
      refine ih I1 (fun j hj => by rw [hNs k, if_neg hz]; exact q1 j hj) q2 (fun i hi => ?_) q4
      rw [q3 i hi]
      by_cases hlt : i < k
      · by_cases hzz : I c_herds_newsCamps i = cp ∧ I c_herds_newsWeeks i = wk ∧ I c_herds_newsTold i ≤ I c_now 6
        · rw [if_pos ⟨hlt, hzz⟩, if_pos ⟨by omega, hzz⟩]
        · rw [if_neg (fun q => hzz q.2), if_neg (fun q => hzz q.2)]
      · rw [if_neg (fun q => hlt q.1)]
        by_cases ei : i = k
        · subst ei; rw [if_neg (fun q => hz q.2)]
        · rw [if_neg (fun q => by have := q.1; omega)]
    refine ⟨inb_b (by omega) (by omega) (by decide), fun f1 => ⟨inb_b (by omega) (by omega) (by decide), fun f2 => ⟨inb_b (by omega) (by omega) (by decide), fun f3 => br0 (skip (fun q => by omega)), fun f3 => br1 ?_⟩, fun f2 => br0 (skip (fun q => f2 q.2.1))⟩, fun f1 => br0 (skip (fun q => f1 q.1))⟩
    have hz : I c_herds_newsCamps k = cp ∧ I c_herds_newsWeeks k = wk ∧ I c_herds_newsTold k ≤ I c_now 6 := ⟨f1, f2, by omega⟩
    have ecl : I c_herds_newsCells k = (((I c_herds_newsCells k).toNat : Nat) : Int) := by omega
    rw [u c_herds_newsSeen (by decide) (by decide) (by decide) (by decide), u c_herds_newsCells (by decide) (by decide) (by decide) (by decide), w32_r hsn, show w32 1 = 1 from rfl]
    refine ⟨inb_b (by omega) (by omega) (by decide), inb_b (by omega) (by omega) (by decide), fun f4 => ?_, fun f4 => ?_⟩
    · refine s_Wn_gather hS rfl hrow2 ecl (by omega) q1 hok1 (fun z => ?_) (fun z I2 r2 r3 => ?_)
      · refine k73 hz I1 0 (Or.inl rfl) ?_ ?_ ⟨fun _ _ => rfl, fun _ _ _ _ => rfl⟩
        · unfold heS; rw [if_pos f4, if_pos z]; rfl
        · unfold heS; rw [if_pos f4, if_pos z]; exact q1
      · refine k73 hz I2 1 (Or.inr rfl) ?_ ?_ r3
        · unfold heS; rw [if_pos f4, if_neg z]; rfl
        · unfold heS; rw [if_pos f4, if_neg z]; exact r2
    · refine s_Wn_leave hS rfl hrow2 ecl (by omega) q1 hok1 (fun z => ?_) (fun z I2 r2 r3 => ?_)
      · refine k73 hz I1 0 (Or.inl rfl) ?_ ?_ ⟨fun _ _ => rfl, fun _ _ _ _ => rfl⟩
        · unfold heS; rw [if_neg f4, if_pos z]; rfl
        · unfold heS; rw [if_neg f4, if_pos z]; exact q1
      · refine k73 hz I2 1 (Or.inr rfl) ?_ ?_ r3
        · unfold heS; rw [if_neg f4, if_neg z]; rfl
        · unfold heS; rw [if_neg f4, if_neg z]; exact r2
theorem s_Wt_hear {I : XI} {c w nn : Nat} {cp wk : Int} {p : Nat → Int} {R : XI → Prop} (hS : xSh S) (hcp : cp = (c : Int)) (hc : c < 6) (hwk : wk = (w : Int)) (hw : w < 100) (hnn : I c_herds 5 = (nn : Int)) (hnn2 : nn ≤ 60) (hN : ∀ a, a = c_herds_newsCamps ∨ a = c_herds_newsWeeks ∨ a = c_herds_newsTold ∨ a = c_herds_newsSeen → ∀ j, j < nn → InR (I a j)) (hnl : ∀ j, j < nn → 0 ≤ I c_herds_newsCells j ∧ I c_herds_newsCells j < 10) (h4 : InR (I c_then 6)) (hp : ∀ j, j < 10 → I c_then_parts ((c * 100 + w) * 10 + j) = p j) (hok : rowOk p)
    (h : ∀ I', (∀ j, j < 10 → I' c_then_parts ((c * 100 + w) * 10 + j) = nwS (I c_herds_newsCamps) (I c_herds_newsCells) (I c_herds_newsWeeks) (I c_herds_newsSeen) (I c_herds_newsTold) cp wk (I c_then 6) p nn j) → (∀ j, (j < (c * 100 + w) * 10 ∨ (c * 100 + w) * 10 + 10 ≤ j) → I' c_then_parts j = I c_then_parts j)
      → (∀ i, i < nn → I' c_then_quarrels i = if I c_herds_newsCamps i = cp ∧ I c_herds_newsWeeks i = wk ∧ I c_herds_newsTold i ≤ I c_then 6 then (heS (nwS (I c_herds_newsCamps) (I c_herds_newsCells) (I c_herds_newsWeeks) (I c_herds_newsSeen) (I c_herds_newsTold) cp wk (I c_then 6) p i) (I c_herds_newsCells i).toNat (I c_herds_newsSeen i)).2 else I c_then_quarrels i)
      → (∀ a, a ≠ c_then_parts → a ≠ c_then_rests → a ≠ c_then_weights → a ≠ c_then_quarrels → I' a = I a) → R I') : Wt_hear G S I cp wk R := by
  have hrow2 : (c * 100 + w) * 10 + 10 ≤ 6000 := by omega
  have hi1 : InR cp := ⟨by omega, by omega⟩
  have hi2 : InR wk := ⟨by omega, by omega⟩
  refine b_Wt_hear hS (s_rowOf hS hcp hwk ?_)
  generalize (c * 100 + w) * 10 = rw' at hp h hrow2 ⊢
  generalize hnw : nwS (I c_herds_newsCamps) (I c_herds_newsCells) (I c_herds_newsWeeks) (I c_herds_newsSeen) (I c_herds_newsTold) cp wk (I c_then 6) p = N at h
  have hNok : ∀ k, k ≤ nn → rowOk (N k) := fun k hk => by rw [← hnw]; exact nwS_ok hok k (fun j hj => hnl j (by omega))
  have hNs : ∀ k, N (k + 1) = if I c_herds_newsCamps k = cp ∧ I c_herds_newsWeeks k = wk ∧ I c_herds_newsTold k ≤ I c_then 6 then (heS (N k) (I c_herds_newsCells k).toNat (I c_herds_newsSeen k)).1 else N k := fun k => by rw [← hnw]; rfl
  have hN0 : N 0 = p := by rw [← hnw]; rfl
  refine down (n := nn) (P := fun k => ∀ I1 : XI, (∀ j, j < 10 → I1 c_then_parts (rw' + j) = N k j) → (∀ j, (j < rw' ∨ rw' + 10 ≤ j) → I1 c_then_parts j = I c_then_parts j) → (∀ i, i < nn → I1 c_then_quarrels i = if i < k ∧ I c_herds_newsCamps i = cp ∧ I c_herds_newsWeeks i = wk ∧ I c_herds_newsTold i ≤ I c_then 6 then (heS (N i) (I c_herds_newsCells i).toNat (I c_herds_newsSeen i)).2 else I c_then_quarrels i) → (∀ a, a ≠ c_then_parts → a ≠ c_then_rests → a ≠ c_then_weights → a ≠ c_then_quarrels → I1 a = I a) → Wt_hear_k10 G S I1 cp wk (rw' : Int) (k : Int) R) ?_ ?_ 0 (Nat.zero_le _) I (fun j hj => by rw [hN0]; exact hp j hj) (fun _ _ => rfl) (fun i _ => by rw [if_neg (fun q => by omega)]) (fun _ _ _ _ _ => rfl)
  · intro I1 q1 q2 q3 q4
    refine b_Wt_hear_k10 hS ⟨fun _ => h I1 q1 q2 (fun i hi => ?_) q4, fun e => absurd (Int.le_refl _) (by rw [q4 _ (by decide) (by decide) (by decide) (by decide), hnn] at e; exact e)⟩
    rw [q3 i hi]
    by_cases hz : I c_herds_newsCamps i = cp ∧ I c_herds_newsWeeks i = wk ∧ I c_herds_newsTold i ≤ I c_then 6
    · rw [if_pos ⟨hi, hz⟩, if_pos hz]
    · rw [if_neg (fun q => hz q.2), if_neg hz]
  · intro k hk ih I1 q1 q2 q3 q4
    have u : ∀ a, a ≠ c_then_parts → a ≠ c_then_rests → a ≠ c_then_weights → a ≠ c_then_quarrels → ∀ j, I1 a j = I a j := fun a h1 h2 h3 h5 j => by rw [q4 a h1 h2 h3 h5]
    have hcl := hnl k hk
    have hsn := hN c_herds_newsSeen (Or.inr (Or.inr (Or.inr rfl))) k hk
    have hok1 := hNok k (by omega)
    have hnc := hN c_herds_newsCamps (Or.inl rfl) k hk
    have hnw' := hN c_herds_newsWeeks (Or.inr (Or.inl rfl)) k hk
    have hnt := hN c_herds_newsTold (Or.inr (Or.inr (Or.inl rfl))) k hk
    have k73 : (I c_herds_newsCamps k = cp ∧ I c_herds_newsWeeks k = wk ∧ I c_herds_newsTold k ≤ I c_then 6) → ∀ (I2 : XI) (fl : Int), (fl = 0 ∨ fl = 1) → (heS (N k) (I c_herds_newsCells k).toNat (I c_herds_newsSeen k)).2 = 1 - fl → (∀ j, j < 10 → I2 c_then_parts (rw' + j) = (heS (N k) (I c_herds_newsCells k).toNat (I c_herds_newsSeen k)).1 j) → frWt I1 I2 rw' → Wt_hear_k73 G S I2 cp wk (rw' : Int) (k : Int) fl R := by
      intro hz I2 fl hfl hq2 hr2 hf2
      have fin : ∀ v : Int, v = 1 - fl → ∀ I9, I9 = up I2 c_then_quarrels k v → Wt_hear_k10 G S I9 cp wk (rw' : Int) ((k : Int) + 1) R := by
        intro v hv I9 e9
        subst e9
        refine ih _ (fun j hj => ?_) (fun j hj => ?_) (fun i hi => ?_) (fun a a1 a2 a3 a4 => ?_)
        · rw [up_1 _ (by decide), hr2 j hj, hNs k, if_pos hz]
        · rw [up_1 _ (by decide), hf2.1 j hj]; exact q2 j hj
        · by_cases ei : i = k
          · subst ei
            rw [up_s, if_pos ⟨by omega, hz⟩, hq2, hv]
          · rw [up_2 _ ei, hf2.2 _ (by decide) (by decide) (by decide), q3 i hi]
            by_cases hlt : i < k
            · by_cases hzz : I c_herds_newsCamps i = cp ∧ I c_herds_newsWeeks i = wk ∧ I c_herds_newsTold i ≤ I c_then 6
              · rw [if_pos ⟨hlt, hzz⟩, if_pos ⟨by omega, hzz⟩]
              · rw [if_neg (fun q => hzz q.2), if_neg (fun q => hzz q.2)]
            · rw [if_neg (fun q => hlt q.1), if_neg (fun q => by have := q.1; omega)]
        · rw [up_row a4, hf2.2 a a1 a2 a3]; exact q4 a a1 a2 a3 a4
      refine b_Wt_hear_k73 hS ?_
      rw [ix_nat (by omega)]
      rcases hfl with rfl | rfl
      · exact br0 ⟨inb_b (by omega) (by omega) (by decide), fin 1 (by decide)⟩
      · exact br1 ⟨inb_b (by omega) (by omega) (by decide), fin 0 (by decide)⟩
    refine b_Wt_hear_k10 hS ?_
    rw [u c_herds (by decide) (by decide) (by decide) (by decide), hnn, u c_then (by decide) (by decide) (by decide) (by decide), w32_nat (by omega), w32_nat (by omega)]
    refine ⟨fun e => absurd e (by omega), fun _ => ?_⟩
    refine b_He_isNewsOf hS ?_
    rw [ix_nat (by omega), u c_herds_newsCamps (by decide) (by decide) (by decide) (by decide), u c_herds_newsWeeks (by decide) (by decide) (by decide) (by decide), u c_herds_newsTold (by decide) (by decide) (by decide) (by decide), w32_r hnc, w32_r hnw', w32_r hnt, w32_r hi1, w32_r hi2, w32_r h4]
    have skip : ¬ (I c_herds_newsCamps k = cp ∧ I c_herds_newsWeeks k = wk ∧ I c_herds_newsTold k ≤ I c_then 6) → Wt_hear_k10 G S I1 cp wk (rw' : Int) ((k : Int) + 1) R := by
      intro hz
      refine ih I1 (fun j hj => by rw [hNs k, if_neg hz]; exact q1 j hj) q2 (fun i hi => ?_) q4
      rw [q3 i hi]
      by_cases hlt : i < k
      · by_cases hzz : I c_herds_newsCamps i = cp ∧ I c_herds_newsWeeks i = wk ∧ I c_herds_newsTold i ≤ I c_then 6
        · rw [if_pos ⟨hlt, hzz⟩, if_pos ⟨by omega, hzz⟩]
        · rw [if_neg (fun q => hzz q.2), if_neg (fun q => hzz q.2)]
      · rw [if_neg (fun q => hlt q.1)]
        by_cases ei : i = k
        · subst ei; rw [if_neg (fun q => hz q.2)]
        · rw [if_neg (fun q => by have := q.1; omega)]
    refine ⟨inb_b (by omega) (by omega) (by decide), fun f1 => ⟨inb_b (by omega) (by omega) (by decide), fun f2 => ⟨inb_b (by omega) (by omega) (by decide), fun f3 => br0 (skip (fun q => by omega)), fun f3 => br1 ?_⟩, fun f2 => br0 (skip (fun q => f2 q.2.1))⟩, fun f1 => br0 (skip (fun q => f1 q.1))⟩
    have hz : I c_herds_newsCamps k = cp ∧ I c_herds_newsWeeks k = wk ∧ I c_herds_newsTold k ≤ I c_then 6 := ⟨f1, f2, by omega⟩
    have ecl : I c_herds_newsCells k = (((I c_herds_newsCells k).toNat : Nat) : Int) := by omega
    rw [u c_herds_newsSeen (by decide) (by decide) (by decide) (by decide), u c_herds_newsCells (by decide) (by decide) (by decide) (by decide), w32_r hsn, show w32 1 = 1 from rfl]
    refine ⟨inb_b (by omega) (by omega) (by decide), inb_b (by omega) (by omega) (by decide), fun f4 => ?_, fun f4 => ?_⟩
    · refine s_Wt_gather hS rfl hrow2 ecl (by omega) q1 hok1 (fun z => ?_) (fun z I2 r2 r3 => ?_)
      · refine k73 hz I1 0 (Or.inl rfl) ?_ ?_ ⟨fun _ _ => rfl, fun _ _ _ _ => rfl⟩
        · unfold heS; rw [if_pos f4, if_pos z]; rfl
        · unfold heS; rw [if_pos f4, if_pos z]; exact q1
      · refine k73 hz I2 1 (Or.inr rfl) ?_ ?_ r3
        · unfold heS; rw [if_pos f4, if_neg z]; rfl
        · unfold heS; rw [if_pos f4, if_neg z]; exact r2
    · refine s_Wt_leave hS rfl hrow2 ecl (by omega) q1 hok1 (fun z => ?_) (fun z I2 r2 r3 => ?_)
      · refine k73 hz I1 0 (Or.inl rfl) ?_ ?_ ⟨fun _ _ => rfl, fun _ _ _ _ => rfl⟩
        · unfold heS; rw [if_neg f4, if_pos z]; rfl
        · unfold heS; rw [if_neg f4, if_pos z]; exact q1
      · refine k73 hz I2 1 (Or.inr rfl) ?_ ?_ r3
        · unfold heS; rw [if_neg f4, if_neg z]; rfl
        · unfold heS; rw [if_neg f4, if_neg z]; exact r2
end PW
