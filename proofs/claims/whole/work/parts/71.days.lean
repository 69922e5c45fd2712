/-! ===== fewest days: Floyd's way, on both sides ===== -/
def sat (x : Int) : Int := if x < 100000 then x else 100000
theorem sat_in {x : Int} (h : 0 ≤ x) : 0 ≤ sat x ∧ sat x ≤ 100000 ∧ sat x ≤ x := by unfold sat; split <;> omega
def flOk (F : Int) (D : Nat → Int) : Prop := (∀ k, k < 100 → 0 ≤ D k ∧ D k ≤ F) ∧ (∀ o, o < 10 → D (o * 10 + o) = 0) ∧ ∀ a b, a < 10 → b < 10 → D (a * 10 + b) = D (b * 10 + a)
theorem fl0_ok {F : Int} {W : Nat → Int} (hF : 9 ≤ F) (h1 : ∀ j, j < 100 → 0 ≤ W j ∧ W j ≤ 9) (h2 : ∀ a b, a < 10 → b < 10 → W (a * 10 + b) = W (b * 10 + a)) : flOk F (fl0 F W) := by
  refine ⟨fun k hk => ?_, fun o ho => ?_, fun a b ha hb => ?_⟩
  · have := h1 k hk
    unfold fl0; split
    · omega
    · split <;> omega
  · unfold fl0; rw [if_pos (by omega)]
  · unfold fl0
    rw [h2 a b ha hb, show (a * 10 + b) / 10 = a by omega, show (a * 10 + b) % 10 = b by omega, show (b * 10 + a) / 10 = b by omega, show (b * 10 + a) % 10 = a by omega]
    by_cases c : a = b
    · rw [if_pos c, if_pos c.symm]
    · rw [if_neg c, if_neg (show ¬ b = a from fun q => c q.symm)]
theorem flP_ok {F : Int} {D : Nat → Int} {o : Nat} (ho : o < 10) (h : flOk F D) : flOk F (flP D o) := by
  obtain ⟨h1, h2, h3⟩ := h
  refine ⟨fun k hk => ?_, fun a ha => ?_, fun a b ha hb => ?_⟩
  · have a1 := h1 k hk
    have a2 := h1 (k / 10 * 10 + o) (by omega)
    have a3 := h1 (o * 10 + k % 10) (by omega)
    unfold flP; split <;> omega
  · have a2 := h1 (a * 10 + o) (by omega)
    have a3 := h1 (o * 10 + a) (by omega)
    have a1 := h2 a ha
    unfold flP
    rw [show (a * 10 + a) / 10 = a by omega, show (a * 10 + a) % 10 = a by omega, a1, if_neg (by omega)]
  · have s1 := h3 a b ha hb
    have s2 := h3 a o ha ho
    have s3 := h3 o b ho hb
    unfold flP
    rw [show (a * 10 + b) / 10 = a by omega, show (a * 10 + b) % 10 = b by omega, show (b * 10 + a) / 10 = b by omega, show (b * 10 + a) % 10 = a by omega, s1, s2, s3, Int.add_comm (D (b * 10 + o))]
theorem flN_ok {F : Int} {D : Nat → Int} (h : flOk F D) : ∀ n, n ≤ 10 → flOk F (flN D n)
  | 0, _ => h
  | n + 1, hn => flP_ok (by omega) (flN_ok h n (by omega))
theorem flP_col {F : Int} {D : Nat → Int} {a o : Nat} (ha : a < 10) (ho : o < 10) (h : flOk F D) : flP D o (a * 10 + o) = D (a * 10 + o) := by
  have := h.2.1 o ho
  unfold flP
  rw [show (a * 10 + o) / 10 = a by omega, show (a * 10 + o) % 10 = o by omega, this, if_neg (by omega)]
theorem flP_row {F : Int} {D : Nat → Int} {b o : Nat} (hb : b < 10) (ho : o < 10) (h : flOk F D) : flP D o (o * 10 + b) = D (o * 10 + b) := by
  have := h.2.1 o ho
  unfold flP
  rw [show (o * 10 + b) / 10 = o by omega, show (o * 10 + b) % 10 = b by omega, this, if_neg (by omega)]
theorem fl_sat {W : Nat → Int} (h1 : ∀ j, j < 100 → 0 ≤ W j ∧ W j ≤ 9) (h2 : ∀ a b, a < 10 → b < 10 → W (a * 10 + b) = W (b * 10 + a)) : ∀ n, n ≤ 10 → ∀ k, k < 100 → flN (fl0 100000 W) n k = sat (flN (fl0 1000000 W) n k)
  | 0, _, k, hk => by
    have := h1 k hk
    show fl0 100000 W k = sat (fl0 1000000 W k)
    unfold fl0 sat
    by_cases c : k / 10 = k % 10
    · rw [if_pos c, if_pos c]; rfl
    · rw [if_neg c, if_neg c]
      by_cases d : 0 < W k
      · rw [if_pos d, if_pos d, if_pos (by omega)]
      · rw [if_neg d, if_neg d]; rfl
  | n + 1, hn, k, hk => by
    have ok := flN_ok (fl0_ok (F := 1000000) (by decide) h1 h2) n (by omega)
    have i1 := fl_sat h1 h2 n (by omega) k hk
    have i2 := fl_sat h1 h2 n (by omega) (k / 10 * 10 + n) (by omega)
    have i3 := fl_sat h1 h2 n (by omega) (n * 10 + k % 10) (by omega)
    have a1 := ok.1 k hk
    have a2 := ok.1 (k / 10 * 10 + n) (by omega)
    have a3 := ok.1 (n * 10 + k % 10) (by omega)
    show flP (flN (fl0 100000 W) n) n k = sat (flP (flN (fl0 1000000 W) n) n k)
    unfold flP
    rw [i1, i2, i3]
    generalize flN (fl0 1000000 W) n k = x at *
    generalize flN (fl0 1000000 W) n (k / 10 * 10 + n) = y at *
    generalize flN (fl0 1000000 W) n (n * 10 + k % 10) = z at *
    unfold sat
    repeat' split
    all_goals omega
theorem flN_cong {D E : Nat → Int} (h : ∀ k, k < 100 → D k = E k) : ∀ n, n ≤ 10 → ∀ k, k < 100 → flN D n k = flN E n k
  | 0, _, k, hk => h k hk
  | n + 1, hn, k, hk => by
    show flP (flN D n) n k = flP (flN E n) n k
    unfold flP
    rw [flN_cong h n (by omega) k hk, flN_cong h n (by omega) (k / 10 * 10 + n) (by omega), flN_cong h n (by omega) (n * 10 + k % 10) (by omega)]
section PDa
variable {G : XG} {S : XS}
theorem s_Wa_findDays {I : XI} {W : Nat → Int} {R : XI → Prop} (hS : xSh S) (hW : ∀ j, j < 100 → I c_land_ways j = W j) (h1 : ∀ j, j < 100 → 0 ≤ W j ∧ W j ≤ 9) (h2 : ∀ a b, a < 10 → b < 10 → W (a * 10 + b) = W (b * 10 + a))
    (h : ∀ I', (∀ k, k < 100 → I' c_walks_days k = flN (fl0 100000 W) 10 k) → (∀ a, a ≠ c_walks_days → I' a = I a) → R I') : Wa_findDays G S I R := by
  have ok := fun n hn => flN_ok (fl0_ok (F := 100000) (by decide) h1 h2) n hn
  have st3 : ∀ n, n ≤ 10 → ∀ I1 : XI, (∀ k, k < 100 → I1 c_walks_days k = flN (fl0 100000 W) n k) → (∀ a, a ≠ c_walks_days → I1 a = I a) → Wa_findDays_k71 G S I1 (n : Int) R := by
    refine down (n := 10) (P := fun n => ∀ I1 : XI, (∀ k, k < 100 → I1 c_walks_days k = flN (fl0 100000 W) n k) → (∀ a, a ≠ c_walks_days → I1 a = I a) → Wa_findDays_k71 G S I1 (n : Int) R) ?_ ?_
    · intro I1 q1 q2
      exact b_Wa_findDays_k71 hS ⟨fun _ => h I1 q1 q2, fun e => absurd (by decide) e⟩
    · intro n hn ih I1 q1 q2
      have okn := ok n (by omega)
      refine b_Wa_findDays_k71 hS ⟨fun e => absurd e (by rw [show w32 10 = 10 from rfl, w32_nat (by omega)]; omega), fun _ => ?_⟩
      refine down (n := 10) (P := fun a => ∀ I2 : XI, (∀ k, k < 100 → I2 c_walks_days k = if k < a * 10 then flP (flN (fl0 100000 W) n) n k else flN (fl0 100000 W) n k) → (∀ x, x ≠ c_walks_days → I2 x = I x) → Wa_findDays_k79 G S I2 (n : Int) (a : Int) R) ?_ ?_ 0 (Nat.zero_le _) I1 (fun k hk => by rw [if_neg (by omega)]; exact q1 k hk) q2
      · intro I2 r1 r2
        exact b_Wa_findDays_k79 hS ⟨fun _ => ih I2 (fun k hk => by rw [r1 k hk, if_pos (by omega)]; rfl) r2, fun e => absurd (by decide) e⟩
      · intro a ha iha I2 r1 r2
        refine b_Wa_findDays_k79 hS ⟨fun e => absurd e (by rw [show w32 10 = 10 from rfl, w32_nat (by omega)]; omega), fun _ => ?_⟩
        refine down (n := 10) (P := fun b => ∀ I3 : XI, (∀ k, k < 100 → I3 c_walks_days k = if k < a * 10 + b then flP (flN (fl0 100000 W) n) n k else flN (fl0 100000 W) n k) → (∀ x, x ≠ c_walks_days → I3 x = I x) → Wa_findDays_k88 G S I3 (n : Int) (a : Int) (b : Int) R) ?_ ?_ 0 (Nat.zero_le _) I2 (fun k hk => r1 k hk) r2
        · intro I3 t1 t2
          exact b_Wa_findDays_k88 hS ⟨fun _ => iha I3 (fun k hk => by rw [t1 k hk, show (a + 1) * 10 = a * 10 + 10 by omega]) t2, fun e => absurd (by decide) e⟩
        · intro b hb ihb I3 t1 t2
          have e1 : ((a : Int) * 10 + (n : Int)) = ((a * 10 + n : Nat) : Int) := by omega
          have e2 : ((n : Int) * 10 + (b : Int)) = ((n * 10 + b : Nat) : Int) := by omega
          have e3 : ((a : Int) * 10 + (b : Int)) = ((a * 10 + b : Nat) : Int) := by omega
          have v1 : I3 c_walks_days (a * 10 + n) = flN (fl0 100000 W) n (a * 10 + n) := by
            rw [t1 _ (by omega)]; split
            · exact flP_col ha hn okn
            · rfl
          have v2 : I3 c_walks_days (n * 10 + b) = flN (fl0 100000 W) n (n * 10 + b) := by
            rw [t1 _ (by omega)]; split
            · exact flP_row hb hn okn
            · rfl
          have v3 : I3 c_walks_days (a * 10 + b) = flN (fl0 100000 W) n (a * 10 + b) := by
            rw [t1 _ (by omega), if_neg (by omega)]
          have b1 := okn.1 (a * 10 + n) (by omega)
          have b2 := okn.1 (n * 10 + b) (by omega)
          have b3 := okn.1 (a * 10 + b) (by omega)
          refine b_Wa_findDays_k88 hS ?_
          rw [e1, e2, e3, show w32 10 = 10 from rfl, w32_nat (k := b) (by omega), ix_nat (k := a * 10 + n) (by omega), ix_nat (k := n * 10 + b) (by omega), ix_nat (k := a * 10 + b) (by omega), v1, v2, v3, w32_b (by omega) (by omega), w32_b (z := flN (fl0 100000 W) n (a * 10 + b)) (by omega) (by omega)]
          refine ⟨fun e => absurd e (by omega), fun _ => ⟨inb_b (by omega) (by omega) (by decide), inb_b (by omega) (by omega) (by decide), inb_b (by omega) (by omega) (by decide), inb_b (by omega) (by omega) (by decide), fun I4 e4 => ?_⟩⟩
          have ef : (if flN (fl0 100000 W) n (a * 10 + n) + flN (fl0 100000 W) n (n * 10 + b) < flN (fl0 100000 W) n (a * 10 + b) then flN (fl0 100000 W) n (a * 10 + n) + flN (fl0 100000 W) n (n * 10 + b) else flN (fl0 100000 W) n (a * 10 + b)) = flP (flN (fl0 100000 W) n) n (a * 10 + b) := by
            unfold flP
            rw [show (a * 10 + b) / 10 = a by omega, show (a * 10 + b) % 10 = b by omega]
          rw [ef] at e4
          subst e4
          refine ihb _ (fun k hk => ?_) (fun x hx => (up_row hx).trans (t2 x hx))
          by_cases ek : k = a * 10 + b
          · rw [ek, up_s, if_pos (by omega)]
          · rw [up_2 _ ek, t1 k hk]
            by_cases ck : k < a * 10 + b
            · rw [if_pos ck, if_pos (by omega)]
            · rw [if_neg ck, if_neg (by omega)]
  have st2 : ∀ I1 : XI, (∀ k, k < 100 → I1 c_walks_days k = if 0 < W k then W k else 100000) → (∀ a, a ≠ c_walks_days → I1 a = I a) → Wa_findDays_k45 G S I1 0 R := by
    intro I1 q1 q2
    refine down (n := 10) (P := fun c => ∀ I2 : XI, (∀ k, k < 100 → I2 c_walks_days k = if k / 10 = k % 10 ∧ k / 10 < c then 0 else if 0 < W k then W k else 100000) → (∀ a, a ≠ c_walks_days → I2 a = I a) → Wa_findDays_k45 G S I2 (c : Int) R) ?_ ?_ 0 (Nat.zero_le _) I1 (fun k hk => by rw [if_neg (by omega)]; exact q1 k hk) q2
    · intro I2 r1 r2
      refine b_Wa_findDays_k45 hS ⟨fun _ => st3 0 (Nat.zero_le _) I2 (fun k hk => ?_) r2, fun e => absurd (by decide) e⟩
      rw [r1 k hk]
      show _ = fl0 100000 W k
      unfold fl0
      by_cases c : k / 10 = k % 10
      · rw [if_pos c, if_pos ⟨c, by omega⟩]
      · rw [if_neg c, if_neg (fun q => c q.1)]
    · intro c hc ih I2 r1 r2
      have e1 : ((c : Int) * 10 + (c : Int)) = ((c * 10 + c : Nat) : Int) := by omega
      refine b_Wa_findDays_k45 hS ?_
      rw [e1, show w32 10 = 10 from rfl, w32_nat (k := c) (by omega), ix_nat (k := c * 10 + c) (by omega)]
      refine ⟨fun e => absurd e (by omega), fun _ => ⟨inb_b (by omega) (by omega) (by decide), fun I3 e3 => ?_⟩⟩
      subst e3
      refine ih _ (fun k hk => ?_) (fun x hx => (up_row hx).trans (r2 x hx))
      by_cases ek : k = c * 10 + c
      · rw [ek, up_s, if_pos (by omega)]
      · rw [up_2 _ ek, r1 k hk]
        by_cases ck : k / 10 = k % 10 ∧ k / 10 < c
        · rw [if_pos ck, if_pos (by omega)]
        · rw [if_neg ck, if_neg (show ¬ (k / 10 = k % 10 ∧ k / 10 < c + 1) by omega)]
  refine b_Wa_findDays hS ?_
  refine down (n := 100) (P := fun n => ∀ I1 : XI, (∀ k, k < n → I1 c_walks_days k = if 0 < W k then W k else 100000) → (∀ a, a ≠ c_walks_days → I1 a = I a) → Wa_findDays_k2 G S I1 (n : Int) R) ?_ ?_ 0 (Nat.zero_le _) I (fun k hk => absurd hk (by omega)) (fun _ _ => rfl)
  · intro I1 q1 q2
    exact b_Wa_findDays_k2 hS ⟨fun _ => st2 I1 q1 q2, fun e => absurd (by decide) e⟩
  · intro n hn ih I1 q1 q2
    have hw := h1 n hn
    refine b_Wa_findDays_k2 hS ?_
    rw [show w32 100 = 100 from rfl, w32_nat (k := n) (by omega), ix_nat (k := n) (by omega), q2 c_land_ways (by decide), hW n hn, w32_b (z := W n) (by omega) (by omega)]
    refine ⟨fun e => absurd e (by omega), fun _ => ⟨inb_b (by omega) (by omega) (by decide), fun c => ⟨inb_b (by omega) (by omega) (by decide), fun I2 e2 => ?_⟩, fun c => ⟨inb_b (by omega) (by omega) (by decide), inb_b (by omega) (by omega) (by decide), fun I2 e2 => ?_⟩⟩⟩
    · subst e2
      refine ih _ (fun k hk => ?_) (fun x hx => (up_row hx).trans (q2 x hx))
      by_cases ek : k = n
      · rw [ek, up_s, if_neg (by omega)]
      · rw [up_2 _ ek]; exact q1 k (by omega)
    · subst e2
      refine ih _ (fun k hk => ?_) (fun x hx => (up_row hx).trans (q2 x hx))
      by_cases ek : k = n
      · rw [ek, up_s, if_pos (by omega)]
      · rw [up_2 _ ek]; exact q1 k (by omega)
theorem s_R_findFar {I : XI} {W : Nat → Int} {R : XI → Prop} (hS : xSh S) (hW : ∀ j, j < 100 → I r_ways j = W j) (h1 : ∀ j, j < 100 → 0 ≤ W j ∧ W j ≤ 9) (h2 : ∀ a b, a < 10 → b < 10 → W (a * 10 + b) = W (b * 10 + a))
    (h : ∀ I', (∀ k, k < 100 → I' r_far k = flN (fl0 1000000 W) 10 k) → (∀ a, a ≠ r_far → I' a = I a) → R I') : R_findFar G S I R := by
  have ok := fun n hn => flN_ok (fl0_ok (F := 1000000) (by decide) h1 h2) n hn
  have t10 : w32 (10 : Int) ≠ 0 := by decide
  have im : ∀ k : Nat, k < 100 → irem (k : Int) 10 = ((k % 10 : Nat) : Int) ∧ idiv (k : Int) 10 = ((k / 10 : Nat) : Int) := fun k hk => by
    rw [irem_pos (by omega) (by omega) (by decide) (by decide), idiv_pos (by omega) (by omega) (by decide) (by decide)]
    exact ⟨by omega, by omega⟩
  have st3 : ∀ n, n ≤ 10 → ∀ I1 : XI, (∀ k, k < 100 → I1 r_far k = flN (fl0 1000000 W) n k) → (∀ a, a ≠ r_far → I1 a = I a) → R_findFar_k58 G S I1 (n : Int) R := by
    refine down (n := 10) (P := fun n => ∀ I1 : XI, (∀ k, k < 100 → I1 r_far k = flN (fl0 1000000 W) n k) → (∀ a, a ≠ r_far → I1 a = I a) → R_findFar_k58 G S I1 (n : Int) R) ?_ ?_
    · intro I1 q1 q2
      exact b_R_findFar_k58 hS ⟨fun _ => h I1 q1 q2, fun e => absurd (by decide) e⟩
    · intro n hn ih I1 q1 q2
      have okn := ok n (by omega)
      refine b_R_findFar_k58 hS ⟨fun e => absurd e (by rw [show w32 10 = 10 from rfl, w32_nat (by omega)]; omega), fun _ => ?_⟩
      refine down (n := 100) (P := fun m => ∀ I3 : XI, (∀ k, k < 100 → I3 r_far k = if k < m then flP (flN (fl0 1000000 W) n) n k else flN (fl0 1000000 W) n k) → (∀ x, x ≠ r_far → I3 x = I x) → R_findFar_k66 G S I3 (n : Int) (m : Int) R) ?_ ?_ 0 (Nat.zero_le _) I1 (fun k hk => by rw [if_neg (by omega)]; exact q1 k hk) q2
      · intro I3 t1 t2
        exact b_R_findFar_k66 hS ⟨fun _ => ih I3 (fun k hk => by rw [t1 k hk, if_pos hk]; rfl) t2, fun e => absurd (by decide) e⟩
      · intro m hm ihm I3 t1 t2
        obtain ⟨i1, i2⟩ := im m hm
        have e1 : (m : Int) - ((m % 10 : Nat) : Int) + (n : Int) = ((m / 10 * 10 + n : Nat) : Int) := by omega
        have e2 : ((10 : Int) * (n : Int) + ((m % 10 : Nat) : Int)) = ((n * 10 + m % 10 : Nat) : Int) := by omega
        have v1 : I3 r_far (m / 10 * 10 + n) = flN (fl0 1000000 W) n (m / 10 * 10 + n) := by
          rw [t1 _ (by omega)]; split
          · exact flP_col (by omega) hn okn
          · rfl
        have v2 : I3 r_far (n * 10 + m % 10) = flN (fl0 1000000 W) n (n * 10 + m % 10) := by
          rw [t1 _ (by omega)]; split
          · exact flP_row (by omega) hn okn
          · rfl
        have v3 : I3 r_far m = flN (fl0 1000000 W) n m := by rw [t1 _ hm, if_neg (by omega)]
        have b1 := okn.1 (m / 10 * 10 + n) (by omega)
        have b2 := okn.1 (n * 10 + m % 10) (by omega)
        have b3 := okn.1 m hm
        have fin : ∀ z : Int, z = flP (flN (fl0 1000000 W) n) n m → R_findFar_k66 G S (up I3 r_far m z) (n : Int) ((m : Int) + 1) R := fun z hz => by
          subst hz
          refine ihm _ (fun k hk => ?_) (fun x hx => (up_row hx).trans (t2 x hx))
          by_cases ek : k = m
          · rw [ek, up_s, if_pos (by omega)]
          · rw [up_2 _ ek, t1 k hk]
            by_cases ck : k < m
            · rw [if_pos ck, if_pos (by omega)]
            · rw [if_neg ck, if_neg (by omega)]
        refine b_R_findFar_k66 hS ?_
        rw [i1, e1, e2, show w32 100 = 100 from rfl, w32_nat (k := m) (by omega), ix_nat (k := m) (by omega), ix_nat (k := m / 10 * 10 + n) (by omega), ix_nat (k := n * 10 + m % 10) (by omega), v1, v2, v3, w32_b (z := flN (fl0 1000000 W) n m) (by omega) (by omega), w32_b (z := flN (fl0 1000000 W) n (m / 10 * 10 + n) + flN (fl0 1000000 W) n (n * 10 + m % 10)) (by omega) (by omega)]
        refine ⟨fun e => absurd e (by omega), fun _ => ⟨t10, inb_b (by omega) (by omega) (by decide), t10, inb_b (by omega) (by omega) (by decide), inb_b (by omega) (by omega) (by decide), fun c => ⟨inb_b (by omega) (by omega) (by decide), inb_b (by omega) (by omega) (by decide), fun I4 e4 => ?_⟩, fun c => ⟨inb_b (by omega) (by omega) (by decide), fun I4 e4 => ?_⟩⟩⟩
        · subst e4; exact fin _ (if_neg (by omega) : (if flN (fl0 1000000 W) n (m / 10 * 10 + n) + flN (fl0 1000000 W) n (n * 10 + m % 10) < flN (fl0 1000000 W) n m then flN (fl0 1000000 W) n (m / 10 * 10 + n) + flN (fl0 1000000 W) n (n * 10 + m % 10) else flN (fl0 1000000 W) n m) = _).symm
        · subst e4; exact fin _ (if_pos (by omega) : (if flN (fl0 1000000 W) n (m / 10 * 10 + n) + flN (fl0 1000000 W) n (n * 10 + m % 10) < flN (fl0 1000000 W) n m then flN (fl0 1000000 W) n (m / 10 * 10 + n) + flN (fl0 1000000 W) n (n * 10 + m % 10) else flN (fl0 1000000 W) n m) = _).symm
  refine b_R_findFar hS ?_
  refine down (n := 100) (P := fun n => ∀ I1 : XI, (∀ k, k < n → I1 r_far k = fl0 1000000 W k) → (∀ a, a ≠ r_far → I1 a = I a) → R_findFar_k2 G S I1 (n : Int) R) ?_ ?_ 0 (Nat.zero_le _) I (fun k hk => absurd hk (by omega)) (fun _ _ => rfl)
  · intro I1 q1 q2
    exact b_R_findFar_k2 hS ⟨fun _ => st3 0 (Nat.zero_le _) I1 q1 q2, fun e => absurd (by decide) e⟩
  · intro n hn ih I1 q1 q2
    have hw := h1 n hn
    obtain ⟨i1, i2⟩ := im n hn
    have fin : ∀ z : Int, z = fl0 1000000 W n → R_findFar_k2 G S (up I1 r_far n z) ((n : Int) + 1) R := fun z hz => by
      subst hz
      refine ih _ (fun k hk => ?_) (fun x hx => (up_row hx).trans (q2 x hx))
      by_cases ek : k = n
      · rw [ek, up_s]
      · rw [up_2 _ ek]; exact q1 k (by omega)
    refine b_R_findFar_k2 hS ?_
    rw [i1, i2, show w32 100 = 100 from rfl, w32_nat (k := n) (by omega), w32_nat (k := n / 10) (by omega), w32_nat (k := n % 10) (by omega), ix_nat (k := n) (by omega), q2 r_ways (by decide), hW n hn, w32_b (z := W n) (by omega) (by omega)]
    refine ⟨fun e => absurd e (by omega), fun _ => ⟨t10, t10, fun c => ⟨inb_b (by omega) (by omega) (by decide), fun I2 e2 => ?_⟩, fun c => ⟨inb_b (by omega) (by omega) (by decide), fun d => ⟨inb_b (by omega) (by omega) (by decide), fun I2 e2 => ?_⟩, fun d => ⟨inb_b (by omega) (by omega) (by decide), inb_b (by omega) (by omega) (by decide), fun I2 e2 => ?_⟩⟩⟩⟩
    · subst e2; refine fin _ ?_; unfold fl0; rw [if_pos (by omega)]
    · subst e2; refine fin _ ?_; unfold fl0; rw [if_neg (by omega), if_neg (by omega)]
    · subst e2; refine fin _ ?_; unfold fl0; rw [if_neg (by omega), if_pos (by omega)]
end PDa
