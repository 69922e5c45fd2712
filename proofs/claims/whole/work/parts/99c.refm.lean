/-! ===== RULES: the reference reads LINES ===== -/
def TeR (Y Z : XI) (k : Nat) : Prop := Z 6 k = Y 3 k ∧ (Y 3 k = 0 ∨ Y 3 k = 1) ∧ Z 3 k = subR (Y 4 k) ∧ (0 ≤ Y 4 k ∧ Y 4 k ≤ 9) ∧ Z 4 k = Y 5 k ∧ Z 5 k = Y 6 k
def LnR (Y Z : XI) (l : Nat) : Prop := (Z 0 l = Y 0 l ∧ Z 1 l = Y 1 l ∧ Z 2 l = Y 2 l) ∧ (0 ≤ Y 0 l ∧ Y 0 l ≤ 2) ∧ (0 ≤ Y 1 l ∧ Y 1 l ≤ 9999) ∧ (0 ≤ Y 2 l ∧ Y 2 l ≤ 4) ∧ ∀ i : Nat, (i : Int) < Y 2 l → TeR Y Z (l * 4 + i)
def LsR (Y Z : XI) (lf : Int) (n : Nat) : Prop := ∀ l, l < n → l < 16 → LnR Y Z l ∧ (lf = 0 → Y 0 l = 1 → 1 ≤ Y 1 l ∧ Y 1 l ≤ 99)
def CuR (Y Z : XI) (l t : Nat) : Prop := ∀ i, i < t → i < 4 → l < 16 → TeR Y Z (l * 4 + i)
def LoF (Z Z' : XI) (l : Nat) : Prop := (∀ r j, r < 3 → Z' r j = Z r j) ∧ ∀ r k, k < l * 4 → k < 64 → Z' r k = Z r k
theorem LoF.rf (Z : XI) (l : Nat) : LoF Z Z l := ⟨fun _ _ _ => rfl, fun _ _ _ _ => rfl⟩
theorem LoF.tr {Z Z1 Z2 : XI} {l : Nat} (h : LoF Z Z1 l) (h2 : LoF Z1 Z2 l) : LoF Z Z2 l := ⟨fun r j hr => (h2.1 r j hr).trans (h.1 r j hr), fun r k a b => (h2.2 r k a b).trans (h.2 r k a b)⟩
theorem LsR.mono {Y Y' Z Z' : XI} {lf lf' : Int} {n : Nat} (h : LsR Y Z lf n) (f1 : LoF Y Y' n) (f2 : LoF Z Z' n) (hl : lf' = 0 → lf = 0) : LsR Y' Z' lf' n := by
  intro l h1 h2
  obtain ⟨⟨⟨a1, a2, a3⟩, b, c, d, e⟩, g⟩ := h l h1 h2
  refine ⟨⟨⟨?_, ?_, ?_⟩, ?_, ?_, ?_, ?_⟩, ?_⟩
  · rw [f1.1 0 l (by decide), f2.1 0 l (by decide)]; exact a1
  · rw [f1.1 1 l (by decide), f2.1 1 l (by decide)]; exact a2
  · rw [f1.1 2 l (by decide), f2.1 2 l (by decide)]; exact a3
  · rw [f1.1 0 l (by decide)]; exact b
  · rw [f1.1 1 l (by decide)]; exact c
  · rw [f1.1 2 l (by decide)]; exact d
  · rw [f1.1 2 l (by decide)]
    intro i hi
    have k1 : l * 4 + i < n * 4 := by omega
    have k2 : l * 4 + i < 64 := by omega
    have := e i hi
    unfold TeR at this ⊢
    rw [f1.2 3 _ k1 k2, f1.2 4 _ k1 k2, f1.2 5 _ k1 k2, f1.2 6 _ k1 k2, f2.2 3 _ k1 k2, f2.2 4 _ k1 k2, f2.2 5 _ k1 k2, f2.2 6 _ k1 k2]
    exact this
  · rw [f1.1 0 l (by decide), f1.1 1 l (by decide)]; exact fun x => g (hl x)
theorem keT_off {Y : XI} {l i : Nat} {a b c d : Int} {r j : Nat} (h : r < 3 ∨ j ≠ l * 4 + i) : keT Y l i a b c d r j = Y r j := by
  have u : ∀ (Y : XI) (s : Nat) (z : Int), ¬ s < 3 → up Y s (l * 4 + i) z r j = Y r j := fun Y s z hs => by
    by_cases e : r = s
    · subst e; exact up_2 _ (by omega)
    · exact up_1 _ e
  unfold keT
  split
  · rw [u _ _ _ (by decide), u _ _ _ (by decide), u _ _ _ (by decide), u _ _ _ (by decide)]
  · rfl
theorem keT_at {Y : XI} {l i : Nat} {a b c d : Int} (hl : l < 16) (hi : i < 4) : keT Y l i a b c d 3 (l * 4 + i) = a ∧ keT Y l i a b c d 4 (l * 4 + i) = b ∧ keT Y l i a b c d 5 (l * 4 + i) = c ∧ keT Y l i a b c d 6 (l * 4 + i) = d := by
  unfold keT
  rw [if_pos ⟨hl, hi⟩]
  refine ⟨?_, ?_, ?_, up_s _ _ _ _⟩
  · rw [up_1 _ (by decide), up_1 _ (by decide), up_1 _ (by decide), up_s]
  · rw [up_1 _ (by decide), up_1 _ (by decide), up_s]
  · rw [up_1 _ (by decide), up_s]
theorem cu_step {Y Y' Z Z' : XI} {l i kx : Nat} {nt : Int} (hn : nt = 0 ∨ nt = 1) (hk : kx = if i < 4 then 4 * (if l < 16 then l else 16) + i else 68) (t : TOut Y Y' Z' l i kx nt) (f : FZ Z Z' kx) (h : CuR Y Z l i) : LoF Y Y' l ∧ LoF Z Z' l ∧ CuR Y' Z' l (i + 1) := by
  obtain ⟨a, b, c, e, ha, hbc, z1, z2, z3, z4⟩ := t
  subst e
  refine ⟨⟨fun r j hr => keT_off (Or.inl hr), fun r k h1 h2 => keT_off (Or.inr (by omega))⟩, ⟨fun r j hr => f r j (Or.inl hr), fun r k h1 h2 => f r k (Or.inr ?_)⟩, fun j h1 h2 h3 => ?_⟩
  · rw [hk]
    split
    · split <;> omega
    · omega
  · by_cases ej : j = i
    · subst ej
      rw [if_pos h2, if_pos h3] at hk
      have hk : kx = l * 4 + j := by omega
      rw [hk] at z1 z2 z3 z4
      obtain ⟨q1, q2, q3, q4⟩ := keT_at (Y := Y) (a := nt) (b := a) (c := b) (d := c) h3 h2
      unfold TeR
      rw [q1, q2, q3, q4]
      exact ⟨z1, hn, z2, ha, z3, z4⟩
    · have := h j (by omega) h2 h3
      have k1 : l * 4 + j ≠ l * 4 + i := by omega
      have k2 : l * 4 + j ≠ kx := by
        rw [hk]
        split
        · omega
        · omega
      unfold TeR at this ⊢
      rw [keT_off (Or.inr k1), keT_off (Or.inr k1), keT_off (Or.inr k1), keT_off (Or.inr k1), f 3 _ (Or.inr k2), f 4 _ (Or.inr k2), f 5 _ (Or.inr k2), f 6 _ (Or.inr k2)]
      exact this
theorem nt_rel {c : Bool} {x s lf lpC lpR : Int} (h : lf ≠ 0 → lpR = lpC) : ntF c x lf ≠ 0 → ntP c s lf lpR = ntP c s lf lpC := by
  unfold ntF ntP
  split
  · exact fun _ => rfl
  · exact h
theorem ntF_0 {c : Bool} {x lf : Int} (hx : x ≠ 0) (h : ntF c x lf = 0) : lf = 0 := by
  unfold ntF at h
  split at h
  · exact absurd h hx
  · exact h
section TU
variable {G : XG} {S : XS} {T : Nat → Int} {N : Nat} {J0 : XI} {wr n : Int}
theorem tsP_mono {l : Nat} : ∀ (fu i p : Nat) (lf lp : Int) (Y : XI), (tsP T N l fu i p lf lp Y).1 = true → (tsP T N l fu i p lf lp Y).2.2.2.1 = 0 → lf = 0 := by
  intro fu
  induction fu with
  | zero => intro i p lf lp Y h _; cases h
  | succ fu ih =>
    intro i p lf lp Y
    rw [tsP_eq]
    split
    · intro h; cases h
    · split
      · intro h1 h2; exact ntF_0 (by decide) (ih _ _ _ _ _ h1 h2)
      · intro _ h2; exact ntF_0 (by decide) h2
theorem s_RtsP {l l' : Nat} {R : Int → XI → Prop} (hl' : l' = if l < 16 then l else 16) (hS : xSh S) (hN : N ≤ 500) (hT : byt T) (hB : tpe T N J0) : ∀ (fu i p : Nat) (J : XI) (lf lpC lpR : Int) (Y Z : XI), tK T N p = 1 → i ≤ p → p ≤ N → N ≤ p + fu → fok lf → (lf ≠ 0 → lpR = lpC) → QS T N J0 Z J p wr lf lpR n → okZ Z → CuR Y Z l i → (∀ K m p' lf' lpC' lpR' Y' Z', tsP T N l fu i p lf lpC Y = (true, m, p', lf', lpC', Y') → QS T N J0 Z' K p' wr lf' lpR' n → (lf' ≠ 0 → lpR' = lpC') → okZ Z' → LoF Y Y' l → LoF Z Z' l → CuR Y' Z' l m → m ≤ 500 → p' ≤ N → R_oneLine_k47 G S K (l' : Int) (m : Int) 0 R) → (∀ K m p' lf' lpC' Y' a b Z', tsP T N l fu i p lf lpC Y = (false, m, p', lf', lpC', Y') → QS T N J0 Z' K p' (tS T N p') a b n → okZ Z' → R 0 K) → R_oneLine_k47 G S J (l' : Int) (i : Int) 1 R := by
  intro fu
  have l16 : l' ≤ 16 := by rw [hl']; split <;> omega
  induction fu with
  | zero =>
    intro i p J lf lpC lpR Y Z hk hi hp hf
    have := (tK_1 hk).1
    have := tS_ge (T := T) (N := N) (p := p)
    omega
  | succ fu ih =>
    intro i p J lf lpC lpR Y Z hk hi hp hf hfl hrel h hz hcu ok bad
    have hp1 := tE_top (T := T) hp
    have hp2 := tE_lt (T := T) hN (p := p) (by omega)
    have tp := teP_p (T := T) (l := l) (i := i) (Y := Y) hN hp1
    have fl1 : fok (ntF (i == 4) 3 lf) := ntF_ok hfl (Or.inr rfl)
    refine b_R_oneLine_k47 hS (br1 (h.take hS hN hT hB hp (fun J1 h1 => ?_)))
    have k26 : ∀ (J2 : XI) (kx : Nat), kx = (if i < 4 then 4 * l' + i else 68) → QS T N J0 Z J2 (tE T N p) wr (ntF (i == 4) 3 lf) (ntP (i == 4) (tS T N (tE T N p)) lf lpR) n → R_oneTest_k26 G S J2 (kx : Int) (fun r8 I7 => (w32 r8 = 0 → R 0 I7) ∧ (¬ (w32 r8 = 0) → R_isWord G S I7 6385252 (fun r10 I9 => R_oneLine_k47 G S I9 (l' : Int) ((i : Int) + 1) r10 R))) := fun J2 kx ekx h2 => by
      have hkx : kx < 69 := by rw [ekx]; split <;> omega
      refine s_RteP (Y := Y) (l := l) (i := i) h2 hS hN hT hB hp1 hkx hz (fun K p' Y' Z' nt e hK f z hn t => br1 ?_) (fun K p' Y' Z' e hK z => br0 (bad K i p' 1 (tS T N p') Y' _ _ Z' (by rw [tsP_eq, e, if_pos rfl]) hK z))
      rw [e] at tp
      have tp : p' ≤ N ∧ tE T N p ≤ p' := tp
      obtain ⟨f1, f2, cu⟩ := cu_step hn (by rw [← hl']; exact ekx) t f hcu
      have c1 : (i : Int) + 1 = ((i + 1 : Nat) : Int) := by omega
      rw [c1]
      refine s_RisW hS hN tp.1 (x := 12) (by decide) cod_ok.2.2.1.symm hK (fun c => ?_) (fun c => ?_)
      · refine ih (i + 1) p' K _ _ _ Y' Z' (isW_1 c) (by omega) tp.1 (by omega) fl1 (nt_rel hrel) hK z cu (fun K2 m p2 a2 b2 r2 Y2 Z2 e2 q1 q2 q3 q4 q5 q6 q7 q8 => ok K2 m p2 a2 b2 r2 Y2 Z2 ?_ q1 q2 q3 (f1.tr q4) (f2.tr q5) q6 q7 q8) (fun K2 m p2 a2 b2 Y2 a b Z2 e2 q1 q2 => bad K2 m p2 a2 b2 Y2 a b Z2 ?_ q1 q2)
        · rw [tsP_eq, e, if_neg (fun x => (by cases x)), if_pos c]; exact e2
        · rw [tsP_eq, e, if_neg (fun x => (by cases x)), if_pos c]; exact e2
      · exact ok K (i + 1) p' _ _ _ Y' Z' (by rw [tsP_eq, e, if_neg (fun x => (by cases x)), if_neg (by rw [c]; decide)]) hK (nt_rel hrel) z f1 f2 cu (by omega) tp.1
    refine b_R_oneTest hS ?_
    have c0 : 4 * (l' : Int) + (i : Int) = ((4 * l' + i : Nat) : Int) := by omega
    rw [w32_nat (k := i) (by omega), show w32 4 = 4 from rfl, c0]
    refine ⟨fun x => ⟨fun y => h1.later hS hfl (fun J2 h2 => k26 J2 68 (by rw [if_neg (by omega)]) ?_), fun y => k26 J1 68 (by rw [if_neg (by omega)]) ?_⟩, fun x => ⟨fun y => absurd y (by omega), fun y => k26 J1 (4 * l' + i) (by rw [if_pos (by omega)]) ?_⟩⟩
    · have e4 : i = 4 := by omega
      rw [e4]; exact h2
    · have e4 : (i == 4) = false := beq_eq_false_iff_ne.mpr (by omega)
      rw [e4, ntF_f, ntP_f]; exact h1
    · have e4 : (i == 4) = false := beq_eq_false_iff_ne.mpr (by omega)
      rw [e4, ntF_f, ntP_f]; exact h1
theorem keL_r {Y : XI} {l : Nat} {a b s : Int} {r j : Nat} (h : 3 ≤ r ∨ j ≠ l) : keL (keN Y l s) l a b r j = Y r j := by
  have u : ∀ (Y : XI) (x : Nat) (z : Int), x < 3 → up Y x l z r j = Y r j := fun Y x z hx => by
    by_cases e : r = x
    · subst e; exact up_2 _ (by omega)
    · exact up_1 _ e
  unfold keL keN
  split
  · rw [u _ _ _ (by decide), u _ _ _ (by decide), u _ _ _ (by decide)]
  · rfl
theorem keL_at {Y : XI} {l : Nat} {a b s : Int} (hl : l < 16) : keL (keN Y l s) l a b 0 l = a ∧ keL (keN Y l s) l a b 1 l = b ∧ keL (keN Y l s) l a b 2 l = s := by
  unfold keL keN
  rw [if_pos hl, if_pos hl]
  exact ⟨by rw [up_1 _ (by decide), up_s], up_s _ _ _ _, by rw [up_1 _ (by decide), up_1 _ (by decide), up_s]⟩
theorem ls_new {Y Z Z' : XI} {lf lf' act num : Int} {l l' m : Nat} (hl' : l' = if l < 16 then l else 16) (h : LsR Y Z lf l) (hcu : CuR Y Z l m) (fz : ∀ r j, (3 ≤ r ∨ j ≠ l') → Z' r j = Z r j) (z0 : Z' 0 l' = act) (z1 : Z' 1 l' = num) (z2 : Z' 2 l' = mi4 m) (ha : 0 ≤ act ∧ act ≤ 2) (hnm : 0 ≤ num ∧ num ≤ 9999) (hf : lf' = 0 → lf = 0) (hw : lf' = 0 → act = 1 → 1 ≤ num ∧ num ≤ 99) : LsR (keL (keN Y l (mi4 m)) l act num) Z' lf' (l + 1) := by
  intro x h1 h2
  have te : ∀ i, TeR Y Z (x * 4 + i) → TeR (keL (keN Y l (mi4 m)) l act num) Z' (x * 4 + i) := fun i t => by
    unfold TeR at t ⊢
    rw [keL_r (Or.inl (by decide)), keL_r (Or.inl (by decide)), keL_r (Or.inl (by decide)), keL_r (Or.inl (by decide)), fz 3 _ (Or.inl (by decide)), fz 4 _ (Or.inl (by decide)), fz 5 _ (Or.inl (by decide)), fz 6 _ (Or.inl (by decide))]
    exact t
  by_cases e : x = l
  · subst e
    rw [if_pos h2] at hl'
    rw [hl'] at z0 z1 z2
    obtain ⟨q0, q1, q2⟩ := keL_at (Y := Y) (a := act) (b := num) (s := mi4 m) h2
    have m4 : 0 ≤ mi4 m ∧ mi4 m ≤ 4 ∧ mi4 m ≤ (m : Int) := by unfold mi4; split <;> omega
    unfold LnR
    rw [q0, q1, q2]
    exact ⟨⟨⟨z0, z1, z2⟩, ha, hnm, ⟨m4.1, m4.2.1⟩, fun i hi => te i (hcu i (by omega) (by omega) h2)⟩, hw⟩
  · have xl : x ≠ l' := by rw [hl']; split <;> omega
    obtain ⟨⟨⟨a1, a2, a3⟩, b, c, d, t⟩, g⟩ := h x (by omega) h2
    unfold LnR
    rw [keL_r (Or.inr e), keL_r (Or.inr e), keL_r (Or.inr e), fz 0 x (Or.inr xl), fz 1 x (Or.inr xl), fz 2 x (Or.inr xl)]
    exact ⟨⟨⟨a1, a2, a3⟩, b, c, d, fun i hi => te i (t i hi)⟩, fun y => g (hf y)⟩
theorem s_Rk91 {l l' m p : Nat} {J Y Z : XI} {lf lpC lpR : Int} {R : Int → XI → Prop} (hl' : l' = if l < 16 then l else 16) (hS : xSh S) (hN : N ≤ 500) (hT : byt T) (hB : tpe T N J0) (hp : p ≤ N) (hm : m ≤ 500) (hl : l ≤ 500) (hfl : fok lf) (hrel : lf ≠ 0 → lpR = lpC) (h : QS T N J0 Z J p wr lf lpR (l : Int)) (hz : okZ Z) (hls : LsR Y Z lf l) (hcu : CuR Y Z l m) (ok : ∀ K p' lf' lpC' lpR' Y' Z', deP T N l p lf lpC (keN Y l (mi4 m)) = (true, p', lf', lpC', Y') → QS T N J0 Z' K p' wr lf' lpR' ((l + 1 : Nat) : Int) → (lf' ≠ 0 → lpR' = lpC') → okZ Z' → LsR Y' Z' lf' (l + 1) → (lf' = 0 → lf = 0) → R 1 K) (bad : ∀ K p' lf' lpC' Y' a b c Z', deP T N l p lf lpC (keN Y l (mi4 m)) = (false, p', lf', lpC', Y') → QS T N J0 Z' K p' (tS T N p') a b c → okZ Z' → R 0 K) : R_oneLine_k91 G S J (l' : Int) (m : Int) R := by
  have l16 : l' ≤ 16 := by rw [hl']; split <;> omega
  have ib : inb (l' : Int) 17 := inb_b (by omega) (by omega) (by decide)
  have hp1 := tE_top (T := T) hp
  have hp2 := tE_top (T := T) hp1
  have kl := tK_le (T := T) (N := N) (p := tE T N p)
  have kc := kR_c (tK T N (tE T N p)) (by omega)
  have m4 : 0 ≤ mi4 m ∧ mi4 m ≤ 4 := by unfold mi4; split <;> omega
  have k246 : ∀ K p1 lf1 lpC1 lpR1 Y1 Z1, deP T N l p lf lpC (keN Y l (mi4 m)) = enP T N p1 lf1 lpC1 Y1 → QS T N J0 Z1 K p1 wr lf1 lpR1 (l : Int) → (lf1 ≠ 0 → lpR1 = lpC1) → okZ Z1 → LsR Y1 Z1 lf1 (l + 1) → p1 ≤ N → (lf1 = 0 → lf = 0) → R_oneLine_k246 G S K R := fun K p1 lf1 lpC1 lpR1 Y1 Z1 e hK hr hz1 hls1 hp' hmo => by
    refine b_R_oneLine_k246 hS (fun I32 e32 => ?_)
    have h32 : QS T N J0 Z1 I32 p1 wr lf1 lpR1 ((l + 1 : Nat) : Int) := by
      rw [e32, hK.num]
      obtain ⟨v, w, q, qv⟩ := hK
      have := q.w68 ((l : Int) + 1)
      exact ⟨v, w, this, qv⟩
    refine h32.need hS hN hT hB hp' (by decide) (fun K2 c q => ⟨Or.inr rfl, ok K2 (tE T N p1) lf1 lpC1 lpR1 Y1 Z1 (e.trans ?_) q hr hz1 hls1 hmo⟩) (fun K2 c q => ⟨Or.inl rfl, bad K2 p1 1 ((tS T N p1 : Nat) : Int) Y1 _ _ _ Z1 (e.trans ?_) q hz1⟩)
    · unfold enP; rw [if_pos c]
    · unfold enP; rw [if_neg c]
  have k106 : R_oneLine_k106 G S J (l' : Int) (mi4 m) (l' : Int) R := by
    refine b_R_oneLine_k106 hS ?_
    rw [ix_nat (k := l') (by omega)]
    refine ⟨ib, fun I11 e11 => ?_⟩
    have h11 := h.row (r := 2) l' (mi4 m) (by decide)
    rw [show up J (135 + 2) l' (mi4 m) = I11 from e11.symm] at h11
    have hz11 : okZ (up Z 2 l' (mi4 m)) := hz.wr (by decide) ⟨by omega, by omega⟩
    have k155 : ∀ act : Int, (-1 ≤ act ∧ act ≤ 2) → (act = 0 ↔ isW T N p 13 = true) → (act = 1 ↔ isW T N p 14 = true) → (act = 2 ↔ isW T N p 15 = true) → R_oneLine_k155 G S I11 (l' : Int) act (l' : Int) R := fun act hact a0 a1 a2 => by
      refine b_R_oneLine_k155 hS ?_
      rw [ix_nat (k := l') (by omega)]
      refine ⟨ib, fun I18 e18 => ⟨ib, fun I19 e19 => ⟨ib, ?_⟩⟩⟩
      have h19 := (h11.row (r := 0) l' act (by decide)).row (r := 1) l' 0 (by decide)
      have E19 : I19 = up (up I11 (135 + 0) l' act) (135 + 1) l' 0 := by rw [e19, e18]
      rw [← E19] at h19
      have hz19 : okZ (up (up (up Z 2 l' (mi4 m)) 0 l' act) 1 l' 0) := (hz11.wr (by decide) ⟨by omega, by omega⟩).wr (by decide) ⟨by decide, by decide⟩
      have fz : ∀ r j, (3 ≤ r ∨ j ≠ l') → up (up (up Z 2 l' (mi4 m)) 0 l' act) 1 l' 0 r j = Z r j := fun r j hr => by
        have u : ∀ (Y : XI) (x : Nat) (z : Int), x < 3 → up Y x l' z r j = Y r j := fun Y x z hx => by
          by_cases e : r = x
          · subst e; exact up_2 _ (by omega)
          · exact up_1 _ e
        rw [u _ _ _ (by decide), u _ _ _ (by decide), u _ _ _ (by decide)]
      have z0 : up (up (up Z 2 l' (mi4 m)) 0 l' act) 1 l' 0 0 l' = act := by rw [up_1 _ (by decide), up_s]
      have z1 : up (up (up Z 2 l' (mi4 m)) 0 l' act) 1 l' 0 1 l' = 0 := up_s _ _ _ _
      have z2 : up (up (up Z 2 l' (mi4 m)) 0 l' act) 1 l' 0 2 l' = mi4 m := by rw [up_1 _ (by decide), up_1 _ (by decide), up_s]
      generalize up (up (up Z 2 l' (mi4 m)) 0 l' act) 1 l' 0 = Z1 at h19 hz19 fz z0 z1 z2
      have ra : ∀ K : XI, K (135 + 0) = Z1 0 → K r_newAct l' = act := fun K eK => (congrFun eK l').trans z0
      rw [ra I19 (h19.rw' (r := 0) (by decide)), w32_id (z := act) (by omega) (by omega), show w32 (-1) = -1 from rfl]
      refine ⟨fun e => h19.wrong hS (fun K hK => bad K p 1 ((tS T N p : Nat) : Int) (keN Y l (mi4 m)) _ _ _ Z1 ?_ hK hz19), fun e => h19.take hS hN hT hB hp (fun I22 h22 => ⟨ib, ?_⟩)⟩
      · unfold deP
        rw [if_neg (fun x => by have := a0.mpr x; omega), if_neg (fun x => by have := a1.mpr x; omega), if_neg (fun x => by have := a2.mpr x; omega)]
      rw [ra I22 (h22.rw' (r := 0) (by decide)), w32_id (z := act) (by omega) (by omega)]
      refine ⟨fun x => ?_, fun x => ?_⟩
      · refine k246 I22 (tE T N p) lf lpC lpR (keL (keN Y l (mi4 m)) l 0 0) Z1 ?_ h22 hrel hz19 (ls_new hl' hls hcu fz (by rw [z0]; exact x) z1 z2 (by decide) (by decide) (fun y => y) (fun _ y => absurd y (by decide))) hp1 (fun y => y)
        unfold deP
        rw [if_pos (a0.mp x)]
      · rw [h22.sort, show w32 3 = 3 from rfl, kc.2.1]
        have n13 : ¬ isW T N p 13 = true := fun y => x (a0.mpr y)
        refine ⟨fun e3 => ⟨ib, fun I23 e23 => ⟨ib, ?_⟩⟩, fun e3 => h22.wrong hS (fun K hK => bad K (tE T N p) 1 ((tS T N (tE T N p) : Nat) : Int) (keN Y l (mi4 m)) _ _ _ Z1 ?_ hK hz19)⟩
        rotate_left
        · unfold deP
          rw [if_neg n13]
          by_cases c14 : act = 1
          · rw [if_pos (a1.mp c14), if_neg e3]
          · rw [if_neg (fun y => c14 (a1.mpr y)), if_pos (a2.mp (by omega)), if_neg e3]
        have vn := tV_num hN e3
        rw [h22.val (Or.inl e3)] at e23
        have h23 := h22.row (r := 1) l' (tV T N (tE T N p)) (by decide)
        rw [show up I22 (135 + 1) l' (tV T N (tE T N p)) = I23 from e23.symm] at h23
        have hz23 : okZ (up Z1 1 l' (tV T N (tE T N p))) := hz19.wr (by decide) ⟨by omega, by omega⟩
        have fz2 : ∀ r j, (3 ≤ r ∨ j ≠ l') → up Z1 1 l' (tV T N (tE T N p)) r j = Z r j := fun r j hr => by
          by_cases e : r = 1
          · subst e; rw [up_2 _ (by omega)]; exact fz 1 j hr
          · rw [up_1 _ e]; exact fz r j hr
        have y0 : up Z1 1 l' (tV T N (tE T N p)) 0 l' = act := by rw [up_1 _ (by decide)]; exact z0
        have y1 : up Z1 1 l' (tV T N (tE T N p)) 1 l' = tV T N (tE T N p) := up_s _ _ _ _
        have y2 : up Z1 1 l' (tV T N (tE T N p)) 2 l' = mi4 m := by rw [up_1 _ (by decide)]; exact z2
        generalize up Z1 1 l' (tV T N (tE T N p)) = Z2 at h23 hz23 fz2 y0 y1 y2
        have rb : I23 r_newAct l' = act := (congrFun (h23.rw' (r := 0) (by decide)) l').trans y0
        rw [rb, w32_id (z := act) (by omega) (by omega), show w32 1 = 1 from rfl, h23.val (Or.inl e3)]
        refine ⟨fun c14 => ?_, fun c14 => ?_⟩
        · have w14 := a1.mp c14
          have de : deP T N l p lf lpC (keN Y l (mi4 m)) = enP T N (tE T N (tE T N p)) (ntF (bdW (tV T N (tE T N p))) 2 lf) (ntP (bdW (tV T N (tE T N p))) (tS T N (tE T N p)) lf lpC) (keL (keN Y l (mi4 m)) l 1 (tV T N (tE T N p))) := by
            unfold deP
            rw [if_neg n13, if_pos w14, if_pos e3]
          refine s_Rin hS ⟨by omega, by omega⟩ ⟨by decide, by decide⟩ ⟨by decide, by decide⟩ (fun u1 u2 => br1 ?_) (fun u => br0 ?_)
          · have bf : bdW (tV T N (tE T N p)) = false := decide_eq_false (fun y => y ⟨u1, u2⟩)
            rw [bf, ntF_f, ntP_f] at de
            exact h23.take hS hN hT hB hp1 (fun I28 h28 => k246 I28 _ _ _ _ _ Z2 de h28 hrel hz23 (ls_new hl' hls hcu fz2 (by rw [y0]; exact c14) y1 y2 (by decide) (by omega) (fun y => y) (fun _ _ => ⟨u1, u2⟩)) hp2 (fun y => y))
          · have bt : bdW (tV T N (tE T N p)) = true := decide_eq_true u
            rw [bt] at de
            refine h23.later hS hfl (fun I26 h26 => h26.take hS hN hT hB hp1 (fun I27 h27 => k246 I27 _ _ _ _ _ Z2 de h27 (nt_rel hrel) hz23 (ls_new hl' hls hcu fz2 (by rw [y0]; exact c14) y1 y2 (by decide) (by omega) (fun y => ntF_0 (by decide) y) (fun y => ?_)) hp2 (fun y => ntF_0 (by decide) y)))
            exfalso
            have l0 := ntF_0 (by decide) y
            unfold ntF at y
            rw [if_pos ⟨rfl, l0⟩] at y
            exact absurd y (by decide)
        · have e2 : act = 2 := by omega
          have w15 := a2.mp e2
          have de : deP T N l p lf lpC (keN Y l (mi4 m)) = enP T N (tE T N (tE T N p)) lf lpC (keL (keN Y l (mi4 m)) l 2 (tV T N (tE T N p))) := by
            unfold deP
            rw [if_neg n13, if_neg (fun y => c14 (a1.mpr y)), if_pos w15, if_pos e3]
          exact h23.take hS hN hT hB hp1 (fun I29 h29 => k246 I29 _ _ _ _ _ Z2 de h29 hrel hz23 (ls_new hl' hls hcu fz2 (by rw [y0]; exact e2) y1 y2 (by decide) (by omega) (fun y => y) (fun _ y => absurd y (by decide))) hp2 (fun y => y))
    have dj : ∀ a b, a < 16 → b < 16 → a ≠ b → isW T N p a = true → ¬ isW T N p b = true := fun a b ha hb hab x y => hab (isW_inj ha hb x y)
    refine s_RisW hS hN hp (x := 13) (by decide) cod_ok.2.2.2.1.symm h11 (fun c => br1 (k155 0 (by decide) ⟨fun _ => c, fun _ => rfl⟩ ⟨fun y => absurd y (by decide), fun y => absurd y (dj 13 14 (by decide) (by decide) (by decide) c)⟩ ⟨fun y => absurd y (by decide), fun y => absurd y (dj 13 15 (by decide) (by decide) (by decide) c)⟩)) (fun c13 => br0 ?_)
    have n13 : ¬ isW T N p 13 = true := by rw [c13]; decide
    refine s_RisW hS hN hp (x := 14) (by decide) cod_ok.2.2.2.2.1.symm h11 (fun c => br1 (k155 1 (by decide) ⟨fun y => absurd y (by decide), fun y => absurd y n13⟩ ⟨fun _ => c, fun _ => rfl⟩ ⟨fun y => absurd y (by decide), fun y => absurd y (dj 14 15 (by decide) (by decide) (by decide) c)⟩)) (fun c14 => br0 ?_)
    have n14 : ¬ isW T N p 14 = true := by rw [c14]; decide
    refine s_RisW hS hN hp (x := 15) (by decide) cod_ok.2.2.2.2.2.symm h11 (fun c => br1 (k155 2 (by decide) ⟨fun y => absurd y (by decide), fun y => absurd y n13⟩ ⟨fun y => absurd y (by decide), fun y => absurd y n14⟩ ⟨fun _ => c, fun _ => rfl⟩)) (fun c15 => br0 ?_)
    have n15 : ¬ isW T N p 15 = true := by rw [c15]; decide
    exact k155 (-1) (by decide) ⟨fun y => absurd y (by decide), fun y => absurd y n13⟩ ⟨fun y => absurd y (by decide), fun y => absurd y n14⟩ ⟨fun y => absurd y (by decide), fun y => absurd y n15⟩
  refine b_R_oneLine_k91 hS ?_
  rw [w32_nat (k := m) (by omega), show w32 4 = 4 from rfl]
  have e4 : ∀ z : Int, z = mi4 m → R_oneLine_k106 G S J (l' : Int) z (l' : Int) R := fun z ez => by rw [ez]; exact k106
  refine ⟨fun x => e4 4 ?_, fun x => e4 (m : Int) ?_⟩
  · unfold mi4; rw [if_neg (by omega)]
  · unfold mi4; rw [if_pos (by omega)]
end TU
