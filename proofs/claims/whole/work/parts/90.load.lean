/-! ===== load: the best set of KINDS ===== -/
abbrev T3 := Int × Int × Int
def trL (L W Gr : Nat → Int) (s : Nat) : Nat → T3
  | 0 => (0, 0, 0)
  | k + 1 => if bitN s k = 1 ∧ L k ≠ -1 then ((trL L W Gr s k).1 + W k, (trL L W Gr s k).2.1 + Gr (L k).toNat, ior (trL L W Gr s k).2.2 (ishl 1 (L k))) else trL L W Gr s k
abbrev btr (t b : T3) : Prop := b.1 < t.1 ∨ (t.1 = b.1 ∧ (t.2.1 < b.2.1 ∨ (t.2.1 = b.2.1 ∧ t.2.2 < b.2.2)))
/-- the best of the sets up to n -/
def bst (T : Nat → T3) (g : Int) : Nat → T3
  | 0 => (0, 0, 0)
  | n + 1 => if (T (n + 1)).2.1 ≤ g ∧ btr (T (n + 1)) (bst T g n) then T (n + 1) else bst T g n
theorem bst_top {T : Nat → T3} {g : Int} (h0 : T 0 = (0, 0, 0)) : ∀ n s, s ≤ n → (T s).2.1 ≤ g → ¬ btr (T s) (bst T g n) := by
  intro n
  induction n with
  | zero =>
    intro s hs _
    have e : s = 0 := by omega
    subst e
    rw [h0]
    show ¬ btr (0, 0, 0) (0, 0, 0)
    decide
  | succ n ih =>
    intro s hs hg
    unfold bst
    by_cases c : (T (n + 1)).2.1 ≤ g ∧ btr (T (n + 1)) (bst T g n)
    · rw [if_pos c]
      by_cases e : s = n + 1
      · subst e; intro q; unfold btr at q; omega
      · intro q
        refine ih s (by omega) hg ?_
        have c2 := c.2
        unfold btr at q c2 ⊢
        omega
    · rw [if_neg c]
      by_cases e : s = n + 1
      · subst e; exact fun q => c ⟨hg, q⟩
      · exact ih s (by omega) hg
def okS (L : Nat → Int) (s k : Nat) : Prop := ∀ i, i < k → bitN s i = 1 → L i ≠ -1
def clrA : Bool := (List.range 256).all fun s => (List.range 8).all fun k => bitN s k != 1 || (List.range 8).all fun i => bitN (s - 2 ^ k) i == (if i = k then 0 else bitN s i)
theorem clrA_ok : clrA = true := by decide +kernel
theorem clr_at {s k i : Nat} (hs : s < 256) (hk : k < 8) (hi : i < 8) (hb : bitN s k = 1) : bitN (s - 2 ^ k) i = if i = k then 0 else bitN s i := by
  have h1 := List.all_eq_true.1 clrA_ok s (List.mem_range.2 hs)
  have h2 := List.all_eq_true.1 h1 k (List.mem_range.2 hk)
  rw [hb] at h2
  have h3 : ((List.range 8).all fun i => bitN (s - 2 ^ k) i == (if i = k then 0 else bitN s i)) = true := by simpa using h2
  have h4 := List.all_eq_true.1 h3 i (List.mem_range.2 hi)
  exact eq_of_beq h4
theorem trL_cong {L W Gr : Nat → Int} {s s' : Nat} : ∀ k, (∀ i, i < k → ((bitN s i = 1 ∧ L i ≠ -1) ↔ (bitN s' i = 1 ∧ L i ≠ -1))) → trL L W Gr s k = trL L W Gr s' k := by
  intro k
  induction k with
  | zero => intro _; rfl
  | succ k ih =>
    intro h
    have e := ih (fun i hi => h i (by omega))
    have q := h k (by omega)
    unfold trL
    rw [e]
    by_cases c : bitN s k = 1 ∧ L k ≠ -1
    · rw [if_pos c, if_pos (q.1 c)]
    · rw [if_neg c, if_neg (fun x => c (q.2 x))]
/-- a set with a KIND that has no BOOK is as good as a smaller one -/
theorem trL_less {L W Gr : Nat → Int} {s : Nat} (hs : s < 256) (h : ¬ okS L s 8) : ∃ s', s' < s ∧ trL L W Gr s' 8 = trL L W Gr s 8 := by
  unfold okS at h
  have : ∃ k, k < 8 ∧ bitN s k = 1 ∧ L k = -1 := by
    refine Classical.byContradiction (fun q => h (fun i hi hb hl => q ⟨i, hi, hb, hl⟩))
  obtain ⟨k, hk, hb, hl⟩ := this
  have sp : 0 < s := by
    refine Nat.pos_of_ne_zero (fun e => ?_)
    rw [e, bitN_0] at hb
    exact absurd hb (by decide)
  have pp : 0 < 2 ^ k := Nat.two_pow_pos k
  refine ⟨s - 2 ^ k, by omega, trL_cong 8 (fun i hi => ?_)⟩
  rw [clr_at hs hk hi hb]
  by_cases e : i = k
  · subst e; rw [if_pos rfl]; exact ⟨fun x => absurd x.1 (by decide), fun x => absurd hl x.2⟩
  · rw [if_neg e]
theorem trL_in {L W Gr : Nat → Int} (hL : ∀ k, k < 8 → L k = -1 ∨ (0 ≤ L k ∧ L k < 24)) (hW : ∀ k, k < 8 → 0 ≤ W k ∧ W k ≤ 99) (hG : ∀ k, k < 8 → L k ≠ -1 → 0 ≤ Gr (L k).toNat ∧ Gr (L k).toNat ≤ 2000) (s : Nat) : ∀ k, k ≤ 8 → (0 ≤ (trL L W Gr s k).1 ∧ (trL L W Gr s k).1 ≤ 99 * k) ∧ (0 ≤ (trL L W Gr s k).2.1 ∧ (trL L W Gr s k).2.1 ≤ 2000 * k) ∧ 0 ≤ (trL L W Gr s k).2.2 ∧ (trL L W Gr s k).2.2 < 16777216 := by
  intro k
  induction k with
  | zero =>
    intro _
    show ((0 : Int) ≤ 0 ∧ (0 : Int) ≤ 99 * ((0 : Nat) : Int)) ∧ ((0 : Int) ≤ 0 ∧ (0 : Int) ≤ 2000 * ((0 : Nat) : Int)) ∧ (0 : Int) ≤ 0 ∧ (0 : Int) < 16777216
    decide
  | succ k ih =>
    intro hk
    have i := ih (by omega)
    unfold trL
    by_cases c : bitN s k = 1 ∧ L k ≠ -1
    · rw [if_pos c]
      have w := hW k (by omega)
      have g := hG k (by omega) c.2
      have l := (hL k (by omega)).resolve_left c.2
      obtain ⟨b, hb⟩ : ∃ b : Nat, L k = (b : Int) := ⟨(L k).toNat, by omega⟩
      have z := (bit_set (w := (trL L W Gr s k).2.2) (b := b) i.2.2.1 i.2.2.2 (by omega)).1
      rw [← hb] at z
      refine ⟨?_, ?_, z⟩
      · show 0 ≤ (trL L W Gr s k).1 + W k ∧ (trL L W Gr s k).1 + W k ≤ _
        omega
      · show 0 ≤ (trL L W Gr s k).2.1 + Gr (L k).toNat ∧ (trL L W Gr s k).2.1 + Gr (L k).toNat ≤ _
        omega
    · rw [if_neg c]
      omega
theorem bst_in {T : Nat → T3} {g : Int} {P : T3 → Prop} (h0 : P (0, 0, 0)) (h : ∀ s, P (T s)) : ∀ n, P (bst T g n) := by
  intro n
  induction n with
  | zero => exact h0
  | succ n ih =>
    unfold bst
    split
    · exact h _
    · exact ih
theorem bit_nat {s k : Nat} (hs : s < 256) (hk : k < 8) : iand (ishr (s : Int) (k : Int)) 1 = ((bitN s k : Nat) : Int) := by
  rw [(bit_read (w := (s : Int)) (k := k) (by omega) (by omega) (by omega)).1, bitI_N]
section PLf
variable {G : XG} {S : XS} {I : XI}
abbrev TL (I : XI) (L : Nat → Int) (c : Nat) (s : Nat) : T3 := trL L (fun k => I r_wishes (c * 8 + k)) (I r_bookGrams) s 8
abbrev in3 (t : T3) : Prop := (0 ≤ t.1 ∧ t.1 ≤ 792) ∧ (0 ≤ t.2.1 ∧ t.2.1 ≤ 16000) ∧ 0 ≤ t.2.2 ∧ t.2.2 < 16777216
theorem s_Bo_isBetter {t : T3} {J : XI} {b : T3} {R : Int → XI → Prop} (hS : xSh S) (ht : in3 t) (hb : in3 b) (e0 : J c_box 0 = b.1) (e1 : J c_box 1 = b.2.1) (e2 : J c_box 2 = b.2.2) (h1 : btr t b → R 1 J) (h0 : ¬ btr t b → R 0 J) : Bo_isBetter G S J t.1 t.2.1 t.2.2 R := by
  refine b_Bo_isBetter hS ?_
  unfold in3 at ht hb
  unfold btr at h1 h0
  rw [e0, e1, e2, w32_b (z := t.1) (by omega) (by omega), w32_b (z := t.2.1) (by omega) (by omega), w32_b (z := t.2.2) (by omega) (by omega), w32_b (z := b.1) (by omega) (by omega), w32_b (z := b.2.1) (by omega) (by omega), w32_b (z := b.2.2) (by omega) (by omega)]
  exact ⟨fun x => ⟨fun y => ⟨fun z => h0 (by omega), fun z => h1 (by omega)⟩, fun y => ⟨fun z => h0 (by omega), fun z => h1 (by omega)⟩⟩, fun x => ⟨fun z => h0 (by omega), fun z => h1 (by omega)⟩⟩
/-- the class' choice -/
theorem s_Bo_choose {L : Nat → Int} {c : Nat} {J : XI} {g : Int} {R : XI → Prop} (hS : xSh S) (hJ : Rel S J) (hc : c < nM J) (hg : InR g) (hL : ∀ k, k < 8 → L k = -1 ∨ (0 ≤ L k ∧ L k < (nB J : Int))) (lt : ∀ k, k < 8 → J c_box_lightest k = L k) (h : ∀ F, (∀ a, a ≠ 73 → F a = J a) → F c_box 0 = (bst (TL J L c) g 255).1 → F c_box 1 = (bst (TL J L c) g 255).2.1 → F c_box 2 = (bst (TL J L c) g 255).2.2 → R F) : Bo_choose G S J (c : Int) g R := by
  have cb := nB_c hJ.good
  have cm := nM_c hJ.good
  have gW := hJ.good.2.2.2.1.2.2
  have gB := hJ.good.2.2.2.2.2.1.2
  have b3 : ∀ s k, k ≤ 8 → _ := fun s k hk => trL_in (L := L) (W := fun k => J r_wishes (c * 8 + k)) (Gr := J r_bookGrams) (fun k hk => by have := hL k hk; omega) (fun k hk => gW (c * 8 + k) (by omega)) (fun k hk q => by
    have x := (hL k hk).resolve_left q
    have y := (gB (L k).toNat (by omega)).2.2.2.2
    omega) s k hk
  have i3 : ∀ s, in3 (TL J L c s) := fun s => by have := b3 s 8 (Nat.le_refl _); exact this
  have ib : ∀ n, in3 (bst (TL J L c) g n) := fun n => bst_in (P := in3) ⟨⟨by decide, by decide⟩, ⟨by decide, by decide⟩, by decide, by decide⟩ i3 n
  refine b_Bo_choose hS (fun I1 e1 I2 e2 I3 e3 => ?_)
  have key : ∀ m n F, n + 1 + m = 256 → (∀ a, a ≠ 73 → F a = J a) → F c_box 0 = (bst (TL J L c) g n).1 → F c_box 1 = (bst (TL J L c) g n).2.1 → F c_box 2 = (bst (TL J L c) g n).2.2 → Bo_choose_k18 G S F (c : Int) g ((n + 1 : Nat) : Int) R := by
    intro m
    induction m with
    | zero =>
      intro n F e f d0 d1 d2
      refine b_Bo_choose_k18 hS ?_
      have en : n = 255 := by omega
      subst en
      exact ⟨fun _ => h F f d0 d1 d2, fun q => absurd (by decide) q⟩
    | succ m ih =>
      intro n F e f d0 d1 d2
      refine b_Bo_choose_k18 hS ?_
      rw [w32_nat (k := n + 1) (by omega), show w32 256 = 256 from rfl]
      refine ⟨fun q => absurd q (by omega), fun _ => ?_⟩
      have go : ∀ m k, k + m = 8 → ∀ t : T3, t = trL L (fun k => J r_wishes (c * 8 + k)) (J r_bookGrams) (n + 1) k → Bo_choose_k38 G S F (c : Int) g ((n + 1 : Nat) : Int) t.1 t.2.1 t.2.2 (k : Int) R := by
        intro m'
        induction m' with
        | zero =>
          intro k ek t et
          have k8 : k = 8 := by omega
          subst k8
          have et' : t = TL J L c (n + 1) := et
          refine b_Bo_choose_k38 hS ?_
          have x := i3 (n + 1)
          rw [← et'] at x
          unfold in3 at x
          rw [w32_r hg, w32_b (z := t.2.1) (by omega) (by omega)]
          refine ⟨fun _ => ⟨fun y => ih (n + 1) F (by omega) f ?_ ?_ ?_, fun y => s_Bo_isBetter (b := bst (TL J L c) g n) hS x (ib n) d0 d1 d2 (fun z => br1 (fun K1 q1 K2 q2 K3 q3 => ?_)) (fun z => br0 (ih (n + 1) F (by omega) f ?_ ?_ ?_))⟩, fun q => absurd (by decide) q⟩
          · unfold bst; rw [if_neg (fun q => by have := q.1; rw [← et'] at this; omega)]; exact d0
          · unfold bst; rw [if_neg (fun q => by have := q.1; rw [← et'] at this; omega)]; exact d1
          · unfold bst; rw [if_neg (fun q => by have := q.1; rw [← et'] at this; omega)]; exact d2
          · have eb : bst (TL J L c) g (n + 1) = t := by
              show (if _ then _ else _) = t
              rw [← et', if_pos ⟨by omega, z⟩]
            refine ih (n + 1) K3 (by omega) (fun a ha => by rw [q3, up_row ha, q2, up_row ha, q1, up_row ha]; exact f a ha) ?_ ?_ ?_
            · rw [eb, q3, up_2 _ (by decide), q2, up_2 _ (by decide), q1, up_s]
            · rw [eb, q3, up_2 _ (by decide), q2, up_s]
            · rw [eb, q3, up_s]
          · unfold bst; rw [if_neg (fun q => z (by have := q.2; rw [← et'] at this; exact this))]; exact d0
          · unfold bst; rw [if_neg (fun q => z (by have := q.2; rw [← et'] at this; exact this))]; exact d1
          · unfold bst; rw [if_neg (fun q => z (by have := q.2; rw [← et'] at this; exact this))]; exact d2
        | succ m' ih' =>
          intro k ek t et
          have k8 : k < 8 := by omega
          refine b_Bo_choose_k38 hS ?_
          rw [w32_nat (k := k) (by omega), show w32 8 = 8 from rfl, bit_nat (s := n + 1) (by omega) k8, ix_nat (k := k) (by omega), f c_box_lightest (by decide), lt k k8, show w32 1 = 1 from rfl, show w32 (-1) = -1 from rfl]
          have b01 := bitN_01 (n + 1) k
          rw [w32_nat (k := bitN (n + 1) k) (by omega)]
          have hl := hL k k8
          rw [w32_b (z := L k) (by omega) (by omega)]
          refine ⟨fun q => absurd q (by omega), fun _ => ⟨inb_b (by omega) (by omega) (by decide), fun y => ⟨fun z => ?_, fun z => ⟨inb_b (by omega) (by omega) (by decide), inb_b (by omega) (by omega) (by decide), ?_⟩⟩, fun y => ?_⟩⟩
          · exact ih' (k + 1) (by omega) t (by unfold trL; rw [if_neg (fun q => q.2 z)]; exact et)
          · have l := hl.resolve_left z
            obtain ⟨b, hb⟩ : ∃ b : Nat, L k = (b : Int) := ⟨(L k).toNat, by omega⟩
            rw [show (c : Int) * 8 + (k : Int) = ((c * 8 + k : Nat) : Int) by omega, ix_nat (k := c * 8 + k) (by omega), f c_herds_wishes (by decide), f c_shelf_grams (by decide), pl_wishes hJ.pl _ (by omega), hb, ix_nat (k := b) (by omega), pl_bookGrams hJ.pl b (by omega)]
            refine ih' (k + 1) (by omega) (t.1 + J r_wishes (c * 8 + k), t.2.1 + J r_bookGrams b, ior t.2.2 (ishl 1 (b : Int))) ?_
            unfold trL
            rw [if_pos ⟨by omega, z⟩, ← et, hb, Int.toNat_natCast]
          · exact ih' (k + 1) (by omega) t (by unfold trL; rw [if_neg (fun q => y (by omega))]; exact et)
      exact go 8 0 (by omega) (0, 0, 0) rfl
  refine key 255 0 I3 (by omega) (fun a ha => by rw [e3, up_row ha, e2, up_row ha, e1, up_row ha]) ?_ ?_ ?_
  · rw [e3, up_2 _ (by decide), e2, up_2 _ (by decide), e1, up_s]; rfl
  · rw [e3, up_2 _ (by decide), e2, up_s]; rfl
  · rw [e3, up_s]; rfl
end PLf
