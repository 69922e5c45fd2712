/-! ===== feed ===== -/
theorem iand255 (x : Int) : iand x 255 = x % 256 := by
  unfold iand
  have e : (Int32.ofInt x &&& Int32.ofInt 255).toInt = (BitVec.ofInt 32 x &&& 255#32).toInt := rfl
  rw [e]
  have h1 : (BitVec.ofInt 32 x &&& 255#32).toNat = (x % 4294967296).toNat % 256 := by
    rw [BitVec.toNat_and, BitVec.toNat_ofInt]
    exact Nat.and_two_pow_sub_one_eq_mod _ 8
  rw [BitVec.toInt_eq_toNat_of_lt (by rw [h1]; omega), h1]
  omega
theorem by_b (x : Int) : (0 ≤ iand x 255 ∧ iand x 255 ≤ 255) ∧ ((x.bmod 256).bmod 256) = (iand x 255).bmod 256 := by
  rw [iand255]
  refine ⟨by omega, ?_⟩
  rw [Int.bmod_bmod]
  exact (Int.emod_bmod (x := x) (n := 256)).symm
def tpA : List Int → Nat → XI → XI
  | [], _, I => I
  | x :: l, n, I => tpA l (n + 1) (up (up I c_told_tape n x) c_told 6 ((n : Int) + 1))
def tpB : List Int → Nat → XI → XI
  | [], _, I => I
  | x :: l, n, I => tpB l (n + 1) (up (up I r_tape n (x.bmod 256)) r_size 0 ((n : Int) + 1))
def bys (v : Int) : List Int := [iand (ishr v 24) 255, iand (ishr v 16) 255, iand (ishr v 8) 255, iand (ishr v 0) 255]
theorem bys_ok {v : Int} : ∀ x ∈ bys v, 0 ≤ x ∧ x ≤ 255 := fun x hx => by
  unfold bys at hx
  simp only [List.mem_cons, List.not_mem_nil, or_false] at hx
  rcases hx with e | e | e | e <;> (rw [e]; exact (by_b _).1)
/-- what has changed by n bytes of TAPE, on both sides -/
def TP (I A B : XI) (n : Nat) : Prop := (A c_told 6 = (n : Int) ∧ B r_size 0 = (n : Int)) ∧ (∀ j, j < 500 → (0 ≤ A 43 j ∧ A 43 j ≤ 255) ∧ B r_tape j = (A 43 j).bmod 256) ∧ (okA A ∧ okR B) ∧ (∀ a, a ≠ 1 → a ≠ 43 → A a = I a) ∧ (∀ j, j ≠ 6 → A 1 j = I 1 j) ∧ (∀ a, a ≠ 78 → a ≠ 79 → B a = I a) ∧ hiW I B
theorem InR_byte {x : Int} (h : 0 ≤ x ∧ x ≤ 255) : InR x ∧ InR (x.bmod 256) := by
  have h1 := Int.le_bmod (x := x) (m := 256) (by decide)
  have h2 := Int.bmod_lt (x := x) (m := 256) (by decide)
  exact ⟨⟨by omega, by omega⟩, ⟨by omega, by omega⟩⟩
theorem TP.go {I : XI} : ∀ (L : List Int) (n : Nat) {A B : XI}, n + L.length ≤ 500 → (∀ x ∈ L, 0 ≤ x ∧ x ≤ 255) → TP I A B n → TP I (tpA L n A) (tpB L n B) (n + L.length) := by
  intro L
  induction L with
  | nil => intro n A B _ _ h; exact h
  | cons x l ih =>
    intro n A B hl hx h
    have e : n + (x :: l).length = (n + 1) + l.length := by rw [List.length_cons]; omega
    rw [e] at hl ⊢
    refine ih (n + 1) hl (fun y hy => hx y (List.mem_cons_of_mem _ hy)) ?_
    have hb := hx x (List.mem_cons_self ..)
    obtain ⟨r1, r2⟩ := InR_byte hb
    obtain ⟨⟨h1, h2⟩, h3, ⟨h4, h5⟩, h6, h7, h8, h9⟩ := h
    have rn : InR ((n : Int) + 1) := ⟨by omega, by omega⟩
    refine ⟨⟨by rw [up_s]; omega, by rw [up_s]; omega⟩, fun j hj => ?_, ⟨(h4.up r1).up rn, (h5.up r2).up rn⟩, fun a q1 q2 => ?_, fun j hj => ?_, fun a q1 q2 => ?_, (h9.up (i := r_tape) (show n < 500 by omega)).up (i := r_size) (by decide)⟩
    · rw [up_row (show (43 : Nat) ≠ c_told by decide), up_row (show r_tape ≠ r_size by decide), up_at, up_at B r_tape]
      by_cases e : j = n
      · rw [if_pos e, if_pos e]; exact ⟨hb, rfl⟩
      · rw [if_neg e, if_neg e]; exact h3 j hj
    · rw [up_row (show a ≠ c_told from q1), up_row (show a ≠ c_told_tape from q2)]; exact h6 a q1 q2
    · rw [up_2 _ hj, up_row (by decide)]; exact h7 j hj
    · rw [up_row (show a ≠ r_size from q2), up_row (show a ≠ r_tape from q1)]; exact h8 a q1 q2
theorem tpB_cong {a : Nat} : ∀ (L : List Int) (n : Nat) {I J : XI}, I a = J a → tpB L n I a = tpB L n J a := by
  intro L
  induction L with
  | nil => intro n I J h; exact h
  | cons x l ih => intro n I J h; exact ih (n + 1) (up_cong (up_cong h))
theorem tpB_row {a : Nat} (h1 : a ≠ 78) (h2 : a ≠ 79) : ∀ (L : List Int) (n : Nat) {I : XI}, tpB L n I a = I a := by
  intro L
  induction L with
  | nil => intro n I; rfl
  | cons x l ih => intro n I; exact (ih (n + 1)).trans ((up_row h2).trans (up_row h1))
theorem tpA_row {a : Nat} (h1 : a ≠ 1) (h2 : a ≠ 43) : ∀ (L : List Int) (n : Nat) {I : XI}, tpA L n I a = I a := by
  intro L
  induction L with
  | nil => intro n I; rfl
  | cons x l ih => intro n I; exact (ih (n + 1)).trans ((up_row h1).trans (up_row h2))
theorem tpA_n : ∀ (L : List Int) (n : Nat) {I : XI}, I c_told 6 = (n : Int) → tpA L n I c_told 6 = ((n + L.length : Nat) : Int) := by
  intro L
  induction L with
  | nil => intro n I h; exact h
  | cons x l ih =>
    intro n I h
    have e : n + (x :: l).length = (n + 1) + l.length := by rw [List.length_cons]; omega
    rw [e]
    exact ih (n + 1) (by rw [up_s]; omega)
theorem tpB_n : ∀ (L : List Int) (n : Nat) {I : XI}, I r_size 0 = (n : Int) → tpB L n I r_size 0 = ((n + L.length : Nat) : Int) := by
  intro L
  induction L with
  | nil => intro n I h; exact h
  | cons x l ih =>
    intro n I h
    have e : n + (x :: l).length = (n + 1) + l.length := by rw [List.length_cons]; omega
    rw [e]
    exact ih (n + 1) (by rw [up_s]; omega)
theorem tpA_app : ∀ (L L' : List Int) (n : Nat) {I : XI}, tpA L' (n + L.length) (tpA L n I) = tpA (L ++ L') n I := by
  intro L
  induction L with
  | nil => intro L' n I; rfl
  | cons x l ih =>
    intro L' n I
    have e : n + (x :: l).length = (n + 1) + l.length := by rw [List.length_cons]; omega
    rw [e]
    exact ih L' (n + 1)
theorem tpB_app : ∀ (L L' : List Int) (n : Nat) {I : XI}, tpB L' (n + L.length) (tpB L n I) = tpB (L ++ L') n I := by
  intro L
  induction L with
  | nil => intro L' n I; rfl
  | cons x l ih =>
    intro L' n I
    have e : n + (x :: l).length = (n + 1) + l.length := by rw [List.length_cons]; omega
    rw [e]
    exact ih L' (n + 1)
/-- as Now.tell, TAPE told -/
theorem Now.tellT {I J A B : XI} (hI : Now I) (hP : Pl A 1 B) (eA : ∀ a, 0 < a → a < 44 → J a = A a) (eB : ∀ a, 77 < a → a < 129 → J a = B a) (oA : okA A) (oB : okR B) (hG : Good B) (w1 : A 2 1 = I 2 1) (w2 : B r_wells = I r_wells) (t : ∀ j, j < 500 → (0 ≤ A 43 j ∧ A 43 j ≤ 255) ∧ B r_tape j = (A 43 j).bmod 256) (ru : ∀ a, 32 < a → a < 40 → A a = I a) (rr : ∀ a, 116 < a → a < 125 → B a = I a) : Now J := by
  refine ⟨fun a j h1 h2 => by rw [eB a h1 h2]; exact oB a j h1 h2, hG.eq eB, hP.eq (fun d hd => eA _ (by omega) (by omega)) eB, ?_, ?_, ?_, fun d j hd => by rw [eA _ (by omega) (by omega)]; exact oA _ _ (by omega) (by omega)⟩
  · obtain ⟨x1, x2⟩ := hI.2.2.2.1
    have e1 : J (1 + 1) 1 = I (1 + 1) 1 := by rw [eA (1 + 1) (by decide) (by decide)]; exact w1
    rw [e1, eB r_wells (by decide) (by decide), w2]
    exact ⟨x1, x2⟩
  · rw [eA (1 + 42) (by decide) (by decide), eB r_tape (by decide) (by decide)]
    exact t
  · have x := hI.2.2.2.2.2.1
    have ec : ∀ a, 32 < a → a < 40 → J a = I a := fun a h1 h2 => (eA a (by omega) (by omega)).trans (ru a h1 h2)
    have er : ∀ a, 116 < a → a < 125 → J a = I a := fun a h1 h2 => (eB a (by omega) (by omega)).trans (rr a h1 h2)
    rw [ec (1 + 32) (by decide) (by decide), ec (1 + 33) (by decide) (by decide), ec (1 + 34) (by decide) (by decide), ec (1 + 35) (by decide) (by decide), ec (1 + 36) (by decide) (by decide), ec (1 + 37) (by decide) (by decide), ec (1 + 38) (by decide) (by decide), er r_lines (by decide) (by decide), er r_lineAct (by decide) (by decide), er r_lineNumber (by decide) (by decide), er r_lineTests (by decide) (by decide), er r_testNot (by decide) (by decide), er r_testWhat (by decide) (by decide), er r_testSign (by decide) (by decide), er r_testThan (by decide) (by decide)]
    exact x
theorem plT_ok3 : ∀ q ∈ plT, q = (0, 6, 79, 1) ∨ (q.2.2.1 ≠ 79 ∧ q.2.2.1 ≠ 78 ∧ q.1 ≠ 42 ∧ (q.1 = 0 → q.2.2.2 = 1 ∧ q.2.1 ≠ 6)) := by decide +kernel
theorem rel_tape {S : XS} {I J : XI} {L : List Int} {n : Nat} (h : Rel S I) (hn : I r_size 0 = (n : Int)) (hl : n + L.length ≤ 500) (hx : ∀ x ∈ L, 0 ≤ x ∧ x ≤ 255) (e : J = tpB L n (up (tpA L n I) r_obj 0 0)) : Rel S J := by
  have t0 : TP I I I n := ⟨⟨(pl_size h.pl).trans hn, hn⟩, h.1.2.2.2.2.1, ⟨fun a j h1 h2 => h.okC a j h2, h.okR⟩, fun _ _ _ => rfl, fun _ _ => rfl, fun _ _ _ => rfl, hiW.refl I⟩
  obtain ⟨⟨h1, h2⟩, h3, ⟨h4, h5⟩, h6, h7, h8, h9⟩ := t0.go L n hl hx
  obtain ⟨A, eA⟩ : ∃ A, A = tpA L n I := ⟨_, rfl⟩
  obtain ⟨B, eB⟩ : ∃ B, B = tpB L n I := ⟨_, rfl⟩
  rw [← eA] at h1 h3 h4 h6 h7 e
  rw [← eB] at h2 h3 h5 h8 h9
  have jA : ∀ a, (a < 77 ∨ 128 < a) → J a = A a := fun a ha => by
    rw [e, tpB_row (show a ≠ 78 by omega) (show a ≠ 79 by omega), up_row (show a ≠ 77 by omega)]
  have jB : ∀ a, 77 < a → a < 129 → J a = B a := fun a q1 q2 => by
    rw [e, eB]
    exact tpB_cong L n ((up_row (show a ≠ 77 by omega)).trans (h6 a (by omega) (by omega)))
  have row : ∀ a, a ≠ 78 → a ≠ 79 → B a = I a := h8
  have zz : ∀ a, a ≠ 78 → a ≠ 79 → I a 0 ≤ B a 0 := fun a q1 q2 => by rw [row a q1 q2]; exact Int.le_refl _
  have HG : Good B := by
    obtain ⟨g1, g2, g3, g4, g5, g6, g7, g8, g9⟩ := h.good
    refine ⟨?_, g2.mono (row _ (by decide) (by decide)) (row _ (by decide) (by decide)) (row _ (by decide) (by decide)) (row _ (by decide) (by decide)), g3.mono (row _ (by decide) (by decide)) (row _ (by decide) (by decide)) (row _ (by decide) (by decide)) (row _ (by decide) (by decide)) (row _ (by decide) (by decide)) (zz r_cells (by decide) (by decide)) (zz r_now (by decide) (by decide)), g4.mono (row _ (by decide) (by decide)) (row _ (by decide) (by decide)) (row _ (by decide) (by decide)) (row _ (by decide) (by decide)) (row _ (by decide) (by decide)) (zz r_cells (by decide) (by decide)) (zz r_now (by decide) (by decide)), g5.mono (row _ (by decide) (by decide)) (row _ (by decide) (by decide)) (row _ (by decide) (by decide)) (row _ (by decide) (by decide)) (row _ (by decide) (by decide)) (row _ (by decide) (by decide)) (zz r_camps (by decide) (by decide)) (zz r_cells (by decide) (by decide)) (zz r_now (by decide) (by decide)), g6.mono (row _ (by decide) (by decide)) (row _ (by decide) (by decide)) (row _ (by decide) (by decide)) (row _ (by decide) (by decide)) (row _ (by decide) (by decide)) (row _ (by decide) (by decide)), g7.mono (row _ (by decide) (by decide)) (row _ (by decide) (by decide)) (row _ (by decide) (by decide)) (row _ (by decide) (by decide)) (row _ (by decide) (by decide)) (row _ (by decide) (by decide)) (row _ (by decide) (by decide)) (row _ (by decide) (by decide)) (zz r_books (by decide) (by decide)) (zz r_camps (by decide) (by decide)) (zz r_now (by decide) (by decide)), g8.mono (row _ (by decide) (by decide)) (row _ (by decide) (by decide)) (row _ (by decide) (by decide)) (row _ (by decide) (by decide)) (row _ (by decide) (by decide)) (row _ (by decide) (by decide)), g9.mono (row _ (by decide) (by decide)) (row _ (by decide) (by decide)) (row _ (by decide) (by decide)) (zz r_camps (by decide) (by decide))⟩
    unfold gSc at g1 ⊢
    rw [h2, row r_now (by decide) (by decide), row r_viewed (by decide) (by decide)]
    omega
  have P : Pl A 1 B := fun q hq j hj => by
    rcases plT_ok3 q hq with x | ⟨x1, x2, x3, x4⟩
    · subst x
      have j0 : j = 0 := by have : j < 1 := hj; omega
      subst j0
      exact h1.trans h2.symm
    · rw [row q.2.2.1 x2 x1]
      refine Eq.trans ?_ (h.pl q hq j hj)
      by_cases y : q.1 = 0
      · have x5 := x4 y
        rw [y]
        exact h7 _ (by omega)
      · rw [h6 _ (by omega) (by omega)]
  have N : Now J := h.1.tellT P (fun a q1 q2 => jA a (by omega)) jB h4 h5 HG (by rw [h6 2 (by decide) (by decide)]) (row _ (by decide) (by decide)) h3 (fun a q1 q2 => h6 a (by omega) (by omega)) (fun a q1 q2 => row a (by omega) (by omega))
  refine h.tell N (fun a ha => (jA a (by omega)).trans (h6 a (by omega) (by omega))) ⟨(jB _ (by decide) (by decide)).trans (row _ (by decide) (by decide)), (jB _ (by decide) (by decide)).trans (row _ (by decide) (by decide))⟩ (by rw [jA _ (by decide), h6 _ (by decide) (by decide)]) ⟨by rw [jB _ (by decide) (by decide), row _ (by decide) (by decide)], by rw [jB _ (by decide) (by decide), row _ (by decide) (by decide)], by rw [jB _ (by decide) (by decide), row _ (by decide) (by decide)], by rw [jB _ (by decide) (by decide), row _ (by decide) (by decide)]⟩ (fun a q1 q2 i hi => ?_)
  rw [jB a q1 q2]; exact h9 a q1 q2 i hi
section PT4
variable {G : XG} {S : XS} {I : XI}
theorem s_Tb1 {n : Nat} {v s : Int} {R : XI → Prop} (hS : xSh S) (h0 : 0 ≤ s) (h1 : s < 100) (hn : I c_told 6 = (n : Int)) (hn2 : n < 500) (h : To_addBytes_k3 G S (up (up I c_told_tape n (iand (ishr v s) 255)) c_told 6 ((n : Int) + 1)) v (s + -8) R) : To_addBytes_k3 G S I v s R := by
  refine b_To_addBytes_k3 hS ?_
  rw [hn, w32_b (z := s) (by omega) (by omega), w32_nat (k := n) (by omega), show w32 500 = 500 from rfl, ix_nat (k := n) (by omega)]
  refine ⟨fun e => absurd e (by omega), fun _ => ⟨fun e => absurd e (by omega), fun _ => ⟨inb_b (by omega) (by omega) (by decide), fun I1 e1 I2 e2 => ?_⟩⟩⟩
  have e3 : I1 c_told 6 = (n : Int) := by rw [e1, up_row (by decide)]; exact hn
  rw [e3] at e2
  rw [e2, e1]
  exact h
theorem s_To_addBytes {n : Nat} {v : Int} {R : XI → Prop} (hS : xSh S) (hn : I c_told 6 = (n : Int)) (hn2 : n + 4 ≤ 500) (h : R (tpA (bys v) n I)) : To_addBytes G S I v R := by
  refine b_To_addBytes hS (s_Tb1 (n := n) hS (by decide) (by decide) hn (by omega) (s_Tb1 (n := n + 1) hS (by decide) (by decide) (by rw [up_s]; omega) (by omega) (s_Tb1 (n := n + 2) hS (by decide) (by decide) (by rw [up_s]; omega) (by omega) (s_Tb1 (n := n + 3) hS (by decide) (by decide) (by rw [up_s]; omega) (by omega) ?_))))
  refine b_To_addBytes_k3 hS ⟨fun _ => h, fun e => absurd (by decide) e⟩
theorem s_Rf1 {n : Nat} {v s : Int} {R : XI → Prop} (hS : xSh S) (h0 : 0 ≤ s) (h1 : s < 100) (hn : I r_size 0 = (n : Int)) (hn2 : n < 500) (h : R_four_k3 G S (up (up I r_tape n ((iand (ishr v s) 255).bmod 256)) r_size 0 ((n : Int) + 1)) v (s + -8) R) : R_four_k3 G S I v s R := by
  refine b_R_four_k3 hS ?_
  rw [hn, w32_b (z := s) (by omega) (by omega), ix_nat (k := n) (by omega), (by_b (ishr v s)).2]
  refine ⟨fun e => absurd e (by omega), fun _ => ⟨inb_b (by omega) (by omega) (by decide), fun I1 e1 I2 e2 => ?_⟩⟩
  have e3 : I1 r_size 0 = (n : Int) := by rw [e1, up_row (by decide)]; exact hn
  rw [e3] at e2
  rw [e2, e1]
  exact h
theorem s_R_four {n : Nat} {v : Int} {R : XI → Prop} (hS : xSh S) (hn : I r_size 0 = (n : Int)) (hn2 : n + 4 ≤ 500) (h : R (tpB (bys v) n I)) : R_four G S I v R := by
  refine b_R_four hS (s_Rf1 (n := n) hS (by decide) (by decide) hn (by omega) (s_Rf1 (n := n + 1) hS (by decide) (by decide) (by rw [up_s]; omega) (by omega) (s_Rf1 (n := n + 2) hS (by decide) (by decide) (by rw [up_s]; omega) (by omega) (s_Rf1 (n := n + 3) hS (by decide) (by decide) (by rw [up_s]; omega) (by omega) ?_))))
  refine b_R_four_k3 hS ⟨fun _ => h, fun e => absurd (by decide) e⟩
theorem t_feed {v1 v2 v3 v4 v5 : Int} {R : Int → Int → XI → Prop} (hS : xSh S) (hI : Rel S I) (h : ∀ r J, Rel S J → R r r J) : H_feed G S I v1 v2 v3 v4 v5 (fun r I1 => R_feed G S I1 v1 v2 v3 v4 v5 (fun r' J => R r r' J)) := by
  obtain ⟨n, hn⟩ : ∃ n : Nat, I r_size 0 = (n : Int) := ⟨(I r_size 0).toNat, by have := hI.good.1.2.2; omega⟩
  have hn2 : n ≤ 500 := by have := hI.good.1.2.2; omega
  obtain ⟨L, eL⟩ : ∃ L, L = bys v1 ++ bys v2 ++ bys v3 ++ bys v4 ++ bys v5 := ⟨_, rfl⟩
  have lL : L.length = 20 := by rw [eL]; rfl
  have ref : ∀ (J0 : XI) (T : Int → XI → Prop), J0 r_size = I r_size → (¬ n ≤ 480 → T (-1) (up J0 r_obj 0 0)) → (n ≤ 480 → ∀ J, J = tpB L n (up J0 r_obj 0 0) → T ((n + 20 : Nat) : Int) J) → R_feed G S J0 v1 v2 v3 v4 v5 T := fun J0 T t0 kn ky => by
    refine b_R_feed hS (fun J e => ?_)
    have tJ : J r_size 0 = (n : Int) := by rw [e, up_row (by decide), t0]; exact hn
    rw [← e] at kn ky
    rw [tJ, w32_b (z := (n : Int) + 20) (by omega) (by omega), show w32 500 = 500 from rfl]
    refine ⟨fun c => ?_, fun c => kn (by omega)⟩
    refine s_R_four (n := n) hS tJ (by omega) (s_R_four (n := n + 4) hS (tpB_n _ n tJ) (by omega) ?_)
    have a2 := tpB_app (bys v1) (bys v2) n (I := J)
    rw [show n + 4 = n + (bys v1).length from rfl, a2]
    refine s_R_four (n := n + 8) hS (tpB_n _ n tJ) (by omega) ?_
    have a3 := tpB_app (bys v1 ++ bys v2) (bys v3) n (I := J)
    rw [show n + 8 = n + (bys v1 ++ bys v2).length from rfl, a3]
    refine s_R_four (n := n + 12) hS (tpB_n _ n tJ) (by omega) ?_
    have a4 := tpB_app (bys v1 ++ bys v2 ++ bys v3) (bys v4) n (I := J)
    rw [show n + 12 = n + (bys v1 ++ bys v2 ++ bys v3).length from rfl, a4]
    refine s_R_four (n := n + 16) hS (tpB_n _ n tJ) (by omega) ?_
    have a5 := tpB_app (bys v1 ++ bys v2 ++ bys v3 ++ bys v4) (bys v5) n (I := J)
    rw [show n + 16 = n + (bys v1 ++ bys v2 ++ bys v3 ++ bys v4).length from rfl, a5, ← eL, tpB_n L n tJ, lL]
    exact ky (by omega) _ rfl
  have hc : I c_told 6 = (n : Int) := (pl_size hI.pl).trans hn
  refine b_H_feed hS ?_
  rw [hc, w32_nat (k := n) (by omega), show w32 480 = 480 from rfl]
  refine ⟨fun c => ?_, fun c => ref I _ rfl (fun _ => h _ _ (hI.code rfl).1) (fun x => absurd x (by omega))⟩
  refine s_To_addBytes (n := n) hS hc (by omega) (s_To_addBytes (n := n + 4) hS (tpA_n _ n hc) (by omega) ?_)
  have a2 := tpA_app (bys v1) (bys v2) n (I := I)
  rw [show n + 4 = n + (bys v1).length from rfl, a2]
  refine s_To_addBytes (n := n + 8) hS (tpA_n _ n hc) (by omega) ?_
  have a3 := tpA_app (bys v1 ++ bys v2) (bys v3) n (I := I)
  rw [show n + 8 = n + (bys v1 ++ bys v2).length from rfl, a3]
  refine s_To_addBytes (n := n + 12) hS (tpA_n _ n hc) (by omega) ?_
  have a4 := tpA_app (bys v1 ++ bys v2 ++ bys v3) (bys v4) n (I := I)
  rw [show n + 12 = n + (bys v1 ++ bys v2 ++ bys v3).length from rfl, a4]
  refine s_To_addBytes (n := n + 16) hS (tpA_n _ n hc) (by omega) ?_
  have a5 := tpA_app (bys v1 ++ bys v2 ++ bys v3 ++ bys v4) (bys v5) n (I := I)
  rw [show n + 16 = n + (bys v1 ++ bys v2 ++ bys v3 ++ bys v4).length from rfl, a5, ← eL, tpA_n L n hc, lL]
  have oL : ∀ x ∈ L, 0 ≤ x ∧ x ≤ 255 := fun x hx => by
    rw [eL] at hx
    simp only [List.mem_append] at hx
    rcases hx with (((q | q) | q) | q) | q <;> exact bys_ok x q
  exact ref _ _ (tpA_row (by decide) (by decide) L n) (fun x => absurd (by omega) x) (fun _ J eJ => h _ _ (rel_tape hI hn (by omega) oL eJ))
end PT4
