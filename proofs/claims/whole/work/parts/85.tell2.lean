/-! ===== printed by wip/gen85.py: book, reader, camp, grass, news ===== -/
abbrev fgt (I : XI) : XI := xfil (xfil I c_now_knownTo 6 (-1)) c_then_knownTo 6 (-1)
theorem fgt_row {I : XI} {a : Nat} (h1 : a ≠ 47) (h2 : a ≠ 54) : fgt I a = I a := (xfil_out h2).trans (xfil_out h1)
theorem fgt_1 {I : XI} {c : Nat} (h : c < 6) : fgt I c_now_knownTo c = -1 := by
  show xfil (xfil I c_now_knownTo 6 (-1)) c_then_knownTo 6 (-1) c_now_knownTo c = -1
  rw [xfil_out (by decide)]; exact xfil_in h
theorem fgt_2 {I : XI} {c : Nat} (h : c < 6) : fgt I c_then_knownTo c = -1 := xfil_in h
theorem Now.fgt {I : XI} (h : Now I) : Now (fgt I) := h.eq (fun a h1 h2 => fgt_row (by omega) (by omega)) (fun a h1 h2 => fgt_row (by omega) (by omega))
theorem Rel.fgt {S : XS} {I : XI} (h : Rel S I) : Rel S (fgt I) := rel_new h h.1.fgt (fun c hc => fgt_1 hc) (fun c hc => fgt_2 hc) (congrFun (fgt_row (by decide) (by decide)) 6) (congrFun (fgt_row (by decide) (by decide)) 6) (h.2.2.1.eq (congrFun (fgt_row (by decide) (by decide)) 6) (fgt_row (by decide) (by decide)) (fgt_row (by decide) (by decide)) (fgt_row (by decide) (by decide)) (congrFun (fgt_row (by decide) (by decide)) 1)) (h.2.2.2.1.1.1.eq (fgt_row (by decide) (by decide)) (fgt_row (by decide) (by decide))) (fun a ha => fgt_row (by omega) (by omega)) (fun a h1 h2 j hj => congrFun (fgt_row (by omega) (by omega)) j)
/-- the class has forgotten PARTS; no way and no well is told -/
theorem rel_tellsF {S : XS} {I J : XI} (L : List UpE) (h : Rel S I) (hL : okL L) (hq : ∀ q ∈ L, q.1 ≠ 2 ) (e : J = upB L (up (upA L (fgt I)) r_obj 0 0)) (hG : Good (upB L I)) (hF : ∀ j, j < 60 → upB L I r_newsSeen j = 0 ∨ upB L I r_newsSeen j = 1) : Rel S J := by
  subst e
  have hK : ∀ a, ((0 < a ∧ a < 44) ∨ (77 < a ∧ a < 129)) → fgt I a = I a := fun a ha => fgt_row (by omega) (by omega)
  obtain ⟨e1, e2, e3⟩ := tells_rows hL hK
  refine rel_new h (now_tells h.1 h.2.2.2.2 hL hK hG) (fun c hc => ?_) (fun c hc => ?_) ?_ ?_ (h.2.2.1.eq ?_ ?_ ?_ ?_ ?_) ⟨fun j hj => ?_, fun j hj => ?_⟩ (fun a ha => ?_) (fun a h1 h2 i hi => ?_)
  · rw [e3 _ (by decide)]; exact fgt_1 hc
  · rw [e3 _ (by decide)]; exact fgt_2 hc
  · rw [e3 _ (by decide)]; exact congrFun (fgt_row (by decide) (by decide)) 6
  · rw [e3 _ (by decide)]; exact congrFun (fgt_row (by decide) (by decide)) 6
  · rw [e3 _ (by decide)]; exact congrFun (fgt_row (by decide) (by decide)) 6
  · rw [e3 _ (by decide)]; exact fgt_row (by decide) (by decide)
  · rw [e3 _ (by decide)]; exact fgt_row (by decide) (by decide)
  · rw [e1 _ (by decide) (by decide)]; exact upA_row (fun q hx => by have := hq q hx; show 3 ≠ _; omega)
  · rw [e1 _ (by decide) (by decide)]
    refine upA_cell (fun q hx => ?_)
    have x := plT_ok2 _ (hL q hx).1
    have y := (hL q hx).2.1
    intro e
    have e' : 2 = 1 + q.1 := e
    have z := x.2.2.2.2.2 (show q.1 = 1 by omega)
    have z1 : q.2.2.2.1 = 1 := z.1
    have z2 : q.2.1 ≠ 1 := z.2
    omega
  · rw [e2 _ (by decide) (by decide)]; exact hF j hj
  · have r124 : upB L I r_testNot = I r_testNot := upB_row (fun q hx => by
      have x : ¬ (116 < q.2.2.1 ∧ q.2.2.1 < 125) ∨ q.2.2.1 = 117 := (plT_ok2 _ (hL q hx).1).2.2.2.2.1
      have y := (hL q hx).2.2.2
      show 124 ≠ q.2.2.1
      omega)
    rw [e2 _ (by decide) (by decide), r124]
    exact h.2.2.2.1.1.1.2 j hj
  · rw [e3 a (by omega)]; exact fgt_row (by omega) (by omega)
  · rw [e2 a h1 h2]; exact upB_hi hL (hiW.refl I) a h1 h2 i hi
section PT2
variable {G : XG} {S : XS} {I : XI}
theorem s_H_forgetParts {R : XI → Prop} (hS : xSh S) (h : R (fgt I)) : H_forgetParts G S I R := b_H_forgetParts hS (s_Wn_forget hS (s_Wt_forget hS h))
theorem s_Sh_addBook {n : Nat} {v1 v2 v3 v4 v5 : Int} {R : Int → XI → Prop} (hS : xSh S) (hn : I c_shelf 0 = (n : Int)) (hn2 : n < 24) (h : ∀ J, J = upA [(18, 0, 103, 1, 0, (n : Int) + 1), (19, 0, 104, 24, n, v1), (20, 0, 105, 24, n, v2), (21, 0, 106, 24, n, v3), (22, 0, 107, 24, n, v4), (23, 0, 108, 24, n, v5)] I → R (n : Int) J) : Sh_addBook G S I v1 v2 v3 v4 v5 R := by
  refine b_Sh_addBook hS ?_
  rw [hn, w32_nat (k := n) (by omega), show w32 24 = 24 from rfl]
  have i0 : inb (n : Int) 24 := inb_b (by omega) (by omega) (by decide)
  have g : ∀ J : XI, J c_shelf = I c_shelf → J c_shelf 0 = (n : Int) := fun J e => by rw [e]; exact hn
  refine ⟨fun _ => ⟨i0, fun I1 e1 => ?_⟩, fun e => absurd (by omega) e⟩
  rw [ix_nat (k := n) (by omega)] at e1
  have s1 : I1 c_shelf = I c_shelf := by rw [e1]; exact up_row (by decide)
  rw [g I1 s1, ix_nat (k := n) (by omega)]
  refine ⟨i0, fun I2 e2 => ?_⟩
  have s2 : I2 c_shelf = I c_shelf := by rw [e2, up_row (by decide)]; exact s1
  rw [g I2 s2, ix_nat (k := n) (by omega)]
  refine ⟨i0, fun I3 e3 => ?_⟩
  have s3 : I3 c_shelf = I c_shelf := by rw [e3, up_row (by decide)]; exact s2
  rw [g I3 s3, ix_nat (k := n) (by omega)]
  refine ⟨i0, fun I4 e4 => ?_⟩
  have s4 : I4 c_shelf = I c_shelf := by rw [e4, up_row (by decide)]; exact s3
  rw [g I4 s4, ix_nat (k := n) (by omega)]
  refine ⟨i0, fun I5 e5 => ?_⟩
  have s5 : I5 c_shelf = I c_shelf := by rw [e5, up_row (by decide)]; exact s4
  rw [g I5 s5]
  intro I6 e6
  have e0 : I6 c_shelf 0 - 1 = (n : Int) := by rw [e6, up_s]; omega
  rw [e0]
  refine h I6 ?_
  rw [e6, e5, e4, e3, e2, e1, up_comm (i := c_shelf_grams) (i' := c_shelf) (by decide), up_comm (i := c_shelf_pages) (i' := c_shelf) (by decide), up_comm (i := c_shelf_levels) (i' := c_shelf) (by decide), up_comm (i := c_shelf_tongues) (i' := c_shelf) (by decide), up_comm (i := c_shelf_kinds) (i' := c_shelf) (by decide)]
  rfl
theorem s_Sh_addBook_full {v1 v2 v3 v4 v5 : Int} {R : Int → XI → Prop} (hS : xSh S) (hn : I c_shelf 0 = 24) (h : R (-1) I) : Sh_addBook G S I v1 v2 v3 v4 v5 R := by
  refine b_Sh_addBook hS ?_
  rw [hn, show w32 24 = 24 from rfl]
  exact ⟨fun e => absurd e (by decide), fun _ => h⟩
theorem s_Re_addReader {n : Nat} {v1 : Int} {R : Int → XI → Prop} (hS : xSh S) (hn : I c_readers 0 = (n : Int)) (hn2 : n < 12) (h : ∀ J, J = upA [(39, 0, 126, 1, 0, (n : Int) + 1), (40, 0, 127, 12, n, v1), (41, 0, 128, 12, n, 0)] I → R (n : Int) J) : Re_addReader G S I v1 R := by
  refine b_Re_addReader hS ?_
  rw [hn, w32_nat (k := n) (by omega), show w32 12 = 12 from rfl]
  have i0 : inb (n : Int) 12 := inb_b (by omega) (by omega) (by decide)
  have g : ∀ J : XI, J c_readers = I c_readers → J c_readers 0 = (n : Int) := fun J e => by rw [e]; exact hn
  refine ⟨fun _ => ⟨i0, fun I1 e1 => ?_⟩, fun e => absurd (by omega) e⟩
  rw [ix_nat (k := n) (by omega)] at e1
  have s1 : I1 c_readers = I c_readers := by rw [e1]; exact up_row (by decide)
  rw [g I1 s1, ix_nat (k := n) (by omega)]
  refine ⟨i0, fun I2 e2 => ?_⟩
  have s2 : I2 c_readers = I c_readers := by rw [e2, up_row (by decide)]; exact s1
  rw [g I2 s2]
  intro I3 e3
  have e0 : I3 c_readers 0 - 1 = (n : Int) := by rw [e3, up_s]; omega
  rw [e0]
  refine h I3 ?_
  rw [e3, e2, e1, up_comm (i := c_readers_books) (i' := c_readers) (by decide), up_comm (i := c_readers_camps) (i' := c_readers) (by decide)]
  rfl
theorem s_Re_addReader_full {v1 : Int} {R : Int → XI → Prop} (hS : xSh S) (hn : I c_readers 0 = 12) (h : R (-1) I) : Re_addReader G S I v1 R := by
  refine b_Re_addReader hS ?_
  rw [hn, show w32 12 = 12 from rfl]
  exact ⟨fun e => absurd e (by decide), fun _ => h⟩
theorem s_He_addCamp {n : Nat} {v1 v2 v3 : Int} {R : Int → XI → Prop} (hS : xSh S) (hn : I c_herds 0 = (n : Int)) (hn2 : n < 6) (h : ∀ J, J = upA [(8, 0, 87, 1, 0, (n : Int) + 1), (9, 0, 88, 6, n, v2), (10, 0, 89, 6, n, v1), (11, 0, 90, 6, n, v3)] I → R (n : Int) J) : He_addCamp G S I v1 v2 v3 R := by
  refine b_He_addCamp hS ?_
  rw [hn, w32_nat (k := n) (by omega), show w32 6 = 6 from rfl]
  have i0 : inb (n : Int) 6 := inb_b (by omega) (by omega) (by decide)
  have g : ∀ J : XI, J c_herds = I c_herds → J c_herds 0 = (n : Int) := fun J e => by rw [e]; exact hn
  refine ⟨fun _ => ⟨i0, fun I1 e1 => ?_⟩, fun e => absurd (by omega) e⟩
  rw [ix_nat (k := n) (by omega)] at e1
  have s1 : I1 c_herds = I c_herds := by rw [e1]; exact up_row (by decide)
  rw [g I1 s1, ix_nat (k := n) (by omega)]
  refine ⟨i0, fun I2 e2 => ?_⟩
  have s2 : I2 c_herds = I c_herds := by rw [e2, up_row (by decide)]; exact s1
  rw [g I2 s2, ix_nat (k := n) (by omega)]
  refine ⟨i0, fun I3 e3 => ?_⟩
  have s3 : I3 c_herds = I c_herds := by rw [e3, up_row (by decide)]; exact s2
  rw [g I3 s3]
  intro I4 e4
  have e0 : I4 c_herds 0 - 1 = (n : Int) := by rw [e4, up_s]; omega
  rw [e0]
  refine h I4 ?_
  rw [e4, e3, e2, e1, up_comm (i := c_herds_firstWeeks) (i' := c_herds) (by decide), up_comm (i := c_herds_tongues) (i' := c_herds) (by decide), up_comm (i := c_herds_firstCells) (i' := c_herds) (by decide), up_comm (i := c_herds_firstCells) (i' := c_herds_tongues) (by decide)]
  rfl
theorem s_He_addCamp_full {v1 v2 v3 : Int} {R : Int → XI → Prop} (hS : xSh S) (hn : I c_herds 0 = 6) (h : R (-1) I) : He_addCamp G S I v1 v2 v3 R := by
  refine b_He_addCamp hS ?_
  rw [hn, show w32 6 = 6 from rfl]
  exact ⟨fun e => absurd e (by decide), fun _ => h⟩
theorem s_La_addGrass {n : Nat} {v1 v2 v3 v4 : Int} {R : Int → XI → Prop} (hS : xSh S) (hn : I c_land 3 = (n : Int)) (hn2 : n < 60) (h : ∀ J, J = upA [(1, 3, 91, 1, 0, (n : Int) + 1), (3, 0, 92, 60, n, v1), (4, 0, 93, 60, n, v2), (5, 0, 94, 60, n, v3), (6, 0, 95, 60, n, v4)] I → R 1 J) : La_addGrass G S I v1 v2 v3 v4 R := by
  refine b_La_addGrass hS ?_
  rw [hn, w32_nat (k := n) (by omega), show w32 60 = 60 from rfl]
  have i0 : inb (n : Int) 60 := inb_b (by omega) (by omega) (by decide)
  have g : ∀ J : XI, J c_land = I c_land → J c_land 3 = (n : Int) := fun J e => by rw [e]; exact hn
  refine ⟨fun _ => ⟨i0, fun I1 e1 => ?_⟩, fun e => absurd (by omega) e⟩
  rw [ix_nat (k := n) (by omega)] at e1
  have s1 : I1 c_land = I c_land := by rw [e1]; exact up_row (by decide)
  rw [g I1 s1, ix_nat (k := n) (by omega)]
  refine ⟨i0, fun I2 e2 => ?_⟩
  have s2 : I2 c_land = I c_land := by rw [e2, up_row (by decide)]; exact s1
  rw [g I2 s2, ix_nat (k := n) (by omega)]
  refine ⟨i0, fun I3 e3 => ?_⟩
  have s3 : I3 c_land = I c_land := by rw [e3, up_row (by decide)]; exact s2
  rw [g I3 s3, ix_nat (k := n) (by omega)]
  refine ⟨i0, fun I4 e4 => ?_⟩
  have s4 : I4 c_land = I c_land := by rw [e4, up_row (by decide)]; exact s3
  rw [g I4 s4]
  intro I5 e5
  refine h I5 ?_
  rw [e5, e4, e3, e2, e1, up_comm (i := c_land_grassTold) (i' := c_land) (by decide), up_comm (i := c_land_grassNumbers) (i' := c_land) (by decide), up_comm (i := c_land_grassWeeks) (i' := c_land) (by decide), up_comm (i := c_land_grassCells) (i' := c_land) (by decide)]
  rfl
theorem s_La_addGrass_full {v1 v2 v3 v4 : Int} {R : Int → XI → Prop} (hS : xSh S) (hn : I c_land 3 = 60) (h : R 0 I) : La_addGrass G S I v1 v2 v3 v4 R := by
  refine b_La_addGrass hS ?_
  rw [hn, show w32 60 = 60 from rfl]
  exact ⟨fun e => absurd e (by decide), fun _ => h⟩
theorem s_He_addNews {n : Nat} {v1 v2 v3 v4 v5 : Int} {R : Int → XI → Prop} (hS : xSh S) (b4 : v4 = 0 ∨ v4 = 1) (hn : I c_herds 5 = (n : Int)) (hn2 : n < 60) (h : ∀ J, J = upA [(8, 5, 97, 1, 0, (n : Int) + 1), (13, 0, 98, 60, n, v1), (14, 0, 99, 60, n, v2), (15, 0, 100, 60, n, v3), (16, 0, 101, 60, n, v4), (17, 0, 102, 60, n, v5)] I → R (n : Int) J) : He_addNews G S I v1 v2 v3 v4 v5 R := by
  refine b_He_addNews hS ?_
  rw [hn, w32_nat (k := n) (by omega), show w32 60 = 60 from rfl]
  have i0 : inb (n : Int) 60 := inb_b (by omega) (by omega) (by decide)
  have g : ∀ J : XI, J c_herds = I c_herds → J c_herds 5 = (n : Int) := fun J e => by rw [e]; exact hn
  refine ⟨fun _ => ⟨i0, fun I1 e1 => ?_⟩, fun e => absurd (by omega) e⟩
  rw [ix_nat (k := n) (by omega)] at e1
  have s1 : I1 c_herds = I c_herds := by rw [e1]; exact up_row (by decide)
  rw [g I1 s1, ix_nat (k := n) (by omega)]
  refine ⟨i0, fun I2 e2 => ?_⟩
  have s2 : I2 c_herds = I c_herds := by rw [e2, up_row (by decide)]; exact s1
  rw [g I2 s2, ix_nat (k := n) (by omega)]
  refine ⟨i0, fun I3 e3 => ?_⟩
  have s3 : I3 c_herds = I c_herds := by rw [e3, up_row (by decide)]; exact s2
  have k59 : ∀ s, s = v4 → He_addNews_k59 G S I3 v5 s (I3 c_herds 5) R := fun s es => by
    subst es
    refine b_He_addNews_k59 hS ?_
    rw [g I3 s3, ix_nat (k := n) (by omega)]
    refine ⟨i0, fun I4 e4 => ?_⟩
    have s4 : I4 c_herds = I c_herds := by rw [e4, up_row (by decide)]; exact s3
    rw [g I4 s4, ix_nat (k := n) (by omega)]
    refine ⟨i0, fun I5 e5 => ?_⟩
    have s5 : I5 c_herds = I c_herds := by rw [e5, up_row (by decide)]; exact s4
    rw [g I5 s5]
    intro I6 e6
    have e0 : I6 c_herds 5 - 1 = (n : Int) := by rw [e6, up_s]; omega
    rw [e0]
    refine h I6 ?_
    rw [e6, e5, e4, e3, e2, e1, up_comm (i := c_herds_newsTold) (i' := c_herds) (by decide), up_comm (i := c_herds_newsSeen) (i' := c_herds) (by decide), up_comm (i := c_herds_newsWeeks) (i' := c_herds) (by decide), up_comm (i := c_herds_newsCells) (i' := c_herds) (by decide), up_comm (i := c_herds_newsCamps) (i' := c_herds) (by decide)]
    rfl
  rcases b4 with e | e
  · rw [e]; exact br0 (k59 0 e.symm)
  · rw [e]; exact br1 (k59 1 e.symm)
theorem s_He_addNews_full {v1 v2 v3 v4 v5 : Int} {R : Int → XI → Prop} (hS : xSh S) (hn : I c_herds 5 = 60) (h : R (-1) I) : He_addNews G S I v1 v2 v3 v4 v5 R := by
  refine b_He_addNews hS ?_
  rw [hn, show w32 60 = 60 from rfl]
  exact ⟨fun e => absurd e (by decide), fun _ => h⟩
theorem t_book {v1 v2 v3 v4 v5 : Int} {R : Int → Int → XI → Prop} (hS : xSh S) (hI : Rel S I) (a1 : InR v1) (a2 : InR v2) (a3 : InR v3) (a4 : InR v4) (a5 : InR v5) (h : ∀ r J, Rel S J → R r r J) : H_book G S I v1 v2 v3 v4 v5 (fun r I1 => R_book G S I1 v1 v2 v3 v4 v5 (fun r' J => R r r' J)) := by
  obtain ⟨n, hn, hn2⟩ : ∃ n : Nat, I r_books 0 = (n : Int) ∧ n ≤ 24 := ⟨_, nB_c hI.good⟩
  have ref : ∀ (J0 : XI) (T : Int → XI → Prop), tf I J0 → (¬ (n < 24 ∧ (0 ≤ v1 ∧ v1 ≤ 7) ∧ (0 ≤ v2 ∧ v2 ≤ 3) ∧ (0 ≤ v3 ∧ v3 ≤ 9) ∧ (1 ≤ v4 ∧ v4 ≤ 400) ∧ 1 ≤ v5 ∧ v5 ≤ 2000) → T (-1) (up J0 r_obj 0 0)) → ((n < 24 ∧ (0 ≤ v1 ∧ v1 ≤ 7) ∧ (0 ≤ v2 ∧ v2 ≤ 3) ∧ (0 ≤ v3 ∧ v3 ≤ 9) ∧ (1 ≤ v4 ∧ v4 ≤ 400) ∧ 1 ≤ v5 ∧ v5 ≤ 2000) → ∀ J, J = upB [(18, 0, 103, 1, 0, (n : Int) + 1), (19, 0, 104, 24, n, v1), (20, 0, 105, 24, n, v2), (21, 0, 106, 24, n, v3), (22, 0, 107, 24, n, v4), (23, 0, 108, 24, n, v5)] (up J0 r_obj 0 0) → T (n : Int) J) → R_book G S J0 v1 v2 v3 v4 v5 T := fun J0 T t0 kn ky => by
    refine b_R_book hS (fun J e => ?_)
    have tJ : J r_books 0 = (n : Int) := by rw [e, code_tf t0 r_books (by decide) (by decide)]; exact hn
    rw [← e] at kn ky
    rw [tJ, w32_nat (k := n) (by omega), show w32 24 = 24 from rfl]
    refine ⟨fun c => kn (fun q => by omega), fun c => s_Rin hS a1 ⟨by decide, by decide⟩ ⟨by decide, by decide⟩ (fun p1 p2 => br1 (s_Rin hS a2 ⟨by decide, by decide⟩ ⟨by decide, by decide⟩ (fun p3 p4 => br1 (s_Rin hS a3 ⟨by decide, by decide⟩ ⟨by decide, by decide⟩ (fun p5 p6 => br1 (s_Rin hS a4 ⟨by decide, by decide⟩ ⟨by decide, by decide⟩ (fun p7 p8 => br1 (s_Rin hS a5 ⟨by decide, by decide⟩ ⟨by decide, by decide⟩ (fun p9 p10 => br1 ?_) (fun x => br0 (kn (fun q => x q.2.2.2.2.2))))) (fun x => br0 (kn (fun q => x q.2.2.2.2.1))))) (fun x => br0 (kn (fun q => x q.2.2.2.1))))) (fun x => br0 (kn (fun q => x q.2.2.1))))) (fun x => br0 (kn (fun q => x q.2.1)))⟩
    have i0 : inb (n : Int) 96 := inb_b (by omega) (by omega) (by decide)
    rw [tJ, ix_nat (k := n) (by omega)]
    refine fun I1 e1 => ⟨i0, fun I2 e2 => ⟨i0, fun I3 e3 => ⟨i0, fun I4 e4 => ⟨i0, fun I5 e5 => ⟨i0, fun I6 e6 => ky ⟨by omega, ⟨p1, p2⟩, ⟨p3, p4⟩, ⟨p5, p6⟩, ⟨p7, p8⟩, p9, p10⟩ I6 ?_⟩⟩⟩⟩⟩
    rw [e6, e5, e4, e3, e2, e1]
    rfl
  have bad : ¬ (n < 24 ∧ (0 ≤ v1 ∧ v1 ≤ 7) ∧ (0 ≤ v2 ∧ v2 ≤ 3) ∧ (0 ≤ v3 ∧ v3 ≤ 9) ∧ (1 ≤ v4 ∧ v4 ≤ 400) ∧ 1 ≤ v5 ∧ v5 ≤ 2000) → R_book G S I v1 v2 v3 v4 v5 (fun r' J => R (-1) r' J) := fun q => ref I _ (tf.refl I) (fun _ => h _ _ (hI.code rfl).1) (fun z => absurd z q)
  refine b_H_book hS (s_isIn hS a1 ⟨by decide, by decide⟩ ⟨by decide, by decide⟩ (fun p1 p2 => br1 (s_isIn hS a2 ⟨by decide, by decide⟩ ⟨by decide, by decide⟩ (fun p3 p4 => br1 (s_isIn hS a3 ⟨by decide, by decide⟩ ⟨by decide, by decide⟩ (fun p5 p6 => br1 (s_isIn hS a4 ⟨by decide, by decide⟩ ⟨by decide, by decide⟩ (fun p7 p8 => br1 (s_isIn hS a5 ⟨by decide, by decide⟩ ⟨by decide, by decide⟩ (fun p9 p10 => br1 ?_) (fun x => br0 (bad (fun q => x q.2.2.2.2.2))))) (fun x => br0 (bad (fun q => x q.2.2.2.2.1))))) (fun x => br0 (bad (fun q => x q.2.2.2.1))))) (fun x => br0 (bad (fun q => x q.2.2.1))))) (fun x => br0 (bad (fun q => x q.2.1))))
  have hc : I c_shelf 0 = (n : Int) := (pl_books hI.pl).trans hn
  by_cases c : n = 24
  · exact s_Sh_addBook_full hS (by rw [hc, c]; rfl) (bad (fun q => by omega))
  refine s_Sh_addBook (n := n) hS hc (by omega) (fun I1 e1 => ?_)
  have y : (n < 24 ∧ (0 ≤ v1 ∧ v1 ≤ 7) ∧ (0 ≤ v2 ∧ v2 ≤ 3) ∧ (0 ≤ v3 ∧ v3 ≤ 9) ∧ (1 ≤ v4 ∧ v4 ≤ 400) ∧ 1 ≤ v5 ∧ v5 ≤ 2000) := ⟨by omega, ⟨p1, p2⟩, ⟨p3, p4⟩, ⟨p5, p6⟩, ⟨p7, p8⟩, p9, p10⟩
  have hL : okL [(18, 0, 103, 1, 0, (n : Int) + 1), (19, 0, 104, 24, n, v1), (20, 0, 105, 24, n, v2), (21, 0, 106, 24, n, v3), (22, 0, 107, 24, n, v4), (23, 0, 108, 24, n, v5)] := (okL.cons (by decide) (by decide) (by decide) ⟨by omega, by omega⟩ (okL.cons (by decide) (by decide) (by omega) a1 (okL.cons (by decide) (by decide) (by omega) a2 (okL.cons (by decide) (by decide) (by omega) a3 (okL.cons (by decide) (by decide) (by omega) a4 (okL.cons (by decide) (by decide) (by omega) a5 okL.nil))))))
  refine ref _ _ (fun a h1 h2 => by rw [e1]; exact upA_row (fun q hq => by have := (plT_ok2 _ (hL q hq).1).1; omega)) (fun q => absurd y q) (fun _ J eJ => h _ _ (rel_tells _ hI hL (fun q hq => by
    simp only [List.mem_cons, List.not_mem_nil, or_false] at hq
    rcases hq with e | e | e | e | e | e <;> subst e <;> (dsimp only; decide)) (by rw [eJ, e1]) ?_))
  show Good (up (up (up (up (up (up I r_books 0 ((n : Int) + 1)) r_bookKind n (v1)) r_bookTongue n (v2)) r_bookLevel n (v3)) r_bookPages n (v4)) r_bookGrams n (v5))
  obtain ⟨B, eB⟩ : ∃ B, B = up (up (up (up (up (up I r_books 0 ((n : Int) + 1)) r_bookKind n (v1)) r_bookTongue n (v2)) r_bookLevel n (v3)) r_bookPages n (v4)) r_bookGrams n (v5) := ⟨_, rfl⟩
  rw [← eB]
  have row : ∀ a, (a < 103 ∨ 108 < a) → B a = I a := fun a ha => by rw [eB]; exact (up_row (show a ≠ 108 by omega)).trans ((up_row (show a ≠ 107 by omega)).trans ((up_row (show a ≠ 106 by omega)).trans ((up_row (show a ≠ 105 by omega)).trans ((up_row (show a ≠ 104 by omega)).trans ((up_row (show a ≠ 103 by omega)))))))
  have b0 : B r_books 0 = (n : Int) + 1 := by rw [eB, up_row (by decide), up_row (by decide), up_row (by decide), up_row (by decide), up_row (by decide), up_s]
  have b1 : ∀ j, B r_bookKind j = if j = n then v1 else I r_bookKind j := fun j => by rw [eB, up_row (by decide), up_row (by decide), up_row (by decide), up_row (by decide), up_at, up_row (by decide)]
  have b2 : ∀ j, B r_bookTongue j = if j = n then v2 else I r_bookTongue j := fun j => by rw [eB, up_row (by decide), up_row (by decide), up_row (by decide), up_at, up_row (by decide), up_row (by decide)]
  have b3 : ∀ j, B r_bookLevel j = if j = n then v3 else I r_bookLevel j := fun j => by rw [eB, up_row (by decide), up_row (by decide), up_at, up_row (by decide), up_row (by decide), up_row (by decide)]
  have b4 : ∀ j, B r_bookPages j = if j = n then v4 else I r_bookPages j := fun j => by rw [eB, up_row (by decide), up_at, up_row (by decide), up_row (by decide), up_row (by decide), up_row (by decide)]
  have b5 : ∀ j, B r_bookGrams j = if j = n then v5 else I r_bookGrams j := fun j => by rw [eB, up_at, up_row (by decide), up_row (by decide), up_row (by decide), up_row (by decide), up_row (by decide)]
  have zz : ∀ a, (a < 103 ∨ 108 < a ∨ a = 103) → I a 0 ≤ B a 0 := fun a ha => by
    by_cases e : a = 103
    · subst e; have x : I r_books 0 ≤ B r_books 0 := by omega
      exact x
    · rw [row a (by omega)]; exact Int.le_refl _
  obtain ⟨g1, g2, g3, g4, g5, g6, g7, g8, g9⟩ := hI.good
  refine ⟨g1.mono (row _ (by decide)) (row _ (by decide)) (row _ (by decide)), g2.mono (row _ (by decide)) (row _ (by decide)) (row _ (by decide)) (row _ (by decide)), g3.mono (row _ (by decide)) (row _ (by decide)) (row _ (by decide)) (row _ (by decide)) (row _ (by decide)) (zz r_cells (by decide)) (zz r_now (by decide)), g4.mono (row _ (by decide)) (row _ (by decide)) (row _ (by decide)) (row _ (by decide)) (row _ (by decide)) (zz r_cells (by decide)) (zz r_now (by decide)), g5.mono (row _ (by decide)) (row _ (by decide)) (row _ (by decide)) (row _ (by decide)) (row _ (by decide)) (row _ (by decide)) (zz r_camps (by decide)) (zz r_cells (by decide)) (zz r_now (by decide)), ?_, g7.mono (row _ (by decide)) (row _ (by decide)) (row _ (by decide)) (row _ (by decide)) (row _ (by decide)) (row _ (by decide)) (row _ (by decide)) (row _ (by decide)) (zz r_books (by decide)) (zz r_camps (by decide)) (zz r_now (by decide)), g8.mono (row _ (by decide)) (row _ (by decide)) (row _ (by decide)) (row _ (by decide)) (row _ (by decide)) (row _ (by decide)), g9.mono (row _ (by decide)) (row _ (by decide)) (row _ (by decide)) (zz r_camps (by decide))⟩
  unfold gBo at g6 ⊢
  rw [b0]
  refine ⟨by omega, fun j hj => ?_⟩
  rw [b1 j, b2 j, b3 j, b4 j, b5 j]
  by_cases e : j = n
  · simp only [if_pos e]; exact ⟨⟨p1, p2⟩, ⟨p3, p4⟩, ⟨p5, p6⟩, ⟨p7, p8⟩, p9, p10⟩
  · simp only [if_neg e]; exact g6.2 j (by omega)
theorem t_reader {v1 : Int} {R : Int → Int → XI → Prop} (hS : xSh S) (hI : Rel S I) (a1 : InR v1) (h : ∀ r J, Rel S J → R r r J) : H_reader G S I v1 (fun r I1 => R_reader G S I1 v1 (fun r' J => R r r' J)) := by
  obtain ⟨n, hn, hn2⟩ : ∃ n : Nat, I r_readers 0 = (n : Int) ∧ n ≤ 12 := ⟨_, nR_c hI.good⟩
  have cm := nM_c hI.good
  have ref : ∀ (J0 : XI) (T : Int → XI → Prop), tf I J0 → (¬ (n < 12 ∧ 0 ≤ v1 ∧ v1 < I r_camps 0) → T (-1) (up J0 r_obj 0 0)) → ((n < 12 ∧ 0 ≤ v1 ∧ v1 < I r_camps 0) → ∀ J, J = upB [(39, 0, 126, 1, 0, (n : Int) + 1), (40, 0, 127, 12, n, v1), (41, 0, 128, 12, n, 0)] (up J0 r_obj 0 0) → T (n : Int) J) → R_reader G S J0 v1 T := fun J0 T t0 kn ky => by
    refine b_R_reader hS (fun J e => ?_)
    have tc := code_tf t0
    rw [← e] at kn ky tc
    have tJ : J r_readers 0 = (n : Int) := by rw [tc r_readers (by decide) (by decide)]; exact hn
    rw [tJ, w32_nat (k := n) (by omega), show w32 12 = 12 from rfl]
    refine ⟨fun c => kn (fun q => by omega), fun c => s_R_isCamp (z := I r_camps 0) hS (by rw [tc r_camps (by decide) (by decide)]) (by omega) a1 (fun p1 p2 => br1 ?_) (fun x => br0 (kn (fun q => x q.2)))⟩
    have i0 : inb (n : Int) 48 := inb_b (by omega) (by omega) (by decide)
    rw [tJ, ix_nat (k := n) (by omega)]
    refine fun I1 e1 => ⟨i0, fun I2 e2 => ⟨i0, fun I3 e3 => ky ⟨by omega, p1, p2⟩ I3 ?_⟩⟩
    rw [e3, e2, e1]
    rfl
  have bad : ¬ (n < 12 ∧ 0 ≤ v1 ∧ v1 < I r_camps 0) → R_reader G S I v1 (fun r' J => R (-1) r' J) := fun q => ref I _ (tf.refl I) (fun _ => h _ _ (hI.code rfl).1) (fun z => absurd z q)
  refine b_H_reader hS (s_He_hasCamp hS hI a1 (fun p1 p2 => br1 ?_) (fun x => br0 (bad (fun q => x q.2))))
  have hc : I c_readers 0 = (n : Int) := (pl_readers hI.pl).trans hn
  by_cases c : n = 12
  · exact s_Re_addReader_full hS (by rw [hc, c]; rfl) (bad (fun q => by omega))
  refine s_Re_addReader (n := n) hS hc (by omega) (fun I1 e1 => ?_)
  have y : (n < 12 ∧ 0 ≤ v1 ∧ v1 < I r_camps 0) := ⟨by omega, p1, p2⟩
  have hL : okL [(39, 0, 126, 1, 0, (n : Int) + 1), (40, 0, 127, 12, n, v1), (41, 0, 128, 12, n, 0)] := (okL.cons (by decide) (by decide) (by decide) ⟨by omega, by omega⟩ (okL.cons (by decide) (by decide) (by omega) a1 (okL.cons (by decide) (by decide) (by omega) ⟨by decide, by decide⟩ okL.nil)))
  refine ref _ _ (fun a h1 h2 => by rw [e1]; exact upA_row (fun q hq => by have := (plT_ok2 _ (hL q hq).1).1; omega)) (fun q => absurd y q) (fun _ J eJ => h _ _ (rel_tells _ hI hL (fun q hq => by
    simp only [List.mem_cons, List.not_mem_nil, or_false] at hq
    rcases hq with e | e | e <;> subst e <;> (dsimp only; decide)) (by rw [eJ, e1]) ?_))
  show Good (up (up (up I r_readers 0 ((n : Int) + 1)) r_readerCamp n (v1)) r_readerBooks n (0))
  obtain ⟨B, eB⟩ : ∃ B, B = up (up (up I r_readers 0 ((n : Int) + 1)) r_readerCamp n (v1)) r_readerBooks n (0) := ⟨_, rfl⟩
  rw [← eB]
  have row : ∀ a, (a < 126 ∨ 128 < a) → B a = I a := fun a ha => by rw [eB]; exact (up_row (show a ≠ 128 by omega)).trans ((up_row (show a ≠ 127 by omega)).trans ((up_row (show a ≠ 126 by omega))))
  have b0 : B r_readers 0 = (n : Int) + 1 := by rw [eB, up_row (by decide), up_row (by decide), up_s]
  have b1 : ∀ j, B r_readerCamp j = if j = n then v1 else I r_readerCamp j := fun j => by rw [eB, up_row (by decide), up_at, up_row (by decide)]
  have b2 : ∀ j, B r_readerBooks j = if j = n then 0 else I r_readerBooks j := fun j => by rw [eB, up_at, up_row (by decide), up_row (by decide)]
  have zz : ∀ a, (a < 126 ∨ 128 < a ∨ a = 126) → I a 0 ≤ B a 0 := fun a ha => by
    by_cases e : a = 126
    · subst e; have x : I r_readers 0 ≤ B r_readers 0 := by omega
      exact x
    · rw [row a (by omega)]; exact Int.le_refl _
  obtain ⟨g1, g2, g3, g4, g5, g6, g7, g8, g9⟩ := hI.good
  refine ⟨g1.mono (row _ (by decide)) (row _ (by decide)) (row _ (by decide)), g2.mono (row _ (by decide)) (row _ (by decide)) (row _ (by decide)) (row _ (by decide)), g3.mono (row _ (by decide)) (row _ (by decide)) (row _ (by decide)) (row _ (by decide)) (row _ (by decide)) (zz r_cells (by decide)) (zz r_now (by decide)), g4.mono (row _ (by decide)) (row _ (by decide)) (row _ (by decide)) (row _ (by decide)) (row _ (by decide)) (zz r_cells (by decide)) (zz r_now (by decide)), g5.mono (row _ (by decide)) (row _ (by decide)) (row _ (by decide)) (row _ (by decide)) (row _ (by decide)) (row _ (by decide)) (zz r_camps (by decide)) (zz r_cells (by decide)) (zz r_now (by decide)), g6.mono (row _ (by decide)) (row _ (by decide)) (row _ (by decide)) (row _ (by decide)) (row _ (by decide)) (row _ (by decide)), g7.mono (row _ (by decide)) (row _ (by decide)) (row _ (by decide)) (row _ (by decide)) (row _ (by decide)) (row _ (by decide)) (row _ (by decide)) (row _ (by decide)) (zz r_books (by decide)) (zz r_camps (by decide)) (zz r_now (by decide)), g8.mono (row _ (by decide)) (row _ (by decide)) (row _ (by decide)) (row _ (by decide)) (row _ (by decide)) (row _ (by decide)), ?_⟩
  unfold gRe at g9 ⊢
  rw [b0, row r_camps (by decide)]
  refine ⟨by omega, fun j hj => ?_⟩
  rw [b1 j, b2 j]
  by_cases e : j = n
  · simp only [if_pos e]; exact ⟨⟨p1, p2⟩, by decide, by decide⟩
  · simp only [if_neg e]; exact g9.2 j (by omega)
theorem t_camp {v1 v2 : Int} {R : Int → Int → XI → Prop} (hS : xSh S) (hI : Rel S I) (a1 : InR v1) (a2 : InR v2) (h : ∀ r J, Rel S J → R r r J) : H_camp G S I v1 v2 (fun r I1 => R_camp G S I1 v1 v2 (fun r' J => R r r' J)) := by
  obtain ⟨n, hn, hn2⟩ : ∃ n : Nat, I r_camps 0 = (n : Int) ∧ n ≤ 6 := ⟨_, nM_c hI.good⟩
  have cc := nC_c hI.good
  have hnow := hI.good.1.1
  have ref : ∀ (J0 : XI) (T : Int → XI → Prop), tf I J0 → (¬ (n < 6 ∧ (0 ≤ v1 ∧ v1 < I r_cells 0) ∧ 0 ≤ v2 ∧ v2 ≤ 3) → T (-1) (up J0 r_obj 0 0)) → ((n < 6 ∧ (0 ≤ v1 ∧ v1 < I r_cells 0) ∧ 0 ≤ v2 ∧ v2 ≤ 3) → ∀ J, J = upB [(8, 0, 87, 1, 0, (n : Int) + 1), (9, 0, 88, 6, n, v2), (10, 0, 89, 6, n, v1), (11, 0, 90, 6, n, I r_now 0)] (up J0 r_obj 0 0) → T (n : Int) J) → R_camp G S J0 v1 v2 T := fun J0 T t0 kn ky => by
    refine b_R_camp hS (fun J e => ?_)
    have tc := code_tf t0
    rw [← e] at kn ky tc
    have tJ : J r_camps 0 = (n : Int) := by rw [tc r_camps (by decide) (by decide)]; exact hn
    rw [tJ, w32_nat (k := n) (by omega), show w32 6 = 6 from rfl]
    refine ⟨fun c => kn (fun q => by omega), fun c => s_R_isCell (z := I r_cells 0) hS (by rw [tc r_cells (by decide) (by decide)]) (by omega) a1 (fun p1 p2 => br1 (s_Rin hS a2 ⟨by decide, by decide⟩ ⟨by decide, by decide⟩ (fun p3 p4 => br1 ?_) (fun x => br0 (kn (fun q => x q.2.2))))) (fun x => br0 (kn (fun q => x q.2.1)))⟩
    have i0 : inb (n : Int) 24 := inb_b (by omega) (by omega) (by decide)
    rw [tJ, ix_nat (k := n) (by omega)]
    refine fun I1 e1 => ⟨i0, fun I2 e2 => ⟨i0, fun I3 e3 => ⟨i0, fun I4 e4 => ky ⟨by omega, ⟨p1, p2⟩, p3, p4⟩ I4 ?_⟩⟩⟩
    have ew : I3 r_now 0 = I r_now 0 := by rw [e3, up_row (by decide), e2, up_row (by decide), e1, up_row (by decide), tc r_now (by decide) (by decide)]
    rw [e4, ew, e3, e2, e1]
    rfl
  have bad : ∀ K, tf I K → Rel S K → ¬ (n < 6 ∧ (0 ≤ v1 ∧ v1 < I r_cells 0) ∧ 0 ≤ v2 ∧ v2 ≤ 3) → R_camp G S K v1 v2 (fun r' J => R (-1) r' J) := fun K tK hK q => ref K _ tK (fun _ => h _ _ (hK.code rfl).1) (fun z => absurd z q)
  refine b_H_camp hS (s_La_hasCell hS hI a1 (fun p1 p2 => br1 (s_isIn hS a2 ⟨by decide, by decide⟩ ⟨by decide, by decide⟩ (fun p3 p4 => br1 (s_H_forgetParts hS ?_)) (fun x => br0 (bad I (tf.refl I) hI (fun q => x q.2.2))))) (fun x => br0 (bad I (tf.refl I) hI (fun q => x q.2.1))))
  have tK : tf I (fgt I) := fun a h1 h2 => fgt_row (by omega) (by omega)
  have hc : fgt I c_herds 0 = (n : Int) := by rw [fgt_row (by decide) (by decide)]; exact (pl_camps hI.pl).trans hn
  rw [show fgt I c_told 9 = I r_now 0 by rw [fgt_row (by decide) (by decide)]; exact pl_now hI.pl]
  by_cases c : n = 6
  · exact s_He_addCamp_full hS (by rw [hc, c]; rfl) (bad _ tK hI.fgt (fun q => by omega))
  refine s_He_addCamp (n := n) hS hc (by omega) (fun I1 e1 => ?_)
  have y : (n < 6 ∧ (0 ≤ v1 ∧ v1 < I r_cells 0) ∧ 0 ≤ v2 ∧ v2 ≤ 3) := ⟨by omega, ⟨p1, p2⟩, p3, p4⟩
  have n101 : upB [(8, 0, 87, 1, 0, (n : Int) + 1), (9, 0, 88, 6, n, v2), (10, 0, 89, 6, n, v1), (11, 0, 90, 6, n, I r_now 0)] I r_newsSeen = I r_newsSeen := by
    show up (up (up (up I r_camps 0 ((n : Int) + 1)) r_campTongue n (v2)) r_campCell n (v1)) r_campWeek n (I r_now 0) r_newsSeen = I r_newsSeen
    rw [up_row (by decide), up_row (by decide), up_row (by decide), up_row (by decide)]
  have hL : okL [(8, 0, 87, 1, 0, (n : Int) + 1), (9, 0, 88, 6, n, v2), (10, 0, 89, 6, n, v1), (11, 0, 90, 6, n, I r_now 0)] := (okL.cons (by decide) (by decide) (by decide) ⟨by omega, by omega⟩ (okL.cons (by decide) (by decide) (by omega) a2 (okL.cons (by decide) (by decide) (by omega) a1 (okL.cons (by decide) (by decide) (by omega) ⟨by omega, by omega⟩ okL.nil))))
  refine ref _ _ (fun a h1 h2 => by rw [e1, ← tK a h1 h2]; exact upA_row (fun q hq => by have := (plT_ok2 _ (hL q hq).1).1; omega)) (fun q => absurd y q) (fun _ J eJ => h _ _ (rel_tellsF _ hI hL (fun q hq => by
    simp only [List.mem_cons, List.not_mem_nil, or_false] at hq
    rcases hq with e | e | e | e <;> subst e <;> (dsimp only; decide)) (by rw [eJ, e1]) ?_ (by rw [n101]; exact hI.2.2.2.1.1.1.1)))
  show Good (up (up (up (up I r_camps 0 ((n : Int) + 1)) r_campTongue n (v2)) r_campCell n (v1)) r_campWeek n (I r_now 0))
  obtain ⟨B, eB⟩ : ∃ B, B = up (up (up (up I r_camps 0 ((n : Int) + 1)) r_campTongue n (v2)) r_campCell n (v1)) r_campWeek n (I r_now 0) := ⟨_, rfl⟩
  rw [← eB]
  have row : ∀ a, (a < 87 ∨ 90 < a) → B a = I a := fun a ha => by rw [eB]; exact (up_row (show a ≠ 90 by omega)).trans ((up_row (show a ≠ 89 by omega)).trans ((up_row (show a ≠ 88 by omega)).trans ((up_row (show a ≠ 87 by omega)))))
  have b0 : B r_camps 0 = (n : Int) + 1 := by rw [eB, up_row (by decide), up_row (by decide), up_row (by decide), up_s]
  have b1 : ∀ j, B r_campTongue j = if j = n then v2 else I r_campTongue j := fun j => by rw [eB, up_row (by decide), up_row (by decide), up_at, up_row (by decide)]
  have b2 : ∀ j, B r_campCell j = if j = n then v1 else I r_campCell j := fun j => by rw [eB, up_row (by decide), up_at, up_row (by decide), up_row (by decide)]
  have b3 : ∀ j, B r_campWeek j = if j = n then I r_now 0 else I r_campWeek j := fun j => by rw [eB, up_at, up_row (by decide), up_row (by decide), up_row (by decide)]
  have zz : ∀ a, (a < 87 ∨ 90 < a ∨ a = 87) → I a 0 ≤ B a 0 := fun a ha => by
    by_cases e : a = 87
    · subst e; have x : I r_camps 0 ≤ B r_camps 0 := by omega
      exact x
    · rw [row a (by omega)]; exact Int.le_refl _
  obtain ⟨g1, g2, g3, g4, g5, g6, g7, g8, g9⟩ := hI.good
  refine ⟨g1.mono (row _ (by decide)) (row _ (by decide)) (row _ (by decide)), g2.mono (row _ (by decide)) (row _ (by decide)) (row _ (by decide)) (row _ (by decide)), g3.mono (row _ (by decide)) (row _ (by decide)) (row _ (by decide)) (row _ (by decide)) (row _ (by decide)) (zz r_cells (by decide)) (zz r_now (by decide)), ?_, g5.mono (row _ (by decide)) (row _ (by decide)) (row _ (by decide)) (row _ (by decide)) (row _ (by decide)) (row _ (by decide)) (zz r_camps (by decide)) (zz r_cells (by decide)) (zz r_now (by decide)), g6.mono (row _ (by decide)) (row _ (by decide)) (row _ (by decide)) (row _ (by decide)) (row _ (by decide)) (row _ (by decide)), g7.mono (row _ (by decide)) (row _ (by decide)) (row _ (by decide)) (row _ (by decide)) (row _ (by decide)) (row _ (by decide)) (row _ (by decide)) (row _ (by decide)) (zz r_books (by decide)) (zz r_camps (by decide)) (zz r_now (by decide)), g8.mono (row _ (by decide)) (row _ (by decide)) (row _ (by decide)) (row _ (by decide)) (row _ (by decide)) (row _ (by decide)), g9.mono (row _ (by decide)) (row _ (by decide)) (row _ (by decide)) (zz r_camps (by decide))⟩
  unfold gCa at g4 ⊢
  rw [b0, row r_cells (by decide), row r_now (by decide), row r_wishes (by decide)]
  refine ⟨by omega, fun j hj => ?_, g4.2.2⟩
  rw [b1 j, b2 j, b3 j]
  by_cases e : j = n
  · simp only [if_pos e]; exact ⟨⟨p3, p4⟩, ⟨p1, p2⟩, hnow.1, Int.le_refl _⟩
  · simp only [if_neg e]; exact g4.2.1 j (by omega)
theorem t_grass {v1 v2 v3 : Int} {R : Int → Int → XI → Prop} (hS : xSh S) (hI : Rel S I) (a1 : InR v1) (a2 : InR v2) (a3 : InR v3) (h : ∀ r J, Rel S J → R r r J) : H_grass G S I v1 v2 v3 (fun r I1 => R_grass G S I1 v1 v2 v3 (fun r' J => R r r' J)) := by
  obtain ⟨n, hn, hn2⟩ : ∃ n : Nat, I r_grasses 0 = (n : Int) ∧ n ≤ 60 := ⟨_, nG_c hI.good⟩
  have cc := nC_c hI.good
  have hnow := hI.good.1.1
  have ref : ∀ (J0 : XI) (T : Int → XI → Prop), tf I J0 → (¬ (n < 60 ∧ (0 ≤ v1 ∧ v1 < I r_cells 0) ∧ (0 ≤ v2 ∧ v2 ≤ 99) ∧ 0 ≤ v3 ∧ v3 ≤ 99) → T 0 (up J0 r_obj 0 0)) → ((n < 60 ∧ (0 ≤ v1 ∧ v1 < I r_cells 0) ∧ (0 ≤ v2 ∧ v2 ≤ 99) ∧ 0 ≤ v3 ∧ v3 ≤ 99) → ∀ J, J = upB [(1, 3, 91, 1, 0, (n : Int) + 1), (3, 0, 92, 60, n, v1), (4, 0, 93, 60, n, v2), (5, 0, 94, 60, n, v3), (6, 0, 95, 60, n, I r_now 0)] (up J0 r_obj 0 0) → T 1 J) → R_grass G S J0 v1 v2 v3 T := fun J0 T t0 kn ky => by
    refine b_R_grass hS (fun J e => ?_)
    have tc := code_tf t0
    rw [← e] at kn ky tc
    have tJ : J r_grasses 0 = (n : Int) := by rw [tc r_grasses (by decide) (by decide)]; exact hn
    rw [tJ, w32_nat (k := n) (by omega), show w32 60 = 60 from rfl]
    refine ⟨fun c => kn (fun q => by omega), fun c => s_R_isCell (z := I r_cells 0) hS (by rw [tc r_cells (by decide) (by decide)]) (by omega) a1 (fun p1 p2 => br1 (s_R_isWeek hS a2 (fun p3 p4 => br1 (s_Rin hS a3 ⟨by decide, by decide⟩ ⟨by decide, by decide⟩ (fun p5 p6 => br1 ?_) (fun x => br0 (kn (fun q => x q.2.2.2))))) (fun x => br0 (kn (fun q => x q.2.2.1))))) (fun x => br0 (kn (fun q => x q.2.1)))⟩
    have i0 : inb (n : Int) 240 := inb_b (by omega) (by omega) (by decide)
    rw [tJ, ix_nat (k := n) (by omega)]
    refine fun I1 e1 => ⟨i0, fun I2 e2 => ⟨i0, fun I3 e3 => ⟨i0, fun I4 e4 => ⟨i0, fun I5 e5 => ky ⟨by omega, ⟨p1, p2⟩, ⟨p3, p4⟩, p5, p6⟩ I5 ?_⟩⟩⟩⟩
    have ew : I4 r_now 0 = I r_now 0 := by rw [e4, up_row (by decide), e3, up_row (by decide), e2, up_row (by decide), e1, up_row (by decide), tc r_now (by decide) (by decide)]
    rw [e5, ew, e4, e3, e2, e1]
    rfl
  have bad : ∀ K, tf I K → Rel S K → ¬ (n < 60 ∧ (0 ≤ v1 ∧ v1 < I r_cells 0) ∧ (0 ≤ v2 ∧ v2 ≤ 99) ∧ 0 ≤ v3 ∧ v3 ≤ 99) → R_grass G S K v1 v2 v3 (fun r' J => R 0 r' J) := fun K tK hK q => ref K _ tK (fun _ => h _ _ (hK.code rfl).1) (fun z => absurd z q)
  refine b_H_grass hS (s_La_hasCell hS hI a1 (fun p1 p2 => br1 (s_H_isWeek hS a2 (fun p3 p4 => br1 (s_isIn hS a3 ⟨by decide, by decide⟩ ⟨by decide, by decide⟩ (fun p5 p6 => br1 (s_H_forgetParts hS ?_)) (fun x => br0 (bad I (tf.refl I) hI (fun q => x q.2.2.2))))) (fun x => br0 (bad I (tf.refl I) hI (fun q => x q.2.2.1))))) (fun x => br0 (bad I (tf.refl I) hI (fun q => x q.2.1))))
  have tK : tf I (fgt I) := fun a h1 h2 => fgt_row (by omega) (by omega)
  have hc : fgt I c_land 3 = (n : Int) := by rw [fgt_row (by decide) (by decide)]; exact (pl_grasses hI.pl).trans hn
  rw [show fgt I c_told 9 = I r_now 0 by rw [fgt_row (by decide) (by decide)]; exact pl_now hI.pl]
  by_cases c : n = 60
  · exact s_La_addGrass_full hS (by rw [hc, c]; rfl) ⟨Or.inl rfl, bad _ tK hI.fgt (fun q => by omega)⟩
  refine s_La_addGrass (n := n) hS hc (by omega) (fun I1 e1 => ⟨Or.inr rfl, ?_⟩)
  have y : (n < 60 ∧ (0 ≤ v1 ∧ v1 < I r_cells 0) ∧ (0 ≤ v2 ∧ v2 ≤ 99) ∧ 0 ≤ v3 ∧ v3 ≤ 99) := ⟨by omega, ⟨p1, p2⟩, ⟨p3, p4⟩, p5, p6⟩
  have n101 : upB [(1, 3, 91, 1, 0, (n : Int) + 1), (3, 0, 92, 60, n, v1), (4, 0, 93, 60, n, v2), (5, 0, 94, 60, n, v3), (6, 0, 95, 60, n, I r_now 0)] I r_newsSeen = I r_newsSeen := by
    show up (up (up (up (up I r_grasses 0 ((n : Int) + 1)) r_grassCell n (v1)) r_grassWeek n (v2)) r_grassIs n (v3)) r_grassTold n (I r_now 0) r_newsSeen = I r_newsSeen
    rw [up_row (by decide), up_row (by decide), up_row (by decide), up_row (by decide), up_row (by decide)]
  have hL : okL [(1, 3, 91, 1, 0, (n : Int) + 1), (3, 0, 92, 60, n, v1), (4, 0, 93, 60, n, v2), (5, 0, 94, 60, n, v3), (6, 0, 95, 60, n, I r_now 0)] := (okL.cons (by decide) (by decide) (by decide) ⟨by omega, by omega⟩ (okL.cons (by decide) (by decide) (by omega) a1 (okL.cons (by decide) (by decide) (by omega) a2 (okL.cons (by decide) (by decide) (by omega) a3 (okL.cons (by decide) (by decide) (by omega) ⟨by omega, by omega⟩ okL.nil)))))
  refine ref _ _ (fun a h1 h2 => by rw [e1, ← tK a h1 h2]; exact upA_row (fun q hq => by have := (plT_ok2 _ (hL q hq).1).1; omega)) (fun q => absurd y q) (fun _ J eJ => h _ _ (rel_tellsF _ hI hL (fun q hq => by
    simp only [List.mem_cons, List.not_mem_nil, or_false] at hq
    rcases hq with e | e | e | e | e <;> subst e <;> (dsimp only; decide)) (by rw [eJ, e1]) ?_ (by rw [n101]; exact hI.2.2.2.1.1.1.1)))
  show Good (up (up (up (up (up I r_grasses 0 ((n : Int) + 1)) r_grassCell n (v1)) r_grassWeek n (v2)) r_grassIs n (v3)) r_grassTold n (I r_now 0))
  obtain ⟨B, eB⟩ : ∃ B, B = up (up (up (up (up I r_grasses 0 ((n : Int) + 1)) r_grassCell n (v1)) r_grassWeek n (v2)) r_grassIs n (v3)) r_grassTold n (I r_now 0) := ⟨_, rfl⟩
  rw [← eB]
  have row : ∀ a, (a < 91 ∨ 95 < a) → B a = I a := fun a ha => by rw [eB]; exact (up_row (show a ≠ 95 by omega)).trans ((up_row (show a ≠ 94 by omega)).trans ((up_row (show a ≠ 93 by omega)).trans ((up_row (show a ≠ 92 by omega)).trans ((up_row (show a ≠ 91 by omega))))))
  have b0 : B r_grasses 0 = (n : Int) + 1 := by rw [eB, up_row (by decide), up_row (by decide), up_row (by decide), up_row (by decide), up_s]
  have b1 : ∀ j, B r_grassCell j = if j = n then v1 else I r_grassCell j := fun j => by rw [eB, up_row (by decide), up_row (by decide), up_row (by decide), up_at, up_row (by decide)]
  have b2 : ∀ j, B r_grassWeek j = if j = n then v2 else I r_grassWeek j := fun j => by rw [eB, up_row (by decide), up_row (by decide), up_at, up_row (by decide), up_row (by decide)]
  have b3 : ∀ j, B r_grassIs j = if j = n then v3 else I r_grassIs j := fun j => by rw [eB, up_row (by decide), up_at, up_row (by decide), up_row (by decide), up_row (by decide)]
  have b4 : ∀ j, B r_grassTold j = if j = n then I r_now 0 else I r_grassTold j := fun j => by rw [eB, up_at, up_row (by decide), up_row (by decide), up_row (by decide), up_row (by decide)]
  have zz : ∀ a, (a < 91 ∨ 95 < a ∨ a = 91) → I a 0 ≤ B a 0 := fun a ha => by
    by_cases e : a = 91
    · subst e; have x : I r_grasses 0 ≤ B r_grasses 0 := by omega
      exact x
    · rw [row a (by omega)]; exact Int.le_refl _
  obtain ⟨g1, g2, g3, g4, g5, g6, g7, g8, g9⟩ := hI.good
  refine ⟨g1.mono (row _ (by decide)) (row _ (by decide)) (row _ (by decide)), g2.mono (row _ (by decide)) (row _ (by decide)) (row _ (by decide)) (row _ (by decide)), ?_, g4.mono (row _ (by decide)) (row _ (by decide)) (row _ (by decide)) (row _ (by decide)) (row _ (by decide)) (zz r_cells (by decide)) (zz r_now (by decide)), g5.mono (row _ (by decide)) (row _ (by decide)) (row _ (by decide)) (row _ (by decide)) (row _ (by decide)) (row _ (by decide)) (zz r_camps (by decide)) (zz r_cells (by decide)) (zz r_now (by decide)), g6.mono (row _ (by decide)) (row _ (by decide)) (row _ (by decide)) (row _ (by decide)) (row _ (by decide)) (row _ (by decide)), g7.mono (row _ (by decide)) (row _ (by decide)) (row _ (by decide)) (row _ (by decide)) (row _ (by decide)) (row _ (by decide)) (row _ (by decide)) (row _ (by decide)) (zz r_books (by decide)) (zz r_camps (by decide)) (zz r_now (by decide)), g8.mono (row _ (by decide)) (row _ (by decide)) (row _ (by decide)) (row _ (by decide)) (row _ (by decide)) (row _ (by decide)), g9.mono (row _ (by decide)) (row _ (by decide)) (row _ (by decide)) (zz r_camps (by decide))⟩
  unfold gGr at g3 ⊢
  rw [b0, row r_cells (by decide), row r_now (by decide)]
  refine ⟨by omega, fun j hj => ?_⟩
  rw [b1 j, b2 j, b3 j, b4 j]
  by_cases e : j = n
  · simp only [if_pos e]; exact ⟨⟨p1, p2⟩, ⟨p3, p4⟩, ⟨p5, p6⟩, hnow.1, Int.le_refl _⟩
  · simp only [if_neg e]; exact g3.2 j (by omega)
theorem t_news {v1 v2 v3 v4 : Int} {R : Int → Int → XI → Prop} (hS : xSh S) (hI : Rel S I) (a1 : InR v1) (a2 : InR v2) (a3 : InR v3) (b4 : v4 = 0 ∨ v4 = 1) (h : ∀ r J, Rel S J → R r r J) : H_news G S I v1 v2 v3 v4 (fun r I1 => R_news G S I1 v1 v2 v3 v4 (fun r' J => R r r' J)) := by
  obtain ⟨n, hn, hn2⟩ : ∃ n : Nat, I r_newsMany 0 = (n : Int) ∧ n ≤ 60 := ⟨_, nN_c hI.good⟩
  have cc := nC_c hI.good
  have cm := nM_c hI.good
  have hnow := hI.good.1.1
  have cw : 0 ≤ v1 → v1 < I r_camps 0 → 0 ≤ I r_campWeek v1.toNat ∧ I r_campWeek v1.toNat ≤ I r_now 0 := fun q1 q2 => (hI.good.2.2.2.1.2.1 v1.toNat (by omega)).2.2
  have ref : ∀ (J0 : XI) (T : Int → XI → Prop), tf I J0 → (¬ (n < 60 ∧ (0 ≤ v1 ∧ v1 < I r_camps 0) ∧ (0 ≤ v2 ∧ v2 < I r_cells 0) ∧ I r_campWeek v1.toNat ≤ v3 ∧ v3 ≤ I r_now 0) → T (-1) (up J0 r_obj 0 0)) → ((n < 60 ∧ (0 ≤ v1 ∧ v1 < I r_camps 0) ∧ (0 ≤ v2 ∧ v2 < I r_cells 0) ∧ I r_campWeek v1.toNat ≤ v3 ∧ v3 ≤ I r_now 0) → ∀ J, J = upB [(8, 5, 97, 1, 0, (n : Int) + 1), (13, 0, 98, 60, n, v1), (14, 0, 99, 60, n, v2), (15, 0, 100, 60, n, v3), (16, 0, 101, 60, n, v4), (17, 0, 102, 60, n, I r_now 0)] (up J0 r_obj 0 0) → T (n : Int) J) → R_news G S J0 v1 v2 v3 v4 T := fun J0 T t0 kn ky => by
    refine b_R_news hS (fun J e => ?_)
    have tc := code_tf t0
    rw [← e] at kn ky tc
    have tJ : J r_newsMany 0 = (n : Int) := by rw [tc r_newsMany (by decide) (by decide)]; exact hn
    rw [tJ, w32_nat (k := n) (by omega), show w32 60 = 60 from rfl]
    refine ⟨fun c => kn (fun q => by omega), fun c => s_R_isCamp (z := I r_camps 0) hS (by rw [tc r_camps (by decide) (by decide)]) (by omega) a1 (fun p1 p2 => br1 (s_R_isCell (z := I r_cells 0) hS (by rw [tc r_cells (by decide) (by decide)]) (by omega) a2 (fun p3 p4 => br1 ⟨inb_b (by omega) (by omega) (by decide), ?_⟩) (fun x => br0 (kn (fun q => x q.2.2.1))))) (fun x => br0 (kn (fun q => x q.2.1)))⟩
    rw [ix_b (z := v1) (by omega) (by omega), tc r_campWeek (by decide) (by decide), tc r_now (by decide) (by decide)]
    have w := cw p1 p2
    refine s_Rin hS a3 ⟨by omega, by omega⟩ ⟨by omega, by omega⟩ (fun p5 p6 => br1 ?_) (fun x => br0 (kn (fun q => x q.2.2.2)))
    have i0 : inb (n : Int) 240 := inb_b (by omega) (by omega) (by decide)
    rw [tJ, ix_nat (k := n) (by omega)]
    refine fun I1 e1 => ⟨i0, fun I2 e2 => ⟨i0, fun I3 e3 => ⟨i0, fun I4 e4 => ⟨b4, i0, fun I5 e5 => ⟨i0, fun I6 e6 => ky ⟨by omega, ⟨p1, p2⟩, ⟨p3, p4⟩, p5, p6⟩ I6 ?_⟩⟩⟩⟩⟩
    have ew : I5 r_now 0 = I r_now 0 := by rw [e5, up_row (by decide), e4, up_row (by decide), e3, up_row (by decide), e2, up_row (by decide), e1, up_row (by decide), tc r_now (by decide) (by decide)]
    rw [e6, ew, e5, e4, e3, e2, e1]
    rfl
  have bad : ∀ K, tf I K → Rel S K → ¬ (n < 60 ∧ (0 ≤ v1 ∧ v1 < I r_camps 0) ∧ (0 ≤ v2 ∧ v2 < I r_cells 0) ∧ I r_campWeek v1.toNat ≤ v3 ∧ v3 ≤ I r_now 0) → R_news G S K v1 v2 v3 v4 (fun r' J => R (-1) r' J) := fun K tK hK q => ref K _ tK (fun _ => h _ _ (hK.code rfl).1) (fun z => absurd z q)
  refine b_H_news hS (s_He_hasCamp hS hI a1 (fun p1 p2 => br1 (s_La_hasCell hS hI a2 (fun p3 p4 => br1 (s_H_isPast hS hI a3 (fun p5 p6 => br1 ⟨inb_b (by omega) (by omega) (by decide), ?_⟩) (fun x => br0 (bad I (tf.refl I) hI (fun q => x (by have := cw p1 p2; have := q.2.2.2; omega)))))) (fun x => br0 (bad I (tf.refl I) hI (fun q => x q.2.2.1))))) (fun x => br0 (bad I (tf.refl I) hI (fun q => x q.2.1))))
  have w := cw p1 p2
  rw [ix_b (z := v1) (by omega) (by omega), pl_campWeek hI.pl _ (by omega), w32_r a3, w32_b (z := I r_campWeek v1.toNat) (by omega) (by omega)]
  refine ⟨fun p7 => s_H_forgetParts hS ?_, fun x => bad I (tf.refl I) hI (fun q => x q.2.2.2.1)⟩
  have tK : tf I (fgt I) := fun a h1 h2 => fgt_row (by omega) (by omega)
  have hc : fgt I c_herds 5 = (n : Int) := by rw [fgt_row (by decide) (by decide)]; exact (pl_newsMany hI.pl).trans hn
  rw [show fgt I c_told 9 = I r_now 0 by rw [fgt_row (by decide) (by decide)]; exact pl_now hI.pl]
  by_cases c : n = 60
  · exact s_He_addNews_full hS (by rw [hc, c]; rfl) (bad _ tK hI.fgt (fun q => by omega))
  refine s_He_addNews (n := n) hS b4 hc (by omega) (fun I1 e1 => ?_)
  have y : (n < 60 ∧ (0 ≤ v1 ∧ v1 < I r_camps 0) ∧ (0 ≤ v2 ∧ v2 < I r_cells 0) ∧ I r_campWeek v1.toNat ≤ v3 ∧ v3 ≤ I r_now 0) := ⟨by omega, ⟨p1, p2⟩, ⟨p3, p4⟩, p7, p6⟩
  have f101 : ∀ j, j < 60 → upB [(8, 5, 97, 1, 0, (n : Int) + 1), (13, 0, 98, 60, n, v1), (14, 0, 99, 60, n, v2), (15, 0, 100, 60, n, v3), (16, 0, 101, 60, n, v4), (17, 0, 102, 60, n, I r_now 0)] I r_newsSeen j = 0 ∨ upB [(8, 5, 97, 1, 0, (n : Int) + 1), (13, 0, 98, 60, n, v1), (14, 0, 99, 60, n, v2), (15, 0, 100, 60, n, v3), (16, 0, 101, 60, n, v4), (17, 0, 102, 60, n, I r_now 0)] I r_newsSeen j = 1 := fun j hj => by
    have e101 : upB [(8, 5, 97, 1, 0, (n : Int) + 1), (13, 0, 98, 60, n, v1), (14, 0, 99, 60, n, v2), (15, 0, 100, 60, n, v3), (16, 0, 101, 60, n, v4), (17, 0, 102, 60, n, I r_now 0)] I r_newsSeen j = if j = n then v4 else I r_newsSeen j := by
      show up (up (up (up (up (up I r_newsMany 0 ((n : Int) + 1)) r_newsCamp n v1) r_newsCell n v2) r_newsWeek n v3) r_newsSeen n v4) r_newsTold n (I r_now 0) r_newsSeen j = _
      rw [up_row (by decide), up_at, up_row (by decide), up_row (by decide), up_row (by decide), up_row (by decide)]
    rw [e101]
    split
    · exact b4
    · exact hI.2.2.2.1.1.1.1 j hj
  have hL : okL [(8, 5, 97, 1, 0, (n : Int) + 1), (13, 0, 98, 60, n, v1), (14, 0, 99, 60, n, v2), (15, 0, 100, 60, n, v3), (16, 0, 101, 60, n, v4), (17, 0, 102, 60, n, I r_now 0)] := (okL.cons (by decide) (by decide) (by decide) ⟨by omega, by omega⟩ (okL.cons (by decide) (by decide) (by omega) a1 (okL.cons (by decide) (by decide) (by omega) a2 (okL.cons (by decide) (by decide) (by omega) a3 (okL.cons (by decide) (by decide) (by omega) ⟨by omega, by omega⟩ (okL.cons (by decide) (by decide) (by omega) ⟨by omega, by omega⟩ okL.nil))))))
  refine ref _ _ (fun a h1 h2 => by rw [e1, ← tK a h1 h2]; exact upA_row (fun q hq => by have := (plT_ok2 _ (hL q hq).1).1; omega)) (fun q => absurd y q) (fun _ J eJ => h _ _ (rel_tellsF _ hI hL (fun q hq => by
    simp only [List.mem_cons, List.not_mem_nil, or_false] at hq
    rcases hq with e | e | e | e | e | e <;> subst e <;> (dsimp only; decide)) (by rw [eJ, e1]) ?_ f101))
  show Good (up (up (up (up (up (up I r_newsMany 0 ((n : Int) + 1)) r_newsCamp n (v1)) r_newsCell n (v2)) r_newsWeek n (v3)) r_newsSeen n (v4)) r_newsTold n (I r_now 0))
  obtain ⟨B, eB⟩ : ∃ B, B = up (up (up (up (up (up I r_newsMany 0 ((n : Int) + 1)) r_newsCamp n (v1)) r_newsCell n (v2)) r_newsWeek n (v3)) r_newsSeen n (v4)) r_newsTold n (I r_now 0) := ⟨_, rfl⟩
  rw [← eB]
  have row : ∀ a, (a < 97 ∨ 102 < a) → B a = I a := fun a ha => by rw [eB]; exact (up_row (show a ≠ 102 by omega)).trans ((up_row (show a ≠ 101 by omega)).trans ((up_row (show a ≠ 100 by omega)).trans ((up_row (show a ≠ 99 by omega)).trans ((up_row (show a ≠ 98 by omega)).trans ((up_row (show a ≠ 97 by omega)))))))
  have b0 : B r_newsMany 0 = (n : Int) + 1 := by rw [eB, up_row (by decide), up_row (by decide), up_row (by decide), up_row (by decide), up_row (by decide), up_s]
  have b1 : ∀ j, B r_newsCamp j = if j = n then v1 else I r_newsCamp j := fun j => by rw [eB, up_row (by decide), up_row (by decide), up_row (by decide), up_row (by decide), up_at, up_row (by decide)]
  have b2 : ∀ j, B r_newsCell j = if j = n then v2 else I r_newsCell j := fun j => by rw [eB, up_row (by decide), up_row (by decide), up_row (by decide), up_at, up_row (by decide), up_row (by decide)]
  have b3 : ∀ j, B r_newsWeek j = if j = n then v3 else I r_newsWeek j := fun j => by rw [eB, up_row (by decide), up_row (by decide), up_at, up_row (by decide), up_row (by decide), up_row (by decide)]
  have b4' : ∀ j, B r_newsSeen j = if j = n then v4 else I r_newsSeen j := fun j => by rw [eB, up_row (by decide), up_at, up_row (by decide), up_row (by decide), up_row (by decide), up_row (by decide)]
  have b5 : ∀ j, B r_newsTold j = if j = n then I r_now 0 else I r_newsTold j := fun j => by rw [eB, up_at, up_row (by decide), up_row (by decide), up_row (by decide), up_row (by decide), up_row (by decide)]
  have zz : ∀ a, (a < 97 ∨ 102 < a ∨ a = 97) → I a 0 ≤ B a 0 := fun a ha => by
    by_cases e : a = 97
    · subst e; have x : I r_newsMany 0 ≤ B r_newsMany 0 := by omega
      exact x
    · rw [row a (by omega)]; exact Int.le_refl _
  obtain ⟨g1, g2, g3, g4, g5, g6, g7, g8, g9⟩ := hI.good
  refine ⟨g1.mono (row _ (by decide)) (row _ (by decide)) (row _ (by decide)), g2.mono (row _ (by decide)) (row _ (by decide)) (row _ (by decide)) (row _ (by decide)), g3.mono (row _ (by decide)) (row _ (by decide)) (row _ (by decide)) (row _ (by decide)) (row _ (by decide)) (zz r_cells (by decide)) (zz r_now (by decide)), g4.mono (row _ (by decide)) (row _ (by decide)) (row _ (by decide)) (row _ (by decide)) (row _ (by decide)) (zz r_cells (by decide)) (zz r_now (by decide)), ?_, g6.mono (row _ (by decide)) (row _ (by decide)) (row _ (by decide)) (row _ (by decide)) (row _ (by decide)) (row _ (by decide)), g7.mono (row _ (by decide)) (row _ (by decide)) (row _ (by decide)) (row _ (by decide)) (row _ (by decide)) (row _ (by decide)) (row _ (by decide)) (row _ (by decide)) (zz r_books (by decide)) (zz r_camps (by decide)) (zz r_now (by decide)), g8.mono (row _ (by decide)) (row _ (by decide)) (row _ (by decide)) (row _ (by decide)) (row _ (by decide)) (row _ (by decide)), g9.mono (row _ (by decide)) (row _ (by decide)) (row _ (by decide)) (zz r_camps (by decide))⟩
  unfold gNe at g5 ⊢
  rw [b0, row r_camps (by decide), row r_cells (by decide), row r_now (by decide)]
  refine ⟨by omega, fun j hj => ?_⟩
  rw [b1 j, b2 j, b3 j, b4' j, b5 j]
  by_cases e : j = n
  · simp only [if_pos e]; exact ⟨⟨p1, p2⟩, ⟨p3, p4⟩, ⟨p5, p6⟩, b4, hnow.1, Int.le_refl _⟩
  · simp only [if_neg e]; exact g5.2 j (by omega)
end PT2
