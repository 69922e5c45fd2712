set_option maxHeartbeats 4000000 in
set_option maxRecDepth 100000 in
theorem b_L_k18 {G : XG} {S : XS} {k : Nat × Nat} {I : XI} {v3 : Int} {Q : Option Value → XS → XI → Prop} (hS : xSh S) (hk : k.1 ≤ 73020 ∧ k.2 ≤ 8883190) (h : ((w32 (((G.2.2.2.2.2.2.1 : Int)) - (6)) < w32 (v3) → Q (some (vi 1)) S I) ∧ (¬ (w32 (((G.2.2.2.2.2.2.1 : Int)) - (6)) < w32 (v3)) → (inb (v3) G.2.2.2.2.2.2.1 ∧ ((w32 (iand (G.2.2.2.2.2.2.2 (ix (v3))) (63)) = 0 → L_k200 G S k I (v3) Q) ∧ (w32 (iand (G.2.2.2.2.2.2.2 (ix (v3))) (63)) = 1 → L_k239 G S k I (v3) Q) ∧ (w32 (iand (G.2.2.2.2.2.2.2 (ix (v3))) (63)) = 2 → L_k282 G S k I (v3) Q) ∧ (w32 (iand (G.2.2.2.2.2.2.2 (ix (v3))) (63)) = 3 → L_k315 G S k I (v3) Q) ∧ (w32 (iand (G.2.2.2.2.2.2.2 (ix (v3))) (63)) = 4 → L_k358 G S k I (v3) Q) ∧ (w32 (iand (G.2.2.2.2.2.2.2 (ix (v3))) (63)) = 5 → L_k407 G S k I (v3) Q) ∧ (w32 (iand (G.2.2.2.2.2.2.2 (ix (v3))) (63)) = 6 → L_k430 G S k I (v3) Q) ∧ (w32 (iand (G.2.2.2.2.2.2.2 (ix (v3))) (63)) = 7 → L_k453 G S k I (v3) Q) ∧ (w32 (iand (G.2.2.2.2.2.2.2 (ix (v3))) (63)) = 8 → L_k522 G S k I (v3) Q) ∧ (w32 (iand (G.2.2.2.2.2.2.2 (ix (v3))) (63)) = 9 → L_k565 G S k I (v3) Q) ∧ (w32 (iand (G.2.2.2.2.2.2.2 (ix (v3))) (63)) = 10 → L_k598 G S k I (v3) Q) ∧ (w32 (iand (G.2.2.2.2.2.2.2 (ix (v3))) (63)) = 11 → L_k631 G S k I (v3) Q) ∧ (w32 (iand (G.2.2.2.2.2.2.2 (ix (v3))) (63)) = 12 → L_k694 G S k I (v3) Q) ∧ (w32 (iand (G.2.2.2.2.2.2.2 (ix (v3))) (63)) = 13 → L_k727 G S k I (v3) Q) ∧ (w32 (iand (G.2.2.2.2.2.2.2 (ix (v3))) (63)) = 14 → L_k770 G S k I (v3) Q) ∧ (w32 (iand (G.2.2.2.2.2.2.2 (ix (v3))) (63)) = 15 → L_k793 G S k I (v3) Q) ∧ (w32 (iand (G.2.2.2.2.2.2.2 (ix (v3))) (63)) = 16 → L_k836 G S k I (v3) Q) ∧ (w32 (iand (G.2.2.2.2.2.2.2 (ix (v3))) (63)) = 17 → L_k869 G S k I (v3) Q) ∧ (w32 (iand (G.2.2.2.2.2.2.2 (ix (v3))) (63)) = 18 → L_k902 G S k I (v3) Q) ∧ (w32 (iand (G.2.2.2.2.2.2.2 (ix (v3))) (63)) = 19 → L_k935 G S k I (v3) Q) ∧ (w32 (iand (G.2.2.2.2.2.2.2 (ix (v3))) (63)) = 20 → L_k968 G S k I (v3) Q) ∧ (w32 (iand (G.2.2.2.2.2.2.2 (ix (v3))) (63)) = 21 → L_k1011 G S k I (v3) Q) ∧ (w32 (iand (G.2.2.2.2.2.2.2 (ix (v3))) (63)) = 22 → L_k1074 G S k I (v3) Q) ∧ (w32 (iand (G.2.2.2.2.2.2.2 (ix (v3))) (63)) = 23 → L_k1097 G S k I (v3) Q) ∧ (w32 (iand (G.2.2.2.2.2.2.2 (ix (v3))) (63)) = 24 → L_k1110 G S k I (v3) Q) ∧ (w32 (iand (G.2.2.2.2.2.2.2 (ix (v3))) (63)) = 25 → L_k1133 G S k I (v3) Q) ∧ (w32 (iand (G.2.2.2.2.2.2.2 (ix (v3))) (63)) = 26 → L_k1186 G S k I (v3) Q) ∧ (w32 (iand (G.2.2.2.2.2.2.2 (ix (v3))) (63)) = 27 → L_k1229 G S k I (v3) Q) ∧ (w32 (iand (G.2.2.2.2.2.2.2 (ix (v3))) (63)) = 28 → L_k1272 G S k I (v3) Q) ∧ (w32 (iand (G.2.2.2.2.2.2.2 (ix (v3))) (63)) = 29 → L_k1315 G S k I (v3) Q) ∧ (w32 (iand (G.2.2.2.2.2.2.2 (ix (v3))) (63)) = 30 → L_k1358 G S k I (v3) Q) ∧ (w32 (iand (G.2.2.2.2.2.2.2 (ix (v3))) (63)) = 31 → L_k1381 G S k I (v3) Q) ∧ (w32 (iand (G.2.2.2.2.2.2.2 (ix (v3))) (63)) = 32 → L_k1414 G S k I (v3) Q) ∧ (w32 (iand (G.2.2.2.2.2.2.2 (ix (v3))) (63)) = 33 → L_k1447 G S k I (v3) Q) ∧ (w32 (iand (G.2.2.2.2.2.2.2 (ix (v3))) (63)) = 34 → L_k1470 G S k I (v3) Q) ∧ (w32 (iand (G.2.2.2.2.2.2.2 (ix (v3))) (63)) = 35 → L_k1513 G S k I (v3) Q) ∧ (w32 (iand (G.2.2.2.2.2.2.2 (ix (v3))) (63)) = 36 → L_k1536 G S k I (v3) Q) ∧ (w32 (iand (G.2.2.2.2.2.2.2 (ix (v3))) (63)) = 37 → L_k1559 G S k I (v3) Q) ∧ ((w32 (iand (G.2.2.2.2.2.2.2 (ix (v3))) (63)) < 0 ∨ 37 < w32 (iand (G.2.2.2.2.2.2.2 (ix (v3))) (63))) → L_k1582 G S k I (v3) Q)))))) : L_k18 G S k I v3 Q := by
  unfold L_k18
  refine x_iload_n (pc := 18) dL_law_18 rfl rfl ?_
  refine x_aload_n (pc := 19) dL_law_19 rfl rfl ?_
  refine x_scl (pc := 20) dL_law_20 ?_
  refine x_bipush (pc := 21) dL_law_21 (by decide) ?_
  refine x_isub (pc := 23) dL_law_23 ?_
  refine x_icmp_gt (pc := 24) (t := 1588) dL_law_24 (by decide) (fun e => ?_) (fun e => ?_)
  · have h := h.1 e
    refine x_iconst (pc := 1588) dL_law_1588 ?_
    exact x_zret (pc := 1589) dL_law_1589 rfl hk (Or.inr rfl) h
  · have h := h.2 e
    refine x_aload_n (pc := 27) dL_law_27 rfl rfl ?_
    refine x_iload_n (pc := 28) dL_law_28 rfl rfl ?_
    refine x_scr (pc := 29) dL_law_29 h.1 ?_
    have h := h.2
    refine x_bipush (pc := 30) dL_law_30 (by decide) ?_
    refine x_iand (pc := 32) dL_law_32 ?_
    by_cases e0 : w32 (iand (G.2.2.2.2.2.2.2 (ix (v3))) (63)) = 0
    · have h := h.1 e0
      refine x_tabIn (pc := 33) (off := 167) (t := 200) dL_law_33 0 e0 (by decide) (by decide) rfl (by decide) ?_
      exact h
    by_cases e1 : w32 (iand (G.2.2.2.2.2.2.2 (ix (v3))) (63)) = 1
    · have h := h.2.1 e1
      refine x_tabIn (pc := 33) (off := 206) (t := 239) dL_law_33 1 e1 (by decide) (by decide) rfl (by decide) ?_
      exact h
    by_cases e2 : w32 (iand (G.2.2.2.2.2.2.2 (ix (v3))) (63)) = 2
    · have h := h.2.2.1 e2
      refine x_tabIn (pc := 33) (off := 249) (t := 282) dL_law_33 2 e2 (by decide) (by decide) rfl (by decide) ?_
      exact h
    by_cases e3 : w32 (iand (G.2.2.2.2.2.2.2 (ix (v3))) (63)) = 3
    · have h := h.2.2.2.1 e3
      refine x_tabIn (pc := 33) (off := 282) (t := 315) dL_law_33 3 e3 (by decide) (by decide) rfl (by decide) ?_
      exact h
    by_cases e4 : w32 (iand (G.2.2.2.2.2.2.2 (ix (v3))) (63)) = 4
    · have h := h.2.2.2.2.1 e4
      refine x_tabIn (pc := 33) (off := 325) (t := 358) dL_law_33 4 e4 (by decide) (by decide) rfl (by decide) ?_
      exact h
    by_cases e5 : w32 (iand (G.2.2.2.2.2.2.2 (ix (v3))) (63)) = 5
    · have h := h.2.2.2.2.2.1 e5
      refine x_tabIn (pc := 33) (off := 374) (t := 407) dL_law_33 5 e5 (by decide) (by decide) rfl (by decide) ?_
      exact h
    by_cases e6 : w32 (iand (G.2.2.2.2.2.2.2 (ix (v3))) (63)) = 6
    · have h := h.2.2.2.2.2.2.1 e6
      refine x_tabIn (pc := 33) (off := 397) (t := 430) dL_law_33 6 e6 (by decide) (by decide) rfl (by decide) ?_
      exact h
    by_cases e7 : w32 (iand (G.2.2.2.2.2.2.2 (ix (v3))) (63)) = 7
    · have h := h.2.2.2.2.2.2.2.1 e7
      refine x_tabIn (pc := 33) (off := 420) (t := 453) dL_law_33 7 e7 (by decide) (by decide) rfl (by decide) ?_
      exact h
    by_cases e8 : w32 (iand (G.2.2.2.2.2.2.2 (ix (v3))) (63)) = 8
    · have h := h.2.2.2.2.2.2.2.2.1 e8
      refine x_tabIn (pc := 33) (off := 489) (t := 522) dL_law_33 8 e8 (by decide) (by decide) rfl (by decide) ?_
      exact h
    by_cases e9 : w32 (iand (G.2.2.2.2.2.2.2 (ix (v3))) (63)) = 9
    · have h := h.2.2.2.2.2.2.2.2.2.1 e9
      refine x_tabIn (pc := 33) (off := 532) (t := 565) dL_law_33 9 e9 (by decide) (by decide) rfl (by decide) ?_
      exact h
    by_cases e10 : w32 (iand (G.2.2.2.2.2.2.2 (ix (v3))) (63)) = 10
    · have h := h.2.2.2.2.2.2.2.2.2.2.1 e10
      refine x_tabIn (pc := 33) (off := 565) (t := 598) dL_law_33 10 e10 (by decide) (by decide) rfl (by decide) ?_
      exact h
    by_cases e11 : w32 (iand (G.2.2.2.2.2.2.2 (ix (v3))) (63)) = 11
    · have h := h.2.2.2.2.2.2.2.2.2.2.2.1 e11
      refine x_tabIn (pc := 33) (off := 598) (t := 631) dL_law_33 11 e11 (by decide) (by decide) rfl (by decide) ?_
      exact h
    by_cases e12 : w32 (iand (G.2.2.2.2.2.2.2 (ix (v3))) (63)) = 12
    · have h := h.2.2.2.2.2.2.2.2.2.2.2.2.1 e12
      refine x_tabIn (pc := 33) (off := 661) (t := 694) dL_law_33 12 e12 (by decide) (by decide) rfl (by decide) ?_
      exact h
    by_cases e13 : w32 (iand (G.2.2.2.2.2.2.2 (ix (v3))) (63)) = 13
    · have h := h.2.2.2.2.2.2.2.2.2.2.2.2.2.1 e13
      refine x_tabIn (pc := 33) (off := 694) (t := 727) dL_law_33 13 e13 (by decide) (by decide) rfl (by decide) ?_
      exact h
    by_cases e14 : w32 (iand (G.2.2.2.2.2.2.2 (ix (v3))) (63)) = 14
    · have h := h.2.2.2.2.2.2.2.2.2.2.2.2.2.2.1 e14
      refine x_tabIn (pc := 33) (off := 737) (t := 770) dL_law_33 14 e14 (by decide) (by decide) rfl (by decide) ?_
      exact h
    by_cases e15 : w32 (iand (G.2.2.2.2.2.2.2 (ix (v3))) (63)) = 15
    · have h := h.2.2.2.2.2.2.2.2.2.2.2.2.2.2.2.1 e15
      refine x_tabIn (pc := 33) (off := 760) (t := 793) dL_law_33 15 e15 (by decide) (by decide) rfl (by decide) ?_
      exact h
    by_cases e16 : w32 (iand (G.2.2.2.2.2.2.2 (ix (v3))) (63)) = 16
    · have h := h.2.2.2.2.2.2.2.2.2.2.2.2.2.2.2.2.1 e16
      refine x_tabIn (pc := 33) (off := 803) (t := 836) dL_law_33 16 e16 (by decide) (by decide) rfl (by decide) ?_
      exact h
    by_cases e17 : w32 (iand (G.2.2.2.2.2.2.2 (ix (v3))) (63)) = 17
    · have h := h.2.2.2.2.2.2.2.2.2.2.2.2.2.2.2.2.2.1 e17
      refine x_tabIn (pc := 33) (off := 836) (t := 869) dL_law_33 17 e17 (by decide) (by decide) rfl (by decide) ?_
      exact h
    by_cases e18 : w32 (iand (G.2.2.2.2.2.2.2 (ix (v3))) (63)) = 18
    · have h := h.2.2.2.2.2.2.2.2.2.2.2.2.2.2.2.2.2.2.1 e18
      refine x_tabIn (pc := 33) (off := 869) (t := 902) dL_law_33 18 e18 (by decide) (by decide) rfl (by decide) ?_
      exact h
    by_cases e19 : w32 (iand (G.2.2.2.2.2.2.2 (ix (v3))) (63)) = 19
    · have h := h.2.2.2.2.2.2.2.2.2.2.2.2.2.2.2.2.2.2.2.1 e19
      refine x_tabIn (pc := 33) (off := 902) (t := 935) dL_law_33 19 e19 (by decide) (by decide) rfl (by decide) ?_
      exact h
    by_cases e20 : w32 (iand (G.2.2.2.2.2.2.2 (ix (v3))) (63)) = 20
    · have h := h.2.2.2.2.2.2.2.2.2.2.2.2.2.2.2.2.2.2.2.2.1 e20
      refine x_tabIn (pc := 33) (off := 935) (t := 968) dL_law_33 20 e20 (by decide) (by decide) rfl (by decide) ?_
      exact h
    by_cases e21 : w32 (iand (G.2.2.2.2.2.2.2 (ix (v3))) (63)) = 21
    · have h := h.2.2.2.2.2.2.2.2.2.2.2.2.2.2.2.2.2.2.2.2.2.1 e21
      refine x_tabIn (pc := 33) (off := 978) (t := 1011) dL_law_33 21 e21 (by decide) (by decide) rfl (by decide) ?_
      exact h
    by_cases e22 : w32 (iand (G.2.2.2.2.2.2.2 (ix (v3))) (63)) = 22
    · have h := h.2.2.2.2.2.2.2.2.2.2.2.2.2.2.2.2.2.2.2.2.2.2.1 e22
      refine x_tabIn (pc := 33) (off := 1041) (t := 1074) dL_law_33 22 e22 (by decide) (by decide) rfl (by decide) ?_
      exact h
    by_cases e23 : w32 (iand (G.2.2.2.2.2.2.2 (ix (v3))) (63)) = 23
    · have h := h.2.2.2.2.2.2.2.2.2.2.2.2.2.2.2.2.2.2.2.2.2.2.2.1 e23
      refine x_tabIn (pc := 33) (off := 1064) (t := 1097) dL_law_33 23 e23 (by decide) (by decide) rfl (by decide) ?_
      exact h
    by_cases e24 : w32 (iand (G.2.2.2.2.2.2.2 (ix (v3))) (63)) = 24
    · have h := h.2.2.2.2.2.2.2.2.2.2.2.2.2.2.2.2.2.2.2.2.2.2.2.2.1 e24
      refine x_tabIn (pc := 33) (off := 1077) (t := 1110) dL_law_33 24 e24 (by decide) (by decide) rfl (by decide) ?_
      exact h
    by_cases e25 : w32 (iand (G.2.2.2.2.2.2.2 (ix (v3))) (63)) = 25
    · have h := h.2.2.2.2.2.2.2.2.2.2.2.2.2.2.2.2.2.2.2.2.2.2.2.2.2.1 e25
      refine x_tabIn (pc := 33) (off := 1100) (t := 1133) dL_law_33 25 e25 (by decide) (by decide) rfl (by decide) ?_
      exact h
    by_cases e26 : w32 (iand (G.2.2.2.2.2.2.2 (ix (v3))) (63)) = 26
    · have h := h.2.2.2.2.2.2.2.2.2.2.2.2.2.2.2.2.2.2.2.2.2.2.2.2.2.2.1 e26
      refine x_tabIn (pc := 33) (off := 1153) (t := 1186) dL_law_33 26 e26 (by decide) (by decide) rfl (by decide) ?_
      exact h
    by_cases e27 : w32 (iand (G.2.2.2.2.2.2.2 (ix (v3))) (63)) = 27
    · have h := h.2.2.2.2.2.2.2.2.2.2.2.2.2.2.2.2.2.2.2.2.2.2.2.2.2.2.2.1 e27
      refine x_tabIn (pc := 33) (off := 1196) (t := 1229) dL_law_33 27 e27 (by decide) (by decide) rfl (by decide) ?_
      exact h
    by_cases e28 : w32 (iand (G.2.2.2.2.2.2.2 (ix (v3))) (63)) = 28
    · have h := h.2.2.2.2.2.2.2.2.2.2.2.2.2.2.2.2.2.2.2.2.2.2.2.2.2.2.2.2.1 e28
      refine x_tabIn (pc := 33) (off := 1239) (t := 1272) dL_law_33 28 e28 (by decide) (by decide) rfl (by decide) ?_
      exact h
    by_cases e29 : w32 (iand (G.2.2.2.2.2.2.2 (ix (v3))) (63)) = 29
    · have h := h.2.2.2.2.2.2.2.2.2.2.2.2.2.2.2.2.2.2.2.2.2.2.2.2.2.2.2.2.2.1 e29
      refine x_tabIn (pc := 33) (off := 1282) (t := 1315) dL_law_33 29 e29 (by decide) (by decide) rfl (by decide) ?_
      exact h
    by_cases e30 : w32 (iand (G.2.2.2.2.2.2.2 (ix (v3))) (63)) = 30
    · have h := h.2.2.2.2.2.2.2.2.2.2.2.2.2.2.2.2.2.2.2.2.2.2.2.2.2.2.2.2.2.2.1 e30
      refine x_tabIn (pc := 33) (off := 1325) (t := 1358) dL_law_33 30 e30 (by decide) (by decide) rfl (by decide) ?_
      exact h
    by_cases e31 : w32 (iand (G.2.2.2.2.2.2.2 (ix (v3))) (63)) = 31
    · have h := h.2.2.2.2.2.2.2.2.2.2.2.2.2.2.2.2.2.2.2.2.2.2.2.2.2.2.2.2.2.2.2.1 e31
      refine x_tabIn (pc := 33) (off := 1348) (t := 1381) dL_law_33 31 e31 (by decide) (by decide) rfl (by decide) ?_
      exact h
    by_cases e32 : w32 (iand (G.2.2.2.2.2.2.2 (ix (v3))) (63)) = 32
    · have h := h.2.2.2.2.2.2.2.2.2.2.2.2.2.2.2.2.2.2.2.2.2.2.2.2.2.2.2.2.2.2.2.2.1 e32
      refine x_tabIn (pc := 33) (off := 1381) (t := 1414) dL_law_33 32 e32 (by decide) (by decide) rfl (by decide) ?_
      exact h
    by_cases e33 : w32 (iand (G.2.2.2.2.2.2.2 (ix (v3))) (63)) = 33
    · have h := h.2.2.2.2.2.2.2.2.2.2.2.2.2.2.2.2.2.2.2.2.2.2.2.2.2.2.2.2.2.2.2.2.2.1 e33
      refine x_tabIn (pc := 33) (off := 1414) (t := 1447) dL_law_33 33 e33 (by decide) (by decide) rfl (by decide) ?_
      exact h
    by_cases e34 : w32 (iand (G.2.2.2.2.2.2.2 (ix (v3))) (63)) = 34
    · have h := h.2.2.2.2.2.2.2.2.2.2.2.2.2.2.2.2.2.2.2.2.2.2.2.2.2.2.2.2.2.2.2.2.2.2.1 e34
      refine x_tabIn (pc := 33) (off := 1437) (t := 1470) dL_law_33 34 e34 (by decide) (by decide) rfl (by decide) ?_
      exact h
    by_cases e35 : w32 (iand (G.2.2.2.2.2.2.2 (ix (v3))) (63)) = 35
    · have h := h.2.2.2.2.2.2.2.2.2.2.2.2.2.2.2.2.2.2.2.2.2.2.2.2.2.2.2.2.2.2.2.2.2.2.2.1 e35
      refine x_tabIn (pc := 33) (off := 1480) (t := 1513) dL_law_33 35 e35 (by decide) (by decide) rfl (by decide) ?_
      exact h
    by_cases e36 : w32 (iand (G.2.2.2.2.2.2.2 (ix (v3))) (63)) = 36
    · have h := h.2.2.2.2.2.2.2.2.2.2.2.2.2.2.2.2.2.2.2.2.2.2.2.2.2.2.2.2.2.2.2.2.2.2.2.2.1 e36
      refine x_tabIn (pc := 33) (off := 1503) (t := 1536) dL_law_33 36 e36 (by decide) (by decide) rfl (by decide) ?_
      exact h
    by_cases e37 : w32 (iand (G.2.2.2.2.2.2.2 (ix (v3))) (63)) = 37
    · have h := h.2.2.2.2.2.2.2.2.2.2.2.2.2.2.2.2.2.2.2.2.2.2.2.2.2.2.2.2.2.2.2.2.2.2.2.2.2.1 e37
      refine x_tabIn (pc := 33) (off := 1526) (t := 1559) dL_law_33 37 e37 (by decide) (by decide) rfl (by decide) ?_
      exact h
    have hd9 : w32 (iand (G.2.2.2.2.2.2.2 (ix (v3))) (63)) < 0 ∨ 37 < w32 (iand (G.2.2.2.2.2.2.2 (ix (v3))) (63)) := by omega
    have h := h.2.2.2.2.2.2.2.2.2.2.2.2.2.2.2.2.2.2.2.2.2.2.2.2.2.2.2.2.2.2.2.2.2.2.2.2.2.2 hd9
    refine x_tabOut (pc := 33) (t := 1582) dL_law_33 hd9 (by decide) ?_
    exact h
set_option maxHeartbeats 4000000 in
set_option maxRecDepth 100000 in
theorem b_L_k200 {G : XG} {S : XS} {k : Nat × Nat} {I : XI} {v3 : Int} {Q : Option Value → XS → XI → Prop} (hS : xSh S) (hk : k.1 ≤ 73020 ∧ k.2 ≤ 8883190) (h : (inb ((v3) + (1)) G.2.2.2.2.2.2.1 ∧ ((w32 (G.2.2.2.2.2.2.2 (ix ((v3) + (1)))) = 0 → H_cell G S I (0) (fun r2 I1 => (inb ((v3) + (1)) G.2.2.2.2.2.2.1 ∧ ((w32 (G.2.2.2.2.2.2.2 (ix ((v3) + (1)))) = 0 → R_cell G S I1 (0) (fun r4 I3 => ((w32 (r2) = w32 (r4) → L_k1582 G S k I3 (v3) Q) ∧ (¬ (w32 (r2) = w32 (r4)) → Q (some (vi 0)) S I3)))) ∧ (¬ (w32 (G.2.2.2.2.2.2.2 (ix ((v3) + (1)))) = 0) → R_cell G S I1 (1) (fun r6 I5 => ((w32 (r2) = w32 (r6) → L_k1582 G S k I5 (v3) Q) ∧ (¬ (w32 (r2) = w32 (r6)) → Q (some (vi 0)) S I5)))))))) ∧ (¬ (w32 (G.2.2.2.2.2.2.2 (ix ((v3) + (1)))) = 0) → H_cell G S I (1) (fun r8 I7 => (inb ((v3) + (1)) G.2.2.2.2.2.2.1 ∧ ((w32 (G.2.2.2.2.2.2.2 (ix ((v3) + (1)))) = 0 → R_cell G S I7 (0) (fun r10 I9 => ((w32 (r8) = w32 (r10) → L_k1582 G S k I9 (v3) Q) ∧ (¬ (w32 (r8) = w32 (r10)) → Q (some (vi 0)) S I9)))) ∧ (¬ (w32 (G.2.2.2.2.2.2.2 (ix ((v3) + (1)))) = 0) → R_cell G S I7 (1) (fun r12 I11 => ((w32 (r8) = w32 (r12) → L_k1582 G S k I11 (v3) Q) ∧ (¬ (w32 (r8) = w32 (r12)) → Q (some (vi 0)) S I11))))))))))) : L_k200 G S k I v3 Q := by
  unfold L_k200
  refine x_aload_n (pc := 200) dL_law_200 rfl rfl ?_
  refine x_aload_n (pc := 201) dL_law_201 rfl rfl ?_
  refine x_iload_n (pc := 202) dL_law_202 rfl rfl ?_
  refine x_iconst (pc := 203) dL_law_203 ?_
  refine x_iadd (pc := 204) dL_law_204 ?_
  refine x_scr (pc := 205) dL_law_205 h.1 ?_
  have h := h.2
  refine x_if_eq (pc := 206) (t := 213) dL_law_206 (by decide) (fun e => ?_) (fun e => ?_)
  · have h := h.1 e
    refine x_iconst (pc := 213) dL_law_213 ?_
    refine y_Vi (pc := 214) (i := c_obj) (As := [vi (0)]) (rest := []) ok_X10_cell ml_L_13 dL_law_214 (sN_c_obj hS) (sT_c_obj hS) (by decide) rfl rfl rfl ⟨rfl, rfl⟩ ⟨by decide, by decide⟩ hk (Nat.le_of_ble_eq_true rfl) rfl h (fun r2 I1 h => ?_)
    refine x_aload_n (pc := 217) dL_law_217 rfl rfl ?_
    refine x_aload_n (pc := 218) dL_law_218 rfl rfl ?_
    refine x_iload_n (pc := 219) dL_law_219 rfl rfl ?_
    refine x_iconst (pc := 220) dL_law_220 ?_
    refine x_iadd (pc := 221) dL_law_221 ?_
    refine x_scr (pc := 222) dL_law_222 h.1 ?_
    have h := h.2
    refine x_if_eq (pc := 223) (t := 230) dL_law_223 (by decide) (fun e => ?_) (fun e => ?_)
    · have h := h.1 e
      refine x_iconst (pc := 230) dL_law_230 ?_
      refine y_Vi (pc := 231) (i := r_obj) (As := [vi (0)]) (rest := [vi (r2)]) ok_X11_cell ml_L_17 dL_law_231 (sN_r_obj hS) (sT_r_obj hS) (by decide) rfl rfl rfl ⟨rfl, rfl⟩ ⟨by decide, by decide⟩ hk (Nat.le_of_ble_eq_true rfl) rfl h (fun r4 I3 h => ?_)
      refine x_icmp_eq (pc := 234) (t := 1582) dL_law_234 (by decide) (fun e => ?_) (fun e => ?_)
      · have h := h.1 e
        exact h
      · have h := h.2 e
        refine x_iconst (pc := 237) dL_law_237 ?_
        exact x_zret (pc := 238) dL_law_238 rfl hk (Or.inl rfl) h
    · have h := h.2 e
      refine x_iconst (pc := 226) dL_law_226 ?_
      refine x_goto (pc := 227) (t := 231) dL_law_227 (by decide) ?_
      refine y_Vi (pc := 231) (i := r_obj) (As := [vi (1)]) (rest := [vi (r2)]) ok_X11_cell ml_L_17 dL_law_231 (sN_r_obj hS) (sT_r_obj hS) (by decide) rfl rfl rfl ⟨rfl, rfl⟩ ⟨by decide, by decide⟩ hk (Nat.le_of_ble_eq_true rfl) rfl h (fun r6 I5 h => ?_)
      refine x_icmp_eq (pc := 234) (t := 1582) dL_law_234 (by decide) (fun e => ?_) (fun e => ?_)
      · have h := h.1 e
        exact h
      · have h := h.2 e
        refine x_iconst (pc := 237) dL_law_237 ?_
        exact x_zret (pc := 238) dL_law_238 rfl hk (Or.inl rfl) h
  · have h := h.2 e
    refine x_iconst (pc := 209) dL_law_209 ?_
    refine x_goto (pc := 210) (t := 214) dL_law_210 (by decide) ?_
    refine y_Vi (pc := 214) (i := c_obj) (As := [vi (1)]) (rest := []) ok_X10_cell ml_L_13 dL_law_214 (sN_c_obj hS) (sT_c_obj hS) (by decide) rfl rfl rfl ⟨rfl, rfl⟩ ⟨by decide, by decide⟩ hk (Nat.le_of_ble_eq_true rfl) rfl h (fun r8 I7 h => ?_)
    refine x_aload_n (pc := 217) dL_law_217 rfl rfl ?_
    refine x_aload_n (pc := 218) dL_law_218 rfl rfl ?_
    refine x_iload_n (pc := 219) dL_law_219 rfl rfl ?_
    refine x_iconst (pc := 220) dL_law_220 ?_
    refine x_iadd (pc := 221) dL_law_221 ?_
    refine x_scr (pc := 222) dL_law_222 h.1 ?_
    have h := h.2
    refine x_if_eq (pc := 223) (t := 230) dL_law_223 (by decide) (fun e => ?_) (fun e => ?_)
    · have h := h.1 e
      refine x_iconst (pc := 230) dL_law_230 ?_
      refine y_Vi (pc := 231) (i := r_obj) (As := [vi (0)]) (rest := [vi (r8)]) ok_X11_cell ml_L_17 dL_law_231 (sN_r_obj hS) (sT_r_obj hS) (by decide) rfl rfl rfl ⟨rfl, rfl⟩ ⟨by decide, by decide⟩ hk (Nat.le_of_ble_eq_true rfl) rfl h (fun r10 I9 h => ?_)
      refine x_icmp_eq (pc := 234) (t := 1582) dL_law_234 (by decide) (fun e => ?_) (fun e => ?_)
      · have h := h.1 e
        exact h
      · have h := h.2 e
        refine x_iconst (pc := 237) dL_law_237 ?_
        exact x_zret (pc := 238) dL_law_238 rfl hk (Or.inl rfl) h
    · have h := h.2 e
      refine x_iconst (pc := 226) dL_law_226 ?_
      refine x_goto (pc := 227) (t := 231) dL_law_227 (by decide) ?_
      refine y_Vi (pc := 231) (i := r_obj) (As := [vi (1)]) (rest := [vi (r8)]) ok_X11_cell ml_L_17 dL_law_231 (sN_r_obj hS) (sT_r_obj hS) (by decide) rfl rfl rfl ⟨rfl, rfl⟩ ⟨by decide, by decide⟩ hk (Nat.le_of_ble_eq_true rfl) rfl h (fun r12 I11 h => ?_)
      refine x_icmp_eq (pc := 234) (t := 1582) dL_law_234 (by decide) (fun e => ?_) (fun e => ?_)
      · have h := h.1 e
        exact h
      · have h := h.2 e
        refine x_iconst (pc := 237) dL_law_237 ?_
        exact x_zret (pc := 238) dL_law_238 rfl hk (Or.inl rfl) h
set_option maxHeartbeats 4000000 in
set_option maxRecDepth 100000 in
theorem b_L_k239 {G : XG} {S : XS} {k : Nat × Nat} {I : XI} {v3 : Int} {Q : Option Value → XS → XI → Prop} (hS : xSh S) (hk : k.1 ≤ 73020 ∧ k.2 ≤ 8883190) (h : (inb ((v3) + (1)) G.2.2.2.2.2.2.1 ∧ (inb ((v3) + (2)) G.2.2.2.2.2.2.1 ∧ (inb ((v3) + (3)) G.2.2.2.2.2.2.1 ∧ H_way G S I (G.2.2.2.2.2.2.2 (ix ((v3) + (1)))) (G.2.2.2.2.2.2.2 (ix ((v3) + (2)))) (G.2.2.2.2.2.2.2 (ix ((v3) + (3)))) (fun r14 I13 => (inb ((v3) + (1)) G.2.2.2.2.2.2.1 ∧ (inb ((v3) + (2)) G.2.2.2.2.2.2.1 ∧ (inb ((v3) + (3)) G.2.2.2.2.2.2.1 ∧ R_way G S I13 (G.2.2.2.2.2.2.2 (ix ((v3) + (1)))) (G.2.2.2.2.2.2.2 (ix ((v3) + (2)))) (G.2.2.2.2.2.2.2 (ix ((v3) + (3)))) (fun r16 I15 => ((w32 (r14) = w32 (r16) → L_k1582 G S k I15 (v3) Q) ∧ (¬ (w32 (r14) = w32 (r16)) → Q (some (vi 0)) S I15))))))))))) : L_k239 G S k I v3 Q := by
  unfold L_k239
  refine x_aload_n (pc := 239) dL_law_239 rfl rfl ?_
  refine x_aload_n (pc := 240) dL_law_240 rfl rfl ?_
  refine x_iload_n (pc := 241) dL_law_241 rfl rfl ?_
  refine x_iconst (pc := 242) dL_law_242 ?_
  refine x_iadd (pc := 243) dL_law_243 ?_
  refine x_scr (pc := 244) dL_law_244 h.1 ?_
  have h := h.2
  refine x_aload_n (pc := 245) dL_law_245 rfl rfl ?_
  refine x_iload_n (pc := 246) dL_law_246 rfl rfl ?_
  refine x_iconst (pc := 247) dL_law_247 ?_
  refine x_iadd (pc := 248) dL_law_248 ?_
  refine x_scr (pc := 249) dL_law_249 h.1 ?_
  have h := h.2
  refine x_aload_n (pc := 250) dL_law_250 rfl rfl ?_
  refine x_iload_n (pc := 251) dL_law_251 rfl rfl ?_
  refine x_iconst (pc := 252) dL_law_252 ?_
  refine x_iadd (pc := 253) dL_law_253 ?_
  refine x_scr (pc := 254) dL_law_254 h.1 ?_
  have h := h.2
  refine y_Vi (pc := 255) (i := c_obj) (As := [vi (G.2.2.2.2.2.2.2 (ix ((v3) + (1)))), vi (G.2.2.2.2.2.2.2 (ix ((v3) + (2)))), vi (G.2.2.2.2.2.2.2 (ix ((v3) + (3))))]) (rest := []) ok_X10_way ml_L_18 dL_law_255 (sN_c_obj hS) (sT_c_obj hS) (by decide) rfl rfl rfl ⟨rfl, rfl⟩ ⟨by decide, by decide⟩ hk (Nat.le_of_ble_eq_true rfl) rfl h (fun r14 I13 h => ?_)
  refine x_aload_n (pc := 258) dL_law_258 rfl rfl ?_
  refine x_aload_n (pc := 259) dL_law_259 rfl rfl ?_
  refine x_iload_n (pc := 260) dL_law_260 rfl rfl ?_
  refine x_iconst (pc := 261) dL_law_261 ?_
  refine x_iadd (pc := 262) dL_law_262 ?_
  refine x_scr (pc := 263) dL_law_263 h.1 ?_
  have h := h.2
  refine x_aload_n (pc := 264) dL_law_264 rfl rfl ?_
  refine x_iload_n (pc := 265) dL_law_265 rfl rfl ?_
  refine x_iconst (pc := 266) dL_law_266 ?_
  refine x_iadd (pc := 267) dL_law_267 ?_
  refine x_scr (pc := 268) dL_law_268 h.1 ?_
  have h := h.2
  refine x_aload_n (pc := 269) dL_law_269 rfl rfl ?_
  refine x_iload_n (pc := 270) dL_law_270 rfl rfl ?_
  refine x_iconst (pc := 271) dL_law_271 ?_
  refine x_iadd (pc := 272) dL_law_272 ?_
  refine x_scr (pc := 273) dL_law_273 h.1 ?_
  have h := h.2
  refine y_Vi (pc := 274) (i := r_obj) (As := [vi (G.2.2.2.2.2.2.2 (ix ((v3) + (1)))), vi (G.2.2.2.2.2.2.2 (ix ((v3) + (2)))), vi (G.2.2.2.2.2.2.2 (ix ((v3) + (3))))]) (rest := [vi (r14)]) ok_X11_way ml_L_22 dL_law_274 (sN_r_obj hS) (sT_r_obj hS) (by decide) rfl rfl rfl ⟨rfl, rfl⟩ ⟨by decide, by decide⟩ hk (Nat.le_of_ble_eq_true rfl) rfl h (fun r16 I15 h => ?_)
  refine x_icmp_eq (pc := 277) (t := 1582) dL_law_277 (by decide) (fun e => ?_) (fun e => ?_)
  · have h := h.1 e
    exact h
  · have h := h.2 e
    refine x_iconst (pc := 280) dL_law_280 ?_
    exact x_zret (pc := 281) dL_law_281 rfl hk (Or.inl rfl) h
set_option maxHeartbeats 4000000 in
set_option maxRecDepth 100000 in
theorem b_L_k282 {G : XG} {S : XS} {k : Nat × Nat} {I : XI} {v3 : Int} {Q : Option Value → XS → XI → Prop} (hS : xSh S) (hk : k.1 ≤ 73020 ∧ k.2 ≤ 8883190) (h : (inb ((v3) + (1)) G.2.2.2.2.2.2.1 ∧ (inb ((v3) + (2)) G.2.2.2.2.2.2.1 ∧ H_camp G S I (G.2.2.2.2.2.2.2 (ix ((v3) + (1)))) (G.2.2.2.2.2.2.2 (ix ((v3) + (2)))) (fun r18 I17 => (inb ((v3) + (1)) G.2.2.2.2.2.2.1 ∧ (inb ((v3) + (2)) G.2.2.2.2.2.2.1 ∧ R_camp G S I17 (G.2.2.2.2.2.2.2 (ix ((v3) + (1)))) (G.2.2.2.2.2.2.2 (ix ((v3) + (2)))) (fun r20 I19 => ((w32 (r18) = w32 (r20) → L_k1582 G S k I19 (v3) Q) ∧ (¬ (w32 (r18) = w32 (r20)) → Q (some (vi 0)) S I19))))))))) : L_k282 G S k I v3 Q := by
  unfold L_k282
  refine x_aload_n (pc := 282) dL_law_282 rfl rfl ?_
  refine x_aload_n (pc := 283) dL_law_283 rfl rfl ?_
  refine x_iload_n (pc := 284) dL_law_284 rfl rfl ?_
  refine x_iconst (pc := 285) dL_law_285 ?_
  refine x_iadd (pc := 286) dL_law_286 ?_
  refine x_scr (pc := 287) dL_law_287 h.1 ?_
  have h := h.2
  refine x_aload_n (pc := 288) dL_law_288 rfl rfl ?_
  refine x_iload_n (pc := 289) dL_law_289 rfl rfl ?_
  refine x_iconst (pc := 290) dL_law_290 ?_
  refine x_iadd (pc := 291) dL_law_291 ?_
  refine x_scr (pc := 292) dL_law_292 h.1 ?_
  have h := h.2
  refine y_Vi (pc := 293) (i := c_obj) (As := [vi (G.2.2.2.2.2.2.2 (ix ((v3) + (1)))), vi (G.2.2.2.2.2.2.2 (ix ((v3) + (2))))]) (rest := []) ok_X10_camp ml_L_23 dL_law_293 (sN_c_obj hS) (sT_c_obj hS) (by decide) rfl rfl rfl ⟨rfl, rfl⟩ ⟨by decide, by decide⟩ hk (Nat.le_of_ble_eq_true rfl) rfl h (fun r18 I17 h => ?_)
  refine x_aload_n (pc := 296) dL_law_296 rfl rfl ?_
  refine x_aload_n (pc := 297) dL_law_297 rfl rfl ?_
  refine x_iload_n (pc := 298) dL_law_298 rfl rfl ?_
  refine x_iconst (pc := 299) dL_law_299 ?_
  refine x_iadd (pc := 300) dL_law_300 ?_
  refine x_scr (pc := 301) dL_law_301 h.1 ?_
  have h := h.2
  refine x_aload_n (pc := 302) dL_law_302 rfl rfl ?_
  refine x_iload_n (pc := 303) dL_law_303 rfl rfl ?_
  refine x_iconst (pc := 304) dL_law_304 ?_
  refine x_iadd (pc := 305) dL_law_305 ?_
  refine x_scr (pc := 306) dL_law_306 h.1 ?_
  have h := h.2
  refine y_Vi (pc := 307) (i := r_obj) (As := [vi (G.2.2.2.2.2.2.2 (ix ((v3) + (1)))), vi (G.2.2.2.2.2.2.2 (ix ((v3) + (2))))]) (rest := [vi (r18)]) ok_X11_camp ml_L_27 dL_law_307 (sN_r_obj hS) (sT_r_obj hS) (by decide) rfl rfl rfl ⟨rfl, rfl⟩ ⟨by decide, by decide⟩ hk (Nat.le_of_ble_eq_true rfl) rfl h (fun r20 I19 h => ?_)
  refine x_icmp_eq (pc := 310) (t := 1582) dL_law_310 (by decide) (fun e => ?_) (fun e => ?_)
  · have h := h.1 e
    exact h
  · have h := h.2 e
    refine x_iconst (pc := 313) dL_law_313 ?_
    exact x_zret (pc := 314) dL_law_314 rfl hk (Or.inl rfl) h
set_option maxHeartbeats 4000000 in
set_option maxRecDepth 100000 in
theorem b_L_k315 {G : XG} {S : XS} {k : Nat × Nat} {I : XI} {v3 : Int} {Q : Option Value → XS → XI → Prop} (hS : xSh S) (hk : k.1 ≤ 73020 ∧ k.2 ≤ 8883190) (h : (inb ((v3) + (1)) G.2.2.2.2.2.2.1 ∧ (inb ((v3) + (2)) G.2.2.2.2.2.2.1 ∧ (inb ((v3) + (3)) G.2.2.2.2.2.2.1 ∧ H_grass G S I (G.2.2.2.2.2.2.2 (ix ((v3) + (1)))) (G.2.2.2.2.2.2.2 (ix ((v3) + (2)))) (G.2.2.2.2.2.2.2 (ix ((v3) + (3)))) (fun r22 I21 => (inb ((v3) + (1)) G.2.2.2.2.2.2.1 ∧ (inb ((v3) + (2)) G.2.2.2.2.2.2.1 ∧ (inb ((v3) + (3)) G.2.2.2.2.2.2.1 ∧ R_grass G S I21 (G.2.2.2.2.2.2.2 (ix ((v3) + (1)))) (G.2.2.2.2.2.2.2 (ix ((v3) + (2)))) (G.2.2.2.2.2.2.2 (ix ((v3) + (3)))) (fun r24 I23 => ((w32 (r22) = w32 (r24) → L_k1582 G S k I23 (v3) Q) ∧ (¬ (w32 (r22) = w32 (r24)) → Q (some (vi 0)) S I23))))))))))) : L_k315 G S k I v3 Q := by
  unfold L_k315
  refine x_aload_n (pc := 315) dL_law_315 rfl rfl ?_
  refine x_aload_n (pc := 316) dL_law_316 rfl rfl ?_
  refine x_iload_n (pc := 317) dL_law_317 rfl rfl ?_
  refine x_iconst (pc := 318) dL_law_318 ?_
  refine x_iadd (pc := 319) dL_law_319 ?_
  refine x_scr (pc := 320) dL_law_320 h.1 ?_
  have h := h.2
  refine x_aload_n (pc := 321) dL_law_321 rfl rfl ?_
  refine x_iload_n (pc := 322) dL_law_322 rfl rfl ?_
  refine x_iconst (pc := 323) dL_law_323 ?_
  refine x_iadd (pc := 324) dL_law_324 ?_
  refine x_scr (pc := 325) dL_law_325 h.1 ?_
  have h := h.2
  refine x_aload_n (pc := 326) dL_law_326 rfl rfl ?_
  refine x_iload_n (pc := 327) dL_law_327 rfl rfl ?_
  refine x_iconst (pc := 328) dL_law_328 ?_
  refine x_iadd (pc := 329) dL_law_329 ?_
  refine x_scr (pc := 330) dL_law_330 h.1 ?_
  have h := h.2
  refine y_Vi (pc := 331) (i := c_obj) (As := [vi (G.2.2.2.2.2.2.2 (ix ((v3) + (1)))), vi (G.2.2.2.2.2.2.2 (ix ((v3) + (2)))), vi (G.2.2.2.2.2.2.2 (ix ((v3) + (3))))]) (rest := []) ok_X10_grass ml_L_28 dL_law_331 (sN_c_obj hS) (sT_c_obj hS) (by decide) rfl rfl rfl ⟨rfl, rfl⟩ ⟨by decide, by decide⟩ hk (Nat.le_of_ble_eq_true rfl) rfl h (fun r22 I21 h => ?_)
  refine x_aload_n (pc := 334) dL_law_334 rfl rfl ?_
  refine x_aload_n (pc := 335) dL_law_335 rfl rfl ?_
  refine x_iload_n (pc := 336) dL_law_336 rfl rfl ?_
  refine x_iconst (pc := 337) dL_law_337 ?_
  refine x_iadd (pc := 338) dL_law_338 ?_
  refine x_scr (pc := 339) dL_law_339 h.1 ?_
  have h := h.2
  refine x_aload_n (pc := 340) dL_law_340 rfl rfl ?_
  refine x_iload_n (pc := 341) dL_law_341 rfl rfl ?_
  refine x_iconst (pc := 342) dL_law_342 ?_
  refine x_iadd (pc := 343) dL_law_343 ?_
  refine x_scr (pc := 344) dL_law_344 h.1 ?_
  have h := h.2
  refine x_aload_n (pc := 345) dL_law_345 rfl rfl ?_
  refine x_iload_n (pc := 346) dL_law_346 rfl rfl ?_
  refine x_iconst (pc := 347) dL_law_347 ?_
  refine x_iadd (pc := 348) dL_law_348 ?_
  refine x_scr (pc := 349) dL_law_349 h.1 ?_
  have h := h.2
  refine y_Vi (pc := 350) (i := r_obj) (As := [vi (G.2.2.2.2.2.2.2 (ix ((v3) + (1)))), vi (G.2.2.2.2.2.2.2 (ix ((v3) + (2)))), vi (G.2.2.2.2.2.2.2 (ix ((v3) + (3))))]) (rest := [vi (r22)]) ok_X11_grass ml_L_31 dL_law_350 (sN_r_obj hS) (sT_r_obj hS) (by decide) rfl rfl rfl ⟨rfl, rfl⟩ ⟨by decide, by decide⟩ hk (Nat.le_of_ble_eq_true rfl) rfl h (fun r24 I23 h => ?_)
  refine x_icmp_eq (pc := 353) (t := 1582) dL_law_353 (by decide) (fun e => ?_) (fun e => ?_)
  · have h := h.1 e
    exact h
  · have h := h.2 e
    refine x_iconst (pc := 356) dL_law_356 ?_
    exact x_zret (pc := 357) dL_law_357 rfl hk (Or.inl rfl) h
set_option maxHeartbeats 4000000 in
set_option maxRecDepth 100000 in
theorem b_L_k358 {G : XG} {S : XS} {k : Nat × Nat} {I : XI} {v3 : Int} {Q : Option Value → XS → XI → Prop} (hS : xSh S) (hk : k.1 ≤ 73020 ∧ k.2 ≤ 8883190) (h : (inb ((v3) + (1)) G.2.2.2.2.2.2.1 ∧ (inb ((v3) + (2)) G.2.2.2.2.2.2.1 ∧ ((w32 (G.2.2.2.2.2.2.2 (ix ((v3) + (2)))) = 0 → H_dry G S I (G.2.2.2.2.2.2.2 (ix ((v3) + (1)))) (0) (fun r26 I25 => (inb ((v3) + (1)) G.2.2.2.2.2.2.1 ∧ (inb ((v3) + (2)) G.2.2.2.2.2.2.1 ∧ ((w32 (G.2.2.2.2.2.2.2 (ix ((v3) + (2)))) = 0 → R_dry G S I25 (G.2.2.2.2.2.2.2 (ix ((v3) + (1)))) (0) (fun r28 I27 => ((w32 (r26) = w32 (r28) → L_k1582 G S k I27 (v3) Q) ∧ (¬ (w32 (r26) = w32 (r28)) → Q (some (vi 0)) S I27)))) ∧ (¬ (w32 (G.2.2.2.2.2.2.2 (ix ((v3) + (2)))) = 0) → R_dry G S I25 (G.2.2.2.2.2.2.2 (ix ((v3) + (1)))) (1) (fun r30 I29 => ((w32 (r26) = w32 (r30) → L_k1582 G S k I29 (v3) Q) ∧ (¬ (w32 (r26) = w32 (r30)) → Q (some (vi 0)) S I29))))))))) ∧ (¬ (w32 (G.2.2.2.2.2.2.2 (ix ((v3) + (2)))) = 0) → H_dry G S I (G.2.2.2.2.2.2.2 (ix ((v3) + (1)))) (1) (fun r32 I31 => (inb ((v3) + (1)) G.2.2.2.2.2.2.1 ∧ (inb ((v3) + (2)) G.2.2.2.2.2.2.1 ∧ ((w32 (G.2.2.2.2.2.2.2 (ix ((v3) + (2)))) = 0 → R_dry G S I31 (G.2.2.2.2.2.2.2 (ix ((v3) + (1)))) (0) (fun r34 I33 => ((w32 (r32) = w32 (r34) → L_k1582 G S k I33 (v3) Q) ∧ (¬ (w32 (r32) = w32 (r34)) → Q (some (vi 0)) S I33)))) ∧ (¬ (w32 (G.2.2.2.2.2.2.2 (ix ((v3) + (2)))) = 0) → R_dry G S I31 (G.2.2.2.2.2.2.2 (ix ((v3) + (1)))) (1) (fun r36 I35 => ((w32 (r32) = w32 (r36) → L_k1582 G S k I35 (v3) Q) ∧ (¬ (w32 (r32) = w32 (r36)) → Q (some (vi 0)) S I35))))))))))))) : L_k358 G S k I v3 Q := by
  unfold L_k358
  refine x_aload_n (pc := 358) dL_law_358 rfl rfl ?_
  refine x_aload_n (pc := 359) dL_law_359 rfl rfl ?_
  refine x_iload_n (pc := 360) dL_law_360 rfl rfl ?_
  refine x_iconst (pc := 361) dL_law_361 ?_
  refine x_iadd (pc := 362) dL_law_362 ?_
  refine x_scr (pc := 363) dL_law_363 h.1 ?_
  have h := h.2
  refine x_aload_n (pc := 364) dL_law_364 rfl rfl ?_
  refine x_iload_n (pc := 365) dL_law_365 rfl rfl ?_
  refine x_iconst (pc := 366) dL_law_366 ?_
  refine x_iadd (pc := 367) dL_law_367 ?_
  refine x_scr (pc := 368) dL_law_368 h.1 ?_
  have h := h.2
  refine x_if_eq (pc := 369) (t := 376) dL_law_369 (by decide) (fun e => ?_) (fun e => ?_)
  · have h := h.1 e
    refine x_iconst (pc := 376) dL_law_376 ?_
    refine y_Vi (pc := 377) (i := c_obj) (As := [vi (G.2.2.2.2.2.2.2 (ix ((v3) + (1)))), vi (0)]) (rest := []) ok_X10_dry ml_L_32 dL_law_377 (sN_c_obj hS) (sT_c_obj hS) (by decide) rfl rfl rfl ⟨rfl, rfl⟩ ⟨by decide, by decide⟩ hk (Nat.le_of_ble_eq_true rfl) rfl h (fun r26 I25 h => ?_)
    refine x_aload_n (pc := 380) dL_law_380 rfl rfl ?_
    refine x_aload_n (pc := 381) dL_law_381 rfl rfl ?_
    refine x_iload_n (pc := 382) dL_law_382 rfl rfl ?_
    refine x_iconst (pc := 383) dL_law_383 ?_
    refine x_iadd (pc := 384) dL_law_384 ?_
    refine x_scr (pc := 385) dL_law_385 h.1 ?_
    have h := h.2
    refine x_aload_n (pc := 386) dL_law_386 rfl rfl ?_
    refine x_iload_n (pc := 387) dL_law_387 rfl rfl ?_
    refine x_iconst (pc := 388) dL_law_388 ?_
    refine x_iadd (pc := 389) dL_law_389 ?_
    refine x_scr (pc := 390) dL_law_390 h.1 ?_
    have h := h.2
    refine x_if_eq (pc := 391) (t := 398) dL_law_391 (by decide) (fun e => ?_) (fun e => ?_)
    · have h := h.1 e
      refine x_iconst (pc := 398) dL_law_398 ?_
      refine y_Vi (pc := 399) (i := r_obj) (As := [vi (G.2.2.2.2.2.2.2 (ix ((v3) + (1)))), vi (0)]) (rest := [vi (r26)]) ok_X11_dry ml_L_36 dL_law_399 (sN_r_obj hS) (sT_r_obj hS) (by decide) rfl rfl rfl ⟨rfl, rfl⟩ ⟨by decide, by decide⟩ hk (Nat.le_of_ble_eq_true rfl) rfl h (fun r28 I27 h => ?_)
      refine x_icmp_eq (pc := 402) (t := 1582) dL_law_402 (by decide) (fun e => ?_) (fun e => ?_)
      · have h := h.1 e
        exact h
      · have h := h.2 e
        refine x_iconst (pc := 405) dL_law_405 ?_
        exact x_zret (pc := 406) dL_law_406 rfl hk (Or.inl rfl) h
    · have h := h.2 e
      refine x_iconst (pc := 394) dL_law_394 ?_
      refine x_goto (pc := 395) (t := 399) dL_law_395 (by decide) ?_
      refine y_Vi (pc := 399) (i := r_obj) (As := [vi (G.2.2.2.2.2.2.2 (ix ((v3) + (1)))), vi (1)]) (rest := [vi (r26)]) ok_X11_dry ml_L_36 dL_law_399 (sN_r_obj hS) (sT_r_obj hS) (by decide) rfl rfl rfl ⟨rfl, rfl⟩ ⟨by decide, by decide⟩ hk (Nat.le_of_ble_eq_true rfl) rfl h (fun r30 I29 h => ?_)
      refine x_icmp_eq (pc := 402) (t := 1582) dL_law_402 (by decide) (fun e => ?_) (fun e => ?_)
      · have h := h.1 e
        exact h
      · have h := h.2 e
        refine x_iconst (pc := 405) dL_law_405 ?_
        exact x_zret (pc := 406) dL_law_406 rfl hk (Or.inl rfl) h
  · have h := h.2 e
    refine x_iconst (pc := 372) dL_law_372 ?_
    refine x_goto (pc := 373) (t := 377) dL_law_373 (by decide) ?_
    refine y_Vi (pc := 377) (i := c_obj) (As := [vi (G.2.2.2.2.2.2.2 (ix ((v3) + (1)))), vi (1)]) (rest := []) ok_X10_dry ml_L_32 dL_law_377 (sN_c_obj hS) (sT_c_obj hS) (by decide) rfl rfl rfl ⟨rfl, rfl⟩ ⟨by decide, by decide⟩ hk (Nat.le_of_ble_eq_true rfl) rfl h (fun r32 I31 h => ?_)
    refine x_aload_n (pc := 380) dL_law_380 rfl rfl ?_
    refine x_aload_n (pc := 381) dL_law_381 rfl rfl ?_
    refine x_iload_n (pc := 382) dL_law_382 rfl rfl ?_
    refine x_iconst (pc := 383) dL_law_383 ?_
    refine x_iadd (pc := 384) dL_law_384 ?_
    refine x_scr (pc := 385) dL_law_385 h.1 ?_
    have h := h.2
    refine x_aload_n (pc := 386) dL_law_386 rfl rfl ?_
    refine x_iload_n (pc := 387) dL_law_387 rfl rfl ?_
    refine x_iconst (pc := 388) dL_law_388 ?_
    refine x_iadd (pc := 389) dL_law_389 ?_
    refine x_scr (pc := 390) dL_law_390 h.1 ?_
    have h := h.2
    refine x_if_eq (pc := 391) (t := 398) dL_law_391 (by decide) (fun e => ?_) (fun e => ?_)
    · have h := h.1 e
      refine x_iconst (pc := 398) dL_law_398 ?_
      refine y_Vi (pc := 399) (i := r_obj) (As := [vi (G.2.2.2.2.2.2.2 (ix ((v3) + (1)))), vi (0)]) (rest := [vi (r32)]) ok_X11_dry ml_L_36 dL_law_399 (sN_r_obj hS) (sT_r_obj hS) (by decide) rfl rfl rfl ⟨rfl, rfl⟩ ⟨by decide, by decide⟩ hk (Nat.le_of_ble_eq_true rfl) rfl h (fun r34 I33 h => ?_)
      refine x_icmp_eq (pc := 402) (t := 1582) dL_law_402 (by decide) (fun e => ?_) (fun e => ?_)
      · have h := h.1 e
        exact h
      · have h := h.2 e
        refine x_iconst (pc := 405) dL_law_405 ?_
        exact x_zret (pc := 406) dL_law_406 rfl hk (Or.inl rfl) h
    · have h := h.2 e
      refine x_iconst (pc := 394) dL_law_394 ?_
      refine x_goto (pc := 395) (t := 399) dL_law_395 (by decide) ?_
      refine y_Vi (pc := 399) (i := r_obj) (As := [vi (G.2.2.2.2.2.2.2 (ix ((v3) + (1)))), vi (1)]) (rest := [vi (r32)]) ok_X11_dry ml_L_36 dL_law_399 (sN_r_obj hS) (sT_r_obj hS) (by decide) rfl rfl rfl ⟨rfl, rfl⟩ ⟨by decide, by decide⟩ hk (Nat.le_of_ble_eq_true rfl) rfl h (fun r36 I35 h => ?_)
      refine x_icmp_eq (pc := 402) (t := 1582) dL_law_402 (by decide) (fun e => ?_) (fun e => ?_)
      · have h := h.1 e
        exact h
      · have h := h.2 e
        refine x_iconst (pc := 405) dL_law_405 ?_
        exact x_zret (pc := 406) dL_law_406 rfl hk (Or.inl rfl) h
set_option maxHeartbeats 4000000 in
set_option maxRecDepth 100000 in
theorem b_L_k407 {G : XG} {S : XS} {k : Nat × Nat} {I : XI} {v3 : Int} {Q : Option Value → XS → XI → Prop} (hS : xSh S) (hk : k.1 ≤ 73020 ∧ k.2 ≤ 8883190) (h : (inb ((v3) + (1)) G.2.2.2.2.2.2.1 ∧ H_week G S I (G.2.2.2.2.2.2.2 (ix ((v3) + (1)))) (fun r38 I37 => (inb ((v3) + (1)) G.2.2.2.2.2.2.1 ∧ R_week G S I37 (G.2.2.2.2.2.2.2 (ix ((v3) + (1)))) (fun r40 I39 => ((w32 (r38) = w32 (r40) → L_k1582 G S k I39 (v3) Q) ∧ (¬ (w32 (r38) = w32 (r40)) → Q (some (vi 0)) S I39))))))) : L_k407 G S k I v3 Q := by
  unfold L_k407
  refine x_aload_n (pc := 407) dL_law_407 rfl rfl ?_
  refine x_aload_n (pc := 408) dL_law_408 rfl rfl ?_
  refine x_iload_n (pc := 409) dL_law_409 rfl rfl ?_
  refine x_iconst (pc := 410) dL_law_410 ?_
  refine x_iadd (pc := 411) dL_law_411 ?_
  refine x_scr (pc := 412) dL_law_412 h.1 ?_
  have h := h.2
  refine y_Vi (pc := 413) (i := c_obj) (As := [vi (G.2.2.2.2.2.2.2 (ix ((v3) + (1))))]) (rest := []) ok_X10_week ml_L_37 dL_law_413 (sN_c_obj hS) (sT_c_obj hS) (by decide) rfl rfl rfl ⟨rfl, rfl⟩ ⟨by decide, by decide⟩ hk (Nat.le_of_ble_eq_true rfl) rfl h (fun r38 I37 h => ?_)
  refine x_aload_n (pc := 416) dL_law_416 rfl rfl ?_
  refine x_aload_n (pc := 417) dL_law_417 rfl rfl ?_
  refine x_iload_n (pc := 418) dL_law_418 rfl rfl ?_
  refine x_iconst (pc := 419) dL_law_419 ?_
  refine x_iadd (pc := 420) dL_law_420 ?_
  refine x_scr (pc := 421) dL_law_421 h.1 ?_
  have h := h.2
  refine y_Vi (pc := 422) (i := r_obj) (As := [vi (G.2.2.2.2.2.2.2 (ix ((v3) + (1))))]) (rest := [vi (r38)]) ok_X11_week ml_L_41 dL_law_422 (sN_r_obj hS) (sT_r_obj hS) (by decide) rfl rfl rfl ⟨rfl, rfl⟩ ⟨by decide, by decide⟩ hk (Nat.le_of_ble_eq_true rfl) rfl h (fun r40 I39 h => ?_)
  refine x_icmp_eq (pc := 425) (t := 1582) dL_law_425 (by decide) (fun e => ?_) (fun e => ?_)
  · have h := h.1 e
    exact h
  · have h := h.2 e
    refine x_iconst (pc := 428) dL_law_428 ?_
    exact x_zret (pc := 429) dL_law_429 rfl hk (Or.inl rfl) h
set_option maxHeartbeats 4000000 in
set_option maxRecDepth 100000 in
theorem b_L_k430 {G : XG} {S : XS} {k : Nat × Nat} {I : XI} {v3 : Int} {Q : Option Value → XS → XI → Prop} (hS : xSh S) (hk : k.1 ≤ 73020 ∧ k.2 ≤ 8883190) (h : (inb ((v3) + (1)) G.2.2.2.2.2.2.1 ∧ H_view G S I (G.2.2.2.2.2.2.2 (ix ((v3) + (1)))) (fun r42 I41 => (inb ((v3) + (1)) G.2.2.2.2.2.2.1 ∧ R_view G S I41 (G.2.2.2.2.2.2.2 (ix ((v3) + (1)))) (fun r44 I43 => ((w32 (r42) = w32 (r44) → L_k1582 G S k I43 (v3) Q) ∧ (¬ (w32 (r42) = w32 (r44)) → Q (some (vi 0)) S I43))))))) : L_k430 G S k I v3 Q := by
  unfold L_k430
  refine x_aload_n (pc := 430) dL_law_430 rfl rfl ?_
  refine x_aload_n (pc := 431) dL_law_431 rfl rfl ?_
  refine x_iload_n (pc := 432) dL_law_432 rfl rfl ?_
  refine x_iconst (pc := 433) dL_law_433 ?_
  refine x_iadd (pc := 434) dL_law_434 ?_
  refine x_scr (pc := 435) dL_law_435 h.1 ?_
  have h := h.2
  refine y_Vi (pc := 436) (i := c_obj) (As := [vi (G.2.2.2.2.2.2.2 (ix ((v3) + (1))))]) (rest := []) ok_X10_view ml_L_42 dL_law_436 (sN_c_obj hS) (sT_c_obj hS) (by decide) rfl rfl rfl ⟨rfl, rfl⟩ ⟨by decide, by decide⟩ hk (Nat.le_of_ble_eq_true rfl) rfl h (fun r42 I41 h => ?_)
  refine x_aload_n (pc := 439) dL_law_439 rfl rfl ?_
  refine x_aload_n (pc := 440) dL_law_440 rfl rfl ?_
  refine x_iload_n (pc := 441) dL_law_441 rfl rfl ?_
  refine x_iconst (pc := 442) dL_law_442 ?_
  refine x_iadd (pc := 443) dL_law_443 ?_
  refine x_scr (pc := 444) dL_law_444 h.1 ?_
  have h := h.2
  refine y_Vi (pc := 445) (i := r_obj) (As := [vi (G.2.2.2.2.2.2.2 (ix ((v3) + (1))))]) (rest := [vi (r42)]) ok_X11_view ml_L_45 dL_law_445 (sN_r_obj hS) (sT_r_obj hS) (by decide) rfl rfl rfl ⟨rfl, rfl⟩ ⟨by decide, by decide⟩ hk (Nat.le_of_ble_eq_true rfl) rfl h (fun r44 I43 h => ?_)
  refine x_icmp_eq (pc := 448) (t := 1582) dL_law_448 (by decide) (fun e => ?_) (fun e => ?_)
  · have h := h.1 e
    exact h
  · have h := h.2 e
    refine x_iconst (pc := 451) dL_law_451 ?_
    exact x_zret (pc := 452) dL_law_452 rfl hk (Or.inl rfl) h
set_option maxHeartbeats 4000000 in
set_option maxRecDepth 100000 in
theorem b_L_k453 {G : XG} {S : XS} {k : Nat × Nat} {I : XI} {v3 : Int} {Q : Option Value → XS → XI → Prop} (hS : xSh S) (hk : k.1 ≤ 73020 ∧ k.2 ≤ 8883190) (h : (inb ((v3) + (1)) G.2.2.2.2.2.2.1 ∧ (inb ((v3) + (2)) G.2.2.2.2.2.2.1 ∧ (inb ((v3) + (3)) G.2.2.2.2.2.2.1 ∧ (inb ((v3) + (4)) G.2.2.2.2.2.2.1 ∧ ((w32 (G.2.2.2.2.2.2.2 (ix ((v3) + (4)))) = 0 → H_news G S I (G.2.2.2.2.2.2.2 (ix ((v3) + (1)))) (G.2.2.2.2.2.2.2 (ix ((v3) + (2)))) (G.2.2.2.2.2.2.2 (ix ((v3) + (3)))) (0) (fun r46 I45 => (inb ((v3) + (1)) G.2.2.2.2.2.2.1 ∧ (inb ((v3) + (2)) G.2.2.2.2.2.2.1 ∧ (inb ((v3) + (3)) G.2.2.2.2.2.2.1 ∧ (inb ((v3) + (4)) G.2.2.2.2.2.2.1 ∧ ((w32 (G.2.2.2.2.2.2.2 (ix ((v3) + (4)))) = 0 → R_news G S I45 (G.2.2.2.2.2.2.2 (ix ((v3) + (1)))) (G.2.2.2.2.2.2.2 (ix ((v3) + (2)))) (G.2.2.2.2.2.2.2 (ix ((v3) + (3)))) (0) (fun r48 I47 => ((w32 (r46) = w32 (r48) → L_k1582 G S k I47 (v3) Q) ∧ (¬ (w32 (r46) = w32 (r48)) → Q (some (vi 0)) S I47)))) ∧ (¬ (w32 (G.2.2.2.2.2.2.2 (ix ((v3) + (4)))) = 0) → R_news G S I45 (G.2.2.2.2.2.2.2 (ix ((v3) + (1)))) (G.2.2.2.2.2.2.2 (ix ((v3) + (2)))) (G.2.2.2.2.2.2.2 (ix ((v3) + (3)))) (1) (fun r50 I49 => ((w32 (r46) = w32 (r50) → L_k1582 G S k I49 (v3) Q) ∧ (¬ (w32 (r46) = w32 (r50)) → Q (some (vi 0)) S I49))))))))))) ∧ (¬ (w32 (G.2.2.2.2.2.2.2 (ix ((v3) + (4)))) = 0) → H_news G S I (G.2.2.2.2.2.2.2 (ix ((v3) + (1)))) (G.2.2.2.2.2.2.2 (ix ((v3) + (2)))) (G.2.2.2.2.2.2.2 (ix ((v3) + (3)))) (1) (fun r52 I51 => (inb ((v3) + (1)) G.2.2.2.2.2.2.1 ∧ (inb ((v3) + (2)) G.2.2.2.2.2.2.1 ∧ (inb ((v3) + (3)) G.2.2.2.2.2.2.1 ∧ (inb ((v3) + (4)) G.2.2.2.2.2.2.1 ∧ ((w32 (G.2.2.2.2.2.2.2 (ix ((v3) + (4)))) = 0 → R_news G S I51 (G.2.2.2.2.2.2.2 (ix ((v3) + (1)))) (G.2.2.2.2.2.2.2 (ix ((v3) + (2)))) (G.2.2.2.2.2.2.2 (ix ((v3) + (3)))) (0) (fun r54 I53 => ((w32 (r52) = w32 (r54) → L_k1582 G S k I53 (v3) Q) ∧ (¬ (w32 (r52) = w32 (r54)) → Q (some (vi 0)) S I53)))) ∧ (¬ (w32 (G.2.2.2.2.2.2.2 (ix ((v3) + (4)))) = 0) → R_news G S I51 (G.2.2.2.2.2.2.2 (ix ((v3) + (1)))) (G.2.2.2.2.2.2.2 (ix ((v3) + (2)))) (G.2.2.2.2.2.2.2 (ix ((v3) + (3)))) (1) (fun r56 I55 => ((w32 (r52) = w32 (r56) → L_k1582 G S k I55 (v3) Q) ∧ (¬ (w32 (r52) = w32 (r56)) → Q (some (vi 0)) S I55))))))))))))))))) : L_k453 G S k I v3 Q := by
  unfold L_k453
  refine x_aload_n (pc := 453) dL_law_453 rfl rfl ?_
  refine x_aload_n (pc := 454) dL_law_454 rfl rfl ?_
  refine x_iload_n (pc := 455) dL_law_455 rfl rfl ?_
  refine x_iconst (pc := 456) dL_law_456 ?_
  refine x_iadd (pc := 457) dL_law_457 ?_
  refine x_scr (pc := 458) dL_law_458 h.1 ?_
  have h := h.2
  refine x_aload_n (pc := 459) dL_law_459 rfl rfl ?_
  refine x_iload_n (pc := 460) dL_law_460 rfl rfl ?_
  refine x_iconst (pc := 461) dL_law_461 ?_
  refine x_iadd (pc := 462) dL_law_462 ?_
  refine x_scr (pc := 463) dL_law_463 h.1 ?_
  have h := h.2
  refine x_aload_n (pc := 464) dL_law_464 rfl rfl ?_
  refine x_iload_n (pc := 465) dL_law_465 rfl rfl ?_
  refine x_iconst (pc := 466) dL_law_466 ?_
  refine x_iadd (pc := 467) dL_law_467 ?_
  refine x_scr (pc := 468) dL_law_468 h.1 ?_
  have h := h.2
  refine x_aload_n (pc := 469) dL_law_469 rfl rfl ?_
  refine x_iload_n (pc := 470) dL_law_470 rfl rfl ?_
  refine x_iconst (pc := 471) dL_law_471 ?_
  refine x_iadd (pc := 472) dL_law_472 ?_
  refine x_scr (pc := 473) dL_law_473 h.1 ?_
  have h := h.2
  refine x_if_eq (pc := 474) (t := 481) dL_law_474 (by decide) (fun e => ?_) (fun e => ?_)
  · have h := h.1 e
    refine x_iconst (pc := 481) dL_law_481 ?_
    refine y_Vi (pc := 482) (i := c_obj) (As := [vi (G.2.2.2.2.2.2.2 (ix ((v3) + (1)))), vi (G.2.2.2.2.2.2.2 (ix ((v3) + (2)))), vi (G.2.2.2.2.2.2.2 (ix ((v3) + (3)))), vi (0)]) (rest := []) ok_X10_news ml_L_46 dL_law_482 (sN_c_obj hS) (sT_c_obj hS) (by decide) rfl rfl rfl ⟨rfl, rfl⟩ ⟨by decide, by decide⟩ hk (Nat.le_of_ble_eq_true rfl) rfl h (fun r46 I45 h => ?_)
    refine x_aload_n (pc := 485) dL_law_485 rfl rfl ?_
    refine x_aload_n (pc := 486) dL_law_486 rfl rfl ?_
    refine x_iload_n (pc := 487) dL_law_487 rfl rfl ?_
    refine x_iconst (pc := 488) dL_law_488 ?_
    refine x_iadd (pc := 489) dL_law_489 ?_
    refine x_scr (pc := 490) dL_law_490 h.1 ?_
    have h := h.2
    refine x_aload_n (pc := 491) dL_law_491 rfl rfl ?_
    refine x_iload_n (pc := 492) dL_law_492 rfl rfl ?_
    refine x_iconst (pc := 493) dL_law_493 ?_
    refine x_iadd (pc := 494) dL_law_494 ?_
    refine x_scr (pc := 495) dL_law_495 h.1 ?_
    have h := h.2
    refine x_aload_n (pc := 496) dL_law_496 rfl rfl ?_
    refine x_iload_n (pc := 497) dL_law_497 rfl rfl ?_
    refine x_iconst (pc := 498) dL_law_498 ?_
    refine x_iadd (pc := 499) dL_law_499 ?_
    refine x_scr (pc := 500) dL_law_500 h.1 ?_
    have h := h.2
    refine x_aload_n (pc := 501) dL_law_501 rfl rfl ?_
    refine x_iload_n (pc := 502) dL_law_502 rfl rfl ?_
    refine x_iconst (pc := 503) dL_law_503 ?_
    refine x_iadd (pc := 504) dL_law_504 ?_
    refine x_scr (pc := 505) dL_law_505 h.1 ?_
    have h := h.2
    refine x_if_eq (pc := 506) (t := 513) dL_law_506 (by decide) (fun e => ?_) (fun e => ?_)
    · have h := h.1 e
      refine x_iconst (pc := 513) dL_law_513 ?_
      refine y_Vi (pc := 514) (i := r_obj) (As := [vi (G.2.2.2.2.2.2.2 (ix ((v3) + (1)))), vi (G.2.2.2.2.2.2.2 (ix ((v3) + (2)))), vi (G.2.2.2.2.2.2.2 (ix ((v3) + (3)))), vi (0)]) (rest := [vi (r46)]) ok_X11_news ml_L_50 dL_law_514 (sN_r_obj hS) (sT_r_obj hS) (by decide) rfl rfl rfl ⟨rfl, rfl⟩ ⟨by decide, by decide⟩ hk (Nat.le_of_ble_eq_true rfl) rfl h (fun r48 I47 h => ?_)
      refine x_icmp_eq (pc := 517) (t := 1582) dL_law_517 (by decide) (fun e => ?_) (fun e => ?_)
      · have h := h.1 e
        exact h
      · have h := h.2 e
        refine x_iconst (pc := 520) dL_law_520 ?_
        exact x_zret (pc := 521) dL_law_521 rfl hk (Or.inl rfl) h
    · have h := h.2 e
      refine x_iconst (pc := 509) dL_law_509 ?_
      refine x_goto (pc := 510) (t := 514) dL_law_510 (by decide) ?_
      refine y_Vi (pc := 514) (i := r_obj) (As := [vi (G.2.2.2.2.2.2.2 (ix ((v3) + (1)))), vi (G.2.2.2.2.2.2.2 (ix ((v3) + (2)))), vi (G.2.2.2.2.2.2.2 (ix ((v3) + (3)))), vi (1)]) (rest := [vi (r46)]) ok_X11_news ml_L_50 dL_law_514 (sN_r_obj hS) (sT_r_obj hS) (by decide) rfl rfl rfl ⟨rfl, rfl⟩ ⟨by decide, by decide⟩ hk (Nat.le_of_ble_eq_true rfl) rfl h (fun r50 I49 h => ?_)
      refine x_icmp_eq (pc := 517) (t := 1582) dL_law_517 (by decide) (fun e => ?_) (fun e => ?_)
      · have h := h.1 e
        exact h
      · have h := h.2 e
        refine x_iconst (pc := 520) dL_law_520 ?_
        exact x_zret (pc := 521) dL_law_521 rfl hk (Or.inl rfl) h
  · have h := h.2 e
    refine x_iconst (pc := 477) dL_law_477 ?_
    refine x_goto (pc := 478) (t := 482) dL_law_478 (by decide) ?_
    refine y_Vi (pc := 482) (i := c_obj) (As := [vi (G.2.2.2.2.2.2.2 (ix ((v3) + (1)))), vi (G.2.2.2.2.2.2.2 (ix ((v3) + (2)))), vi (G.2.2.2.2.2.2.2 (ix ((v3) + (3)))), vi (1)]) (rest := []) ok_X10_news ml_L_46 dL_law_482 (sN_c_obj hS) (sT_c_obj hS) (by decide) rfl rfl rfl ⟨rfl, rfl⟩ ⟨by decide, by decide⟩ hk (Nat.le_of_ble_eq_true rfl) rfl h (fun r52 I51 h => ?_)
    refine x_aload_n (pc := 485) dL_law_485 rfl rfl ?_
    refine x_aload_n (pc := 486) dL_law_486 rfl rfl ?_
    refine x_iload_n (pc := 487) dL_law_487 rfl rfl ?_
    refine x_iconst (pc := 488) dL_law_488 ?_
    refine x_iadd (pc := 489) dL_law_489 ?_
    refine x_scr (pc := 490) dL_law_490 h.1 ?_
    have h := h.2
    refine x_aload_n (pc := 491) dL_law_491 rfl rfl ?_
    refine x_iload_n (pc := 492) dL_law_492 rfl rfl ?_
    refine x_iconst (pc := 493) dL_law_493 ?_
    refine x_iadd (pc := 494) dL_law_494 ?_
    refine x_scr (pc := 495) dL_law_495 h.1 ?_
    have h := h.2
    refine x_aload_n (pc := 496) dL_law_496 rfl rfl ?_
    refine x_iload_n (pc := 497) dL_law_497 rfl rfl ?_
    refine x_iconst (pc := 498) dL_law_498 ?_
    refine x_iadd (pc := 499) dL_law_499 ?_
    refine x_scr (pc := 500) dL_law_500 h.1 ?_
    have h := h.2
    refine x_aload_n (pc := 501) dL_law_501 rfl rfl ?_
    refine x_iload_n (pc := 502) dL_law_502 rfl rfl ?_
    refine x_iconst (pc := 503) dL_law_503 ?_
    refine x_iadd (pc := 504) dL_law_504 ?_
    refine x_scr (pc := 505) dL_law_505 h.1 ?_
    have h := h.2
    refine x_if_eq (pc := 506) (t := 513) dL_law_506 (by decide) (fun e => ?_) (fun e => ?_)
    · have h := h.1 e
      refine x_iconst (pc := 513) dL_law_513 ?_
      refine y_Vi (pc := 514) (i := r_obj) (As := [vi (G.2.2.2.2.2.2.2 (ix ((v3) + (1)))), vi (G.2.2.2.2.2.2.2 (ix ((v3) + (2)))), vi (G.2.2.2.2.2.2.2 (ix ((v3) + (3)))), vi (0)]) (rest := [vi (r52)]) ok_X11_news ml_L_50 dL_law_514 (sN_r_obj hS) (sT_r_obj hS) (by decide) rfl rfl rfl ⟨rfl, rfl⟩ ⟨by decide, by decide⟩ hk (Nat.le_of_ble_eq_true rfl) rfl h (fun r54 I53 h => ?_)
      refine x_icmp_eq (pc := 517) (t := 1582) dL_law_517 (by decide) (fun e => ?_) (fun e => ?_)
      · have h := h.1 e
        exact h
      · have h := h.2 e
        refine x_iconst (pc := 520) dL_law_520 ?_
        exact x_zret (pc := 521) dL_law_521 rfl hk (Or.inl rfl) h
    · have h := h.2 e
      refine x_iconst (pc := 509) dL_law_509 ?_
      refine x_goto (pc := 510) (t := 514) dL_law_510 (by decide) ?_
      refine y_Vi (pc := 514) (i := r_obj) (As := [vi (G.2.2.2.2.2.2.2 (ix ((v3) + (1)))), vi (G.2.2.2.2.2.2.2 (ix ((v3) + (2)))), vi (G.2.2.2.2.2.2.2 (ix ((v3) + (3)))), vi (1)]) (rest := [vi (r52)]) ok_X11_news ml_L_50 dL_law_514 (sN_r_obj hS) (sT_r_obj hS) (by decide) rfl rfl rfl ⟨rfl, rfl⟩ ⟨by decide, by decide⟩ hk (Nat.le_of_ble_eq_true rfl) rfl h (fun r56 I55 h => ?_)
      refine x_icmp_eq (pc := 517) (t := 1582) dL_law_517 (by decide) (fun e => ?_) (fun e => ?_)
      · have h := h.1 e
        exact h
      · have h := h.2 e
        refine x_iconst (pc := 520) dL_law_520 ?_
        exact x_zret (pc := 521) dL_law_521 rfl hk (Or.inl rfl) h
set_option maxHeartbeats 4000000 in
set_option maxRecDepth 100000 in
theorem b_L_k522 {G : XG} {S : XS} {k : Nat × Nat} {I : XI} {v3 : Int} {Q : Option Value → XS → XI → Prop} (hS : xSh S) (hk : k.1 ≤ 73020 ∧ k.2 ≤ 8883190) (h : (inb ((v3) + (1)) G.2.2.2.2.2.2.1 ∧ (inb ((v3) + (2)) G.2.2.2.2.2.2.1 ∧ (inb ((v3) + (3)) G.2.2.2.2.2.2.1 ∧ H_parts G S I (G.2.2.2.2.2.2.2 (ix ((v3) + (1)))) (G.2.2.2.2.2.2.2 (ix ((v3) + (2)))) (G.2.2.2.2.2.2.2 (ix ((v3) + (3)))) (fun r58 I57 => (inb ((v3) + (1)) G.2.2.2.2.2.2.1 ∧ (inb ((v3) + (2)) G.2.2.2.2.2.2.1 ∧ (inb ((v3) + (3)) G.2.2.2.2.2.2.1 ∧ R_parts G S I57 (G.2.2.2.2.2.2.2 (ix ((v3) + (1)))) (G.2.2.2.2.2.2.2 (ix ((v3) + (2)))) (G.2.2.2.2.2.2.2 (ix ((v3) + (3)))) (fun r60 I59 => ((w32 (r58) = w32 (r60) → L_k1582 G S k I59 (v3) Q) ∧ (¬ (w32 (r58) = w32 (r60)) → Q (some (vi 0)) S I59))))))))))) : L_k522 G S k I v3 Q := by
  unfold L_k522
  refine x_aload_n (pc := 522) dL_law_522 rfl rfl ?_
  refine x_aload_n (pc := 523) dL_law_523 rfl rfl ?_
  refine x_iload_n (pc := 524) dL_law_524 rfl rfl ?_
  refine x_iconst (pc := 525) dL_law_525 ?_
  refine x_iadd (pc := 526) dL_law_526 ?_
  refine x_scr (pc := 527) dL_law_527 h.1 ?_
  have h := h.2
  refine x_aload_n (pc := 528) dL_law_528 rfl rfl ?_
  refine x_iload_n (pc := 529) dL_law_529 rfl rfl ?_
  refine x_iconst (pc := 530) dL_law_530 ?_
  refine x_iadd (pc := 531) dL_law_531 ?_
  refine x_scr (pc := 532) dL_law_532 h.1 ?_
  have h := h.2
  refine x_aload_n (pc := 533) dL_law_533 rfl rfl ?_
  refine x_iload_n (pc := 534) dL_law_534 rfl rfl ?_
  refine x_iconst (pc := 535) dL_law_535 ?_
  refine x_iadd (pc := 536) dL_law_536 ?_
  refine x_scr (pc := 537) dL_law_537 h.1 ?_
  have h := h.2
  refine y_Vi (pc := 538) (i := c_obj) (As := [vi (G.2.2.2.2.2.2.2 (ix ((v3) + (1)))), vi (G.2.2.2.2.2.2.2 (ix ((v3) + (2)))), vi (G.2.2.2.2.2.2.2 (ix ((v3) + (3))))]) (rest := []) ok_X10_parts ml_L_51 dL_law_538 (sN_c_obj hS) (sT_c_obj hS) (by decide) rfl rfl rfl ⟨rfl, rfl⟩ ⟨by decide, by decide⟩ hk (Nat.le_of_ble_eq_true rfl) rfl h (fun r58 I57 h => ?_)
  refine x_aload_n (pc := 541) dL_law_541 rfl rfl ?_
  refine x_aload_n (pc := 542) dL_law_542 rfl rfl ?_
  refine x_iload_n (pc := 543) dL_law_543 rfl rfl ?_
  refine x_iconst (pc := 544) dL_law_544 ?_
  refine x_iadd (pc := 545) dL_law_545 ?_
  refine x_scr (pc := 546) dL_law_546 h.1 ?_
  have h := h.2
  refine x_aload_n (pc := 547) dL_law_547 rfl rfl ?_
  refine x_iload_n (pc := 548) dL_law_548 rfl rfl ?_
  refine x_iconst (pc := 549) dL_law_549 ?_
  refine x_iadd (pc := 550) dL_law_550 ?_
  refine x_scr (pc := 551) dL_law_551 h.1 ?_
  have h := h.2
  refine x_aload_n (pc := 552) dL_law_552 rfl rfl ?_
  refine x_iload_n (pc := 553) dL_law_553 rfl rfl ?_
  refine x_iconst (pc := 554) dL_law_554 ?_
  refine x_iadd (pc := 555) dL_law_555 ?_
  refine x_scr (pc := 556) dL_law_556 h.1 ?_
  have h := h.2
  refine y_Vi (pc := 557) (i := r_obj) (As := [vi (G.2.2.2.2.2.2.2 (ix ((v3) + (1)))), vi (G.2.2.2.2.2.2.2 (ix ((v3) + (2)))), vi (G.2.2.2.2.2.2.2 (ix ((v3) + (3))))]) (rest := [vi (r58)]) ok_X11_parts ml_L_55 dL_law_557 (sN_r_obj hS) (sT_r_obj hS) (by decide) rfl rfl rfl ⟨rfl, rfl⟩ ⟨by decide, by decide⟩ hk (Nat.le_of_ble_eq_true rfl) rfl h (fun r60 I59 h => ?_)
  refine x_icmp_eq (pc := 560) (t := 1582) dL_law_560 (by decide) (fun e => ?_) (fun e => ?_)
  · have h := h.1 e
    exact h
  · have h := h.2 e
    refine x_iconst (pc := 563) dL_law_563 ?_
    exact x_zret (pc := 564) dL_law_564 rfl hk (Or.inl rfl) h
set_option maxHeartbeats 4000000 in
set_option maxRecDepth 100000 in
theorem b_L_k565 {G : XG} {S : XS} {k : Nat × Nat} {I : XI} {v3 : Int} {Q : Option Value → XS → XI → Prop} (hS : xSh S) (hk : k.1 ≤ 73020 ∧ k.2 ≤ 8883190) (h : (inb ((v3) + (1)) G.2.2.2.2.2.2.1 ∧ (inb ((v3) + (2)) G.2.2.2.2.2.2.1 ∧ H_likeliest G S I (G.2.2.2.2.2.2.2 (ix ((v3) + (1)))) (G.2.2.2.2.2.2.2 (ix ((v3) + (2)))) (fun r62 I61 => (inb ((v3) + (1)) G.2.2.2.2.2.2.1 ∧ (inb ((v3) + (2)) G.2.2.2.2.2.2.1 ∧ R_likeliest G S I61 (G.2.2.2.2.2.2.2 (ix ((v3) + (1)))) (G.2.2.2.2.2.2.2 (ix ((v3) + (2)))) (fun r64 I63 => ((w32 (r62) = w32 (r64) → L_k1582 G S k I63 (v3) Q) ∧ (¬ (w32 (r62) = w32 (r64)) → Q (some (vi 0)) S I63))))))))) : L_k565 G S k I v3 Q := by
  unfold L_k565
  refine x_aload_n (pc := 565) dL_law_565 rfl rfl ?_
  refine x_aload_n (pc := 566) dL_law_566 rfl rfl ?_
  refine x_iload_n (pc := 567) dL_law_567 rfl rfl ?_
  refine x_iconst (pc := 568) dL_law_568 ?_
  refine x_iadd (pc := 569) dL_law_569 ?_
  refine x_scr (pc := 570) dL_law_570 h.1 ?_
  have h := h.2
  refine x_aload_n (pc := 571) dL_law_571 rfl rfl ?_
  refine x_iload_n (pc := 572) dL_law_572 rfl rfl ?_
  refine x_iconst (pc := 573) dL_law_573 ?_
  refine x_iadd (pc := 574) dL_law_574 ?_
  refine x_scr (pc := 575) dL_law_575 h.1 ?_
  have h := h.2
  refine y_Vi (pc := 576) (i := c_obj) (As := [vi (G.2.2.2.2.2.2.2 (ix ((v3) + (1)))), vi (G.2.2.2.2.2.2.2 (ix ((v3) + (2))))]) (rest := []) ok_X10_likeliest ml_L_56 dL_law_576 (sN_c_obj hS) (sT_c_obj hS) (by decide) rfl rfl rfl ⟨rfl, rfl⟩ ⟨by decide, by decide⟩ hk (Nat.le_of_ble_eq_true rfl) rfl h (fun r62 I61 h => ?_)
  refine x_aload_n (pc := 579) dL_law_579 rfl rfl ?_
  refine x_aload_n (pc := 580) dL_law_580 rfl rfl ?_
  refine x_iload_n (pc := 581) dL_law_581 rfl rfl ?_
  refine x_iconst (pc := 582) dL_law_582 ?_
  refine x_iadd (pc := 583) dL_law_583 ?_
  refine x_scr (pc := 584) dL_law_584 h.1 ?_
  have h := h.2
  refine x_aload_n (pc := 585) dL_law_585 rfl rfl ?_
  refine x_iload_n (pc := 586) dL_law_586 rfl rfl ?_
  refine x_iconst (pc := 587) dL_law_587 ?_
  refine x_iadd (pc := 588) dL_law_588 ?_
  refine x_scr (pc := 589) dL_law_589 h.1 ?_
  have h := h.2
  refine y_Vi (pc := 590) (i := r_obj) (As := [vi (G.2.2.2.2.2.2.2 (ix ((v3) + (1)))), vi (G.2.2.2.2.2.2.2 (ix ((v3) + (2))))]) (rest := [vi (r62)]) ok_X11_likeliest ml_L_59 dL_law_590 (sN_r_obj hS) (sT_r_obj hS) (by decide) rfl rfl rfl ⟨rfl, rfl⟩ ⟨by decide, by decide⟩ hk (Nat.le_of_ble_eq_true rfl) rfl h (fun r64 I63 h => ?_)
  refine x_icmp_eq (pc := 593) (t := 1582) dL_law_593 (by decide) (fun e => ?_) (fun e => ?_)
  · have h := h.1 e
    exact h
  · have h := h.2 e
    refine x_iconst (pc := 596) dL_law_596 ?_
    exact x_zret (pc := 597) dL_law_597 rfl hk (Or.inl rfl) h
set_option maxHeartbeats 4000000 in
set_option maxRecDepth 100000 in
theorem b_L_k598 {G : XG} {S : XS} {k : Nat × Nat} {I : XI} {v3 : Int} {Q : Option Value → XS → XI → Prop} (hS : xSh S) (hk : k.1 ≤ 73020 ∧ k.2 ≤ 8883190) (h : (inb ((v3) + (1)) G.2.2.2.2.2.2.1 ∧ (inb ((v3) + (2)) G.2.2.2.2.2.2.1 ∧ H_quarrel G S I (G.2.2.2.2.2.2.2 (ix ((v3) + (1)))) (G.2.2.2.2.2.2.2 (ix ((v3) + (2)))) (fun r66 I65 => (inb ((v3) + (1)) G.2.2.2.2.2.2.1 ∧ (inb ((v3) + (2)) G.2.2.2.2.2.2.1 ∧ R_quarrel G S I65 (G.2.2.2.2.2.2.2 (ix ((v3) + (1)))) (G.2.2.2.2.2.2.2 (ix ((v3) + (2)))) (fun r68 I67 => ((w32 (r66) = w32 (r68) → L_k1582 G S k I67 (v3) Q) ∧ (¬ (w32 (r66) = w32 (r68)) → Q (some (vi 0)) S I67))))))))) : L_k598 G S k I v3 Q := by
  unfold L_k598
  refine x_aload_n (pc := 598) dL_law_598 rfl rfl ?_
  refine x_aload_n (pc := 599) dL_law_599 rfl rfl ?_
  refine x_iload_n (pc := 600) dL_law_600 rfl rfl ?_
  refine x_iconst (pc := 601) dL_law_601 ?_
  refine x_iadd (pc := 602) dL_law_602 ?_
  refine x_scr (pc := 603) dL_law_603 h.1 ?_
  have h := h.2
  refine x_aload_n (pc := 604) dL_law_604 rfl rfl ?_
  refine x_iload_n (pc := 605) dL_law_605 rfl rfl ?_
  refine x_iconst (pc := 606) dL_law_606 ?_
  refine x_iadd (pc := 607) dL_law_607 ?_
  refine x_scr (pc := 608) dL_law_608 h.1 ?_
  have h := h.2
  refine y_Vi (pc := 609) (i := c_obj) (As := [vi (G.2.2.2.2.2.2.2 (ix ((v3) + (1)))), vi (G.2.2.2.2.2.2.2 (ix ((v3) + (2))))]) (rest := []) ok_X10_quarrel ml_L_60 dL_law_609 (sN_c_obj hS) (sT_c_obj hS) (by decide) rfl rfl rfl ⟨rfl, rfl⟩ ⟨by decide, by decide⟩ hk (Nat.le_of_ble_eq_true rfl) rfl h (fun r66 I65 h => ?_)
  refine x_aload_n (pc := 612) dL_law_612 rfl rfl ?_
  refine x_aload_n (pc := 613) dL_law_613 rfl rfl ?_
  refine x_iload_n (pc := 614) dL_law_614 rfl rfl ?_
  refine x_iconst (pc := 615) dL_law_615 ?_
  refine x_iadd (pc := 616) dL_law_616 ?_
  refine x_scr (pc := 617) dL_law_617 h.1 ?_
  have h := h.2
  refine x_aload_n (pc := 618) dL_law_618 rfl rfl ?_
  refine x_iload_n (pc := 619) dL_law_619 rfl rfl ?_
  refine x_iconst (pc := 620) dL_law_620 ?_
  refine x_iadd (pc := 621) dL_law_621 ?_
  refine x_scr (pc := 622) dL_law_622 h.1 ?_
  have h := h.2
  refine y_Vi (pc := 623) (i := r_obj) (As := [vi (G.2.2.2.2.2.2.2 (ix ((v3) + (1)))), vi (G.2.2.2.2.2.2.2 (ix ((v3) + (2))))]) (rest := [vi (r66)]) ok_X11_quarrel ml_L_63 dL_law_623 (sN_r_obj hS) (sT_r_obj hS) (by decide) rfl rfl rfl ⟨rfl, rfl⟩ ⟨by decide, by decide⟩ hk (Nat.le_of_ble_eq_true rfl) rfl h (fun r68 I67 h => ?_)
  refine x_icmp_eq (pc := 626) (t := 1582) dL_law_626 (by decide) (fun e => ?_) (fun e => ?_)
  · have h := h.1 e
    exact h
  · have h := h.2 e
    refine x_iconst (pc := 629) dL_law_629 ?_
    exact x_zret (pc := 630) dL_law_630 rfl hk (Or.inl rfl) h
set_option maxHeartbeats 4000000 in
set_option maxRecDepth 100000 in
theorem b_L_k631 {G : XG} {S : XS} {k : Nat × Nat} {I : XI} {v3 : Int} {Q : Option Value → XS → XI → Prop} (hS : xSh S) (hk : k.1 ≤ 73020 ∧ k.2 ≤ 8883190) (h : (inb ((v3) + (1)) G.2.2.2.2.2.2.1 ∧ (inb ((v3) + (2)) G.2.2.2.2.2.2.1 ∧ (inb ((v3) + (3)) G.2.2.2.2.2.2.1 ∧ (inb ((v3) + (4)) G.2.2.2.2.2.2.1 ∧ (inb ((v3) + (5)) G.2.2.2.2.2.2.1 ∧ H_book G S I (G.2.2.2.2.2.2.2 (ix ((v3) + (1)))) (G.2.2.2.2.2.2.2 (ix ((v3) + (2)))) (G.2.2.2.2.2.2.2 (ix ((v3) + (3)))) (G.2.2.2.2.2.2.2 (ix ((v3) + (4)))) (G.2.2.2.2.2.2.2 (ix ((v3) + (5)))) (fun r70 I69 => (inb ((v3) + (1)) G.2.2.2.2.2.2.1 ∧ (inb ((v3) + (2)) G.2.2.2.2.2.2.1 ∧ (inb ((v3) + (3)) G.2.2.2.2.2.2.1 ∧ (inb ((v3) + (4)) G.2.2.2.2.2.2.1 ∧ (inb ((v3) + (5)) G.2.2.2.2.2.2.1 ∧ R_book G S I69 (G.2.2.2.2.2.2.2 (ix ((v3) + (1)))) (G.2.2.2.2.2.2.2 (ix ((v3) + (2)))) (G.2.2.2.2.2.2.2 (ix ((v3) + (3)))) (G.2.2.2.2.2.2.2 (ix ((v3) + (4)))) (G.2.2.2.2.2.2.2 (ix ((v3) + (5)))) (fun r72 I71 => ((w32 (r70) = w32 (r72) → L_k1582 G S k I71 (v3) Q) ∧ (¬ (w32 (r70) = w32 (r72)) → Q (some (vi 0)) S I71))))))))))))))) : L_k631 G S k I v3 Q := by
  unfold L_k631
  refine x_aload_n (pc := 631) dL_law_631 rfl rfl ?_
  refine x_aload_n (pc := 632) dL_law_632 rfl rfl ?_
  refine x_iload_n (pc := 633) dL_law_633 rfl rfl ?_
  refine x_iconst (pc := 634) dL_law_634 ?_
  refine x_iadd (pc := 635) dL_law_635 ?_
  refine x_scr (pc := 636) dL_law_636 h.1 ?_
  have h := h.2
  refine x_aload_n (pc := 637) dL_law_637 rfl rfl ?_
  refine x_iload_n (pc := 638) dL_law_638 rfl rfl ?_
  refine x_iconst (pc := 639) dL_law_639 ?_
  refine x_iadd (pc := 640) dL_law_640 ?_
  refine x_scr (pc := 641) dL_law_641 h.1 ?_
  have h := h.2
  refine x_aload_n (pc := 642) dL_law_642 rfl rfl ?_
  refine x_iload_n (pc := 643) dL_law_643 rfl rfl ?_
  refine x_iconst (pc := 644) dL_law_644 ?_
  refine x_iadd (pc := 645) dL_law_645 ?_
  refine x_scr (pc := 646) dL_law_646 h.1 ?_
  have h := h.2
  refine x_aload_n (pc := 647) dL_law_647 rfl rfl ?_
  refine x_iload_n (pc := 648) dL_law_648 rfl rfl ?_
  refine x_iconst (pc := 649) dL_law_649 ?_
  refine x_iadd (pc := 650) dL_law_650 ?_
  refine x_scr (pc := 651) dL_law_651 h.1 ?_
  have h := h.2
  refine x_aload_n (pc := 652) dL_law_652 rfl rfl ?_
  refine x_iload_n (pc := 653) dL_law_653 rfl rfl ?_
  refine x_iconst (pc := 654) dL_law_654 ?_
  refine x_iadd (pc := 655) dL_law_655 ?_
  refine x_scr (pc := 656) dL_law_656 h.1 ?_
  have h := h.2
  refine y_Vi (pc := 657) (i := c_obj) (As := [vi (G.2.2.2.2.2.2.2 (ix ((v3) + (1)))), vi (G.2.2.2.2.2.2.2 (ix ((v3) + (2)))), vi (G.2.2.2.2.2.2.2 (ix ((v3) + (3)))), vi (G.2.2.2.2.2.2.2 (ix ((v3) + (4)))), vi (G.2.2.2.2.2.2.2 (ix ((v3) + (5))))]) (rest := []) ok_X10_book ml_L_64 dL_law_657 (sN_c_obj hS) (sT_c_obj hS) (by decide) rfl rfl rfl ⟨rfl, rfl⟩ ⟨by decide, by decide⟩ hk (Nat.le_of_ble_eq_true rfl) rfl h (fun r70 I69 h => ?_)
  refine x_aload_n (pc := 660) dL_law_660 rfl rfl ?_
  refine x_aload_n (pc := 661) dL_law_661 rfl rfl ?_
  refine x_iload_n (pc := 662) dL_law_662 rfl rfl ?_
  refine x_iconst (pc := 663) dL_law_663 ?_
  refine x_iadd (pc := 664) dL_law_664 ?_
  refine x_scr (pc := 665) dL_law_665 h.1 ?_
  have h := h.2
  refine x_aload_n (pc := 666) dL_law_666 rfl rfl ?_
  refine x_iload_n (pc := 667) dL_law_667 rfl rfl ?_
  refine x_iconst (pc := 668) dL_law_668 ?_
  refine x_iadd (pc := 669) dL_law_669 ?_
  refine x_scr (pc := 670) dL_law_670 h.1 ?_
  have h := h.2
  refine x_aload_n (pc := 671) dL_law_671 rfl rfl ?_
  refine x_iload_n (pc := 672) dL_law_672 rfl rfl ?_
  refine x_iconst (pc := 673) dL_law_673 ?_
  refine x_iadd (pc := 674) dL_law_674 ?_
  refine x_scr (pc := 675) dL_law_675 h.1 ?_
  have h := h.2
  refine x_aload_n (pc := 676) dL_law_676 rfl rfl ?_
  refine x_iload_n (pc := 677) dL_law_677 rfl rfl ?_
  refine x_iconst (pc := 678) dL_law_678 ?_
  refine x_iadd (pc := 679) dL_law_679 ?_
  refine x_scr (pc := 680) dL_law_680 h.1 ?_
  have h := h.2
  refine x_aload_n (pc := 681) dL_law_681 rfl rfl ?_
  refine x_iload_n (pc := 682) dL_law_682 rfl rfl ?_
  refine x_iconst (pc := 683) dL_law_683 ?_
  refine x_iadd (pc := 684) dL_law_684 ?_
  refine x_scr (pc := 685) dL_law_685 h.1 ?_
  have h := h.2
  refine y_Vi (pc := 686) (i := r_obj) (As := [vi (G.2.2.2.2.2.2.2 (ix ((v3) + (1)))), vi (G.2.2.2.2.2.2.2 (ix ((v3) + (2)))), vi (G.2.2.2.2.2.2.2 (ix ((v3) + (3)))), vi (G.2.2.2.2.2.2.2 (ix ((v3) + (4)))), vi (G.2.2.2.2.2.2.2 (ix ((v3) + (5))))]) (rest := [vi (r70)]) ok_X11_book ml_L_68 dL_law_686 (sN_r_obj hS) (sT_r_obj hS) (by decide) rfl rfl rfl ⟨rfl, rfl⟩ ⟨by decide, by decide⟩ hk (Nat.le_of_ble_eq_true rfl) rfl h (fun r72 I71 h => ?_)
  refine x_icmp_eq (pc := 689) (t := 1582) dL_law_689 (by decide) (fun e => ?_) (fun e => ?_)
  · have h := h.1 e
    exact h
  · have h := h.2 e
    refine x_iconst (pc := 692) dL_law_692 ?_
    exact x_zret (pc := 693) dL_law_693 rfl hk (Or.inl rfl) h
set_option maxHeartbeats 4000000 in
set_option maxRecDepth 100000 in
theorem b_L_k694 {G : XG} {S : XS} {k : Nat × Nat} {I : XI} {v3 : Int} {Q : Option Value → XS → XI → Prop} (hS : xSh S) (hk : k.1 ≤ 73020 ∧ k.2 ≤ 8883190) (h : (inb ((v3) + (1)) G.2.2.2.2.2.2.1 ∧ (inb ((v3) + (2)) G.2.2.2.2.2.2.1 ∧ H_lend G S I (G.2.2.2.2.2.2.2 (ix ((v3) + (1)))) (G.2.2.2.2.2.2.2 (ix ((v3) + (2)))) (fun r74 I73 => (inb ((v3) + (1)) G.2.2.2.2.2.2.1 ∧ (inb ((v3) + (2)) G.2.2.2.2.2.2.1 ∧ R_lend G S I73 (G.2.2.2.2.2.2.2 (ix ((v3) + (1)))) (G.2.2.2.2.2.2.2 (ix ((v3) + (2)))) (fun r76 I75 => ((w32 (r74) = w32 (r76) → L_k1582 G S k I75 (v3) Q) ∧ (¬ (w32 (r74) = w32 (r76)) → Q (some (vi 0)) S I75))))))))) : L_k694 G S k I v3 Q := by
  unfold L_k694
  refine x_aload_n (pc := 694) dL_law_694 rfl rfl ?_
  refine x_aload_n (pc := 695) dL_law_695 rfl rfl ?_
  refine x_iload_n (pc := 696) dL_law_696 rfl rfl ?_
  refine x_iconst (pc := 697) dL_law_697 ?_
  refine x_iadd (pc := 698) dL_law_698 ?_
  refine x_scr (pc := 699) dL_law_699 h.1 ?_
  have h := h.2
  refine x_aload_n (pc := 700) dL_law_700 rfl rfl ?_
  refine x_iload_n (pc := 701) dL_law_701 rfl rfl ?_
  refine x_iconst (pc := 702) dL_law_702 ?_
  refine x_iadd (pc := 703) dL_law_703 ?_
  refine x_scr (pc := 704) dL_law_704 h.1 ?_
  have h := h.2
  refine y_Vi (pc := 705) (i := c_obj) (As := [vi (G.2.2.2.2.2.2.2 (ix ((v3) + (1)))), vi (G.2.2.2.2.2.2.2 (ix ((v3) + (2))))]) (rest := []) ok_X10_lend ml_L_69 dL_law_705 (sN_c_obj hS) (sT_c_obj hS) (by decide) rfl rfl rfl ⟨rfl, rfl⟩ ⟨by decide, by decide⟩ hk (Nat.le_of_ble_eq_true rfl) rfl h (fun r74 I73 h => ?_)
  refine x_aload_n (pc := 708) dL_law_708 rfl rfl ?_
  refine x_aload_n (pc := 709) dL_law_709 rfl rfl ?_
  refine x_iload_n (pc := 710) dL_law_710 rfl rfl ?_
  refine x_iconst (pc := 711) dL_law_711 ?_
  refine x_iadd (pc := 712) dL_law_712 ?_
  refine x_scr (pc := 713) dL_law_713 h.1 ?_
  have h := h.2
  refine x_aload_n (pc := 714) dL_law_714 rfl rfl ?_
  refine x_iload_n (pc := 715) dL_law_715 rfl rfl ?_
  refine x_iconst (pc := 716) dL_law_716 ?_
  refine x_iadd (pc := 717) dL_law_717 ?_
  refine x_scr (pc := 718) dL_law_718 h.1 ?_
  have h := h.2
  refine y_Vi (pc := 719) (i := r_obj) (As := [vi (G.2.2.2.2.2.2.2 (ix ((v3) + (1)))), vi (G.2.2.2.2.2.2.2 (ix ((v3) + (2))))]) (rest := [vi (r74)]) ok_X11_lend ml_L_72 dL_law_719 (sN_r_obj hS) (sT_r_obj hS) (by decide) rfl rfl rfl ⟨rfl, rfl⟩ ⟨by decide, by decide⟩ hk (Nat.le_of_ble_eq_true rfl) rfl h (fun r76 I75 h => ?_)
  refine x_icmp_eq (pc := 722) (t := 1582) dL_law_722 (by decide) (fun e => ?_) (fun e => ?_)
  · have h := h.1 e
    exact h
  · have h := h.2 e
    refine x_iconst (pc := 725) dL_law_725 ?_
    exact x_zret (pc := 726) dL_law_726 rfl hk (Or.inl rfl) h
set_option maxHeartbeats 4000000 in
set_option maxRecDepth 100000 in
theorem b_L_k727 {G : XG} {S : XS} {k : Nat × Nat} {I : XI} {v3 : Int} {Q : Option Value → XS → XI → Prop} (hS : xSh S) (hk : k.1 ≤ 73020 ∧ k.2 ≤ 8883190) (h : (inb ((v3) + (1)) G.2.2.2.2.2.2.1 ∧ (inb ((v3) + (2)) G.2.2.2.2.2.2.1 ∧ (inb ((v3) + (3)) G.2.2.2.2.2.2.1 ∧ H_pass G S I (G.2.2.2.2.2.2.2 (ix ((v3) + (1)))) (G.2.2.2.2.2.2.2 (ix ((v3) + (2)))) (G.2.2.2.2.2.2.2 (ix ((v3) + (3)))) (fun r78 I77 => (inb ((v3) + (1)) G.2.2.2.2.2.2.1 ∧ (inb ((v3) + (2)) G.2.2.2.2.2.2.1 ∧ (inb ((v3) + (3)) G.2.2.2.2.2.2.1 ∧ R_pass G S I77 (G.2.2.2.2.2.2.2 (ix ((v3) + (1)))) (G.2.2.2.2.2.2.2 (ix ((v3) + (2)))) (G.2.2.2.2.2.2.2 (ix ((v3) + (3)))) (fun r80 I79 => ((w32 (r78) = w32 (r80) → L_k1582 G S k I79 (v3) Q) ∧ (¬ (w32 (r78) = w32 (r80)) → Q (some (vi 0)) S I79))))))))))) : L_k727 G S k I v3 Q := by
  unfold L_k727
  refine x_aload_n (pc := 727) dL_law_727 rfl rfl ?_
  refine x_aload_n (pc := 728) dL_law_728 rfl rfl ?_
  refine x_iload_n (pc := 729) dL_law_729 rfl rfl ?_
  refine x_iconst (pc := 730) dL_law_730 ?_
  refine x_iadd (pc := 731) dL_law_731 ?_
  refine x_scr (pc := 732) dL_law_732 h.1 ?_
  have h := h.2
  refine x_aload_n (pc := 733) dL_law_733 rfl rfl ?_
  refine x_iload_n (pc := 734) dL_law_734 rfl rfl ?_
  refine x_iconst (pc := 735) dL_law_735 ?_
  refine x_iadd (pc := 736) dL_law_736 ?_
  refine x_scr (pc := 737) dL_law_737 h.1 ?_
  have h := h.2
  refine x_aload_n (pc := 738) dL_law_738 rfl rfl ?_
  refine x_iload_n (pc := 739) dL_law_739 rfl rfl ?_
  refine x_iconst (pc := 740) dL_law_740 ?_
  refine x_iadd (pc := 741) dL_law_741 ?_
  refine x_scr (pc := 742) dL_law_742 h.1 ?_
  have h := h.2
  refine y_Vi (pc := 743) (i := c_obj) (As := [vi (G.2.2.2.2.2.2.2 (ix ((v3) + (1)))), vi (G.2.2.2.2.2.2.2 (ix ((v3) + (2)))), vi (G.2.2.2.2.2.2.2 (ix ((v3) + (3))))]) (rest := []) ok_X10_pass ml_L_73 dL_law_743 (sN_c_obj hS) (sT_c_obj hS) (by decide) rfl rfl rfl ⟨rfl, rfl⟩ ⟨by decide, by decide⟩ hk (Nat.le_of_ble_eq_true rfl) rfl h (fun r78 I77 h => ?_)
  refine x_aload_n (pc := 746) dL_law_746 rfl rfl ?_
  refine x_aload_n (pc := 747) dL_law_747 rfl rfl ?_
  refine x_iload_n (pc := 748) dL_law_748 rfl rfl ?_
  refine x_iconst (pc := 749) dL_law_749 ?_
  refine x_iadd (pc := 750) dL_law_750 ?_
  refine x_scr (pc := 751) dL_law_751 h.1 ?_
  have h := h.2
  refine x_aload_n (pc := 752) dL_law_752 rfl rfl ?_
  refine x_iload_n (pc := 753) dL_law_753 rfl rfl ?_
  refine x_iconst (pc := 754) dL_law_754 ?_
  refine x_iadd (pc := 755) dL_law_755 ?_
  refine x_scr (pc := 756) dL_law_756 h.1 ?_
  have h := h.2
  refine x_aload_n (pc := 757) dL_law_757 rfl rfl ?_
  refine x_iload_n (pc := 758) dL_law_758 rfl rfl ?_
  refine x_iconst (pc := 759) dL_law_759 ?_
  refine x_iadd (pc := 760) dL_law_760 ?_
  refine x_scr (pc := 761) dL_law_761 h.1 ?_
  have h := h.2
  refine y_Vi (pc := 762) (i := r_obj) (As := [vi (G.2.2.2.2.2.2.2 (ix ((v3) + (1)))), vi (G.2.2.2.2.2.2.2 (ix ((v3) + (2)))), vi (G.2.2.2.2.2.2.2 (ix ((v3) + (3))))]) (rest := [vi (r78)]) ok_X11_pass ml_L_76 dL_law_762 (sN_r_obj hS) (sT_r_obj hS) (by decide) rfl rfl rfl ⟨rfl, rfl⟩ ⟨by decide, by decide⟩ hk (Nat.le_of_ble_eq_true rfl) rfl h (fun r80 I79 h => ?_)
  refine x_icmp_eq (pc := 765) (t := 1582) dL_law_765 (by decide) (fun e => ?_) (fun e => ?_)
  · have h := h.1 e
    exact h
  · have h := h.2 e
    refine x_iconst (pc := 768) dL_law_768 ?_
    exact x_zret (pc := 769) dL_law_769 rfl hk (Or.inl rfl) h
set_option maxHeartbeats 4000000 in
set_option maxRecDepth 100000 in
theorem b_L_k770 {G : XG} {S : XS} {k : Nat × Nat} {I : XI} {v3 : Int} {Q : Option Value → XS → XI → Prop} (hS : xSh S) (hk : k.1 ≤ 73020 ∧ k.2 ≤ 8883190) (h : (inb ((v3) + (1)) G.2.2.2.2.2.2.1 ∧ H_back G S I (G.2.2.2.2.2.2.2 (ix ((v3) + (1)))) (fun r82 I81 => (inb ((v3) + (1)) G.2.2.2.2.2.2.1 ∧ R_back G S I81 (G.2.2.2.2.2.2.2 (ix ((v3) + (1)))) (fun r84 I83 => ((w32 (r82) = w32 (r84) → L_k1582 G S k I83 (v3) Q) ∧ (¬ (w32 (r82) = w32 (r84)) → Q (some (vi 0)) S I83))))))) : L_k770 G S k I v3 Q := by
  unfold L_k770
  refine x_aload_n (pc := 770) dL_law_770 rfl rfl ?_
  refine x_aload_n (pc := 771) dL_law_771 rfl rfl ?_
  refine x_iload_n (pc := 772) dL_law_772 rfl rfl ?_
  refine x_iconst (pc := 773) dL_law_773 ?_
  refine x_iadd (pc := 774) dL_law_774 ?_
  refine x_scr (pc := 775) dL_law_775 h.1 ?_
  have h := h.2
  refine y_Vi (pc := 776) (i := c_obj) (As := [vi (G.2.2.2.2.2.2.2 (ix ((v3) + (1))))]) (rest := []) ok_X10_back ml_L_77 dL_law_776 (sN_c_obj hS) (sT_c_obj hS) (by decide) rfl rfl rfl ⟨rfl, rfl⟩ ⟨by decide, by decide⟩ hk (Nat.le_of_ble_eq_true rfl) rfl h (fun r82 I81 h => ?_)
  refine x_aload_n (pc := 779) dL_law_779 rfl rfl ?_
  refine x_aload_n (pc := 780) dL_law_780 rfl rfl ?_
  refine x_iload_n (pc := 781) dL_law_781 rfl rfl ?_
  refine x_iconst (pc := 782) dL_law_782 ?_
  refine x_iadd (pc := 783) dL_law_783 ?_
  refine x_scr (pc := 784) dL_law_784 h.1 ?_
  have h := h.2
  refine y_Vi (pc := 785) (i := r_obj) (As := [vi (G.2.2.2.2.2.2.2 (ix ((v3) + (1))))]) (rest := [vi (r82)]) ok_X11_back ml_L_81 dL_law_785 (sN_r_obj hS) (sT_r_obj hS) (by decide) rfl rfl rfl ⟨rfl, rfl⟩ ⟨by decide, by decide⟩ hk (Nat.le_of_ble_eq_true rfl) rfl h (fun r84 I83 h => ?_)
  refine x_icmp_eq (pc := 788) (t := 1582) dL_law_788 (by decide) (fun e => ?_) (fun e => ?_)
  · have h := h.1 e
    exact h
  · have h := h.2 e
    refine x_iconst (pc := 791) dL_law_791 ?_
    exact x_zret (pc := 792) dL_law_792 rfl hk (Or.inl rfl) h
set_option maxHeartbeats 4000000 in
set_option maxRecDepth 100000 in
theorem b_L_k793 {G : XG} {S : XS} {k : Nat × Nat} {I : XI} {v3 : Int} {Q : Option Value → XS → XI → Prop} (hS : xSh S) (hk : k.1 ≤ 73020 ∧ k.2 ≤ 8883190) (h : (inb ((v3) + (1)) G.2.2.2.2.2.2.1 ∧ (inb ((v3) + (2)) G.2.2.2.2.2.2.1 ∧ (inb ((v3) + (3)) G.2.2.2.2.2.2.1 ∧ H_tear G S I (G.2.2.2.2.2.2.2 (ix ((v3) + (1)))) (G.2.2.2.2.2.2.2 (ix ((v3) + (2)))) (G.2.2.2.2.2.2.2 (ix ((v3) + (3)))) (fun r86 I85 => (inb ((v3) + (1)) G.2.2.2.2.2.2.1 ∧ (inb ((v3) + (2)) G.2.2.2.2.2.2.1 ∧ (inb ((v3) + (3)) G.2.2.2.2.2.2.1 ∧ R_tear G S I85 (G.2.2.2.2.2.2.2 (ix ((v3) + (1)))) (G.2.2.2.2.2.2.2 (ix ((v3) + (2)))) (G.2.2.2.2.2.2.2 (ix ((v3) + (3)))) (fun r88 I87 => ((w32 (r86) = w32 (r88) → L_k1582 G S k I87 (v3) Q) ∧ (¬ (w32 (r86) = w32 (r88)) → Q (some (vi 0)) S I87))))))))))) : L_k793 G S k I v3 Q := by
  unfold L_k793
  refine x_aload_n (pc := 793) dL_law_793 rfl rfl ?_
  refine x_aload_n (pc := 794) dL_law_794 rfl rfl ?_
  refine x_iload_n (pc := 795) dL_law_795 rfl rfl ?_
  refine x_iconst (pc := 796) dL_law_796 ?_
  refine x_iadd (pc := 797) dL_law_797 ?_
  refine x_scr (pc := 798) dL_law_798 h.1 ?_
  have h := h.2
  refine x_aload_n (pc := 799) dL_law_799 rfl rfl ?_
  refine x_iload_n (pc := 800) dL_law_800 rfl rfl ?_
  refine x_iconst (pc := 801) dL_law_801 ?_
  refine x_iadd (pc := 802) dL_law_802 ?_
  refine x_scr (pc := 803) dL_law_803 h.1 ?_
  have h := h.2
  refine x_aload_n (pc := 804) dL_law_804 rfl rfl ?_
  refine x_iload_n (pc := 805) dL_law_805 rfl rfl ?_
  refine x_iconst (pc := 806) dL_law_806 ?_
  refine x_iadd (pc := 807) dL_law_807 ?_
  refine x_scr (pc := 808) dL_law_808 h.1 ?_
  have h := h.2
  refine y_Vi (pc := 809) (i := c_obj) (As := [vi (G.2.2.2.2.2.2.2 (ix ((v3) + (1)))), vi (G.2.2.2.2.2.2.2 (ix ((v3) + (2)))), vi (G.2.2.2.2.2.2.2 (ix ((v3) + (3))))]) (rest := []) ok_X10_tear ml_L_82 dL_law_809 (sN_c_obj hS) (sT_c_obj hS) (by decide) rfl rfl rfl ⟨rfl, rfl⟩ ⟨by decide, by decide⟩ hk (Nat.le_of_ble_eq_true rfl) rfl h (fun r86 I85 h => ?_)
  refine x_aload_n (pc := 812) dL_law_812 rfl rfl ?_
  refine x_aload_n (pc := 813) dL_law_813 rfl rfl ?_
  refine x_iload_n (pc := 814) dL_law_814 rfl rfl ?_
  refine x_iconst (pc := 815) dL_law_815 ?_
  refine x_iadd (pc := 816) dL_law_816 ?_
  refine x_scr (pc := 817) dL_law_817 h.1 ?_
  have h := h.2
  refine x_aload_n (pc := 818) dL_law_818 rfl rfl ?_
  refine x_iload_n (pc := 819) dL_law_819 rfl rfl ?_
  refine x_iconst (pc := 820) dL_law_820 ?_
  refine x_iadd (pc := 821) dL_law_821 ?_
  refine x_scr (pc := 822) dL_law_822 h.1 ?_
  have h := h.2
  refine x_aload_n (pc := 823) dL_law_823 rfl rfl ?_
  refine x_iload_n (pc := 824) dL_law_824 rfl rfl ?_
  refine x_iconst (pc := 825) dL_law_825 ?_
  refine x_iadd (pc := 826) dL_law_826 ?_
  refine x_scr (pc := 827) dL_law_827 h.1 ?_
  have h := h.2
  refine y_Vi (pc := 828) (i := r_obj) (As := [vi (G.2.2.2.2.2.2.2 (ix ((v3) + (1)))), vi (G.2.2.2.2.2.2.2 (ix ((v3) + (2)))), vi (G.2.2.2.2.2.2.2 (ix ((v3) + (3))))]) (rest := [vi (r86)]) ok_X11_tear ml_L_85 dL_law_828 (sN_r_obj hS) (sT_r_obj hS) (by decide) rfl rfl rfl ⟨rfl, rfl⟩ ⟨by decide, by decide⟩ hk (Nat.le_of_ble_eq_true rfl) rfl h (fun r88 I87 h => ?_)
  refine x_icmp_eq (pc := 831) (t := 1582) dL_law_831 (by decide) (fun e => ?_) (fun e => ?_)
  · have h := h.1 e
    exact h
  · have h := h.2 e
    refine x_iconst (pc := 834) dL_law_834 ?_
    exact x_zret (pc := 835) dL_law_835 rfl hk (Or.inl rfl) h
set_option maxHeartbeats 4000000 in
set_option maxRecDepth 100000 in
theorem b_L_k836 {G : XG} {S : XS} {k : Nat × Nat} {I : XI} {v3 : Int} {Q : Option Value → XS → XI → Prop} (hS : xSh S) (hk : k.1 ≤ 73020 ∧ k.2 ≤ 8883190) (h : (inb ((v3) + (1)) G.2.2.2.2.2.2.1 ∧ (inb ((v3) + (2)) G.2.2.2.2.2.2.1 ∧ H_act G S I (G.2.2.2.2.2.2.2 (ix ((v3) + (1)))) (G.2.2.2.2.2.2.2 (ix ((v3) + (2)))) (fun r90 I89 => (inb ((v3) + (1)) G.2.2.2.2.2.2.1 ∧ (inb ((v3) + (2)) G.2.2.2.2.2.2.1 ∧ R_act G S I89 (G.2.2.2.2.2.2.2 (ix ((v3) + (1)))) (G.2.2.2.2.2.2.2 (ix ((v3) + (2)))) (fun r92 I91 => ((w32 (r90) = w32 (r92) → L_k1582 G S k I91 (v3) Q) ∧ (¬ (w32 (r90) = w32 (r92)) → Q (some (vi 0)) S I91))))))))) : L_k836 G S k I v3 Q := by
  unfold L_k836
  refine x_aload_n (pc := 836) dL_law_836 rfl rfl ?_
  refine x_aload_n (pc := 837) dL_law_837 rfl rfl ?_
  refine x_iload_n (pc := 838) dL_law_838 rfl rfl ?_
  refine x_iconst (pc := 839) dL_law_839 ?_
  refine x_iadd (pc := 840) dL_law_840 ?_
  refine x_scr (pc := 841) dL_law_841 h.1 ?_
  have h := h.2
  refine x_aload_n (pc := 842) dL_law_842 rfl rfl ?_
  refine x_iload_n (pc := 843) dL_law_843 rfl rfl ?_
  refine x_iconst (pc := 844) dL_law_844 ?_
  refine x_iadd (pc := 845) dL_law_845 ?_
  refine x_scr (pc := 846) dL_law_846 h.1 ?_
  have h := h.2
  refine y_Vi (pc := 847) (i := c_obj) (As := [vi (G.2.2.2.2.2.2.2 (ix ((v3) + (1)))), vi (G.2.2.2.2.2.2.2 (ix ((v3) + (2))))]) (rest := []) ok_X10_act ml_L_86 dL_law_847 (sN_c_obj hS) (sT_c_obj hS) (by decide) rfl rfl rfl ⟨rfl, rfl⟩ ⟨by decide, by decide⟩ hk (Nat.le_of_ble_eq_true rfl) rfl h (fun r90 I89 h => ?_)
  refine x_aload_n (pc := 850) dL_law_850 rfl rfl ?_
  refine x_aload_n (pc := 851) dL_law_851 rfl rfl ?_
  refine x_iload_n (pc := 852) dL_law_852 rfl rfl ?_
  refine x_iconst (pc := 853) dL_law_853 ?_
  refine x_iadd (pc := 854) dL_law_854 ?_
  refine x_scr (pc := 855) dL_law_855 h.1 ?_
  have h := h.2
  refine x_aload_n (pc := 856) dL_law_856 rfl rfl ?_
  refine x_iload_n (pc := 857) dL_law_857 rfl rfl ?_
  refine x_iconst (pc := 858) dL_law_858 ?_
  refine x_iadd (pc := 859) dL_law_859 ?_
  refine x_scr (pc := 860) dL_law_860 h.1 ?_
  have h := h.2
  refine y_Vi (pc := 861) (i := r_obj) (As := [vi (G.2.2.2.2.2.2.2 (ix ((v3) + (1)))), vi (G.2.2.2.2.2.2.2 (ix ((v3) + (2))))]) (rest := [vi (r90)]) ok_X11_act ml_L_89 dL_law_861 (sN_r_obj hS) (sT_r_obj hS) (by decide) rfl rfl rfl ⟨rfl, rfl⟩ ⟨by decide, by decide⟩ hk (Nat.le_of_ble_eq_true rfl) rfl h (fun r92 I91 h => ?_)
  refine x_icmp_eq (pc := 864) (t := 1582) dL_law_864 (by decide) (fun e => ?_) (fun e => ?_)
  · have h := h.1 e
    exact h
  · have h := h.2 e
    refine x_iconst (pc := 867) dL_law_867 ?_
    exact x_zret (pc := 868) dL_law_868 rfl hk (Or.inl rfl) h
set_option maxHeartbeats 4000000 in
set_option maxRecDepth 100000 in
theorem b_L_k869 {G : XG} {S : XS} {k : Nat × Nat} {I : XI} {v3 : Int} {Q : Option Value → XS → XI → Prop} (hS : xSh S) (hk : k.1 ≤ 73020 ∧ k.2 ≤ 8883190) (h : (inb ((v3) + (1)) G.2.2.2.2.2.2.1 ∧ (inb ((v3) + (2)) G.2.2.2.2.2.2.1 ∧ H_who G S I (G.2.2.2.2.2.2.2 (ix ((v3) + (1)))) (G.2.2.2.2.2.2.2 (ix ((v3) + (2)))) (fun r94 I93 => (inb ((v3) + (1)) G.2.2.2.2.2.2.1 ∧ (inb ((v3) + (2)) G.2.2.2.2.2.2.1 ∧ R_who G S I93 (G.2.2.2.2.2.2.2 (ix ((v3) + (1)))) (G.2.2.2.2.2.2.2 (ix ((v3) + (2)))) (fun r96 I95 => ((w32 (r94) = w32 (r96) → L_k1582 G S k I95 (v3) Q) ∧ (¬ (w32 (r94) = w32 (r96)) → Q (some (vi 0)) S I95))))))))) : L_k869 G S k I v3 Q := by
  unfold L_k869
  refine x_aload_n (pc := 869) dL_law_869 rfl rfl ?_
  refine x_aload_n (pc := 870) dL_law_870 rfl rfl ?_
  refine x_iload_n (pc := 871) dL_law_871 rfl rfl ?_
  refine x_iconst (pc := 872) dL_law_872 ?_
  refine x_iadd (pc := 873) dL_law_873 ?_
  refine x_scr (pc := 874) dL_law_874 h.1 ?_
  have h := h.2
  refine x_aload_n (pc := 875) dL_law_875 rfl rfl ?_
  refine x_iload_n (pc := 876) dL_law_876 rfl rfl ?_
  refine x_iconst (pc := 877) dL_law_877 ?_
  refine x_iadd (pc := 878) dL_law_878 ?_
  refine x_scr (pc := 879) dL_law_879 h.1 ?_
  have h := h.2
  refine y_Vi (pc := 880) (i := c_obj) (As := [vi (G.2.2.2.2.2.2.2 (ix ((v3) + (1)))), vi (G.2.2.2.2.2.2.2 (ix ((v3) + (2))))]) (rest := []) ok_X10_who ml_L_90 dL_law_880 (sN_c_obj hS) (sT_c_obj hS) (by decide) rfl rfl rfl ⟨rfl, rfl⟩ ⟨by decide, by decide⟩ hk (Nat.le_of_ble_eq_true rfl) rfl h (fun r94 I93 h => ?_)
  refine x_aload_n (pc := 883) dL_law_883 rfl rfl ?_
  refine x_aload_n (pc := 884) dL_law_884 rfl rfl ?_
  refine x_iload_n (pc := 885) dL_law_885 rfl rfl ?_
  refine x_iconst (pc := 886) dL_law_886 ?_
  refine x_iadd (pc := 887) dL_law_887 ?_
  refine x_scr (pc := 888) dL_law_888 h.1 ?_
  have h := h.2
  refine x_aload_n (pc := 889) dL_law_889 rfl rfl ?_
  refine x_iload_n (pc := 890) dL_law_890 rfl rfl ?_
  refine x_iconst (pc := 891) dL_law_891 ?_
  refine x_iadd (pc := 892) dL_law_892 ?_
  refine x_scr (pc := 893) dL_law_893 h.1 ?_
  have h := h.2
  refine y_Vi (pc := 894) (i := r_obj) (As := [vi (G.2.2.2.2.2.2.2 (ix ((v3) + (1)))), vi (G.2.2.2.2.2.2.2 (ix ((v3) + (2))))]) (rest := [vi (r94)]) ok_X11_who ml_L_93 dL_law_894 (sN_r_obj hS) (sT_r_obj hS) (by decide) rfl rfl rfl ⟨rfl, rfl⟩ ⟨by decide, by decide⟩ hk (Nat.le_of_ble_eq_true rfl) rfl h (fun r96 I95 h => ?_)
  refine x_icmp_eq (pc := 897) (t := 1582) dL_law_897 (by decide) (fun e => ?_) (fun e => ?_)
  · have h := h.1 e
    exact h
  · have h := h.2 e
    refine x_iconst (pc := 900) dL_law_900 ?_
    exact x_zret (pc := 901) dL_law_901 rfl hk (Or.inl rfl) h
set_option maxHeartbeats 4000000 in
set_option maxRecDepth 100000 in
theorem b_L_k902 {G : XG} {S : XS} {k : Nat × Nat} {I : XI} {v3 : Int} {Q : Option Value → XS → XI → Prop} (hS : xSh S) (hk : k.1 ≤ 73020 ∧ k.2 ≤ 8883190) (h : (inb ((v3) + (1)) G.2.2.2.2.2.2.1 ∧ (inb ((v3) + (2)) G.2.2.2.2.2.2.1 ∧ H_had G S I (G.2.2.2.2.2.2.2 (ix ((v3) + (1)))) (G.2.2.2.2.2.2.2 (ix ((v3) + (2)))) (fun r98 I97 => (inb ((v3) + (1)) G.2.2.2.2.2.2.1 ∧ (inb ((v3) + (2)) G.2.2.2.2.2.2.1 ∧ R_had G S I97 (G.2.2.2.2.2.2.2 (ix ((v3) + (1)))) (G.2.2.2.2.2.2.2 (ix ((v3) + (2)))) (fun r100 I99 => ((w32 (r98) = w32 (r100) → L_k1582 G S k I99 (v3) Q) ∧ (¬ (w32 (r98) = w32 (r100)) → Q (some (vi 0)) S I99))))))))) : L_k902 G S k I v3 Q := by
  unfold L_k902
  refine x_aload_n (pc := 902) dL_law_902 rfl rfl ?_
  refine x_aload_n (pc := 903) dL_law_903 rfl rfl ?_
  refine x_iload_n (pc := 904) dL_law_904 rfl rfl ?_
  refine x_iconst (pc := 905) dL_law_905 ?_
  refine x_iadd (pc := 906) dL_law_906 ?_
  refine x_scr (pc := 907) dL_law_907 h.1 ?_
  have h := h.2
  refine x_aload_n (pc := 908) dL_law_908 rfl rfl ?_
  refine x_iload_n (pc := 909) dL_law_909 rfl rfl ?_
  refine x_iconst (pc := 910) dL_law_910 ?_
  refine x_iadd (pc := 911) dL_law_911 ?_
  refine x_scr (pc := 912) dL_law_912 h.1 ?_
  have h := h.2
  refine y_Vi (pc := 913) (i := c_obj) (As := [vi (G.2.2.2.2.2.2.2 (ix ((v3) + (1)))), vi (G.2.2.2.2.2.2.2 (ix ((v3) + (2))))]) (rest := []) ok_X10_had ml_L_94 dL_law_913 (sN_c_obj hS) (sT_c_obj hS) (by decide) rfl rfl rfl ⟨rfl, rfl⟩ ⟨by decide, by decide⟩ hk (Nat.le_of_ble_eq_true rfl) rfl h (fun r98 I97 h => ?_)
  refine x_aload_n (pc := 916) dL_law_916 rfl rfl ?_
  refine x_aload_n (pc := 917) dL_law_917 rfl rfl ?_
  refine x_iload_n (pc := 918) dL_law_918 rfl rfl ?_
  refine x_iconst (pc := 919) dL_law_919 ?_
  refine x_iadd (pc := 920) dL_law_920 ?_
  refine x_scr (pc := 921) dL_law_921 h.1 ?_
  have h := h.2
  refine x_aload_n (pc := 922) dL_law_922 rfl rfl ?_
  refine x_iload_n (pc := 923) dL_law_923 rfl rfl ?_
  refine x_iconst (pc := 924) dL_law_924 ?_
  refine x_iadd (pc := 925) dL_law_925 ?_
  refine x_scr (pc := 926) dL_law_926 h.1 ?_
  have h := h.2
  refine y_Vi (pc := 927) (i := r_obj) (As := [vi (G.2.2.2.2.2.2.2 (ix ((v3) + (1)))), vi (G.2.2.2.2.2.2.2 (ix ((v3) + (2))))]) (rest := [vi (r98)]) ok_X11_had ml_L_97 dL_law_927 (sN_r_obj hS) (sT_r_obj hS) (by decide) rfl rfl rfl ⟨rfl, rfl⟩ ⟨by decide, by decide⟩ hk (Nat.le_of_ble_eq_true rfl) rfl h (fun r100 I99 h => ?_)
  refine x_icmp_eq (pc := 930) (t := 1582) dL_law_930 (by decide) (fun e => ?_) (fun e => ?_)
  · have h := h.1 e
    exact h
  · have h := h.2 e
    refine x_iconst (pc := 933) dL_law_933 ?_
    exact x_zret (pc := 934) dL_law_934 rfl hk (Or.inl rfl) h
set_option maxHeartbeats 4000000 in
set_option maxRecDepth 100000 in
theorem b_L_k935 {G : XG} {S : XS} {k : Nat × Nat} {I : XI} {v3 : Int} {Q : Option Value → XS → XI → Prop} (hS : xSh S) (hk : k.1 ≤ 73020 ∧ k.2 ≤ 8883190) (h : (inb ((v3) + (1)) G.2.2.2.2.2.2.1 ∧ (inb ((v3) + (2)) G.2.2.2.2.2.2.1 ∧ H_due G S I (G.2.2.2.2.2.2.2 (ix ((v3) + (1)))) (G.2.2.2.2.2.2.2 (ix ((v3) + (2)))) (fun r102 I101 => (inb ((v3) + (1)) G.2.2.2.2.2.2.1 ∧ (inb ((v3) + (2)) G.2.2.2.2.2.2.1 ∧ R_due G S I101 (G.2.2.2.2.2.2.2 (ix ((v3) + (1)))) (G.2.2.2.2.2.2.2 (ix ((v3) + (2)))) (fun r104 I103 => ((w32 (r102) = w32 (r104) → L_k1582 G S k I103 (v3) Q) ∧ (¬ (w32 (r102) = w32 (r104)) → Q (some (vi 0)) S I103))))))))) : L_k935 G S k I v3 Q := by
  unfold L_k935
  refine x_aload_n (pc := 935) dL_law_935 rfl rfl ?_
  refine x_aload_n (pc := 936) dL_law_936 rfl rfl ?_
  refine x_iload_n (pc := 937) dL_law_937 rfl rfl ?_
  refine x_iconst (pc := 938) dL_law_938 ?_
  refine x_iadd (pc := 939) dL_law_939 ?_
  refine x_scr (pc := 940) dL_law_940 h.1 ?_
  have h := h.2
  refine x_aload_n (pc := 941) dL_law_941 rfl rfl ?_
  refine x_iload_n (pc := 942) dL_law_942 rfl rfl ?_
  refine x_iconst (pc := 943) dL_law_943 ?_
  refine x_iadd (pc := 944) dL_law_944 ?_
  refine x_scr (pc := 945) dL_law_945 h.1 ?_
  have h := h.2
  refine y_Vi (pc := 946) (i := c_obj) (As := [vi (G.2.2.2.2.2.2.2 (ix ((v3) + (1)))), vi (G.2.2.2.2.2.2.2 (ix ((v3) + (2))))]) (rest := []) ok_X10_due ml_L_98 dL_law_946 (sN_c_obj hS) (sT_c_obj hS) (by decide) rfl rfl rfl ⟨rfl, rfl⟩ ⟨by decide, by decide⟩ hk (Nat.le_of_ble_eq_true rfl) rfl h (fun r102 I101 h => ?_)
  refine x_aload_n (pc := 949) dL_law_949 rfl rfl ?_
  refine x_aload_n (pc := 950) dL_law_950 rfl rfl ?_
  refine x_iload_n (pc := 951) dL_law_951 rfl rfl ?_
  refine x_iconst (pc := 952) dL_law_952 ?_
  refine x_iadd (pc := 953) dL_law_953 ?_
  refine x_scr (pc := 954) dL_law_954 h.1 ?_
  have h := h.2
  refine x_aload_n (pc := 955) dL_law_955 rfl rfl ?_
  refine x_iload_n (pc := 956) dL_law_956 rfl rfl ?_
  refine x_iconst (pc := 957) dL_law_957 ?_
  refine x_iadd (pc := 958) dL_law_958 ?_
  refine x_scr (pc := 959) dL_law_959 h.1 ?_
  have h := h.2
  refine y_Vi (pc := 960) (i := r_obj) (As := [vi (G.2.2.2.2.2.2.2 (ix ((v3) + (1)))), vi (G.2.2.2.2.2.2.2 (ix ((v3) + (2))))]) (rest := [vi (r102)]) ok_X11_due ml_L_101 dL_law_960 (sN_r_obj hS) (sT_r_obj hS) (by decide) rfl rfl rfl ⟨rfl, rfl⟩ ⟨by decide, by decide⟩ hk (Nat.le_of_ble_eq_true rfl) rfl h (fun r104 I103 h => ?_)
  refine x_icmp_eq (pc := 963) (t := 1582) dL_law_963 (by decide) (fun e => ?_) (fun e => ?_)
  · have h := h.1 e
    exact h
  · have h := h.2 e
    refine x_iconst (pc := 966) dL_law_966 ?_
    exact x_zret (pc := 967) dL_law_967 rfl hk (Or.inl rfl) h
set_option maxHeartbeats 4000000 in
set_option maxRecDepth 100000 in
theorem b_L_k968 {G : XG} {S : XS} {k : Nat × Nat} {I : XI} {v3 : Int} {Q : Option Value → XS → XI → Prop} (hS : xSh S) (hk : k.1 ≤ 73020 ∧ k.2 ≤ 8883190) (h : (inb ((v3) + (1)) G.2.2.2.2.2.2.1 ∧ (inb ((v3) + (2)) G.2.2.2.2.2.2.1 ∧ (inb ((v3) + (3)) G.2.2.2.2.2.2.1 ∧ H_owes G S I (G.2.2.2.2.2.2.2 (ix ((v3) + (1)))) (G.2.2.2.2.2.2.2 (ix ((v3) + (2)))) (G.2.2.2.2.2.2.2 (ix ((v3) + (3)))) (fun r106 I105 => (inb ((v3) + (1)) G.2.2.2.2.2.2.1 ∧ (inb ((v3) + (2)) G.2.2.2.2.2.2.1 ∧ (inb ((v3) + (3)) G.2.2.2.2.2.2.1 ∧ R_owes G S I105 (G.2.2.2.2.2.2.2 (ix ((v3) + (1)))) (G.2.2.2.2.2.2.2 (ix ((v3) + (2)))) (G.2.2.2.2.2.2.2 (ix ((v3) + (3)))) (fun r108 I107 => ((w32 (r106) = w32 (r108) → L_k1582 G S k I107 (v3) Q) ∧ (¬ (w32 (r106) = w32 (r108)) → Q (some (vi 0)) S I107))))))))))) : L_k968 G S k I v3 Q := by
  unfold L_k968
  refine x_aload_n (pc := 968) dL_law_968 rfl rfl ?_
  refine x_aload_n (pc := 969) dL_law_969 rfl rfl ?_
  refine x_iload_n (pc := 970) dL_law_970 rfl rfl ?_
  refine x_iconst (pc := 971) dL_law_971 ?_
  refine x_iadd (pc := 972) dL_law_972 ?_
  refine x_scr (pc := 973) dL_law_973 h.1 ?_
  have h := h.2
  refine x_aload_n (pc := 974) dL_law_974 rfl rfl ?_
  refine x_iload_n (pc := 975) dL_law_975 rfl rfl ?_
  refine x_iconst (pc := 976) dL_law_976 ?_
  refine x_iadd (pc := 977) dL_law_977 ?_
  refine x_scr (pc := 978) dL_law_978 h.1 ?_
  have h := h.2
  refine x_aload_n (pc := 979) dL_law_979 rfl rfl ?_
  refine x_iload_n (pc := 980) dL_law_980 rfl rfl ?_
  refine x_iconst (pc := 981) dL_law_981 ?_
  refine x_iadd (pc := 982) dL_law_982 ?_
  refine x_scr (pc := 983) dL_law_983 h.1 ?_
  have h := h.2
  refine y_Vi (pc := 984) (i := c_obj) (As := [vi (G.2.2.2.2.2.2.2 (ix ((v3) + (1)))), vi (G.2.2.2.2.2.2.2 (ix ((v3) + (2)))), vi (G.2.2.2.2.2.2.2 (ix ((v3) + (3))))]) (rest := []) ok_X10_owes ml_L_102 dL_law_984 (sN_c_obj hS) (sT_c_obj hS) (by decide) rfl rfl rfl ⟨rfl, rfl⟩ ⟨by decide, by decide⟩ hk (Nat.le_of_ble_eq_true rfl) rfl h (fun r106 I105 h => ?_)
  refine x_aload_n (pc := 987) dL_law_987 rfl rfl ?_
  refine x_aload_n (pc := 988) dL_law_988 rfl rfl ?_
  refine x_iload_n (pc := 989) dL_law_989 rfl rfl ?_
  refine x_iconst (pc := 990) dL_law_990 ?_
  refine x_iadd (pc := 991) dL_law_991 ?_
  refine x_scr (pc := 992) dL_law_992 h.1 ?_
  have h := h.2
  refine x_aload_n (pc := 993) dL_law_993 rfl rfl ?_
  refine x_iload_n (pc := 994) dL_law_994 rfl rfl ?_
  refine x_iconst (pc := 995) dL_law_995 ?_
  refine x_iadd (pc := 996) dL_law_996 ?_
  refine x_scr (pc := 997) dL_law_997 h.1 ?_
  have h := h.2
  refine x_aload_n (pc := 998) dL_law_998 rfl rfl ?_
  refine x_iload_n (pc := 999) dL_law_999 rfl rfl ?_
  refine x_iconst (pc := 1000) dL_law_1000 ?_
  refine x_iadd (pc := 1001) dL_law_1001 ?_
  refine x_scr (pc := 1002) dL_law_1002 h.1 ?_
  have h := h.2
  refine y_Vi (pc := 1003) (i := r_obj) (As := [vi (G.2.2.2.2.2.2.2 (ix ((v3) + (1)))), vi (G.2.2.2.2.2.2.2 (ix ((v3) + (2)))), vi (G.2.2.2.2.2.2.2 (ix ((v3) + (3))))]) (rest := [vi (r106)]) ok_X11_owes ml_L_105 dL_law_1003 (sN_r_obj hS) (sT_r_obj hS) (by decide) rfl rfl rfl ⟨rfl, rfl⟩ ⟨by decide, by decide⟩ hk (Nat.le_of_ble_eq_true rfl) rfl h (fun r108 I107 h => ?_)
  refine x_icmp_eq (pc := 1006) (t := 1582) dL_law_1006 (by decide) (fun e => ?_) (fun e => ?_)
  · have h := h.1 e
    exact h
  · have h := h.2 e
    refine x_iconst (pc := 1009) dL_law_1009 ?_
    exact x_zret (pc := 1010) dL_law_1010 rfl hk (Or.inl rfl) h
set_option maxHeartbeats 4000000 in
set_option maxRecDepth 100000 in
theorem b_L_k1011 {G : XG} {S : XS} {k : Nat × Nat} {I : XI} {v3 : Int} {Q : Option Value → XS → XI → Prop} (hS : xSh S) (hk : k.1 ≤ 73020 ∧ k.2 ≤ 8883190) (h : (inb ((v3) + (1)) G.2.2.2.2.2.2.1 ∧ (inb ((v3) + (2)) G.2.2.2.2.2.2.1 ∧ (inb ((v3) + (3)) G.2.2.2.2.2.2.1 ∧ (inb ((v3) + (4)) G.2.2.2.2.2.2.1 ∧ (inb ((v3) + (5)) G.2.2.2.2.2.2.1 ∧ H_feed G S I (G.2.2.2.2.2.2.2 (ix ((v3) + (1)))) (G.2.2.2.2.2.2.2 (ix ((v3) + (2)))) (G.2.2.2.2.2.2.2 (ix ((v3) + (3)))) (G.2.2.2.2.2.2.2 (ix ((v3) + (4)))) (G.2.2.2.2.2.2.2 (ix ((v3) + (5)))) (fun r110 I109 => (inb ((v3) + (1)) G.2.2.2.2.2.2.1 ∧ (inb ((v3) + (2)) G.2.2.2.2.2.2.1 ∧ (inb ((v3) + (3)) G.2.2.2.2.2.2.1 ∧ (inb ((v3) + (4)) G.2.2.2.2.2.2.1 ∧ (inb ((v3) + (5)) G.2.2.2.2.2.2.1 ∧ R_feed G S I109 (G.2.2.2.2.2.2.2 (ix ((v3) + (1)))) (G.2.2.2.2.2.2.2 (ix ((v3) + (2)))) (G.2.2.2.2.2.2.2 (ix ((v3) + (3)))) (G.2.2.2.2.2.2.2 (ix ((v3) + (4)))) (G.2.2.2.2.2.2.2 (ix ((v3) + (5)))) (fun r112 I111 => ((w32 (r110) = w32 (r112) → L_k1582 G S k I111 (v3) Q) ∧ (¬ (w32 (r110) = w32 (r112)) → Q (some (vi 0)) S I111))))))))))))))) : L_k1011 G S k I v3 Q := by
  unfold L_k1011
  refine x_aload_n (pc := 1011) dL_law_1011 rfl rfl ?_
  refine x_aload_n (pc := 1012) dL_law_1012 rfl rfl ?_
  refine x_iload_n (pc := 1013) dL_law_1013 rfl rfl ?_
  refine x_iconst (pc := 1014) dL_law_1014 ?_
  refine x_iadd (pc := 1015) dL_law_1015 ?_
  refine x_scr (pc := 1016) dL_law_1016 h.1 ?_
  have h := h.2
  refine x_aload_n (pc := 1017) dL_law_1017 rfl rfl ?_
  refine x_iload_n (pc := 1018) dL_law_1018 rfl rfl ?_
  refine x_iconst (pc := 1019) dL_law_1019 ?_
  refine x_iadd (pc := 1020) dL_law_1020 ?_
  refine x_scr (pc := 1021) dL_law_1021 h.1 ?_
  have h := h.2
  refine x_aload_n (pc := 1022) dL_law_1022 rfl rfl ?_
  refine x_iload_n (pc := 1023) dL_law_1023 rfl rfl ?_
  refine x_iconst (pc := 1024) dL_law_1024 ?_
  refine x_iadd (pc := 1025) dL_law_1025 ?_
  refine x_scr (pc := 1026) dL_law_1026 h.1 ?_
  have h := h.2
  refine x_aload_n (pc := 1027) dL_law_1027 rfl rfl ?_
  refine x_iload_n (pc := 1028) dL_law_1028 rfl rfl ?_
  refine x_iconst (pc := 1029) dL_law_1029 ?_
  refine x_iadd (pc := 1030) dL_law_1030 ?_
  refine x_scr (pc := 1031) dL_law_1031 h.1 ?_
  have h := h.2
  refine x_aload_n (pc := 1032) dL_law_1032 rfl rfl ?_
  refine x_iload_n (pc := 1033) dL_law_1033 rfl rfl ?_
  refine x_iconst (pc := 1034) dL_law_1034 ?_
  refine x_iadd (pc := 1035) dL_law_1035 ?_
  refine x_scr (pc := 1036) dL_law_1036 h.1 ?_
  have h := h.2
  refine y_Vi (pc := 1037) (i := c_obj) (As := [vi (G.2.2.2.2.2.2.2 (ix ((v3) + (1)))), vi (G.2.2.2.2.2.2.2 (ix ((v3) + (2)))), vi (G.2.2.2.2.2.2.2 (ix ((v3) + (3)))), vi (G.2.2.2.2.2.2.2 (ix ((v3) + (4)))), vi (G.2.2.2.2.2.2.2 (ix ((v3) + (5))))]) (rest := []) ok_X10_feed ml_L_106 dL_law_1037 (sN_c_obj hS) (sT_c_obj hS) (by decide) rfl rfl rfl ⟨rfl, rfl⟩ ⟨by decide, by decide⟩ hk (Nat.le_of_ble_eq_true rfl) rfl h (fun r110 I109 h => ?_)
  refine x_aload_n (pc := 1040) dL_law_1040 rfl rfl ?_
  refine x_aload_n (pc := 1041) dL_law_1041 rfl rfl ?_
  refine x_iload_n (pc := 1042) dL_law_1042 rfl rfl ?_
  refine x_iconst (pc := 1043) dL_law_1043 ?_
  refine x_iadd (pc := 1044) dL_law_1044 ?_
  refine x_scr (pc := 1045) dL_law_1045 h.1 ?_
  have h := h.2
  refine x_aload_n (pc := 1046) dL_law_1046 rfl rfl ?_
  refine x_iload_n (pc := 1047) dL_law_1047 rfl rfl ?_
  refine x_iconst (pc := 1048) dL_law_1048 ?_
  refine x_iadd (pc := 1049) dL_law_1049 ?_
  refine x_scr (pc := 1050) dL_law_1050 h.1 ?_
  have h := h.2
  refine x_aload_n (pc := 1051) dL_law_1051 rfl rfl ?_
  refine x_iload_n (pc := 1052) dL_law_1052 rfl rfl ?_
  refine x_iconst (pc := 1053) dL_law_1053 ?_
  refine x_iadd (pc := 1054) dL_law_1054 ?_
  refine x_scr (pc := 1055) dL_law_1055 h.1 ?_
  have h := h.2
  refine x_aload_n (pc := 1056) dL_law_1056 rfl rfl ?_
  refine x_iload_n (pc := 1057) dL_law_1057 rfl rfl ?_
  refine x_iconst (pc := 1058) dL_law_1058 ?_
  refine x_iadd (pc := 1059) dL_law_1059 ?_
  refine x_scr (pc := 1060) dL_law_1060 h.1 ?_
  have h := h.2
  refine x_aload_n (pc := 1061) dL_law_1061 rfl rfl ?_
  refine x_iload_n (pc := 1062) dL_law_1062 rfl rfl ?_
  refine x_iconst (pc := 1063) dL_law_1063 ?_
  refine x_iadd (pc := 1064) dL_law_1064 ?_
  refine x_scr (pc := 1065) dL_law_1065 h.1 ?_
  have h := h.2
  refine y_Vi (pc := 1066) (i := r_obj) (As := [vi (G.2.2.2.2.2.2.2 (ix ((v3) + (1)))), vi (G.2.2.2.2.2.2.2 (ix ((v3) + (2)))), vi (G.2.2.2.2.2.2.2 (ix ((v3) + (3)))), vi (G.2.2.2.2.2.2.2 (ix ((v3) + (4)))), vi (G.2.2.2.2.2.2.2 (ix ((v3) + (5))))]) (rest := [vi (r110)]) ok_X11_feed ml_L_109 dL_law_1066 (sN_r_obj hS) (sT_r_obj hS) (by decide) rfl rfl rfl ⟨rfl, rfl⟩ ⟨by decide, by decide⟩ hk (Nat.le_of_ble_eq_true rfl) rfl h (fun r112 I111 h => ?_)
  refine x_icmp_eq (pc := 1069) (t := 1582) dL_law_1069 (by decide) (fun e => ?_) (fun e => ?_)
  · have h := h.1 e
    exact h
  · have h := h.2 e
    refine x_iconst (pc := 1072) dL_law_1072 ?_
    exact x_zret (pc := 1073) dL_law_1073 rfl hk (Or.inl rfl) h
set_option maxHeartbeats 4000000 in
set_option maxRecDepth 100000 in
theorem b_L_k1074 {G : XG} {S : XS} {k : Nat × Nat} {I : XI} {v3 : Int} {Q : Option Value → XS → XI → Prop} (hS : xSh S) (hk : k.1 ≤ 73020 ∧ k.2 ≤ 8883190) (h : (inb ((v3) + (1)) G.2.2.2.2.2.2.1 ∧ H_end G S I (G.2.2.2.2.2.2.2 (ix ((v3) + (1)))) (fun r114 I113 => (inb ((v3) + (1)) G.2.2.2.2.2.2.1 ∧ R_end G S I113 (G.2.2.2.2.2.2.2 (ix ((v3) + (1)))) (fun r116 I115 => ((w32 (r114) = w32 (r116) → L_k1582 G S k I115 (v3) Q) ∧ (¬ (w32 (r114) = w32 (r116)) → Q (some (vi 0)) S I115))))))) : L_k1074 G S k I v3 Q := by
  unfold L_k1074
  refine x_aload_n (pc := 1074) dL_law_1074 rfl rfl ?_
  refine x_aload_n (pc := 1075) dL_law_1075 rfl rfl ?_
  refine x_iload_n (pc := 1076) dL_law_1076 rfl rfl ?_
  refine x_iconst (pc := 1077) dL_law_1077 ?_
  refine x_iadd (pc := 1078) dL_law_1078 ?_
  refine x_scr (pc := 1079) dL_law_1079 h.1 ?_
  have h := h.2
  refine y_Vi (pc := 1080) (i := c_obj) (As := [vi (G.2.2.2.2.2.2.2 (ix ((v3) + (1))))]) (rest := []) ok_X10_end ml_L_110 dL_law_1080 (sN_c_obj hS) (sT_c_obj hS) (by decide) rfl rfl rfl ⟨rfl, rfl⟩ ⟨by decide, by decide⟩ hk (Nat.le_of_ble_eq_true rfl) rfl h (fun r114 I113 h => ?_)
  refine x_aload_n (pc := 1083) dL_law_1083 rfl rfl ?_
  refine x_aload_n (pc := 1084) dL_law_1084 rfl rfl ?_
  refine x_iload_n (pc := 1085) dL_law_1085 rfl rfl ?_
  refine x_iconst (pc := 1086) dL_law_1086 ?_
  refine x_iadd (pc := 1087) dL_law_1087 ?_
  refine x_scr (pc := 1088) dL_law_1088 h.1 ?_
  have h := h.2
  refine y_Vi (pc := 1089) (i := r_obj) (As := [vi (G.2.2.2.2.2.2.2 (ix ((v3) + (1))))]) (rest := [vi (r114)]) ok_X11_end ml_L_113 dL_law_1089 (sN_r_obj hS) (sT_r_obj hS) (by decide) rfl rfl rfl ⟨rfl, rfl⟩ ⟨by decide, by decide⟩ hk (Nat.le_of_ble_eq_true rfl) rfl h (fun r116 I115 h => ?_)
  refine x_icmp_eq (pc := 1092) (t := 1582) dL_law_1092 (by decide) (fun e => ?_) (fun e => ?_)
  · have h := h.1 e
    exact h
  · have h := h.2 e
    refine x_iconst (pc := 1095) dL_law_1095 ?_
    exact x_zret (pc := 1096) dL_law_1096 rfl hk (Or.inl rfl) h
set_option maxHeartbeats 4000000 in
set_option maxRecDepth 100000 in
theorem b_L_k1097 {G : XG} {S : XS} {k : Nat × Nat} {I : XI} {v3 : Int} {Q : Option Value → XS → XI → Prop} (hS : xSh S) (hk : k.1 ≤ 73020 ∧ k.2 ≤ 8883190) (h : H_rules G S I (fun r118 I117 => R_rules G S I117 (fun r120 I119 => ((w32 (r118) = w32 (r120) → L_k1582 G S k I119 (v3) Q) ∧ (¬ (w32 (r118) = w32 (r120)) → Q (some (vi 0)) S I119))))) : L_k1097 G S k I v3 Q := by
  unfold L_k1097
  refine x_aload_n (pc := 1097) dL_law_1097 rfl rfl ?_
  refine y_Vi (pc := 1098) (i := c_obj) (As := []) (rest := []) ok_X10_rules ml_L_114 dL_law_1098 (sN_c_obj hS) (sT_c_obj hS) (by decide) rfl rfl rfl ⟨rfl, rfl⟩ ⟨by decide, by decide⟩ hk (Nat.le_of_ble_eq_true rfl) rfl h (fun r118 I117 h => ?_)
  refine x_aload_n (pc := 1101) dL_law_1101 rfl rfl ?_
  refine y_Vi (pc := 1102) (i := r_obj) (As := []) (rest := [vi (r118)]) ok_X11_rules ml_L_118 dL_law_1102 (sN_r_obj hS) (sT_r_obj hS) (by decide) rfl rfl rfl ⟨rfl, rfl⟩ ⟨by decide, by decide⟩ hk (Nat.le_of_ble_eq_true rfl) rfl h (fun r120 I119 h => ?_)
  refine x_icmp_eq (pc := 1105) (t := 1582) dL_law_1105 (by decide) (fun e => ?_) (fun e => ?_)
  · have h := h.1 e
    exact h
  · have h := h.2 e
    refine x_iconst (pc := 1108) dL_law_1108 ?_
    exact x_zret (pc := 1109) dL_law_1109 rfl hk (Or.inl rfl) h
set_option maxHeartbeats 4000000 in
set_option maxRecDepth 100000 in
theorem b_L_k1110 {G : XG} {S : XS} {k : Nat × Nat} {I : XI} {v3 : Int} {Q : Option Value → XS → XI → Prop} (hS : xSh S) (hk : k.1 ≤ 73020 ∧ k.2 ≤ 8883190) (h : (inb ((v3) + (1)) G.2.2.2.2.2.2.1 ∧ H_fault G S I (G.2.2.2.2.2.2.2 (ix ((v3) + (1)))) (fun r122 I121 => (inb ((v3) + (1)) G.2.2.2.2.2.2.1 ∧ R_fault G S I121 (G.2.2.2.2.2.2.2 (ix ((v3) + (1)))) (fun r124 I123 => ((w32 (r122) = w32 (r124) → L_k1582 G S k I123 (v3) Q) ∧ (¬ (w32 (r122) = w32 (r124)) → Q (some (vi 0)) S I123))))))) : L_k1110 G S k I v3 Q := by
  unfold L_k1110
  refine x_aload_n (pc := 1110) dL_law_1110 rfl rfl ?_
  refine x_aload_n (pc := 1111) dL_law_1111 rfl rfl ?_
  refine x_iload_n (pc := 1112) dL_law_1112 rfl rfl ?_
  refine x_iconst (pc := 1113) dL_law_1113 ?_
  refine x_iadd (pc := 1114) dL_law_1114 ?_
  refine x_scr (pc := 1115) dL_law_1115 h.1 ?_
  have h := h.2
  refine y_Vi (pc := 1116) (i := c_obj) (As := [vi (G.2.2.2.2.2.2.2 (ix ((v3) + (1))))]) (rest := []) ok_X10_fault ml_L_119 dL_law_1116 (sN_c_obj hS) (sT_c_obj hS) (by decide) rfl rfl rfl ⟨rfl, rfl⟩ ⟨by decide, by decide⟩ hk (Nat.le_of_ble_eq_true rfl) rfl h (fun r122 I121 h => ?_)
  refine x_aload_n (pc := 1119) dL_law_1119 rfl rfl ?_
  refine x_aload_n (pc := 1120) dL_law_1120 rfl rfl ?_
  refine x_iload_n (pc := 1121) dL_law_1121 rfl rfl ?_
  refine x_iconst (pc := 1122) dL_law_1122 ?_
  refine x_iadd (pc := 1123) dL_law_1123 ?_
  refine x_scr (pc := 1124) dL_law_1124 h.1 ?_
  have h := h.2
  refine y_Vi (pc := 1125) (i := r_obj) (As := [vi (G.2.2.2.2.2.2.2 (ix ((v3) + (1))))]) (rest := [vi (r122)]) ok_X11_fault ml_L_122 dL_law_1125 (sN_r_obj hS) (sT_r_obj hS) (by decide) rfl rfl rfl ⟨rfl, rfl⟩ ⟨by decide, by decide⟩ hk (Nat.le_of_ble_eq_true rfl) rfl h (fun r124 I123 h => ?_)
  refine x_icmp_eq (pc := 1128) (t := 1582) dL_law_1128 (by decide) (fun e => ?_) (fun e => ?_)
  · have h := h.1 e
    exact h
  · have h := h.2 e
    refine x_iconst (pc := 1131) dL_law_1131 ?_
    exact x_zret (pc := 1132) dL_law_1132 rfl hk (Or.inl rfl) h
set_option maxHeartbeats 4000000 in
set_option maxRecDepth 100000 in
theorem b_L_k1133 {G : XG} {S : XS} {k : Nat × Nat} {I : XI} {v3 : Int} {Q : Option Value → XS → XI → Prop} (hS : xSh S) (hk : k.1 ≤ 73020 ∧ k.2 ≤ 8883190) (h : (inb ((v3) + (1)) G.2.2.2.2.2.2.1 ∧ (inb ((v3) + (2)) G.2.2.2.2.2.2.1 ∧ (inb ((v3) + (3)) G.2.2.2.2.2.2.1 ∧ (inb ((v3) + (4)) G.2.2.2.2.2.2.1 ∧ H_rule G S I (G.2.2.2.2.2.2.2 (ix ((v3) + (1)))) (G.2.2.2.2.2.2.2 (ix ((v3) + (2)))) (G.2.2.2.2.2.2.2 (ix ((v3) + (3)))) (G.2.2.2.2.2.2.2 (ix ((v3) + (4)))) (fun r126 I125 => (inb ((v3) + (1)) G.2.2.2.2.2.2.1 ∧ (inb ((v3) + (2)) G.2.2.2.2.2.2.1 ∧ (inb ((v3) + (3)) G.2.2.2.2.2.2.1 ∧ (inb ((v3) + (4)) G.2.2.2.2.2.2.1 ∧ R_rule G S I125 (G.2.2.2.2.2.2.2 (ix ((v3) + (1)))) (G.2.2.2.2.2.2.2 (ix ((v3) + (2)))) (G.2.2.2.2.2.2.2 (ix ((v3) + (3)))) (G.2.2.2.2.2.2.2 (ix ((v3) + (4)))) (fun r128 I127 => ((w32 (r126) = w32 (r128) → L_k1582 G S k I127 (v3) Q) ∧ (¬ (w32 (r126) = w32 (r128)) → Q (some (vi 0)) S I127))))))))))))) : L_k1133 G S k I v3 Q := by
  unfold L_k1133
  refine x_aload_n (pc := 1133) dL_law_1133 rfl rfl ?_
  refine x_aload_n (pc := 1134) dL_law_1134 rfl rfl ?_
  refine x_iload_n (pc := 1135) dL_law_1135 rfl rfl ?_
  refine x_iconst (pc := 1136) dL_law_1136 ?_
  refine x_iadd (pc := 1137) dL_law_1137 ?_
  refine x_scr (pc := 1138) dL_law_1138 h.1 ?_
  have h := h.2
  refine x_aload_n (pc := 1139) dL_law_1139 rfl rfl ?_
  refine x_iload_n (pc := 1140) dL_law_1140 rfl rfl ?_
  refine x_iconst (pc := 1141) dL_law_1141 ?_
  refine x_iadd (pc := 1142) dL_law_1142 ?_
  refine x_scr (pc := 1143) dL_law_1143 h.1 ?_
  have h := h.2
  refine x_aload_n (pc := 1144) dL_law_1144 rfl rfl ?_
  refine x_iload_n (pc := 1145) dL_law_1145 rfl rfl ?_
  refine x_iconst (pc := 1146) dL_law_1146 ?_
  refine x_iadd (pc := 1147) dL_law_1147 ?_
  refine x_scr (pc := 1148) dL_law_1148 h.1 ?_
  have h := h.2
  refine x_aload_n (pc := 1149) dL_law_1149 rfl rfl ?_
  refine x_iload_n (pc := 1150) dL_law_1150 rfl rfl ?_
  refine x_iconst (pc := 1151) dL_law_1151 ?_
  refine x_iadd (pc := 1152) dL_law_1152 ?_
  refine x_scr (pc := 1153) dL_law_1153 h.1 ?_
  have h := h.2
  refine y_Vi (pc := 1154) (i := c_obj) (As := [vi (G.2.2.2.2.2.2.2 (ix ((v3) + (1)))), vi (G.2.2.2.2.2.2.2 (ix ((v3) + (2)))), vi (G.2.2.2.2.2.2.2 (ix ((v3) + (3)))), vi (G.2.2.2.2.2.2.2 (ix ((v3) + (4))))]) (rest := []) ok_X10_rule ml_L_123 dL_law_1154 (sN_c_obj hS) (sT_c_obj hS) (by decide) rfl rfl rfl ⟨rfl, rfl⟩ ⟨by decide, by decide⟩ hk (Nat.le_of_ble_eq_true rfl) rfl h (fun r126 I125 h => ?_)
  refine x_aload_n (pc := 1157) dL_law_1157 rfl rfl ?_
  refine x_aload_n (pc := 1158) dL_law_1158 rfl rfl ?_
  refine x_iload_n (pc := 1159) dL_law_1159 rfl rfl ?_
  refine x_iconst (pc := 1160) dL_law_1160 ?_
  refine x_iadd (pc := 1161) dL_law_1161 ?_
  refine x_scr (pc := 1162) dL_law_1162 h.1 ?_
  have h := h.2
  refine x_aload_n (pc := 1163) dL_law_1163 rfl rfl ?_
  refine x_iload_n (pc := 1164) dL_law_1164 rfl rfl ?_
  refine x_iconst (pc := 1165) dL_law_1165 ?_
  refine x_iadd (pc := 1166) dL_law_1166 ?_
  refine x_scr (pc := 1167) dL_law_1167 h.1 ?_
  have h := h.2
  refine x_aload_n (pc := 1168) dL_law_1168 rfl rfl ?_
  refine x_iload_n (pc := 1169) dL_law_1169 rfl rfl ?_
  refine x_iconst (pc := 1170) dL_law_1170 ?_
  refine x_iadd (pc := 1171) dL_law_1171 ?_
  refine x_scr (pc := 1172) dL_law_1172 h.1 ?_
  have h := h.2
  refine x_aload_n (pc := 1173) dL_law_1173 rfl rfl ?_
  refine x_iload_n (pc := 1174) dL_law_1174 rfl rfl ?_
  refine x_iconst (pc := 1175) dL_law_1175 ?_
  refine x_iadd (pc := 1176) dL_law_1176 ?_
  refine x_scr (pc := 1177) dL_law_1177 h.1 ?_
  have h := h.2
  refine y_Vi (pc := 1178) (i := r_obj) (As := [vi (G.2.2.2.2.2.2.2 (ix ((v3) + (1)))), vi (G.2.2.2.2.2.2.2 (ix ((v3) + (2)))), vi (G.2.2.2.2.2.2.2 (ix ((v3) + (3)))), vi (G.2.2.2.2.2.2.2 (ix ((v3) + (4))))]) (rest := [vi (r126)]) ok_X11_rule ml_L_127 dL_law_1178 (sN_r_obj hS) (sT_r_obj hS) (by decide) rfl rfl rfl ⟨rfl, rfl⟩ ⟨by decide, by decide⟩ hk (Nat.le_of_ble_eq_true rfl) rfl h (fun r128 I127 h => ?_)
  refine x_icmp_eq (pc := 1181) (t := 1582) dL_law_1181 (by decide) (fun e => ?_) (fun e => ?_)
  · have h := h.1 e
    exact h
  · have h := h.2 e
    refine x_iconst (pc := 1184) dL_law_1184 ?_
    exact x_zret (pc := 1185) dL_law_1185 rfl hk (Or.inl rfl) h
set_option maxHeartbeats 4000000 in
set_option maxRecDepth 100000 in
theorem b_L_k1186 {G : XG} {S : XS} {k : Nat × Nat} {I : XI} {v3 : Int} {Q : Option Value → XS → XI → Prop} (hS : xSh S) (hk : k.1 ≤ 73020 ∧ k.2 ≤ 8883190) (h : (inb ((v3) + (1)) G.2.2.2.2.2.2.1 ∧ (inb ((v3) + (2)) G.2.2.2.2.2.2.1 ∧ (inb ((v3) + (3)) G.2.2.2.2.2.2.1 ∧ H_round G S I (G.2.2.2.2.2.2.2 (ix ((v3) + (1)))) (G.2.2.2.2.2.2.2 (ix ((v3) + (2)))) (G.2.2.2.2.2.2.2 (ix ((v3) + (3)))) (fun r130 I129 => (inb ((v3) + (1)) G.2.2.2.2.2.2.1 ∧ (inb ((v3) + (2)) G.2.2.2.2.2.2.1 ∧ (inb ((v3) + (3)) G.2.2.2.2.2.2.1 ∧ R_round G S I129 (G.2.2.2.2.2.2.2 (ix ((v3) + (1)))) (G.2.2.2.2.2.2.2 (ix ((v3) + (2)))) (G.2.2.2.2.2.2.2 (ix ((v3) + (3)))) (fun r132 I131 => ((w32 (r130) = w32 (r132) → L_k1582 G S k I131 (v3) Q) ∧ (¬ (w32 (r130) = w32 (r132)) → Q (some (vi 0)) S I131))))))))))) : L_k1186 G S k I v3 Q := by
  unfold L_k1186
  refine x_aload_n (pc := 1186) dL_law_1186 rfl rfl ?_
  refine x_aload_n (pc := 1187) dL_law_1187 rfl rfl ?_
  refine x_iload_n (pc := 1188) dL_law_1188 rfl rfl ?_
  refine x_iconst (pc := 1189) dL_law_1189 ?_
  refine x_iadd (pc := 1190) dL_law_1190 ?_
  refine x_scr (pc := 1191) dL_law_1191 h.1 ?_
  have h := h.2
  refine x_aload_n (pc := 1192) dL_law_1192 rfl rfl ?_
  refine x_iload_n (pc := 1193) dL_law_1193 rfl rfl ?_
  refine x_iconst (pc := 1194) dL_law_1194 ?_
  refine x_iadd (pc := 1195) dL_law_1195 ?_
  refine x_scr (pc := 1196) dL_law_1196 h.1 ?_
  have h := h.2
  refine x_aload_n (pc := 1197) dL_law_1197 rfl rfl ?_
  refine x_iload_n (pc := 1198) dL_law_1198 rfl rfl ?_
  refine x_iconst (pc := 1199) dL_law_1199 ?_
  refine x_iadd (pc := 1200) dL_law_1200 ?_
  refine x_scr (pc := 1201) dL_law_1201 h.1 ?_
  have h := h.2
  refine y_Vi (pc := 1202) (i := c_obj) (As := [vi (G.2.2.2.2.2.2.2 (ix ((v3) + (1)))), vi (G.2.2.2.2.2.2.2 (ix ((v3) + (2)))), vi (G.2.2.2.2.2.2.2 (ix ((v3) + (3))))]) (rest := []) ok_X10_round ml_L_128 dL_law_1202 (sN_c_obj hS) (sT_c_obj hS) (by decide) rfl rfl rfl ⟨rfl, rfl⟩ ⟨by decide, by decide⟩ hk (Nat.le_of_ble_eq_true rfl) rfl h (fun r130 I129 h => ?_)
  refine x_aload_n (pc := 1205) dL_law_1205 rfl rfl ?_
  refine x_aload_n (pc := 1206) dL_law_1206 rfl rfl ?_
  refine x_iload_n (pc := 1207) dL_law_1207 rfl rfl ?_
  refine x_iconst (pc := 1208) dL_law_1208 ?_
  refine x_iadd (pc := 1209) dL_law_1209 ?_
  refine x_scr (pc := 1210) dL_law_1210 h.1 ?_
  have h := h.2
  refine x_aload_n (pc := 1211) dL_law_1211 rfl rfl ?_
  refine x_iload_n (pc := 1212) dL_law_1212 rfl rfl ?_
  refine x_iconst (pc := 1213) dL_law_1213 ?_
  refine x_iadd (pc := 1214) dL_law_1214 ?_
  refine x_scr (pc := 1215) dL_law_1215 h.1 ?_
  have h := h.2
  refine x_aload_n (pc := 1216) dL_law_1216 rfl rfl ?_
  refine x_iload_n (pc := 1217) dL_law_1217 rfl rfl ?_
  refine x_iconst (pc := 1218) dL_law_1218 ?_
  refine x_iadd (pc := 1219) dL_law_1219 ?_
  refine x_scr (pc := 1220) dL_law_1220 h.1 ?_
  have h := h.2
  refine y_Vi (pc := 1221) (i := r_obj) (As := [vi (G.2.2.2.2.2.2.2 (ix ((v3) + (1)))), vi (G.2.2.2.2.2.2.2 (ix ((v3) + (2)))), vi (G.2.2.2.2.2.2.2 (ix ((v3) + (3))))]) (rest := [vi (r130)]) ok_X11_round ml_L_131 dL_law_1221 (sN_r_obj hS) (sT_r_obj hS) (by decide) rfl rfl rfl ⟨rfl, rfl⟩ ⟨by decide, by decide⟩ hk (Nat.le_of_ble_eq_true rfl) rfl h (fun r132 I131 h => ?_)
  refine x_icmp_eq (pc := 1224) (t := 1582) dL_law_1224 (by decide) (fun e => ?_) (fun e => ?_)
  · have h := h.1 e
    exact h
  · have h := h.2 e
    refine x_iconst (pc := 1227) dL_law_1227 ?_
    exact x_zret (pc := 1228) dL_law_1228 rfl hk (Or.inl rfl) h
set_option maxHeartbeats 4000000 in
set_option maxRecDepth 100000 in
theorem b_L_k1229 {G : XG} {S : XS} {k : Nat × Nat} {I : XI} {v3 : Int} {Q : Option Value → XS → XI → Prop} (hS : xSh S) (hk : k.1 ≤ 73020 ∧ k.2 ≤ 8883190) (h : (inb ((v3) + (1)) G.2.2.2.2.2.2.1 ∧ (inb ((v3) + (2)) G.2.2.2.2.2.2.1 ∧ (inb ((v3) + (3)) G.2.2.2.2.2.2.1 ∧ H_stop G S I (G.2.2.2.2.2.2.2 (ix ((v3) + (1)))) (G.2.2.2.2.2.2.2 (ix ((v3) + (2)))) (G.2.2.2.2.2.2.2 (ix ((v3) + (3)))) (fun r134 I133 => (inb ((v3) + (1)) G.2.2.2.2.2.2.1 ∧ (inb ((v3) + (2)) G.2.2.2.2.2.2.1 ∧ (inb ((v3) + (3)) G.2.2.2.2.2.2.1 ∧ R_stop G S I133 (G.2.2.2.2.2.2.2 (ix ((v3) + (1)))) (G.2.2.2.2.2.2.2 (ix ((v3) + (2)))) (G.2.2.2.2.2.2.2 (ix ((v3) + (3)))) (fun r136 I135 => ((w32 (r134) = w32 (r136) → L_k1582 G S k I135 (v3) Q) ∧ (¬ (w32 (r134) = w32 (r136)) → Q (some (vi 0)) S I135))))))))))) : L_k1229 G S k I v3 Q := by
  unfold L_k1229
  refine x_aload_n (pc := 1229) dL_law_1229 rfl rfl ?_
  refine x_aload_n (pc := 1230) dL_law_1230 rfl rfl ?_
  refine x_iload_n (pc := 1231) dL_law_1231 rfl rfl ?_
  refine x_iconst (pc := 1232) dL_law_1232 ?_
  refine x_iadd (pc := 1233) dL_law_1233 ?_
  refine x_scr (pc := 1234) dL_law_1234 h.1 ?_
  have h := h.2
  refine x_aload_n (pc := 1235) dL_law_1235 rfl rfl ?_
  refine x_iload_n (pc := 1236) dL_law_1236 rfl rfl ?_
  refine x_iconst (pc := 1237) dL_law_1237 ?_
  refine x_iadd (pc := 1238) dL_law_1238 ?_
  refine x_scr (pc := 1239) dL_law_1239 h.1 ?_
  have h := h.2
  refine x_aload_n (pc := 1240) dL_law_1240 rfl rfl ?_
  refine x_iload_n (pc := 1241) dL_law_1241 rfl rfl ?_
  refine x_iconst (pc := 1242) dL_law_1242 ?_
  refine x_iadd (pc := 1243) dL_law_1243 ?_
  refine x_scr (pc := 1244) dL_law_1244 h.1 ?_
  have h := h.2
  refine y_Vi (pc := 1245) (i := c_obj) (As := [vi (G.2.2.2.2.2.2.2 (ix ((v3) + (1)))), vi (G.2.2.2.2.2.2.2 (ix ((v3) + (2)))), vi (G.2.2.2.2.2.2.2 (ix ((v3) + (3))))]) (rest := []) ok_X10_stop ml_L_132 dL_law_1245 (sN_c_obj hS) (sT_c_obj hS) (by decide) rfl rfl rfl ⟨rfl, rfl⟩ ⟨by decide, by decide⟩ hk (Nat.le_of_ble_eq_true rfl) rfl h (fun r134 I133 h => ?_)
  refine x_aload_n (pc := 1248) dL_law_1248 rfl rfl ?_
  refine x_aload_n (pc := 1249) dL_law_1249 rfl rfl ?_
  refine x_iload_n (pc := 1250) dL_law_1250 rfl rfl ?_
  refine x_iconst (pc := 1251) dL_law_1251 ?_
  refine x_iadd (pc := 1252) dL_law_1252 ?_
  refine x_scr (pc := 1253) dL_law_1253 h.1 ?_
  have h := h.2
  refine x_aload_n (pc := 1254) dL_law_1254 rfl rfl ?_
  refine x_iload_n (pc := 1255) dL_law_1255 rfl rfl ?_
  refine x_iconst (pc := 1256) dL_law_1256 ?_
  refine x_iadd (pc := 1257) dL_law_1257 ?_
  refine x_scr (pc := 1258) dL_law_1258 h.1 ?_
  have h := h.2
  refine x_aload_n (pc := 1259) dL_law_1259 rfl rfl ?_
  refine x_iload_n (pc := 1260) dL_law_1260 rfl rfl ?_
  refine x_iconst (pc := 1261) dL_law_1261 ?_
  refine x_iadd (pc := 1262) dL_law_1262 ?_
  refine x_scr (pc := 1263) dL_law_1263 h.1 ?_
  have h := h.2
  refine y_Vi (pc := 1264) (i := r_obj) (As := [vi (G.2.2.2.2.2.2.2 (ix ((v3) + (1)))), vi (G.2.2.2.2.2.2.2 (ix ((v3) + (2)))), vi (G.2.2.2.2.2.2.2 (ix ((v3) + (3))))]) (rest := [vi (r134)]) ok_X11_stop ml_L_135 dL_law_1264 (sN_r_obj hS) (sT_r_obj hS) (by decide) rfl rfl rfl ⟨rfl, rfl⟩ ⟨by decide, by decide⟩ hk (Nat.le_of_ble_eq_true rfl) rfl h (fun r136 I135 h => ?_)
  refine x_icmp_eq (pc := 1267) (t := 1582) dL_law_1267 (by decide) (fun e => ?_) (fun e => ?_)
  · have h := h.1 e
    exact h
  · have h := h.2 e
    refine x_iconst (pc := 1270) dL_law_1270 ?_
    exact x_zret (pc := 1271) dL_law_1271 rfl hk (Or.inl rfl) h
set_option maxHeartbeats 4000000 in
set_option maxRecDepth 100000 in
theorem b_L_k1272 {G : XG} {S : XS} {k : Nat × Nat} {I : XI} {v3 : Int} {Q : Option Value → XS → XI → Prop} (hS : xSh S) (hk : k.1 ≤ 73020 ∧ k.2 ≤ 8883190) (h : (inb ((v3) + (1)) G.2.2.2.2.2.2.1 ∧ (inb ((v3) + (2)) G.2.2.2.2.2.2.1 ∧ (inb ((v3) + (3)) G.2.2.2.2.2.2.1 ∧ H_wish G S I (G.2.2.2.2.2.2.2 (ix ((v3) + (1)))) (G.2.2.2.2.2.2.2 (ix ((v3) + (2)))) (G.2.2.2.2.2.2.2 (ix ((v3) + (3)))) (fun r138 I137 => (inb ((v3) + (1)) G.2.2.2.2.2.2.1 ∧ (inb ((v3) + (2)) G.2.2.2.2.2.2.1 ∧ (inb ((v3) + (3)) G.2.2.2.2.2.2.1 ∧ R_wish G S I137 (G.2.2.2.2.2.2.2 (ix ((v3) + (1)))) (G.2.2.2.2.2.2.2 (ix ((v3) + (2)))) (G.2.2.2.2.2.2.2 (ix ((v3) + (3)))) (fun r140 I139 => ((w32 (r138) = w32 (r140) → L_k1582 G S k I139 (v3) Q) ∧ (¬ (w32 (r138) = w32 (r140)) → Q (some (vi 0)) S I139))))))))))) : L_k1272 G S k I v3 Q := by
  unfold L_k1272
  refine x_aload_n (pc := 1272) dL_law_1272 rfl rfl ?_
  refine x_aload_n (pc := 1273) dL_law_1273 rfl rfl ?_
  refine x_iload_n (pc := 1274) dL_law_1274 rfl rfl ?_
  refine x_iconst (pc := 1275) dL_law_1275 ?_
  refine x_iadd (pc := 1276) dL_law_1276 ?_
  refine x_scr (pc := 1277) dL_law_1277 h.1 ?_
  have h := h.2
  refine x_aload_n (pc := 1278) dL_law_1278 rfl rfl ?_
  refine x_iload_n (pc := 1279) dL_law_1279 rfl rfl ?_
  refine x_iconst (pc := 1280) dL_law_1280 ?_
  refine x_iadd (pc := 1281) dL_law_1281 ?_
  refine x_scr (pc := 1282) dL_law_1282 h.1 ?_
  have h := h.2
  refine x_aload_n (pc := 1283) dL_law_1283 rfl rfl ?_
  refine x_iload_n (pc := 1284) dL_law_1284 rfl rfl ?_
  refine x_iconst (pc := 1285) dL_law_1285 ?_
  refine x_iadd (pc := 1286) dL_law_1286 ?_
  refine x_scr (pc := 1287) dL_law_1287 h.1 ?_
  have h := h.2
  refine y_Vi (pc := 1288) (i := c_obj) (As := [vi (G.2.2.2.2.2.2.2 (ix ((v3) + (1)))), vi (G.2.2.2.2.2.2.2 (ix ((v3) + (2)))), vi (G.2.2.2.2.2.2.2 (ix ((v3) + (3))))]) (rest := []) ok_X10_wish ml_L_136 dL_law_1288 (sN_c_obj hS) (sT_c_obj hS) (by decide) rfl rfl rfl ⟨rfl, rfl⟩ ⟨by decide, by decide⟩ hk (Nat.le_of_ble_eq_true rfl) rfl h (fun r138 I137 h => ?_)
  refine x_aload_n (pc := 1291) dL_law_1291 rfl rfl ?_
  refine x_aload_n (pc := 1292) dL_law_1292 rfl rfl ?_
  refine x_iload_n (pc := 1293) dL_law_1293 rfl rfl ?_
  refine x_iconst (pc := 1294) dL_law_1294 ?_
  refine x_iadd (pc := 1295) dL_law_1295 ?_
  refine x_scr (pc := 1296) dL_law_1296 h.1 ?_
  have h := h.2
  refine x_aload_n (pc := 1297) dL_law_1297 rfl rfl ?_
  refine x_iload_n (pc := 1298) dL_law_1298 rfl rfl ?_
  refine x_iconst (pc := 1299) dL_law_1299 ?_
  refine x_iadd (pc := 1300) dL_law_1300 ?_
  refine x_scr (pc := 1301) dL_law_1301 h.1 ?_
  have h := h.2
  refine x_aload_n (pc := 1302) dL_law_1302 rfl rfl ?_
  refine x_iload_n (pc := 1303) dL_law_1303 rfl rfl ?_
  refine x_iconst (pc := 1304) dL_law_1304 ?_
  refine x_iadd (pc := 1305) dL_law_1305 ?_
  refine x_scr (pc := 1306) dL_law_1306 h.1 ?_
  have h := h.2
  refine y_Vi (pc := 1307) (i := r_obj) (As := [vi (G.2.2.2.2.2.2.2 (ix ((v3) + (1)))), vi (G.2.2.2.2.2.2.2 (ix ((v3) + (2)))), vi (G.2.2.2.2.2.2.2 (ix ((v3) + (3))))]) (rest := [vi (r138)]) ok_X11_wish ml_L_139 dL_law_1307 (sN_r_obj hS) (sT_r_obj hS) (by decide) rfl rfl rfl ⟨rfl, rfl⟩ ⟨by decide, by decide⟩ hk (Nat.le_of_ble_eq_true rfl) rfl h (fun r140 I139 h => ?_)
  refine x_icmp_eq (pc := 1310) (t := 1582) dL_law_1310 (by decide) (fun e => ?_) (fun e => ?_)
  · have h := h.1 e
    exact h
  · have h := h.2 e
    refine x_iconst (pc := 1313) dL_law_1313 ?_
    exact x_zret (pc := 1314) dL_law_1314 rfl hk (Or.inl rfl) h
set_option maxHeartbeats 4000000 in
set_option maxRecDepth 100000 in
theorem b_L_k1315 {G : XG} {S : XS} {k : Nat × Nat} {I : XI} {v3 : Int} {Q : Option Value → XS → XI → Prop} (hS : xSh S) (hk : k.1 ≤ 73020 ∧ k.2 ≤ 8883190) (h : (inb ((v3) + (1)) G.2.2.2.2.2.2.1 ∧ (inb ((v3) + (2)) G.2.2.2.2.2.2.1 ∧ (inb ((v3) + (3)) G.2.2.2.2.2.2.1 ∧ H_load G S I (G.2.2.2.2.2.2.2 (ix ((v3) + (1)))) (G.2.2.2.2.2.2.2 (ix ((v3) + (2)))) (G.2.2.2.2.2.2.2 (ix ((v3) + (3)))) (fun r142 I141 => (inb ((v3) + (1)) G.2.2.2.2.2.2.1 ∧ (inb ((v3) + (2)) G.2.2.2.2.2.2.1 ∧ (inb ((v3) + (3)) G.2.2.2.2.2.2.1 ∧ R_load G S I141 (G.2.2.2.2.2.2.2 (ix ((v3) + (1)))) (G.2.2.2.2.2.2.2 (ix ((v3) + (2)))) (G.2.2.2.2.2.2.2 (ix ((v3) + (3)))) (fun r144 I143 => ((w32 (r142) = w32 (r144) → L_k1582 G S k I143 (v3) Q) ∧ (¬ (w32 (r142) = w32 (r144)) → Q (some (vi 0)) S I143))))))))))) : L_k1315 G S k I v3 Q := by
  unfold L_k1315
  refine x_aload_n (pc := 1315) dL_law_1315 rfl rfl ?_
  refine x_aload_n (pc := 1316) dL_law_1316 rfl rfl ?_
  refine x_iload_n (pc := 1317) dL_law_1317 rfl rfl ?_
  refine x_iconst (pc := 1318) dL_law_1318 ?_
  refine x_iadd (pc := 1319) dL_law_1319 ?_
  refine x_scr (pc := 1320) dL_law_1320 h.1 ?_
  have h := h.2
  refine x_aload_n (pc := 1321) dL_law_1321 rfl rfl ?_
  refine x_iload_n (pc := 1322) dL_law_1322 rfl rfl ?_
  refine x_iconst (pc := 1323) dL_law_1323 ?_
  refine x_iadd (pc := 1324) dL_law_1324 ?_
  refine x_scr (pc := 1325) dL_law_1325 h.1 ?_
  have h := h.2
  refine x_aload_n (pc := 1326) dL_law_1326 rfl rfl ?_
  refine x_iload_n (pc := 1327) dL_law_1327 rfl rfl ?_
  refine x_iconst (pc := 1328) dL_law_1328 ?_
  refine x_iadd (pc := 1329) dL_law_1329 ?_
  refine x_scr (pc := 1330) dL_law_1330 h.1 ?_
  have h := h.2
  refine y_Vi (pc := 1331) (i := c_obj) (As := [vi (G.2.2.2.2.2.2.2 (ix ((v3) + (1)))), vi (G.2.2.2.2.2.2.2 (ix ((v3) + (2)))), vi (G.2.2.2.2.2.2.2 (ix ((v3) + (3))))]) (rest := []) ok_X10_load ml_L_140 dL_law_1331 (sN_c_obj hS) (sT_c_obj hS) (by decide) rfl rfl rfl ⟨rfl, rfl⟩ ⟨by decide, by decide⟩ hk (Nat.le_of_ble_eq_true rfl) rfl h (fun r142 I141 h => ?_)
  refine x_aload_n (pc := 1334) dL_law_1334 rfl rfl ?_
  refine x_aload_n (pc := 1335) dL_law_1335 rfl rfl ?_
  refine x_iload_n (pc := 1336) dL_law_1336 rfl rfl ?_
  refine x_iconst (pc := 1337) dL_law_1337 ?_
  refine x_iadd (pc := 1338) dL_law_1338 ?_
  refine x_scr (pc := 1339) dL_law_1339 h.1 ?_
  have h := h.2
  refine x_aload_n (pc := 1340) dL_law_1340 rfl rfl ?_
  refine x_iload_n (pc := 1341) dL_law_1341 rfl rfl ?_
  refine x_iconst (pc := 1342) dL_law_1342 ?_
  refine x_iadd (pc := 1343) dL_law_1343 ?_
  refine x_scr (pc := 1344) dL_law_1344 h.1 ?_
  have h := h.2
  refine x_aload_n (pc := 1345) dL_law_1345 rfl rfl ?_
  refine x_iload_n (pc := 1346) dL_law_1346 rfl rfl ?_
  refine x_iconst (pc := 1347) dL_law_1347 ?_
  refine x_iadd (pc := 1348) dL_law_1348 ?_
  refine x_scr (pc := 1349) dL_law_1349 h.1 ?_
  have h := h.2
  refine y_Vi (pc := 1350) (i := r_obj) (As := [vi (G.2.2.2.2.2.2.2 (ix ((v3) + (1)))), vi (G.2.2.2.2.2.2.2 (ix ((v3) + (2)))), vi (G.2.2.2.2.2.2.2 (ix ((v3) + (3))))]) (rest := [vi (r142)]) ok_X11_load ml_L_143 dL_law_1350 (sN_r_obj hS) (sT_r_obj hS) (by decide) rfl rfl rfl ⟨rfl, rfl⟩ ⟨by decide, by decide⟩ hk (Nat.le_of_ble_eq_true rfl) rfl h (fun r144 I143 h => ?_)
  refine x_icmp_eq (pc := 1353) (t := 1582) dL_law_1353 (by decide) (fun e => ?_) (fun e => ?_)
  · have h := h.1 e
    exact h
  · have h := h.2 e
    refine x_iconst (pc := 1356) dL_law_1356 ?_
    exact x_zret (pc := 1357) dL_law_1357 rfl hk (Or.inl rfl) h
set_option maxHeartbeats 4000000 in
set_option maxRecDepth 100000 in
theorem b_L_k1358 {G : XG} {S : XS} {k : Nat × Nat} {I : XI} {v3 : Int} {Q : Option Value → XS → XI → Prop} (hS : xSh S) (hk : k.1 ≤ 73020 ∧ k.2 ≤ 8883190) (h : (inb ((v3) + (1)) G.2.2.2.2.2.2.1 ∧ H_reader G S I (G.2.2.2.2.2.2.2 (ix ((v3) + (1)))) (fun r146 I145 => (inb ((v3) + (1)) G.2.2.2.2.2.2.1 ∧ R_reader G S I145 (G.2.2.2.2.2.2.2 (ix ((v3) + (1)))) (fun r148 I147 => ((w32 (r146) = w32 (r148) → L_k1582 G S k I147 (v3) Q) ∧ (¬ (w32 (r146) = w32 (r148)) → Q (some (vi 0)) S I147))))))) : L_k1358 G S k I v3 Q := by
  unfold L_k1358
  refine x_aload_n (pc := 1358) dL_law_1358 rfl rfl ?_
  refine x_aload_n (pc := 1359) dL_law_1359 rfl rfl ?_
  refine x_iload_n (pc := 1360) dL_law_1360 rfl rfl ?_
  refine x_iconst (pc := 1361) dL_law_1361 ?_
  refine x_iadd (pc := 1362) dL_law_1362 ?_
  refine x_scr (pc := 1363) dL_law_1363 h.1 ?_
  have h := h.2
  refine y_Vi (pc := 1364) (i := c_obj) (As := [vi (G.2.2.2.2.2.2.2 (ix ((v3) + (1))))]) (rest := []) ok_X10_reader ml_L_144 dL_law_1364 (sN_c_obj hS) (sT_c_obj hS) (by decide) rfl rfl rfl ⟨rfl, rfl⟩ ⟨by decide, by decide⟩ hk (Nat.le_of_ble_eq_true rfl) rfl h (fun r146 I145 h => ?_)
  refine x_aload_n (pc := 1367) dL_law_1367 rfl rfl ?_
  refine x_aload_n (pc := 1368) dL_law_1368 rfl rfl ?_
  refine x_iload_n (pc := 1369) dL_law_1369 rfl rfl ?_
  refine x_iconst (pc := 1370) dL_law_1370 ?_
  refine x_iadd (pc := 1371) dL_law_1371 ?_
  refine x_scr (pc := 1372) dL_law_1372 h.1 ?_
  have h := h.2
  refine y_Vi (pc := 1373) (i := r_obj) (As := [vi (G.2.2.2.2.2.2.2 (ix ((v3) + (1))))]) (rest := [vi (r146)]) ok_X11_reader ml_L_147 dL_law_1373 (sN_r_obj hS) (sT_r_obj hS) (by decide) rfl rfl rfl ⟨rfl, rfl⟩ ⟨by decide, by decide⟩ hk (Nat.le_of_ble_eq_true rfl) rfl h (fun r148 I147 h => ?_)
  refine x_icmp_eq (pc := 1376) (t := 1582) dL_law_1376 (by decide) (fun e => ?_) (fun e => ?_)
  · have h := h.1 e
    exact h
  · have h := h.2 e
    refine x_iconst (pc := 1379) dL_law_1379 ?_
    exact x_zret (pc := 1380) dL_law_1380 rfl hk (Or.inl rfl) h
set_option maxHeartbeats 4000000 in
set_option maxRecDepth 100000 in
theorem b_L_k1381 {G : XG} {S : XS} {k : Nat × Nat} {I : XI} {v3 : Int} {Q : Option Value → XS → XI → Prop} (hS : xSh S) (hk : k.1 ≤ 73020 ∧ k.2 ≤ 8883190) (h : (inb ((v3) + (1)) G.2.2.2.2.2.2.1 ∧ (inb ((v3) + (2)) G.2.2.2.2.2.2.1 ∧ H_read G S I (G.2.2.2.2.2.2.2 (ix ((v3) + (1)))) (G.2.2.2.2.2.2.2 (ix ((v3) + (2)))) (fun r150 I149 => (inb ((v3) + (1)) G.2.2.2.2.2.2.1 ∧ (inb ((v3) + (2)) G.2.2.2.2.2.2.1 ∧ R_read G S I149 (G.2.2.2.2.2.2.2 (ix ((v3) + (1)))) (G.2.2.2.2.2.2.2 (ix ((v3) + (2)))) (fun r152 I151 => ((w32 (r150) = w32 (r152) → L_k1582 G S k I151 (v3) Q) ∧ (¬ (w32 (r150) = w32 (r152)) → Q (some (vi 0)) S I151))))))))) : L_k1381 G S k I v3 Q := by
  unfold L_k1381
  refine x_aload_n (pc := 1381) dL_law_1381 rfl rfl ?_
  refine x_aload_n (pc := 1382) dL_law_1382 rfl rfl ?_
  refine x_iload_n (pc := 1383) dL_law_1383 rfl rfl ?_
  refine x_iconst (pc := 1384) dL_law_1384 ?_
  refine x_iadd (pc := 1385) dL_law_1385 ?_
  refine x_scr (pc := 1386) dL_law_1386 h.1 ?_
  have h := h.2
  refine x_aload_n (pc := 1387) dL_law_1387 rfl rfl ?_
  refine x_iload_n (pc := 1388) dL_law_1388 rfl rfl ?_
  refine x_iconst (pc := 1389) dL_law_1389 ?_
  refine x_iadd (pc := 1390) dL_law_1390 ?_
  refine x_scr (pc := 1391) dL_law_1391 h.1 ?_
  have h := h.2
  refine y_Vi (pc := 1392) (i := c_obj) (As := [vi (G.2.2.2.2.2.2.2 (ix ((v3) + (1)))), vi (G.2.2.2.2.2.2.2 (ix ((v3) + (2))))]) (rest := []) ok_X10_read ml_L_148 dL_law_1392 (sN_c_obj hS) (sT_c_obj hS) (by decide) rfl rfl rfl ⟨rfl, rfl⟩ ⟨by decide, by decide⟩ hk (Nat.le_of_ble_eq_true rfl) rfl h (fun r150 I149 h => ?_)
  refine x_aload_n (pc := 1395) dL_law_1395 rfl rfl ?_
  refine x_aload_n (pc := 1396) dL_law_1396 rfl rfl ?_
  refine x_iload_n (pc := 1397) dL_law_1397 rfl rfl ?_
  refine x_iconst (pc := 1398) dL_law_1398 ?_
  refine x_iadd (pc := 1399) dL_law_1399 ?_
  refine x_scr (pc := 1400) dL_law_1400 h.1 ?_
  have h := h.2
  refine x_aload_n (pc := 1401) dL_law_1401 rfl rfl ?_
  refine x_iload_n (pc := 1402) dL_law_1402 rfl rfl ?_
  refine x_iconst (pc := 1403) dL_law_1403 ?_
  refine x_iadd (pc := 1404) dL_law_1404 ?_
  refine x_scr (pc := 1405) dL_law_1405 h.1 ?_
  have h := h.2
  refine y_Vi (pc := 1406) (i := r_obj) (As := [vi (G.2.2.2.2.2.2.2 (ix ((v3) + (1)))), vi (G.2.2.2.2.2.2.2 (ix ((v3) + (2))))]) (rest := [vi (r150)]) ok_X11_read ml_L_152 dL_law_1406 (sN_r_obj hS) (sT_r_obj hS) (by decide) rfl rfl rfl ⟨rfl, rfl⟩ ⟨by decide, by decide⟩ hk (Nat.le_of_ble_eq_true rfl) rfl h (fun r152 I151 h => ?_)
  refine x_icmp_eq (pc := 1409) (t := 1582) dL_law_1409 (by decide) (fun e => ?_) (fun e => ?_)
  · have h := h.1 e
    exact h
  · have h := h.2 e
    refine x_iconst (pc := 1412) dL_law_1412 ?_
    exact x_zret (pc := 1413) dL_law_1413 rfl hk (Or.inl rfl) h
set_option maxHeartbeats 4000000 in
set_option maxRecDepth 100000 in
theorem b_L_k1414 {G : XG} {S : XS} {k : Nat × Nat} {I : XI} {v3 : Int} {Q : Option Value → XS → XI → Prop} (hS : xSh S) (hk : k.1 ≤ 73020 ∧ k.2 ≤ 8883190) (h : (inb ((v3) + (1)) G.2.2.2.2.2.2.1 ∧ (inb ((v3) + (2)) G.2.2.2.2.2.2.1 ∧ H_learns G S I (G.2.2.2.2.2.2.2 (ix ((v3) + (1)))) (G.2.2.2.2.2.2.2 (ix ((v3) + (2)))) (fun r154 I153 => (inb ((v3) + (1)) G.2.2.2.2.2.2.1 ∧ (inb ((v3) + (2)) G.2.2.2.2.2.2.1 ∧ R_learns G S I153 (G.2.2.2.2.2.2.2 (ix ((v3) + (1)))) (G.2.2.2.2.2.2.2 (ix ((v3) + (2)))) (fun r156 I155 => ((w32 (r154) = w32 (r156) → L_k1582 G S k I155 (v3) Q) ∧ (¬ (w32 (r154) = w32 (r156)) → Q (some (vi 0)) S I155))))))))) : L_k1414 G S k I v3 Q := by
  unfold L_k1414
  refine x_aload_n (pc := 1414) dL_law_1414 rfl rfl ?_
  refine x_aload_n (pc := 1415) dL_law_1415 rfl rfl ?_
  refine x_iload_n (pc := 1416) dL_law_1416 rfl rfl ?_
  refine x_iconst (pc := 1417) dL_law_1417 ?_
  refine x_iadd (pc := 1418) dL_law_1418 ?_
  refine x_scr (pc := 1419) dL_law_1419 h.1 ?_
  have h := h.2
  refine x_aload_n (pc := 1420) dL_law_1420 rfl rfl ?_
  refine x_iload_n (pc := 1421) dL_law_1421 rfl rfl ?_
  refine x_iconst (pc := 1422) dL_law_1422 ?_
  refine x_iadd (pc := 1423) dL_law_1423 ?_
  refine x_scr (pc := 1424) dL_law_1424 h.1 ?_
  have h := h.2
  refine y_Vi (pc := 1425) (i := c_obj) (As := [vi (G.2.2.2.2.2.2.2 (ix ((v3) + (1)))), vi (G.2.2.2.2.2.2.2 (ix ((v3) + (2))))]) (rest := []) ok_X10_learns ml_L_153 dL_law_1425 (sN_c_obj hS) (sT_c_obj hS) (by decide) rfl rfl rfl ⟨rfl, rfl⟩ ⟨by decide, by decide⟩ hk (Nat.le_of_ble_eq_true rfl) rfl h (fun r154 I153 h => ?_)
  refine x_aload_n (pc := 1428) dL_law_1428 rfl rfl ?_
  refine x_aload_n (pc := 1429) dL_law_1429 rfl rfl ?_
  refine x_iload_n (pc := 1430) dL_law_1430 rfl rfl ?_
  refine x_iconst (pc := 1431) dL_law_1431 ?_
  refine x_iadd (pc := 1432) dL_law_1432 ?_
  refine x_scr (pc := 1433) dL_law_1433 h.1 ?_
  have h := h.2
  refine x_aload_n (pc := 1434) dL_law_1434 rfl rfl ?_
  refine x_iload_n (pc := 1435) dL_law_1435 rfl rfl ?_
  refine x_iconst (pc := 1436) dL_law_1436 ?_
  refine x_iadd (pc := 1437) dL_law_1437 ?_
  refine x_scr (pc := 1438) dL_law_1438 h.1 ?_
  have h := h.2
  refine y_Vi (pc := 1439) (i := r_obj) (As := [vi (G.2.2.2.2.2.2.2 (ix ((v3) + (1)))), vi (G.2.2.2.2.2.2.2 (ix ((v3) + (2))))]) (rest := [vi (r154)]) ok_X11_learns ml_L_156 dL_law_1439 (sN_r_obj hS) (sT_r_obj hS) (by decide) rfl rfl rfl ⟨rfl, rfl⟩ ⟨by decide, by decide⟩ hk (Nat.le_of_ble_eq_true rfl) rfl h (fun r156 I155 h => ?_)
  refine x_icmp_eq (pc := 1442) (t := 1582) dL_law_1442 (by decide) (fun e => ?_) (fun e => ?_)
  · have h := h.1 e
    exact h
  · have h := h.2 e
    refine x_iconst (pc := 1445) dL_law_1445 ?_
    exact x_zret (pc := 1446) dL_law_1446 rfl hk (Or.inl rfl) h
set_option maxHeartbeats 4000000 in
set_option maxRecDepth 100000 in
theorem b_L_k1447 {G : XG} {S : XS} {k : Nat × Nat} {I : XI} {v3 : Int} {Q : Option Value → XS → XI → Prop} (hS : xSh S) (hk : k.1 ≤ 73020 ∧ k.2 ≤ 8883190) (h : (inb ((v3) + (1)) G.2.2.2.2.2.2.1 ∧ H_giver G S I (G.2.2.2.2.2.2.2 (ix ((v3) + (1)))) (fun r158 I157 => (inb ((v3) + (1)) G.2.2.2.2.2.2.1 ∧ R_giver G S I157 (G.2.2.2.2.2.2.2 (ix ((v3) + (1)))) (fun r160 I159 => ((w32 (r158) = w32 (r160) → L_k1582 G S k I159 (v3) Q) ∧ (¬ (w32 (r158) = w32 (r160)) → Q (some (vi 0)) S I159))))))) : L_k1447 G S k I v3 Q := by
  unfold L_k1447
  refine x_aload_n (pc := 1447) dL_law_1447 rfl rfl ?_
  refine x_aload_n (pc := 1448) dL_law_1448 rfl rfl ?_
  refine x_iload_n (pc := 1449) dL_law_1449 rfl rfl ?_
  refine x_iconst (pc := 1450) dL_law_1450 ?_
  refine x_iadd (pc := 1451) dL_law_1451 ?_
  refine x_scr (pc := 1452) dL_law_1452 h.1 ?_
  have h := h.2
  refine y_Vi (pc := 1453) (i := c_obj) (As := [vi (G.2.2.2.2.2.2.2 (ix ((v3) + (1))))]) (rest := []) ok_X10_giver ml_L_157 dL_law_1453 (sN_c_obj hS) (sT_c_obj hS) (by decide) rfl rfl rfl ⟨rfl, rfl⟩ ⟨by decide, by decide⟩ hk (Nat.le_of_ble_eq_true rfl) rfl h (fun r158 I157 h => ?_)
  refine x_aload_n (pc := 1456) dL_law_1456 rfl rfl ?_
  refine x_aload_n (pc := 1457) dL_law_1457 rfl rfl ?_
  refine x_iload_n (pc := 1458) dL_law_1458 rfl rfl ?_
  refine x_iconst (pc := 1459) dL_law_1459 ?_
  refine x_iadd (pc := 1460) dL_law_1460 ?_
  refine x_scr (pc := 1461) dL_law_1461 h.1 ?_
  have h := h.2
  refine y_Vi (pc := 1462) (i := r_obj) (As := [vi (G.2.2.2.2.2.2.2 (ix ((v3) + (1))))]) (rest := [vi (r158)]) ok_X11_giver ml_L_160 dL_law_1462 (sN_r_obj hS) (sT_r_obj hS) (by decide) rfl rfl rfl ⟨rfl, rfl⟩ ⟨by decide, by decide⟩ hk (Nat.le_of_ble_eq_true rfl) rfl h (fun r160 I159 h => ?_)
  refine x_icmp_eq (pc := 1465) (t := 1582) dL_law_1465 (by decide) (fun e => ?_) (fun e => ?_)
  · have h := h.1 e
    exact h
  · have h := h.2 e
    refine x_iconst (pc := 1468) dL_law_1468 ?_
    exact x_zret (pc := 1469) dL_law_1469 rfl hk (Or.inl rfl) h
set_option maxHeartbeats 4000000 in
set_option maxRecDepth 100000 in
theorem b_L_k1470 {G : XG} {S : XS} {k : Nat × Nat} {I : XI} {v3 : Int} {Q : Option Value → XS → XI → Prop} (hS : xSh S) (hk : k.1 ≤ 73020 ∧ k.2 ≤ 8883190) (h : (inb ((v3) + (1)) G.2.2.2.2.2.2.1 ∧ (inb ((v3) + (2)) G.2.2.2.2.2.2.1 ∧ (inb ((v3) + (3)) G.2.2.2.2.2.2.1 ∧ H_house G S I (G.2.2.2.2.2.2.2 (ix ((v3) + (1)))) (G.2.2.2.2.2.2.2 (ix ((v3) + (2)))) (G.2.2.2.2.2.2.2 (ix ((v3) + (3)))) (fun r162 I161 => (inb ((v3) + (1)) G.2.2.2.2.2.2.1 ∧ (inb ((v3) + (2)) G.2.2.2.2.2.2.1 ∧ (inb ((v3) + (3)) G.2.2.2.2.2.2.1 ∧ R_house G S I161 (G.2.2.2.2.2.2.2 (ix ((v3) + (1)))) (G.2.2.2.2.2.2.2 (ix ((v3) + (2)))) (G.2.2.2.2.2.2.2 (ix ((v3) + (3)))) (fun r164 I163 => ((w32 (r162) = w32 (r164) → L_k1582 G S k I163 (v3) Q) ∧ (¬ (w32 (r162) = w32 (r164)) → Q (some (vi 0)) S I163))))))))))) : L_k1470 G S k I v3 Q := by
  unfold L_k1470
  refine x_aload_n (pc := 1470) dL_law_1470 rfl rfl ?_
  refine x_aload_n (pc := 1471) dL_law_1471 rfl rfl ?_
  refine x_iload_n (pc := 1472) dL_law_1472 rfl rfl ?_
  refine x_iconst (pc := 1473) dL_law_1473 ?_
  refine x_iadd (pc := 1474) dL_law_1474 ?_
  refine x_scr (pc := 1475) dL_law_1475 h.1 ?_
  have h := h.2
  refine x_aload_n (pc := 1476) dL_law_1476 rfl rfl ?_
  refine x_iload_n (pc := 1477) dL_law_1477 rfl rfl ?_
  refine x_iconst (pc := 1478) dL_law_1478 ?_
  refine x_iadd (pc := 1479) dL_law_1479 ?_
  refine x_scr (pc := 1480) dL_law_1480 h.1 ?_
  have h := h.2
  refine x_aload_n (pc := 1481) dL_law_1481 rfl rfl ?_
  refine x_iload_n (pc := 1482) dL_law_1482 rfl rfl ?_
  refine x_iconst (pc := 1483) dL_law_1483 ?_
  refine x_iadd (pc := 1484) dL_law_1484 ?_
  refine x_scr (pc := 1485) dL_law_1485 h.1 ?_
  have h := h.2
  refine y_Vi (pc := 1486) (i := c_obj) (As := [vi (G.2.2.2.2.2.2.2 (ix ((v3) + (1)))), vi (G.2.2.2.2.2.2.2 (ix ((v3) + (2)))), vi (G.2.2.2.2.2.2.2 (ix ((v3) + (3))))]) (rest := []) ok_X10_house ml_L_161 dL_law_1486 (sN_c_obj hS) (sT_c_obj hS) (by decide) rfl rfl rfl ⟨rfl, rfl⟩ ⟨by decide, by decide⟩ hk (Nat.le_of_ble_eq_true rfl) rfl h (fun r162 I161 h => ?_)
  refine x_aload_n (pc := 1489) dL_law_1489 rfl rfl ?_
  refine x_aload_n (pc := 1490) dL_law_1490 rfl rfl ?_
  refine x_iload_n (pc := 1491) dL_law_1491 rfl rfl ?_
  refine x_iconst (pc := 1492) dL_law_1492 ?_
  refine x_iadd (pc := 1493) dL_law_1493 ?_
  refine x_scr (pc := 1494) dL_law_1494 h.1 ?_
  have h := h.2
  refine x_aload_n (pc := 1495) dL_law_1495 rfl rfl ?_
  refine x_iload_n (pc := 1496) dL_law_1496 rfl rfl ?_
  refine x_iconst (pc := 1497) dL_law_1497 ?_
  refine x_iadd (pc := 1498) dL_law_1498 ?_
  refine x_scr (pc := 1499) dL_law_1499 h.1 ?_
  have h := h.2
  refine x_aload_n (pc := 1500) dL_law_1500 rfl rfl ?_
  refine x_iload_n (pc := 1501) dL_law_1501 rfl rfl ?_
  refine x_iconst (pc := 1502) dL_law_1502 ?_
  refine x_iadd (pc := 1503) dL_law_1503 ?_
  refine x_scr (pc := 1504) dL_law_1504 h.1 ?_
  have h := h.2
  refine y_Vi (pc := 1505) (i := r_obj) (As := [vi (G.2.2.2.2.2.2.2 (ix ((v3) + (1)))), vi (G.2.2.2.2.2.2.2 (ix ((v3) + (2)))), vi (G.2.2.2.2.2.2.2 (ix ((v3) + (3))))]) (rest := [vi (r162)]) ok_X11_house ml_L_164 dL_law_1505 (sN_r_obj hS) (sT_r_obj hS) (by decide) rfl rfl rfl ⟨rfl, rfl⟩ ⟨by decide, by decide⟩ hk (Nat.le_of_ble_eq_true rfl) rfl h (fun r164 I163 h => ?_)
  refine x_icmp_eq (pc := 1508) (t := 1582) dL_law_1508 (by decide) (fun e => ?_) (fun e => ?_)
  · have h := h.1 e
    exact h
  · have h := h.2 e
    refine x_iconst (pc := 1511) dL_law_1511 ?_
    exact x_zret (pc := 1512) dL_law_1512 rfl hk (Or.inl rfl) h
set_option maxHeartbeats 4000000 in
set_option maxRecDepth 100000 in
theorem b_L_k1513 {G : XG} {S : XS} {k : Nat × Nat} {I : XI} {v3 : Int} {Q : Option Value → XS → XI → Prop} (hS : xSh S) (hk : k.1 ≤ 73020 ∧ k.2 ≤ 8883190) (h : (inb ((v3) + (1)) G.2.2.2.2.2.2.1 ∧ H_count G S I (G.2.2.2.2.2.2.2 (ix ((v3) + (1)))) (fun r166 I165 => (inb ((v3) + (1)) G.2.2.2.2.2.2.1 ∧ R_count G S I165 (G.2.2.2.2.2.2.2 (ix ((v3) + (1)))) (fun r168 I167 => ((w32 (r166) = w32 (r168) → L_k1582 G S k I167 (v3) Q) ∧ (¬ (w32 (r166) = w32 (r168)) → Q (some (vi 0)) S I167))))))) : L_k1513 G S k I v3 Q := by
  unfold L_k1513
  refine x_aload_n (pc := 1513) dL_law_1513 rfl rfl ?_
  refine x_aload_n (pc := 1514) dL_law_1514 rfl rfl ?_
  refine x_iload_n (pc := 1515) dL_law_1515 rfl rfl ?_
  refine x_iconst (pc := 1516) dL_law_1516 ?_
  refine x_iadd (pc := 1517) dL_law_1517 ?_
  refine x_scr (pc := 1518) dL_law_1518 h.1 ?_
  have h := h.2
  refine y_Vi (pc := 1519) (i := c_obj) (As := [vi (G.2.2.2.2.2.2.2 (ix ((v3) + (1))))]) (rest := []) ok_X10_count ml_L_165 dL_law_1519 (sN_c_obj hS) (sT_c_obj hS) (by decide) rfl rfl rfl ⟨rfl, rfl⟩ ⟨by decide, by decide⟩ hk (Nat.le_of_ble_eq_true rfl) rfl h (fun r166 I165 h => ?_)
  refine x_aload_n (pc := 1522) dL_law_1522 rfl rfl ?_
  refine x_aload_n (pc := 1523) dL_law_1523 rfl rfl ?_
  refine x_iload_n (pc := 1524) dL_law_1524 rfl rfl ?_
  refine x_iconst (pc := 1525) dL_law_1525 ?_
  refine x_iadd (pc := 1526) dL_law_1526 ?_
  refine x_scr (pc := 1527) dL_law_1527 h.1 ?_
  have h := h.2
  refine y_Vi (pc := 1528) (i := r_obj) (As := [vi (G.2.2.2.2.2.2.2 (ix ((v3) + (1))))]) (rest := [vi (r166)]) ok_X11_count ml_L_168 dL_law_1528 (sN_r_obj hS) (sT_r_obj hS) (by decide) rfl rfl rfl ⟨rfl, rfl⟩ ⟨by decide, by decide⟩ hk (Nat.le_of_ble_eq_true rfl) rfl h (fun r168 I167 h => ?_)
  refine x_icmp_eq (pc := 1531) (t := 1582) dL_law_1531 (by decide) (fun e => ?_) (fun e => ?_)
  · have h := h.1 e
    exact h
  · have h := h.2 e
    refine x_iconst (pc := 1534) dL_law_1534 ?_
    exact x_zret (pc := 1535) dL_law_1535 rfl hk (Or.inl rfl) h
set_option maxHeartbeats 4000000 in
set_option maxRecDepth 100000 in
theorem b_L_k1536 {G : XG} {S : XS} {k : Nat × Nat} {I : XI} {v3 : Int} {Q : Option Value → XS → XI → Prop} (hS : xSh S) (hk : k.1 + 43 ≤ 73020 ∧ k.2 + 2860 ≤ 8883190) (h : (inb ((v3) + (1)) G.2.2.2.2.2.2.1 ∧ Mw G mX10_image [vr G c_obj, vi (G.2.2.2.2.2.2.2 (ix ((v3) + (1))))] S I (fun v9 S171 I169 => ∃ r170, v9 = some (vi r170) ∧ xSh S171 ∧ (inb ((v3) + (1)) G.2.2.2.2.2.2.1 ∧ R_image G S171 I169 (G.2.2.2.2.2.2.2 (ix ((v3) + (1)))) (fun r173 I172 => ((w32 (r170) = w32 (r173) → L_k1582 G S171 (k.1 + 43, k.2 + 2860) I172 (v3) Q) ∧ (¬ (w32 (r170) = w32 (r173)) → Q (some (vi 0)) S171 I172))))))) : L_k1536 G S k I v3 Q := by
  unfold L_k1536
  refine x_aload_n (pc := 1536) dL_law_1536 rfl rfl ?_
  refine x_aload_n (pc := 1537) dL_law_1537 rfl rfl ?_
  refine x_iload_n (pc := 1538) dL_law_1538 rfl rfl ?_
  refine x_iconst (pc := 1539) dL_law_1539 ?_
  refine x_iadd (pc := 1540) dL_law_1540 ?_
  refine x_scr (pc := 1541) dL_law_1541 h.1 ?_
  have h := h.2
  refine x_callV (pc := 1542) (i := c_obj) (As := [vi (G.2.2.2.2.2.2.2 (ix ((v3) + (1))))]) (rest := []) ok_X10_image ml_L_169 dL_law_1542 (sN_c_obj hS) (sT_c_obj hS) (by decide) rfl rfl rfl ⟨⟨by decide, by decide⟩, hk.1, hk.2⟩ (Nat.le_of_ble_eq_true rfl) rfl h (fun v9 S171 I169 h => ?_)
  obtain ⟨r170, rfl, hS, h⟩ := h
  refine (?_ : Xw G mL (k.1 + 43, k.2 + 2860) 1545 [some (vb G), some (vr G c_obj), some (vr G r_obj), some (vi (v3))] (vi r170 :: []) S171 I169 Q)
  have hk : (k.1 + 43, k.2 + 2860).1 ≤ 73020 ∧ (k.1 + 43, k.2 + 2860).2 ≤ 8883190 := hk
  refine x_aload_n (pc := 1545) dL_law_1545 rfl rfl ?_
  refine x_aload_n (pc := 1546) dL_law_1546 rfl rfl ?_
  refine x_iload_n (pc := 1547) dL_law_1547 rfl rfl ?_
  refine x_iconst (pc := 1548) dL_law_1548 ?_
  refine x_iadd (pc := 1549) dL_law_1549 ?_
  refine x_scr (pc := 1550) dL_law_1550 h.1 ?_
  have h := h.2
  refine y_Vi (pc := 1551) (i := r_obj) (As := [vi (G.2.2.2.2.2.2.2 (ix ((v3) + (1))))]) (rest := [vi (r170)]) ok_X11_image ml_L_172 dL_law_1551 (sN_r_obj hS) (sT_r_obj hS) (by decide) rfl rfl rfl ⟨rfl, rfl⟩ ⟨by decide, by decide⟩ hk (Nat.le_of_ble_eq_true rfl) rfl h (fun r173 I172 h => ?_)
  refine x_icmp_eq (pc := 1554) (t := 1582) dL_law_1554 (by decide) (fun e => ?_) (fun e => ?_)
  · have h := h.1 e
    exact h
  · have h := h.2 e
    refine x_iconst (pc := 1557) dL_law_1557 ?_
    exact x_zret (pc := 1558) dL_law_1558 rfl hk (Or.inl rfl) h
set_option maxHeartbeats 4000000 in
set_option maxRecDepth 100000 in
theorem b_L_k1559 {G : XG} {S : XS} {k : Nat × Nat} {I : XI} {v3 : Int} {Q : Option Value → XS → XI → Prop} (hS : xSh S) (hk : k.1 ≤ 73020 ∧ k.2 ≤ 8883190) (h : (inb ((v3) + (1)) G.2.2.2.2.2.2.1 ∧ H_again G S I (G.2.2.2.2.2.2.2 (ix ((v3) + (1)))) (fun r175 I174 => (inb ((v3) + (1)) G.2.2.2.2.2.2.1 ∧ R_again G S I174 (G.2.2.2.2.2.2.2 (ix ((v3) + (1)))) (fun r177 I176 => ((w32 (r175) = w32 (r177) → L_k1582 G S k I176 (v3) Q) ∧ (¬ (w32 (r175) = w32 (r177)) → Q (some (vi 0)) S I176))))))) : L_k1559 G S k I v3 Q := by
  unfold L_k1559
  refine x_aload_n (pc := 1559) dL_law_1559 rfl rfl ?_
  refine x_aload_n (pc := 1560) dL_law_1560 rfl rfl ?_
  refine x_iload_n (pc := 1561) dL_law_1561 rfl rfl ?_
  refine x_iconst (pc := 1562) dL_law_1562 ?_
  refine x_iadd (pc := 1563) dL_law_1563 ?_
  refine x_scr (pc := 1564) dL_law_1564 h.1 ?_
  have h := h.2
  refine y_Vi (pc := 1565) (i := c_obj) (As := [vi (G.2.2.2.2.2.2.2 (ix ((v3) + (1))))]) (rest := []) ok_X10_again ml_L_173 dL_law_1565 (sN_c_obj hS) (sT_c_obj hS) (by decide) rfl rfl rfl ⟨rfl, rfl⟩ ⟨by decide, by decide⟩ hk (Nat.le_of_ble_eq_true rfl) rfl h (fun r175 I174 h => ?_)
  refine x_aload_n (pc := 1568) dL_law_1568 rfl rfl ?_
  refine x_aload_n (pc := 1569) dL_law_1569 rfl rfl ?_
  refine x_iload_n (pc := 1570) dL_law_1570 rfl rfl ?_
  refine x_iconst (pc := 1571) dL_law_1571 ?_
  refine x_iadd (pc := 1572) dL_law_1572 ?_
  refine x_scr (pc := 1573) dL_law_1573 h.1 ?_
  have h := h.2
  refine y_Vi (pc := 1574) (i := r_obj) (As := [vi (G.2.2.2.2.2.2.2 (ix ((v3) + (1))))]) (rest := [vi (r175)]) ok_X11_again ml_L_176 dL_law_1574 (sN_r_obj hS) (sT_r_obj hS) (by decide) rfl rfl rfl ⟨rfl, rfl⟩ ⟨by decide, by decide⟩ hk (Nat.le_of_ble_eq_true rfl) rfl h (fun r177 I176 h => ?_)
  refine x_icmp_eq (pc := 1577) (t := 1582) dL_law_1577 (by decide) (fun e => ?_) (fun e => ?_)
  · have h := h.1 e
    exact h
  · have h := h.2 e
    refine x_iconst (pc := 1580) dL_law_1580 ?_
    exact x_zret (pc := 1581) dL_law_1581 rfl hk (Or.inl rfl) h
set_option maxHeartbeats 4000000 in
set_option maxRecDepth 100000 in
theorem b_L_k1582 {G : XG} {S : XS} {k : Nat × Nat} {I : XI} {v3 : Int} {Q : Option Value → XS → XI → Prop} (hS : xSh S) (hk : k.1 ≤ 73020 ∧ k.2 ≤ 8883190) (h : L_k18 G S k I ((v3) + 6) Q) : L_k1582 G S k I v3 Q := by
  unfold L_k1582
  refine x_iinc (pc := 1582) (L' := [some (vb G), some (vr G c_obj), some (vr G r_obj), some (vi ((v3) + 6))]) dL_law_1582 rfl (by decide) (xst1 rfl rfl rfl) ?_
  refine x_goto (pc := 1585) (t := 18) dL_law_1585 (by decide) ?_
  exact h
