/-! the law, from the head of its loop -/
set_option maxHeartbeats 8000000 in
set_option maxRecDepth 20000 in
theorem lw_18 (n : Nat) (s : Int → Int) (hn : n < 2 ^ 31) (hs : ∀ j, inR (s j)) {σ : Mem} {i : Int} (hR : REL σ) (h0 : 0 ≤ i) (h1 : i ≤ n) : wp (lawM n s) CL_law (lawC n) (fun k' => k' < 2 * ((n : Int) + 10 - i).toNat + 1) (Kr (some .boolean) lawK) 60 (drp 18 CL_law) [some (.inr (.inl (56, 0))), some (.inr (.inl (6, 0))), some (.inr (.inl (7, 0))), some (.inl i)] [] σ := by
  simp only [wp, stp, entL, eL, lget, lset, okst, cnd, swt, rcv, Kr_int, Kr_bool, Kr_void, List.length_cons, List.length_nil, List.replicate, List.append_nil, List.cons_append, List.nil_append, List.take_succ_cons, List.take_zero, List.drop_succ_cons, List.drop_zero, List.reverse_cons, List.reverse_nil, Option.map_some, Option.map_none, Option.toList_some, Option.toList_none, Nat.reduceAdd, Nat.reduceSub, Nat.reduceLT, Nat.reduceLeDiff, Nat.reduceEqDiff, ↓reduceIte, Nat.add_zero, Nat.zero_add, true_and, and_true, Nat.le_refl, reduceCtorEq, false_implies, true_implies, not_true_eq_false, not_false_eq_true, Int.reduceAdd, Int.reduceSub, Int.reduceMul, Int.reduceLE, Int.reduceLT, Int.reduceEq, Int.reduceNe, Int.reduceNeg, Int.reduceDiv, Int.reduceMod, Bool.false_eq_true, Int.le_refl, and_self, true_or, or_true, inR_l, fv0, fv1, fv2, fv3, nc2, nc4, nc6, nc16, nc25, nc60, nc65, nc80, nc130, nc384, nc390, fp_0_0, fp_0_1, fp_0_2, fp_1_0, fp_1_1, fp_1_2, fp_1_3, fp_1_4, fp_1_5, fp_1_6, fp_1_7, fp_1_8, fp_1_9, fp_1_10, fp_1_11, fp_1_12, fp_1_13, fp_1_14, fp_2_0, fp_2_1, fp_2_2, fp_2_3, fp_3_0, fp_3_1, fp_4_0, fp_4_1, fp_4_2, fp_4_3, fp_4_4, fp_4_5, fp_4_6, fp_4_7, fp_5_0, fp_5_1, fp_5_2, fp_5_3, fp_5_4, fp_5_5, fp_5_6, fp_5_7, fp_6_0, fp_6_1, fp_6_2, fp_6_3, fp_6_4, fp_6_5, fp_6_6, fp_6_7, fp_6_8, fp_6_9, fp_6_10, fp_6_11, fp_6_12, fp_6_13, fp_6_14, fp_6_15, fp_7_0, fp_7_1, fp_7_2, fp_7_3, fp_7_4, fp_7_5, fp_7_6, fp_7_7, fp_7_8, fp_7_9, fp_7_10, fp_7_11, fp_7_12, fp_7_13, fp_7_14, fp_7_15, fp_7_16, fp_7_17, fp_7_18, fp_7_19, fp_7_20, fp_7_21, fp_7_22, fp_7_23, fp_7_24, iz_0_1, iz_0_2, iz_1_8, iz_1_9, iz_1_11, iz_2_1, iz_2_2, iz_2_3, iz_3_1, iz_4_1, iz_4_2, iz_5_0, iz_6_8, iz_6_9, iz_6_13, iz_6_14, iz_6_15, iz_7_2, iz_7_6, iz_7_12, iz_7_20, iz_7_21, iz_7_23, iz_7_24, ak_8, ak_9, ak_10, ak_11, ak_12, ak_13, ak_14, ak_15, ak_16, ak_17, ak_18, ak_19, ak_20, ak_21, ak_22, ak_23, ak_24, ak_25, ak_26, ak_27, ak_28, ak_29, ak_30, ak_31, ak_32, ak_33, ak_34, ak_35, ak_36, ak_37, ak_38, ak_39, ak_40, ak_41, ak_42, ak_43, ak_44, ak_45, ak_46, ak_47, ak_48, ak_49, ak_50, ak_51, ak_52, ak_53, ak_54, ak_55, ak_56, el31, el33, el34, cw_18, cw_19, cw_20, cw_21, cw_22, cw_23, cw_26, cw_27, cw_28, cw_29, cw_31, cw_32, cw_148, cw_181, cw_224, cw_257, cw_290, cw_303, cw_316, cw_329, cw_362, cw_385, cw_418, cw_451, cw_474, cw_497, cw_520, cw_563, cw_596, cw_649, cw_702, cw_715, cw_738, cw_751, cw_764, cw_777, cw_800, cw_823, cw_826, cw_829, cw_830, dw_18, dw_823, dw_829, lawM, ak_56, la_1, la_2, la_3, la_4, la_5, lb_1, lb_2, lb_3, lb_4, lb_5, kcL, klL]
  have J : i + 5 ≤ n → ∃ k, k < 2 * ((n : Int) + 10 - i).toNat + 1 ∧ lawJ n [some (.inr (.inl (56, 0))), some (.inr (.inl (6, 0))), some (.inr (.inl (7, 0))), some (.inl i)] [] σ k := fun z => ⟨2 * ((n : Int) + 10 - i).toNat, by omega, i, rfl, rfl, hR, h0, z, rfl⟩
  have I : i + 5 ≤ n → inR (i + 5) ∧ ∃ k, k < 2 * ((n : Int) + 10 - i).toNat + 1 ∧ lawI n [some (.inr (.inl (56, 0))), some (.inr (.inl (6, 0))), some (.inr (.inl (7, 0))), some (.inl (i + 5))] [] σ k := fun z => ⟨by constructor <;> omega, 2 * ((n : Int) + 10 - (i + 5)).toNat + 1, by omega, i + 5, rfl, rfl, hR, by omega, by omega, rfl⟩
  refine ⟨by constructor <;> omega, fun _ => rfl, fun z => ⟨by omega, ?_⟩⟩
  have z5 : i + 5 ≤ n := by omega
  have J := J z5
  have I := I z5
  exact ⟨⟨fun _ => J, fun _ => J, fun _ => J, fun _ => J, fun _ => J, fun _ => J, fun _ => J, fun _ => J, fun _ => J, fun _ => J, fun _ => J, fun _ => J, fun _ => J, fun _ => J, fun _ => J, fun _ => J, fun _ => J, fun _ => J, fun _ => J, fun _ => J, fun _ => J, fun _ => J, fun _ => J, fun _ => J, fun _ => J⟩, fun _ => I⟩
set_option maxRecDepth 100000 in
theorem law_step (n : Nat) (s : Int → Int) (hn : n < 2 ^ 31) (hs : ∀ j, inR (s j)) : ∀ pc I L S σ k, lawC n pc = some I → I L S σ k → wp (lawM n s) CL_law (lawC n) (fun k' => k' < k) (Kr (some .boolean) lawK) 60 (drp pc CL_law) L S σ := by
  intro pc I L S σ k hcut hi
  unfold lawC at hcut
  split at hcut
  · rename_i hpc
    subst hpc
    cases hcut
    obtain ⟨i, rfl, rfl, hR, h0, h1, rfl⟩ := hi
    exact lw_18 n s hn hs hR h0 h1
  · split at hcut
    · rename_i hb
      cases hcut
      obtain ⟨i, rfl, rfl, hR, h0, h1, rfl⟩ := hi
      by_cases z0 : pc = 148
      · subst z0
        exact lw_b0 n s hn hs hR h0 h1
      by_cases z1 : pc = 181
      · subst z1
        exact lw_b1 n s hn hs hR h0 h1
      by_cases z2 : pc = 224
      · subst z2
        exact lw_b2 n s hn hs hR h0 h1
      by_cases z3 : pc = 257
      · subst z3
        exact lw_b3 n s hn hs hR h0 h1
      by_cases z4 : pc = 290
      · subst z4
        exact lw_b4 n s hn hs hR h0 h1
      by_cases z5 : pc = 303
      · subst z5
        exact lw_b5 n s hn hs hR h0 h1
      by_cases z6 : pc = 316
      · subst z6
        exact lw_b6 n s hn hs hR h0 h1
      by_cases z7 : pc = 329
      · subst z7
        exact lw_b7 n s hn hs hR h0 h1
      by_cases z8 : pc = 362
      · subst z8
        exact lw_b8 n s hn hs hR h0 h1
      by_cases z9 : pc = 385
      · subst z9
        exact lw_b9 n s hn hs hR h0 h1
      by_cases z10 : pc = 418
      · subst z10
        exact lw_b10 n s hn hs hR h0 h1
      by_cases z11 : pc = 451
      · subst z11
        exact lw_b11 n s hn hs hR h0 h1
      by_cases z12 : pc = 474
      · subst z12
        exact lw_b12 n s hn hs hR h0 h1
      by_cases z13 : pc = 497
      · subst z13
        exact lw_b13 n s hn hs hR h0 h1
      by_cases z14 : pc = 520
      · subst z14
        exact lw_b14 n s hn hs hR h0 h1
      by_cases z15 : pc = 563
      · subst z15
        exact lw_b15 n s hn hs hR h0 h1
      by_cases z16 : pc = 596
      · subst z16
        exact lw_b16 n s hn hs hR h0 h1
      by_cases z17 : pc = 649
      · subst z17
        exact lw_b17 n s hn hs hR h0 h1
      by_cases z18 : pc = 702
      · subst z18
        exact lw_b18 n s hn hs hR h0 h1
      by_cases z19 : pc = 715
      · subst z19
        exact lw_b19 n s hn hs hR h0 h1
      by_cases z20 : pc = 738
      · subst z20
        exact lw_b20 n s hn hs hR h0 h1
      by_cases z21 : pc = 751
      · subst z21
        exact lw_b21 n s hn hs hR h0 h1
      by_cases z22 : pc = 764
      · subst z22
        exact lw_b22 n s hn hs hR h0 h1
      by_cases z23 : pc = 777
      · subst z23
        exact lw_b23 n s hn hs hR h0 h1
      by_cases z24 : pc = 800
      · subst z24
        exact lw_b24 n s hn hs hR h0 h1
      unfold lawB at hb
      simp only [Bool.or_eq_true, beq_iff_eq] at hb
      omega
    · cases hcut
/-- from the head of the loop on, with the two sides related -/
theorem law_head (n : Nat) (s : Int → Int) {σ : Mem} (hR : REL σ) : wp (lawM n s) CL_law (lawC n) (fun _ => True) (Kr (some .boolean) lawK) 60 (drp 16 CL_law) [some (.inr (.inl (56, 0))), some (.inr (.inl (6, 0))), some (.inr (.inl (7, 0))), none] [] σ := by
  simp only [wp, stp, entL, eL, lget, lset, okst, cnd, swt, rcv, Kr_int, Kr_bool, Kr_void, List.length_cons, List.length_nil, List.replicate, List.append_nil, List.cons_append, List.nil_append, List.take_succ_cons, List.take_zero, List.drop_succ_cons, List.drop_zero, List.reverse_cons, List.reverse_nil, Option.map_some, Option.map_none, Option.toList_some, Option.toList_none, Nat.reduceAdd, Nat.reduceSub, Nat.reduceLT, Nat.reduceLeDiff, Nat.reduceEqDiff, ↓reduceIte, Nat.add_zero, Nat.zero_add, true_and, and_true, Nat.le_refl, reduceCtorEq, false_implies, true_implies, not_true_eq_false, not_false_eq_true, Int.reduceAdd, Int.reduceSub, Int.reduceMul, Int.reduceLE, Int.reduceLT, Int.reduceEq, Int.reduceNe, Int.reduceNeg, Int.reduceDiv, Int.reduceMod, Bool.false_eq_true, Int.le_refl, and_self, true_or, or_true, inR_l, fv0, fv1, fv2, fv3, nc2, nc4, nc6, nc16, nc25, nc60, nc65, nc80, nc130, nc384, nc390, fp_0_0, fp_0_1, fp_0_2, fp_1_0, fp_1_1, fp_1_2, fp_1_3, fp_1_4, fp_1_5, fp_1_6, fp_1_7, fp_1_8, fp_1_9, fp_1_10, fp_1_11, fp_1_12, fp_1_13, fp_1_14, fp_2_0, fp_2_1, fp_2_2, fp_2_3, fp_3_0, fp_3_1, fp_4_0, fp_4_1, fp_4_2, fp_4_3, fp_4_4, fp_4_5, fp_4_6, fp_4_7, fp_5_0, fp_5_1, fp_5_2, fp_5_3, fp_5_4, fp_5_5, fp_5_6, fp_5_7, fp_6_0, fp_6_1, fp_6_2, fp_6_3, fp_6_4, fp_6_5, fp_6_6, fp_6_7, fp_6_8, fp_6_9, fp_6_10, fp_6_11, fp_6_12, fp_6_13, fp_6_14, fp_6_15, fp_7_0, fp_7_1, fp_7_2, fp_7_3, fp_7_4, fp_7_5, fp_7_6, fp_7_7, fp_7_8, fp_7_9, fp_7_10, fp_7_11, fp_7_12, fp_7_13, fp_7_14, fp_7_15, fp_7_16, fp_7_17, fp_7_18, fp_7_19, fp_7_20, fp_7_21, fp_7_22, fp_7_23, fp_7_24, iz_0_1, iz_0_2, iz_1_8, iz_1_9, iz_1_11, iz_2_1, iz_2_2, iz_2_3, iz_3_1, iz_4_1, iz_4_2, iz_5_0, iz_6_8, iz_6_9, iz_6_13, iz_6_14, iz_6_15, iz_7_2, iz_7_6, iz_7_12, iz_7_20, iz_7_21, iz_7_23, iz_7_24, ak_8, ak_9, ak_10, ak_11, ak_12, ak_13, ak_14, ak_15, ak_16, ak_17, ak_18, ak_19, ak_20, ak_21, ak_22, ak_23, ak_24, ak_25, ak_26, ak_27, ak_28, ak_29, ak_30, ak_31, ak_32, ak_33, ak_34, ak_35, ak_36, ak_37, ak_38, ak_39, ak_40, ak_41, ak_42, ak_43, ak_44, ak_45, ak_46, ak_47, ak_48, ak_49, ak_50, ak_51, ak_52, ak_53, ak_54, ak_55, ak_56, el31, el33, el34, cw_17, cw_18, dw_16, dw_823, dw_829, lawM, ak_56, la_1, la_2, la_3, la_4, la_5, lb_1, lb_2, lb_3, lb_4, lb_5, kcL, klL, dw_16]
  exact ⟨_, 0, rfl, rfl, hR, Int.le_refl 0, by omega, rfl⟩
