/-- the tail of o, over the first j jobs behind -/
def TI (σ : Mem) (n : Nat) (o r j : Int) : Prop := 0 ≤ r ∧ (o % 4 + 1 < σ 15 n (o / 4) → σ 17 n (o + 1) + σ 22 n (o + 1) ≤ r) ∧ (∀ k, 0 ≤ k → k < j → 0 ≤ oN σ n o k → hasB (σ 20 n (oN σ n o k)) (o / 4) → tE σ n o k ≤ r) ∧ (r = 0 ∨ (o % 4 + 1 < σ 15 n (o / 4) ∧ r = σ 17 n (o + 1) + σ 22 n (o + 1)) ∨ ∃ k, 0 ≤ k ∧ k < 4 ∧ 0 ≤ oN σ n o k ∧ hasB (σ 20 n (oN σ n o k)) (o / 4) ∧ r = tE σ n o k)
theorem TI_4 {σ : Mem} {n : Nat} {o r j : Int} (h : TI σ n o r j) (hz : 4 ≤ j) : TI σ n o r 4 := ⟨h.1, h.2.1, fun k a b c => h.2.2.1 k a (by omega) c, h.2.2.2⟩
theorem TI_n {σ : Mem} {n : Nat} {o r j : Int} (h : TI σ n o r j) (hb : σ 19 n (4 * σ 16 n o + j) < 0) : TI σ n o r (j + 1) := ⟨h.1, h.2.1, fun k a b c d => by
  rcases (show k < j ∨ k = j by omega) with q | rfl
  · exact h.2.2.1 k a q c d
  · exact absurd c (by show ¬ 0 ≤ σ 19 n (4 * σ 16 n o + k); omega), h.2.2.2⟩
theorem TI_skip {σ : Mem} {n : Nat} {o r j : Int} (h : TI σ n o r j) (hb : ¬ hasB (σ 20 n (σ 19 n (4 * σ 16 n o + j))) (o / 4)) : TI σ n o r (j + 1) := ⟨h.1, h.2.1, fun k a b c d => by
  rcases (show k < j ∨ k = j by omega) with q | rfl
  · exact h.2.2.1 k a q c d
  · exact absurd d hb, h.2.2.2⟩
theorem TI_keep {σ : Mem} {n : Nat} {o r j : Int} (h : TI σ n o r j) (hb : σ 17 n (σ 19 n (4 * σ 16 n o + j)) + σ 22 n (σ 19 n (4 * σ 16 n o + j)) ≤ r) : TI σ n o r (j + 1) := ⟨h.1, h.2.1, fun k a b c d => by
  rcases (show k < j ∨ k = j by omega) with q | rfl
  · exact h.2.2.1 k a q c d
  · exact hb, h.2.2.2⟩
theorem TI_take {σ : Mem} {n : Nat} {o r j : Int} (h : TI σ n o r j) (h0 : 0 ≤ j) (h1 : ¬ 4 ≤ j) (hn : ¬ σ 19 n (4 * σ 16 n o + j) < 0) (hb : ¬ ¬ hasB (σ 20 n (σ 19 n (4 * σ 16 n o + j))) (o / 4)) (hc : ¬ σ 17 n (σ 19 n (4 * σ 16 n o + j)) + σ 22 n (σ 19 n (4 * σ 16 n o + j)) ≤ r) : TI σ n o (σ 17 n (σ 19 n (4 * σ 16 n o + j)) + σ 22 n (σ 19 n (4 * σ 16 n o + j))) (j + 1) := by
  obtain ⟨a1, a2, a3, a4⟩ := h
  refine ⟨by omega, fun q => by have := a2 q; omega, fun k a b c d => ?_, Or.inr (Or.inr ⟨j, h0, by omega, by show 0 ≤ σ 19 n (4 * σ 16 n o + j); omega, Classical.not_not.mp hb, rfl⟩)⟩
  rcases (show k < j ∨ k = j by omega) with q | rfl
  · have := a3 k a q c d
    omega
  · exact Int.le_refl _
theorem TI_a {σ : Mem} {n : Nat} {o : Int} (h : σ 15 n (o / 4) ≤ o % 4 + 1) : TI σ n o 0 0 := ⟨Int.le_refl _, fun q => absurd q (by omega), fun k a b => by omega, Or.inl rfl⟩
theorem TI_b {σ : Mem} {n : Nat} {o : Int} (h : ¬ σ 15 n (o / 4) ≤ o % 4 + 1) (h2 : 0 ≤ σ 17 n (o + 1) + σ 22 n (o + 1)) : TI σ n o (σ 17 n (o + 1) + σ 22 n (o + 1)) 0 := ⟨h2, fun q => Int.le_refl _, fun k a b => by omega, Or.inr (Or.inl ⟨by omega, rfl⟩)⟩
def ca_X1_tailOf : Nat → Option (Nat × Nat × Tr) := fun _ => none
theorem cao_X1_tailOf (l : Launch) : ∀ k n' ci T', ca_X1_tailOf k = some (n', ci, T') → ∃ nn, nn + 1 ≤ 0 ∧ Site l yX1_tailOf.cls k n' ci nn T' := by
  intro k n' ci T' h
  cases h
def T_X1_tailOf : Tr := fun a σ K => match a with
  | [.inr (.inl (1, n)), .inl o] => (0 ≤ o ∧ o < 16 ∧ 0 ≤ σ 16 n o ∧ σ 16 n o < 4 ∧ σ 15 n (o / 4) ≤ 4 ∧ (o % 4 + 1 < σ 15 n (o / 4) → 0 ≤ σ 17 n (o + 1) + σ 22 n (o + 1) ∧ inR (σ 17 n (o + 1) + σ 22 n (o + 1))) ∧ (∀ k, 0 ≤ k → k < 4 → σ 19 n (4 * σ 16 n o + k) < 16 ∧ (0 ≤ σ 19 n (4 * σ 16 n o + k) → hasB (σ 20 n (σ 19 n (4 * σ 16 n o + k))) (o / 4) → inR (σ 17 n (σ 19 n (4 * σ 16 n o + k)) + σ 22 n (σ 19 n (4 * σ 16 n o + k)))))) ∧ ∀ r, TI σ n o r 4 → K (some r) σ
  | _ => False
set_option maxHeartbeats 8000000 in
set_option maxRecDepth 20000 in
theorem k_X1_tailOf (l : Launch) : Ct l yX1_tailOf cX1_tailOf 7 (some .int) 0 T_X1_tailOf := by
  refine mk_met (by decide +kernel) hCX1_tailOf lCX1_tailOf frX1_ok cstX1_ok (cao_X1_tailOf l) ?_ ?_
  · intro a σ K h
    unfold T_X1_tailOf at h
    split at h
    · simp [eL]
    · exact h.elim
  · intro a σ K ha hR h
    unfold T_X1_tailOf at h
    split at h
    · rename_i n o
      refine ⟨fun pc => if pc = 41 then some (fun L S σ' k => match L, S with | [some (.inr (.inl c1)), some (.inl o'), some (.inl jb), some (.inl r), some (.inl j), _, _], [] => (c1 = (1, n) ∧ o' = o ∧ jb = o / 4 ∧ σ' = σ ∧ 0 ≤ j ∧ j ≤ 4 ∧ TI σ n o r j) ∧ k = (4 - j).toNat | _, _ => False) else none, 200, ?_, ?_⟩
      · intro pc I L S σ' k hcut hi
        dsimp only at hcut
        split at hcut
        · rename_i hpc
          subst hpc
          cases hcut
          try dsimp only at hi
          split at hi
          · rename_i c1 o' jb r j x1 x2
            obtain ⟨hi, rfl⟩ := hi
            obtain ⟨rfl, rfl, rfl, rfl, h0, h1, h2⟩ := hi
            obtain ⟨⟨p1, p2, p3, p4, p5, p6, p7⟩, h⟩ := h
            simp only [wp, stp, drp, entL, eL, lget, lset, okst, cnd, swt, rcv, Kr_int, Kr_bool, Kr_void, List.length_cons, List.length_nil, List.replicate, List.append_nil, List.cons_append, List.nil_append, List.take_succ_cons, List.take_zero, List.drop_succ_cons, List.drop_zero, List.reverse_cons, List.reverse_nil, Option.map_some, Option.map_none, Option.toList_some, Option.toList_none, Nat.reduceAdd, Nat.reduceSub, Nat.reduceLT, Nat.reduceLeDiff, Nat.reduceEqDiff, ↓reduceIte, Nat.add_zero, Nat.zero_add, true_and, and_true, Nat.le_refl, reduceCtorEq, false_implies, true_implies, not_true_eq_false, not_false_eq_true, Int.reduceAdd, Int.reduceSub, Int.reduceMul, Int.reduceLE, Int.reduceLT, Int.reduceEq, Int.reduceNe, Int.reduceNeg, Int.reduceDiv, Int.reduceMod, Bool.false_eq_true, Int.le_refl, and_self, true_or, or_true, inR_l, fv0, fv1, fv2, fv3, nc2, nc4, nc6, nc16, nc25, nc60, nc65, nc80, nc130, nc384, nc390, fp_0_0, fp_0_1, fp_0_2, fp_1_0, fp_1_1, fp_1_2, fp_1_3, fp_1_4, fp_1_5, fp_1_6, fp_1_7, fp_1_8, fp_1_9, fp_1_10, fp_1_11, fp_1_12, fp_1_13, fp_1_14, fp_2_0, fp_2_1, fp_2_2, fp_2_3, fp_3_0, fp_3_1, fp_4_0, fp_4_1, fp_4_2, fp_4_3, fp_4_4, fp_4_5, fp_4_6, fp_4_7, fp_5_0, fp_5_1, fp_5_2, fp_5_3, fp_5_4, fp_5_5, fp_5_6, fp_5_7, fp_6_0, fp_6_1, fp_6_2, fp_6_3, fp_6_4, fp_6_5, fp_6_6, fp_6_7, fp_6_8, fp_6_9, fp_6_10, fp_6_11, fp_6_12, fp_6_13, fp_6_14, fp_6_15, fp_7_0, fp_7_1, fp_7_2, fp_7_3, fp_7_4, fp_7_5, fp_7_6, fp_7_7, fp_7_8, fp_7_9, fp_7_10, fp_7_11, fp_7_12, fp_7_13, fp_7_14, fp_7_15, fp_7_16, fp_7_17, fp_7_18, fp_7_19, fp_7_20, fp_7_21, fp_7_22, fp_7_23, fp_7_24, iz_0_1, iz_0_2, iz_1_8, iz_1_9, iz_1_11, iz_2_1, iz_2_2, iz_2_3, iz_3_1, iz_4_1, iz_4_2, iz_5_0, iz_6_8, iz_6_9, iz_6_13, iz_6_14, iz_6_15, iz_7_2, iz_7_6, iz_7_12, iz_7_20, iz_7_21, iz_7_23, iz_7_24, ak_8, ak_9, ak_10, ak_11, ak_12, ak_13, ak_14, ak_15, ak_16, ak_17, ak_18, ak_19, ak_20, ak_21, ak_22, ak_23, ak_24, ak_25, ak_26, ak_27, ak_28, ak_29, ak_30, ak_31, ak_32, ak_33, ak_34, ak_35, ak_36, ak_37, ak_38, ak_39, ak_40, ak_41, ak_42, ak_43, ak_44, ak_45, ak_46, ak_47, ak_48, ak_49, ak_50, ak_51, ak_52, ak_53, ak_54, ak_55, ak_56, el31, el33, el34, CX1_tailOf, ca_X1_tailOf, frX1, kcX1, klX1, hasB_def, exists_eq_right_right, exists_eq_right, exists_eq_left, Nat.lt_irrefl, and_self, implies_true, forall_const]
            refine ⟨fun b => h _ (TI_4 h2 b), fun b => ?_⟩
            obtain ⟨q2, q3⟩ := p7 j h0 (by omega)
            refine ⟨⟨p1, p2⟩, ⟨by omega, by omega⟩, ⟨by omega, by omega⟩, ⟨by omega, by omega⟩, fun d => ⟨⟨by omega, by omega⟩, by omega, by omega, by omega, TI_n h2 d⟩, fun d => ⟨⟨by omega, q2⟩, fun c => ⟨⟨by omega, by omega⟩, by omega, by omega, by omega, TI_skip h2 c⟩, fun c => ⟨⟨by omega, q2⟩, ⟨by omega, q2⟩, q3 (by omega) (Classical.not_not.mp c), fun e => ⟨⟨by omega, by omega⟩, by omega, by omega, by omega, TI_keep h2 e⟩, fun e => ⟨⟨by omega, by omega⟩, by omega, by omega, by omega, TI_take h2 h0 b d c e⟩⟩⟩⟩
          · exact hi.elim
        · cases hcut
      · simp only [wp, stp, drp, entL, eL, lget, lset, okst, cnd, swt, rcv, Kr_int, Kr_bool, Kr_void, List.length_cons, List.length_nil, List.replicate, List.append_nil, List.cons_append, List.nil_append, List.take_succ_cons, List.take_zero, List.drop_succ_cons, List.drop_zero, List.reverse_cons, List.reverse_nil, Option.map_some, Option.map_none, Option.toList_some, Option.toList_none, Nat.reduceAdd, Nat.reduceSub, Nat.reduceLT, Nat.reduceLeDiff, Nat.reduceEqDiff, ↓reduceIte, Nat.add_zero, Nat.zero_add, true_and, and_true, Nat.le_refl, reduceCtorEq, false_implies, true_implies, not_true_eq_false, not_false_eq_true, Int.reduceAdd, Int.reduceSub, Int.reduceMul, Int.reduceLE, Int.reduceLT, Int.reduceEq, Int.reduceNe, Int.reduceNeg, Int.reduceDiv, Int.reduceMod, Bool.false_eq_true, Int.le_refl, and_self, true_or, or_true, inR_l, fv0, fv1, fv2, fv3, nc2, nc4, nc6, nc16, nc25, nc60, nc65, nc80, nc130, nc384, nc390, fp_0_0, fp_0_1, fp_0_2, fp_1_0, fp_1_1, fp_1_2, fp_1_3, fp_1_4, fp_1_5, fp_1_6, fp_1_7, fp_1_8, fp_1_9, fp_1_10, fp_1_11, fp_1_12, fp_1_13, fp_1_14, fp_2_0, fp_2_1, fp_2_2, fp_2_3, fp_3_0, fp_3_1, fp_4_0, fp_4_1, fp_4_2, fp_4_3, fp_4_4, fp_4_5, fp_4_6, fp_4_7, fp_5_0, fp_5_1, fp_5_2, fp_5_3, fp_5_4, fp_5_5, fp_5_6, fp_5_7, fp_6_0, fp_6_1, fp_6_2, fp_6_3, fp_6_4, fp_6_5, fp_6_6, fp_6_7, fp_6_8, fp_6_9, fp_6_10, fp_6_11, fp_6_12, fp_6_13, fp_6_14, fp_6_15, fp_7_0, fp_7_1, fp_7_2, fp_7_3, fp_7_4, fp_7_5, fp_7_6, fp_7_7, fp_7_8, fp_7_9, fp_7_10, fp_7_11, fp_7_12, fp_7_13, fp_7_14, fp_7_15, fp_7_16, fp_7_17, fp_7_18, fp_7_19, fp_7_20, fp_7_21, fp_7_22, fp_7_23, fp_7_24, iz_0_1, iz_0_2, iz_1_8, iz_1_9, iz_1_11, iz_2_1, iz_2_2, iz_2_3, iz_3_1, iz_4_1, iz_4_2, iz_5_0, iz_6_8, iz_6_9, iz_6_13, iz_6_14, iz_6_15, iz_7_2, iz_7_6, iz_7_12, iz_7_20, iz_7_21, iz_7_23, iz_7_24, ak_8, ak_9, ak_10, ak_11, ak_12, ak_13, ak_14, ak_15, ak_16, ak_17, ak_18, ak_19, ak_20, ak_21, ak_22, ak_23, ak_24, ak_25, ak_26, ak_27, ak_28, ak_29, ak_30, ak_31, ak_32, ak_33, ak_34, ak_35, ak_36, ak_37, ak_38, ak_39, ak_40, ak_41, ak_42, ak_43, ak_44, ak_45, ak_46, ak_47, ak_48, ak_49, ak_50, ak_51, ak_52, ak_53, ak_54, ak_55, ak_56, el31, el33, el34, CX1_tailOf, ca_X1_tailOf, frX1, kcX1, klX1, hasB_def, exists_eq_right_right, exists_eq_right, exists_eq_left, Nat.lt_irrefl, and_self, implies_true, forall_const]
        obtain ⟨⟨p1, p2, p3, p4, p5, p6, p7⟩, h⟩ := h
        refine ⟨p1, p1, ⟨by omega, by omega⟩, ⟨by omega, by omega⟩, fun a => TI_a a, fun a => ?_⟩
        obtain ⟨q1, q2⟩ := p6 (by omega)
        refine ⟨⟨by omega, by omega⟩, ⟨by omega, by omega⟩, ⟨by omega, by omega⟩, ⟨by omega, by omega⟩, q2, TI_b a q1⟩
    · exact h.elim
