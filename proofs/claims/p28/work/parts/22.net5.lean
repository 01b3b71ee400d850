/-- the next head behind a time, over the first j jobs of a machine -/
def NI (σ : Mem) (n : Nat) (m tm r j : Int) : Prop := r ≤ 1000 ∧ (∀ k, 0 ≤ k → k < j → 0 ≤ σ 19 n (4 * m + k) → tm < σ 21 n (σ 19 n (4 * m + k)) → r ≤ σ 21 n (σ 19 n (4 * m + k))) ∧ (r = 1000 ∨ ∃ k, 0 ≤ k ∧ k < 4 ∧ 0 ≤ σ 19 n (4 * m + k) ∧ tm < σ 21 n (σ 19 n (4 * m + k)) ∧ r = σ 21 n (σ 19 n (4 * m + k)))
theorem NI_0 {σ : Mem} {n : Nat} {m tm : Int} : NI σ n m tm 1000 0 := ⟨Int.le_refl _, fun k a b => by omega, Or.inl rfl⟩
theorem NI_4 {σ : Mem} {n : Nat} {m tm r j : Int} (h : NI σ n m tm r j) (h0 : 4 ≤ j) : NI σ n m tm r 4 := ⟨h.1, fun k a b => h.2.1 k a (by omega), h.2.2⟩
theorem NI_k {σ : Mem} {n : Nat} {m tm r j : Int} (h : NI σ n m tm r j) (hq : 0 ≤ σ 19 n (4 * m + j) → tm < σ 21 n (σ 19 n (4 * m + j)) → r ≤ σ 21 n (σ 19 n (4 * m + j))) : NI σ n m tm r (j + 1) := ⟨h.1, fun k a b c d => by
  rcases (show k < j ∨ k = j by omega) with q | rfl
  · exact h.2.1 k a q c d
  · exact hq c d, h.2.2⟩
theorem NI_t {σ : Mem} {n : Nat} {m tm r j : Int} (h : NI σ n m tm r j) (h0 : 0 ≤ j) (h1 : ¬ 4 ≤ j) (h2 : ¬ σ 19 n (4 * m + j) < 0) (h3 : ¬ σ 21 n (σ 19 n (4 * m + j)) ≤ tm) (h4 : ¬ r ≤ σ 21 n (σ 19 n (4 * m + j))) : NI σ n m tm (σ 21 n (σ 19 n (4 * m + j))) (j + 1) := by
  obtain ⟨a1, a2, a3⟩ := h
  refine ⟨by omega, fun k a b c d => ?_, Or.inr ⟨j, h0, by omega, by omega, by omega, rfl⟩⟩
  rcases (show k < j ∨ k = j by omega) with q | rfl
  · have := a2 k a q c d
    omega
  · exact Int.le_refl _
def ca_X1_nextHead : Nat → Option (Nat × Nat × Tr) := fun _ => none
theorem cao_X1_nextHead (l : Launch) : ∀ k n' ci T', ca_X1_nextHead k = some (n', ci, T') → ∃ nn, nn + 1 ≤ 0 ∧ Site l yX1_nextHead.cls k n' ci nn T' := by
  intro k n' ci T' h
  cases h
def T_X1_nextHead : Tr := fun a σ K => match a with
  | [.inr (.inl (1, n)), .inl m, .inl tm] => (0 ≤ m ∧ m < 4 ∧ (∀ k, 0 ≤ k → k < 4 → σ 19 n (4 * m + k) < 16)) ∧ ∀ r, NI σ n m tm r 4 → K (some r) σ
  | _ => False
set_option maxHeartbeats 8000000 in
set_option maxRecDepth 20000 in
theorem k_X1_nextHead (l : Launch) : Ct l yX1_nextHead cX1_nextHead 6 (some .int) 0 T_X1_nextHead := by
  refine mk_met (by decide +kernel) hCX1_nextHead lCX1_nextHead frX1_ok cstX1_ok (cao_X1_nextHead l) ?_ ?_
  · intro a σ K h
    unfold T_X1_nextHead at h
    split at h
    · simp [eL]
    · exact h.elim
  · intro a σ K ha hR h
    unfold T_X1_nextHead at h
    split at h
    · rename_i n m tm
      refine ⟨fun pc => if pc = 7 then some (fun L S σ' k => match L, S with | [some (.inr (.inl c1)), some (.inl m'), some (.inl tm'), some (.inl r), some (.inl j), _], [] => (c1 = (1, n) ∧ m' = m ∧ tm' = tm ∧ σ' = σ ∧ 0 ≤ j ∧ j ≤ 4 ∧ NI σ n m tm r j) ∧ k = (4 - j).toNat | _, _ => False) else none, 200, ?_, ?_⟩
      · intro pc I L S σ' k hcut hi
        dsimp only at hcut
        split at hcut
        · rename_i hpc
          subst hpc
          cases hcut
          try dsimp only at hi
          split at hi
          · rename_i c1 m' tm' r j x1
            obtain ⟨hi, rfl⟩ := hi
            obtain ⟨rfl, rfl, rfl, rfl, h0, h1, h2⟩ := hi
            obtain ⟨⟨p1, p2, p3⟩, h⟩ := h
            simp only [wp, stp, drp, entL, eL, lget, lset, okst, cnd, swt, rcv, Kr_int, Kr_bool, Kr_void, List.length_cons, List.length_nil, List.replicate, List.append_nil, List.cons_append, List.nil_append, List.take_succ_cons, List.take_zero, List.drop_succ_cons, List.drop_zero, List.reverse_cons, List.reverse_nil, Option.map_some, Option.map_none, Option.toList_some, Option.toList_none, Nat.reduceAdd, Nat.reduceSub, Nat.reduceLT, Nat.reduceLeDiff, Nat.reduceEqDiff, ↓reduceIte, Nat.add_zero, Nat.zero_add, true_and, and_true, Nat.le_refl, reduceCtorEq, false_implies, true_implies, not_true_eq_false, not_false_eq_true, Int.reduceAdd, Int.reduceSub, Int.reduceMul, Int.reduceLE, Int.reduceLT, Int.reduceEq, Int.reduceNe, Int.reduceNeg, Int.reduceDiv, Int.reduceMod, Bool.false_eq_true, Int.le_refl, and_self, true_or, or_true, inR_l, fv0, fv1, fv2, fv3, nc2, nc4, nc6, nc16, nc25, nc60, nc65, nc80, nc130, nc384, nc390, fp_0_0, fp_0_1, fp_0_2, fp_1_0, fp_1_1, fp_1_2, fp_1_3, fp_1_4, fp_1_5, fp_1_6, fp_1_7, fp_1_8, fp_1_9, fp_1_10, fp_1_11, fp_1_12, fp_1_13, fp_1_14, fp_2_0, fp_2_1, fp_2_2, fp_2_3, fp_3_0, fp_3_1, fp_4_0, fp_4_1, fp_4_2, fp_4_3, fp_4_4, fp_4_5, fp_4_6, fp_4_7, fp_5_0, fp_5_1, fp_5_2, fp_5_3, fp_5_4, fp_5_5, fp_5_6, fp_5_7, fp_6_0, fp_6_1, fp_6_2, fp_6_3, fp_6_4, fp_6_5, fp_6_6, fp_6_7, fp_6_8, fp_6_9, fp_6_10, fp_6_11, fp_6_12, fp_6_13, fp_6_14, fp_6_15, fp_7_0, fp_7_1, fp_7_2, fp_7_3, fp_7_4, fp_7_5, fp_7_6, fp_7_7, fp_7_8, fp_7_9, fp_7_10, fp_7_11, fp_7_12, fp_7_13, fp_7_14, fp_7_15, fp_7_16, fp_7_17, fp_7_18, fp_7_19, fp_7_20, fp_7_21, fp_7_22, fp_7_23, fp_7_24, iz_0_1, iz_0_2, iz_1_8, iz_1_9, iz_1_11, iz_2_1, iz_2_2, iz_2_3, iz_3_1, iz_4_1, iz_4_2, iz_5_0, iz_6_8, iz_6_9, iz_6_13, iz_6_14, iz_6_15, iz_7_2, iz_7_6, iz_7_12, iz_7_20, iz_7_21, iz_7_23, iz_7_24, ak_8, ak_9, ak_10, ak_11, ak_12, ak_13, ak_14, ak_15, ak_16, ak_17, ak_18, ak_19, ak_20, ak_21, ak_22, ak_23, ak_24, ak_25, ak_26, ak_27, ak_28, ak_29, ak_30, ak_31, ak_32, ak_33, ak_34, ak_35, ak_36, ak_37, ak_38, ak_39, ak_40, ak_41, ak_42, ak_43, ak_44, ak_45, ak_46, ak_47, ak_48, ak_49, ak_50, ak_51, ak_52, ak_53, ak_54, ak_55, ak_56, el31, el33, el34, CX1_nextHead, ca_X1_nextHead, frX1, kcX1, klX1, exists_eq_right_right, exists_eq_right, exists_eq_left, Nat.lt_irrefl, and_self, implies_true, forall_const]
            refine ⟨fun b => h _ (NI_4 h2 b), fun b => ?_⟩
            have q1 := p3 j h0 (by omega)
            refine ⟨⟨by omega, by omega⟩, ⟨by omega, by omega⟩, ⟨by omega, by omega⟩, fun d => ⟨⟨by omega, by omega⟩, by omega, by omega, by omega, NI_k h2 (fun x _ => by omega)⟩, fun d => ⟨⟨by omega, q1⟩, fun c => ⟨⟨by omega, by omega⟩, by omega, by omega, by omega, NI_k h2 (fun _ x => by omega)⟩, fun c => ⟨⟨by omega, q1⟩, fun e => ⟨⟨by omega, by omega⟩, by omega, by omega, by omega, NI_k h2 (fun _ _ => e)⟩, fun e => ⟨⟨by omega, q1⟩, ⟨by omega, by omega⟩, by omega, by omega, by omega, NI_t h2 h0 b d c e⟩⟩⟩⟩
          · exact hi.elim
        · cases hcut
      · simp only [wp, stp, drp, entL, eL, lget, lset, okst, cnd, swt, rcv, Kr_int, Kr_bool, Kr_void, List.length_cons, List.length_nil, List.replicate, List.append_nil, List.cons_append, List.nil_append, List.take_succ_cons, List.take_zero, List.drop_succ_cons, List.drop_zero, List.reverse_cons, List.reverse_nil, Option.map_some, Option.map_none, Option.toList_some, Option.toList_none, Nat.reduceAdd, Nat.reduceSub, Nat.reduceLT, Nat.reduceLeDiff, Nat.reduceEqDiff, ↓reduceIte, Nat.add_zero, Nat.zero_add, true_and, and_true, Nat.le_refl, reduceCtorEq, false_implies, true_implies, not_true_eq_false, not_false_eq_true, Int.reduceAdd, Int.reduceSub, Int.reduceMul, Int.reduceLE, Int.reduceLT, Int.reduceEq, Int.reduceNe, Int.reduceNeg, Int.reduceDiv, Int.reduceMod, Bool.false_eq_true, Int.le_refl, and_self, true_or, or_true, inR_l, fv0, fv1, fv2, fv3, nc2, nc4, nc6, nc16, nc25, nc60, nc65, nc80, nc130, nc384, nc390, fp_0_0, fp_0_1, fp_0_2, fp_1_0, fp_1_1, fp_1_2, fp_1_3, fp_1_4, fp_1_5, fp_1_6, fp_1_7, fp_1_8, fp_1_9, fp_1_10, fp_1_11, fp_1_12, fp_1_13, fp_1_14, fp_2_0, fp_2_1, fp_2_2, fp_2_3, fp_3_0, fp_3_1, fp_4_0, fp_4_1, fp_4_2, fp_4_3, fp_4_4, fp_4_5, fp_4_6, fp_4_7, fp_5_0, fp_5_1, fp_5_2, fp_5_3, fp_5_4, fp_5_5, fp_5_6, fp_5_7, fp_6_0, fp_6_1, fp_6_2, fp_6_3, fp_6_4, fp_6_5, fp_6_6, fp_6_7, fp_6_8, fp_6_9, fp_6_10, fp_6_11, fp_6_12, fp_6_13, fp_6_14, fp_6_15, fp_7_0, fp_7_1, fp_7_2, fp_7_3, fp_7_4, fp_7_5, fp_7_6, fp_7_7, fp_7_8, fp_7_9, fp_7_10, fp_7_11, fp_7_12, fp_7_13, fp_7_14, fp_7_15, fp_7_16, fp_7_17, fp_7_18, fp_7_19, fp_7_20, fp_7_21, fp_7_22, fp_7_23, fp_7_24, iz_0_1, iz_0_2, iz_1_8, iz_1_9, iz_1_11, iz_2_1, iz_2_2, iz_2_3, iz_3_1, iz_4_1, iz_4_2, iz_5_0, iz_6_8, iz_6_9, iz_6_13, iz_6_14, iz_6_15, iz_7_2, iz_7_6, iz_7_12, iz_7_20, iz_7_21, iz_7_23, iz_7_24, ak_8, ak_9, ak_10, ak_11, ak_12, ak_13, ak_14, ak_15, ak_16, ak_17, ak_18, ak_19, ak_20, ak_21, ak_22, ak_23, ak_24, ak_25, ak_26, ak_27, ak_28, ak_29, ak_30, ak_31, ak_32, ak_33, ak_34, ak_35, ak_36, ak_37, ak_38, ak_39, ak_40, ak_41, ak_42, ak_43, ak_44, ak_45, ak_46, ak_47, ak_48, ak_49, ak_50, ak_51, ak_52, ak_53, ak_54, ak_55, ak_56, el31, el33, el34, CX1_nextHead, ca_X1_nextHead, frX1, kcX1, klX1, exists_eq_right_right, exists_eq_right, exists_eq_left, Nat.lt_irrefl, and_self, implies_true, forall_const]
        exact NI_0
    · exact h.elim
