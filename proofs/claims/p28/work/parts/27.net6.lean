/-- an operation of the machine m that can be worked on at the time tm -/
def uE (σ : Mem) (n : Nat) (m tm k : Int) : Prop := 0 ≤ σ 19 n (4 * m + k) ∧ 0 < σ 26 n k ∧ σ 21 n (σ 19 n (4 * m + k)) ≤ tm
/-- the first one with the greatest tail, over the first j jobs -/
def UI (σ : Mem) (n : Nat) (m tm c g j : Int) : Prop := (c = -6 ∧ g = -1 ∧ ∀ k, 0 ≤ k → k < j → ¬ uE σ n m tm k) ∨ (0 ≤ c ∧ c < j ∧ uE σ n m tm c ∧ g = σ 22 n (σ 19 n (4 * m + c)) ∧ (∀ k, 0 ≤ k → k < j → uE σ n m tm k → σ 22 n (σ 19 n (4 * m + k)) ≤ g) ∧ (∀ k, 0 ≤ k → k < c → uE σ n m tm k → σ 22 n (σ 19 n (4 * m + k)) < g))
theorem UI_0 {σ : Mem} {n : Nat} {m tm : Int} : UI σ n m tm (-6) (-1) 0 := Or.inl ⟨rfl, rfl, fun k a b => by omega⟩
theorem UI_skip {σ : Mem} {n : Nat} {m tm c g j : Int} (h : UI σ n m tm c g j) (hn : ¬ uE σ n m tm j) : UI σ n m tm c g (j + 1) := by
  rcases h with ⟨a1, a2, a3⟩ | ⟨a1, a2, a3, a4, a5, a6⟩
  · refine Or.inl ⟨a1, a2, fun k p q => ?_⟩
    rcases (show k < j ∨ k = j by omega) with r | rfl
    · exact a3 k p r
    · exact hn
  · refine Or.inr ⟨a1, by omega, a3, a4, fun k p q s => ?_, a6⟩
    rcases (show k < j ∨ k = j by omega) with r | rfl
    · exact a5 k p r s
    · exact absurd s hn
theorem UI_low {σ : Mem} {n : Nat} {m tm c g j : Int} (h : UI σ n m tm c g j) (h0 : 0 ≤ σ 22 n (σ 19 n (4 * m + j))) (hl : σ 22 n (σ 19 n (4 * m + j)) ≤ g) : UI σ n m tm c g (j + 1) := by
  rcases h with ⟨a1, a2, a3⟩ | ⟨a1, a2, a3, a4, a5, a6⟩
  · omega
  · refine Or.inr ⟨a1, by omega, a3, a4, fun k p q s => ?_, a6⟩
    rcases (show k < j ∨ k = j by omega) with r | rfl
    · exact a5 k p r s
    · exact hl
theorem UI_take {σ : Mem} {n : Nat} {m tm c g j : Int} (h : UI σ n m tm c g j) (hj : 0 ≤ j) (he : uE σ n m tm j) (hl : ¬ σ 22 n (σ 19 n (4 * m + j)) ≤ g) : UI σ n m tm j (σ 22 n (σ 19 n (4 * m + j))) (j + 1) := by
  refine Or.inr ⟨hj, by omega, he, rfl, fun k p q s => ?_, fun k p q s => ?_⟩
  · rcases h with ⟨a1, a2, a3⟩ | ⟨a1, a2, a3, a4, a5, a6⟩
    · rcases (show k < j ∨ k = j by omega) with r | rfl
      · exact absurd s (a3 k p r)
      · exact Int.le_refl _
    · rcases (show k < j ∨ k = j by omega) with r | rfl
      · have := a5 k p r s
        omega
      · exact Int.le_refl _
  · rcases h with ⟨a1, a2, a3⟩ | ⟨a1, a2, a3, a4, a5, a6⟩
    · exact absurd s (a3 k p q)
    · have := a5 k p q s
      omega
def ca_X1_mostUrgent : Nat → Option (Nat × Nat × Tr) := fun _ => none
theorem cao_X1_mostUrgent (l : Launch) : ∀ k n' ci T', ca_X1_mostUrgent k = some (n', ci, T') → ∃ nn, nn + 1 ≤ 0 ∧ Site l yX1_mostUrgent.cls k n' ci nn T' := by
  intro k n' ci T' h
  cases h
def T_X1_mostUrgent : Tr := fun a σ K => match a with
  | [.inr (.inl (1, n)), .inl m, .inl tm] => (0 ≤ m ∧ m < 4 ∧ (∀ k, 0 ≤ k → k < 4 → σ 19 n (4 * m + k) < 16 ∧ (0 ≤ σ 19 n (4 * m + k) → 0 ≤ σ 22 n (σ 19 n (4 * m + k))))) ∧ ∀ r g, UI σ n m tm r g 4 → K (some r) σ
  | _ => False
set_option maxHeartbeats 8000000 in
set_option maxRecDepth 20000 in
theorem k_X1_mostUrgent (l : Launch) : Ct l yX1_mostUrgent cX1_mostUrgent 7 (some .int) 0 T_X1_mostUrgent := by
  refine mk_met (by decide +kernel) hCX1_mostUrgent lCX1_mostUrgent frX1_ok cstX1_ok (cao_X1_mostUrgent l) ?_ ?_
  · intro a σ K h
    unfold T_X1_mostUrgent at h
    split at h
    · simp [eL]
    · exact h.elim
  · intro a σ K ha hR h
    unfold T_X1_mostUrgent at h
    split at h
    · rename_i n m tm
      refine ⟨fun pc => if pc = 9 then some (fun L S σ' k => match L, S with | [some (.inr (.inl c1)), some (.inl m'), some (.inl tm'), some (.inl c), some (.inl g), some (.inl j), _], [] => (c1 = (1, n) ∧ m' = m ∧ tm' = tm ∧ σ' = σ ∧ 0 ≤ j ∧ j ≤ 4 ∧ UI σ n m tm c g j) ∧ k = (4 - j).toNat | _, _ => False) else none, 200, ?_, ?_⟩
      · intro pc I L S σ' k hcut hi
        dsimp only at hcut
        split at hcut
        · rename_i hpc
          subst hpc
          cases hcut
          try dsimp only at hi
          split at hi
          · rename_i c1 m' tm' c g j x1
            obtain ⟨hi, rfl⟩ := hi
            obtain ⟨rfl, rfl, rfl, rfl, h0, h1, h2⟩ := hi
            obtain ⟨⟨p1, p2, p3⟩, h⟩ := h
            simp only [wp, stp, drp, entL, eL, lget, lset, okst, cnd, swt, rcv, Kr_int, Kr_bool, Kr_void, List.length_cons, List.length_nil, List.replicate, List.append_nil, List.cons_append, List.nil_append, List.take_succ_cons, List.take_zero, List.drop_succ_cons, List.drop_zero, List.reverse_cons, List.reverse_nil, Option.map_some, Option.map_none, Option.toList_some, Option.toList_none, Nat.reduceAdd, Nat.reduceSub, Nat.reduceLT, Nat.reduceLeDiff, Nat.reduceEqDiff, ↓reduceIte, Nat.add_zero, Nat.zero_add, true_and, and_true, Nat.le_refl, reduceCtorEq, false_implies, true_implies, not_true_eq_false, not_false_eq_true, Int.reduceAdd, Int.reduceSub, Int.reduceMul, Int.reduceLE, Int.reduceLT, Int.reduceEq, Int.reduceNe, Int.reduceNeg, Int.reduceDiv, Int.reduceMod, Bool.false_eq_true, Int.le_refl, and_self, true_or, or_true, inR_l, fv0, fv1, fv2, fv3, nc2, nc4, nc6, nc16, nc25, nc60, nc65, nc80, nc130, nc384, nc390, fp_0_0, fp_0_1, fp_0_2, fp_1_0, fp_1_1, fp_1_2, fp_1_3, fp_1_4, fp_1_5, fp_1_6, fp_1_7, fp_1_8, fp_1_9, fp_1_10, fp_1_11, fp_1_12, fp_1_13, fp_1_14, fp_2_0, fp_2_1, fp_2_2, fp_2_3, fp_3_0, fp_3_1, fp_4_0, fp_4_1, fp_4_2, fp_4_3, fp_4_4, fp_4_5, fp_4_6, fp_4_7, fp_5_0, fp_5_1, fp_5_2, fp_5_3, fp_5_4, fp_5_5, fp_5_6, fp_5_7, fp_6_0, fp_6_1, fp_6_2, fp_6_3, fp_6_4, fp_6_5, fp_6_6, fp_6_7, fp_6_8, fp_6_9, fp_6_10, fp_6_11, fp_6_12, fp_6_13, fp_6_14, fp_6_15, fp_7_0, fp_7_1, fp_7_2, fp_7_3, fp_7_4, fp_7_5, fp_7_6, fp_7_7, fp_7_8, fp_7_9, fp_7_10, fp_7_11, fp_7_12, fp_7_13, fp_7_14, fp_7_15, fp_7_16, fp_7_17, fp_7_18, fp_7_19, fp_7_20, fp_7_21, fp_7_22, fp_7_23, fp_7_24, iz_0_1, iz_0_2, iz_1_8, iz_1_9, iz_1_11, iz_2_1, iz_2_2, iz_2_3, iz_3_1, iz_4_1, iz_4_2, iz_5_0, iz_6_8, iz_6_9, iz_6_13, iz_6_14, iz_6_15, iz_7_2, iz_7_6, iz_7_12, iz_7_20, iz_7_21, iz_7_23, iz_7_24, ak_8, ak_9, ak_10, ak_11, ak_12, ak_13, ak_14, ak_15, ak_16, ak_17, ak_18, ak_19, ak_20, ak_21, ak_22, ak_23, ak_24, ak_25, ak_26, ak_27, ak_28, ak_29, ak_30, ak_31, ak_32, ak_33, ak_34, ak_35, ak_36, ak_37, ak_38, ak_39, ak_40, ak_41, ak_42, ak_43, ak_44, ak_45, ak_46, ak_47, ak_48, ak_49, ak_50, ak_51, ak_52, ak_53, ak_54, ak_55, ak_56, el31, el33, el34, CX1_mostUrgent, ca_X1_mostUrgent, frX1, kcX1, klX1, exists_eq_right_right, exists_eq_right, exists_eq_left, Nat.lt_irrefl, and_self, implies_true, forall_const]
            refine ⟨fun b => h c g (by rw [show (4 : Int) = j by omega]; exact h2), fun b => ?_⟩
            obtain ⟨q1, q2⟩ := p3 j h0 (by omega)
            refine ⟨⟨by omega, by omega⟩, ⟨by omega, by omega⟩, ⟨by omega, by omega⟩, fun d => ⟨⟨by omega, by omega⟩, by omega, by omega, by omega, UI_skip h2 (fun e => by have := e.1; omega)⟩, fun d => ⟨⟨by omega, by omega⟩, fun f => ⟨⟨by omega, by omega⟩, by omega, by omega, by omega, UI_skip h2 (fun e => by have := e.2.1; omega)⟩, fun f => ⟨⟨by omega, q1⟩, fun u => ⟨⟨by omega, by omega⟩, by omega, by omega, by omega, UI_skip h2 (fun e => by have := e.2.2; omega)⟩, fun u => ⟨⟨by omega, q1⟩, fun v => ⟨⟨by omega, by omega⟩, by omega, by omega, by omega, UI_low h2 (q2 (by omega)) v⟩, fun v => ⟨⟨by omega, q1⟩, ⟨by omega, by omega⟩, by omega, by omega, by omega, UI_take h2 h0 ⟨by omega, by omega, by omega⟩ v⟩⟩⟩⟩⟩
          · exact hi.elim
        · cases hcut
      · simp only [wp, stp, drp, entL, eL, lget, lset, okst, cnd, swt, rcv, Kr_int, Kr_bool, Kr_void, List.length_cons, List.length_nil, List.replicate, List.append_nil, List.cons_append, List.nil_append, List.take_succ_cons, List.take_zero, List.drop_succ_cons, List.drop_zero, List.reverse_cons, List.reverse_nil, Option.map_some, Option.map_none, Option.toList_some, Option.toList_none, Nat.reduceAdd, Nat.reduceSub, Nat.reduceLT, Nat.reduceLeDiff, Nat.reduceEqDiff, ↓reduceIte, Nat.add_zero, Nat.zero_add, true_and, and_true, Nat.le_refl, reduceCtorEq, false_implies, true_implies, not_true_eq_false, not_false_eq_true, Int.reduceAdd, Int.reduceSub, Int.reduceMul, Int.reduceLE, Int.reduceLT, Int.reduceEq, Int.reduceNe, Int.reduceNeg, Int.reduceDiv, Int.reduceMod, Bool.false_eq_true, Int.le_refl, and_self, true_or, or_true, inR_l, fv0, fv1, fv2, fv3, nc2, nc4, nc6, nc16, nc25, nc60, nc65, nc80, nc130, nc384, nc390, fp_0_0, fp_0_1, fp_0_2, fp_1_0, fp_1_1, fp_1_2, fp_1_3, fp_1_4, fp_1_5, fp_1_6, fp_1_7, fp_1_8, fp_1_9, fp_1_10, fp_1_11, fp_1_12, fp_1_13, fp_1_14, fp_2_0, fp_2_1, fp_2_2, fp_2_3, fp_3_0, fp_3_1, fp_4_0, fp_4_1, fp_4_2, fp_4_3, fp_4_4, fp_4_5, fp_4_6, fp_4_7, fp_5_0, fp_5_1, fp_5_2, fp_5_3, fp_5_4, fp_5_5, fp_5_6, fp_5_7, fp_6_0, fp_6_1, fp_6_2, fp_6_3, fp_6_4, fp_6_5, fp_6_6, fp_6_7, fp_6_8, fp_6_9, fp_6_10, fp_6_11, fp_6_12, fp_6_13, fp_6_14, fp_6_15, fp_7_0, fp_7_1, fp_7_2, fp_7_3, fp_7_4, fp_7_5, fp_7_6, fp_7_7, fp_7_8, fp_7_9, fp_7_10, fp_7_11, fp_7_12, fp_7_13, fp_7_14, fp_7_15, fp_7_16, fp_7_17, fp_7_18, fp_7_19, fp_7_20, fp_7_21, fp_7_22, fp_7_23, fp_7_24, iz_0_1, iz_0_2, iz_1_8, iz_1_9, iz_1_11, iz_2_1, iz_2_2, iz_2_3, iz_3_1, iz_4_1, iz_4_2, iz_5_0, iz_6_8, iz_6_9, iz_6_13, iz_6_14, iz_6_15, iz_7_2, iz_7_6, iz_7_12, iz_7_20, iz_7_21, iz_7_23, iz_7_24, ak_8, ak_9, ak_10, ak_11, ak_12, ak_13, ak_14, ak_15, ak_16, ak_17, ak_18, ak_19, ak_20, ak_21, ak_22, ak_23, ak_24, ak_25, ak_26, ak_27, ak_28, ak_29, ak_30, ak_31, ak_32, ak_33, ak_34, ak_35, ak_36, ak_37, ak_38, ak_39, ak_40, ak_41, ak_42, ak_43, ak_44, ak_45, ak_46, ak_47, ak_48, ak_49, ak_50, ak_51, ak_52, ak_53, ak_54, ak_55, ak_56, el31, el33, el34, CX1_mostUrgent, ca_X1_mostUrgent, frX1, kcX1, klX1, exists_eq_right_right, exists_eq_right, exists_eq_left, Nat.lt_irrefl, and_self, implies_true, forall_const]
        exact UI_0
    · exact h.elim
