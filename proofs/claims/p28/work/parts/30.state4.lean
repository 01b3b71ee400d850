/-- takeOrder, over the first j places -/
def TO (σ σ' : Mem) (i i2 : Nat) (m j : Int) : Prop := (∀ t a x, ¬ (t = 13 ∧ a = i ∧ x = m) → ¬ (t = 14 ∧ a = i ∧ 4 * m ≤ x ∧ x < 4 * m + j) → σ' t a x = σ t a x) ∧ σ' 13 i m = j ∧ (∀ x, 0 ≤ x → x < j → σ' 14 i (4 * m + x) = σ 14 i2 (4 * m + x))
theorem TO_0 {σ : Mem} {i i2 : Nat} {m : Int} : TO σ (up σ 13 i m 0) i i2 m 0 := ⟨fun t a x q _ => by unfold up; rw [if_neg q], by unfold up; rw [if_pos ⟨rfl, rfl, rfl⟩], fun x a b => by omega⟩
theorem TO_s {σ σ' : Mem} {i i2 : Nat} {m j : Int} (h : TO σ σ' i i2 m j) (hi : i2 ≠ i) (h0 : 0 ≤ j) (h4 : j < 4) : TO σ (if σ' 13 i m < 4 then up (up σ' 14 i (4 * m + σ' 13 i m) (σ' 14 i2 (4 * m + j))) 13 i m (σ' 13 i m + 1) else σ') i i2 m (j + 1) := by
  obtain ⟨a1, a2, a3⟩ := h
  rw [a2, if_pos h4]
  have e : σ' 14 i2 (4 * m + j) = σ 14 i2 (4 * m + j) := a1 14 i2 _ (by rintro ⟨q, -⟩; omega) (by rintro ⟨-, q, -⟩; exact hi q)
  refine ⟨fun t a x q r => ?_, ?_, fun x p q => ?_⟩
  · unfold up
    rw [if_neg q, if_neg (by rintro ⟨s1, s2, s3⟩; exact r ⟨s1, s2, by omega, by omega⟩)]
    exact a1 t a x q (by rintro ⟨s1, s2, s3, s4⟩; exact r ⟨s1, s2, s3, by omega⟩)
  · unfold up
    rw [if_pos ⟨rfl, rfl, rfl⟩]
  · unfold up
    rw [if_neg (by rintro ⟨s, -⟩; omega)]
    rcases (show x < j ∨ x = j by omega) with s | rfl
    · rw [if_neg (by rintro ⟨-, -, u⟩; omega)]
      exact a3 x p s
    · rw [if_pos ⟨rfl, rfl, rfl⟩]
      exact e
def ca_X5_takeOrder : Nat → Option (Nat × Nat × Tr)
  | 41 => some (3, 5, T_X5_append)
  | _ => none
theorem cao_X5_takeOrder (l : Launch) : ∀ k n' ci T', ca_X5_takeOrder k = some (n', ci, T') → ∃ nn, nn + 1 ≤ 1 ∧ Site l yX5_takeOrder.cls k n' ci nn T' := by
  intro k n' ci T' h
  unfold ca_X5_takeOrder at h
  split at h
  · cases h; exact ⟨0, by decide, _, _, _, _, k_X5_append l, Or.inl ⟨_, rfl, FX5_append, KRX5_41⟩⟩
  · cases h
def T_X5_takeOrder : Tr := fun a σ K => match a with
  | [.inr (.inl (5, i)), .inr (.inl (5, i2)), .inl m] => (0 ≤ m ∧ m < 4 ∧ i2 ≠ i ∧ 0 ≤ σ 13 i2 m ∧ σ 13 i2 m ≤ 4) ∧ ∀ σ' : Mem, TO σ σ' i i2 m (σ 13 i2 m) → K none σ'
  | _ => False
set_option maxHeartbeats 8000000 in
set_option maxRecDepth 20000 in
theorem k_X5_takeOrder (l : Launch) : Ct l yX5_takeOrder cX5_takeOrder 4 none 1 T_X5_takeOrder := by
  refine mk_met (by decide +kernel) hCX5_takeOrder lCX5_takeOrder frX5_ok cstX5_ok (cao_X5_takeOrder l) ?_ ?_
  · intro a σ K h
    unfold T_X5_takeOrder at h
    split at h
    · simp [eL]
    · exact h.elim
  · intro a σ K ha hR h
    unfold T_X5_takeOrder at h
    split at h
    · rename_i i i2 m
      refine ⟨fun pc => if pc = 9 then some (fun L S σ' k => match L, S with | [some (.inr (.inl c1)), some (.inr (.inl c2)), some (.inl m'), some (.inl j)], [] => (c1 = (5, i) ∧ c2 = (5, i2) ∧ m' = m ∧ 0 ≤ j ∧ j ≤ σ 13 i2 m ∧ TO σ σ' i i2 m j) ∧ k = (4 - j).toNat | _, _ => False) else none, 200, ?_, ?_⟩
      · intro pc I L S σ' k hcut hi
        dsimp only at hcut
        split at hcut
        · rename_i hpc
          subst hpc
          cases hcut
          try dsimp only at hi
          split at hi
          · rename_i c1 c2 m' j
            obtain ⟨hi, rfl⟩ := hi
            obtain ⟨rfl, rfl, rfl, h0, h1, h2⟩ := hi
            obtain ⟨⟨p1, p2, p3, p4, p5⟩, h⟩ := h
            have e1 : σ' 13 i2 m' = σ 13 i2 m' := h2.1 13 i2 _ (by rintro ⟨-, q, -⟩; exact p3 q) (by rintro ⟨q, -⟩; omega)
            have e2 := h2.2.1
            simp only [wp, stp, drp, entL, eL, lget, lset, okst, cnd, swt, rcv, Kr_int, Kr_bool, Kr_void, List.length_cons, List.length_nil, List.replicate, List.append_nil, List.cons_append, List.nil_append, List.take_succ_cons, List.take_zero, List.drop_succ_cons, List.drop_zero, List.reverse_cons, List.reverse_nil, Option.map_some, Option.map_none, Option.toList_some, Option.toList_none, Nat.reduceAdd, Nat.reduceSub, Nat.reduceLT, Nat.reduceLeDiff, Nat.reduceEqDiff, ↓reduceIte, Nat.add_zero, Nat.zero_add, true_and, and_true, Nat.le_refl, reduceCtorEq, false_implies, true_implies, not_true_eq_false, not_false_eq_true, Int.reduceAdd, Int.reduceSub, Int.reduceMul, Int.reduceLE, Int.reduceLT, Int.reduceEq, Int.reduceNe, Int.reduceNeg, Int.reduceDiv, Int.reduceMod, Bool.false_eq_true, Int.le_refl, and_self, true_or, or_true, inR_l, fv0, fv1, fv2, fv3, nc2, nc4, nc6, nc16, nc25, nc60, nc65, nc80, nc130, nc384, nc390, fp_0_0, fp_0_1, fp_0_2, fp_1_0, fp_1_1, fp_1_2, fp_1_3, fp_1_4, fp_1_5, fp_1_6, fp_1_7, fp_1_8, fp_1_9, fp_1_10, fp_1_11, fp_1_12, fp_1_13, fp_1_14, fp_2_0, fp_2_1, fp_2_2, fp_2_3, fp_3_0, fp_3_1, fp_4_0, fp_4_1, fp_4_2, fp_4_3, fp_4_4, fp_4_5, fp_4_6, fp_4_7, fp_5_0, fp_5_1, fp_5_2, fp_5_3, fp_5_4, fp_5_5, fp_5_6, fp_5_7, fp_6_0, fp_6_1, fp_6_2, fp_6_3, fp_6_4, fp_6_5, fp_6_6, fp_6_7, fp_6_8, fp_6_9, fp_6_10, fp_6_11, fp_6_12, fp_6_13, fp_6_14, fp_6_15, fp_7_0, fp_7_1, fp_7_2, fp_7_3, fp_7_4, fp_7_5, fp_7_6, fp_7_7, fp_7_8, fp_7_9, fp_7_10, fp_7_11, fp_7_12, fp_7_13, fp_7_14, fp_7_15, fp_7_16, fp_7_17, fp_7_18, fp_7_19, fp_7_20, fp_7_21, fp_7_22, fp_7_23, fp_7_24, iz_0_1, iz_0_2, iz_1_8, iz_1_9, iz_1_11, iz_2_1, iz_2_2, iz_2_3, iz_3_1, iz_4_1, iz_4_2, iz_5_0, iz_6_8, iz_6_9, iz_6_13, iz_6_14, iz_6_15, iz_7_2, iz_7_6, iz_7_12, iz_7_20, iz_7_21, iz_7_23, iz_7_24, ak_8, ak_9, ak_10, ak_11, ak_12, ak_13, ak_14, ak_15, ak_16, ak_17, ak_18, ak_19, ak_20, ak_21, ak_22, ak_23, ak_24, ak_25, ak_26, ak_27, ak_28, ak_29, ak_30, ak_31, ak_32, ak_33, ak_34, ak_35, ak_36, ak_37, ak_38, ak_39, ak_40, ak_41, ak_42, ak_43, ak_44, ak_45, ak_46, ak_47, ak_48, ak_49, ak_50, ak_51, ak_52, ak_53, ak_54, ak_55, ak_56, el31, el33, el34, CX5_takeOrder, ca_X5_takeOrder, frX5, kcX5, klX5, T_X5_append, exists_eq_right_right, exists_eq_right, exists_eq_left, Nat.lt_irrefl, and_self, implies_true, forall_const]
            refine ⟨⟨p1, p2⟩, fun b => h σ' (by rw [show σ 13 i2 m' = j by omega]; exact h2), fun b => ⟨⟨by omega, by omega⟩, ⟨by omega, by omega⟩, ⟨by omega, by omega⟩, ⟨p1, p2, by omega, by omega⟩, ⟨by omega, by omega⟩, by omega, by omega, by omega, TO_s h2 p3 h0 (by omega)⟩⟩
          · exact hi.elim
        · cases hcut
      · simp only [wp, stp, drp, entL, eL, lget, lset, okst, cnd, swt, rcv, Kr_int, Kr_bool, Kr_void, List.length_cons, List.length_nil, List.replicate, List.append_nil, List.cons_append, List.nil_append, List.take_succ_cons, List.take_zero, List.drop_succ_cons, List.drop_zero, List.reverse_cons, List.reverse_nil, Option.map_some, Option.map_none, Option.toList_some, Option.toList_none, Nat.reduceAdd, Nat.reduceSub, Nat.reduceLT, Nat.reduceLeDiff, Nat.reduceEqDiff, ↓reduceIte, Nat.add_zero, Nat.zero_add, true_and, and_true, Nat.le_refl, reduceCtorEq, false_implies, true_implies, not_true_eq_false, not_false_eq_true, Int.reduceAdd, Int.reduceSub, Int.reduceMul, Int.reduceLE, Int.reduceLT, Int.reduceEq, Int.reduceNe, Int.reduceNeg, Int.reduceDiv, Int.reduceMod, Bool.false_eq_true, Int.le_refl, and_self, true_or, or_true, inR_l, fv0, fv1, fv2, fv3, nc2, nc4, nc6, nc16, nc25, nc60, nc65, nc80, nc130, nc384, nc390, fp_0_0, fp_0_1, fp_0_2, fp_1_0, fp_1_1, fp_1_2, fp_1_3, fp_1_4, fp_1_5, fp_1_6, fp_1_7, fp_1_8, fp_1_9, fp_1_10, fp_1_11, fp_1_12, fp_1_13, fp_1_14, fp_2_0, fp_2_1, fp_2_2, fp_2_3, fp_3_0, fp_3_1, fp_4_0, fp_4_1, fp_4_2, fp_4_3, fp_4_4, fp_4_5, fp_4_6, fp_4_7, fp_5_0, fp_5_1, fp_5_2, fp_5_3, fp_5_4, fp_5_5, fp_5_6, fp_5_7, fp_6_0, fp_6_1, fp_6_2, fp_6_3, fp_6_4, fp_6_5, fp_6_6, fp_6_7, fp_6_8, fp_6_9, fp_6_10, fp_6_11, fp_6_12, fp_6_13, fp_6_14, fp_6_15, fp_7_0, fp_7_1, fp_7_2, fp_7_3, fp_7_4, fp_7_5, fp_7_6, fp_7_7, fp_7_8, fp_7_9, fp_7_10, fp_7_11, fp_7_12, fp_7_13, fp_7_14, fp_7_15, fp_7_16, fp_7_17, fp_7_18, fp_7_19, fp_7_20, fp_7_21, fp_7_22, fp_7_23, fp_7_24, iz_0_1, iz_0_2, iz_1_8, iz_1_9, iz_1_11, iz_2_1, iz_2_2, iz_2_3, iz_3_1, iz_4_1, iz_4_2, iz_5_0, iz_6_8, iz_6_9, iz_6_13, iz_6_14, iz_6_15, iz_7_2, iz_7_6, iz_7_12, iz_7_20, iz_7_21, iz_7_23, iz_7_24, ak_8, ak_9, ak_10, ak_11, ak_12, ak_13, ak_14, ak_15, ak_16, ak_17, ak_18, ak_19, ak_20, ak_21, ak_22, ak_23, ak_24, ak_25, ak_26, ak_27, ak_28, ak_29, ak_30, ak_31, ak_32, ak_33, ak_34, ak_35, ak_36, ak_37, ak_38, ak_39, ak_40, ak_41, ak_42, ak_43, ak_44, ak_45, ak_46, ak_47, ak_48, ak_49, ak_50, ak_51, ak_52, ak_53, ak_54, ak_55, ak_56, el31, el33, el34, CX5_takeOrder, ca_X5_takeOrder, frX5, kcX5, klX5, T_X5_append, exists_eq_right_right, exists_eq_right, exists_eq_left, Nat.lt_irrefl, and_self, implies_true, forall_const]
        obtain ⟨⟨p1, p2, p3, p4, p5⟩, h⟩ := h
        exact ⟨⟨p1, p2⟩, p4, TO_0⟩
    · exact h.elim
