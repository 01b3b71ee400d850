def ca_X5_nextOnMachine : Nat → Option (Nat × Nat × Tr)
  | 53 => some (2, 5, T_X5_placeOf)
  | 57 => some (3, 5, T_X5_operationAt)
  | _ => none
theorem cao_X5_nextOnMachine (l : Launch) : ∀ k n' ci T', ca_X5_nextOnMachine k = some (n', ci, T') → ∃ nn, nn + 1 ≤ 2 ∧ Site l yX5_nextOnMachine.cls k n' ci nn T' := by
  intro k n' ci T' h
  unfold ca_X5_nextOnMachine at h
  split at h
  · cases h; exact ⟨0, by decide, _, _, _, _, k_X5_placeOf l, Or.inl ⟨_, rfl, FX5_placeOf, KRX5_53⟩⟩
  · cases h; exact ⟨1, by decide, _, _, _, _, k_X5_operationAt l, Or.inl ⟨_, rfl, FX5_operationAt, KRX5_57⟩⟩
  · cases h
def T_X5_nextOnMachine : Tr := fun a σ K => match a with
  | [.inr (.inl (5, i)), .inl x] => (0 ≤ x ∧ x < 16 ∧ 0 ≤ σ 11 i x ∧ σ 11 i x < 4 ∧ σ 13 i (σ 11 i x) ≤ 4 ∧ inR (plF (σ 14 i) (4 * σ 11 i x) (σ 13 i (σ 11 i x)) (x / 4) + 1) ∧ (∀ y, 0 ≤ y → y < σ 13 i (σ 11 i x) → 0 ≤ σ 14 i (4 * σ 11 i x + y) ∧ σ 14 i (4 * σ 11 i x + y) < 4 ∧ σ 10 i (σ 14 i (4 * σ 11 i x + y)) ≤ 4)) ∧ K (some (if plF (σ 14 i) (4 * σ 11 i x) (σ 13 i (σ 11 i x)) (x / 4) = -6 then -6 else if 0 ≤ plF (σ 14 i) (4 * σ 11 i x) (σ 13 i (σ 11 i x)) (x / 4) + 1 ∧ plF (σ 14 i) (4 * σ 11 i x) (σ 13 i (σ 11 i x)) (x / 4) + 1 < σ 13 i (σ 11 i x) then opF (σ 11 i) (σ 10 i (σ 14 i (4 * σ 11 i x + (plF (σ 14 i) (4 * σ 11 i x) (σ 13 i (σ 11 i x)) (x / 4) + 1)))) (σ 14 i (4 * σ 11 i x + (plF (σ 14 i) (4 * σ 11 i x) (σ 13 i (σ 11 i x)) (x / 4) + 1))) (σ 11 i x) else -6)) σ
  | _ => False
set_option maxHeartbeats 4000000 in
set_option maxRecDepth 20000 in
theorem k_X5_nextOnMachine (l : Launch) : Ct l yX5_nextOnMachine cX5_nextOnMachine 3 (some .int) 2 T_X5_nextOnMachine := by
  refine mk_met (by decide +kernel) hCX5_nextOnMachine lCX5_nextOnMachine frX5_ok cstX5_ok (cao_X5_nextOnMachine l) ?_ ?_
  · intro a σ K h
    unfold T_X5_nextOnMachine at h
    split at h
    · simp [eL]
    · exact h.elim
  · intro a σ K ha hR h
    unfold T_X5_nextOnMachine at h
    split at h
    · rename_i i x
      refine ⟨fun _ => none, 60, fun pc I L S σ' k h => (by cases h), ?_⟩
      simp only [wp, stp, drp, entL, eL, lget, lset, okst, cnd, swt, rcv, Kr_int, Kr_bool, Kr_void, List.length_cons, List.length_nil, List.replicate, List.append_nil, List.cons_append, List.nil_append, List.take_succ_cons, List.take_zero, List.drop_succ_cons, List.drop_zero, List.reverse_cons, List.reverse_nil, Option.map_some, Option.map_none, Option.toList_some, Option.toList_none, Nat.reduceAdd, Nat.reduceSub, Nat.reduceLT, Nat.reduceLeDiff, Nat.reduceEqDiff, ↓reduceIte, Nat.add_zero, Nat.zero_add, true_and, and_true, Nat.le_refl, reduceCtorEq, false_implies, true_implies, not_true_eq_false, not_false_eq_true, Int.reduceAdd, Int.reduceSub, Int.reduceMul, Int.reduceLE, Int.reduceLT, Int.reduceEq, Int.reduceNe, Int.reduceNeg, Int.reduceDiv, Int.reduceMod, Bool.false_eq_true, Int.le_refl, and_self, true_or, or_true, inR_l, fv0, fv1, fv2, fv3, nc2, nc4, nc6, nc16, nc25, nc60, nc65, nc80, nc130, nc384, nc390, fp_0_0, fp_0_1, fp_0_2, fp_1_0, fp_1_1, fp_1_2, fp_1_3, fp_1_4, fp_1_5, fp_1_6, fp_1_7, fp_1_8, fp_1_9, fp_1_10, fp_1_11, fp_1_12, fp_1_13, fp_1_14, fp_2_0, fp_2_1, fp_2_2, fp_2_3, fp_3_0, fp_3_1, fp_4_0, fp_4_1, fp_4_2, fp_4_3, fp_4_4, fp_4_5, fp_4_6, fp_4_7, fp_5_0, fp_5_1, fp_5_2, fp_5_3, fp_5_4, fp_5_5, fp_5_6, fp_5_7, fp_6_0, fp_6_1, fp_6_2, fp_6_3, fp_6_4, fp_6_5, fp_6_6, fp_6_7, fp_6_8, fp_6_9, fp_6_10, fp_6_11, fp_6_12, fp_6_13, fp_6_14, fp_6_15, fp_7_0, fp_7_1, fp_7_2, fp_7_3, fp_7_4, fp_7_5, fp_7_6, fp_7_7, fp_7_8, fp_7_9, fp_7_10, fp_7_11, fp_7_12, fp_7_13, fp_7_14, fp_7_15, fp_7_16, fp_7_17, fp_7_18, fp_7_19, fp_7_20, fp_7_21, fp_7_22, fp_7_23, fp_7_24, iz_0_1, iz_0_2, iz_1_8, iz_1_9, iz_1_11, iz_2_1, iz_2_2, iz_2_3, iz_3_1, iz_4_1, iz_4_2, iz_5_0, iz_6_8, iz_6_9, iz_6_13, iz_6_14, iz_6_15, iz_7_2, iz_7_6, iz_7_12, iz_7_20, iz_7_21, iz_7_23, iz_7_24, ak_8, ak_9, ak_10, ak_11, ak_12, ak_13, ak_14, ak_15, ak_16, ak_17, ak_18, ak_19, ak_20, ak_21, ak_22, ak_23, ak_24, ak_25, ak_26, ak_27, ak_28, ak_29, ak_30, ak_31, ak_32, ak_33, ak_34, ak_35, ak_36, ak_37, ak_38, ak_39, ak_40, ak_41, ak_42, ak_43, ak_44, ak_45, ak_46, ak_47, ak_48, ak_49, ak_50, ak_51, ak_52, ak_53, ak_54, ak_55, ak_56, el31, el33, el34, CX5_nextOnMachine, ca_X5_nextOnMachine, frX5, kcX5, klX5, T_X5_placeOf, T_X5_operationAt]
      obtain ⟨⟨p1, p2, p3, p4, p5, p6, p7⟩, h⟩ := h
      refine ⟨⟨p1, p2, p3, p4, p5⟩, fun a => ?_, fun a => ?_⟩
      · rw [if_neg a] at h
        refine ⟨⟨p1, p2⟩, p6, ⟨p3, p4, p5, fun u v => p7 _ u v⟩, h⟩
      · rw [if_pos (Classical.not_not.mp a)] at h
        exact h
    · exact h.elim
