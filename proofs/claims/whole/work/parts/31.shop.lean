/-- the end of a job, as the plan's net has it -/
def ejV (σ : Mem) (j : Int) : Int := if 0 < σ 10 0 j then σ 21 0 (4 * j + σ 10 0 j - 1) + σ 17 0 (4 * j + σ 10 0 j - 1) else σ 8 0 j
def ca_X6_endOfJob : Nat → Option (Nat × Nat × Tr)
  | 298 => some (2, 1, T_X1_endOf)
  | _ => none
theorem cao_X6_endOfJob (l : Launch) : ∀ k n' ci T', ca_X6_endOfJob k = some (n', ci, T') → ∃ nn, nn + 1 ≤ 1 ∧ Site l yX6_endOfJob.cls k n' ci nn T' := by
  intro k n' ci T' h
  unfold ca_X6_endOfJob at h
  split at h
  · cases h; exact ⟨0, by decide, _, _, _, _, k_X1_endOf l, Or.inl ⟨_, rfl, FX1_endOf, KRX6_298⟩⟩
  · cases h
def T_X6_endOfJob : Tr := fun a σ K => match a with
  | [.inr (.inl (6, 0)), .inl j] => (0 ≤ j ∧ j < 4 ∧ σ 10 0 j ≤ 4 ∧ inR (σ 21 0 (4 * j + σ 10 0 j - 1) + σ 17 0 (4 * j + σ 10 0 j - 1))) ∧ K (some (ejV σ j)) σ
  | _ => False
set_option maxHeartbeats 4000000 in
set_option maxRecDepth 20000 in
theorem k_X6_endOfJob (l : Launch) : Ct l yX6_endOfJob cX6_endOfJob 3 (some .int) 1 T_X6_endOfJob := by
  refine mk_met (by decide +kernel) hCX6_endOfJob lCX6_endOfJob frX6_ok cstX6_ok (cao_X6_endOfJob l) ?_ ?_
  · intro a σ K h
    unfold T_X6_endOfJob at h
    split at h
    · simp [eL]
    · exact h.elim
  · intro a σ K ha hR h
    unfold T_X6_endOfJob at h
    split at h
    · rename_i j
      refine ⟨fun _ => none, 200, fun pc I L S σ' k h => (by cases h), ?_⟩
      simp only [wp, stp, drp, entL, eL, lget, lset, okst, cnd, swt, rcv, Kr_int, Kr_bool, Kr_void, List.length_cons, List.length_nil, List.replicate, List.append_nil, List.cons_append, List.nil_append, List.take_succ_cons, List.take_zero, List.drop_succ_cons, List.drop_zero, List.reverse_cons, List.reverse_nil, Option.map_some, Option.map_none, Option.toList_some, Option.toList_none, Nat.reduceAdd, Nat.reduceSub, Nat.reduceLT, Nat.reduceLeDiff, Nat.reduceEqDiff, ↓reduceIte, Nat.add_zero, Nat.zero_add, true_and, and_true, Nat.le_refl, reduceCtorEq, false_implies, true_implies, not_true_eq_false, not_false_eq_true, Int.reduceAdd, Int.reduceSub, Int.reduceMul, Int.reduceLE, Int.reduceLT, Int.reduceEq, Int.reduceNe, Int.reduceNeg, Int.reduceDiv, Int.reduceMod, Bool.false_eq_true, Int.le_refl, and_self, true_or, or_true, inR_l, fv0, fv1, fv2, fv3, nc2, nc4, nc6, nc16, nc25, nc60, nc65, nc80, nc130, nc384, nc390, fp_0_0, fp_0_1, fp_0_2, fp_1_0, fp_1_1, fp_1_2, fp_1_3, fp_1_4, fp_1_5, fp_1_6, fp_1_7, fp_1_8, fp_1_9, fp_1_10, fp_1_11, fp_1_12, fp_1_13, fp_1_14, fp_2_0, fp_2_1, fp_2_2, fp_2_3, fp_3_0, fp_3_1, fp_4_0, fp_4_1, fp_4_2, fp_4_3, fp_4_4, fp_4_5, fp_4_6, fp_4_7, fp_5_0, fp_5_1, fp_5_2, fp_5_3, fp_5_4, fp_5_5, fp_5_6, fp_5_7, fp_6_0, fp_6_1, fp_6_2, fp_6_3, fp_6_4, fp_6_5, fp_6_6, fp_6_7, fp_6_8, fp_6_9, fp_6_10, fp_6_11, fp_6_12, fp_6_13, fp_6_14, fp_6_15, fp_7_0, fp_7_1, fp_7_2, fp_7_3, fp_7_4, fp_7_5, fp_7_6, fp_7_7, fp_7_8, fp_7_9, fp_7_10, fp_7_11, fp_7_12, fp_7_13, fp_7_14, fp_7_15, fp_7_16, fp_7_17, fp_7_18, fp_7_19, fp_7_20, fp_7_21, fp_7_22, fp_7_23, fp_7_24, iz_0_1, iz_0_2, iz_1_8, iz_1_9, iz_1_11, iz_2_1, iz_2_2, iz_2_3, iz_3_1, iz_4_1, iz_4_2, iz_5_0, iz_6_8, iz_6_9, iz_6_13, iz_6_14, iz_6_15, iz_7_2, iz_7_6, iz_7_12, iz_7_20, iz_7_21, iz_7_23, iz_7_24, ak_8, ak_9, ak_10, ak_11, ak_12, ak_13, ak_14, ak_15, ak_16, ak_17, ak_18, ak_19, ak_20, ak_21, ak_22, ak_23, ak_24, ak_25, ak_26, ak_27, ak_28, ak_29, ak_30, ak_31, ak_32, ak_33, ak_34, ak_35, ak_36, ak_37, ak_38, ak_39, ak_40, ak_41, ak_42, ak_43, ak_44, ak_45, ak_46, ak_47, ak_48, ak_49, ak_50, ak_51, ak_52, ak_53, ak_54, ak_55, ak_56, el31, el33, el34, CX6_endOfJob, ca_X6_endOfJob, frX6, kcX6, klX6, T_X1_endOf]
      unfold ejV at h
      grind (splits := 60) [inR, up]
    · exact h.elim
def ca_X6_lateness : Nat → Option (Nat × Nat × Tr)
  | 176 => some (2, 6, T_X6_endOfJob)
  | _ => none
theorem cao_X6_lateness (l : Launch) : ∀ k n' ci T', ca_X6_lateness k = some (n', ci, T') → ∃ nn, nn + 1 ≤ 2 ∧ Site l yX6_lateness.cls k n' ci nn T' := by
  intro k n' ci T' h
  unfold ca_X6_lateness at h
  split at h
  · cases h; exact ⟨1, by decide, _, _, _, _, k_X6_endOfJob l, Or.inl ⟨_, rfl, FX6_endOfJob, KRX6_176⟩⟩
  · cases h
def T_X6_lateness : Tr := fun a σ K => match a with
  | [.inr (.inl (6, 0)), .inl j] => ((0 ≤ j ∧ j < 4 ∧ σ 10 0 j ≤ 4 ∧ inR (σ 21 0 (4 * j + σ 10 0 j - 1) + σ 17 0 (4 * j + σ 10 0 j - 1))) ∧ inR (ejV σ j - σ 9 0 j)) ∧ K (some (if 0 < ejV σ j - σ 9 0 j then ejV σ j - σ 9 0 j else 0)) σ
  | _ => False
set_option maxHeartbeats 4000000 in
set_option maxRecDepth 20000 in
theorem k_X6_lateness (l : Launch) : Ct l yX6_lateness cX6_lateness 3 (some .int) 2 T_X6_lateness := by
  refine mk_met (by decide +kernel) hCX6_lateness lCX6_lateness frX6_ok cstX6_ok (cao_X6_lateness l) ?_ ?_
  · intro a σ K h
    unfold T_X6_lateness at h
    split at h
    · simp [eL]
    · exact h.elim
  · intro a σ K ha hR h
    unfold T_X6_lateness at h
    split at h
    · rename_i j
      refine ⟨fun _ => none, 200, fun pc I L S σ' k h => (by cases h), ?_⟩
      simp only [wp, stp, drp, entL, eL, lget, lset, okst, cnd, swt, rcv, Kr_int, Kr_bool, Kr_void, List.length_cons, List.length_nil, List.replicate, List.append_nil, List.cons_append, List.nil_append, List.take_succ_cons, List.take_zero, List.drop_succ_cons, List.drop_zero, List.reverse_cons, List.reverse_nil, Option.map_some, Option.map_none, Option.toList_some, Option.toList_none, Nat.reduceAdd, Nat.reduceSub, Nat.reduceLT, Nat.reduceLeDiff, Nat.reduceEqDiff, ↓reduceIte, Nat.add_zero, Nat.zero_add, true_and, and_true, Nat.le_refl, reduceCtorEq, false_implies, true_implies, not_true_eq_false, not_false_eq_true, Int.reduceAdd, Int.reduceSub, Int.reduceMul, Int.reduceLE, Int.reduceLT, Int.reduceEq, Int.reduceNe, Int.reduceNeg, Int.reduceDiv, Int.reduceMod, Bool.false_eq_true, Int.le_refl, and_self, true_or, or_true, inR_l, fv0, fv1, fv2, fv3, nc2, nc4, nc6, nc16, nc25, nc60, nc65, nc80, nc130, nc384, nc390, fp_0_0, fp_0_1, fp_0_2, fp_1_0, fp_1_1, fp_1_2, fp_1_3, fp_1_4, fp_1_5, fp_1_6, fp_1_7, fp_1_8, fp_1_9, fp_1_10, fp_1_11, fp_1_12, fp_1_13, fp_1_14, fp_2_0, fp_2_1, fp_2_2, fp_2_3, fp_3_0, fp_3_1, fp_4_0, fp_4_1, fp_4_2, fp_4_3, fp_4_4, fp_4_5, fp_4_6, fp_4_7, fp_5_0, fp_5_1, fp_5_2, fp_5_3, fp_5_4, fp_5_5, fp_5_6, fp_5_7, fp_6_0, fp_6_1, fp_6_2, fp_6_3, fp_6_4, fp_6_5, fp_6_6, fp_6_7, fp_6_8, fp_6_9, fp_6_10, fp_6_11, fp_6_12, fp_6_13, fp_6_14, fp_6_15, fp_7_0, fp_7_1, fp_7_2, fp_7_3, fp_7_4, fp_7_5, fp_7_6, fp_7_7, fp_7_8, fp_7_9, fp_7_10, fp_7_11, fp_7_12, fp_7_13, fp_7_14, fp_7_15, fp_7_16, fp_7_17, fp_7_18, fp_7_19, fp_7_20, fp_7_21, fp_7_22, fp_7_23, fp_7_24, iz_0_1, iz_0_2, iz_1_8, iz_1_9, iz_1_11, iz_2_1, iz_2_2, iz_2_3, iz_3_1, iz_4_1, iz_4_2, iz_5_0, iz_6_8, iz_6_9, iz_6_13, iz_6_14, iz_6_15, iz_7_2, iz_7_6, iz_7_12, iz_7_20, iz_7_21, iz_7_23, iz_7_24, ak_8, ak_9, ak_10, ak_11, ak_12, ak_13, ak_14, ak_15, ak_16, ak_17, ak_18, ak_19, ak_20, ak_21, ak_22, ak_23, ak_24, ak_25, ak_26, ak_27, ak_28, ak_29, ak_30, ak_31, ak_32, ak_33, ak_34, ak_35, ak_36, ak_37, ak_38, ak_39, ak_40, ak_41, ak_42, ak_43, ak_44, ak_45, ak_46, ak_47, ak_48, ak_49, ak_50, ak_51, ak_52, ak_53, ak_54, ak_55, ak_56, el31, el33, el34, CX6_lateness, ca_X6_lateness, frX6, kcX6, klX6, T_X6_endOfJob]
      grind (splits := 60) [inR, up]
    · exact h.elim
