def ca_X6_beginChange : Nat → Option (Nat × Nat × Tr)
  | 256 => some (2, 0, T_X0_record)
  | 253 => some (1, 6, T_X6_forgetAnswers)
  | _ => none
theorem cao_X6_beginChange (l : Launch) : ∀ k n' ci T', ca_X6_beginChange k = some (n', ci, T') → ∃ nn, nn + 1 ≤ 3 ∧ Site l yX6_beginChange.cls k n' ci nn T' := by
  intro k n' ci T' h
  unfold ca_X6_beginChange at h
  split at h
  · cases h; exact ⟨2, by decide, _, _, _, _, k_X0_record l, Or.inl ⟨_, rfl, FX0_record, KRX6_256⟩⟩
  · cases h; exact ⟨0, by decide, _, _, _, _, k_X6_forgetAnswers l, Or.inl ⟨_, rfl, FX6_forgetAnswers, KRX6_253⟩⟩
  · cases h
def T_X6_beginChange : Tr := fun a σ K => match a with
  | [.inr (.inl (6, 0))] => (0 ≤ σ 0 0 2 ∧ σ 0 0 2 < 6 ∧ 0 ≤ σ 0 0 1 ∧ σ 0 0 1 ≤ 6) ∧ ∀ σ' : Mem, (∀ t k j, σ' t k j = if t = 0 ∧ k = 0 ∧ j = 2 then (σ 0 0 2 + 1) % 6 else if t = 0 ∧ k = 0 ∧ j = 1 then (if σ 0 0 1 < 6 then σ 0 0 1 + 1 else σ 0 0 1) else if (t = 6 ∧ k = 0 ∧ j = 8) ∨ (t = 4 ∧ (k = 0 ∨ k = 1) ∧ j = 1) then 0 else if k = 2 + ((σ 0 0 2 + 1) % 6).toNat ∧ ((t = 5 ∧ j = 0) ∨ (8 ≤ t ∧ t ≤ 14 ∧ 0 ≤ j ∧ j < (if t = 11 ∨ t = 12 ∨ t = 14 then 16 else 4))) then σ t 0 j else σ t k j) → K none σ'
  | _ => False
set_option maxHeartbeats 4000000 in
set_option maxRecDepth 20000 in
theorem k_X6_beginChange (l : Launch) : Ct l yX6_beginChange cX6_beginChange 1 none 3 T_X6_beginChange := by
  refine mk_met (by decide +kernel) hCX6_beginChange lCX6_beginChange frX6_ok cstX6_ok (cao_X6_beginChange l) ?_ ?_
  · intro a σ K h
    unfold T_X6_beginChange at h
    split at h
    · simp [eL]
    · exact h.elim
  · intro a σ K ha hR h
    unfold T_X6_beginChange at h
    split at h
    · refine ⟨fun _ => none, 200, fun pc I L S σ' k h => (by cases h), ?_⟩
      simp only [wp, stp, drp, entL, eL, lget, lset, okst, cnd, swt, rcv, Kr_int, Kr_bool, Kr_void, List.length_cons, List.length_nil, List.replicate, List.append_nil, List.cons_append, List.nil_append, List.take_succ_cons, List.take_zero, List.drop_succ_cons, List.drop_zero, List.reverse_cons, List.reverse_nil, Option.map_some, Option.map_none, Option.toList_some, Option.toList_none, Nat.reduceAdd, Nat.reduceSub, Nat.reduceLT, Nat.reduceLeDiff, Nat.reduceEqDiff, ↓reduceIte, Nat.add_zero, Nat.zero_add, true_and, and_true, Nat.le_refl, reduceCtorEq, false_implies, true_implies, not_true_eq_false, not_false_eq_true, Int.reduceAdd, Int.reduceSub, Int.reduceMul, Int.reduceLE, Int.reduceLT, Int.reduceEq, Int.reduceNe, Int.reduceNeg, Int.reduceDiv, Int.reduceMod, Bool.false_eq_true, Int.le_refl, and_self, true_or, or_true, inR_l, fv0, fv1, fv2, fv3, nc2, nc4, nc6, nc16, nc25, nc60, nc65, nc80, nc130, nc384, nc390, fp_0_0, fp_0_1, fp_0_2, fp_1_0, fp_1_1, fp_1_2, fp_1_3, fp_1_4, fp_1_5, fp_1_6, fp_1_7, fp_1_8, fp_1_9, fp_1_10, fp_1_11, fp_1_12, fp_1_13, fp_1_14, fp_2_0, fp_2_1, fp_2_2, fp_2_3, fp_3_0, fp_3_1, fp_4_0, fp_4_1, fp_4_2, fp_4_3, fp_4_4, fp_4_5, fp_4_6, fp_4_7, fp_5_0, fp_5_1, fp_5_2, fp_5_3, fp_5_4, fp_5_5, fp_5_6, fp_5_7, fp_6_0, fp_6_1, fp_6_2, fp_6_3, fp_6_4, fp_6_5, fp_6_6, fp_6_7, fp_6_8, fp_6_9, fp_6_10, fp_6_11, fp_6_12, fp_6_13, fp_6_14, fp_6_15, fp_7_0, fp_7_1, fp_7_2, fp_7_3, fp_7_4, fp_7_5, fp_7_6, fp_7_7, fp_7_8, fp_7_9, fp_7_10, fp_7_11, fp_7_12, fp_7_13, fp_7_14, fp_7_15, fp_7_16, fp_7_17, fp_7_18, fp_7_19, fp_7_20, fp_7_21, fp_7_22, fp_7_23, fp_7_24, iz_0_1, iz_0_2, iz_1_8, iz_1_9, iz_1_11, iz_2_1, iz_2_2, iz_2_3, iz_3_1, iz_4_1, iz_4_2, iz_5_0, iz_6_8, iz_6_9, iz_6_13, iz_6_14, iz_6_15, iz_7_2, iz_7_6, iz_7_12, iz_7_20, iz_7_21, iz_7_23, iz_7_24, ak_8, ak_9, ak_10, ak_11, ak_12, ak_13, ak_14, ak_15, ak_16, ak_17, ak_18, ak_19, ak_20, ak_21, ak_22, ak_23, ak_24, ak_25, ak_26, ak_27, ak_28, ak_29, ak_30, ak_31, ak_32, ak_33, ak_34, ak_35, ak_36, ak_37, ak_38, ak_39, ak_40, ak_41, ak_42, ak_43, ak_44, ak_45, ak_46, ak_47, ak_48, ak_49, ak_50, ak_51, ak_52, ak_53, ak_54, ak_55, ak_56, el31, el33, el34, CX6_beginChange, ca_X6_beginChange, frX6, kcX6, klX6, T_X0_record, T_X6_forgetAnswers]
      obtain ⟨⟨p1, p2, p3, p4⟩, h⟩ := h
      refine ⟨⟨p1, p2, p3, p4⟩, fun σ' hs => h _ (fun t k j => ?_)⟩
      simp only [up]
      rw [hs]
      grind (splits := 40)
    · exact h.elim
