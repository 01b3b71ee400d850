def ca_X6_numberOfPlan : Nat → Option (Nat × Nat × Tr)
  | 311 => some (2, 3, T_X3_blocks)
  | 314 => some (1, 6, T_X6_sumOfLateness2)
  | 317 => some (1, 6, T_X6_greatestLateness)
  | _ => none
theorem cao_X6_numberOfPlan (l : Launch) : ∀ k n' ci T', ca_X6_numberOfPlan k = some (n', ci, T') → ∃ nn, nn + 1 ≤ 4 ∧ Site l yX6_numberOfPlan.cls k n' ci nn T' := by
  intro k n' ci T' h
  unfold ca_X6_numberOfPlan at h
  split at h
  · cases h; exact ⟨0, by decide, _, _, _, _, k_X3_blocks l, Or.inl ⟨_, rfl, FX3_blocks, KRX6_311⟩⟩
  · cases h; exact ⟨3, by decide, _, _, _, _, k_X6_sumOfLateness2 l, Or.inl ⟨_, rfl, FX6_sumOfLateness, KRX6_314⟩⟩
  · cases h; exact ⟨3, by decide, _, _, _, _, k_X6_greatestLateness l, Or.inl ⟨_, rfl, FX6_greatestLateness, KRX6_317⟩⟩
  · cases h
def T_X6_numberOfPlan : Tr := fun a σ K => match a with
  | [.inr (.inl (6, 0)), .inl w] => (sWF σ 0 ∧ PK σ) ∧ (w = 3 → K (some (σ 3 0 1)) σ) ∧ (w = 4 → K (some (sm (blk (σ 11 0) (σ 37 0)) (σ 3 0 1).toNat)) σ) ∧ (w = 5 → K (some (sm (ltV σ) (σ 5 0 0).toNat)) σ) ∧ (w ≠ 3 ∧ w ≠ 4 ∧ w ≠ 5 → K (some (mxS (ltV σ) (σ 5 0 0).toNat)) σ)
  | _ => False
set_option maxHeartbeats 4000000 in
set_option maxRecDepth 20000 in
theorem k_X6_numberOfPlan (l : Launch) : Ct l yX6_numberOfPlan cX6_numberOfPlan 2 (some .int) 4 T_X6_numberOfPlan := by
  refine mk_met (by decide +kernel) hCX6_numberOfPlan lCX6_numberOfPlan frX6_ok cstX6_ok (cao_X6_numberOfPlan l) ?_ ?_
  · intro a σ K h
    unfold T_X6_numberOfPlan at h
    split at h
    · simp [eL]
    · exact h.elim
  · intro a σ K ha hR h
    unfold T_X6_numberOfPlan at h
    split at h
    · rename_i w
      refine ⟨fun _ => none, 200, fun pc I L S σ' k h => (by cases h), ?_⟩
      simp only [wp, stp, drp, entL, eL, lget, lset, okst, cnd, swt, rcv, Kr_int, Kr_bool, Kr_void, List.length_cons, List.length_nil, List.replicate, List.append_nil, List.cons_append, List.nil_append, List.take_succ_cons, List.take_zero, List.drop_succ_cons, List.drop_zero, List.reverse_cons, List.reverse_nil, Option.map_some, Option.map_none, Option.toList_some, Option.toList_none, Nat.reduceAdd, Nat.reduceSub, Nat.reduceLT, Nat.reduceLeDiff, Nat.reduceEqDiff, ↓reduceIte, Nat.add_zero, Nat.zero_add, true_and, and_true, Nat.le_refl, reduceCtorEq, false_implies, true_implies, not_true_eq_false, not_false_eq_true, Int.reduceAdd, Int.reduceSub, Int.reduceMul, Int.reduceLE, Int.reduceLT, Int.reduceEq, Int.reduceNe, Int.reduceNeg, Int.reduceDiv, Int.reduceMod, Bool.false_eq_true, Int.le_refl, and_self, true_or, or_true, inR_l, fv0, fv1, fv2, fv3, nc2, nc4, nc6, nc16, nc25, nc60, nc65, nc80, nc130, nc384, nc390, fp_0_0, fp_0_1, fp_0_2, fp_1_0, fp_1_1, fp_1_2, fp_1_3, fp_1_4, fp_1_5, fp_1_6, fp_1_7, fp_1_8, fp_1_9, fp_1_10, fp_1_11, fp_1_12, fp_1_13, fp_1_14, fp_2_0, fp_2_1, fp_2_2, fp_2_3, fp_3_0, fp_3_1, fp_4_0, fp_4_1, fp_4_2, fp_4_3, fp_4_4, fp_4_5, fp_4_6, fp_4_7, fp_5_0, fp_5_1, fp_5_2, fp_5_3, fp_5_4, fp_5_5, fp_5_6, fp_5_7, fp_6_0, fp_6_1, fp_6_2, fp_6_3, fp_6_4, fp_6_5, fp_6_6, fp_6_7, fp_6_8, fp_6_9, fp_6_10, fp_6_11, fp_6_12, fp_6_13, fp_6_14, fp_6_15, fp_7_0, fp_7_1, fp_7_2, fp_7_3, fp_7_4, fp_7_5, fp_7_6, fp_7_7, fp_7_8, fp_7_9, fp_7_10, fp_7_11, fp_7_12, fp_7_13, fp_7_14, fp_7_15, fp_7_16, fp_7_17, fp_7_18, fp_7_19, fp_7_20, fp_7_21, fp_7_22, fp_7_23, fp_7_24, iz_0_1, iz_0_2, iz_1_8, iz_1_9, iz_1_11, iz_2_1, iz_2_2, iz_2_3, iz_3_1, iz_4_1, iz_4_2, iz_5_0, iz_6_8, iz_6_9, iz_6_13, iz_6_14, iz_6_15, iz_7_2, iz_7_6, iz_7_12, iz_7_20, iz_7_21, iz_7_23, iz_7_24, ak_8, ak_9, ak_10, ak_11, ak_12, ak_13, ak_14, ak_15, ak_16, ak_17, ak_18, ak_19, ak_20, ak_21, ak_22, ak_23, ak_24, ak_25, ak_26, ak_27, ak_28, ak_29, ak_30, ak_31, ak_32, ak_33, ak_34, ak_35, ak_36, ak_37, ak_38, ak_39, ak_40, ak_41, ak_42, ak_43, ak_44, ak_45, ak_46, ak_47, ak_48, ak_49, ak_50, ak_51, ak_52, ak_53, ak_54, ak_55, ak_56, el31, el33, el34, CX6_numberOfPlan, ca_X6_numberOfPlan, frX6, kcX6, klX6, T_X3_blocks, T_X6_sumOfLateness2, T_X6_greatestLateness, up_ap, false_and, and_false, if_false, if_true, ite_true, ite_false]
      obtain ⟨⟨p1, p2⟩, h3, h4, h5, h6⟩ := h
      obtain ⟨e1, e2, e3, e4, e5, e6⟩ := PK_e p1 p2
      exact ⟨⟨h3, fun a => ⟨⟨e3.1, e3.2, fun k k0 k1 => ⟨(e4 k k0 k1).1, (e4 k k0 k1).2.1⟩⟩, h4 a⟩, fun a => ⟨⟨e1.1, e1.2, e2⟩, h5 a⟩⟩, fun a => ⟨⟨e1.1, e1.2, e2⟩, h6 (by omega)⟩⟩
    · exact h.elim
def ca_X6_timeAbout : Nat → Option (Nat × Nat × Tr)
  | 307 => some (2, 1, T_X1_slackOf)
  | 310 => some (2, 3, T_X3_placeOf)
  | _ => none
theorem cao_X6_timeAbout (l : Launch) : ∀ k n' ci T', ca_X6_timeAbout k = some (n', ci, T') → ∃ nn, nn + 1 ≤ 2 ∧ Site l yX6_timeAbout.cls k n' ci nn T' := by
  intro k n' ci T' h
  unfold ca_X6_timeAbout at h
  split at h
  · cases h; exact ⟨1, by decide, _, _, _, _, k_X1_slackOf l, Or.inl ⟨_, rfl, FX1_slackOf, KRX6_307⟩⟩
  · cases h; exact ⟨0, by decide, _, _, _, _, k_X3_placeOf l, Or.inl ⟨_, rfl, FX3_placeOf, KRX6_310⟩⟩
  · cases h
def T_X6_timeAbout : Tr := fun a σ K => match a with
  | [.inr (.inl (6, 0)), .inl x, .inl w] => (sWF σ 0 ∧ PK σ ∧ vOp (σ 10 0) x) ∧ (w = 3 → K (some (σ 21 0 x)) σ) ∧ (w = 4 → K (some (σ 22 0 x)) σ) ∧ (w = 5 → K (some (σ 1 0 8 - (σ 21 0 x + σ 12 0 x + σ 22 0 x))) σ) ∧ (w = 6 → σ 1 0 8 - (σ 21 0 x + σ 12 0 x + σ 22 0 x) = 0 → K (some 1) σ) ∧ (w = 6 → ¬ σ 1 0 8 - (σ 21 0 x + σ 12 0 x + σ 22 0 x) = 0 → K (some 0) σ) ∧ (w ≠ 3 ∧ w ≠ 4 ∧ w ≠ 5 ∧ w ≠ 6 → ∀ r, PoP (σ 37 0) (σ 3 0 1) x r → K (some r) σ)
  | _ => False
set_option maxHeartbeats 4000000 in
set_option maxRecDepth 20000 in
theorem k_X6_timeAbout (l : Launch) : Ct l yX6_timeAbout cX6_timeAbout 3 (some .int) 2 T_X6_timeAbout := by
  refine mk_met (by decide +kernel) hCX6_timeAbout lCX6_timeAbout frX6_ok cstX6_ok (cao_X6_timeAbout l) ?_ ?_
  · intro a σ K h
    unfold T_X6_timeAbout at h
    split at h
    · simp [eL]
    · exact h.elim
  · intro a σ K ha hR h
    unfold T_X6_timeAbout at h
    split at h
    · rename_i x w
      refine ⟨fun _ => none, 200, fun pc I L S σ' k h => (by cases h), ?_⟩
      simp only [wp, stp, drp, entL, eL, lget, lset, okst, cnd, swt, rcv, Kr_int, Kr_bool, Kr_void, List.length_cons, List.length_nil, List.replicate, List.append_nil, List.cons_append, List.nil_append, List.take_succ_cons, List.take_zero, List.drop_succ_cons, List.drop_zero, List.reverse_cons, List.reverse_nil, Option.map_some, Option.map_none, Option.toList_some, Option.toList_none, Nat.reduceAdd, Nat.reduceSub, Nat.reduceLT, Nat.reduceLeDiff, Nat.reduceEqDiff, ↓reduceIte, Nat.add_zero, Nat.zero_add, true_and, and_true, Nat.le_refl, reduceCtorEq, false_implies, true_implies, not_true_eq_false, not_false_eq_true, Int.reduceAdd, Int.reduceSub, Int.reduceMul, Int.reduceLE, Int.reduceLT, Int.reduceEq, Int.reduceNe, Int.reduceNeg, Int.reduceDiv, Int.reduceMod, Bool.false_eq_true, Int.le_refl, and_self, true_or, or_true, inR_l, fv0, fv1, fv2, fv3, nc2, nc4, nc6, nc16, nc25, nc60, nc65, nc80, nc130, nc384, nc390, fp_0_0, fp_0_1, fp_0_2, fp_1_0, fp_1_1, fp_1_2, fp_1_3, fp_1_4, fp_1_5, fp_1_6, fp_1_7, fp_1_8, fp_1_9, fp_1_10, fp_1_11, fp_1_12, fp_1_13, fp_1_14, fp_2_0, fp_2_1, fp_2_2, fp_2_3, fp_3_0, fp_3_1, fp_4_0, fp_4_1, fp_4_2, fp_4_3, fp_4_4, fp_4_5, fp_4_6, fp_4_7, fp_5_0, fp_5_1, fp_5_2, fp_5_3, fp_5_4, fp_5_5, fp_5_6, fp_5_7, fp_6_0, fp_6_1, fp_6_2, fp_6_3, fp_6_4, fp_6_5, fp_6_6, fp_6_7, fp_6_8, fp_6_9, fp_6_10, fp_6_11, fp_6_12, fp_6_13, fp_6_14, fp_6_15, fp_7_0, fp_7_1, fp_7_2, fp_7_3, fp_7_4, fp_7_5, fp_7_6, fp_7_7, fp_7_8, fp_7_9, fp_7_10, fp_7_11, fp_7_12, fp_7_13, fp_7_14, fp_7_15, fp_7_16, fp_7_17, fp_7_18, fp_7_19, fp_7_20, fp_7_21, fp_7_22, fp_7_23, fp_7_24, iz_0_1, iz_0_2, iz_1_8, iz_1_9, iz_1_11, iz_2_1, iz_2_2, iz_2_3, iz_3_1, iz_4_1, iz_4_2, iz_5_0, iz_6_8, iz_6_9, iz_6_13, iz_6_14, iz_6_15, iz_7_2, iz_7_6, iz_7_12, iz_7_20, iz_7_21, iz_7_23, iz_7_24, ak_8, ak_9, ak_10, ak_11, ak_12, ak_13, ak_14, ak_15, ak_16, ak_17, ak_18, ak_19, ak_20, ak_21, ak_22, ak_23, ak_24, ak_25, ak_26, ak_27, ak_28, ak_29, ak_30, ak_31, ak_32, ak_33, ak_34, ak_35, ak_36, ak_37, ak_38, ak_39, ak_40, ak_41, ak_42, ak_43, ak_44, ak_45, ak_46, ak_47, ak_48, ak_49, ak_50, ak_51, ak_52, ak_53, ak_54, ak_55, ak_56, el31, el33, el34, CX6_timeAbout, ca_X6_timeAbout, frX6, kcX6, klX6, T_X1_slackOf, T_X3_placeOf, up_ap, false_and, and_false, if_false, if_true, ite_true, ite_false]
      obtain ⟨⟨p1, p2, p3⟩, h3, h4, h5, h6, h7, h8⟩ := h
      obtain ⟨e1, e2, e3, e4, e5, e6⟩ := PK_e p1 p2
      have v := p3
      obtain ⟨v0, v1, -⟩ := p3
      have q := e5 x v
      rw [q.2.2.2.2.1]
      refine ⟨⟨fun a => ⟨⟨v0, v1⟩, h3 a⟩, fun a => ⟨⟨v0, v1⟩, h4 a⟩, fun a => ⟨⟨v0, v1, by simp only [inR]; omega, by simp only [inR]; omega, by simp only [inR]; omega⟩, h5 a⟩, fun a => ⟨⟨v0, v1, by simp only [inR]; omega, by simp only [inR]; omega, by simp only [inR]; omega⟩, fun b => h7 a b, fun b => h6 a (by omega)⟩⟩, fun a => ⟨e3, h8 (by omega)⟩⟩
    · exact h.elim
def ca_X6_stays : Nat → Option (Nat × Nat × Tr)
  | 97 => some (2, 5, T_X5_hasOperation)
  | 298 => some (2, 1, T_X1_endOf)
  | _ => none
theorem cao_X6_stays (l : Launch) : ∀ k n' ci T', ca_X6_stays k = some (n', ci, T') → ∃ nn, nn + 1 ≤ 1 ∧ Site l yX6_stays.cls k n' ci nn T' := by
  intro k n' ci T' h
  unfold ca_X6_stays at h
  split at h
  · cases h; exact ⟨0, by decide, _, _, _, _, k_X5_hasOperation l, Or.inl ⟨_, rfl, FX5_hasOperation, KRX6_97⟩⟩
  · cases h; exact ⟨0, by decide, _, _, _, _, k_X1_endOf l, Or.inl ⟨_, rfl, FX1_endOf, KRX6_298⟩⟩
  · cases h
def T_X6_stays : Tr := fun a σ K => match a with
  | [.inr (.inl (6, 0)), .inl x, .inl m, .inl t] => (sWF σ 0 ∧ PK σ ∧ vOp (σ 10 0) x) ∧ (((σ 11 0 x = m ∧ σ 21 0 x + σ 12 0 x ≤ t) ∨ (σ 11 0 x ≠ m ∧ σ 21 0 x < t)) → K (some 1) σ) ∧ (¬ ((σ 11 0 x = m ∧ σ 21 0 x + σ 12 0 x ≤ t) ∨ (σ 11 0 x ≠ m ∧ σ 21 0 x < t)) → K (some 0) σ)
  | _ => False
set_option maxHeartbeats 4000000 in
set_option maxRecDepth 20000 in
theorem k_X6_stays (l : Launch) : Ct l yX6_stays cX6_stays 4 (some .boolean) 1 T_X6_stays := by
  refine mk_met (by decide +kernel) hCX6_stays lCX6_stays frX6_ok cstX6_ok (cao_X6_stays l) ?_ ?_
  · intro a σ K h
    unfold T_X6_stays at h
    split at h
    · simp [eL]
    · exact h.elim
  · intro a σ K ha hR h
    unfold T_X6_stays at h
    split at h
    · rename_i x m t
      refine ⟨fun _ => none, 200, fun pc I L S σ' k h => (by cases h), ?_⟩
      simp only [wp, stp, drp, entL, eL, lget, lset, okst, cnd, swt, rcv, Kr_int, Kr_bool, Kr_void, List.length_cons, List.length_nil, List.replicate, List.append_nil, List.cons_append, List.nil_append, List.take_succ_cons, List.take_zero, List.drop_succ_cons, List.drop_zero, List.reverse_cons, List.reverse_nil, Option.map_some, Option.map_none, Option.toList_some, Option.toList_none, Nat.reduceAdd, Nat.reduceSub, Nat.reduceLT, Nat.reduceLeDiff, Nat.reduceEqDiff, ↓reduceIte, Nat.add_zero, Nat.zero_add, true_and, and_true, Nat.le_refl, reduceCtorEq, false_implies, true_implies, not_true_eq_false, not_false_eq_true, Int.reduceAdd, Int.reduceSub, Int.reduceMul, Int.reduceLE, Int.reduceLT, Int.reduceEq, Int.reduceNe, Int.reduceNeg, Int.reduceDiv, Int.reduceMod, Bool.false_eq_true, Int.le_refl, and_self, true_or, or_true, inR_l, fv0, fv1, fv2, fv3, nc2, nc4, nc6, nc16, nc25, nc60, nc65, nc80, nc130, nc384, nc390, fp_0_0, fp_0_1, fp_0_2, fp_1_0, fp_1_1, fp_1_2, fp_1_3, fp_1_4, fp_1_5, fp_1_6, fp_1_7, fp_1_8, fp_1_9, fp_1_10, fp_1_11, fp_1_12, fp_1_13, fp_1_14, fp_2_0, fp_2_1, fp_2_2, fp_2_3, fp_3_0, fp_3_1, fp_4_0, fp_4_1, fp_4_2, fp_4_3, fp_4_4, fp_4_5, fp_4_6, fp_4_7, fp_5_0, fp_5_1, fp_5_2, fp_5_3, fp_5_4, fp_5_5, fp_5_6, fp_5_7, fp_6_0, fp_6_1, fp_6_2, fp_6_3, fp_6_4, fp_6_5, fp_6_6, fp_6_7, fp_6_8, fp_6_9, fp_6_10, fp_6_11, fp_6_12, fp_6_13, fp_6_14, fp_6_15, fp_7_0, fp_7_1, fp_7_2, fp_7_3, fp_7_4, fp_7_5, fp_7_6, fp_7_7, fp_7_8, fp_7_9, fp_7_10, fp_7_11, fp_7_12, fp_7_13, fp_7_14, fp_7_15, fp_7_16, fp_7_17, fp_7_18, fp_7_19, fp_7_20, fp_7_21, fp_7_22, fp_7_23, fp_7_24, iz_0_1, iz_0_2, iz_1_8, iz_1_9, iz_1_11, iz_2_1, iz_2_2, iz_2_3, iz_3_1, iz_4_1, iz_4_2, iz_5_0, iz_6_8, iz_6_9, iz_6_13, iz_6_14, iz_6_15, iz_7_2, iz_7_6, iz_7_12, iz_7_20, iz_7_21, iz_7_23, iz_7_24, ak_8, ak_9, ak_10, ak_11, ak_12, ak_13, ak_14, ak_15, ak_16, ak_17, ak_18, ak_19, ak_20, ak_21, ak_22, ak_23, ak_24, ak_25, ak_26, ak_27, ak_28, ak_29, ak_30, ak_31, ak_32, ak_33, ak_34, ak_35, ak_36, ak_37, ak_38, ak_39, ak_40, ak_41, ak_42, ak_43, ak_44, ak_45, ak_46, ak_47, ak_48, ak_49, ak_50, ak_51, ak_52, ak_53, ak_54, ak_55, ak_56, el31, el33, el34, CX6_stays, ca_X6_stays, frX6, kcX6, klX6, T_X5_hasOperation, T_X1_endOf, up_ap, false_and, and_false, if_false, if_true, ite_true, ite_false]
      obtain ⟨⟨p1, p2, p3⟩, h1, h0⟩ := h
      obtain ⟨e1, e2, e3, e4, e5, e6⟩ := PK_e p1 p2
      have v := p3
      obtain ⟨v0, v1, v2⟩ := p3
      have q := e5 x v
      rw [q.2.2.2.2.1, if_pos ⟨v0, v1, v2⟩]
      refine ⟨fun _ => ⟨⟨v0, v1⟩, fun a => ⟨⟨v0, v1⟩, fun b => h0 (by omega), fun b => h1 (by omega)⟩, fun a => ⟨⟨v0, v1, by simp only [inR]; omega⟩, fun b => h0 (by omega), fun b => h1 (by omega)⟩⟩, fun a => absurd a (by omega)⟩
    · exact h.elim
