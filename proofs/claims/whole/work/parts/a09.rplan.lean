def ca_X7_ofPlan : Nat → Option (Nat × Nat × Tr)
  | 139 => some (1, 7, T_X7_find)
  | 165 => some (1, 7, T_X7_findCritical)
  | 211 => some (2, 7, T_X7_lateness)
  | 108 => some (2, 99, T_X7_greater)
  | 214 => some (1, 7, T_X7_blocks)
  | _ => none
theorem cao_X7_ofPlan (l : Launch) : ∀ k n' ci T', ca_X7_ofPlan k = some (n', ci, T') → ∃ nn, nn + 1 ≤ 6 ∧ Site l yX7_ofPlan.cls k n' ci nn T' := by
  intro k n' ci T' h
  unfold ca_X7_ofPlan at h
  split at h
  · cases h; exact ⟨4, by decide, _, _, _, _, k_X7_find l, Or.inl ⟨_, rfl, FX7_find, KRX7_139⟩⟩
  · cases h; exact ⟨5, by decide, _, _, _, _, k_X7_findCritical l, Or.inl ⟨_, rfl, FX7_findCritical, KRX7_165⟩⟩
  · cases h; exact ⟨3, by decide, _, _, _, _, k_X7_lateness l, Or.inl ⟨_, rfl, FX7_lateness, KRX7_211⟩⟩
  · cases h; exact ⟨0, by decide, _, _, _, _, k_X7_greater l, Or.inr ⟨rfl, FX7_greater, Or.inl ⟨rfl, KRX7_108⟩⟩⟩
  · cases h; exact ⟨1, by decide, _, _, _, _, k_X7_blocks l, Or.inl ⟨_, rfl, FX7_blocks, KRX7_214⟩⟩
  · cases h
def T_X7_ofPlan : Tr := fun a σ K => match a with
  | [.inr (.inl (7, 0)), .inl w] => rWF σ ∧ (∀ σ', FrG pFd σ σ' → (∀ h, ¬ rH σ h) → K (some (-6)) σ') ∧ ∀ σ', RPl σ σ' → (w = 3 → K (some (σ' 7 0 12)) σ') ∧ (w = 4 → K (some (sm (blk (rMc σ') (σ' 47 0)) (σ' 7 0 12).toNat)) σ') ∧ (w = 5 → K (some (sm (rlt σ') (σ' 38 0 0).toNat)) σ') ∧ (w ≠ 3 ∧ w ≠ 4 ∧ w ≠ 5 → K (some (mxS (rlt σ') (σ' 38 0 0).toNat)) σ')
  | _ => False
set_option maxHeartbeats 8000000 in
set_option maxRecDepth 20000 in
theorem k_X7_ofPlan (l : Launch) : Ct l yX7_ofPlan cX7_ofPlan 5 (some .int) 6 T_X7_ofPlan := by
  refine mk_met (by decide +kernel) hCX7_ofPlan lCX7_ofPlan frX7_ok cstX7_ok (cao_X7_ofPlan l) ?_ ?_
  · intro a σ K h
    unfold T_X7_ofPlan at h
    split at h
    · simp [eL]
    · exact h.elim
  · intro a σ K ha hR h
    unfold T_X7_ofPlan at h
    split at h
    · rename_i w
      refine ⟨fun pc => if pc = 21 then some (fun L S σ' k => match L, S with | [some (.inr (.inl c1)), some (.inl w'), some (.inl s), some (.inl mo), some (.inl j)], [] => (c1 = (7, 0) ∧ w' = w ∧ RPl σ σ' ∧ 0 ≤ j ∧ j ≤ σ' 38 0 0 ∧ s = sm (rlt σ') j.toNat ∧ 0 ≤ s ∧ s ≤ 11000 * j ∧ mo = mxS (rlt σ') j.toNat) ∧ k = (4 - j).toNat | _, _ => False) else none, 200, ?_, ?_⟩
      · intro pc I L S σ' k hcut hi
        dsimp only at hcut
        split at hcut
        · rename_i hpc
          subst hpc
          cases hcut
          try dsimp only at hi
          split at hi
          · rename_i c1 w' s mo j
            obtain ⟨hi, rfl⟩ := hi
            obtain ⟨rfl, rfl, hP, h0, h1, h2, h3, h4, h5⟩ := hi
            obtain ⟨p0, hn, h⟩ := h
            simp only [wp, stp, drp, entL, eL, lget, lset, okst, cnd, swt, rcv, Kr_int, Kr_bool, Kr_void, List.length_cons, List.length_nil, List.replicate, List.append_nil, List.cons_append, List.nil_append, List.take_succ_cons, List.take_zero, List.drop_succ_cons, List.drop_zero, List.reverse_cons, List.reverse_nil, Option.map_some, Option.map_none, Option.toList_some, Option.toList_none, Nat.reduceAdd, Nat.reduceSub, Nat.reduceLT, Nat.reduceLeDiff, Nat.reduceEqDiff, ↓reduceIte, Nat.add_zero, Nat.zero_add, true_and, and_true, Nat.le_refl, reduceCtorEq, false_implies, true_implies, not_true_eq_false, not_false_eq_true, Int.reduceAdd, Int.reduceSub, Int.reduceMul, Int.reduceLE, Int.reduceLT, Int.reduceEq, Int.reduceNe, Int.reduceNeg, Int.reduceDiv, Int.reduceMod, Bool.false_eq_true, Int.le_refl, and_self, true_or, or_true, inR_l, fv0, fv1, fv2, fv3, nc2, nc4, nc6, nc16, nc25, nc60, nc65, nc80, nc130, nc384, nc390, fp_0_0, fp_0_1, fp_0_2, fp_1_0, fp_1_1, fp_1_2, fp_1_3, fp_1_4, fp_1_5, fp_1_6, fp_1_7, fp_1_8, fp_1_9, fp_1_10, fp_1_11, fp_1_12, fp_1_13, fp_1_14, fp_2_0, fp_2_1, fp_2_2, fp_2_3, fp_3_0, fp_3_1, fp_4_0, fp_4_1, fp_4_2, fp_4_3, fp_4_4, fp_4_5, fp_4_6, fp_4_7, fp_5_0, fp_5_1, fp_5_2, fp_5_3, fp_5_4, fp_5_5, fp_5_6, fp_5_7, fp_6_0, fp_6_1, fp_6_2, fp_6_3, fp_6_4, fp_6_5, fp_6_6, fp_6_7, fp_6_8, fp_6_9, fp_6_10, fp_6_11, fp_6_12, fp_6_13, fp_6_14, fp_6_15, fp_7_0, fp_7_1, fp_7_2, fp_7_3, fp_7_4, fp_7_5, fp_7_6, fp_7_7, fp_7_8, fp_7_9, fp_7_10, fp_7_11, fp_7_12, fp_7_13, fp_7_14, fp_7_15, fp_7_16, fp_7_17, fp_7_18, fp_7_19, fp_7_20, fp_7_21, fp_7_22, fp_7_23, fp_7_24, iz_0_1, iz_0_2, iz_1_8, iz_1_9, iz_1_11, iz_2_1, iz_2_2, iz_2_3, iz_3_1, iz_4_1, iz_4_2, iz_5_0, iz_6_8, iz_6_9, iz_6_13, iz_6_14, iz_6_15, iz_7_2, iz_7_6, iz_7_12, iz_7_20, iz_7_21, iz_7_23, iz_7_24, ak_8, ak_9, ak_10, ak_11, ak_12, ak_13, ak_14, ak_15, ak_16, ak_17, ak_18, ak_19, ak_20, ak_21, ak_22, ak_23, ak_24, ak_25, ak_26, ak_27, ak_28, ak_29, ak_30, ak_31, ak_32, ak_33, ak_34, ak_35, ak_36, ak_37, ak_38, ak_39, ak_40, ak_41, ak_42, ak_43, ak_44, ak_45, ak_46, ak_47, ak_48, ak_49, ak_50, ak_51, ak_52, ak_53, ak_54, ak_55, ak_56, el31, el33, el34, CX7_ofPlan, ca_X7_ofPlan, frX7, kcX7, klX7, T_X7_find, T_X7_findCritical, T_X7_lateness, T_X7_greater, T_X7_blocks, up_ap, false_and, and_false, if_false, if_true, ite_true, ite_false, exists_eq_right_right, exists_eq_right, exists_eq_left, Nat.lt_irrefl, and_self, implies_true, forall_const]
            obtain ⟨b1, b2, b3, b4⟩ := RPl_b hP
            obtain ⟨k3, k4, k5, k6⟩ := h σ' hP
            refine ⟨fun a => ?_, fun a => ?_⟩
            · have ej : j = σ' 38 0 0 := by omega
              rw [ej] at h2 h5
              rw [h2, h5]
              exact ⟨fun b => ⟨fun c => ⟨fun d => k6 ⟨b, c, d⟩, fun d => k5 (Classical.not_not.mp d)⟩, fun c => ⟨b2, k4 (Classical.not_not.mp c)⟩⟩, fun b => k3 (Classical.not_not.mp b)⟩
            · have hr := rej_r b1 h0 (by omega)
              have e := mxS_s (rlt σ') h0
              rw [← h5] at e
              refine ⟨⟨b1, h0, by omega⟩, by simp only [inR]; omega, ⟨b1, h0, by omega⟩, by simp only [inR]; omega, by omega, hP, by omega, by omega, ?_, by omega, by omega, ?_⟩
              · rw [h2, sm_s _ h0]
              · rw [e]
                by_cases c : mo < rlt σ' j
                · rw [if_pos c, if_neg (by omega)]
                · rw [if_neg c]
                  by_cases d : rlt σ' j < mo
                  · rw [if_pos d]
                  · rw [if_neg d]; omega
          · exact hi.elim
        · cases hcut
      · simp only [wp, stp, drp, entL, eL, lget, lset, okst, cnd, swt, rcv, Kr_int, Kr_bool, Kr_void, List.length_cons, List.length_nil, List.replicate, List.append_nil, List.cons_append, List.nil_append, List.take_succ_cons, List.take_zero, List.drop_succ_cons, List.drop_zero, List.reverse_cons, List.reverse_nil, Option.map_some, Option.map_none, Option.toList_some, Option.toList_none, Nat.reduceAdd, Nat.reduceSub, Nat.reduceLT, Nat.reduceLeDiff, Nat.reduceEqDiff, ↓reduceIte, Nat.add_zero, Nat.zero_add, true_and, and_true, Nat.le_refl, reduceCtorEq, false_implies, true_implies, not_true_eq_false, not_false_eq_true, Int.reduceAdd, Int.reduceSub, Int.reduceMul, Int.reduceLE, Int.reduceLT, Int.reduceEq, Int.reduceNe, Int.reduceNeg, Int.reduceDiv, Int.reduceMod, Bool.false_eq_true, Int.le_refl, and_self, true_or, or_true, inR_l, fv0, fv1, fv2, fv3, nc2, nc4, nc6, nc16, nc25, nc60, nc65, nc80, nc130, nc384, nc390, fp_0_0, fp_0_1, fp_0_2, fp_1_0, fp_1_1, fp_1_2, fp_1_3, fp_1_4, fp_1_5, fp_1_6, fp_1_7, fp_1_8, fp_1_9, fp_1_10, fp_1_11, fp_1_12, fp_1_13, fp_1_14, fp_2_0, fp_2_1, fp_2_2, fp_2_3, fp_3_0, fp_3_1, fp_4_0, fp_4_1, fp_4_2, fp_4_3, fp_4_4, fp_4_5, fp_4_6, fp_4_7, fp_5_0, fp_5_1, fp_5_2, fp_5_3, fp_5_4, fp_5_5, fp_5_6, fp_5_7, fp_6_0, fp_6_1, fp_6_2, fp_6_3, fp_6_4, fp_6_5, fp_6_6, fp_6_7, fp_6_8, fp_6_9, fp_6_10, fp_6_11, fp_6_12, fp_6_13, fp_6_14, fp_6_15, fp_7_0, fp_7_1, fp_7_2, fp_7_3, fp_7_4, fp_7_5, fp_7_6, fp_7_7, fp_7_8, fp_7_9, fp_7_10, fp_7_11, fp_7_12, fp_7_13, fp_7_14, fp_7_15, fp_7_16, fp_7_17, fp_7_18, fp_7_19, fp_7_20, fp_7_21, fp_7_22, fp_7_23, fp_7_24, iz_0_1, iz_0_2, iz_1_8, iz_1_9, iz_1_11, iz_2_1, iz_2_2, iz_2_3, iz_3_1, iz_4_1, iz_4_2, iz_5_0, iz_6_8, iz_6_9, iz_6_13, iz_6_14, iz_6_15, iz_7_2, iz_7_6, iz_7_12, iz_7_20, iz_7_21, iz_7_23, iz_7_24, ak_8, ak_9, ak_10, ak_11, ak_12, ak_13, ak_14, ak_15, ak_16, ak_17, ak_18, ak_19, ak_20, ak_21, ak_22, ak_23, ak_24, ak_25, ak_26, ak_27, ak_28, ak_29, ak_30, ak_31, ak_32, ak_33, ak_34, ak_35, ak_36, ak_37, ak_38, ak_39, ak_40, ak_41, ak_42, ak_43, ak_44, ak_45, ak_46, ak_47, ak_48, ak_49, ak_50, ak_51, ak_52, ak_53, ak_54, ak_55, ak_56, el31, el33, el34, CX7_ofPlan, ca_X7_ofPlan, frX7, kcX7, klX7, T_X7_find, T_X7_findCritical, T_X7_lateness, T_X7_greater, T_X7_blocks, up_ap, false_and, and_false, if_false, if_true, ite_true, ite_false, exists_eq_right_right, exists_eq_right, exists_eq_left, Nat.lt_irrefl, and_self, implies_true, forall_const]
        obtain ⟨p0, hn, h⟩ := h
        exact ⟨p0, fun σ1 hF => ⟨Fnd_rBd p0 hF, fun σ2 L hL hC => ⟨RPl_i p0 hF hL hC, (RPl_b (RPl_i p0 hF hL hC)).2.2.1, rfl, rfl⟩⟩, hn⟩
    · exact h.elim
