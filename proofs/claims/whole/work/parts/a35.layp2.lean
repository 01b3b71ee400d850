def ca_X7_layPlans : Nat → Option (Nat × Nat × Tr)
  | 162 => some (3, 7, T_X7_exchange)
  | 168 => some (4, 7, T_X7_nextPlan)
  | _ => none
theorem cao_X7_layPlans (l : Launch) : ∀ k n' ci T', ca_X7_layPlans k = some (n', ci, T') → ∃ nn, nn + 1 ≤ 1 ∧ Site l yX7_layPlans.cls k n' ci nn T' := by
  intro k n' ci T' h
  unfold ca_X7_layPlans at h
  split at h
  · cases h; exact ⟨0, by decide, _, _, _, _, k_X7_exchange l, Or.inl ⟨_, rfl, FX7_exchange, KRX7_162⟩⟩
  · cases h; exact ⟨0, by decide, _, _, _, _, k_X7_nextPlan l, Or.inl ⟨_, rfl, FX7_nextPlan, KRX7_168⟩⟩
  · cases h
def T_X7_layPlans : Tr := fun a σ K => match a with
  | [.inr (.inl (7, 0)), .inl m, .inl f] => (rWF σ ∧ 0 ≤ m ∧ m < 4 ∧ 0 ≤ f ∧ f ≤ rLn σ m) ∧ ∀ σ', LPE σ σ' m f → K none σ'
  | _ => False
set_option maxHeartbeats 8000000 in
set_option maxRecDepth 20000 in
theorem k_X7_layPlans (l : Launch) : Ct l yX7_layPlans cX7_layPlans 7 none 1 T_X7_layPlans := by
  refine mk_met (by decide +kernel) hCX7_layPlans lCX7_layPlans frX7_ok cstX7_ok (cao_X7_layPlans l) ?_ ?_
  · intro a σ K h
    unfold T_X7_layPlans at h
    split at h
    · simp [eL]
    · exact h.elim
  · intro a σ K ha hR h
    unfold T_X7_layPlans at h
    split at h
    · rename_i m f
      refine ⟨fun pc => if pc = 21 then some (fun L S σ' k => match L, S with | [some (.inr (.inl c1)), some (.inl m'), some (.inl f'), some (.inl n), some (.inl r), some (.inl a), _], [] => (c1 = (7, 0) ∧ m' = m ∧ f' = f ∧ n = rLn σ m ∧ r = 49 + 4 * m ∧ f ≤ a ∧ a ≤ n ∧ SOi σ σ' (49 + 4 * m) n f a) ∧ k = (100000 - 10 * a).toNat | _, _ => False) else if pc = 31 then some (fun L S σ' k => match L, S with | [some (.inr (.inl c1)), some (.inl m'), some (.inl f'), some (.inl n), some (.inl r), some (.inl a), some (.inl b)], [] => (c1 = (7, 0) ∧ m' = m ∧ f' = f ∧ n = rLn σ m ∧ r = 49 + 4 * m ∧ f ≤ b ∧ b ≤ a ∧ a < n ∧ SOj σ σ' (49 + 4 * m) n f a b) ∧ k = (100000 - 10 * a - 5 + b).toNat | _, _ => False) else if pc = 93 then some (fun L S σ' k => match L, S with | [some (.inr (.inl c1)), some (.inl m'), some (.inl f'), some (.inl n), some (.inl r), some (.inl mo), _], [] => (c1 = (7, 0) ∧ m' = m ∧ f' = f ∧ n = rLn σ m ∧ r = 49 + 4 * m ∧ LPI σ σ' m f n mo) ∧ k = ((30 - σ' 49 0 m) * 100).toNat | _, _ => False) else if pc = 101 then some (fun L S σ' k => match L, S with | [some (.inr (.inl c1)), some (.inl m'), some (.inl f'), some (.inl n), some (.inl r), some (.inl x1), some (.inl k')], [] => (c1 = (7, 0) ∧ m' = m ∧ f' = f ∧ n = rLn σ m ∧ r = 49 + 4 * m ∧ 0 ≤ k' ∧ k' ≤ n ∧ LPc σ σ' m f n k') ∧ k = ((30 - σ' 49 0 m) * 100 - 1 - k').toNat | _, _ => False) else none, 200, ?_, ?_⟩
      · intro pc I L S σ' k hcut hi
        dsimp only at hcut
        split at hcut
        · rename_i hpc
          subst hpc
          cases hcut
          try dsimp only at hi
          split at hi
          · rename_i c1 m' f' n r a x1
            obtain ⟨hi, rfl⟩ := hi
            obtain ⟨rfl, rfl, rfl, hn, rfl, h0, h1, hI⟩ := hi
            obtain ⟨⟨hw, m0, m1, f0, fn⟩, h⟩ := h
            have hq := rWF_q hw m0 m1
            simp only [wp, stp, drp, entL, eL, lget, lset, okst, cnd, swt, rcv, Kr_int, Kr_bool, Kr_void, List.length_cons, List.length_nil, List.replicate, List.append_nil, List.cons_append, List.nil_append, List.take_succ_cons, List.take_zero, List.drop_succ_cons, List.drop_zero, List.reverse_cons, List.reverse_nil, Option.map_some, Option.map_none, Option.toList_some, Option.toList_none, Nat.reduceAdd, Nat.reduceSub, Nat.reduceLT, Nat.reduceLeDiff, Nat.reduceEqDiff, ↓reduceIte, Nat.add_zero, Nat.zero_add, true_and, and_true, Nat.le_refl, reduceCtorEq, false_implies, true_implies, not_true_eq_false, not_false_eq_true, Int.reduceAdd, Int.reduceSub, Int.reduceMul, Int.reduceLE, Int.reduceLT, Int.reduceEq, Int.reduceNe, Int.reduceNeg, Int.reduceDiv, Int.reduceMod, Bool.false_eq_true, Int.le_refl, and_self, true_or, or_true, inR_l, fv0, fv1, fv2, fv3, nc2, nc4, nc6, nc16, nc25, nc60, nc65, nc80, nc130, nc384, nc390, fp_0_0, fp_0_1, fp_0_2, fp_1_0, fp_1_1, fp_1_2, fp_1_3, fp_1_4, fp_1_5, fp_1_6, fp_1_7, fp_1_8, fp_1_9, fp_1_10, fp_1_11, fp_1_12, fp_1_13, fp_1_14, fp_2_0, fp_2_1, fp_2_2, fp_2_3, fp_3_0, fp_3_1, fp_4_0, fp_4_1, fp_4_2, fp_4_3, fp_4_4, fp_4_5, fp_4_6, fp_4_7, fp_5_0, fp_5_1, fp_5_2, fp_5_3, fp_5_4, fp_5_5, fp_5_6, fp_5_7, fp_6_0, fp_6_1, fp_6_2, fp_6_3, fp_6_4, fp_6_5, fp_6_6, fp_6_7, fp_6_8, fp_6_9, fp_6_10, fp_6_11, fp_6_12, fp_6_13, fp_6_14, fp_6_15, fp_7_0, fp_7_1, fp_7_2, fp_7_3, fp_7_4, fp_7_5, fp_7_6, fp_7_7, fp_7_8, fp_7_9, fp_7_10, fp_7_11, fp_7_12, fp_7_13, fp_7_14, fp_7_15, fp_7_16, fp_7_17, fp_7_18, fp_7_19, fp_7_20, fp_7_21, fp_7_22, fp_7_23, fp_7_24, iz_0_1, iz_0_2, iz_1_8, iz_1_9, iz_1_11, iz_2_1, iz_2_2, iz_2_3, iz_3_1, iz_4_1, iz_4_2, iz_5_0, iz_6_8, iz_6_9, iz_6_13, iz_6_14, iz_6_15, iz_7_2, iz_7_6, iz_7_12, iz_7_20, iz_7_21, iz_7_23, iz_7_24, ak_8, ak_9, ak_10, ak_11, ak_12, ak_13, ak_14, ak_15, ak_16, ak_17, ak_18, ak_19, ak_20, ak_21, ak_22, ak_23, ak_24, ak_25, ak_26, ak_27, ak_28, ak_29, ak_30, ak_31, ak_32, ak_33, ak_34, ak_35, ak_36, ak_37, ak_38, ak_39, ak_40, ak_41, ak_42, ak_43, ak_44, ak_45, ak_46, ak_47, ak_48, ak_49, ak_50, ak_51, ak_52, ak_53, ak_54, ak_55, ak_56, el31, el33, el34, CX7_layPlans, ca_X7_layPlans, frX7, kcX7, klX7, T_X7_exchange, T_X7_nextPlan, xT_up, xL_20, xL_21, exists_eq_right_right, exists_eq_right, exists_eq_left, Nat.lt_irrefl, and_self, implies_true, forall_const]
            rw [← hn] at hq
            refine ⟨fun c => ⟨⟨m0, m1⟩, ?_, hn, LP_0 hq.2.2.2 f0 hq.1 hI c rfl⟩, fun c => ⟨by omega, hn, h0, by omega, SOj_0 hI⟩⟩
            rw [up_ap, if_pos ⟨rfl, rfl, rfl⟩]
            omega
          · exact hi.elim
        · split at hcut
          · rename_i hpc
            subst hpc
            cases hcut
            try dsimp only at hi
            split at hi
            · rename_i c1 m' f' n r a b
              obtain ⟨hi, rfl⟩ := hi
              obtain ⟨rfl, rfl, rfl, hn, rfl, h0, h1, h2, hI⟩ := hi
              obtain ⟨⟨hw, m0, m1, f0, fn⟩, h⟩ := h
              have hq := rWF_q hw m0 m1
              simp only [wp, stp, drp, entL, eL, lget, lset, okst, cnd, swt, rcv, Kr_int, Kr_bool, Kr_void, List.length_cons, List.length_nil, List.replicate, List.append_nil, List.cons_append, List.nil_append, List.take_succ_cons, List.take_zero, List.drop_succ_cons, List.drop_zero, List.reverse_cons, List.reverse_nil, Option.map_some, Option.map_none, Option.toList_some, Option.toList_none, Nat.reduceAdd, Nat.reduceSub, Nat.reduceLT, Nat.reduceLeDiff, Nat.reduceEqDiff, ↓reduceIte, Nat.add_zero, Nat.zero_add, true_and, and_true, Nat.le_refl, reduceCtorEq, false_implies, true_implies, not_true_eq_false, not_false_eq_true, Int.reduceAdd, Int.reduceSub, Int.reduceMul, Int.reduceLE, Int.reduceLT, Int.reduceEq, Int.reduceNe, Int.reduceNeg, Int.reduceDiv, Int.reduceMod, Bool.false_eq_true, Int.le_refl, and_self, true_or, or_true, inR_l, fv0, fv1, fv2, fv3, nc2, nc4, nc6, nc16, nc25, nc60, nc65, nc80, nc130, nc384, nc390, fp_0_0, fp_0_1, fp_0_2, fp_1_0, fp_1_1, fp_1_2, fp_1_3, fp_1_4, fp_1_5, fp_1_6, fp_1_7, fp_1_8, fp_1_9, fp_1_10, fp_1_11, fp_1_12, fp_1_13, fp_1_14, fp_2_0, fp_2_1, fp_2_2, fp_2_3, fp_3_0, fp_3_1, fp_4_0, fp_4_1, fp_4_2, fp_4_3, fp_4_4, fp_4_5, fp_4_6, fp_4_7, fp_5_0, fp_5_1, fp_5_2, fp_5_3, fp_5_4, fp_5_5, fp_5_6, fp_5_7, fp_6_0, fp_6_1, fp_6_2, fp_6_3, fp_6_4, fp_6_5, fp_6_6, fp_6_7, fp_6_8, fp_6_9, fp_6_10, fp_6_11, fp_6_12, fp_6_13, fp_6_14, fp_6_15, fp_7_0, fp_7_1, fp_7_2, fp_7_3, fp_7_4, fp_7_5, fp_7_6, fp_7_7, fp_7_8, fp_7_9, fp_7_10, fp_7_11, fp_7_12, fp_7_13, fp_7_14, fp_7_15, fp_7_16, fp_7_17, fp_7_18, fp_7_19, fp_7_20, fp_7_21, fp_7_22, fp_7_23, fp_7_24, iz_0_1, iz_0_2, iz_1_8, iz_1_9, iz_1_11, iz_2_1, iz_2_2, iz_2_3, iz_3_1, iz_4_1, iz_4_2, iz_5_0, iz_6_8, iz_6_9, iz_6_13, iz_6_14, iz_6_15, iz_7_2, iz_7_6, iz_7_12, iz_7_20, iz_7_21, iz_7_23, iz_7_24, ak_8, ak_9, ak_10, ak_11, ak_12, ak_13, ak_14, ak_15, ak_16, ak_17, ak_18, ak_19, ak_20, ak_21, ak_22, ak_23, ak_24, ak_25, ak_26, ak_27, ak_28, ak_29, ak_30, ak_31, ak_32, ak_33, ak_34, ak_35, ak_36, ak_37, ak_38, ak_39, ak_40, ak_41, ak_42, ak_43, ak_44, ak_45, ak_46, ak_47, ak_48, ak_49, ak_50, ak_51, ak_52, ak_53, ak_54, ak_55, ak_56, el31, el33, el34, CX7_layPlans, ca_X7_layPlans, frX7, kcX7, klX7, T_X7_exchange, T_X7_nextPlan, xT_up, xL_20, xL_21, exists_eq_right_right, exists_eq_right, exists_eq_left, Nat.lt_irrefl, and_self, implies_true, forall_const]
              rw [← hn] at hq
              obtain ⟨q1, q2, q3, q4⟩ := hq
              refine ⟨fun c => ⟨by simp only [inR]; omega, by omega, hn, by omega, by omega, SOj_end hI f0 h0 h1 h2 (Or.inl c)⟩, fun c => ⟨by simp only [inR]; omega, by simp only [inR]; omega, by omega, by simp only [inR]; omega, by omega, fun d => ⟨by simp only [inR]; omega, by omega, hn, by omega, by omega, SOj_end hI f0 h0 h1 h2 (Or.inr ?_)⟩, fun d => ⟨by simp only [inR]; omega, by omega, by simp only [inR]; omega, by omega, hn, by omega, by omega, h2, SOj_s hI f0 (by omega) h1 h2 ?_ ?_⟩⟩⟩
              · unfold vR
                rw [show 49 + 4 * m' + (b - 1) = 49 + 4 * m' + b - 1 by omega]
                exact d
              · unfold vR
                rw [show 49 + 4 * m' + (b - 1) = 49 + 4 * m' + b - 1 by omega]
                omega
              · rw [show 49 + 4 * m' + (b - 1) + 1 = 49 + 4 * m' + b by omega]
            · exact hi.elim
          · split at hcut
            · rename_i hpc
              subst hpc
              cases hcut
              try dsimp only at hi
              split at hi
              · rename_i c1 m' f' n r mo x1
                obtain ⟨hi, rfl⟩ := hi
                obtain ⟨rfl, rfl, rfl, hn, rfl, hI⟩ := hi
                obtain ⟨⟨hw, m0, m1, f0, fn⟩, h⟩ := h
                have hq := rWF_q hw m0 m1
                simp only [wp, stp, drp, entL, eL, lget, lset, okst, cnd, swt, rcv, Kr_int, Kr_bool, Kr_void, List.length_cons, List.length_nil, List.replicate, List.append_nil, List.cons_append, List.nil_append, List.take_succ_cons, List.take_zero, List.drop_succ_cons, List.drop_zero, List.reverse_cons, List.reverse_nil, Option.map_some, Option.map_none, Option.toList_some, Option.toList_none, Nat.reduceAdd, Nat.reduceSub, Nat.reduceLT, Nat.reduceLeDiff, Nat.reduceEqDiff, ↓reduceIte, Nat.add_zero, Nat.zero_add, true_and, and_true, Nat.le_refl, reduceCtorEq, false_implies, true_implies, not_true_eq_false, not_false_eq_true, Int.reduceAdd, Int.reduceSub, Int.reduceMul, Int.reduceLE, Int.reduceLT, Int.reduceEq, Int.reduceNe, Int.reduceNeg, Int.reduceDiv, Int.reduceMod, Bool.false_eq_true, Int.le_refl, and_self, true_or, or_true, inR_l, fv0, fv1, fv2, fv3, nc2, nc4, nc6, nc16, nc25, nc60, nc65, nc80, nc130, nc384, nc390, fp_0_0, fp_0_1, fp_0_2, fp_1_0, fp_1_1, fp_1_2, fp_1_3, fp_1_4, fp_1_5, fp_1_6, fp_1_7, fp_1_8, fp_1_9, fp_1_10, fp_1_11, fp_1_12, fp_1_13, fp_1_14, fp_2_0, fp_2_1, fp_2_2, fp_2_3, fp_3_0, fp_3_1, fp_4_0, fp_4_1, fp_4_2, fp_4_3, fp_4_4, fp_4_5, fp_4_6, fp_4_7, fp_5_0, fp_5_1, fp_5_2, fp_5_3, fp_5_4, fp_5_5, fp_5_6, fp_5_7, fp_6_0, fp_6_1, fp_6_2, fp_6_3, fp_6_4, fp_6_5, fp_6_6, fp_6_7, fp_6_8, fp_6_9, fp_6_10, fp_6_11, fp_6_12, fp_6_13, fp_6_14, fp_6_15, fp_7_0, fp_7_1, fp_7_2, fp_7_3, fp_7_4, fp_7_5, fp_7_6, fp_7_7, fp_7_8, fp_7_9, fp_7_10, fp_7_11, fp_7_12, fp_7_13, fp_7_14, fp_7_15, fp_7_16, fp_7_17, fp_7_18, fp_7_19, fp_7_20, fp_7_21, fp_7_22, fp_7_23, fp_7_24, iz_0_1, iz_0_2, iz_1_8, iz_1_9, iz_1_11, iz_2_1, iz_2_2, iz_2_3, iz_3_1, iz_4_1, iz_4_2, iz_5_0, iz_6_8, iz_6_9, iz_6_13, iz_6_14, iz_6_15, iz_7_2, iz_7_6, iz_7_12, iz_7_20, iz_7_21, iz_7_23, iz_7_24, ak_8, ak_9, ak_10, ak_11, ak_12, ak_13, ak_14, ak_15, ak_16, ak_17, ak_18, ak_19, ak_20, ak_21, ak_22, ak_23, ak_24, ak_25, ak_26, ak_27, ak_28, ak_29, ak_30, ak_31, ak_32, ak_33, ak_34, ak_35, ak_36, ak_37, ak_38, ak_39, ak_40, ak_41, ak_42, ak_43, ak_44, ak_45, ak_46, ak_47, ak_48, ak_49, ak_50, ak_51, ak_52, ak_53, ak_54, ak_55, ak_56, el31, el33, el34, CX7_layPlans, ca_X7_layPlans, frX7, kcX7, klX7, T_X7_exchange, T_X7_nextPlan, xT_up, xL_20, xL_21, exists_eq_right_right, exists_eq_right, exists_eq_left, Nat.lt_irrefl, and_self, implies_true, forall_const]
                have hM := hI.1.2.1
                refine ⟨fun c => h σ' ?_, fun c => ⟨by omega, hn, by omega, LPc_0 hI c⟩⟩
                rcases hI.2 with z | z
                · omega
                · rw [hn] at hI z
                  exact ⟨hI.1, z.2⟩
              · exact hi.elim
            · split at hcut
              · rename_i hpc
                subst hpc
                cases hcut
                try dsimp only at hi
                split at hi
                · rename_i c1 m' f' n r x1 k'
                  obtain ⟨hi, rfl⟩ := hi
                  obtain ⟨rfl, rfl, rfl, hn, rfl, h0, h1, hI⟩ := hi
                  obtain ⟨⟨hw, m0, m1, f0, fn⟩, h⟩ := h
                  have hq := rWF_q hw m0 m1
                  simp only [wp, stp, drp, entL, eL, lget, lset, okst, cnd, swt, rcv, Kr_int, Kr_bool, Kr_void, List.length_cons, List.length_nil, List.replicate, List.append_nil, List.cons_append, List.nil_append, List.take_succ_cons, List.take_zero, List.drop_succ_cons, List.drop_zero, List.reverse_cons, List.reverse_nil, Option.map_some, Option.map_none, Option.toList_some, Option.toList_none, Nat.reduceAdd, Nat.reduceSub, Nat.reduceLT, Nat.reduceLeDiff, Nat.reduceEqDiff, ↓reduceIte, Nat.add_zero, Nat.zero_add, true_and, and_true, Nat.le_refl, reduceCtorEq, false_implies, true_implies, not_true_eq_false, not_false_eq_true, Int.reduceAdd, Int.reduceSub, Int.reduceMul, Int.reduceLE, Int.reduceLT, Int.reduceEq, Int.reduceNe, Int.reduceNeg, Int.reduceDiv, Int.reduceMod, Bool.false_eq_true, Int.le_refl, and_self, true_or, or_true, inR_l, fv0, fv1, fv2, fv3, nc2, nc4, nc6, nc16, nc25, nc60, nc65, nc80, nc130, nc384, nc390, fp_0_0, fp_0_1, fp_0_2, fp_1_0, fp_1_1, fp_1_2, fp_1_3, fp_1_4, fp_1_5, fp_1_6, fp_1_7, fp_1_8, fp_1_9, fp_1_10, fp_1_11, fp_1_12, fp_1_13, fp_1_14, fp_2_0, fp_2_1, fp_2_2, fp_2_3, fp_3_0, fp_3_1, fp_4_0, fp_4_1, fp_4_2, fp_4_3, fp_4_4, fp_4_5, fp_4_6, fp_4_7, fp_5_0, fp_5_1, fp_5_2, fp_5_3, fp_5_4, fp_5_5, fp_5_6, fp_5_7, fp_6_0, fp_6_1, fp_6_2, fp_6_3, fp_6_4, fp_6_5, fp_6_6, fp_6_7, fp_6_8, fp_6_9, fp_6_10, fp_6_11, fp_6_12, fp_6_13, fp_6_14, fp_6_15, fp_7_0, fp_7_1, fp_7_2, fp_7_3, fp_7_4, fp_7_5, fp_7_6, fp_7_7, fp_7_8, fp_7_9, fp_7_10, fp_7_11, fp_7_12, fp_7_13, fp_7_14, fp_7_15, fp_7_16, fp_7_17, fp_7_18, fp_7_19, fp_7_20, fp_7_21, fp_7_22, fp_7_23, fp_7_24, iz_0_1, iz_0_2, iz_1_8, iz_1_9, iz_1_11, iz_2_1, iz_2_2, iz_2_3, iz_3_1, iz_4_1, iz_4_2, iz_5_0, iz_6_8, iz_6_9, iz_6_13, iz_6_14, iz_6_15, iz_7_2, iz_7_6, iz_7_12, iz_7_20, iz_7_21, iz_7_23, iz_7_24, ak_8, ak_9, ak_10, ak_11, ak_12, ak_13, ak_14, ak_15, ak_16, ak_17, ak_18, ak_19, ak_20, ak_21, ak_22, ak_23, ak_24, ak_25, ak_26, ak_27, ak_28, ak_29, ak_30, ak_31, ak_32, ak_33, ak_34, ak_35, ak_36, ak_37, ak_38, ak_39, ak_40, ak_41, ak_42, ak_43, ak_44, ak_45, ak_46, ak_47, ak_48, ak_49, ak_50, ak_51, ak_52, ak_53, ak_54, ak_55, ak_56, el31, el33, el34, CX7_layPlans, ca_X7_layPlans, frX7, kcX7, klX7, T_X7_exchange, T_X7_nextPlan, xT_up, xL_20, xL_21, exists_eq_right_right, exists_eq_right, exists_eq_left, Nat.lt_irrefl, and_self, implies_true, forall_const]
                  rw [← hn] at hq fn
                  obtain ⟨q1, q2, q3, q4⟩ := hq
                  have hM := hI.1.2.1
                  have hM2 := hI.2.1.2.1
                  have hM3 := (rkQ_r n (vR σ' (49 + 4 * m'))).2
                  refine ⟨fun c => ⟨⟨m0, m1⟩, by simp only [inR]; omega, ⟨m0, m1⟩, by omega, fun hd => ?_, fun σ2 a b fa hF hx => ?_⟩, fun c => ⟨by simp only [inR]; omega, by omega, by simp only [inR]; omega, by simp only [inR]; omega, by simp only [inR]; omega, by simp only [inR]; omega, by omega, by omega, by simp only [inR]; omega, ?_, hn, by omega, by omega, LPc_s q4 fn hI h0 (by omega) rfl⟩⟩
                  · have hq := LPc_end q4 fn q1 hI c rfl
                    refine ⟨?_, hn, LP_n q4 f0 q1 hq hd⟩
                    rw [up_ap, if_pos ⟨rfl, rfl, rfl⟩]
                    omega
                  · have hq := LPc_end q4 fn q1 hI c rfl
                    have eM : σ2 49 0 m' = σ' 49 0 m' + 1 := by
                      rw [hF 49 0 m' (by rintro ⟨q, -⟩; omega), up_ap, if_pos ⟨rfl, rfl, rfl⟩]
                    rw [eM]
                    exact ⟨by omega, hn, LP_y q4 f0 q1 hq hF hx fa⟩
                  · rw [up_ap, if_neg (by rintro ⟨q, -⟩; omega)]
                    omega
                · exact hi.elim
              · cases hcut
      · simp only [wp, stp, drp, entL, eL, lget, lset, okst, cnd, swt, rcv, Kr_int, Kr_bool, Kr_void, List.length_cons, List.length_nil, List.replicate, List.append_nil, List.cons_append, List.nil_append, List.take_succ_cons, List.take_zero, List.drop_succ_cons, List.drop_zero, List.reverse_cons, List.reverse_nil, Option.map_some, Option.map_none, Option.toList_some, Option.toList_none, Nat.reduceAdd, Nat.reduceSub, Nat.reduceLT, Nat.reduceLeDiff, Nat.reduceEqDiff, ↓reduceIte, Nat.add_zero, Nat.zero_add, true_and, and_true, Nat.le_refl, reduceCtorEq, false_implies, true_implies, not_true_eq_false, not_false_eq_true, Int.reduceAdd, Int.reduceSub, Int.reduceMul, Int.reduceLE, Int.reduceLT, Int.reduceEq, Int.reduceNe, Int.reduceNeg, Int.reduceDiv, Int.reduceMod, Bool.false_eq_true, Int.le_refl, and_self, true_or, or_true, inR_l, fv0, fv1, fv2, fv3, nc2, nc4, nc6, nc16, nc25, nc60, nc65, nc80, nc130, nc384, nc390, fp_0_0, fp_0_1, fp_0_2, fp_1_0, fp_1_1, fp_1_2, fp_1_3, fp_1_4, fp_1_5, fp_1_6, fp_1_7, fp_1_8, fp_1_9, fp_1_10, fp_1_11, fp_1_12, fp_1_13, fp_1_14, fp_2_0, fp_2_1, fp_2_2, fp_2_3, fp_3_0, fp_3_1, fp_4_0, fp_4_1, fp_4_2, fp_4_3, fp_4_4, fp_4_5, fp_4_6, fp_4_7, fp_5_0, fp_5_1, fp_5_2, fp_5_3, fp_5_4, fp_5_5, fp_5_6, fp_5_7, fp_6_0, fp_6_1, fp_6_2, fp_6_3, fp_6_4, fp_6_5, fp_6_6, fp_6_7, fp_6_8, fp_6_9, fp_6_10, fp_6_11, fp_6_12, fp_6_13, fp_6_14, fp_6_15, fp_7_0, fp_7_1, fp_7_2, fp_7_3, fp_7_4, fp_7_5, fp_7_6, fp_7_7, fp_7_8, fp_7_9, fp_7_10, fp_7_11, fp_7_12, fp_7_13, fp_7_14, fp_7_15, fp_7_16, fp_7_17, fp_7_18, fp_7_19, fp_7_20, fp_7_21, fp_7_22, fp_7_23, fp_7_24, iz_0_1, iz_0_2, iz_1_8, iz_1_9, iz_1_11, iz_2_1, iz_2_2, iz_2_3, iz_3_1, iz_4_1, iz_4_2, iz_5_0, iz_6_8, iz_6_9, iz_6_13, iz_6_14, iz_6_15, iz_7_2, iz_7_6, iz_7_12, iz_7_20, iz_7_21, iz_7_23, iz_7_24, ak_8, ak_9, ak_10, ak_11, ak_12, ak_13, ak_14, ak_15, ak_16, ak_17, ak_18, ak_19, ak_20, ak_21, ak_22, ak_23, ak_24, ak_25, ak_26, ak_27, ak_28, ak_29, ak_30, ak_31, ak_32, ak_33, ak_34, ak_35, ak_36, ak_37, ak_38, ak_39, ak_40, ak_41, ak_42, ak_43, ak_44, ak_45, ak_46, ak_47, ak_48, ak_49, ak_50, ak_51, ak_52, ak_53, ak_54, ak_55, ak_56, el31, el33, el34, CX7_layPlans, ca_X7_layPlans, frX7, kcX7, klX7, T_X7_exchange, T_X7_nextPlan, xT_up, xL_20, xL_21, exists_eq_right_right, exists_eq_right, exists_eq_left, Nat.lt_irrefl, and_self, implies_true, forall_const]
        obtain ⟨⟨hw, m0, m1, f0, fn⟩, h⟩ := h
        have hq := rWF_q hw m0 m1
        exact ⟨by simp only [inR]; omega, by omega, by simp only [inR]; omega, by simp only [inR]; omega, rfl, fn, SOi_0 hq.2.1⟩
    · exact h.elim
