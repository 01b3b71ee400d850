def ca_X1_greatestBound : Nat → Option (Nat × Nat × Tr)
  | 123 => some (2, 1, T_X1_boundOf)
  | _ => none
theorem cao_X1_greatestBound (l : Launch) : ∀ k n' ci T', ca_X1_greatestBound k = some (n', ci, T') → ∃ nn, nn + 1 ≤ 2 ∧ Site l yX1_greatestBound.cls k n' ci nn T' := by
  intro k n' ci T' h
  unfold ca_X1_greatestBound at h
  split at h
  · cases h; exact ⟨1, by decide, _, _, _, _, k_X1_boundOf l, Or.inl ⟨_, rfl, FX1_boundOf, KRX1_123⟩⟩
  · cases h
def T_X1_greatestBound : Tr := fun a σ K => match a with
  | [.inr (.inl (1, n))] => (nB σ n ∧ nH σ n) ∧ ∀ B σ', GB σ σ' n 4 B → K (some B) σ'
  | _ => False
set_option maxHeartbeats 8000000 in
set_option maxRecDepth 20000 in
theorem k_X1_greatestBound (l : Launch) : Ct l yX1_greatestBound cX1_greatestBound 4 (some .int) 2 T_X1_greatestBound := by
  refine mk_met (by decide +kernel) hCX1_greatestBound lCX1_greatestBound frX1_ok cstX1_ok (cao_X1_greatestBound l) ?_ ?_
  · intro a σ K h
    unfold T_X1_greatestBound at h
    split at h
    · simp [eL]
    · exact h.elim
  · intro a σ K ha hR h
    unfold T_X1_greatestBound at h
    split at h
    · rename_i n
      refine ⟨fun pc => if pc = 4 then some (fun L S σ' k => match L, S with | [some (.inr (.inl c1)), some (.inl g), some (.inl e), _], [] => (c1 = (1, n) ∧ 0 ≤ e ∧ e ≤ 4 ∧ GB σ σ' n e g) ∧ k = (4 - e).toNat | _, _ => False) else none, 200, ?_, ?_⟩
      · intro pc I L S σ' k hcut hi
        dsimp only at hcut
        split at hcut
        · rename_i hpc
          subst hpc
          cases hcut
          try dsimp only at hi
          split at hi
          · rename_i c1 g e x1
            obtain ⟨hi, rfl⟩ := hi
            obtain ⟨rfl, h0, h1, hI⟩ := hi
            obtain ⟨⟨p1, p2⟩, h⟩ := h
            simp only [wp, stp, drp, entL, eL, lget, lset, okst, cnd, swt, rcv, Kr_int, Kr_bool, Kr_void, List.length_cons, List.length_nil, List.replicate, List.append_nil, List.cons_append, List.nil_append, List.take_succ_cons, List.take_zero, List.drop_succ_cons, List.drop_zero, List.reverse_cons, List.reverse_nil, Option.map_some, Option.map_none, Option.toList_some, Option.toList_none, Nat.reduceAdd, Nat.reduceSub, Nat.reduceLT, Nat.reduceLeDiff, Nat.reduceEqDiff, ↓reduceIte, Nat.add_zero, Nat.zero_add, true_and, and_true, Nat.le_refl, reduceCtorEq, false_implies, true_implies, not_true_eq_false, not_false_eq_true, Int.reduceAdd, Int.reduceSub, Int.reduceMul, Int.reduceLE, Int.reduceLT, Int.reduceEq, Int.reduceNe, Int.reduceNeg, Int.reduceDiv, Int.reduceMod, Bool.false_eq_true, Int.le_refl, and_self, true_or, or_true, inR_l, fv0, fv1, fv2, fv3, nc2, nc4, nc6, nc16, nc25, nc60, nc65, nc80, nc130, nc384, nc390, fp_0_0, fp_0_1, fp_0_2, fp_1_0, fp_1_1, fp_1_2, fp_1_3, fp_1_4, fp_1_5, fp_1_6, fp_1_7, fp_1_8, fp_1_9, fp_1_10, fp_1_11, fp_1_12, fp_1_13, fp_1_14, fp_2_0, fp_2_1, fp_2_2, fp_2_3, fp_3_0, fp_3_1, fp_4_0, fp_4_1, fp_4_2, fp_4_3, fp_4_4, fp_4_5, fp_4_6, fp_4_7, fp_5_0, fp_5_1, fp_5_2, fp_5_3, fp_5_4, fp_5_5, fp_5_6, fp_5_7, fp_6_0, fp_6_1, fp_6_2, fp_6_3, fp_6_4, fp_6_5, fp_6_6, fp_6_7, fp_6_8, fp_6_9, fp_6_10, fp_6_11, fp_6_12, fp_6_13, fp_6_14, fp_6_15, fp_7_0, fp_7_1, fp_7_2, fp_7_3, fp_7_4, fp_7_5, fp_7_6, fp_7_7, fp_7_8, fp_7_9, fp_7_10, fp_7_11, fp_7_12, fp_7_13, fp_7_14, fp_7_15, fp_7_16, fp_7_17, fp_7_18, fp_7_19, fp_7_20, fp_7_21, fp_7_22, fp_7_23, fp_7_24, iz_0_1, iz_0_2, iz_1_8, iz_1_9, iz_1_11, iz_2_1, iz_2_2, iz_2_3, iz_3_1, iz_4_1, iz_4_2, iz_5_0, iz_6_8, iz_6_9, iz_6_13, iz_6_14, iz_6_15, iz_7_2, iz_7_6, iz_7_12, iz_7_20, iz_7_21, iz_7_23, iz_7_24, ak_8, ak_9, ak_10, ak_11, ak_12, ak_13, ak_14, ak_15, ak_16, ak_17, ak_18, ak_19, ak_20, ak_21, ak_22, ak_23, ak_24, ak_25, ak_26, ak_27, ak_28, ak_29, ak_30, ak_31, ak_32, ak_33, ak_34, ak_35, ak_36, ak_37, ak_38, ak_39, ak_40, ak_41, ak_42, ak_43, ak_44, ak_45, ak_46, ak_47, ak_48, ak_49, ak_50, ak_51, ak_52, ak_53, ak_54, ak_55, ak_56, el31, el33, el34, CX1_greatestBound, ca_X1_greatestBound, frX1, kcX1, klX1, T_X1_boundOf, up_ap, false_and, and_false, if_false, if_true, ite_true, ite_false, exists_eq_right_right, exists_eq_right, exists_eq_left, Nat.lt_irrefl, and_self, implies_true, forall_const]
            obtain ⟨q1, q2⟩ := GB_st p1 p2 hI
            (repeat' (first | (with_reducible intro _) | (with_reducible refine And.intro ?_ ?_)))
            all_goals (try first | omega | exact ⟨by omega, by omega⟩)
            all_goals first | (exact q1) | (exact q2) | (exact h _ _ (by rw [show (4 : Int) = e by omega]; exact hI)) | (exact GB_s hI h0 (by omega) (by assumption) (by rw [if_pos (by assumption)])) | (exact GB_s hI h0 (by omega) (by assumption) (by rw [if_neg (by assumption)]))
          · exact hi.elim
        · cases hcut
      · simp only [wp, stp, drp, entL, eL, lget, lset, okst, cnd, swt, rcv, Kr_int, Kr_bool, Kr_void, List.length_cons, List.length_nil, List.replicate, List.append_nil, List.cons_append, List.nil_append, List.take_succ_cons, List.take_zero, List.drop_succ_cons, List.drop_zero, List.reverse_cons, List.reverse_nil, Option.map_some, Option.map_none, Option.toList_some, Option.toList_none, Nat.reduceAdd, Nat.reduceSub, Nat.reduceLT, Nat.reduceLeDiff, Nat.reduceEqDiff, ↓reduceIte, Nat.add_zero, Nat.zero_add, true_and, and_true, Nat.le_refl, reduceCtorEq, false_implies, true_implies, not_true_eq_false, not_false_eq_true, Int.reduceAdd, Int.reduceSub, Int.reduceMul, Int.reduceLE, Int.reduceLT, Int.reduceEq, Int.reduceNe, Int.reduceNeg, Int.reduceDiv, Int.reduceMod, Bool.false_eq_true, Int.le_refl, and_self, true_or, or_true, inR_l, fv0, fv1, fv2, fv3, nc2, nc4, nc6, nc16, nc25, nc60, nc65, nc80, nc130, nc384, nc390, fp_0_0, fp_0_1, fp_0_2, fp_1_0, fp_1_1, fp_1_2, fp_1_3, fp_1_4, fp_1_5, fp_1_6, fp_1_7, fp_1_8, fp_1_9, fp_1_10, fp_1_11, fp_1_12, fp_1_13, fp_1_14, fp_2_0, fp_2_1, fp_2_2, fp_2_3, fp_3_0, fp_3_1, fp_4_0, fp_4_1, fp_4_2, fp_4_3, fp_4_4, fp_4_5, fp_4_6, fp_4_7, fp_5_0, fp_5_1, fp_5_2, fp_5_3, fp_5_4, fp_5_5, fp_5_6, fp_5_7, fp_6_0, fp_6_1, fp_6_2, fp_6_3, fp_6_4, fp_6_5, fp_6_6, fp_6_7, fp_6_8, fp_6_9, fp_6_10, fp_6_11, fp_6_12, fp_6_13, fp_6_14, fp_6_15, fp_7_0, fp_7_1, fp_7_2, fp_7_3, fp_7_4, fp_7_5, fp_7_6, fp_7_7, fp_7_8, fp_7_9, fp_7_10, fp_7_11, fp_7_12, fp_7_13, fp_7_14, fp_7_15, fp_7_16, fp_7_17, fp_7_18, fp_7_19, fp_7_20, fp_7_21, fp_7_22, fp_7_23, fp_7_24, iz_0_1, iz_0_2, iz_1_8, iz_1_9, iz_1_11, iz_2_1, iz_2_2, iz_2_3, iz_3_1, iz_4_1, iz_4_2, iz_5_0, iz_6_8, iz_6_9, iz_6_13, iz_6_14, iz_6_15, iz_7_2, iz_7_6, iz_7_12, iz_7_20, iz_7_21, iz_7_23, iz_7_24, ak_8, ak_9, ak_10, ak_11, ak_12, ak_13, ak_14, ak_15, ak_16, ak_17, ak_18, ak_19, ak_20, ak_21, ak_22, ak_23, ak_24, ak_25, ak_26, ak_27, ak_28, ak_29, ak_30, ak_31, ak_32, ak_33, ak_34, ak_35, ak_36, ak_37, ak_38, ak_39, ak_40, ak_41, ak_42, ak_43, ak_44, ak_45, ak_46, ak_47, ak_48, ak_49, ak_50, ak_51, ak_52, ak_53, ak_54, ak_55, ak_56, el31, el33, el34, CX1_greatestBound, ca_X1_greatestBound, frX1, kcX1, klX1, T_X1_boundOf, up_ap, false_and, and_false, if_false, if_true, ite_true, ite_false, exists_eq_right_right, exists_eq_right, exists_eq_left, Nat.lt_irrefl, and_self, implies_true, forall_const]
        exact GB_0
    · exact h.elim
def ca_X1_decidedPairs : Nat → Option (Nat × Nat × Tr) := fun _ => none
theorem cao_X1_decidedPairs (l : Launch) : ∀ k n' ci T', ca_X1_decidedPairs k = some (n', ci, T') → ∃ nn, nn + 1 ≤ 0 ∧ Site l yX1_decidedPairs.cls k n' ci nn T' := by
  intro k n' ci T' h
  cases h
def T_X1_decidedPairs : Tr := fun a σ K => match a with
  | [.inr (.inl (1, n))] => nB σ n ∧ K (some (sm (dpR σ n) 16)) σ
  | _ => False
set_option maxHeartbeats 8000000 in
set_option maxRecDepth 20000 in
theorem k_X1_decidedPairs (l : Launch) : Ct l yX1_decidedPairs cX1_decidedPairs 4 (some .int) 0 T_X1_decidedPairs := by
  refine mk_met (by decide +kernel) hCX1_decidedPairs lCX1_decidedPairs frX1_ok cstX1_ok (cao_X1_decidedPairs l) ?_ ?_
  · intro a σ K h
    unfold T_X1_decidedPairs at h
    split at h
    · simp [eL]
    · exact h.elim
  · intro a σ K ha hR h
    unfold T_X1_decidedPairs at h
    split at h
    · rename_i n
      refine ⟨fun pc => if pc = 4 then some (fun L S σ' k => match L, S with | [some (.inr (.inl c1)), some (.inl s), some (.inl i), _], [] => (c1 = (1, n) ∧ σ' = σ ∧ 0 ≤ i ∧ i ≤ 16 ∧ s = sm (dpR σ n) i.toNat) ∧ k = (20 - i).toNat * 100 | _, _ => False) else if pc = 12 then some (fun L S σ' k => match L, S with | [some (.inr (.inl c1)), some (.inl s), some (.inl i), some (.inl j)], [] => (c1 = (1, n) ∧ σ' = σ ∧ 0 ≤ i ∧ i < 16 ∧ 0 ≤ j ∧ j ≤ 4 ∧ s = sm (dpR σ n) i.toNat + sm (dpC σ n i) j.toNat) ∧ k = (19 - i).toNat * 100 + (50 - j).toNat | _, _ => False) else none, 200, ?_, ?_⟩
      · intro pc I L S σ' k hcut hi
        dsimp only at hcut
        split at hcut
        · rename_i hpc
          subst hpc
          cases hcut
          try dsimp only at hi
          split at hi
          · rename_i c1 s i x1
            obtain ⟨hi, rfl⟩ := hi
            obtain ⟨rfl, rfl, h0, h1, hI⟩ := hi
            obtain ⟨p1, h⟩ := h
            simp only [wp, stp, drp, entL, eL, lget, lset, okst, cnd, swt, rcv, Kr_int, Kr_bool, Kr_void, List.length_cons, List.length_nil, List.replicate, List.append_nil, List.cons_append, List.nil_append, List.take_succ_cons, List.take_zero, List.drop_succ_cons, List.drop_zero, List.reverse_cons, List.reverse_nil, Option.map_some, Option.map_none, Option.toList_some, Option.toList_none, Nat.reduceAdd, Nat.reduceSub, Nat.reduceLT, Nat.reduceLeDiff, Nat.reduceEqDiff, ↓reduceIte, Nat.add_zero, Nat.zero_add, true_and, and_true, Nat.le_refl, reduceCtorEq, false_implies, true_implies, not_true_eq_false, not_false_eq_true, Int.reduceAdd, Int.reduceSub, Int.reduceMul, Int.reduceLE, Int.reduceLT, Int.reduceEq, Int.reduceNe, Int.reduceNeg, Int.reduceDiv, Int.reduceMod, Bool.false_eq_true, Int.le_refl, and_self, true_or, or_true, inR_l, fv0, fv1, fv2, fv3, nc2, nc4, nc6, nc16, nc25, nc60, nc65, nc80, nc130, nc384, nc390, fp_0_0, fp_0_1, fp_0_2, fp_1_0, fp_1_1, fp_1_2, fp_1_3, fp_1_4, fp_1_5, fp_1_6, fp_1_7, fp_1_8, fp_1_9, fp_1_10, fp_1_11, fp_1_12, fp_1_13, fp_1_14, fp_2_0, fp_2_1, fp_2_2, fp_2_3, fp_3_0, fp_3_1, fp_4_0, fp_4_1, fp_4_2, fp_4_3, fp_4_4, fp_4_5, fp_4_6, fp_4_7, fp_5_0, fp_5_1, fp_5_2, fp_5_3, fp_5_4, fp_5_5, fp_5_6, fp_5_7, fp_6_0, fp_6_1, fp_6_2, fp_6_3, fp_6_4, fp_6_5, fp_6_6, fp_6_7, fp_6_8, fp_6_9, fp_6_10, fp_6_11, fp_6_12, fp_6_13, fp_6_14, fp_6_15, fp_7_0, fp_7_1, fp_7_2, fp_7_3, fp_7_4, fp_7_5, fp_7_6, fp_7_7, fp_7_8, fp_7_9, fp_7_10, fp_7_11, fp_7_12, fp_7_13, fp_7_14, fp_7_15, fp_7_16, fp_7_17, fp_7_18, fp_7_19, fp_7_20, fp_7_21, fp_7_22, fp_7_23, fp_7_24, iz_0_1, iz_0_2, iz_1_8, iz_1_9, iz_1_11, iz_2_1, iz_2_2, iz_2_3, iz_3_1, iz_4_1, iz_4_2, iz_5_0, iz_6_8, iz_6_9, iz_6_13, iz_6_14, iz_6_15, iz_7_2, iz_7_6, iz_7_12, iz_7_20, iz_7_21, iz_7_23, iz_7_24, ak_8, ak_9, ak_10, ak_11, ak_12, ak_13, ak_14, ak_15, ak_16, ak_17, ak_18, ak_19, ak_20, ak_21, ak_22, ak_23, ak_24, ak_25, ak_26, ak_27, ak_28, ak_29, ak_30, ak_31, ak_32, ak_33, ak_34, ak_35, ak_36, ak_37, ak_38, ak_39, ak_40, ak_41, ak_42, ak_43, ak_44, ak_45, ak_46, ak_47, ak_48, ak_49, ak_50, ak_51, ak_52, ak_53, ak_54, ak_55, ak_56, el31, el33, el34, CX1_decidedPairs, ca_X1_decidedPairs, frX1, kcX1, klX1, up_ap, false_and, and_false, if_false, if_true, ite_true, ite_false, hasB_def, exists_eq_right_right, exists_eq_right, exists_eq_left, Nat.lt_irrefl, and_self, implies_true, forall_const]
            (repeat' (first | (with_reducible intro _) | (with_reducible refine And.intro ?_ ?_)))
            all_goals (try first | omega | exact ⟨by omega, by omega⟩)
            all_goals first | (rw [hI, show i.toNat = 16 by omega]; exact h) | (show s = sm (dpR σ' n) i.toNat + 0; omega)
          · exact hi.elim
        · split at hcut
          · rename_i hpc
            subst hpc
            cases hcut
            try dsimp only at hi
            split at hi
            · rename_i c1 s i j
              obtain ⟨hi, rfl⟩ := hi
              obtain ⟨rfl, rfl, h0, h1, h2, h3, hI⟩ := hi
              obtain ⟨p1, h⟩ := h
              simp only [wp, stp, drp, entL, eL, lget, lset, okst, cnd, swt, rcv, Kr_int, Kr_bool, Kr_void, List.length_cons, List.length_nil, List.replicate, List.append_nil, List.cons_append, List.nil_append, List.take_succ_cons, List.take_zero, List.drop_succ_cons, List.drop_zero, List.reverse_cons, List.reverse_nil, Option.map_some, Option.map_none, Option.toList_some, Option.toList_none, Nat.reduceAdd, Nat.reduceSub, Nat.reduceLT, Nat.reduceLeDiff, Nat.reduceEqDiff, ↓reduceIte, Nat.add_zero, Nat.zero_add, true_and, and_true, Nat.le_refl, reduceCtorEq, false_implies, true_implies, not_true_eq_false, not_false_eq_true, Int.reduceAdd, Int.reduceSub, Int.reduceMul, Int.reduceLE, Int.reduceLT, Int.reduceEq, Int.reduceNe, Int.reduceNeg, Int.reduceDiv, Int.reduceMod, Bool.false_eq_true, Int.le_refl, and_self, true_or, or_true, inR_l, fv0, fv1, fv2, fv3, nc2, nc4, nc6, nc16, nc25, nc60, nc65, nc80, nc130, nc384, nc390, fp_0_0, fp_0_1, fp_0_2, fp_1_0, fp_1_1, fp_1_2, fp_1_3, fp_1_4, fp_1_5, fp_1_6, fp_1_7, fp_1_8, fp_1_9, fp_1_10, fp_1_11, fp_1_12, fp_1_13, fp_1_14, fp_2_0, fp_2_1, fp_2_2, fp_2_3, fp_3_0, fp_3_1, fp_4_0, fp_4_1, fp_4_2, fp_4_3, fp_4_4, fp_4_5, fp_4_6, fp_4_7, fp_5_0, fp_5_1, fp_5_2, fp_5_3, fp_5_4, fp_5_5, fp_5_6, fp_5_7, fp_6_0, fp_6_1, fp_6_2, fp_6_3, fp_6_4, fp_6_5, fp_6_6, fp_6_7, fp_6_8, fp_6_9, fp_6_10, fp_6_11, fp_6_12, fp_6_13, fp_6_14, fp_6_15, fp_7_0, fp_7_1, fp_7_2, fp_7_3, fp_7_4, fp_7_5, fp_7_6, fp_7_7, fp_7_8, fp_7_9, fp_7_10, fp_7_11, fp_7_12, fp_7_13, fp_7_14, fp_7_15, fp_7_16, fp_7_17, fp_7_18, fp_7_19, fp_7_20, fp_7_21, fp_7_22, fp_7_23, fp_7_24, iz_0_1, iz_0_2, iz_1_8, iz_1_9, iz_1_11, iz_2_1, iz_2_2, iz_2_3, iz_3_1, iz_4_1, iz_4_2, iz_5_0, iz_6_8, iz_6_9, iz_6_13, iz_6_14, iz_6_15, iz_7_2, iz_7_6, iz_7_12, iz_7_20, iz_7_21, iz_7_23, iz_7_24, ak_8, ak_9, ak_10, ak_11, ak_12, ak_13, ak_14, ak_15, ak_16, ak_17, ak_18, ak_19, ak_20, ak_21, ak_22, ak_23, ak_24, ak_25, ak_26, ak_27, ak_28, ak_29, ak_30, ak_31, ak_32, ak_33, ak_34, ak_35, ak_36, ak_37, ak_38, ak_39, ak_40, ak_41, ak_42, ak_43, ak_44, ak_45, ak_46, ak_47, ak_48, ak_49, ak_50, ak_51, ak_52, ak_53, ak_54, ak_55, ak_56, el31, el33, el34, CX1_decidedPairs, ca_X1_decidedPairs, frX1, kcX1, klX1, up_ap, false_and, and_false, if_false, if_true, ite_true, ite_false, hasB_def, exists_eq_right_right, exists_eq_right, exists_eq_left, Nat.lt_irrefl, and_self, implies_true, forall_const]
              have e1 := sm_s (dpR σ' n) h0
              have e2 := sm_s (dpC σ' n i) h2
              have hr := dp_r σ' n i.toNat j.toNat
              have hr2 : 0 ≤ s ∧ s ≤ 1000 := by
                rw [hI, show i = ((i.toNat : Nat) : Int) by omega]
                simp only [Int.toNat_natCast]
                omega
              have h16 : σ' 19 n i < 16 := by
                have := NB_16 p1 (m := i / 4) (k := i % 4) (by omega) (by omega) (by omega) (by omega)
                rw [show 4 * (i / 4) + i % 4 = i by omega] at this
                exact this
              have hn : ¬ (0 ≤ σ' 19 n i ∧ hasB (σ' 20 n (σ' 19 n i)) j) → dpC σ' n i j = 0 := fun q => b2i_0 q
              have hy : 0 ≤ σ' 19 n i → hasB (σ' 20 n (σ' 19 n i)) j → dpC σ' n i j = 1 := fun q q2 => b2i_1 ⟨q, q2⟩
              (repeat' (first | (with_reducible intro _) | (with_reducible refine And.intro ?_ ?_)))
              all_goals (try first | omega | exact ⟨by omega, by omega⟩)
              all_goals first | (rw [e1, hI, show j.toNat = 4 by omega]; rfl) | (rw [e2, hI, hn (fun q => absurd q.1 (by omega))]; omega) | (rw [e2, hI, hn (fun q => absurd q.2 (by assumption))]; omega) | (rw [e2, hI, hy (by omega) (Classical.not_not.mp (by assumption))]; omega)
            · exact hi.elim
          · cases hcut
      · simp only [wp, stp, drp, entL, eL, lget, lset, okst, cnd, swt, rcv, Kr_int, Kr_bool, Kr_void, List.length_cons, List.length_nil, List.replicate, List.append_nil, List.cons_append, List.nil_append, List.take_succ_cons, List.take_zero, List.drop_succ_cons, List.drop_zero, List.reverse_cons, List.reverse_nil, Option.map_some, Option.map_none, Option.toList_some, Option.toList_none, Nat.reduceAdd, Nat.reduceSub, Nat.reduceLT, Nat.reduceLeDiff, Nat.reduceEqDiff, ↓reduceIte, Nat.add_zero, Nat.zero_add, true_and, and_true, Nat.le_refl, reduceCtorEq, false_implies, true_implies, not_true_eq_false, not_false_eq_true, Int.reduceAdd, Int.reduceSub, Int.reduceMul, Int.reduceLE, Int.reduceLT, Int.reduceEq, Int.reduceNe, Int.reduceNeg, Int.reduceDiv, Int.reduceMod, Bool.false_eq_true, Int.le_refl, and_self, true_or, or_true, inR_l, fv0, fv1, fv2, fv3, nc2, nc4, nc6, nc16, nc25, nc60, nc65, nc80, nc130, nc384, nc390, fp_0_0, fp_0_1, fp_0_2, fp_1_0, fp_1_1, fp_1_2, fp_1_3, fp_1_4, fp_1_5, fp_1_6, fp_1_7, fp_1_8, fp_1_9, fp_1_10, fp_1_11, fp_1_12, fp_1_13, fp_1_14, fp_2_0, fp_2_1, fp_2_2, fp_2_3, fp_3_0, fp_3_1, fp_4_0, fp_4_1, fp_4_2, fp_4_3, fp_4_4, fp_4_5, fp_4_6, fp_4_7, fp_5_0, fp_5_1, fp_5_2, fp_5_3, fp_5_4, fp_5_5, fp_5_6, fp_5_7, fp_6_0, fp_6_1, fp_6_2, fp_6_3, fp_6_4, fp_6_5, fp_6_6, fp_6_7, fp_6_8, fp_6_9, fp_6_10, fp_6_11, fp_6_12, fp_6_13, fp_6_14, fp_6_15, fp_7_0, fp_7_1, fp_7_2, fp_7_3, fp_7_4, fp_7_5, fp_7_6, fp_7_7, fp_7_8, fp_7_9, fp_7_10, fp_7_11, fp_7_12, fp_7_13, fp_7_14, fp_7_15, fp_7_16, fp_7_17, fp_7_18, fp_7_19, fp_7_20, fp_7_21, fp_7_22, fp_7_23, fp_7_24, iz_0_1, iz_0_2, iz_1_8, iz_1_9, iz_1_11, iz_2_1, iz_2_2, iz_2_3, iz_3_1, iz_4_1, iz_4_2, iz_5_0, iz_6_8, iz_6_9, iz_6_13, iz_6_14, iz_6_15, iz_7_2, iz_7_6, iz_7_12, iz_7_20, iz_7_21, iz_7_23, iz_7_24, ak_8, ak_9, ak_10, ak_11, ak_12, ak_13, ak_14, ak_15, ak_16, ak_17, ak_18, ak_19, ak_20, ak_21, ak_22, ak_23, ak_24, ak_25, ak_26, ak_27, ak_28, ak_29, ak_30, ak_31, ak_32, ak_33, ak_34, ak_35, ak_36, ak_37, ak_38, ak_39, ak_40, ak_41, ak_42, ak_43, ak_44, ak_45, ak_46, ak_47, ak_48, ak_49, ak_50, ak_51, ak_52, ak_53, ak_54, ak_55, ak_56, el31, el33, el34, CX1_decidedPairs, ca_X1_decidedPairs, frX1, kcX1, klX1, up_ap, false_and, and_false, if_false, if_true, ite_true, ite_false, hasB_def, exists_eq_right_right, exists_eq_right, exists_eq_left, Nat.lt_irrefl, and_self, implies_true, forall_const]
        rfl
    · exact h.elim
