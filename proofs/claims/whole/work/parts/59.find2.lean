def ca_X4_find : Nat → Option (Nat × Nat × Tr)
  | 43 => some (2, 99, T_X6_copyRow)
  | 47 => some (1, 1, T_X1_measure)
  | 51 => some (1, 1, T_X1_greatestBound)
  | 59 => some (3, 99, T_X4_complete)
  | 63 => some (2, 1, T_X1_keeps)
  | 67 => some (2, 4, T_X4_settle)
  | _ => none
theorem cao_X4_find (l : Launch) : ∀ k n' ci T', ca_X4_find k = some (n', ci, T') → ∃ nn, nn + 1 ≤ 36 ∧ Site l yX4_find.cls k n' ci nn T' := by
  intro k n' ci T' h
  unfold ca_X4_find at h
  split at h
  · cases h; exact ⟨0, by decide, _, _, _, _, k_X6_copyRow l, Or.inr ⟨rfl, FX6_copyRow, Or.inr ⟨_, KRX4_43⟩⟩⟩
  · cases h; exact ⟨2, by decide, _, _, _, _, k_X1_measure l, Or.inl ⟨_, rfl, FX1_measure, KRX4_47⟩⟩
  · cases h; exact ⟨2, by decide, _, _, _, _, k_X1_greatestBound l, Or.inl ⟨_, rfl, FX1_greatestBound, KRX4_51⟩⟩
  · cases h; exact ⟨34, by decide, _, _, _, _, k_X4_complete l, Or.inr ⟨rfl, FX4_complete, Or.inl ⟨rfl, KRX4_59⟩⟩⟩
  · cases h; exact ⟨3, by decide, _, _, _, _, k_X1_keeps l, Or.inl ⟨_, rfl, FX1_keeps, KRX4_63⟩⟩
  · cases h; exact ⟨35, by decide, _, _, _, _, k_X4_settle l, Or.inl ⟨_, rfl, FX4_settle, KRX4_67⟩⟩
  · cases h
def T_X4_find : Tr := fun a σ K => match a with
  | [.inr (.inl (4, s))] => (s < 2 ∧ nB σ (s + 2) ∧ nA σ (s + 2) ∧ nO σ (s + 2) ∧ ∃ v C, 0 ≤ v ∧ v < 1000 ∧ sSol σ s v C) ∧ (σ 4 s 1 ≠ 0 → K none σ) ∧ (σ 4 s 1 = 0 → ∀ σ', FdR σ σ' s → K none σ')
  | _ => False
set_option maxHeartbeats 8000000 in
set_option maxRecDepth 20000 in
theorem k_X4_find (l : Launch) : Ct l yX4_find cX4_find 2 none 36 T_X4_find := by
  refine mk_met (by decide +kernel) hCX4_find lCX4_find frX4_ok cstX4_ok (cao_X4_find l) ?_ ?_
  · intro a σ K h
    unfold T_X4_find at h
    split at h
    · simp [eL]
    · exact h.elim
  · intro a σ K ha hR h
    unfold T_X4_find at h
    split at h
    · rename_i s
      refine ⟨fun pc => if pc = 41 then some (fun L S σ' k => match L, S with | [some (.inr (.inl c1)), _], [] => (c1 = (4, s) ∧ σ 4 s 1 = 0 ∧ fI σ σ' s) ∧ k = (2000 - σ' 4 s 2).toNat + 100 | _, _ => False) else if pc = 132 then some (fun L S σ' k => match L, S with | [some (.inr (.inl c1)), some (.inl p)], [] => (c1 = (4, s) ∧ σ 4 s 1 = 0 ∧ 0 ≤ p ∧ p ≤ 16 ∧ gI σ σ' s p) ∧ k = (20 - p).toNat | _, _ => False) else none, 200, ?_, ?_⟩
      · intro pc I L S σ' k hcut hi
        dsimp only at hcut
        split at hcut
        · rename_i hpc
          subst hpc
          cases hcut
          try dsimp only at hi
          split at hi
          · rename_i c1 x1
            obtain ⟨hi, rfl⟩ := hi
            obtain ⟨rfl, hk, hI⟩ := hi
            obtain ⟨⟨p1, p2, p3, p4, v, C, v0, v1, hC⟩, -, h⟩ := h
            simp only [wp, stp, drp, entL, eL, lget, lset, okst, cnd, swt, rcv, Kr_int, Kr_bool, Kr_void, List.length_cons, List.length_nil, List.replicate, List.append_nil, List.cons_append, List.nil_append, List.take_succ_cons, List.take_zero, List.drop_succ_cons, List.drop_zero, List.reverse_cons, List.reverse_nil, Option.map_some, Option.map_none, Option.toList_some, Option.toList_none, Nat.reduceAdd, Nat.reduceSub, Nat.reduceLT, Nat.reduceLeDiff, Nat.reduceEqDiff, ↓reduceIte, Nat.add_zero, Nat.zero_add, true_and, and_true, Nat.le_refl, reduceCtorEq, false_implies, true_implies, not_true_eq_false, not_false_eq_true, Int.reduceAdd, Int.reduceSub, Int.reduceMul, Int.reduceLE, Int.reduceLT, Int.reduceEq, Int.reduceNe, Int.reduceNeg, Int.reduceDiv, Int.reduceMod, Bool.false_eq_true, Int.le_refl, and_self, true_or, or_true, inR_l, fv0, fv1, fv2, fv3, nc2, nc4, nc6, nc16, nc25, nc60, nc65, nc80, nc130, nc384, nc390, fp_0_0, fp_0_1, fp_0_2, fp_1_0, fp_1_1, fp_1_2, fp_1_3, fp_1_4, fp_1_5, fp_1_6, fp_1_7, fp_1_8, fp_1_9, fp_1_10, fp_1_11, fp_1_12, fp_1_13, fp_1_14, fp_2_0, fp_2_1, fp_2_2, fp_2_3, fp_3_0, fp_3_1, fp_4_0, fp_4_1, fp_4_2, fp_4_3, fp_4_4, fp_4_5, fp_4_6, fp_4_7, fp_5_0, fp_5_1, fp_5_2, fp_5_3, fp_5_4, fp_5_5, fp_5_6, fp_5_7, fp_6_0, fp_6_1, fp_6_2, fp_6_3, fp_6_4, fp_6_5, fp_6_6, fp_6_7, fp_6_8, fp_6_9, fp_6_10, fp_6_11, fp_6_12, fp_6_13, fp_6_14, fp_6_15, fp_7_0, fp_7_1, fp_7_2, fp_7_3, fp_7_4, fp_7_5, fp_7_6, fp_7_7, fp_7_8, fp_7_9, fp_7_10, fp_7_11, fp_7_12, fp_7_13, fp_7_14, fp_7_15, fp_7_16, fp_7_17, fp_7_18, fp_7_19, fp_7_20, fp_7_21, fp_7_22, fp_7_23, fp_7_24, iz_0_1, iz_0_2, iz_1_8, iz_1_9, iz_1_11, iz_2_1, iz_2_2, iz_2_3, iz_3_1, iz_4_1, iz_4_2, iz_5_0, iz_6_8, iz_6_9, iz_6_13, iz_6_14, iz_6_15, iz_7_2, iz_7_6, iz_7_12, iz_7_20, iz_7_21, iz_7_23, iz_7_24, ak_8, ak_9, ak_10, ak_11, ak_12, ak_13, ak_14, ak_15, ak_16, ak_17, ak_18, ak_19, ak_20, ak_21, ak_22, ak_23, ak_24, ak_25, ak_26, ak_27, ak_28, ak_29, ak_30, ak_31, ak_32, ak_33, ak_34, ak_35, ak_36, ak_37, ak_38, ak_39, ak_40, ak_41, ak_42, ak_43, ak_44, ak_45, ak_46, ak_47, ak_48, ak_49, ak_50, ak_51, ak_52, ak_53, ak_54, ak_55, ak_56, el31, el33, el34, CX4_find, ca_X4_find, frX4, kcX4, klX4, T_X6_copyRow, T_X1_measure, T_X1_greatestBound, T_X4_complete, T_X1_keeps, T_X4_settle, up_ap, false_and, and_false, if_false, if_true, ite_true, ite_false, T_X4_completeD, exists_eq_right_right, exists_eq_right, exists_eq_left, Nat.lt_irrefl, and_self, implies_true, forall_const]
            have hlv := fI_lt hI v0 hC
            have hl0 := hI.2.2.2.2.1
            have hl1 := hI.2.2.2.2.2.1
            refine ⟨fun a => absurd a (by omega), fun a => ⟨⟨p1, pF.B hI.1 p2, hI.2.1, pF.O hI.1 p4, hI.2.2.2.2.1, (dc_r _ _).1⟩, fun σ4 hT σ5 c1 c2 _ => ?_, fun σ4 hF σ5 c1 c2 _ => ?_⟩⟩
            · have hc : Cpy σ4 σ5 20 (s + 2) 28 s 16 := ⟨c1, c2⟩
              obtain ⟨q1, q2, q3, q4, q5, -⟩ := fk_st p2 p3 p4 hI hT hc
              refine ⟨⟨q2, q3, q4, by rw [q5]; exact hl0⟩, fun σ6 hK σ7 d1 d2 _ => ⟨by omega, hk, gI_0 p2 p3 p4 hI (by omega) hT hc hK ⟨d1, d2⟩⟩, fun σ6 _ _ hK => (fk_kf p2 p3 p4 hI hT hc hK).elim⟩
            · have e : σ5 4 s 2 = σ' 4 s 2 := by rw [c1 4 s 2 (Or.inl (by omega)), pC.f hF.1 4 (by omega)]
              refine ⟨⟨by omega, by omega⟩, by omega, hk, fI_s p2 p3 hI hF (by omega) ⟨c1, c2⟩⟩
          · exact hi.elim
        · split at hcut
          · rename_i hpc
            subst hpc
            cases hcut
            try dsimp only at hi
            split at hi
            · rename_i c1 p
              obtain ⟨hi, rfl⟩ := hi
              obtain ⟨rfl, hk, h0, h1, hI⟩ := hi
              obtain ⟨⟨p1, p2, p3, p4, v, C, v0, v1, hC⟩, -, h⟩ := h
              simp only [wp, stp, drp, entL, eL, lget, lset, okst, cnd, swt, rcv, Kr_int, Kr_bool, Kr_void, List.length_cons, List.length_nil, List.replicate, List.append_nil, List.cons_append, List.nil_append, List.take_succ_cons, List.take_zero, List.drop_succ_cons, List.drop_zero, List.reverse_cons, List.reverse_nil, Option.map_some, Option.map_none, Option.toList_some, Option.toList_none, Nat.reduceAdd, Nat.reduceSub, Nat.reduceLT, Nat.reduceLeDiff, Nat.reduceEqDiff, ↓reduceIte, Nat.add_zero, Nat.zero_add, true_and, and_true, Nat.le_refl, reduceCtorEq, false_implies, true_implies, not_true_eq_false, not_false_eq_true, Int.reduceAdd, Int.reduceSub, Int.reduceMul, Int.reduceLE, Int.reduceLT, Int.reduceEq, Int.reduceNe, Int.reduceNeg, Int.reduceDiv, Int.reduceMod, Bool.false_eq_true, Int.le_refl, and_self, true_or, or_true, inR_l, fv0, fv1, fv2, fv3, nc2, nc4, nc6, nc16, nc25, nc60, nc65, nc80, nc130, nc384, nc390, fp_0_0, fp_0_1, fp_0_2, fp_1_0, fp_1_1, fp_1_2, fp_1_3, fp_1_4, fp_1_5, fp_1_6, fp_1_7, fp_1_8, fp_1_9, fp_1_10, fp_1_11, fp_1_12, fp_1_13, fp_1_14, fp_2_0, fp_2_1, fp_2_2, fp_2_3, fp_3_0, fp_3_1, fp_4_0, fp_4_1, fp_4_2, fp_4_3, fp_4_4, fp_4_5, fp_4_6, fp_4_7, fp_5_0, fp_5_1, fp_5_2, fp_5_3, fp_5_4, fp_5_5, fp_5_6, fp_5_7, fp_6_0, fp_6_1, fp_6_2, fp_6_3, fp_6_4, fp_6_5, fp_6_6, fp_6_7, fp_6_8, fp_6_9, fp_6_10, fp_6_11, fp_6_12, fp_6_13, fp_6_14, fp_6_15, fp_7_0, fp_7_1, fp_7_2, fp_7_3, fp_7_4, fp_7_5, fp_7_6, fp_7_7, fp_7_8, fp_7_9, fp_7_10, fp_7_11, fp_7_12, fp_7_13, fp_7_14, fp_7_15, fp_7_16, fp_7_17, fp_7_18, fp_7_19, fp_7_20, fp_7_21, fp_7_22, fp_7_23, fp_7_24, iz_0_1, iz_0_2, iz_1_8, iz_1_9, iz_1_11, iz_2_1, iz_2_2, iz_2_3, iz_3_1, iz_4_1, iz_4_2, iz_5_0, iz_6_8, iz_6_9, iz_6_13, iz_6_14, iz_6_15, iz_7_2, iz_7_6, iz_7_12, iz_7_20, iz_7_21, iz_7_23, iz_7_24, ak_8, ak_9, ak_10, ak_11, ak_12, ak_13, ak_14, ak_15, ak_16, ak_17, ak_18, ak_19, ak_20, ak_21, ak_22, ak_23, ak_24, ak_25, ak_26, ak_27, ak_28, ak_29, ak_30, ak_31, ak_32, ak_33, ak_34, ak_35, ak_36, ak_37, ak_38, ak_39, ak_40, ak_41, ak_42, ak_43, ak_44, ak_45, ak_46, ak_47, ak_48, ak_49, ak_50, ak_51, ak_52, ak_53, ak_54, ak_55, ak_56, el31, el33, el34, CX4_find, ca_X4_find, frX4, kcX4, klX4, T_X6_copyRow, T_X1_measure, T_X1_greatestBound, T_X4_complete, T_X1_keeps, T_X4_settle, up_ap, false_and, and_false, if_false, if_true, ite_true, ite_false, T_X4_completeD, exists_eq_right_right, exists_eq_right, exists_eq_left, Nat.lt_irrefl, and_self, implies_true, forall_const]
              refine ⟨fun a => h hk _ (gI_end hI (by omega)), fun a => ⟨σ 20 (s + 2), ⟨p1, h0, by omega, pF.O hI.1 p4, hI.2.2.1, hI.2.2.2.2.2⟩, fun r σ2 hF hA hr hS => ⟨⟨h0, by omega⟩, ⟨by omega, by omega⟩, by omega, hk, by omega, by omega, gI_s hI hF hA hS⟩⟩⟩
            · exact hi.elim
          · cases hcut
      · simp only [wp, stp, drp, entL, eL, lget, lset, okst, cnd, swt, rcv, Kr_int, Kr_bool, Kr_void, List.length_cons, List.length_nil, List.replicate, List.append_nil, List.cons_append, List.nil_append, List.take_succ_cons, List.take_zero, List.drop_succ_cons, List.drop_zero, List.reverse_cons, List.reverse_nil, Option.map_some, Option.map_none, Option.toList_some, Option.toList_none, Nat.reduceAdd, Nat.reduceSub, Nat.reduceLT, Nat.reduceLeDiff, Nat.reduceEqDiff, ↓reduceIte, Nat.add_zero, Nat.zero_add, true_and, and_true, Nat.le_refl, reduceCtorEq, false_implies, true_implies, not_true_eq_false, not_false_eq_true, Int.reduceAdd, Int.reduceSub, Int.reduceMul, Int.reduceLE, Int.reduceLT, Int.reduceEq, Int.reduceNe, Int.reduceNeg, Int.reduceDiv, Int.reduceMod, Bool.false_eq_true, Int.le_refl, and_self, true_or, or_true, inR_l, fv0, fv1, fv2, fv3, nc2, nc4, nc6, nc16, nc25, nc60, nc65, nc80, nc130, nc384, nc390, fp_0_0, fp_0_1, fp_0_2, fp_1_0, fp_1_1, fp_1_2, fp_1_3, fp_1_4, fp_1_5, fp_1_6, fp_1_7, fp_1_8, fp_1_9, fp_1_10, fp_1_11, fp_1_12, fp_1_13, fp_1_14, fp_2_0, fp_2_1, fp_2_2, fp_2_3, fp_3_0, fp_3_1, fp_4_0, fp_4_1, fp_4_2, fp_4_3, fp_4_4, fp_4_5, fp_4_6, fp_4_7, fp_5_0, fp_5_1, fp_5_2, fp_5_3, fp_5_4, fp_5_5, fp_5_6, fp_5_7, fp_6_0, fp_6_1, fp_6_2, fp_6_3, fp_6_4, fp_6_5, fp_6_6, fp_6_7, fp_6_8, fp_6_9, fp_6_10, fp_6_11, fp_6_12, fp_6_13, fp_6_14, fp_6_15, fp_7_0, fp_7_1, fp_7_2, fp_7_3, fp_7_4, fp_7_5, fp_7_6, fp_7_7, fp_7_8, fp_7_9, fp_7_10, fp_7_11, fp_7_12, fp_7_13, fp_7_14, fp_7_15, fp_7_16, fp_7_17, fp_7_18, fp_7_19, fp_7_20, fp_7_21, fp_7_22, fp_7_23, fp_7_24, iz_0_1, iz_0_2, iz_1_8, iz_1_9, iz_1_11, iz_2_1, iz_2_2, iz_2_3, iz_3_1, iz_4_1, iz_4_2, iz_5_0, iz_6_8, iz_6_9, iz_6_13, iz_6_14, iz_6_15, iz_7_2, iz_7_6, iz_7_12, iz_7_20, iz_7_21, iz_7_23, iz_7_24, ak_8, ak_9, ak_10, ak_11, ak_12, ak_13, ak_14, ak_15, ak_16, ak_17, ak_18, ak_19, ak_20, ak_21, ak_22, ak_23, ak_24, ak_25, ak_26, ak_27, ak_28, ak_29, ak_30, ak_31, ak_32, ak_33, ak_34, ak_35, ak_36, ak_37, ak_38, ak_39, ak_40, ak_41, ak_42, ak_43, ak_44, ak_45, ak_46, ak_47, ak_48, ak_49, ak_50, ak_51, ak_52, ak_53, ak_54, ak_55, ak_56, el31, el33, el34, CX4_find, ca_X4_find, frX4, kcX4, klX4, T_X6_copyRow, T_X1_measure, T_X1_greatestBound, T_X4_complete, T_X1_keeps, T_X4_settle, up_ap, false_and, and_false, if_false, if_true, ite_true, ite_false, T_X4_completeD, exists_eq_right_right, exists_eq_right, exists_eq_left, Nat.lt_irrefl, and_self, implies_true, forall_const]
        obtain ⟨⟨p1, p2, p3, p4, v, C, v0, v1, hC⟩, hkn, h⟩ := h
        refine ⟨fun hk σ1 c1 c2 _ => ?_, fun hk => hkn hk⟩
        have hc : Cpy σ σ1 28 s 20 (s + 2) 16 := ⟨c1, c2⟩
        have g := fun t (ht : t ≠ 28) a => hc.row (t1 := t) (a1 := a) (Or.inl ht)
        have hB1 : nB σ1 (s + 2) := by
          unfold nB
          rw [g 15 (by omega), g 16 (by omega), g 17 (by omega), g 18 (by omega), g 19 (by omega)]
          exact p2
        have hA1 : nA σ1 (s + 2) := by
          unfold nA
          rw [g 15 (by omega), g 16 (by omega), g 19 (by omega), g 20 (by omega)]
          exact p3
        have hO1 : nO σ1 (s + 2) := by
          unfold nO
          rw [g 15 (by omega), g 1 (by omega)]
          exact p4
        refine ⟨⟨hB1, hA1, hO1⟩, fun σ2 hF hM => ⟨⟨hF.B hB1, nM_H hM⟩, fun B σ3 hG => ⟨hk, fI_0 p2 p3 hc hF hM hG⟩⟩, fun σ2 hF hN => (nN_no p2 hC ?_).elim⟩
        unfold nN at hN ⊢
        rw [g 15 (by omega), g 16 (by omega), g 20 (by omega)] at hN
        exact hN
    · exact h.elim
