def ca_X7_sumOf : Nat → Option (Nat × Nat × Tr)
  | 69 => some (3, 7, T_X7_ofAJob)
  | 105 => some (2, 7, T_X7_lasts)
  | _ => none
theorem cao_X7_sumOf (l : Launch) : ∀ k n' ci T', ca_X7_sumOf k = some (n', ci, T') → ∃ nn, nn + 1 ≤ 1 ∧ Site l yX7_sumOf.cls k n' ci nn T' := by
  intro k n' ci T' h
  unfold ca_X7_sumOf at h
  split at h
  · cases h; exact ⟨0, by decide, _, _, _, _, k_X7_ofAJob l, Or.inl ⟨_, rfl, FX7_ofAJob, KRX7_69⟩⟩
  · cases h; exact ⟨0, by decide, _, _, _, _, k_X7_lasts l, Or.inl ⟨_, rfl, FX7_lasts, KRX7_105⟩⟩
  · cases h
def T_X7_sumOf : Tr := fun a σ K => match a with
  | [.inr (.inl (7, 0)), .inl j] => (rWF σ ∧ 0 ≤ j ∧ j < 4) ∧ K (some (wF (rDu σ) (4 * j) (rSt σ j))) σ
  | _ => False
set_option maxHeartbeats 8000000 in
set_option maxRecDepth 20000 in
theorem k_X7_sumOf (l : Launch) : Ct l yX7_sumOf cX7_sumOf 4 (some .int) 1 T_X7_sumOf := by
  refine mk_met (by decide +kernel) hCX7_sumOf lCX7_sumOf frX7_ok cstX7_ok (cao_X7_sumOf l) ?_ ?_
  · intro a σ K h
    unfold T_X7_sumOf at h
    split at h
    · simp [eL]
    · exact h.elim
  · intro a σ K ha hR h
    unfold T_X7_sumOf at h
    split at h
    · rename_i j
      refine ⟨fun pc => if pc = 4 then some (fun L S σ' k => match L, S with | [some (.inr (.inl c1)), some (.inl j'), some (.inl s), some (.inl i)], [] => (c1 = (7, 0) ∧ j' = j ∧ 0 ≤ i ∧ i ≤ rSt σ j ∧ s = wF (rDu σ) (4 * j) i ∧ 0 ≤ s ∧ s ≤ 20 * i ∧ σ' = σ) ∧ k = (4 - i).toNat | _, _ => False) else none, 200, ?_, ?_⟩
      · intro pc I L S σ' k hcut hi
        dsimp only at hcut
        split at hcut
        · rename_i hpc
          subst hpc
          cases hcut
          try dsimp only at hi
          split at hi
          · rename_i c1 j' s i
            obtain ⟨hi, rfl⟩ := hi
            obtain ⟨rfl, rfl, h0, h1, h2, h3, h4, rfl⟩ := hi
            obtain ⟨⟨p0, p1, p2⟩, h⟩ := h
            simp only [wp, stp, drp, entL, eL, lget, lset, okst, cnd, swt, rcv, Kr_int, Kr_bool, Kr_void, List.length_cons, List.length_nil, List.replicate, List.append_nil, List.cons_append, List.nil_append, List.take_succ_cons, List.take_zero, List.drop_succ_cons, List.drop_zero, List.reverse_cons, List.reverse_nil, Option.map_some, Option.map_none, Option.toList_some, Option.toList_none, Nat.reduceAdd, Nat.reduceSub, Nat.reduceLT, Nat.reduceLeDiff, Nat.reduceEqDiff, ↓reduceIte, Nat.add_zero, Nat.zero_add, true_and, and_true, Nat.le_refl, reduceCtorEq, false_implies, true_implies, not_true_eq_false, not_false_eq_true, Int.reduceAdd, Int.reduceSub, Int.reduceMul, Int.reduceLE, Int.reduceLT, Int.reduceEq, Int.reduceNe, Int.reduceNeg, Int.reduceDiv, Int.reduceMod, Bool.false_eq_true, Int.le_refl, and_self, true_or, or_true, inR_l, fv0, fv1, fv2, fv3, nc2, nc4, nc6, nc16, nc25, nc60, nc65, nc80, nc130, nc384, nc390, fp_0_0, fp_0_1, fp_0_2, fp_1_0, fp_1_1, fp_1_2, fp_1_3, fp_1_4, fp_1_5, fp_1_6, fp_1_7, fp_1_8, fp_1_9, fp_1_10, fp_1_11, fp_1_12, fp_1_13, fp_1_14, fp_2_0, fp_2_1, fp_2_2, fp_2_3, fp_3_0, fp_3_1, fp_4_0, fp_4_1, fp_4_2, fp_4_3, fp_4_4, fp_4_5, fp_4_6, fp_4_7, fp_5_0, fp_5_1, fp_5_2, fp_5_3, fp_5_4, fp_5_5, fp_5_6, fp_5_7, fp_6_0, fp_6_1, fp_6_2, fp_6_3, fp_6_4, fp_6_5, fp_6_6, fp_6_7, fp_6_8, fp_6_9, fp_6_10, fp_6_11, fp_6_12, fp_6_13, fp_6_14, fp_6_15, fp_7_0, fp_7_1, fp_7_2, fp_7_3, fp_7_4, fp_7_5, fp_7_6, fp_7_7, fp_7_8, fp_7_9, fp_7_10, fp_7_11, fp_7_12, fp_7_13, fp_7_14, fp_7_15, fp_7_16, fp_7_17, fp_7_18, fp_7_19, fp_7_20, fp_7_21, fp_7_22, fp_7_23, fp_7_24, iz_0_1, iz_0_2, iz_1_8, iz_1_9, iz_1_11, iz_2_1, iz_2_2, iz_2_3, iz_3_1, iz_4_1, iz_4_2, iz_5_0, iz_6_8, iz_6_9, iz_6_13, iz_6_14, iz_6_15, iz_7_2, iz_7_6, iz_7_12, iz_7_20, iz_7_21, iz_7_23, iz_7_24, ak_8, ak_9, ak_10, ak_11, ak_12, ak_13, ak_14, ak_15, ak_16, ak_17, ak_18, ak_19, ak_20, ak_21, ak_22, ak_23, ak_24, ak_25, ak_26, ak_27, ak_28, ak_29, ak_30, ak_31, ak_32, ak_33, ak_34, ak_35, ak_36, ak_37, ak_38, ak_39, ak_40, ak_41, ak_42, ak_43, ak_44, ak_45, ak_46, ak_47, ak_48, ak_49, ak_50, ak_51, ak_52, ak_53, ak_54, ak_55, ak_56, el31, el33, el34, CX7_sumOf, ca_X7_sumOf, frX7, kcX7, klX7, T_X7_ofAJob, T_X7_lasts, up_ap, false_and, and_false, if_false, if_true, ite_true, ite_false, exists_eq_right_right, exists_eq_right, exists_eq_left, Nat.lt_irrefl, and_self, implies_true, forall_const]
            have hs := rSt_r p0 p1 p2
            have es : σ' 38 0 (1 + 3 * j' + 2) = rSt σ' j' := rfl
            have ed : ∀ x, σ' 38 0 (14 + 2 * x) = rDu σ' x := fun _ => rfl
            simp only [es, ed]
            refine ⟨⟨p1, p2⟩, fun a => ?_, fun a => ?_⟩
            · rw [h2, show i = rSt σ' j' by omega]
              exact h
            · have v := rOp_i p1 p2 h0 (by omega) hs.2
              have b := rWF_op p0 v
              refine ⟨by simp only [inR]; omega, by simp only [inR]; omega, ⟨by omega, by omega⟩, by simp only [inR]; omega, by simp only [inR]; omega, by omega, by omega, by omega, ?_, by omega, by omega⟩
              rw [h2, wF_s _ _ _ h0 (by omega)]
          · exact hi.elim
        · cases hcut
      · simp only [wp, stp, drp, entL, eL, lget, lset, okst, cnd, swt, rcv, Kr_int, Kr_bool, Kr_void, List.length_cons, List.length_nil, List.replicate, List.append_nil, List.cons_append, List.nil_append, List.take_succ_cons, List.take_zero, List.drop_succ_cons, List.drop_zero, List.reverse_cons, List.reverse_nil, Option.map_some, Option.map_none, Option.toList_some, Option.toList_none, Nat.reduceAdd, Nat.reduceSub, Nat.reduceLT, Nat.reduceLeDiff, Nat.reduceEqDiff, ↓reduceIte, Nat.add_zero, Nat.zero_add, true_and, and_true, Nat.le_refl, reduceCtorEq, false_implies, true_implies, not_true_eq_false, not_false_eq_true, Int.reduceAdd, Int.reduceSub, Int.reduceMul, Int.reduceLE, Int.reduceLT, Int.reduceEq, Int.reduceNe, Int.reduceNeg, Int.reduceDiv, Int.reduceMod, Bool.false_eq_true, Int.le_refl, and_self, true_or, or_true, inR_l, fv0, fv1, fv2, fv3, nc2, nc4, nc6, nc16, nc25, nc60, nc65, nc80, nc130, nc384, nc390, fp_0_0, fp_0_1, fp_0_2, fp_1_0, fp_1_1, fp_1_2, fp_1_3, fp_1_4, fp_1_5, fp_1_6, fp_1_7, fp_1_8, fp_1_9, fp_1_10, fp_1_11, fp_1_12, fp_1_13, fp_1_14, fp_2_0, fp_2_1, fp_2_2, fp_2_3, fp_3_0, fp_3_1, fp_4_0, fp_4_1, fp_4_2, fp_4_3, fp_4_4, fp_4_5, fp_4_6, fp_4_7, fp_5_0, fp_5_1, fp_5_2, fp_5_3, fp_5_4, fp_5_5, fp_5_6, fp_5_7, fp_6_0, fp_6_1, fp_6_2, fp_6_3, fp_6_4, fp_6_5, fp_6_6, fp_6_7, fp_6_8, fp_6_9, fp_6_10, fp_6_11, fp_6_12, fp_6_13, fp_6_14, fp_6_15, fp_7_0, fp_7_1, fp_7_2, fp_7_3, fp_7_4, fp_7_5, fp_7_6, fp_7_7, fp_7_8, fp_7_9, fp_7_10, fp_7_11, fp_7_12, fp_7_13, fp_7_14, fp_7_15, fp_7_16, fp_7_17, fp_7_18, fp_7_19, fp_7_20, fp_7_21, fp_7_22, fp_7_23, fp_7_24, iz_0_1, iz_0_2, iz_1_8, iz_1_9, iz_1_11, iz_2_1, iz_2_2, iz_2_3, iz_3_1, iz_4_1, iz_4_2, iz_5_0, iz_6_8, iz_6_9, iz_6_13, iz_6_14, iz_6_15, iz_7_2, iz_7_6, iz_7_12, iz_7_20, iz_7_21, iz_7_23, iz_7_24, ak_8, ak_9, ak_10, ak_11, ak_12, ak_13, ak_14, ak_15, ak_16, ak_17, ak_18, ak_19, ak_20, ak_21, ak_22, ak_23, ak_24, ak_25, ak_26, ak_27, ak_28, ak_29, ak_30, ak_31, ak_32, ak_33, ak_34, ak_35, ak_36, ak_37, ak_38, ak_39, ak_40, ak_41, ak_42, ak_43, ak_44, ak_45, ak_46, ak_47, ak_48, ak_49, ak_50, ak_51, ak_52, ak_53, ak_54, ak_55, ak_56, el31, el33, el34, CX7_sumOf, ca_X7_sumOf, frX7, kcX7, klX7, T_X7_ofAJob, T_X7_lasts, up_ap, false_and, and_false, if_false, if_true, ite_true, ite_false, exists_eq_right_right, exists_eq_right, exists_eq_left, Nat.lt_irrefl, and_self, implies_true, forall_const]
        obtain ⟨⟨p0, p1, p2⟩, h⟩ := h
        exact ⟨(rSt_r p0 p1 p2).1, (wF_0 _ _).symm⟩
    · exact h.elim
def ca_X7_endOfJob : Nat → Option (Nat × Nat × Tr)
  | 69 => some (3, 7, T_X7_ofAJob)
  | 114 => some (2, 7, T_X7_endOf)
  | _ => none
theorem cao_X7_endOfJob (l : Launch) : ∀ k n' ci T', ca_X7_endOfJob k = some (n', ci, T') → ∃ nn, nn + 1 ≤ 2 ∧ Site l yX7_endOfJob.cls k n' ci nn T' := by
  intro k n' ci T' h
  unfold ca_X7_endOfJob at h
  split at h
  · cases h; exact ⟨0, by decide, _, _, _, _, k_X7_ofAJob l, Or.inl ⟨_, rfl, FX7_ofAJob, KRX7_69⟩⟩
  · cases h; exact ⟨1, by decide, _, _, _, _, k_X7_endOf l, Or.inl ⟨_, rfl, FX7_endOf, KRX7_114⟩⟩
  · cases h
def T_X7_endOfJob : Tr := fun a σ K => match a with
  | [.inr (.inl (7, 0)), .inl j] => (rHb σ ∧ 0 ≤ j ∧ j < σ 38 0 0) ∧ K (some (rej σ j)) σ
  | _ => False
set_option maxHeartbeats 4000000 in
set_option maxRecDepth 20000 in
theorem k_X7_endOfJob (l : Launch) : Ct l yX7_endOfJob cX7_endOfJob 3 (some .int) 2 T_X7_endOfJob := by
  refine mk_met (by decide +kernel) hCX7_endOfJob lCX7_endOfJob frX7_ok cstX7_ok (cao_X7_endOfJob l) ?_ ?_
  · intro a σ K h
    unfold T_X7_endOfJob at h
    split at h
    · simp [eL]
    · exact h.elim
  · intro a σ K ha hR h
    unfold T_X7_endOfJob at h
    split at h
    · rename_i j
      refine ⟨fun _ => none, 200, fun pc I L S σ' k h => (by cases h), ?_⟩
      simp only [wp, stp, drp, entL, eL, lget, lset, okst, cnd, swt, rcv, Kr_int, Kr_bool, Kr_void, List.length_cons, List.length_nil, List.replicate, List.append_nil, List.cons_append, List.nil_append, List.take_succ_cons, List.take_zero, List.drop_succ_cons, List.drop_zero, List.reverse_cons, List.reverse_nil, Option.map_some, Option.map_none, Option.toList_some, Option.toList_none, Nat.reduceAdd, Nat.reduceSub, Nat.reduceLT, Nat.reduceLeDiff, Nat.reduceEqDiff, ↓reduceIte, Nat.add_zero, Nat.zero_add, true_and, and_true, Nat.le_refl, reduceCtorEq, false_implies, true_implies, not_true_eq_false, not_false_eq_true, Int.reduceAdd, Int.reduceSub, Int.reduceMul, Int.reduceLE, Int.reduceLT, Int.reduceEq, Int.reduceNe, Int.reduceNeg, Int.reduceDiv, Int.reduceMod, Bool.false_eq_true, Int.le_refl, and_self, true_or, or_true, inR_l, fv0, fv1, fv2, fv3, nc2, nc4, nc6, nc16, nc25, nc60, nc65, nc80, nc130, nc384, nc390, fp_0_0, fp_0_1, fp_0_2, fp_1_0, fp_1_1, fp_1_2, fp_1_3, fp_1_4, fp_1_5, fp_1_6, fp_1_7, fp_1_8, fp_1_9, fp_1_10, fp_1_11, fp_1_12, fp_1_13, fp_1_14, fp_2_0, fp_2_1, fp_2_2, fp_2_3, fp_3_0, fp_3_1, fp_4_0, fp_4_1, fp_4_2, fp_4_3, fp_4_4, fp_4_5, fp_4_6, fp_4_7, fp_5_0, fp_5_1, fp_5_2, fp_5_3, fp_5_4, fp_5_5, fp_5_6, fp_5_7, fp_6_0, fp_6_1, fp_6_2, fp_6_3, fp_6_4, fp_6_5, fp_6_6, fp_6_7, fp_6_8, fp_6_9, fp_6_10, fp_6_11, fp_6_12, fp_6_13, fp_6_14, fp_6_15, fp_7_0, fp_7_1, fp_7_2, fp_7_3, fp_7_4, fp_7_5, fp_7_6, fp_7_7, fp_7_8, fp_7_9, fp_7_10, fp_7_11, fp_7_12, fp_7_13, fp_7_14, fp_7_15, fp_7_16, fp_7_17, fp_7_18, fp_7_19, fp_7_20, fp_7_21, fp_7_22, fp_7_23, fp_7_24, iz_0_1, iz_0_2, iz_1_8, iz_1_9, iz_1_11, iz_2_1, iz_2_2, iz_2_3, iz_3_1, iz_4_1, iz_4_2, iz_5_0, iz_6_8, iz_6_9, iz_6_13, iz_6_14, iz_6_15, iz_7_2, iz_7_6, iz_7_12, iz_7_20, iz_7_21, iz_7_23, iz_7_24, ak_8, ak_9, ak_10, ak_11, ak_12, ak_13, ak_14, ak_15, ak_16, ak_17, ak_18, ak_19, ak_20, ak_21, ak_22, ak_23, ak_24, ak_25, ak_26, ak_27, ak_28, ak_29, ak_30, ak_31, ak_32, ak_33, ak_34, ak_35, ak_36, ak_37, ak_38, ak_39, ak_40, ak_41, ak_42, ak_43, ak_44, ak_45, ak_46, ak_47, ak_48, ak_49, ak_50, ak_51, ak_52, ak_53, ak_54, ak_55, ak_56, el31, el33, el34, CX7_endOfJob, ca_X7_endOfJob, frX7, kcX7, klX7, T_X7_ofAJob, T_X7_endOf, up_ap, false_and, and_false, if_false, if_true, ite_true, ite_false]
      obtain ⟨⟨p0, p1, p2⟩, h⟩ := h
      have h4 := p0.1.1.1.2
      have hs := rSt_r p0.1 p1 (by omega)
      have es : σ 38 0 (1 + 3 * j + 2) = rSt σ j := rfl
      have ed : ∀ x, σ 38 0 (14 + 2 * x) = rDu σ x := fun _ => rfl
      have er : σ 38 0 (1 + 3 * j + 0) = rRe σ j := by rw [Int.add_zero]; rfl
      simp only [es, ed, er]
      unfold rej at h
      refine ⟨⟨p1, by omega⟩, fun a => ?_, fun a => ⟨⟨p1, by omega⟩, by rw [if_neg (by omega)] at h; exact h⟩⟩
      have v := rOp_i (s := rSt σ j - 1) p1 (by omega) (by omega) (by omega) hs.2
      rw [show 4 * j + (rSt σ j - 1) = 4 * j + rSt σ j - 1 by omega] at v
      have b := rWF_op p0.1 v
      have c := p0.2 _ v
      rw [if_pos (by omega)] at h
      rw [if_neg (by omega)]
      exact ⟨by simp only [inR]; omega, by simp only [inR]; omega, by simp only [inR]; omega, ⟨by omega, fun _ => by simp only [inR]; omega⟩, h⟩
    · exact h.elim
def ca_X7_lateness : Nat → Option (Nat × Nat × Tr)
  | 205 => some (2, 7, T_X7_endOfJob)
  | 69 => some (3, 7, T_X7_ofAJob)
  | 108 => some (2, 99, T_X7_greater)
  | _ => none
theorem cao_X7_lateness (l : Launch) : ∀ k n' ci T', ca_X7_lateness k = some (n', ci, T') → ∃ nn, nn + 1 ≤ 3 ∧ Site l yX7_lateness.cls k n' ci nn T' := by
  intro k n' ci T' h
  unfold ca_X7_lateness at h
  split at h
  · cases h; exact ⟨2, by decide, _, _, _, _, k_X7_endOfJob l, Or.inl ⟨_, rfl, FX7_endOfJob, KRX7_205⟩⟩
  · cases h; exact ⟨0, by decide, _, _, _, _, k_X7_ofAJob l, Or.inl ⟨_, rfl, FX7_ofAJob, KRX7_69⟩⟩
  · cases h; exact ⟨0, by decide, _, _, _, _, k_X7_greater l, Or.inr ⟨rfl, FX7_greater, Or.inl ⟨rfl, KRX7_108⟩⟩⟩
  · cases h
def T_X7_lateness : Tr := fun a σ K => match a with
  | [.inr (.inl (7, 0)), .inl j] => (rHb σ ∧ 0 ≤ j ∧ j < σ 38 0 0) ∧ K (some (rlt σ j)) σ
  | _ => False
set_option maxHeartbeats 4000000 in
set_option maxRecDepth 20000 in
theorem k_X7_lateness (l : Launch) : Ct l yX7_lateness cX7_lateness 2 (some .int) 3 T_X7_lateness := by
  refine mk_met (by decide +kernel) hCX7_lateness lCX7_lateness frX7_ok cstX7_ok (cao_X7_lateness l) ?_ ?_
  · intro a σ K h
    unfold T_X7_lateness at h
    split at h
    · simp [eL]
    · exact h.elim
  · intro a σ K ha hR h
    unfold T_X7_lateness at h
    split at h
    · rename_i j
      refine ⟨fun _ => none, 200, fun pc I L S σ' k h => (by cases h), ?_⟩
      simp only [wp, stp, drp, entL, eL, lget, lset, okst, cnd, swt, rcv, Kr_int, Kr_bool, Kr_void, List.length_cons, List.length_nil, List.replicate, List.append_nil, List.cons_append, List.nil_append, List.take_succ_cons, List.take_zero, List.drop_succ_cons, List.drop_zero, List.reverse_cons, List.reverse_nil, Option.map_some, Option.map_none, Option.toList_some, Option.toList_none, Nat.reduceAdd, Nat.reduceSub, Nat.reduceLT, Nat.reduceLeDiff, Nat.reduceEqDiff, ↓reduceIte, Nat.add_zero, Nat.zero_add, true_and, and_true, Nat.le_refl, reduceCtorEq, false_implies, true_implies, not_true_eq_false, not_false_eq_true, Int.reduceAdd, Int.reduceSub, Int.reduceMul, Int.reduceLE, Int.reduceLT, Int.reduceEq, Int.reduceNe, Int.reduceNeg, Int.reduceDiv, Int.reduceMod, Bool.false_eq_true, Int.le_refl, and_self, true_or, or_true, inR_l, fv0, fv1, fv2, fv3, nc2, nc4, nc6, nc16, nc25, nc60, nc65, nc80, nc130, nc384, nc390, fp_0_0, fp_0_1, fp_0_2, fp_1_0, fp_1_1, fp_1_2, fp_1_3, fp_1_4, fp_1_5, fp_1_6, fp_1_7, fp_1_8, fp_1_9, fp_1_10, fp_1_11, fp_1_12, fp_1_13, fp_1_14, fp_2_0, fp_2_1, fp_2_2, fp_2_3, fp_3_0, fp_3_1, fp_4_0, fp_4_1, fp_4_2, fp_4_3, fp_4_4, fp_4_5, fp_4_6, fp_4_7, fp_5_0, fp_5_1, fp_5_2, fp_5_3, fp_5_4, fp_5_5, fp_5_6, fp_5_7, fp_6_0, fp_6_1, fp_6_2, fp_6_3, fp_6_4, fp_6_5, fp_6_6, fp_6_7, fp_6_8, fp_6_9, fp_6_10, fp_6_11, fp_6_12, fp_6_13, fp_6_14, fp_6_15, fp_7_0, fp_7_1, fp_7_2, fp_7_3, fp_7_4, fp_7_5, fp_7_6, fp_7_7, fp_7_8, fp_7_9, fp_7_10, fp_7_11, fp_7_12, fp_7_13, fp_7_14, fp_7_15, fp_7_16, fp_7_17, fp_7_18, fp_7_19, fp_7_20, fp_7_21, fp_7_22, fp_7_23, fp_7_24, iz_0_1, iz_0_2, iz_1_8, iz_1_9, iz_1_11, iz_2_1, iz_2_2, iz_2_3, iz_3_1, iz_4_1, iz_4_2, iz_5_0, iz_6_8, iz_6_9, iz_6_13, iz_6_14, iz_6_15, iz_7_2, iz_7_6, iz_7_12, iz_7_20, iz_7_21, iz_7_23, iz_7_24, ak_8, ak_9, ak_10, ak_11, ak_12, ak_13, ak_14, ak_15, ak_16, ak_17, ak_18, ak_19, ak_20, ak_21, ak_22, ak_23, ak_24, ak_25, ak_26, ak_27, ak_28, ak_29, ak_30, ak_31, ak_32, ak_33, ak_34, ak_35, ak_36, ak_37, ak_38, ak_39, ak_40, ak_41, ak_42, ak_43, ak_44, ak_45, ak_46, ak_47, ak_48, ak_49, ak_50, ak_51, ak_52, ak_53, ak_54, ak_55, ak_56, el31, el33, el34, CX7_lateness, ca_X7_lateness, frX7, kcX7, klX7, T_X7_endOfJob, T_X7_ofAJob, T_X7_greater, up_ap, false_and, and_false, if_false, if_true, ite_true, ite_false]
      obtain ⟨⟨p0, p1, p2⟩, h⟩ := h
      have h4 := p0.1.1.1.2
      have hr := rej_r p0 p1 p2
      have ed : σ 38 0 (1 + 3 * j + 1) = rDd σ j := rfl
      simp only [ed]
      unfold rlt at h
      refine ⟨⟨p0, p1, p2⟩, ⟨p1, by omega⟩, by simp only [inR]; omega, ?_⟩
      by_cases c : 0 < rej σ j - rDd σ j
      · rw [if_pos c] at h
        rw [if_neg (by omega)]
        exact h
      · rw [if_neg c] at h
        by_cases d : rej σ j - rDd σ j < 0
        · rw [if_pos d]
          exact h
        · rw [if_neg d, show rej σ j - rDd σ j = 0 by omega]
          exact h
    · exact h.elim
theorem wF_r {f : Int → Int} {c : Int} (hf : ∀ x, 0 ≤ x → x < 4 → 0 ≤ f x ∧ f x ≤ c) (i : Nat) : i ≤ 4 → 0 ≤ wF f 0 i ∧ wF f 0 i ≤ c * i := by
  induction i with
  | zero => intro _; rw [show ((0 : Nat) : Int) = 0 from rfl, wF_0]; omega
  | succ i ih =>
    intro h
    have a := ih (by omega)
    rw [show ((i + 1 : Nat) : Int) = (i : Int) + 1 by omega, wF_s _ _ _ (by omega) (by omega), Int.zero_add]
    have b := hf i (by omega) (by omega)
    rw [Int.mul_add, Int.mul_one]
    omega
theorem rWk_r {σ : Mem} (h : rWF σ) {j : Int} (j0 : 0 ≤ j) (j1 : j < 4) : 0 ≤ wF (rDu σ) (4 * j) (rSt σ j) ∧ wF (rDu σ) (4 * j) (rSt σ j) ≤ 80 := by
  have hs := rSt_r h j0 j1
  have key : ∀ i : Nat, (i : Int) ≤ rSt σ j → 0 ≤ wF (rDu σ) (4 * j) i ∧ wF (rDu σ) (4 * j) i ≤ 20 * i := by
    intro i
    induction i with
    | zero => intro _; rw [show ((0 : Nat) : Int) = 0 from rfl, wF_0]; omega
    | succ i ih =>
      intro q
      have a := ih (by omega)
      rw [show ((i + 1 : Nat) : Int) = (i : Int) + 1 by omega, wF_s _ _ _ (by omega) (by omega)]
      have b := rWF_op h (rOp_i j0 j1 (show 0 ≤ (i : Int) by omega) (by omega) hs.2)
      omega
  have := key (rSt σ j).toNat (by omega)
  rw [show (((rSt σ j).toNat : Nat) : Int) = rSt σ j by omega] at this
  omega
def ca_X7_sumOfAll : Nat → Option (Nat × Nat × Tr)
  | 208 => some (2, 7, T_X7_sumOf)
  | 69 => some (3, 7, T_X7_ofAJob)
  | _ => none
theorem cao_X7_sumOfAll (l : Launch) : ∀ k n' ci T', ca_X7_sumOfAll k = some (n', ci, T') → ∃ nn, nn + 1 ≤ 2 ∧ Site l yX7_sumOfAll.cls k n' ci nn T' := by
  intro k n' ci T' h
  unfold ca_X7_sumOfAll at h
  split at h
  · cases h; exact ⟨1, by decide, _, _, _, _, k_X7_sumOf l, Or.inl ⟨_, rfl, FX7_sumOf, KRX7_208⟩⟩
  · cases h; exact ⟨0, by decide, _, _, _, _, k_X7_ofAJob l, Or.inl ⟨_, rfl, FX7_ofAJob, KRX7_69⟩⟩
  · cases h
def T_X7_sumOfAll : Tr := fun a σ K => match a with
  | [.inr (.inl (7, 0)), .inl d] => rWF σ ∧ K (some (wF (fun j => if d = 0 then rSt σ j else wF (rDu σ) (4 * j) (rSt σ j)) 0 (σ 38 0 0))) σ
  | _ => False
set_option maxHeartbeats 8000000 in
set_option maxRecDepth 20000 in
theorem k_X7_sumOfAll (l : Launch) : Ct l yX7_sumOfAll cX7_sumOfAll 4 (some .int) 2 T_X7_sumOfAll := by
  refine mk_met (by decide +kernel) hCX7_sumOfAll lCX7_sumOfAll frX7_ok cstX7_ok (cao_X7_sumOfAll l) ?_ ?_
  · intro a σ K h
    unfold T_X7_sumOfAll at h
    split at h
    · simp [eL]
    · exact h.elim
  · intro a σ K ha hR h
    unfold T_X7_sumOfAll at h
    split at h
    · rename_i d
      refine ⟨fun pc => if pc = 4 then some (fun L S σ' k => match L, S with | [some (.inr (.inl c1)), some (.inl d'), some (.inl s), some (.inl j)], [] => (c1 = (7, 0) ∧ d' = d ∧ 0 ≤ j ∧ j ≤ σ 38 0 0 ∧ s = wF (fun j => if d = 0 then rSt σ j else wF (rDu σ) (4 * j) (rSt σ j)) 0 j ∧ 0 ≤ s ∧ s ≤ 80 * j ∧ σ' = σ) ∧ k = (4 - j).toNat | _, _ => False) else none, 200, ?_, ?_⟩
      · intro pc I L S σ' k hcut hi
        dsimp only at hcut
        split at hcut
        · rename_i hpc
          subst hpc
          cases hcut
          try dsimp only at hi
          split at hi
          · rename_i c1 d' s j
            obtain ⟨hi, rfl⟩ := hi
            obtain ⟨rfl, rfl, h0, h1, h2, h3, h4, rfl⟩ := hi
            obtain ⟨p0, h⟩ := h
            simp only [wp, stp, drp, entL, eL, lget, lset, okst, cnd, swt, rcv, Kr_int, Kr_bool, Kr_void, List.length_cons, List.length_nil, List.replicate, List.append_nil, List.cons_append, List.nil_append, List.take_succ_cons, List.take_zero, List.drop_succ_cons, List.drop_zero, List.reverse_cons, List.reverse_nil, Option.map_some, Option.map_none, Option.toList_some, Option.toList_none, Nat.reduceAdd, Nat.reduceSub, Nat.reduceLT, Nat.reduceLeDiff, Nat.reduceEqDiff, ↓reduceIte, Nat.add_zero, Nat.zero_add, true_and, and_true, Nat.le_refl, reduceCtorEq, false_implies, true_implies, not_true_eq_false, not_false_eq_true, Int.reduceAdd, Int.reduceSub, Int.reduceMul, Int.reduceLE, Int.reduceLT, Int.reduceEq, Int.reduceNe, Int.reduceNeg, Int.reduceDiv, Int.reduceMod, Bool.false_eq_true, Int.le_refl, and_self, true_or, or_true, inR_l, fv0, fv1, fv2, fv3, nc2, nc4, nc6, nc16, nc25, nc60, nc65, nc80, nc130, nc384, nc390, fp_0_0, fp_0_1, fp_0_2, fp_1_0, fp_1_1, fp_1_2, fp_1_3, fp_1_4, fp_1_5, fp_1_6, fp_1_7, fp_1_8, fp_1_9, fp_1_10, fp_1_11, fp_1_12, fp_1_13, fp_1_14, fp_2_0, fp_2_1, fp_2_2, fp_2_3, fp_3_0, fp_3_1, fp_4_0, fp_4_1, fp_4_2, fp_4_3, fp_4_4, fp_4_5, fp_4_6, fp_4_7, fp_5_0, fp_5_1, fp_5_2, fp_5_3, fp_5_4, fp_5_5, fp_5_6, fp_5_7, fp_6_0, fp_6_1, fp_6_2, fp_6_3, fp_6_4, fp_6_5, fp_6_6, fp_6_7, fp_6_8, fp_6_9, fp_6_10, fp_6_11, fp_6_12, fp_6_13, fp_6_14, fp_6_15, fp_7_0, fp_7_1, fp_7_2, fp_7_3, fp_7_4, fp_7_5, fp_7_6, fp_7_7, fp_7_8, fp_7_9, fp_7_10, fp_7_11, fp_7_12, fp_7_13, fp_7_14, fp_7_15, fp_7_16, fp_7_17, fp_7_18, fp_7_19, fp_7_20, fp_7_21, fp_7_22, fp_7_23, fp_7_24, iz_0_1, iz_0_2, iz_1_8, iz_1_9, iz_1_11, iz_2_1, iz_2_2, iz_2_3, iz_3_1, iz_4_1, iz_4_2, iz_5_0, iz_6_8, iz_6_9, iz_6_13, iz_6_14, iz_6_15, iz_7_2, iz_7_6, iz_7_12, iz_7_20, iz_7_21, iz_7_23, iz_7_24, ak_8, ak_9, ak_10, ak_11, ak_12, ak_13, ak_14, ak_15, ak_16, ak_17, ak_18, ak_19, ak_20, ak_21, ak_22, ak_23, ak_24, ak_25, ak_26, ak_27, ak_28, ak_29, ak_30, ak_31, ak_32, ak_33, ak_34, ak_35, ak_36, ak_37, ak_38, ak_39, ak_40, ak_41, ak_42, ak_43, ak_44, ak_45, ak_46, ak_47, ak_48, ak_49, ak_50, ak_51, ak_52, ak_53, ak_54, ak_55, ak_56, el31, el33, el34, CX7_sumOfAll, ca_X7_sumOfAll, frX7, kcX7, klX7, T_X7_sumOf, T_X7_ofAJob, up_ap, false_and, and_false, if_false, if_true, ite_true, ite_false, exists_eq_right_right, exists_eq_right, exists_eq_left, Nat.lt_irrefl, and_self, implies_true, forall_const]
            have hJ := p0.1.1.2
            have es : σ' 38 0 (1 + 3 * j + 2) = rSt σ' j := rfl
            simp only [es]
            refine ⟨fun a => ?_, fun a => ⟨fun b => ?_, fun b => ?_⟩⟩
            · have ej : j = σ' 38 0 0 := by omega
              rw [h2, ej]
              exact h
            · have e : wF (fun j => if d' = 0 then rSt σ' j else wF (rDu σ') (4 * j) (rSt σ' j)) 0 (j + 1) = s + rSt σ' j := by
                rw [wF_s _ _ _ h0 (by omega), ← h2, Int.zero_add]
                simp only [if_pos b]
              have hs := rSt_r p0 h0 (by omega)
              refine ⟨⟨h0, by omega⟩, by simp only [inR]; omega, by simp only [inR]; omega, by omega, by omega, by omega, ?_, by omega, by omega⟩
              rw [e]
            · have e : wF (fun j => if d' = 0 then rSt σ' j else wF (rDu σ') (4 * j) (rSt σ' j)) 0 (j + 1) = s + wF (rDu σ') (4 * j) (rSt σ' j) := by
                rw [wF_s _ _ _ h0 (by omega), ← h2, Int.zero_add]
                simp only [if_neg b]
              have hs := rWk_r p0 h0 (by omega)
              refine ⟨⟨p0, h0, by omega⟩, by simp only [inR]; omega, by simp only [inR]; omega, by omega, by omega, by omega, ?_, by omega, by omega⟩
              rw [e]
          · exact hi.elim
        · cases hcut
      · simp only [wp, stp, drp, entL, eL, lget, lset, okst, cnd, swt, rcv, Kr_int, Kr_bool, Kr_void, List.length_cons, List.length_nil, List.replicate, List.append_nil, List.cons_append, List.nil_append, List.take_succ_cons, List.take_zero, List.drop_succ_cons, List.drop_zero, List.reverse_cons, List.reverse_nil, Option.map_some, Option.map_none, Option.toList_some, Option.toList_none, Nat.reduceAdd, Nat.reduceSub, Nat.reduceLT, Nat.reduceLeDiff, Nat.reduceEqDiff, ↓reduceIte, Nat.add_zero, Nat.zero_add, true_and, and_true, Nat.le_refl, reduceCtorEq, false_implies, true_implies, not_true_eq_false, not_false_eq_true, Int.reduceAdd, Int.reduceSub, Int.reduceMul, Int.reduceLE, Int.reduceLT, Int.reduceEq, Int.reduceNe, Int.reduceNeg, Int.reduceDiv, Int.reduceMod, Bool.false_eq_true, Int.le_refl, and_self, true_or, or_true, inR_l, fv0, fv1, fv2, fv3, nc2, nc4, nc6, nc16, nc25, nc60, nc65, nc80, nc130, nc384, nc390, fp_0_0, fp_0_1, fp_0_2, fp_1_0, fp_1_1, fp_1_2, fp_1_3, fp_1_4, fp_1_5, fp_1_6, fp_1_7, fp_1_8, fp_1_9, fp_1_10, fp_1_11, fp_1_12, fp_1_13, fp_1_14, fp_2_0, fp_2_1, fp_2_2, fp_2_3, fp_3_0, fp_3_1, fp_4_0, fp_4_1, fp_4_2, fp_4_3, fp_4_4, fp_4_5, fp_4_6, fp_4_7, fp_5_0, fp_5_1, fp_5_2, fp_5_3, fp_5_4, fp_5_5, fp_5_6, fp_5_7, fp_6_0, fp_6_1, fp_6_2, fp_6_3, fp_6_4, fp_6_5, fp_6_6, fp_6_7, fp_6_8, fp_6_9, fp_6_10, fp_6_11, fp_6_12, fp_6_13, fp_6_14, fp_6_15, fp_7_0, fp_7_1, fp_7_2, fp_7_3, fp_7_4, fp_7_5, fp_7_6, fp_7_7, fp_7_8, fp_7_9, fp_7_10, fp_7_11, fp_7_12, fp_7_13, fp_7_14, fp_7_15, fp_7_16, fp_7_17, fp_7_18, fp_7_19, fp_7_20, fp_7_21, fp_7_22, fp_7_23, fp_7_24, iz_0_1, iz_0_2, iz_1_8, iz_1_9, iz_1_11, iz_2_1, iz_2_2, iz_2_3, iz_3_1, iz_4_1, iz_4_2, iz_5_0, iz_6_8, iz_6_9, iz_6_13, iz_6_14, iz_6_15, iz_7_2, iz_7_6, iz_7_12, iz_7_20, iz_7_21, iz_7_23, iz_7_24, ak_8, ak_9, ak_10, ak_11, ak_12, ak_13, ak_14, ak_15, ak_16, ak_17, ak_18, ak_19, ak_20, ak_21, ak_22, ak_23, ak_24, ak_25, ak_26, ak_27, ak_28, ak_29, ak_30, ak_31, ak_32, ak_33, ak_34, ak_35, ak_36, ak_37, ak_38, ak_39, ak_40, ak_41, ak_42, ak_43, ak_44, ak_45, ak_46, ak_47, ak_48, ak_49, ak_50, ak_51, ak_52, ak_53, ak_54, ak_55, ak_56, el31, el33, el34, CX7_sumOfAll, ca_X7_sumOfAll, frX7, kcX7, klX7, T_X7_sumOf, T_X7_ofAJob, up_ap, false_and, and_false, if_false, if_true, ite_true, ite_false, exists_eq_right_right, exists_eq_right, exists_eq_left, Nat.lt_irrefl, and_self, implies_true, forall_const]
        obtain ⟨p0, h⟩ := h
        exact ⟨p0.1.1.1, (wF_0 _ _).symm⟩
    · exact h.elim
