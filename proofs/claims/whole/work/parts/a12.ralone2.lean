def ca_X7_headAlone : Nat → Option (Nat × Nat × Tr)
  | 69 => some (3, 7, T_X7_ofAJob)
  | 105 => some (2, 7, T_X7_lasts)
  | _ => none
theorem cao_X7_headAlone (l : Launch) : ∀ k n' ci T', ca_X7_headAlone k = some (n', ci, T') → ∃ nn, nn + 1 ≤ 1 ∧ Site l yX7_headAlone.cls k n' ci nn T' := by
  intro k n' ci T' h
  unfold ca_X7_headAlone at h
  split at h
  · cases h; exact ⟨0, by decide, _, _, _, _, k_X7_ofAJob l, Or.inl ⟨_, rfl, FX7_ofAJob, KRX7_69⟩⟩
  · cases h; exact ⟨0, by decide, _, _, _, _, k_X7_lasts l, Or.inl ⟨_, rfl, FX7_lasts, KRX7_105⟩⟩
  · cases h
def T_X7_headAlone : Tr := fun a σ K => match a with
  | [.inr (.inl (7, 0)), .inl o] => (rWF σ ∧ rOp σ o) ∧ K (some (rhA σ o)) σ
  | _ => False
set_option maxHeartbeats 8000000 in
set_option maxRecDepth 20000 in
theorem k_X7_headAlone (l : Launch) : Ct l yX7_headAlone cX7_headAlone 4 (some .int) 1 T_X7_headAlone := by
  refine mk_met (by decide +kernel) hCX7_headAlone lCX7_headAlone frX7_ok cstX7_ok (cao_X7_headAlone l) ?_ ?_
  · intro a σ K h
    unfold T_X7_headAlone at h
    split at h
    · simp [eL]
    · exact h.elim
  · intro a σ K ha hR h
    unfold T_X7_headAlone at h
    split at h
    · rename_i o
      refine ⟨fun pc => if pc = 15 then some (fun L S σ' k => match L, S with | [some (.inr (.inl c1)), some (.inl o'), some (.inl s), some (.inl k1)], [] => (c1 = (7, 0) ∧ o' = o ∧ 4 * (o / 4) ≤ k1 ∧ k1 ≤ o ∧ s = rRe σ (o / 4) + wF (rDu σ) (4 * (o / 4)) (k1 - 4 * (o / 4)) ∧ 0 ≤ s ∧ s ≤ 50 + 20 * (k1 - 4 * (o / 4)) ∧ σ' = σ) ∧ k = (o - k1).toNat | _, _ => False) else none, 200, ?_, ?_⟩
      · intro pc I L S σ' k hcut hi
        dsimp only at hcut
        split at hcut
        · rename_i hpc
          subst hpc
          cases hcut
          try dsimp only at hi
          split at hi
          · rename_i c1 o' s k1
            obtain ⟨hi, rfl⟩ := hi
            obtain ⟨rfl, rfl, h0, h1, h2, h3, h4, rfl⟩ := hi
            obtain ⟨⟨p0, p1⟩, h⟩ := h
            simp only [wp, stp, drp, entL, eL, lget, lset, okst, cnd, swt, rcv, Kr_int, Kr_bool, Kr_void, List.length_cons, List.length_nil, List.replicate, List.append_nil, List.cons_append, List.nil_append, List.take_succ_cons, List.take_zero, List.drop_succ_cons, List.drop_zero, List.reverse_cons, List.reverse_nil, Option.map_some, Option.map_none, Option.toList_some, Option.toList_none, Nat.reduceAdd, Nat.reduceSub, Nat.reduceLT, Nat.reduceLeDiff, Nat.reduceEqDiff, ↓reduceIte, Nat.add_zero, Nat.zero_add, true_and, and_true, Nat.le_refl, reduceCtorEq, false_implies, true_implies, not_true_eq_false, not_false_eq_true, Int.reduceAdd, Int.reduceSub, Int.reduceMul, Int.reduceLE, Int.reduceLT, Int.reduceEq, Int.reduceNe, Int.reduceNeg, Int.reduceDiv, Int.reduceMod, Bool.false_eq_true, Int.le_refl, and_self, true_or, or_true, inR_l, fv0, fv1, fv2, fv3, nc2, nc4, nc6, nc16, nc25, nc60, nc65, nc80, nc130, nc384, nc390, fp_0_0, fp_0_1, fp_0_2, fp_1_0, fp_1_1, fp_1_2, fp_1_3, fp_1_4, fp_1_5, fp_1_6, fp_1_7, fp_1_8, fp_1_9, fp_1_10, fp_1_11, fp_1_12, fp_1_13, fp_1_14, fp_2_0, fp_2_1, fp_2_2, fp_2_3, fp_3_0, fp_3_1, fp_4_0, fp_4_1, fp_4_2, fp_4_3, fp_4_4, fp_4_5, fp_4_6, fp_4_7, fp_5_0, fp_5_1, fp_5_2, fp_5_3, fp_5_4, fp_5_5, fp_5_6, fp_5_7, fp_6_0, fp_6_1, fp_6_2, fp_6_3, fp_6_4, fp_6_5, fp_6_6, fp_6_7, fp_6_8, fp_6_9, fp_6_10, fp_6_11, fp_6_12, fp_6_13, fp_6_14, fp_6_15, fp_7_0, fp_7_1, fp_7_2, fp_7_3, fp_7_4, fp_7_5, fp_7_6, fp_7_7, fp_7_8, fp_7_9, fp_7_10, fp_7_11, fp_7_12, fp_7_13, fp_7_14, fp_7_15, fp_7_16, fp_7_17, fp_7_18, fp_7_19, fp_7_20, fp_7_21, fp_7_22, fp_7_23, fp_7_24, iz_0_1, iz_0_2, iz_1_8, iz_1_9, iz_1_11, iz_2_1, iz_2_2, iz_2_3, iz_3_1, iz_4_1, iz_4_2, iz_5_0, iz_6_8, iz_6_9, iz_6_13, iz_6_14, iz_6_15, iz_7_2, iz_7_6, iz_7_12, iz_7_20, iz_7_21, iz_7_23, iz_7_24, ak_8, ak_9, ak_10, ak_11, ak_12, ak_13, ak_14, ak_15, ak_16, ak_17, ak_18, ak_19, ak_20, ak_21, ak_22, ak_23, ak_24, ak_25, ak_26, ak_27, ak_28, ak_29, ak_30, ak_31, ak_32, ak_33, ak_34, ak_35, ak_36, ak_37, ak_38, ak_39, ak_40, ak_41, ak_42, ak_43, ak_44, ak_45, ak_46, ak_47, ak_48, ak_49, ak_50, ak_51, ak_52, ak_53, ak_54, ak_55, ak_56, el31, el33, el34, CX7_headAlone, ca_X7_headAlone, frX7, kcX7, klX7, T_X7_ofAJob, T_X7_lasts, up_ap, false_and, and_false, if_false, if_true, ite_true, ite_false, exists_eq_right_right, exists_eq_right, exists_eq_left, Nat.lt_irrefl, and_self, implies_true, forall_const]
            have s0 := rOp_s p0 p1
            have ed : ∀ x, σ' 38 0 (14 + 2 * x) = rDu σ' x := fun _ => rfl
            have er : ∀ x, σ' 38 0 (1 + 3 * x + 0) = rRe σ' x := fun x => by rw [Int.add_zero]; rfl
            have es : ∀ x, σ' 38 0 (1 + 3 * x + 2) = rSt σ' x := fun _ => rfl
            simp only [ed, er, es]
            refine ⟨fun a => ?_, fun a => ?_⟩
            · have e : k1 = o' := by omega
              rw [e, show o' - 4 * (o' / 4) = o' % 4 by omega] at h2
              rw [h2]
              exact h
            · have v := rOp_i (s := k1 - 4 * (o' / 4)) s0.1 s0.2.1 (by omega) (by omega) s0.2.2.2.2.1
              rw [show 4 * (o' / 4) + (k1 - 4 * (o' / 4)) = k1 by omega] at v
              have b := rWF_op p0 v
              refine ⟨⟨by omega, by omega⟩, by simp only [inR]; omega, by simp only [inR]; omega, by omega, by omega, by omega, ?_, by omega, by omega⟩
              rw [show k1 + 1 - 4 * (o' / 4) = k1 - 4 * (o' / 4) + 1 by omega, wF_s _ _ _ (by omega) (by omega), show 4 * (o' / 4) + (k1 - 4 * (o' / 4)) = k1 by omega]
              omega
          · exact hi.elim
        · cases hcut
      · simp only [wp, stp, drp, entL, eL, lget, lset, okst, cnd, swt, rcv, Kr_int, Kr_bool, Kr_void, List.length_cons, List.length_nil, List.replicate, List.append_nil, List.cons_append, List.nil_append, List.take_succ_cons, List.take_zero, List.drop_succ_cons, List.drop_zero, List.reverse_cons, List.reverse_nil, Option.map_some, Option.map_none, Option.toList_some, Option.toList_none, Nat.reduceAdd, Nat.reduceSub, Nat.reduceLT, Nat.reduceLeDiff, Nat.reduceEqDiff, ↓reduceIte, Nat.add_zero, Nat.zero_add, true_and, and_true, Nat.le_refl, reduceCtorEq, false_implies, true_implies, not_true_eq_false, not_false_eq_true, Int.reduceAdd, Int.reduceSub, Int.reduceMul, Int.reduceLE, Int.reduceLT, Int.reduceEq, Int.reduceNe, Int.reduceNeg, Int.reduceDiv, Int.reduceMod, Bool.false_eq_true, Int.le_refl, and_self, true_or, or_true, inR_l, fv0, fv1, fv2, fv3, nc2, nc4, nc6, nc16, nc25, nc60, nc65, nc80, nc130, nc384, nc390, fp_0_0, fp_0_1, fp_0_2, fp_1_0, fp_1_1, fp_1_2, fp_1_3, fp_1_4, fp_1_5, fp_1_6, fp_1_7, fp_1_8, fp_1_9, fp_1_10, fp_1_11, fp_1_12, fp_1_13, fp_1_14, fp_2_0, fp_2_1, fp_2_2, fp_2_3, fp_3_0, fp_3_1, fp_4_0, fp_4_1, fp_4_2, fp_4_3, fp_4_4, fp_4_5, fp_4_6, fp_4_7, fp_5_0, fp_5_1, fp_5_2, fp_5_3, fp_5_4, fp_5_5, fp_5_6, fp_5_7, fp_6_0, fp_6_1, fp_6_2, fp_6_3, fp_6_4, fp_6_5, fp_6_6, fp_6_7, fp_6_8, fp_6_9, fp_6_10, fp_6_11, fp_6_12, fp_6_13, fp_6_14, fp_6_15, fp_7_0, fp_7_1, fp_7_2, fp_7_3, fp_7_4, fp_7_5, fp_7_6, fp_7_7, fp_7_8, fp_7_9, fp_7_10, fp_7_11, fp_7_12, fp_7_13, fp_7_14, fp_7_15, fp_7_16, fp_7_17, fp_7_18, fp_7_19, fp_7_20, fp_7_21, fp_7_22, fp_7_23, fp_7_24, iz_0_1, iz_0_2, iz_1_8, iz_1_9, iz_1_11, iz_2_1, iz_2_2, iz_2_3, iz_3_1, iz_4_1, iz_4_2, iz_5_0, iz_6_8, iz_6_9, iz_6_13, iz_6_14, iz_6_15, iz_7_2, iz_7_6, iz_7_12, iz_7_20, iz_7_21, iz_7_23, iz_7_24, ak_8, ak_9, ak_10, ak_11, ak_12, ak_13, ak_14, ak_15, ak_16, ak_17, ak_18, ak_19, ak_20, ak_21, ak_22, ak_23, ak_24, ak_25, ak_26, ak_27, ak_28, ak_29, ak_30, ak_31, ak_32, ak_33, ak_34, ak_35, ak_36, ak_37, ak_38, ak_39, ak_40, ak_41, ak_42, ak_43, ak_44, ak_45, ak_46, ak_47, ak_48, ak_49, ak_50, ak_51, ak_52, ak_53, ak_54, ak_55, ak_56, el31, el33, el34, CX7_headAlone, ca_X7_headAlone, frX7, kcX7, klX7, T_X7_ofAJob, T_X7_lasts, up_ap, false_and, and_false, if_false, if_true, ite_true, ite_false, exists_eq_right_right, exists_eq_right, exists_eq_left, Nat.lt_irrefl, and_self, implies_true, forall_const]
        obtain ⟨⟨p0, p1⟩, h⟩ := h
        have s0 := rOp_s p0 p1
        have b := rWF_op p0 p1
        have e0 : σ 38 0 (1 + 3 * (o / 4) + 0) = rRe σ (o / 4) := by rw [Int.add_zero]; rfl
        rw [e0, show o - o % 4 - 4 * (o / 4) = 0 by omega, wF_0]
        exact ⟨by omega, ⟨by omega, by omega⟩, by omega, by simp only [inR]; omega, by omega, by omega, by omega, by omega, by omega⟩
    · exact h.elim
def ca_X7_tailAlone : Nat → Option (Nat × Nat × Tr)
  | 69 => some (3, 7, T_X7_ofAJob)
  | 105 => some (2, 7, T_X7_lasts)
  | _ => none
theorem cao_X7_tailAlone (l : Launch) : ∀ k n' ci T', ca_X7_tailAlone k = some (n', ci, T') → ∃ nn, nn + 1 ≤ 1 ∧ Site l yX7_tailAlone.cls k n' ci nn T' := by
  intro k n' ci T' h
  unfold ca_X7_tailAlone at h
  split at h
  · cases h; exact ⟨0, by decide, _, _, _, _, k_X7_ofAJob l, Or.inl ⟨_, rfl, FX7_ofAJob, KRX7_69⟩⟩
  · cases h; exact ⟨0, by decide, _, _, _, _, k_X7_lasts l, Or.inl ⟨_, rfl, FX7_lasts, KRX7_105⟩⟩
  · cases h
def T_X7_tailAlone : Tr := fun a σ K => match a with
  | [.inr (.inl (7, 0)), .inl o] => (rWF σ ∧ rOp σ o) ∧ K (some (rtA σ o)) σ
  | _ => False
set_option maxHeartbeats 8000000 in
set_option maxRecDepth 20000 in
theorem k_X7_tailAlone (l : Launch) : Ct l yX7_tailAlone cX7_tailAlone 4 (some .int) 1 T_X7_tailAlone := by
  refine mk_met (by decide +kernel) hCX7_tailAlone lCX7_tailAlone frX7_ok cstX7_ok (cao_X7_tailAlone l) ?_ ?_
  · intro a σ K h
    unfold T_X7_tailAlone at h
    split at h
    · simp [eL]
    · exact h.elim
  · intro a σ K ha hR h
    unfold T_X7_tailAlone at h
    split at h
    · rename_i o
      refine ⟨fun pc => if pc = 6 then some (fun L S σ' k => match L, S with | [some (.inr (.inl c1)), some (.inl o'), some (.inl s), some (.inl k1)], [] => (c1 = (7, 0) ∧ o' = o ∧ o < k1 ∧ k1 ≤ 4 * (o / 4) + rSt σ (o / 4) ∧ s = wF (rDu σ) (o + 1) (k1 - o - 1) ∧ 0 ≤ s ∧ s ≤ 20 * (k1 - o - 1) ∧ σ' = σ) ∧ k = (100 - k1).toNat | _, _ => False) else none, 200, ?_, ?_⟩
      · intro pc I L S σ' k hcut hi
        dsimp only at hcut
        split at hcut
        · rename_i hpc
          subst hpc
          cases hcut
          try dsimp only at hi
          split at hi
          · rename_i c1 o' s k1
            obtain ⟨hi, rfl⟩ := hi
            obtain ⟨rfl, rfl, h0, h1, h2, h3, h4, rfl⟩ := hi
            obtain ⟨⟨p0, p1⟩, h⟩ := h
            simp only [wp, stp, drp, entL, eL, lget, lset, okst, cnd, swt, rcv, Kr_int, Kr_bool, Kr_void, List.length_cons, List.length_nil, List.replicate, List.append_nil, List.cons_append, List.nil_append, List.take_succ_cons, List.take_zero, List.drop_succ_cons, List.drop_zero, List.reverse_cons, List.reverse_nil, Option.map_some, Option.map_none, Option.toList_some, Option.toList_none, Nat.reduceAdd, Nat.reduceSub, Nat.reduceLT, Nat.reduceLeDiff, Nat.reduceEqDiff, ↓reduceIte, Nat.add_zero, Nat.zero_add, true_and, and_true, Nat.le_refl, reduceCtorEq, false_implies, true_implies, not_true_eq_false, not_false_eq_true, Int.reduceAdd, Int.reduceSub, Int.reduceMul, Int.reduceLE, Int.reduceLT, Int.reduceEq, Int.reduceNe, Int.reduceNeg, Int.reduceDiv, Int.reduceMod, Bool.false_eq_true, Int.le_refl, and_self, true_or, or_true, inR_l, fv0, fv1, fv2, fv3, nc2, nc4, nc6, nc16, nc25, nc60, nc65, nc80, nc130, nc384, nc390, fp_0_0, fp_0_1, fp_0_2, fp_1_0, fp_1_1, fp_1_2, fp_1_3, fp_1_4, fp_1_5, fp_1_6, fp_1_7, fp_1_8, fp_1_9, fp_1_10, fp_1_11, fp_1_12, fp_1_13, fp_1_14, fp_2_0, fp_2_1, fp_2_2, fp_2_3, fp_3_0, fp_3_1, fp_4_0, fp_4_1, fp_4_2, fp_4_3, fp_4_4, fp_4_5, fp_4_6, fp_4_7, fp_5_0, fp_5_1, fp_5_2, fp_5_3, fp_5_4, fp_5_5, fp_5_6, fp_5_7, fp_6_0, fp_6_1, fp_6_2, fp_6_3, fp_6_4, fp_6_5, fp_6_6, fp_6_7, fp_6_8, fp_6_9, fp_6_10, fp_6_11, fp_6_12, fp_6_13, fp_6_14, fp_6_15, fp_7_0, fp_7_1, fp_7_2, fp_7_3, fp_7_4, fp_7_5, fp_7_6, fp_7_7, fp_7_8, fp_7_9, fp_7_10, fp_7_11, fp_7_12, fp_7_13, fp_7_14, fp_7_15, fp_7_16, fp_7_17, fp_7_18, fp_7_19, fp_7_20, fp_7_21, fp_7_22, fp_7_23, fp_7_24, iz_0_1, iz_0_2, iz_1_8, iz_1_9, iz_1_11, iz_2_1, iz_2_2, iz_2_3, iz_3_1, iz_4_1, iz_4_2, iz_5_0, iz_6_8, iz_6_9, iz_6_13, iz_6_14, iz_6_15, iz_7_2, iz_7_6, iz_7_12, iz_7_20, iz_7_21, iz_7_23, iz_7_24, ak_8, ak_9, ak_10, ak_11, ak_12, ak_13, ak_14, ak_15, ak_16, ak_17, ak_18, ak_19, ak_20, ak_21, ak_22, ak_23, ak_24, ak_25, ak_26, ak_27, ak_28, ak_29, ak_30, ak_31, ak_32, ak_33, ak_34, ak_35, ak_36, ak_37, ak_38, ak_39, ak_40, ak_41, ak_42, ak_43, ak_44, ak_45, ak_46, ak_47, ak_48, ak_49, ak_50, ak_51, ak_52, ak_53, ak_54, ak_55, ak_56, el31, el33, el34, CX7_tailAlone, ca_X7_tailAlone, frX7, kcX7, klX7, T_X7_ofAJob, T_X7_lasts, up_ap, false_and, and_false, if_false, if_true, ite_true, ite_false, exists_eq_right_right, exists_eq_right, exists_eq_left, Nat.lt_irrefl, and_self, implies_true, forall_const]
            have s0 := rOp_s p0 p1
            have ed : ∀ x, σ' 38 0 (14 + 2 * x) = rDu σ' x := fun _ => rfl
            have er : ∀ x, σ' 38 0 (1 + 3 * x + 0) = rRe σ' x := fun x => by rw [Int.add_zero]; rfl
            have es : ∀ x, σ' 38 0 (1 + 3 * x + 2) = rSt σ' x := fun _ => rfl
            simp only [ed, er, es]
            refine ⟨by omega, by simp only [inR]; omega, by omega, ⟨by omega, by omega⟩, by simp only [inR]; omega, fun a => ?_, fun a => ?_⟩
            · unfold rtA at h
              rw [h2, show k1 - o' - 1 = rSt σ' (o' / 4) - o' % 4 - 1 by omega]
              exact h
            · have v := rOp_i (s := k1 - 4 * (o' / 4)) s0.1 s0.2.1 (by omega) (by omega) s0.2.2.2.2.1
              rw [show 4 * (o' / 4) + (k1 - 4 * (o' / 4)) = k1 by omega] at v
              have b := rWF_op p0 v
              refine ⟨⟨by omega, by omega⟩, by simp only [inR]; omega, by simp only [inR]; omega, by omega, by omega, by omega, ?_, by omega, by omega⟩
              rw [show k1 + 1 - o' - 1 = k1 - o' - 1 + 1 by omega, wF_s _ _ _ (by omega) (by omega), show o' + 1 + (k1 - o' - 1) = k1 by omega, h2]
          · exact hi.elim
        · cases hcut
      · simp only [wp, stp, drp, entL, eL, lget, lset, okst, cnd, swt, rcv, Kr_int, Kr_bool, Kr_void, List.length_cons, List.length_nil, List.replicate, List.append_nil, List.cons_append, List.nil_append, List.take_succ_cons, List.take_zero, List.drop_succ_cons, List.drop_zero, List.reverse_cons, List.reverse_nil, Option.map_some, Option.map_none, Option.toList_some, Option.toList_none, Nat.reduceAdd, Nat.reduceSub, Nat.reduceLT, Nat.reduceLeDiff, Nat.reduceEqDiff, ↓reduceIte, Nat.add_zero, Nat.zero_add, true_and, and_true, Nat.le_refl, reduceCtorEq, false_implies, true_implies, not_true_eq_false, not_false_eq_true, Int.reduceAdd, Int.reduceSub, Int.reduceMul, Int.reduceLE, Int.reduceLT, Int.reduceEq, Int.reduceNe, Int.reduceNeg, Int.reduceDiv, Int.reduceMod, Bool.false_eq_true, Int.le_refl, and_self, true_or, or_true, inR_l, fv0, fv1, fv2, fv3, nc2, nc4, nc6, nc16, nc25, nc60, nc65, nc80, nc130, nc384, nc390, fp_0_0, fp_0_1, fp_0_2, fp_1_0, fp_1_1, fp_1_2, fp_1_3, fp_1_4, fp_1_5, fp_1_6, fp_1_7, fp_1_8, fp_1_9, fp_1_10, fp_1_11, fp_1_12, fp_1_13, fp_1_14, fp_2_0, fp_2_1, fp_2_2, fp_2_3, fp_3_0, fp_3_1, fp_4_0, fp_4_1, fp_4_2, fp_4_3, fp_4_4, fp_4_5, fp_4_6, fp_4_7, fp_5_0, fp_5_1, fp_5_2, fp_5_3, fp_5_4, fp_5_5, fp_5_6, fp_5_7, fp_6_0, fp_6_1, fp_6_2, fp_6_3, fp_6_4, fp_6_5, fp_6_6, fp_6_7, fp_6_8, fp_6_9, fp_6_10, fp_6_11, fp_6_12, fp_6_13, fp_6_14, fp_6_15, fp_7_0, fp_7_1, fp_7_2, fp_7_3, fp_7_4, fp_7_5, fp_7_6, fp_7_7, fp_7_8, fp_7_9, fp_7_10, fp_7_11, fp_7_12, fp_7_13, fp_7_14, fp_7_15, fp_7_16, fp_7_17, fp_7_18, fp_7_19, fp_7_20, fp_7_21, fp_7_22, fp_7_23, fp_7_24, iz_0_1, iz_0_2, iz_1_8, iz_1_9, iz_1_11, iz_2_1, iz_2_2, iz_2_3, iz_3_1, iz_4_1, iz_4_2, iz_5_0, iz_6_8, iz_6_9, iz_6_13, iz_6_14, iz_6_15, iz_7_2, iz_7_6, iz_7_12, iz_7_20, iz_7_21, iz_7_23, iz_7_24, ak_8, ak_9, ak_10, ak_11, ak_12, ak_13, ak_14, ak_15, ak_16, ak_17, ak_18, ak_19, ak_20, ak_21, ak_22, ak_23, ak_24, ak_25, ak_26, ak_27, ak_28, ak_29, ak_30, ak_31, ak_32, ak_33, ak_34, ak_35, ak_36, ak_37, ak_38, ak_39, ak_40, ak_41, ak_42, ak_43, ak_44, ak_45, ak_46, ak_47, ak_48, ak_49, ak_50, ak_51, ak_52, ak_53, ak_54, ak_55, ak_56, el31, el33, el34, CX7_tailAlone, ca_X7_tailAlone, frX7, kcX7, klX7, T_X7_ofAJob, T_X7_lasts, up_ap, false_and, and_false, if_false, if_true, ite_true, ite_false, exists_eq_right_right, exists_eq_right, exists_eq_left, Nat.lt_irrefl, and_self, implies_true, forall_const]
        obtain ⟨⟨p0, p1⟩, h⟩ := h
        have s0 := rOp_s p0 p1
        rw [show o + 1 - o - 1 = 0 by omega, wF_0]
        exact ⟨by simp only [inR]; omega, by omega, by omega, rfl, by omega⟩
    · exact h.elim
theorem k_X7_isOperation2 (l : Launch) : Ct l yX7_isOperation cX7_isOperation 2 (some .boolean) 1 T_X7_isOperation2 := Ct_mono (k_X7_isOperation l) m_X7_isOperation2
def ca_X7_workedOn : Nat → Option (Nat × Nat × Tr)
  | 102 => some (2, 7, T_X7_isOperation2)
  | 73 => some (2, 7, T_X7_machineOf)
  | 227 => some (2, 7, T_X7_headAlone)
  | 230 => some (2, 7, T_X7_tailAlone)
  | _ => none
theorem cao_X7_workedOn (l : Launch) : ∀ k n' ci T', ca_X7_workedOn k = some (n', ci, T') → ∃ nn, nn + 1 ≤ 2 ∧ Site l yX7_workedOn.cls k n' ci nn T' := by
  intro k n' ci T' h
  unfold ca_X7_workedOn at h
  split at h
  · cases h; exact ⟨1, by decide, _, _, _, _, k_X7_isOperation2 l, Or.inl ⟨_, rfl, FX7_isOperation, KRX7_102⟩⟩
  · cases h; exact ⟨0, by decide, _, _, _, _, k_X7_machineOf l, Or.inl ⟨_, rfl, FX7_machineOf, KRX7_73⟩⟩
  · cases h; exact ⟨1, by decide, _, _, _, _, k_X7_headAlone l, Or.inl ⟨_, rfl, FX7_headAlone, KRX7_227⟩⟩
  · cases h; exact ⟨1, by decide, _, _, _, _, k_X7_tailAlone l, Or.inl ⟨_, rfl, FX7_tailAlone, KRX7_230⟩⟩
  · cases h
def T_X7_workedOn : Tr := fun a σ K => match a with
  | [.inr (.inl (7, 0)), .inl m, .inl t] => rWF σ ∧ ∀ r, WkI σ m t 16 r → K (some r) σ
  | _ => False
set_option maxHeartbeats 8000000 in
set_option maxRecDepth 20000 in
theorem k_X7_workedOn (l : Launch) : Ct l yX7_workedOn cX7_workedOn 5 (some .int) 2 T_X7_workedOn := by
  refine mk_met (by decide +kernel) hCX7_workedOn lCX7_workedOn frX7_ok cstX7_ok (cao_X7_workedOn l) ?_ ?_
  · intro a σ K h
    unfold T_X7_workedOn at h
    split at h
    · simp [eL]
    · exact h.elim
  · intro a σ K ha hR h
    unfold T_X7_workedOn at h
    split at h
    · rename_i m t
      refine ⟨fun pc => if pc = 6 then some (fun L S σ' k => match L, S with | [some (.inr (.inl c1)), some (.inl m'), some (.inl t'), some (.inl r), some (.inl x)], [] => (c1 = (7, 0) ∧ m' = m ∧ t' = t ∧ 0 ≤ x ∧ x ≤ 16 ∧ WkI σ m t x r ∧ σ' = σ) ∧ k = (16 - x).toNat | _, _ => False) else none, 200, ?_, ?_⟩
      · intro pc I L S σ' k hcut hi
        dsimp only at hcut
        split at hcut
        · rename_i hpc
          subst hpc
          cases hcut
          try dsimp only at hi
          split at hi
          · rename_i c1 m' t' r x
            obtain ⟨hi, rfl⟩ := hi
            obtain ⟨rfl, rfl, rfl, h0, h1, hI, rfl⟩ := hi
            obtain ⟨p0, h⟩ := h
            simp only [wp, stp, drp, entL, eL, lget, lset, okst, cnd, swt, rcv, Kr_int, Kr_bool, Kr_void, List.length_cons, List.length_nil, List.replicate, List.append_nil, List.cons_append, List.nil_append, List.take_succ_cons, List.take_zero, List.drop_succ_cons, List.drop_zero, List.reverse_cons, List.reverse_nil, Option.map_some, Option.map_none, Option.toList_some, Option.toList_none, Nat.reduceAdd, Nat.reduceSub, Nat.reduceLT, Nat.reduceLeDiff, Nat.reduceEqDiff, ↓reduceIte, Nat.add_zero, Nat.zero_add, true_and, and_true, Nat.le_refl, reduceCtorEq, false_implies, true_implies, not_true_eq_false, not_false_eq_true, Int.reduceAdd, Int.reduceSub, Int.reduceMul, Int.reduceLE, Int.reduceLT, Int.reduceEq, Int.reduceNe, Int.reduceNeg, Int.reduceDiv, Int.reduceMod, Bool.false_eq_true, Int.le_refl, and_self, true_or, or_true, inR_l, fv0, fv1, fv2, fv3, nc2, nc4, nc6, nc16, nc25, nc60, nc65, nc80, nc130, nc384, nc390, fp_0_0, fp_0_1, fp_0_2, fp_1_0, fp_1_1, fp_1_2, fp_1_3, fp_1_4, fp_1_5, fp_1_6, fp_1_7, fp_1_8, fp_1_9, fp_1_10, fp_1_11, fp_1_12, fp_1_13, fp_1_14, fp_2_0, fp_2_1, fp_2_2, fp_2_3, fp_3_0, fp_3_1, fp_4_0, fp_4_1, fp_4_2, fp_4_3, fp_4_4, fp_4_5, fp_4_6, fp_4_7, fp_5_0, fp_5_1, fp_5_2, fp_5_3, fp_5_4, fp_5_5, fp_5_6, fp_5_7, fp_6_0, fp_6_1, fp_6_2, fp_6_3, fp_6_4, fp_6_5, fp_6_6, fp_6_7, fp_6_8, fp_6_9, fp_6_10, fp_6_11, fp_6_12, fp_6_13, fp_6_14, fp_6_15, fp_7_0, fp_7_1, fp_7_2, fp_7_3, fp_7_4, fp_7_5, fp_7_6, fp_7_7, fp_7_8, fp_7_9, fp_7_10, fp_7_11, fp_7_12, fp_7_13, fp_7_14, fp_7_15, fp_7_16, fp_7_17, fp_7_18, fp_7_19, fp_7_20, fp_7_21, fp_7_22, fp_7_23, fp_7_24, iz_0_1, iz_0_2, iz_1_8, iz_1_9, iz_1_11, iz_2_1, iz_2_2, iz_2_3, iz_3_1, iz_4_1, iz_4_2, iz_5_0, iz_6_8, iz_6_9, iz_6_13, iz_6_14, iz_6_15, iz_7_2, iz_7_6, iz_7_12, iz_7_20, iz_7_21, iz_7_23, iz_7_24, ak_8, ak_9, ak_10, ak_11, ak_12, ak_13, ak_14, ak_15, ak_16, ak_17, ak_18, ak_19, ak_20, ak_21, ak_22, ak_23, ak_24, ak_25, ak_26, ak_27, ak_28, ak_29, ak_30, ak_31, ak_32, ak_33, ak_34, ak_35, ak_36, ak_37, ak_38, ak_39, ak_40, ak_41, ak_42, ak_43, ak_44, ak_45, ak_46, ak_47, ak_48, ak_49, ak_50, ak_51, ak_52, ak_53, ak_54, ak_55, ak_56, el31, el33, el34, CX7_workedOn, ca_X7_workedOn, frX7, kcX7, klX7, T_X7_isOperation2, T_X7_machineOf, T_X7_headAlone, T_X7_tailAlone, up_ap, false_and, and_false, if_false, if_true, ite_true, ite_false, exists_eq_right_right, exists_eq_right, exists_eq_left, Nat.lt_irrefl, and_self, implies_true, forall_const]
            have em : σ' 38 0 (13 + 2 * x) = rMc σ' x := rfl
            rw [em]
            have N : ∀ r', WkI σ' m' t' (x + 1) r' → ¬ 16 ≤ x → inR (x + 1) ∧ (16 - (x + 1)).toNat < (16 - x).toNat ∧ 0 ≤ x + 1 ∧ x + 1 ≤ 16 ∧ WkI σ' m' t' (x + 1) r' := fun r' hr a => ⟨by simp only [inR]; omega, by omega, by omega, by omega, hr⟩
            refine ⟨fun a => h _ (by have e : x = 16 := by omega
                                     rw [e] at hI; exact hI), fun a => ⟨p0, fun v => ⟨⟨h0, by omega⟩, fun b => N _ (WkI_n hI (fun z => b z.2.1)) a, fun b => ⟨⟨h0, by omega⟩, fun c => N _ (WkI_n hI (fun z => by have := z.2.2.1; omega)) a, fun c => ⟨⟨p0, v⟩, fun d => N _ (WkI_n hI (fun z => by have := z.2.2.2; omega)) a, fun d => ?_⟩⟩⟩, fun v => N _ (WkI_n hI (fun z => v z.1)) a⟩⟩
            have hv : rav σ' m' t' x := ⟨v, Classical.not_not.mp b, by omega, by omega⟩
            refine ⟨fun e => N _ (WkI_y hI hv h0 (Or.inl e)) a, fun e => ⟨⟨p0, v⟩, ⟨p0, ?_⟩, fun f => N _ (WkI_k hI e (by omega)) a, fun f => N _ (WkI_y hI hv h0 (Or.inr (by omega))) a⟩⟩
            rcases WkI_r hI with z | z
            · omega
            · exact z.2
          · exact hi.elim
        · cases hcut
      · simp only [wp, stp, drp, entL, eL, lget, lset, okst, cnd, swt, rcv, Kr_int, Kr_bool, Kr_void, List.length_cons, List.length_nil, List.replicate, List.append_nil, List.cons_append, List.nil_append, List.take_succ_cons, List.take_zero, List.drop_succ_cons, List.drop_zero, List.reverse_cons, List.reverse_nil, Option.map_some, Option.map_none, Option.toList_some, Option.toList_none, Nat.reduceAdd, Nat.reduceSub, Nat.reduceLT, Nat.reduceLeDiff, Nat.reduceEqDiff, ↓reduceIte, Nat.add_zero, Nat.zero_add, true_and, and_true, Nat.le_refl, reduceCtorEq, false_implies, true_implies, not_true_eq_false, not_false_eq_true, Int.reduceAdd, Int.reduceSub, Int.reduceMul, Int.reduceLE, Int.reduceLT, Int.reduceEq, Int.reduceNe, Int.reduceNeg, Int.reduceDiv, Int.reduceMod, Bool.false_eq_true, Int.le_refl, and_self, true_or, or_true, inR_l, fv0, fv1, fv2, fv3, nc2, nc4, nc6, nc16, nc25, nc60, nc65, nc80, nc130, nc384, nc390, fp_0_0, fp_0_1, fp_0_2, fp_1_0, fp_1_1, fp_1_2, fp_1_3, fp_1_4, fp_1_5, fp_1_6, fp_1_7, fp_1_8, fp_1_9, fp_1_10, fp_1_11, fp_1_12, fp_1_13, fp_1_14, fp_2_0, fp_2_1, fp_2_2, fp_2_3, fp_3_0, fp_3_1, fp_4_0, fp_4_1, fp_4_2, fp_4_3, fp_4_4, fp_4_5, fp_4_6, fp_4_7, fp_5_0, fp_5_1, fp_5_2, fp_5_3, fp_5_4, fp_5_5, fp_5_6, fp_5_7, fp_6_0, fp_6_1, fp_6_2, fp_6_3, fp_6_4, fp_6_5, fp_6_6, fp_6_7, fp_6_8, fp_6_9, fp_6_10, fp_6_11, fp_6_12, fp_6_13, fp_6_14, fp_6_15, fp_7_0, fp_7_1, fp_7_2, fp_7_3, fp_7_4, fp_7_5, fp_7_6, fp_7_7, fp_7_8, fp_7_9, fp_7_10, fp_7_11, fp_7_12, fp_7_13, fp_7_14, fp_7_15, fp_7_16, fp_7_17, fp_7_18, fp_7_19, fp_7_20, fp_7_21, fp_7_22, fp_7_23, fp_7_24, iz_0_1, iz_0_2, iz_1_8, iz_1_9, iz_1_11, iz_2_1, iz_2_2, iz_2_3, iz_3_1, iz_4_1, iz_4_2, iz_5_0, iz_6_8, iz_6_9, iz_6_13, iz_6_14, iz_6_15, iz_7_2, iz_7_6, iz_7_12, iz_7_20, iz_7_21, iz_7_23, iz_7_24, ak_8, ak_9, ak_10, ak_11, ak_12, ak_13, ak_14, ak_15, ak_16, ak_17, ak_18, ak_19, ak_20, ak_21, ak_22, ak_23, ak_24, ak_25, ak_26, ak_27, ak_28, ak_29, ak_30, ak_31, ak_32, ak_33, ak_34, ak_35, ak_36, ak_37, ak_38, ak_39, ak_40, ak_41, ak_42, ak_43, ak_44, ak_45, ak_46, ak_47, ak_48, ak_49, ak_50, ak_51, ak_52, ak_53, ak_54, ak_55, ak_56, el31, el33, el34, CX7_workedOn, ca_X7_workedOn, frX7, kcX7, klX7, T_X7_isOperation2, T_X7_machineOf, T_X7_headAlone, T_X7_tailAlone, up_ap, false_and, and_false, if_false, if_true, ite_true, ite_false, exists_eq_right_right, exists_eq_right, exists_eq_left, Nat.lt_irrefl, and_self, implies_true, forall_const]
        exact WkI_0
    · exact h.elim
