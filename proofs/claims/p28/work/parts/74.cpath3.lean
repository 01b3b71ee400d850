def ca_X3_trace : Nat → Option (Nat × Nat × Tr)
  | 19 => some (3, 3, T_X3_first)
  | 23 => some (4, 3, T_X3_next)
  | _ => none
theorem cao_X3_trace (l : Launch) : ∀ k n' ci T', ca_X3_trace k = some (n', ci, T') → ∃ nn, nn + 1 ≤ 4 ∧ Site l yX3_trace.cls k n' ci nn T' := by
  intro k n' ci T' h
  unfold ca_X3_trace at h
  split at h
  · cases h; exact ⟨2, by decide, _, _, _, _, k_X3_first l, Or.inl ⟨_, rfl, FX3_first, KRX3_19⟩⟩
  · cases h; exact ⟨3, by decide, _, _, _, _, k_X3_next l, Or.inl ⟨_, rfl, FX3_next, KRX3_23⟩⟩
  · cases h
def T_X3_trace : Tr := fun a σ K => match a with
  | [.inr (.inl (3, 0)), .inr (.inl (1, n)), .inr (.inl (5, i))] => cOK σ i n ∧ ∀ σ', TRi σ σ' i n (-6) → K none σ'
  | _ => False
set_option maxHeartbeats 8000000 in
set_option maxRecDepth 20000 in
theorem k_X3_trace (l : Launch) : Ct l yX3_trace cX3_trace 4 none 4 T_X3_trace := by
  refine mk_met (by decide +kernel) hCX3_trace lCX3_trace frX3_ok cstX3_ok (cao_X3_trace l) ?_ ?_
  · intro a σ K h
    unfold T_X3_trace at h
    split at h
    · simp [eL]
    · exact h.elim
  · intro a σ K ha hR h
    unfold T_X3_trace at h
    split at h
    · rename_i n i
      refine ⟨fun pc => if pc = 12 then some (fun L S σ' k => match L, S with | [some (.inr (.inl c1)), some (.inr (.inl c2)), some (.inr (.inl c3)), some (.inl c)], [] => (c1 = (3, 0) ∧ c2 = (1, n) ∧ c3 = (5, i) ∧ TRi σ σ' i n c) ∧ k = (40 - σ' 3 0 1).toNat | _, _ => False) else none, 200, ?_, ?_⟩
      · intro pc I L S σ' k hcut hi
        dsimp only at hcut
        split at hcut
        · rename_i hpc
          subst hpc
          cases hcut
          try dsimp only at hi
          split at hi
          · rename_i c1 c2 c3 c
            obtain ⟨hi, rfl⟩ := hi
            obtain ⟨rfl, rfl, rfl, hI⟩ := hi
            obtain ⟨p1, h⟩ := h
            simp only [wp, stp, drp, entL, eL, lget, lset, okst, cnd, swt, rcv, Kr_int, Kr_bool, Kr_void, List.length_cons, List.length_nil, List.replicate, List.append_nil, List.cons_append, List.nil_append, List.take_succ_cons, List.take_zero, List.drop_succ_cons, List.drop_zero, List.reverse_cons, List.reverse_nil, Option.map_some, Option.map_none, Option.toList_some, Option.toList_none, Nat.reduceAdd, Nat.reduceSub, Nat.reduceLT, Nat.reduceLeDiff, Nat.reduceEqDiff, ↓reduceIte, Nat.add_zero, Nat.zero_add, true_and, and_true, Nat.le_refl, reduceCtorEq, false_implies, true_implies, not_true_eq_false, not_false_eq_true, Int.reduceAdd, Int.reduceSub, Int.reduceMul, Int.reduceLE, Int.reduceLT, Int.reduceEq, Int.reduceNe, Int.reduceNeg, Int.reduceDiv, Int.reduceMod, Bool.false_eq_true, Int.le_refl, and_self, true_or, or_true, inR_l, fv0, fv1, fv2, fv3, nc2, nc4, nc6, nc16, nc25, nc60, nc65, nc80, nc130, nc384, nc390, fp_0_0, fp_0_1, fp_0_2, fp_1_0, fp_1_1, fp_1_2, fp_1_3, fp_1_4, fp_1_5, fp_1_6, fp_1_7, fp_1_8, fp_1_9, fp_1_10, fp_1_11, fp_1_12, fp_1_13, fp_1_14, fp_2_0, fp_2_1, fp_2_2, fp_2_3, fp_3_0, fp_3_1, fp_4_0, fp_4_1, fp_4_2, fp_4_3, fp_4_4, fp_4_5, fp_4_6, fp_4_7, fp_5_0, fp_5_1, fp_5_2, fp_5_3, fp_5_4, fp_5_5, fp_5_6, fp_5_7, fp_6_0, fp_6_1, fp_6_2, fp_6_3, fp_6_4, fp_6_5, fp_6_6, fp_6_7, fp_6_8, fp_6_9, fp_6_10, fp_6_11, fp_6_12, fp_6_13, fp_6_14, fp_6_15, fp_7_0, fp_7_1, fp_7_2, fp_7_3, fp_7_4, fp_7_5, fp_7_6, fp_7_7, fp_7_8, fp_7_9, fp_7_10, fp_7_11, fp_7_12, fp_7_13, fp_7_14, fp_7_15, fp_7_16, fp_7_17, fp_7_18, fp_7_19, fp_7_20, fp_7_21, fp_7_22, fp_7_23, fp_7_24, iz_0_1, iz_0_2, iz_1_8, iz_1_9, iz_1_11, iz_2_1, iz_2_2, iz_2_3, iz_3_1, iz_4_1, iz_4_2, iz_5_0, iz_6_8, iz_6_9, iz_6_13, iz_6_14, iz_6_15, iz_7_2, iz_7_6, iz_7_12, iz_7_20, iz_7_21, iz_7_23, iz_7_24, ak_8, ak_9, ak_10, ak_11, ak_12, ak_13, ak_14, ak_15, ak_16, ak_17, ak_18, ak_19, ak_20, ak_21, ak_22, ak_23, ak_24, ak_25, ak_26, ak_27, ak_28, ak_29, ak_30, ak_31, ak_32, ak_33, ak_34, ak_35, ak_36, ak_37, ak_38, ak_39, ak_40, ak_41, ak_42, ak_43, ak_44, ak_45, ak_46, ak_47, ak_48, ak_49, ak_50, ak_51, ak_52, ak_53, ak_54, ak_55, ak_56, el31, el33, el34, CX3_trace, ca_X3_trace, frX3, kcX3, klX3, T_X3_first, T_X3_next, exists_eq_right_right, exists_eq_right, exists_eq_left, Nat.lt_irrefl, and_self, implies_true, forall_const]
            have e1 : (up σ' 37 0 (σ' 3 0 1) c) 3 0 1 = σ' 3 0 1 := by rw [up_ap, if_neg (by rintro ⟨q, -⟩; omega)]
            simp only [e1]
            have hn := hI.2.1
            have hv := PTi_v p1.1 hI.2
            have hstep := fun c0 c' hc => TRi_s (c' := c') hI c0 hc
            have hc6 : c = -6 ∨ 0 ≤ c := by
              have hi := hI.2
              by_cases z : σ' 3 0 1 = 0
              · rcases hi.2.1 z with ⟨q, -⟩ | ⟨q, -⟩
                · exact Or.inl q
                · exact Or.inr q.1
              · rcases hi.2.2.2.2 (by omega) with ⟨q1, q2⟩ | ⟨-, q1, q2⟩ | ⟨-, -, q⟩
                · right
                  have := (hv.1 (σ' 3 0 1 - 1) (by omega) (by omega)).1
                  omega
                · have := q1.1
                  omega
                · exact Or.inl q
            have hF2 : FrG pPa σ (up (up σ' 37 0 (σ' 3 0 1) c) 3 0 1 (σ' 3 0 1 + 1)) := (hI.1.u (Or.inl ⟨rfl, rfl⟩)).u (Or.inr ⟨rfl, rfl, rfl⟩)
            have e7 : (up (up σ' 37 0 (σ' 3 0 1) c) 3 0 1 (σ' 3 0 1 + 1)) 3 0 1 = σ' 3 0 1 + 1 := by rw [up_ap, if_pos ⟨rfl, rfl, rfl⟩]
            generalize up (up σ' 37 0 (σ' 3 0 1) c) 3 0 1 (σ' 3 0 1 + 1) = σ2 at hF2 e7 hstep ⊢
            have f := pPa_f hF2
            have q1 : cOK σ2 i n := by
              unfold cOK
              rw [f 5 i (by omega), f 10 i (by omega), f 11 i (by omega), f 17 n (by omega), f 13 i (by omega), f 14 i (by omega), f 21 n (by omega), f 22 n (by omega), f 1 n (by omega)]
              exact p1
            have q2 : cN σ2 i n = cN σ i n := by
              funext x r
              unfold cN
              rw [f 10 i (by omega), f 11 i (by omega), f 17 n (by omega), f 13 i (by omega), f 14 i (by omega), f 21 n (by omega), f 22 n (by omega), f 1 n (by omega)]
            have q3 := f 10 i (by omega)
            by_cases hc0 : 0 ≤ c
            · obtain ⟨vc, n15⟩ := hv.2.1 hc0
              refine ⟨fun a => absurd a (by omega), fun _ => ⟨fun a => absurd a (by omega), fun _ => ⟨⟨by omega, by omega⟩, ⟨by omega, by omega⟩, ⟨q1, by rw [q3]; exact vc⟩, fun r hr => ⟨by omega, hstep hc0 r (by rw [q2] at hr; exact hr)⟩⟩⟩⟩
            · have e6 : c = -6 := by omega
              subst e6
              exact ⟨fun _ => h σ' hI, fun a => absurd rfl a⟩
          · exact hi.elim
        · cases hcut
      · simp only [wp, stp, drp, entL, eL, lget, lset, okst, cnd, swt, rcv, Kr_int, Kr_bool, Kr_void, List.length_cons, List.length_nil, List.replicate, List.append_nil, List.cons_append, List.nil_append, List.take_succ_cons, List.take_zero, List.drop_succ_cons, List.drop_zero, List.reverse_cons, List.reverse_nil, Option.map_some, Option.map_none, Option.toList_some, Option.toList_none, Nat.reduceAdd, Nat.reduceSub, Nat.reduceLT, Nat.reduceLeDiff, Nat.reduceEqDiff, ↓reduceIte, Nat.add_zero, Nat.zero_add, true_and, and_true, Nat.le_refl, reduceCtorEq, false_implies, true_implies, not_true_eq_false, not_false_eq_true, Int.reduceAdd, Int.reduceSub, Int.reduceMul, Int.reduceLE, Int.reduceLT, Int.reduceEq, Int.reduceNe, Int.reduceNeg, Int.reduceDiv, Int.reduceMod, Bool.false_eq_true, Int.le_refl, and_self, true_or, or_true, inR_l, fv0, fv1, fv2, fv3, nc2, nc4, nc6, nc16, nc25, nc60, nc65, nc80, nc130, nc384, nc390, fp_0_0, fp_0_1, fp_0_2, fp_1_0, fp_1_1, fp_1_2, fp_1_3, fp_1_4, fp_1_5, fp_1_6, fp_1_7, fp_1_8, fp_1_9, fp_1_10, fp_1_11, fp_1_12, fp_1_13, fp_1_14, fp_2_0, fp_2_1, fp_2_2, fp_2_3, fp_3_0, fp_3_1, fp_4_0, fp_4_1, fp_4_2, fp_4_3, fp_4_4, fp_4_5, fp_4_6, fp_4_7, fp_5_0, fp_5_1, fp_5_2, fp_5_3, fp_5_4, fp_5_5, fp_5_6, fp_5_7, fp_6_0, fp_6_1, fp_6_2, fp_6_3, fp_6_4, fp_6_5, fp_6_6, fp_6_7, fp_6_8, fp_6_9, fp_6_10, fp_6_11, fp_6_12, fp_6_13, fp_6_14, fp_6_15, fp_7_0, fp_7_1, fp_7_2, fp_7_3, fp_7_4, fp_7_5, fp_7_6, fp_7_7, fp_7_8, fp_7_9, fp_7_10, fp_7_11, fp_7_12, fp_7_13, fp_7_14, fp_7_15, fp_7_16, fp_7_17, fp_7_18, fp_7_19, fp_7_20, fp_7_21, fp_7_22, fp_7_23, fp_7_24, iz_0_1, iz_0_2, iz_1_8, iz_1_9, iz_1_11, iz_2_1, iz_2_2, iz_2_3, iz_3_1, iz_4_1, iz_4_2, iz_5_0, iz_6_8, iz_6_9, iz_6_13, iz_6_14, iz_6_15, iz_7_2, iz_7_6, iz_7_12, iz_7_20, iz_7_21, iz_7_23, iz_7_24, ak_8, ak_9, ak_10, ak_11, ak_12, ak_13, ak_14, ak_15, ak_16, ak_17, ak_18, ak_19, ak_20, ak_21, ak_22, ak_23, ak_24, ak_25, ak_26, ak_27, ak_28, ak_29, ak_30, ak_31, ak_32, ak_33, ak_34, ak_35, ak_36, ak_37, ak_38, ak_39, ak_40, ak_41, ak_42, ak_43, ak_44, ak_45, ak_46, ak_47, ak_48, ak_49, ak_50, ak_51, ak_52, ak_53, ak_54, ak_55, ak_56, el31, el33, el34, CX3_trace, ca_X3_trace, frX3, kcX3, klX3, T_X3_first, T_X3_next, exists_eq_right_right, exists_eq_right, exists_eq_left, Nat.lt_irrefl, and_self, implies_true, forall_const]
        obtain ⟨p1, h⟩ := h
        have hF2 : FrG pPa σ (up σ 3 0 1 0) := FrG.r.u (Or.inr ⟨rfl, rfl, rfl⟩)
        have f := pPa_f hF2
        have q1 : cOK (up σ 3 0 1 0) i n := by
          unfold cOK
          rw [f 5 i (by omega), f 10 i (by omega), f 11 i (by omega), f 17 n (by omega), f 13 i (by omega), f 14 i (by omega), f 21 n (by omega), f 22 n (by omega), f 1 n (by omega)]
          exact p1
        have q2 : cF1 (up σ 3 0 1 0) i n = cF1 σ i n := by
          funext x r
          unfold cF1
          rw [f 10 i (by omega), f 8 i (by omega), f 17 n (by omega), f 21 n (by omega), f 22 n (by omega), f 1 n (by omega)]
        exact ⟨q1, fun r hr => TRi_0 (by rw [q2] at hr; exact hr)⟩
    · exact h.elim
def ca_X3_placeOf : Nat → Option (Nat × Nat × Tr) := fun _ => none
theorem cao_X3_placeOf (l : Launch) : ∀ k n' ci T', ca_X3_placeOf k = some (n', ci, T') → ∃ nn, nn + 1 ≤ 0 ∧ Site l yX3_placeOf.cls k n' ci nn T' := by
  intro k n' ci T' h
  cases h
def T_X3_placeOf : Tr := fun a σ K => match a with
  | [.inr (.inl (3, 0)), .inl x] => (0 ≤ σ 3 0 1 ∧ σ 3 0 1 ≤ 16) ∧ ∀ r, PoP (σ 37 0) (σ 3 0 1) x r → K (some r) σ
  | _ => False
set_option maxHeartbeats 8000000 in
set_option maxRecDepth 20000 in
theorem k_X3_placeOf (l : Launch) : Ct l yX3_placeOf cX3_placeOf 3 (some .int) 0 T_X3_placeOf := by
  refine mk_met (by decide +kernel) hCX3_placeOf lCX3_placeOf frX3_ok cstX3_ok (cao_X3_placeOf l) ?_ ?_
  · intro a σ K h
    unfold T_X3_placeOf at h
    split at h
    · simp [eL]
    · exact h.elim
  · intro a σ K ha hR h
    unfold T_X3_placeOf at h
    split at h
    · rename_i x
      refine ⟨fun pc => if pc = 2 then some (fun L S σ' k => match L, S with | [some (.inr (.inl c1)), some (.inl x'), some (.inl j)], [] => (c1 = (3, 0) ∧ x' = x ∧ σ' = σ ∧ 0 ≤ j ∧ j ≤ σ 3 0 1 ∧ PoI (σ 37 0) j x) ∧ k = (40 - j).toNat | _, _ => False) else none, 200, ?_, ?_⟩
      · intro pc I L S σ' k hcut hi
        dsimp only at hcut
        split at hcut
        · rename_i hpc
          subst hpc
          cases hcut
          try dsimp only at hi
          split at hi
          · rename_i c1 x' j
            obtain ⟨hi, rfl⟩ := hi
            obtain ⟨rfl, rfl, rfl, h0, h1, hI⟩ := hi
            obtain ⟨⟨p1, p2⟩, h⟩ := h
            simp only [wp, stp, drp, entL, eL, lget, lset, okst, cnd, swt, rcv, Kr_int, Kr_bool, Kr_void, List.length_cons, List.length_nil, List.replicate, List.append_nil, List.cons_append, List.nil_append, List.take_succ_cons, List.take_zero, List.drop_succ_cons, List.drop_zero, List.reverse_cons, List.reverse_nil, Option.map_some, Option.map_none, Option.toList_some, Option.toList_none, Nat.reduceAdd, Nat.reduceSub, Nat.reduceLT, Nat.reduceLeDiff, Nat.reduceEqDiff, ↓reduceIte, Nat.add_zero, Nat.zero_add, true_and, and_true, Nat.le_refl, reduceCtorEq, false_implies, true_implies, not_true_eq_false, not_false_eq_true, Int.reduceAdd, Int.reduceSub, Int.reduceMul, Int.reduceLE, Int.reduceLT, Int.reduceEq, Int.reduceNe, Int.reduceNeg, Int.reduceDiv, Int.reduceMod, Bool.false_eq_true, Int.le_refl, and_self, true_or, or_true, inR_l, fv0, fv1, fv2, fv3, nc2, nc4, nc6, nc16, nc25, nc60, nc65, nc80, nc130, nc384, nc390, fp_0_0, fp_0_1, fp_0_2, fp_1_0, fp_1_1, fp_1_2, fp_1_3, fp_1_4, fp_1_5, fp_1_6, fp_1_7, fp_1_8, fp_1_9, fp_1_10, fp_1_11, fp_1_12, fp_1_13, fp_1_14, fp_2_0, fp_2_1, fp_2_2, fp_2_3, fp_3_0, fp_3_1, fp_4_0, fp_4_1, fp_4_2, fp_4_3, fp_4_4, fp_4_5, fp_4_6, fp_4_7, fp_5_0, fp_5_1, fp_5_2, fp_5_3, fp_5_4, fp_5_5, fp_5_6, fp_5_7, fp_6_0, fp_6_1, fp_6_2, fp_6_3, fp_6_4, fp_6_5, fp_6_6, fp_6_7, fp_6_8, fp_6_9, fp_6_10, fp_6_11, fp_6_12, fp_6_13, fp_6_14, fp_6_15, fp_7_0, fp_7_1, fp_7_2, fp_7_3, fp_7_4, fp_7_5, fp_7_6, fp_7_7, fp_7_8, fp_7_9, fp_7_10, fp_7_11, fp_7_12, fp_7_13, fp_7_14, fp_7_15, fp_7_16, fp_7_17, fp_7_18, fp_7_19, fp_7_20, fp_7_21, fp_7_22, fp_7_23, fp_7_24, iz_0_1, iz_0_2, iz_1_8, iz_1_9, iz_1_11, iz_2_1, iz_2_2, iz_2_3, iz_3_1, iz_4_1, iz_4_2, iz_5_0, iz_6_8, iz_6_9, iz_6_13, iz_6_14, iz_6_15, iz_7_2, iz_7_6, iz_7_12, iz_7_20, iz_7_21, iz_7_23, iz_7_24, ak_8, ak_9, ak_10, ak_11, ak_12, ak_13, ak_14, ak_15, ak_16, ak_17, ak_18, ak_19, ak_20, ak_21, ak_22, ak_23, ak_24, ak_25, ak_26, ak_27, ak_28, ak_29, ak_30, ak_31, ak_32, ak_33, ak_34, ak_35, ak_36, ak_37, ak_38, ak_39, ak_40, ak_41, ak_42, ak_43, ak_44, ak_45, ak_46, ak_47, ak_48, ak_49, ak_50, ak_51, ak_52, ak_53, ak_54, ak_55, ak_56, el31, el33, el34, CX3_placeOf, ca_X3_placeOf, frX3, kcX3, klX3, exists_eq_right_right, exists_eq_right, exists_eq_left, Nat.lt_irrefl, and_self, implies_true, forall_const]
            (repeat' (first | (with_reducible intro _) | (with_reducible refine And.intro ?_ ?_)))
            all_goals (try first | omega | exact ⟨by omega, by omega⟩)
            all_goals first | (exact h _ (Or.inl ⟨rfl, by rw [show σ' 3 0 1 = j by omega]; exact hI⟩)) | (exact h _ (Or.inr ⟨h0, by omega, Classical.not_not.mp (by assumption), hI⟩)) | (exact PoI_s hI (by assumption))
          · exact hi.elim
        · cases hcut
      · simp only [wp, stp, drp, entL, eL, lget, lset, okst, cnd, swt, rcv, Kr_int, Kr_bool, Kr_void, List.length_cons, List.length_nil, List.replicate, List.append_nil, List.cons_append, List.nil_append, List.take_succ_cons, List.take_zero, List.drop_succ_cons, List.drop_zero, List.reverse_cons, List.reverse_nil, Option.map_some, Option.map_none, Option.toList_some, Option.toList_none, Nat.reduceAdd, Nat.reduceSub, Nat.reduceLT, Nat.reduceLeDiff, Nat.reduceEqDiff, ↓reduceIte, Nat.add_zero, Nat.zero_add, true_and, and_true, Nat.le_refl, reduceCtorEq, false_implies, true_implies, not_true_eq_false, not_false_eq_true, Int.reduceAdd, Int.reduceSub, Int.reduceMul, Int.reduceLE, Int.reduceLT, Int.reduceEq, Int.reduceNe, Int.reduceNeg, Int.reduceDiv, Int.reduceMod, Bool.false_eq_true, Int.le_refl, and_self, true_or, or_true, inR_l, fv0, fv1, fv2, fv3, nc2, nc4, nc6, nc16, nc25, nc60, nc65, nc80, nc130, nc384, nc390, fp_0_0, fp_0_1, fp_0_2, fp_1_0, fp_1_1, fp_1_2, fp_1_3, fp_1_4, fp_1_5, fp_1_6, fp_1_7, fp_1_8, fp_1_9, fp_1_10, fp_1_11, fp_1_12, fp_1_13, fp_1_14, fp_2_0, fp_2_1, fp_2_2, fp_2_3, fp_3_0, fp_3_1, fp_4_0, fp_4_1, fp_4_2, fp_4_3, fp_4_4, fp_4_5, fp_4_6, fp_4_7, fp_5_0, fp_5_1, fp_5_2, fp_5_3, fp_5_4, fp_5_5, fp_5_6, fp_5_7, fp_6_0, fp_6_1, fp_6_2, fp_6_3, fp_6_4, fp_6_5, fp_6_6, fp_6_7, fp_6_8, fp_6_9, fp_6_10, fp_6_11, fp_6_12, fp_6_13, fp_6_14, fp_6_15, fp_7_0, fp_7_1, fp_7_2, fp_7_3, fp_7_4, fp_7_5, fp_7_6, fp_7_7, fp_7_8, fp_7_9, fp_7_10, fp_7_11, fp_7_12, fp_7_13, fp_7_14, fp_7_15, fp_7_16, fp_7_17, fp_7_18, fp_7_19, fp_7_20, fp_7_21, fp_7_22, fp_7_23, fp_7_24, iz_0_1, iz_0_2, iz_1_8, iz_1_9, iz_1_11, iz_2_1, iz_2_2, iz_2_3, iz_3_1, iz_4_1, iz_4_2, iz_5_0, iz_6_8, iz_6_9, iz_6_13, iz_6_14, iz_6_15, iz_7_2, iz_7_6, iz_7_12, iz_7_20, iz_7_21, iz_7_23, iz_7_24, ak_8, ak_9, ak_10, ak_11, ak_12, ak_13, ak_14, ak_15, ak_16, ak_17, ak_18, ak_19, ak_20, ak_21, ak_22, ak_23, ak_24, ak_25, ak_26, ak_27, ak_28, ak_29, ak_30, ak_31, ak_32, ak_33, ak_34, ak_35, ak_36, ak_37, ak_38, ak_39, ak_40, ak_41, ak_42, ak_43, ak_44, ak_45, ak_46, ak_47, ak_48, ak_49, ak_50, ak_51, ak_52, ak_53, ak_54, ak_55, ak_56, el31, el33, el34, CX3_placeOf, ca_X3_placeOf, frX3, kcX3, klX3, exists_eq_right_right, exists_eq_right, exists_eq_left, Nat.lt_irrefl, and_self, implies_true, forall_const]
        obtain ⟨⟨p1, p2⟩, h⟩ := h
        (repeat' (first | (with_reducible intro _) | (with_reducible refine And.intro ?_ ?_)))
        all_goals (try first | omega | exact ⟨by omega, by omega⟩)
        all_goals first | (exact fun k a b => by omega)
    · exact h.elim
def ca_X3_blocks : Nat → Option (Nat × Nat × Tr) := fun _ => none
theorem cao_X3_blocks (l : Launch) : ∀ k n' ci T', ca_X3_blocks k = some (n', ci, T') → ∃ nn, nn + 1 ≤ 0 ∧ Site l yX3_blocks.cls k n' ci nn T' := by
  intro k n' ci T' h
  cases h
def T_X3_blocks : Tr := fun a σ K => match a with
  | [.inr (.inl (3, 0)), .inr (.inl (5, i))] => (0 ≤ σ 3 0 1 ∧ σ 3 0 1 ≤ 16 ∧ ∀ k, 0 ≤ k → k < σ 3 0 1 → 0 ≤ σ 37 0 k ∧ σ 37 0 k < 16) ∧ K (some (sm (blk (σ 11 i) (σ 37 0)) (σ 3 0 1).toNat)) σ
  | _ => False
set_option maxHeartbeats 8000000 in
set_option maxRecDepth 20000 in
theorem k_X3_blocks (l : Launch) : Ct l yX3_blocks cX3_blocks 4 (some .int) 0 T_X3_blocks := by
  refine mk_met (by decide +kernel) hCX3_blocks lCX3_blocks frX3_ok cstX3_ok (cao_X3_blocks l) ?_ ?_
  · intro a σ K h
    unfold T_X3_blocks at h
    split at h
    · simp [eL]
    · exact h.elim
  · intro a σ K ha hR h
    unfold T_X3_blocks at h
    split at h
    · rename_i i
      refine ⟨fun pc => if pc = 4 then some (fun L S σ' k => match L, S with | [some (.inr (.inl c1)), some (.inr (.inl c2)), some (.inl s), some (.inl j)], [] => (c1 = (3, 0) ∧ c2 = (5, i) ∧ σ' = σ ∧ 0 ≤ j ∧ j ≤ σ 3 0 1 ∧ s = sm (blk (σ 11 i) (σ 37 0)) j.toNat) ∧ k = (40 - j).toNat | _, _ => False) else none, 200, ?_, ?_⟩
      · intro pc I L S σ' k hcut hi
        dsimp only at hcut
        split at hcut
        · rename_i hpc
          subst hpc
          cases hcut
          try dsimp only at hi
          split at hi
          · rename_i c1 c2 s j
            obtain ⟨hi, rfl⟩ := hi
            obtain ⟨rfl, rfl, rfl, h0, h1, hI⟩ := hi
            obtain ⟨⟨p1, p2, p3⟩, h⟩ := h
            simp only [wp, stp, drp, entL, eL, lget, lset, okst, cnd, swt, rcv, Kr_int, Kr_bool, Kr_void, List.length_cons, List.length_nil, List.replicate, List.append_nil, List.cons_append, List.nil_append, List.take_succ_cons, List.take_zero, List.drop_succ_cons, List.drop_zero, List.reverse_cons, List.reverse_nil, Option.map_some, Option.map_none, Option.toList_some, Option.toList_none, Nat.reduceAdd, Nat.reduceSub, Nat.reduceLT, Nat.reduceLeDiff, Nat.reduceEqDiff, ↓reduceIte, Nat.add_zero, Nat.zero_add, true_and, and_true, Nat.le_refl, reduceCtorEq, false_implies, true_implies, not_true_eq_false, not_false_eq_true, Int.reduceAdd, Int.reduceSub, Int.reduceMul, Int.reduceLE, Int.reduceLT, Int.reduceEq, Int.reduceNe, Int.reduceNeg, Int.reduceDiv, Int.reduceMod, Bool.false_eq_true, Int.le_refl, and_self, true_or, or_true, inR_l, fv0, fv1, fv2, fv3, nc2, nc4, nc6, nc16, nc25, nc60, nc65, nc80, nc130, nc384, nc390, fp_0_0, fp_0_1, fp_0_2, fp_1_0, fp_1_1, fp_1_2, fp_1_3, fp_1_4, fp_1_5, fp_1_6, fp_1_7, fp_1_8, fp_1_9, fp_1_10, fp_1_11, fp_1_12, fp_1_13, fp_1_14, fp_2_0, fp_2_1, fp_2_2, fp_2_3, fp_3_0, fp_3_1, fp_4_0, fp_4_1, fp_4_2, fp_4_3, fp_4_4, fp_4_5, fp_4_6, fp_4_7, fp_5_0, fp_5_1, fp_5_2, fp_5_3, fp_5_4, fp_5_5, fp_5_6, fp_5_7, fp_6_0, fp_6_1, fp_6_2, fp_6_3, fp_6_4, fp_6_5, fp_6_6, fp_6_7, fp_6_8, fp_6_9, fp_6_10, fp_6_11, fp_6_12, fp_6_13, fp_6_14, fp_6_15, fp_7_0, fp_7_1, fp_7_2, fp_7_3, fp_7_4, fp_7_5, fp_7_6, fp_7_7, fp_7_8, fp_7_9, fp_7_10, fp_7_11, fp_7_12, fp_7_13, fp_7_14, fp_7_15, fp_7_16, fp_7_17, fp_7_18, fp_7_19, fp_7_20, fp_7_21, fp_7_22, fp_7_23, fp_7_24, iz_0_1, iz_0_2, iz_1_8, iz_1_9, iz_1_11, iz_2_1, iz_2_2, iz_2_3, iz_3_1, iz_4_1, iz_4_2, iz_5_0, iz_6_8, iz_6_9, iz_6_13, iz_6_14, iz_6_15, iz_7_2, iz_7_6, iz_7_12, iz_7_20, iz_7_21, iz_7_23, iz_7_24, ak_8, ak_9, ak_10, ak_11, ak_12, ak_13, ak_14, ak_15, ak_16, ak_17, ak_18, ak_19, ak_20, ak_21, ak_22, ak_23, ak_24, ak_25, ak_26, ak_27, ak_28, ak_29, ak_30, ak_31, ak_32, ak_33, ak_34, ak_35, ak_36, ak_37, ak_38, ak_39, ak_40, ak_41, ak_42, ak_43, ak_44, ak_45, ak_46, ak_47, ak_48, ak_49, ak_50, ak_51, ak_52, ak_53, ak_54, ak_55, ak_56, el31, el33, el34, CX3_blocks, ca_X3_blocks, frX3, kcX3, klX3, exists_eq_right_right, exists_eq_right, exists_eq_left, Nat.lt_irrefl, and_self, implies_true, forall_const]
            have e1 := sm_s (blk (σ' 11 i) (σ' 37 0)) h0
            have hr := blk_r (σ' 11 i) (σ' 37 0) j.toNat
            rw [← hI] at hr e1
            have hy : (j = 0 ∨ σ' 11 i (σ' 37 0 j) ≠ σ' 11 i (σ' 37 0 (j - 1))) → blk (σ' 11 i) (σ' 37 0) j = 1 := fun q => b2i_1 q
            have hn : ¬ (j = 0 ∨ σ' 11 i (σ' 37 0 j) ≠ σ' 11 i (σ' 37 0 (j - 1))) → blk (σ' 11 i) (σ' 37 0) j = 0 := fun q => b2i_0 q
            have hp : j < σ' 3 0 1 → 0 ≤ σ' 37 0 j ∧ σ' 37 0 j < 16 := fun q => p3 j h0 q
            have hp2 : j < σ' 3 0 1 → j ≠ 0 → 0 ≤ σ' 37 0 (j - 1) ∧ σ' 37 0 (j - 1) < 16 := fun q z => p3 (j - 1) (by omega) (by omega)
            (repeat' (first | (with_reducible intro _) | (with_reducible refine And.intro ?_ ?_)))
            all_goals (try first | omega | exact ⟨by omega, by omega⟩)
            all_goals first | (rw [hI, show j.toNat = (σ' 3 0 1).toNat by omega]; exact h) | (exact (hp (by omega)).1) | (exact (hp (by omega)).2) | (exact (hp2 (by omega) (by omega)).1) | (exact (hp2 (by omega) (by omega)).2) | (rw [e1, hn (by omega)]; omega) | (rw [e1, hy (by omega)])
          · exact hi.elim
        · cases hcut
      · simp only [wp, stp, drp, entL, eL, lget, lset, okst, cnd, swt, rcv, Kr_int, Kr_bool, Kr_void, List.length_cons, List.length_nil, List.replicate, List.append_nil, List.cons_append, List.nil_append, List.take_succ_cons, List.take_zero, List.drop_succ_cons, List.drop_zero, List.reverse_cons, List.reverse_nil, Option.map_some, Option.map_none, Option.toList_some, Option.toList_none, Nat.reduceAdd, Nat.reduceSub, Nat.reduceLT, Nat.reduceLeDiff, Nat.reduceEqDiff, ↓reduceIte, Nat.add_zero, Nat.zero_add, true_and, and_true, Nat.le_refl, reduceCtorEq, false_implies, true_implies, not_true_eq_false, not_false_eq_true, Int.reduceAdd, Int.reduceSub, Int.reduceMul, Int.reduceLE, Int.reduceLT, Int.reduceEq, Int.reduceNe, Int.reduceNeg, Int.reduceDiv, Int.reduceMod, Bool.false_eq_true, Int.le_refl, and_self, true_or, or_true, inR_l, fv0, fv1, fv2, fv3, nc2, nc4, nc6, nc16, nc25, nc60, nc65, nc80, nc130, nc384, nc390, fp_0_0, fp_0_1, fp_0_2, fp_1_0, fp_1_1, fp_1_2, fp_1_3, fp_1_4, fp_1_5, fp_1_6, fp_1_7, fp_1_8, fp_1_9, fp_1_10, fp_1_11, fp_1_12, fp_1_13, fp_1_14, fp_2_0, fp_2_1, fp_2_2, fp_2_3, fp_3_0, fp_3_1, fp_4_0, fp_4_1, fp_4_2, fp_4_3, fp_4_4, fp_4_5, fp_4_6, fp_4_7, fp_5_0, fp_5_1, fp_5_2, fp_5_3, fp_5_4, fp_5_5, fp_5_6, fp_5_7, fp_6_0, fp_6_1, fp_6_2, fp_6_3, fp_6_4, fp_6_5, fp_6_6, fp_6_7, fp_6_8, fp_6_9, fp_6_10, fp_6_11, fp_6_12, fp_6_13, fp_6_14, fp_6_15, fp_7_0, fp_7_1, fp_7_2, fp_7_3, fp_7_4, fp_7_5, fp_7_6, fp_7_7, fp_7_8, fp_7_9, fp_7_10, fp_7_11, fp_7_12, fp_7_13, fp_7_14, fp_7_15, fp_7_16, fp_7_17, fp_7_18, fp_7_19, fp_7_20, fp_7_21, fp_7_22, fp_7_23, fp_7_24, iz_0_1, iz_0_2, iz_1_8, iz_1_9, iz_1_11, iz_2_1, iz_2_2, iz_2_3, iz_3_1, iz_4_1, iz_4_2, iz_5_0, iz_6_8, iz_6_9, iz_6_13, iz_6_14, iz_6_15, iz_7_2, iz_7_6, iz_7_12, iz_7_20, iz_7_21, iz_7_23, iz_7_24, ak_8, ak_9, ak_10, ak_11, ak_12, ak_13, ak_14, ak_15, ak_16, ak_17, ak_18, ak_19, ak_20, ak_21, ak_22, ak_23, ak_24, ak_25, ak_26, ak_27, ak_28, ak_29, ak_30, ak_31, ak_32, ak_33, ak_34, ak_35, ak_36, ak_37, ak_38, ak_39, ak_40, ak_41, ak_42, ak_43, ak_44, ak_45, ak_46, ak_47, ak_48, ak_49, ak_50, ak_51, ak_52, ak_53, ak_54, ak_55, ak_56, el31, el33, el34, CX3_blocks, ca_X3_blocks, frX3, kcX3, klX3, exists_eq_right_right, exists_eq_right, exists_eq_left, Nat.lt_irrefl, and_self, implies_true, forall_const]
        obtain ⟨⟨p1, p2, p3⟩, h⟩ := h
        (repeat' (first | (with_reducible intro _) | (with_reducible refine And.intro ?_ ?_)))
        all_goals (try first | omega | exact ⟨by omega, by omega⟩)
        all_goals first | (exact p1) | (rfl)
    · exact h.elim
