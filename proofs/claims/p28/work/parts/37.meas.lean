def ca_X1_measure : Nat → Option (Nat × Nat × Tr)
  | 95 => some (2, 1, T_X1_sortAlong)
  | 99 => some (2, 1, T_X1_tailOf)
  | 86 => some (2, 1, T_X1_endOf)
  | _ => none
theorem cao_X1_measure (l : Launch) : ∀ k n' ci T', ca_X1_measure k = some (n', ci, T') → ∃ nn, nn + 1 ≤ 2 ∧ Site l yX1_measure.cls k n' ci nn T' := by
  intro k n' ci T' h
  unfold ca_X1_measure at h
  split at h
  · cases h; exact ⟨1, by decide, _, _, _, _, k_X1_sortAlong l, Or.inl ⟨_, rfl, FX1_sortAlong, KRX1_95⟩⟩
  · cases h; exact ⟨0, by decide, _, _, _, _, k_X1_tailOf l, Or.inl ⟨_, rfl, FX1_tailOf, KRX1_99⟩⟩
  · cases h; exact ⟨0, by decide, _, _, _, _, k_X1_endOf l, Or.inl ⟨_, rfl, FX1_endOf, KRX1_86⟩⟩
  · cases h
def T_X1_measure : Tr := fun a σ K => match a with
  | [.inr (.inl (1, n))] => (nB σ n ∧ nA σ n ∧ nO σ n) ∧ (∀ σ', Frm n σ σ' → nM σ' n → K (some 1) σ') ∧ (∀ σ', Frm n σ σ' → nN σ n → K (some 0) σ')
  | _ => False
set_option maxHeartbeats 8000000 in
set_option maxRecDepth 20000 in
theorem k_X1_measure (l : Launch) : Ct l yX1_measure cX1_measure 5 (some .boolean) 2 T_X1_measure := by
  refine mk_met (by decide +kernel) hCX1_measure lCX1_measure frX1_ok cstX1_ok (cao_X1_measure l) ?_ ?_
  · intro a σ K h
    unfold T_X1_measure at h
    split at h
    · simp [eL]
    · exact h.elim
  · intro a σ K ha hR h
    unfold T_X1_measure at h
    split at h
    · rename_i n
      refine ⟨fun pc => if pc = 49 then some (fun L S σ' k => match L, S with | [some (.inr (.inl c1)), some (.inl nw), some (.inl rd), _, _], [] => (c1 = (1, n) ∧ MRi n σ σ' nw rd) ∧ k = (16 - rd).toNat + 100 | _, _ => False) else if pc = 130 then some (fun L S σ' k => match L, S with | [some (.inr (.inl c1)), some (.inl x0), some (.inl i), _, _], [] => (c1 = (1, n) ∧ MTi n σ σ' i) ∧ k = (i + 1).toNat | _, _ => False) else none, 200, ?_, ?_⟩
      · intro pc I L S σ' k hcut hi
        dsimp only at hcut
        split at hcut
        · rename_i hpc
          subst hpc
          cases hcut
          try dsimp only at hi
          split at hi
          · rename_i c1 nw rd x1 x2
            obtain ⟨hi, rfl⟩ := hi
            obtain ⟨rfl, hI⟩ := hi
            obtain ⟨⟨p1, p2, p3⟩, h, hn⟩ := h
            simp only [wp, stp, drp, entL, eL, lget, lset, okst, cnd, swt, rcv, Kr_int, Kr_bool, Kr_void, List.length_cons, List.length_nil, List.replicate, List.append_nil, List.cons_append, List.nil_append, List.take_succ_cons, List.take_zero, List.drop_succ_cons, List.drop_zero, List.reverse_cons, List.reverse_nil, Option.map_some, Option.map_none, Option.toList_some, Option.toList_none, Nat.reduceAdd, Nat.reduceSub, Nat.reduceLT, Nat.reduceLeDiff, Nat.reduceEqDiff, ↓reduceIte, Nat.add_zero, Nat.zero_add, true_and, and_true, Nat.le_refl, reduceCtorEq, false_implies, true_implies, not_true_eq_false, not_false_eq_true, Int.reduceAdd, Int.reduceSub, Int.reduceMul, Int.reduceLE, Int.reduceLT, Int.reduceEq, Int.reduceNe, Int.reduceNeg, Int.reduceDiv, Int.reduceMod, Bool.false_eq_true, Int.le_refl, and_self, true_or, or_true, inR_l, fv0, fv1, fv2, fv3, nc2, nc4, nc6, nc16, nc25, nc60, nc65, nc80, nc130, nc384, nc390, fp_0_0, fp_0_1, fp_0_2, fp_1_0, fp_1_1, fp_1_2, fp_1_3, fp_1_4, fp_1_5, fp_1_6, fp_1_7, fp_1_8, fp_1_9, fp_1_10, fp_1_11, fp_1_12, fp_1_13, fp_1_14, fp_2_0, fp_2_1, fp_2_2, fp_2_3, fp_3_0, fp_3_1, fp_4_0, fp_4_1, fp_4_2, fp_4_3, fp_4_4, fp_4_5, fp_4_6, fp_4_7, fp_5_0, fp_5_1, fp_5_2, fp_5_3, fp_5_4, fp_5_5, fp_5_6, fp_5_7, fp_6_0, fp_6_1, fp_6_2, fp_6_3, fp_6_4, fp_6_5, fp_6_6, fp_6_7, fp_6_8, fp_6_9, fp_6_10, fp_6_11, fp_6_12, fp_6_13, fp_6_14, fp_6_15, fp_7_0, fp_7_1, fp_7_2, fp_7_3, fp_7_4, fp_7_5, fp_7_6, fp_7_7, fp_7_8, fp_7_9, fp_7_10, fp_7_11, fp_7_12, fp_7_13, fp_7_14, fp_7_15, fp_7_16, fp_7_17, fp_7_18, fp_7_19, fp_7_20, fp_7_21, fp_7_22, fp_7_23, fp_7_24, iz_0_1, iz_0_2, iz_1_8, iz_1_9, iz_1_11, iz_2_1, iz_2_2, iz_2_3, iz_3_1, iz_4_1, iz_4_2, iz_5_0, iz_6_8, iz_6_9, iz_6_13, iz_6_14, iz_6_15, iz_7_2, iz_7_6, iz_7_12, iz_7_20, iz_7_21, iz_7_23, iz_7_24, ak_8, ak_9, ak_10, ak_11, ak_12, ak_13, ak_14, ak_15, ak_16, ak_17, ak_18, ak_19, ak_20, ak_21, ak_22, ak_23, ak_24, ak_25, ak_26, ak_27, ak_28, ak_29, ak_30, ak_31, ak_32, ak_33, ak_34, ak_35, ak_36, ak_37, ak_38, ak_39, ak_40, ak_41, ak_42, ak_43, ak_44, ak_45, ak_46, ak_47, ak_48, ak_49, ak_50, ak_51, ak_52, ak_53, ak_54, ak_55, ak_56, el31, el33, el34, CX1_measure, ca_X1_measure, frX1, kcX1, klX1, T_X1_sortAlong, T_X1_tailOf, T_X1_endOf, up_ap, false_and, and_false, if_false, if_true, ite_true, ite_false, exists_eq_right_right, exists_eq_right, exists_eq_left, Nat.lt_irrefl, and_self, implies_true, forall_const]
            obtain ⟨q1, q2, q3⟩ := SI_16 hI.2.2.1 hI.2.1
            have q4 := hI.2.2.2.2.1
            have q5 := hI.2.2.2.2.2.1
            (repeat' (first | (with_reducible intro _) | (with_reducible refine And.intro ?_ ?_)))
            all_goals (try first | omega | exact ⟨by omega, by omega⟩)
            all_goals first | (exact MTi_0 hI p3 (by omega)) | (exact hn _ hI.1 (MRi_no hI p3 (by omega) (by omega))) | (exact hI.2.2.1) | (exact hI.2.2.2.1) | (exact hI.2.1) | (exact (‹SAr n 0 σ' _›.1.B hI.2.2.1)) | (exact (‹SAr n 0 σ' _›.1.A hI.2.2.2.1)) | (exact ‹SAr n 0 σ' _›.2.1) | (exact (‹SAr n 1 _ _›.1.B (‹SAr n 0 σ' _›.1.B hI.2.2.1))) | (exact (‹SAr n 1 _ _›.1.A (‹SAr n 0 σ' _›.1.A hI.2.2.2.1))) | (exact ‹SAr n 1 _ _›.2.1) | (exact (‹SAr n 2 _ _›.1.B (‹SAr n 1 _ _›.1.B (‹SAr n 0 σ' _›.1.B hI.2.2.1)))) | (exact (‹SAr n 2 _ _›.1.A (‹SAr n 1 _ _›.1.A (‹SAr n 0 σ' _›.1.A hI.2.2.2.1)))) | (exact ‹SAr n 2 _ _›.2.1) | (exact (MRi_step hI (by assumption) (by assumption) (by assumption) (by assumption) (by assumption) (by assumption)).1 (by assumption)) | (exact (MRi_step hI (by assumption) (by assumption) (by assumption) (by assumption) (by assumption) (by assumption)).2 (by assumption))
          · exact hi.elim
        · split at hcut
          · rename_i hpc
            subst hpc
            cases hcut
            try dsimp only at hi
            split at hi
            · rename_i c1 x0 i x1 x2
              obtain ⟨hi, rfl⟩ := hi
              obtain ⟨rfl, hI⟩ := hi
              obtain ⟨⟨p1, p2, p3⟩, h, hn⟩ := h
              simp only [wp, stp, drp, entL, eL, lget, lset, okst, cnd, swt, rcv, Kr_int, Kr_bool, Kr_void, List.length_cons, List.length_nil, List.replicate, List.append_nil, List.cons_append, List.nil_append, List.take_succ_cons, List.take_zero, List.drop_succ_cons, List.drop_zero, List.reverse_cons, List.reverse_nil, Option.map_some, Option.map_none, Option.toList_some, Option.toList_none, Nat.reduceAdd, Nat.reduceSub, Nat.reduceLT, Nat.reduceLeDiff, Nat.reduceEqDiff, ↓reduceIte, Nat.add_zero, Nat.zero_add, true_and, and_true, Nat.le_refl, reduceCtorEq, false_implies, true_implies, not_true_eq_false, not_false_eq_true, Int.reduceAdd, Int.reduceSub, Int.reduceMul, Int.reduceLE, Int.reduceLT, Int.reduceEq, Int.reduceNe, Int.reduceNeg, Int.reduceDiv, Int.reduceMod, Bool.false_eq_true, Int.le_refl, and_self, true_or, or_true, inR_l, fv0, fv1, fv2, fv3, nc2, nc4, nc6, nc16, nc25, nc60, nc65, nc80, nc130, nc384, nc390, fp_0_0, fp_0_1, fp_0_2, fp_1_0, fp_1_1, fp_1_2, fp_1_3, fp_1_4, fp_1_5, fp_1_6, fp_1_7, fp_1_8, fp_1_9, fp_1_10, fp_1_11, fp_1_12, fp_1_13, fp_1_14, fp_2_0, fp_2_1, fp_2_2, fp_2_3, fp_3_0, fp_3_1, fp_4_0, fp_4_1, fp_4_2, fp_4_3, fp_4_4, fp_4_5, fp_4_6, fp_4_7, fp_5_0, fp_5_1, fp_5_2, fp_5_3, fp_5_4, fp_5_5, fp_5_6, fp_5_7, fp_6_0, fp_6_1, fp_6_2, fp_6_3, fp_6_4, fp_6_5, fp_6_6, fp_6_7, fp_6_8, fp_6_9, fp_6_10, fp_6_11, fp_6_12, fp_6_13, fp_6_14, fp_6_15, fp_7_0, fp_7_1, fp_7_2, fp_7_3, fp_7_4, fp_7_5, fp_7_6, fp_7_7, fp_7_8, fp_7_9, fp_7_10, fp_7_11, fp_7_12, fp_7_13, fp_7_14, fp_7_15, fp_7_16, fp_7_17, fp_7_18, fp_7_19, fp_7_20, fp_7_21, fp_7_22, fp_7_23, fp_7_24, iz_0_1, iz_0_2, iz_1_8, iz_1_9, iz_1_11, iz_2_1, iz_2_2, iz_2_3, iz_3_1, iz_4_1, iz_4_2, iz_5_0, iz_6_8, iz_6_9, iz_6_13, iz_6_14, iz_6_15, iz_7_2, iz_7_6, iz_7_12, iz_7_20, iz_7_21, iz_7_23, iz_7_24, ak_8, ak_9, ak_10, ak_11, ak_12, ak_13, ak_14, ak_15, ak_16, ak_17, ak_18, ak_19, ak_20, ak_21, ak_22, ak_23, ak_24, ak_25, ak_26, ak_27, ak_28, ak_29, ak_30, ak_31, ak_32, ak_33, ak_34, ak_35, ak_36, ak_37, ak_38, ak_39, ak_40, ak_41, ak_42, ak_43, ak_44, ak_45, ak_46, ak_47, ak_48, ak_49, ak_50, ak_51, ak_52, ak_53, ak_54, ak_55, ak_56, el31, el33, el34, CX1_measure, ca_X1_measure, frX1, kcX1, klX1, T_X1_sortAlong, T_X1_tailOf, T_X1_endOf, up_ap, false_and, and_false, if_false, if_true, ite_true, ite_false, exists_eq_right_right, exists_eq_right, exists_eq_left, Nat.lt_irrefl, and_self, implies_true, forall_const]
              by_cases hi0 : 0 ≤ i
              · obtain ⟨q1, q2, q3, q4, q5, q6, q7⟩ := MTi_pre hI hi0
                obtain ⟨-, hv⟩ := MTi_v hI hi0
                (repeat' (first | (with_reducible intro _) | (with_reducible refine And.intro ?_ ?_)))
                all_goals (try first | omega | exact ⟨by omega, by omega⟩)
                all_goals first | (exfalso; omega) | (exact (q6 (by assumption)).1) | (exact (q6 (by assumption)).2) | (exact (q7 _ (by assumption) (by assumption)).1) | (exact (q7 _ (by assumption) (by assumption)).2 (by assumption) (by assumption)) | (exact ⟨by have := MTi_r hI hi0 (by assumption); omega, by have := MTi_r hI hi0 (by assumption); omega⟩) | (exact MTi_step hI hi0 (by assumption) (by rw [if_pos (by assumption)])) | (exact MTi_step hI hi0 (by assumption) (by rw [if_neg (by assumption)]))
              · have he := MTi_end hI hi0
                (repeat' (first | (with_reducible intro _) | (with_reducible refine And.intro ?_ ?_)))
                all_goals (try first | omega | exact ⟨by omega, by omega⟩)
                all_goals first | (exact h _ he.1 he.2) | (exfalso; omega)
            · exact hi.elim
          · cases hcut
      · simp only [wp, stp, drp, entL, eL, lget, lset, okst, cnd, swt, rcv, Kr_int, Kr_bool, Kr_void, List.length_cons, List.length_nil, List.replicate, List.append_nil, List.cons_append, List.nil_append, List.take_succ_cons, List.take_zero, List.drop_succ_cons, List.drop_zero, List.reverse_cons, List.reverse_nil, Option.map_some, Option.map_none, Option.toList_some, Option.toList_none, Nat.reduceAdd, Nat.reduceSub, Nat.reduceLT, Nat.reduceLeDiff, Nat.reduceEqDiff, ↓reduceIte, Nat.add_zero, Nat.zero_add, true_and, and_true, Nat.le_refl, reduceCtorEq, false_implies, true_implies, not_true_eq_false, not_false_eq_true, Int.reduceAdd, Int.reduceSub, Int.reduceMul, Int.reduceLE, Int.reduceLT, Int.reduceEq, Int.reduceNe, Int.reduceNeg, Int.reduceDiv, Int.reduceMod, Bool.false_eq_true, Int.le_refl, and_self, true_or, or_true, inR_l, fv0, fv1, fv2, fv3, nc2, nc4, nc6, nc16, nc25, nc60, nc65, nc80, nc130, nc384, nc390, fp_0_0, fp_0_1, fp_0_2, fp_1_0, fp_1_1, fp_1_2, fp_1_3, fp_1_4, fp_1_5, fp_1_6, fp_1_7, fp_1_8, fp_1_9, fp_1_10, fp_1_11, fp_1_12, fp_1_13, fp_1_14, fp_2_0, fp_2_1, fp_2_2, fp_2_3, fp_3_0, fp_3_1, fp_4_0, fp_4_1, fp_4_2, fp_4_3, fp_4_4, fp_4_5, fp_4_6, fp_4_7, fp_5_0, fp_5_1, fp_5_2, fp_5_3, fp_5_4, fp_5_5, fp_5_6, fp_5_7, fp_6_0, fp_6_1, fp_6_2, fp_6_3, fp_6_4, fp_6_5, fp_6_6, fp_6_7, fp_6_8, fp_6_9, fp_6_10, fp_6_11, fp_6_12, fp_6_13, fp_6_14, fp_6_15, fp_7_0, fp_7_1, fp_7_2, fp_7_3, fp_7_4, fp_7_5, fp_7_6, fp_7_7, fp_7_8, fp_7_9, fp_7_10, fp_7_11, fp_7_12, fp_7_13, fp_7_14, fp_7_15, fp_7_16, fp_7_17, fp_7_18, fp_7_19, fp_7_20, fp_7_21, fp_7_22, fp_7_23, fp_7_24, iz_0_1, iz_0_2, iz_1_8, iz_1_9, iz_1_11, iz_2_1, iz_2_2, iz_2_3, iz_3_1, iz_4_1, iz_4_2, iz_5_0, iz_6_8, iz_6_9, iz_6_13, iz_6_14, iz_6_15, iz_7_2, iz_7_6, iz_7_12, iz_7_20, iz_7_21, iz_7_23, iz_7_24, ak_8, ak_9, ak_10, ak_11, ak_12, ak_13, ak_14, ak_15, ak_16, ak_17, ak_18, ak_19, ak_20, ak_21, ak_22, ak_23, ak_24, ak_25, ak_26, ak_27, ak_28, ak_29, ak_30, ak_31, ak_32, ak_33, ak_34, ak_35, ak_36, ak_37, ak_38, ak_39, ak_40, ak_41, ak_42, ak_43, ak_44, ak_45, ak_46, ak_47, ak_48, ak_49, ak_50, ak_51, ak_52, ak_53, ak_54, ak_55, ak_56, el31, el33, el34, CX1_measure, ca_X1_measure, frX1, kcX1, klX1, T_X1_sortAlong, T_X1_tailOf, T_X1_endOf, up_ap, false_and, and_false, if_false, if_true, ite_true, ite_false, exists_eq_right_right, exists_eq_right, exists_eq_left, Nat.lt_irrefl, and_self, implies_true, forall_const]
        obtain ⟨⟨p1, p2, p3⟩, h, hn⟩ := h
        exact MRi_0 p1 p2 (((((((((Frm.r.u (by omega)).u (by omega)).u (by omega)).u (by omega)).u (by omega)).u (by omega)).u (by omega)).u (by omega)).u (by omega)) (fun j j0 j1 => by rcases (show j = 0 ∨ j = 1 ∨ j = 2 ∨ j = 3 by omega) with rfl | rfl | rfl | rfl <;> simp [up_ap]) (fun j j0 j1 => by rcases (show j = 0 ∨ j = 1 ∨ j = 2 ∨ j = 3 by omega) with rfl | rfl | rfl | rfl <;> simp [up_ap]) (by simp [up_ap])
    · exact h.elim
