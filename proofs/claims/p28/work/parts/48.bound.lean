def ca_X1_boundOf : Nat → Option (Nat × Nat × Tr)
  | 126 => some (3, 1, T_X1_nextHead)
  | 129 => some (3, 1, T_X1_mostUrgent)
  | _ => none
theorem cao_X1_boundOf (l : Launch) : ∀ k n' ci T', ca_X1_boundOf k = some (n', ci, T') → ∃ nn, nn + 1 ≤ 1 ∧ Site l yX1_boundOf.cls k n' ci nn T' := by
  intro k n' ci T' h
  unfold ca_X1_boundOf at h
  split at h
  · cases h; exact ⟨0, by decide, _, _, _, _, k_X1_nextHead l, Or.inl ⟨_, rfl, FX1_nextHead, KRX1_126⟩⟩
  · cases h; exact ⟨0, by decide, _, _, _, _, k_X1_mostUrgent l, Or.inl ⟨_, rfl, FX1_mostUrgent, KRX1_129⟩⟩
  · cases h
def T_X1_boundOf : Tr := fun a σ K => match a with
  | [.inr (.inl (1, n)), .inl m] => (0 ≤ m ∧ m < 4 ∧ nB σ n ∧ nH σ n) ∧ ∀ B σ', BE σ σ' n m B → K (some B) σ'
  | _ => False
set_option maxHeartbeats 8000000 in
set_option maxRecDepth 20000 in
theorem k_X1_boundOf (l : Launch) : Ct l yX1_boundOf cX1_boundOf 9 (some .int) 1 T_X1_boundOf := by
  refine mk_met (by decide +kernel) hCX1_boundOf lCX1_boundOf frX1_ok cstX1_ok (cao_X1_boundOf l) ?_ ?_
  · intro a σ K h
    unfold T_X1_boundOf at h
    split at h
    · simp [eL]
    · exact h.elim
  · intro a σ K ha hR h
    unfold T_X1_boundOf at h
    split at h
    · rename_i n m
      refine ⟨fun pc => if pc = 2 then some (fun L S σ' k => match L, S with | [some (.inr (.inl c1)), some (.inl m'), some (.inl kk), _, _, _, _, _, _], [] => (c1 = (1, n) ∧ m' = m ∧ 0 ≤ kk ∧ kk ≤ 4 ∧ B0 σ σ' n m kk) ∧ k = (4 - kk).toNat + 100 | _, _ => False) else if pc = 51 then some (fun L S σ' k => match L, S with | [some (.inr (.inl c1)), some (.inl m'), some (.inl g), some (.inl tm), some (.inl tn), _, _, _, _], [] => (c1 = (1, n) ∧ m' = m ∧ BI σ σ' n m g tm tn) ∧ k = (20 - tn).toNat | _, _ => False) else none, 200, ?_, ?_⟩
      · intro pc I L S σ' k hcut hi
        dsimp only at hcut
        split at hcut
        · rename_i hpc
          subst hpc
          cases hcut
          try dsimp only at hi
          split at hi
          · rename_i c1 m' kk x1 x2 x3 x4 x5 x6
            obtain ⟨hi, rfl⟩ := hi
            obtain ⟨rfl, rfl, h0, h1, hI⟩ := hi
            obtain ⟨⟨p1, p2, p3, p4⟩, h⟩ := h
            simp only [wp, stp, drp, entL, eL, lget, lset, okst, cnd, swt, rcv, Kr_int, Kr_bool, Kr_void, List.length_cons, List.length_nil, List.replicate, List.append_nil, List.cons_append, List.nil_append, List.take_succ_cons, List.take_zero, List.drop_succ_cons, List.drop_zero, List.reverse_cons, List.reverse_nil, Option.map_some, Option.map_none, Option.toList_some, Option.toList_none, Nat.reduceAdd, Nat.reduceSub, Nat.reduceLT, Nat.reduceLeDiff, Nat.reduceEqDiff, ↓reduceIte, Nat.add_zero, Nat.zero_add, true_and, and_true, Nat.le_refl, reduceCtorEq, false_implies, true_implies, not_true_eq_false, not_false_eq_true, Int.reduceAdd, Int.reduceSub, Int.reduceMul, Int.reduceLE, Int.reduceLT, Int.reduceEq, Int.reduceNe, Int.reduceNeg, Int.reduceDiv, Int.reduceMod, Bool.false_eq_true, Int.le_refl, and_self, true_or, or_true, inR_l, fv0, fv1, fv2, fv3, nc2, nc4, nc6, nc16, nc25, nc60, nc65, nc80, nc130, nc384, nc390, fp_0_0, fp_0_1, fp_0_2, fp_1_0, fp_1_1, fp_1_2, fp_1_3, fp_1_4, fp_1_5, fp_1_6, fp_1_7, fp_1_8, fp_1_9, fp_1_10, fp_1_11, fp_1_12, fp_1_13, fp_1_14, fp_2_0, fp_2_1, fp_2_2, fp_2_3, fp_3_0, fp_3_1, fp_4_0, fp_4_1, fp_4_2, fp_4_3, fp_4_4, fp_4_5, fp_4_6, fp_4_7, fp_5_0, fp_5_1, fp_5_2, fp_5_3, fp_5_4, fp_5_5, fp_5_6, fp_5_7, fp_6_0, fp_6_1, fp_6_2, fp_6_3, fp_6_4, fp_6_5, fp_6_6, fp_6_7, fp_6_8, fp_6_9, fp_6_10, fp_6_11, fp_6_12, fp_6_13, fp_6_14, fp_6_15, fp_7_0, fp_7_1, fp_7_2, fp_7_3, fp_7_4, fp_7_5, fp_7_6, fp_7_7, fp_7_8, fp_7_9, fp_7_10, fp_7_11, fp_7_12, fp_7_13, fp_7_14, fp_7_15, fp_7_16, fp_7_17, fp_7_18, fp_7_19, fp_7_20, fp_7_21, fp_7_22, fp_7_23, fp_7_24, iz_0_1, iz_0_2, iz_1_8, iz_1_9, iz_1_11, iz_2_1, iz_2_2, iz_2_3, iz_3_1, iz_4_1, iz_4_2, iz_5_0, iz_6_8, iz_6_9, iz_6_13, iz_6_14, iz_6_15, iz_7_2, iz_7_6, iz_7_12, iz_7_20, iz_7_21, iz_7_23, iz_7_24, ak_8, ak_9, ak_10, ak_11, ak_12, ak_13, ak_14, ak_15, ak_16, ak_17, ak_18, ak_19, ak_20, ak_21, ak_22, ak_23, ak_24, ak_25, ak_26, ak_27, ak_28, ak_29, ak_30, ak_31, ak_32, ak_33, ak_34, ak_35, ak_36, ak_37, ak_38, ak_39, ak_40, ak_41, ak_42, ak_43, ak_44, ak_45, ak_46, ak_47, ak_48, ak_49, ak_50, ak_51, ak_52, ak_53, ak_54, ak_55, ak_56, el31, el33, el34, CX1_boundOf, ca_X1_boundOf, frX1, kcX1, klX1, T_X1_nextHead, T_X1_mostUrgent, up_ap, false_and, and_false, if_false, if_true, ite_true, ite_false, exists_eq_right_right, exists_eq_right, exists_eq_left, Nat.lt_irrefl, and_self, implies_true, forall_const]
            have e17 : ∀ x, σ' 17 n x = σ 17 n x := fun x => hI.1 17 n x (by rintro ⟨q, -⟩; omega)
            have e19 : ∀ x, σ' 19 n x = σ 19 n x := fun x => hI.1 19 n x (by rintro ⟨q, -⟩; omega)
            have h16 : 0 ≤ kk → kk < 4 → σ' 19 n (4 * m' + kk) < 16 := fun a b => by rw [e19]; exact NB_16 p3 p1 p2 a b
            (repeat' (first | (with_reducible intro _) | (with_reducible refine And.intro ?_ ?_)))
            all_goals (try first | omega | exact ⟨by omega, by omega⟩)
            all_goals first | (exact B0_s hI (by rw [if_pos (by rw [← e19]; omega), e17, e19])) | (exact B0_s hI (by rw [if_neg (by rw [← e19]; omega)])) | (exact BI_0 p3 p4 p1 p2 hI (by omega))
          · exact hi.elim
        · split at hcut
          · rename_i hpc
            subst hpc
            cases hcut
            try dsimp only at hi
            split at hi
            · rename_i c1 m' g tm tn x3 x4 x5 x6
              obtain ⟨hi, rfl⟩ := hi
              obtain ⟨rfl, rfl, hI⟩ := hi
              obtain ⟨⟨p1, p2, p3, p4⟩, h⟩ := h
              simp only [wp, stp, drp, entL, eL, lget, lset, okst, cnd, swt, rcv, Kr_int, Kr_bool, Kr_void, List.length_cons, List.length_nil, List.replicate, List.append_nil, List.cons_append, List.nil_append, List.take_succ_cons, List.take_zero, List.drop_succ_cons, List.drop_zero, List.reverse_cons, List.reverse_nil, Option.map_some, Option.map_none, Option.toList_some, Option.toList_none, Nat.reduceAdd, Nat.reduceSub, Nat.reduceLT, Nat.reduceLeDiff, Nat.reduceEqDiff, ↓reduceIte, Nat.add_zero, Nat.zero_add, true_and, and_true, Nat.le_refl, reduceCtorEq, false_implies, true_implies, not_true_eq_false, not_false_eq_true, Int.reduceAdd, Int.reduceSub, Int.reduceMul, Int.reduceLE, Int.reduceLT, Int.reduceEq, Int.reduceNe, Int.reduceNeg, Int.reduceDiv, Int.reduceMod, Bool.false_eq_true, Int.le_refl, and_self, true_or, or_true, inR_l, fv0, fv1, fv2, fv3, nc2, nc4, nc6, nc16, nc25, nc60, nc65, nc80, nc130, nc384, nc390, fp_0_0, fp_0_1, fp_0_2, fp_1_0, fp_1_1, fp_1_2, fp_1_3, fp_1_4, fp_1_5, fp_1_6, fp_1_7, fp_1_8, fp_1_9, fp_1_10, fp_1_11, fp_1_12, fp_1_13, fp_1_14, fp_2_0, fp_2_1, fp_2_2, fp_2_3, fp_3_0, fp_3_1, fp_4_0, fp_4_1, fp_4_2, fp_4_3, fp_4_4, fp_4_5, fp_4_6, fp_4_7, fp_5_0, fp_5_1, fp_5_2, fp_5_3, fp_5_4, fp_5_5, fp_5_6, fp_5_7, fp_6_0, fp_6_1, fp_6_2, fp_6_3, fp_6_4, fp_6_5, fp_6_6, fp_6_7, fp_6_8, fp_6_9, fp_6_10, fp_6_11, fp_6_12, fp_6_13, fp_6_14, fp_6_15, fp_7_0, fp_7_1, fp_7_2, fp_7_3, fp_7_4, fp_7_5, fp_7_6, fp_7_7, fp_7_8, fp_7_9, fp_7_10, fp_7_11, fp_7_12, fp_7_13, fp_7_14, fp_7_15, fp_7_16, fp_7_17, fp_7_18, fp_7_19, fp_7_20, fp_7_21, fp_7_22, fp_7_23, fp_7_24, iz_0_1, iz_0_2, iz_1_8, iz_1_9, iz_1_11, iz_2_1, iz_2_2, iz_2_3, iz_3_1, iz_4_1, iz_4_2, iz_5_0, iz_6_8, iz_6_9, iz_6_13, iz_6_14, iz_6_15, iz_7_2, iz_7_6, iz_7_12, iz_7_20, iz_7_21, iz_7_23, iz_7_24, ak_8, ak_9, ak_10, ak_11, ak_12, ak_13, ak_14, ak_15, ak_16, ak_17, ak_18, ak_19, ak_20, ak_21, ak_22, ak_23, ak_24, ak_25, ak_26, ak_27, ak_28, ak_29, ak_30, ak_31, ak_32, ak_33, ak_34, ak_35, ak_36, ak_37, ak_38, ak_39, ak_40, ak_41, ak_42, ak_43, ak_44, ak_45, ak_46, ak_47, ak_48, ak_49, ak_50, ak_51, ak_52, ak_53, ak_54, ak_55, ak_56, el31, el33, el34, CX1_boundOf, ca_X1_boundOf, frX1, kcX1, klX1, T_X1_nextHead, T_X1_mostUrgent, up_ap, false_and, and_false, if_false, if_true, ite_true, ite_false, exists_eq_right_right, exists_eq_right, exists_eq_left, Nat.lt_irrefl, and_self, implies_true, forall_const]
              have hl := BI_l p3 p4 p1 p2 hI
              have hfr := hI.1
              have hB' : nB σ' n := hfr.B (fun t x a b q => by have := q.1; omega) p3
              have e17 : ∀ x, σ' 17 n x = σ 17 n x := fun x => hfr 17 n x (by rintro ⟨q, -⟩; omega)
              have e19 : ∀ x, σ' 19 n x = σ 19 n x := fun x => hfr 19 n x (by rintro ⟨q, -⟩; omega)
              have e22 : ∀ x, σ' 22 n x = σ 22 n x := fun x => hfr 22 n x (by rintro ⟨q, -⟩; omega)
              have h16 : ∀ k, 0 ≤ k → k < 4 → σ' 19 n (4 * m' + k) < 16 := fun k a b => by rw [e19]; exact NB_16 p3 p1 p2 a b
              have h22 : ∀ k, 0 ≤ k → k < 4 → 0 ≤ σ' 19 n (4 * m' + k) → 0 ≤ σ' 22 n (σ' 19 n (4 * m' + k)) := fun k a b c => by
                rw [e19] at c
                rw [e22, e19]
                have := (bK p3 p4 p1 p2 a b).2 c
                exact this.2.2.2.2.1
              have hst := BI_stop hI
              have hg7 := hI.2.2.2.2.2.2
              have htm := hI.2.2.2.1
              have htm0 := hI.2.1
              have htn0 := hI.2.2.2.2.1
              refine ⟨fun a => absurd a (by omega), fun _ => ⟨⟨p1, p2, h16⟩, fun r hr => ⟨⟨p1, p2, fun k a b => ⟨h16 k a b, h22 k a b⟩⟩, fun c gg hu => ?_⟩⟩⟩
              have hc := BI_mu hI hu
              have hni := BI_ni p3 p4 p1 p2 hI hr
              have hni1 := hni.1
              have hr1 : r ≤ 1000 := hr.1
              by_cases hc6 : c = -6
              · subst hc6
                simp only [ne_eq, not_true_eq_false, false_implies, true_implies, and_true, true_and, not_false_eq_true]
                (repeat' (first | (with_reducible intro _) | (with_reducible refine And.intro ?_ ?_)))
                all_goals (try first | omega | exact ⟨by omega, by omega⟩)
                all_goals first | (exact h _ _ (BI_end p3 p4 p1 p2 hI hr (by omega) hc)) | (exact BI_wait p3 p4 p1 p2 hI hr (by omega) hc) | (exfalso; omega)
              · have hc4 : (0 ≤ c ∧ c < 4) ∧ jav (bE σ n m') (bF σ 21 n m') (σ' 26 n) tm c := by
                  rcases hc with ⟨q, -⟩ | ⟨q1, q2, q3, -⟩
                  · exact absurd q hc6
                  · exact ⟨⟨q1, q2⟩, q3⟩
                obtain ⟨hc4, hj⟩ := hc4
                have hl2 := hl.1 c hc4.1 hc4.2
                have hb := (bK p3 p4 p1 p2 hc4.1 hc4.2).2 hj.1
                have hon : 0 ≤ σ 19 n (4 * m' + c) := hj.1
                have hon2 := NB_16 p3 p1 p2 hc4.1 hc4.2
                have hj2 := hj.2.1
                unfold bF at hb
                simp only [e19, e22]
                (repeat' (first | (with_reducible intro _) | (with_reducible refine And.intro ?_ ?_)))
                all_goals (try first | omega | exact ⟨by omega, by omega⟩)
                all_goals first | (exfalso; omega) | (exact BI_work p3 p4 p1 p2 hI hr hc hc6 (w := r - tm) (by rw [if_pos (by assumption)]) (by unfold bF; rw [if_neg (by omega)])) | (exact BI_work p3 p4 p1 p2 hI hr hc hc6 (w := r - tm) (by rw [if_pos (by assumption)]) (by unfold bF; rw [if_pos (by omega)])) | (exact BI_work p3 p4 p1 p2 hI hr hc hc6 (w := σ' 26 n c) (by rw [if_neg (by assumption)]) (by unfold bF; rw [if_neg (by omega)])) | (exact BI_work p3 p4 p1 p2 hI hr hc hc6 (w := σ' 26 n c) (by rw [if_neg (by assumption)]) (by unfold bF; rw [if_pos (by omega)]))
            · exact hi.elim
          · cases hcut
      · simp only [wp, stp, drp, entL, eL, lget, lset, okst, cnd, swt, rcv, Kr_int, Kr_bool, Kr_void, List.length_cons, List.length_nil, List.replicate, List.append_nil, List.cons_append, List.nil_append, List.take_succ_cons, List.take_zero, List.drop_succ_cons, List.drop_zero, List.reverse_cons, List.reverse_nil, Option.map_some, Option.map_none, Option.toList_some, Option.toList_none, Nat.reduceAdd, Nat.reduceSub, Nat.reduceLT, Nat.reduceLeDiff, Nat.reduceEqDiff, ↓reduceIte, Nat.add_zero, Nat.zero_add, true_and, and_true, Nat.le_refl, reduceCtorEq, false_implies, true_implies, not_true_eq_false, not_false_eq_true, Int.reduceAdd, Int.reduceSub, Int.reduceMul, Int.reduceLE, Int.reduceLT, Int.reduceEq, Int.reduceNe, Int.reduceNeg, Int.reduceDiv, Int.reduceMod, Bool.false_eq_true, Int.le_refl, and_self, true_or, or_true, inR_l, fv0, fv1, fv2, fv3, nc2, nc4, nc6, nc16, nc25, nc60, nc65, nc80, nc130, nc384, nc390, fp_0_0, fp_0_1, fp_0_2, fp_1_0, fp_1_1, fp_1_2, fp_1_3, fp_1_4, fp_1_5, fp_1_6, fp_1_7, fp_1_8, fp_1_9, fp_1_10, fp_1_11, fp_1_12, fp_1_13, fp_1_14, fp_2_0, fp_2_1, fp_2_2, fp_2_3, fp_3_0, fp_3_1, fp_4_0, fp_4_1, fp_4_2, fp_4_3, fp_4_4, fp_4_5, fp_4_6, fp_4_7, fp_5_0, fp_5_1, fp_5_2, fp_5_3, fp_5_4, fp_5_5, fp_5_6, fp_5_7, fp_6_0, fp_6_1, fp_6_2, fp_6_3, fp_6_4, fp_6_5, fp_6_6, fp_6_7, fp_6_8, fp_6_9, fp_6_10, fp_6_11, fp_6_12, fp_6_13, fp_6_14, fp_6_15, fp_7_0, fp_7_1, fp_7_2, fp_7_3, fp_7_4, fp_7_5, fp_7_6, fp_7_7, fp_7_8, fp_7_9, fp_7_10, fp_7_11, fp_7_12, fp_7_13, fp_7_14, fp_7_15, fp_7_16, fp_7_17, fp_7_18, fp_7_19, fp_7_20, fp_7_21, fp_7_22, fp_7_23, fp_7_24, iz_0_1, iz_0_2, iz_1_8, iz_1_9, iz_1_11, iz_2_1, iz_2_2, iz_2_3, iz_3_1, iz_4_1, iz_4_2, iz_5_0, iz_6_8, iz_6_9, iz_6_13, iz_6_14, iz_6_15, iz_7_2, iz_7_6, iz_7_12, iz_7_20, iz_7_21, iz_7_23, iz_7_24, ak_8, ak_9, ak_10, ak_11, ak_12, ak_13, ak_14, ak_15, ak_16, ak_17, ak_18, ak_19, ak_20, ak_21, ak_22, ak_23, ak_24, ak_25, ak_26, ak_27, ak_28, ak_29, ak_30, ak_31, ak_32, ak_33, ak_34, ak_35, ak_36, ak_37, ak_38, ak_39, ak_40, ak_41, ak_42, ak_43, ak_44, ak_45, ak_46, ak_47, ak_48, ak_49, ak_50, ak_51, ak_52, ak_53, ak_54, ak_55, ak_56, el31, el33, el34, CX1_boundOf, ca_X1_boundOf, frX1, kcX1, klX1, T_X1_nextHead, T_X1_mostUrgent, up_ap, false_and, and_false, if_false, if_true, ite_true, ite_false, exists_eq_right_right, exists_eq_right, exists_eq_left, Nat.lt_irrefl, and_self, implies_true, forall_const]
        obtain ⟨⟨p1, p2, p3, p4⟩, h⟩ := h
        exact B0_0
    · exact h.elim
