def ca_X1_followOrder : Nat → Option (Nat × Nat × Tr)
  | 71 => some (2, 1, T_X1_jobsOn)
  | 78 => some (4, 1, T_X1_letFirst)
  | _ => none
theorem cao_X1_followOrder (l : Launch) : ∀ k n' ci T', ca_X1_followOrder k = some (n', ci, T') → ∃ nn, nn + 1 ≤ 1 ∧ Site l yX1_followOrder.cls k n' ci nn T' := by
  intro k n' ci T' h
  unfold ca_X1_followOrder at h
  split at h
  · cases h; exact ⟨0, by decide, _, _, _, _, k_X1_jobsOn l, Or.inl ⟨_, rfl, FX1_jobsOn, KRX1_71⟩⟩
  · cases h; exact ⟨0, by decide, _, _, _, _, k_X1_letFirst l, Or.inl ⟨_, rfl, FX1_letFirst, KRX1_78⟩⟩
  · cases h
def T_X1_followOrder : Tr := fun a σ K => match a with
  | [.inr (.inl (1, n)), .inr (.inl (5, i)), .inl m, .inl pl] => (0 ≤ m ∧ m < 4 ∧ nB σ n ∧ nA σ n ∧ qB σ n i m ∧ 0 ≤ pl ∧ pl ≤ σ 13 i m) ∧ ∀ σ', FO σ σ' n i m pl → K none σ'
  | _ => False
set_option maxHeartbeats 8000000 in
set_option maxRecDepth 20000 in
theorem k_X1_followOrder (l : Launch) : Ct l yX1_followOrder cX1_followOrder 7 none 1 T_X1_followOrder := by
  refine mk_met (by decide +kernel) hCX1_followOrder lCX1_followOrder frX1_ok cstX1_ok (cao_X1_followOrder l) ?_ ?_
  · intro a σ K h
    unfold T_X1_followOrder at h
    split at h
    · simp [eL]
    · exact h.elim
  · intro a σ K ha hR h
    unfold T_X1_followOrder at h
    split at h
    · rename_i n i m pl
      refine ⟨fun pc => if pc = 10 then some (fun L S σ' k => match L, S with | [some (.inr (.inl c1)), some (.inr (.inl c2)), some (.inl m'), some (.inl pl'), some (.inl ot), some (.inl P), _], [] => (c1 = (1, n) ∧ c2 = (5, i) ∧ m' = m ∧ pl' = pl ∧ 0 ≤ P ∧ P ≤ pl ∧ FOo σ n i m P ot ∧ FO σ σ' n i m P) ∧ k = (10 - P).toNat | _, _ => False) else none, 200, ?_, ?_⟩
      · intro pc I L S σ' k hcut hi
        dsimp only at hcut
        split at hcut
        · rename_i hpc
          subst hpc
          cases hcut
          try dsimp only at hi
          split at hi
          · rename_i c1 c2 m' pl' ot P x1
            obtain ⟨hi, rfl⟩ := hi
            obtain ⟨rfl, rfl, rfl, rfl, h0, h1, ho, hI⟩ := hi
            obtain ⟨⟨p1, p2, p3, p4, p5, p6, p7⟩, h⟩ := h
            simp only [wp, stp, drp, entL, eL, lget, lset, okst, cnd, swt, rcv, Kr_int, Kr_bool, Kr_void, List.length_cons, List.length_nil, List.replicate, List.append_nil, List.cons_append, List.nil_append, List.take_succ_cons, List.take_zero, List.drop_succ_cons, List.drop_zero, List.reverse_cons, List.reverse_nil, Option.map_some, Option.map_none, Option.toList_some, Option.toList_none, Nat.reduceAdd, Nat.reduceSub, Nat.reduceLT, Nat.reduceLeDiff, Nat.reduceEqDiff, ↓reduceIte, Nat.add_zero, Nat.zero_add, true_and, and_true, Nat.le_refl, reduceCtorEq, false_implies, true_implies, not_true_eq_false, not_false_eq_true, Int.reduceAdd, Int.reduceSub, Int.reduceMul, Int.reduceLE, Int.reduceLT, Int.reduceEq, Int.reduceNe, Int.reduceNeg, Int.reduceDiv, Int.reduceMod, Bool.false_eq_true, Int.le_refl, and_self, true_or, or_true, inR_l, fv0, fv1, fv2, fv3, nc2, nc4, nc6, nc16, nc25, nc60, nc65, nc80, nc130, nc384, nc390, fp_0_0, fp_0_1, fp_0_2, fp_1_0, fp_1_1, fp_1_2, fp_1_3, fp_1_4, fp_1_5, fp_1_6, fp_1_7, fp_1_8, fp_1_9, fp_1_10, fp_1_11, fp_1_12, fp_1_13, fp_1_14, fp_2_0, fp_2_1, fp_2_2, fp_2_3, fp_3_0, fp_3_1, fp_4_0, fp_4_1, fp_4_2, fp_4_3, fp_4_4, fp_4_5, fp_4_6, fp_4_7, fp_5_0, fp_5_1, fp_5_2, fp_5_3, fp_5_4, fp_5_5, fp_5_6, fp_5_7, fp_6_0, fp_6_1, fp_6_2, fp_6_3, fp_6_4, fp_6_5, fp_6_6, fp_6_7, fp_6_8, fp_6_9, fp_6_10, fp_6_11, fp_6_12, fp_6_13, fp_6_14, fp_6_15, fp_7_0, fp_7_1, fp_7_2, fp_7_3, fp_7_4, fp_7_5, fp_7_6, fp_7_7, fp_7_8, fp_7_9, fp_7_10, fp_7_11, fp_7_12, fp_7_13, fp_7_14, fp_7_15, fp_7_16, fp_7_17, fp_7_18, fp_7_19, fp_7_20, fp_7_21, fp_7_22, fp_7_23, fp_7_24, iz_0_1, iz_0_2, iz_1_8, iz_1_9, iz_1_11, iz_2_1, iz_2_2, iz_2_3, iz_3_1, iz_4_1, iz_4_2, iz_5_0, iz_6_8, iz_6_9, iz_6_13, iz_6_14, iz_6_15, iz_7_2, iz_7_6, iz_7_12, iz_7_20, iz_7_21, iz_7_23, iz_7_24, ak_8, ak_9, ak_10, ak_11, ak_12, ak_13, ak_14, ak_15, ak_16, ak_17, ak_18, ak_19, ak_20, ak_21, ak_22, ak_23, ak_24, ak_25, ak_26, ak_27, ak_28, ak_29, ak_30, ak_31, ak_32, ak_33, ak_34, ak_35, ak_36, ak_37, ak_38, ak_39, ak_40, ak_41, ak_42, ak_43, ak_44, ak_45, ak_46, ak_47, ak_48, ak_49, ak_50, ak_51, ak_52, ak_53, ak_54, ak_55, ak_56, el31, el33, el34, CX1_followOrder, ca_X1_followOrder, frX1, kcX1, klX1, T_X1_jobsOn, T_X1_letFirst, up_ap, false_and, and_false, if_false, if_true, ite_true, ite_false, exists_eq_right_right, exists_eq_right, exists_eq_left, Nat.lt_irrefl, and_self, implies_true, forall_const]
            have e13 : ∀ x, σ' 13 i x = σ 13 i x := fun x => hI.1 13 i x (by rintro ⟨q, -⟩; omega)
            have e14 : ∀ x, σ' 14 i x = σ 14 i x := fun x => hI.1 14 i x (by rintro ⟨q, -⟩; omega)
            have e19 : ∀ x, σ' 19 n x = σ 19 n x := fun x => hI.1 19 n x (by rintro ⟨q, -⟩; omega)
            simp only [e13, e14, e19]
            have hinj := NB_inj p3 p1 p2
            have h16 : ∀ k, 0 ≤ k → k < 4 → σ 19 n (4 * m' + k) < 16 := fun k a b => NB_16 p3 p1 p2 a b
            have hp5 := p5.2.1
            have hb : 0 ≤ ot ∧ ot < 16 := ⟨ho.1, ho.2.1⟩
            by_cases hP : P < σ 13 i m'
            · have hj := p5.2.2 P h0 hP
              (repeat' (first | (with_reducible intro _) | (with_reducible refine And.intro ?_ ?_)))
              all_goals (try first | omega | exact ⟨by omega, by omega⟩)
              all_goals first | (exact h _ (by rw [show pl' = P by omega]; exact hI)) | (exact hinj _ _ (by assumption) (by assumption) (by assumption) (by assumption) (by assumption) (by assumption)) | (exact FOo_s ho h0 hj.1 hj.2.1) | (exact h16 _ (by assumption) (by assumption)) | (exact FO_s p3 p1 p2 p5 hI (FOo_s ho h0 hj.1 hj.2.1) h0 (by omega) (by assumption))
            · (repeat' (first | (with_reducible intro _) | (with_reducible refine And.intro ?_ ?_)))
              all_goals (try first | omega | exact ⟨by omega, by omega⟩)
              all_goals first | (exact h _ (by rw [show pl' = P by omega]; exact hI)) | (exfalso; omega)
          · exact hi.elim
        · cases hcut
      · simp only [wp, stp, drp, entL, eL, lget, lset, okst, cnd, swt, rcv, Kr_int, Kr_bool, Kr_void, List.length_cons, List.length_nil, List.replicate, List.append_nil, List.cons_append, List.nil_append, List.take_succ_cons, List.take_zero, List.drop_succ_cons, List.drop_zero, List.reverse_cons, List.reverse_nil, Option.map_some, Option.map_none, Option.toList_some, Option.toList_none, Nat.reduceAdd, Nat.reduceSub, Nat.reduceLT, Nat.reduceLeDiff, Nat.reduceEqDiff, ↓reduceIte, Nat.add_zero, Nat.zero_add, true_and, and_true, Nat.le_refl, reduceCtorEq, false_implies, true_implies, not_true_eq_false, not_false_eq_true, Int.reduceAdd, Int.reduceSub, Int.reduceMul, Int.reduceLE, Int.reduceLT, Int.reduceEq, Int.reduceNe, Int.reduceNeg, Int.reduceDiv, Int.reduceMod, Bool.false_eq_true, Int.le_refl, and_self, true_or, or_true, inR_l, fv0, fv1, fv2, fv3, nc2, nc4, nc6, nc16, nc25, nc60, nc65, nc80, nc130, nc384, nc390, fp_0_0, fp_0_1, fp_0_2, fp_1_0, fp_1_1, fp_1_2, fp_1_3, fp_1_4, fp_1_5, fp_1_6, fp_1_7, fp_1_8, fp_1_9, fp_1_10, fp_1_11, fp_1_12, fp_1_13, fp_1_14, fp_2_0, fp_2_1, fp_2_2, fp_2_3, fp_3_0, fp_3_1, fp_4_0, fp_4_1, fp_4_2, fp_4_3, fp_4_4, fp_4_5, fp_4_6, fp_4_7, fp_5_0, fp_5_1, fp_5_2, fp_5_3, fp_5_4, fp_5_5, fp_5_6, fp_5_7, fp_6_0, fp_6_1, fp_6_2, fp_6_3, fp_6_4, fp_6_5, fp_6_6, fp_6_7, fp_6_8, fp_6_9, fp_6_10, fp_6_11, fp_6_12, fp_6_13, fp_6_14, fp_6_15, fp_7_0, fp_7_1, fp_7_2, fp_7_3, fp_7_4, fp_7_5, fp_7_6, fp_7_7, fp_7_8, fp_7_9, fp_7_10, fp_7_11, fp_7_12, fp_7_13, fp_7_14, fp_7_15, fp_7_16, fp_7_17, fp_7_18, fp_7_19, fp_7_20, fp_7_21, fp_7_22, fp_7_23, fp_7_24, iz_0_1, iz_0_2, iz_1_8, iz_1_9, iz_1_11, iz_2_1, iz_2_2, iz_2_3, iz_3_1, iz_4_1, iz_4_2, iz_5_0, iz_6_8, iz_6_9, iz_6_13, iz_6_14, iz_6_15, iz_7_2, iz_7_6, iz_7_12, iz_7_20, iz_7_21, iz_7_23, iz_7_24, ak_8, ak_9, ak_10, ak_11, ak_12, ak_13, ak_14, ak_15, ak_16, ak_17, ak_18, ak_19, ak_20, ak_21, ak_22, ak_23, ak_24, ak_25, ak_26, ak_27, ak_28, ak_29, ak_30, ak_31, ak_32, ak_33, ak_34, ak_35, ak_36, ak_37, ak_38, ak_39, ak_40, ak_41, ak_42, ak_43, ak_44, ak_45, ak_46, ak_47, ak_48, ak_49, ak_50, ak_51, ak_52, ak_53, ak_54, ak_55, ak_56, el31, el33, el34, CX1_followOrder, ca_X1_followOrder, frX1, kcX1, klX1, T_X1_jobsOn, T_X1_letFirst, up_ap, false_and, and_false, if_false, if_true, ite_true, ite_false, exists_eq_right_right, exists_eq_right, exists_eq_left, Nat.lt_irrefl, and_self, implies_true, forall_const]
        obtain ⟨⟨p1, p2, p3, p4, p5, p6, p7⟩, h⟩ := h
        (repeat' (first | (with_reducible intro _) | (with_reducible refine And.intro ?_ ?_)))
        all_goals (try first | omega | exact ⟨by omega, by omega⟩)
        all_goals first | (exact FO_0 p4) | (exact FOo_0 (by assumption) (by assumption) (by assumption))
    · exact h.elim
def ca_X1_followOrders : Nat → Option (Nat × Nat × Tr)
  | 67 => some (4, 1, T_X1_followOrder)
  | _ => none
theorem cao_X1_followOrders (l : Launch) : ∀ k n' ci T', ca_X1_followOrders k = some (n', ci, T') → ∃ nn, nn + 1 ≤ 2 ∧ Site l yX1_followOrders.cls k n' ci nn T' := by
  intro k n' ci T' h
  unfold ca_X1_followOrders at h
  split at h
  · cases h; exact ⟨1, by decide, _, _, _, _, k_X1_followOrder l, Or.inl ⟨_, rfl, FX1_followOrder, KRX1_67⟩⟩
  · cases h
def T_X1_followOrders : Tr := fun a σ K => match a with
  | [.inr (.inl (1, n)), .inr (.inl (5, i))] => (nB σ n ∧ nA σ n ∧ (∀ m, 0 ≤ m → m < 4 → qB σ n i m)) ∧ ∀ σ', FS σ σ' n i 4 → K none σ'
  | _ => False
set_option maxHeartbeats 8000000 in
set_option maxRecDepth 20000 in
theorem k_X1_followOrders (l : Launch) : Ct l yX1_followOrders cX1_followOrders 3 none 2 T_X1_followOrders := by
  refine mk_met (by decide +kernel) hCX1_followOrders lCX1_followOrders frX1_ok cstX1_ok (cao_X1_followOrders l) ?_ ?_
  · intro a σ K h
    unfold T_X1_followOrders at h
    split at h
    · simp [eL]
    · exact h.elim
  · intro a σ K ha hR h
    unfold T_X1_followOrders at h
    split at h
    · rename_i n i
      refine ⟨fun pc => if pc = 2 then some (fun L S σ' k => match L, S with | [some (.inr (.inl c1)), some (.inr (.inl c2)), some (.inl M)], [] => (c1 = (1, n) ∧ c2 = (5, i) ∧ 0 ≤ M ∧ M ≤ 4 ∧ FS σ σ' n i M) ∧ k = (10 - M).toNat | _, _ => False) else none, 200, ?_, ?_⟩
      · intro pc I L S σ' k hcut hi
        dsimp only at hcut
        split at hcut
        · rename_i hpc
          subst hpc
          cases hcut
          try dsimp only at hi
          split at hi
          · rename_i c1 c2 M
            obtain ⟨hi, rfl⟩ := hi
            obtain ⟨rfl, rfl, h0, h1, hI⟩ := hi
            obtain ⟨⟨p3, p4, p5⟩, h⟩ := h
            simp only [wp, stp, drp, entL, eL, lget, lset, okst, cnd, swt, rcv, Kr_int, Kr_bool, Kr_void, List.length_cons, List.length_nil, List.replicate, List.append_nil, List.cons_append, List.nil_append, List.take_succ_cons, List.take_zero, List.drop_succ_cons, List.drop_zero, List.reverse_cons, List.reverse_nil, Option.map_some, Option.map_none, Option.toList_some, Option.toList_none, Nat.reduceAdd, Nat.reduceSub, Nat.reduceLT, Nat.reduceLeDiff, Nat.reduceEqDiff, ↓reduceIte, Nat.add_zero, Nat.zero_add, true_and, and_true, Nat.le_refl, reduceCtorEq, false_implies, true_implies, not_true_eq_false, not_false_eq_true, Int.reduceAdd, Int.reduceSub, Int.reduceMul, Int.reduceLE, Int.reduceLT, Int.reduceEq, Int.reduceNe, Int.reduceNeg, Int.reduceDiv, Int.reduceMod, Bool.false_eq_true, Int.le_refl, and_self, true_or, or_true, inR_l, fv0, fv1, fv2, fv3, nc2, nc4, nc6, nc16, nc25, nc60, nc65, nc80, nc130, nc384, nc390, fp_0_0, fp_0_1, fp_0_2, fp_1_0, fp_1_1, fp_1_2, fp_1_3, fp_1_4, fp_1_5, fp_1_6, fp_1_7, fp_1_8, fp_1_9, fp_1_10, fp_1_11, fp_1_12, fp_1_13, fp_1_14, fp_2_0, fp_2_1, fp_2_2, fp_2_3, fp_3_0, fp_3_1, fp_4_0, fp_4_1, fp_4_2, fp_4_3, fp_4_4, fp_4_5, fp_4_6, fp_4_7, fp_5_0, fp_5_1, fp_5_2, fp_5_3, fp_5_4, fp_5_5, fp_5_6, fp_5_7, fp_6_0, fp_6_1, fp_6_2, fp_6_3, fp_6_4, fp_6_5, fp_6_6, fp_6_7, fp_6_8, fp_6_9, fp_6_10, fp_6_11, fp_6_12, fp_6_13, fp_6_14, fp_6_15, fp_7_0, fp_7_1, fp_7_2, fp_7_3, fp_7_4, fp_7_5, fp_7_6, fp_7_7, fp_7_8, fp_7_9, fp_7_10, fp_7_11, fp_7_12, fp_7_13, fp_7_14, fp_7_15, fp_7_16, fp_7_17, fp_7_18, fp_7_19, fp_7_20, fp_7_21, fp_7_22, fp_7_23, fp_7_24, iz_0_1, iz_0_2, iz_1_8, iz_1_9, iz_1_11, iz_2_1, iz_2_2, iz_2_3, iz_3_1, iz_4_1, iz_4_2, iz_5_0, iz_6_8, iz_6_9, iz_6_13, iz_6_14, iz_6_15, iz_7_2, iz_7_6, iz_7_12, iz_7_20, iz_7_21, iz_7_23, iz_7_24, ak_8, ak_9, ak_10, ak_11, ak_12, ak_13, ak_14, ak_15, ak_16, ak_17, ak_18, ak_19, ak_20, ak_21, ak_22, ak_23, ak_24, ak_25, ak_26, ak_27, ak_28, ak_29, ak_30, ak_31, ak_32, ak_33, ak_34, ak_35, ak_36, ak_37, ak_38, ak_39, ak_40, ak_41, ak_42, ak_43, ak_44, ak_45, ak_46, ak_47, ak_48, ak_49, ak_50, ak_51, ak_52, ak_53, ak_54, ak_55, ak_56, el31, el33, el34, CX1_followOrders, ca_X1_followOrders, frX1, kcX1, klX1, T_X1_followOrder, up_ap, false_and, and_false, if_false, if_true, ite_true, ite_false, exists_eq_right_right, exists_eq_right, exists_eq_left, Nat.lt_irrefl, and_self, implies_true, forall_const]
            have e : ∀ t, t ≠ 20 → ∀ i x, σ' t i x = σ t i x := fun t ht i x => hI.1 t i x (fun q => ht q.1)
            have hB' : nB σ' n := by
              unfold nB
              rw [hI.1.f 15 n (by rintro x ⟨q, -⟩; omega), hI.1.f 16 n (by rintro x ⟨q, -⟩; omega), hI.1.f 17 n (by rintro x ⟨q, -⟩; omega), hI.1.f 18 n (by rintro x ⟨q, -⟩; omega), hI.1.f 19 n (by rintro x ⟨q, -⟩; omega)]
              exact p3
            have hq : M < 4 → qB σ' n i M := by
              intro q
              have := p5 M h0 q
              unfold qB at this ⊢
              simp only [e 13 (by omega), e 14 (by omega), e 19 (by omega)]
              exact this
            (repeat' (first | (with_reducible intro _) | (with_reducible refine And.intro ?_ ?_)))
            all_goals (try first | omega | exact ⟨by omega, by omega⟩)
            all_goals first | (exact h _ (by rw [show (4 : Int) = M by omega]; exact hI)) | (exact hB') | (exact hI.2.1) | (exact hq (by omega)) | (exact (hq (by omega)).1) | (exact Int.le_refl _) | (exact FS_s p3 hI h0 (by omega) (by rw [← e 13 (by omega)]; assumption))
          · exact hi.elim
        · cases hcut
      · simp only [wp, stp, drp, entL, eL, lget, lset, okst, cnd, swt, rcv, Kr_int, Kr_bool, Kr_void, List.length_cons, List.length_nil, List.replicate, List.append_nil, List.cons_append, List.nil_append, List.take_succ_cons, List.take_zero, List.drop_succ_cons, List.drop_zero, List.reverse_cons, List.reverse_nil, Option.map_some, Option.map_none, Option.toList_some, Option.toList_none, Nat.reduceAdd, Nat.reduceSub, Nat.reduceLT, Nat.reduceLeDiff, Nat.reduceEqDiff, ↓reduceIte, Nat.add_zero, Nat.zero_add, true_and, and_true, Nat.le_refl, reduceCtorEq, false_implies, true_implies, not_true_eq_false, not_false_eq_true, Int.reduceAdd, Int.reduceSub, Int.reduceMul, Int.reduceLE, Int.reduceLT, Int.reduceEq, Int.reduceNe, Int.reduceNeg, Int.reduceDiv, Int.reduceMod, Bool.false_eq_true, Int.le_refl, and_self, true_or, or_true, inR_l, fv0, fv1, fv2, fv3, nc2, nc4, nc6, nc16, nc25, nc60, nc65, nc80, nc130, nc384, nc390, fp_0_0, fp_0_1, fp_0_2, fp_1_0, fp_1_1, fp_1_2, fp_1_3, fp_1_4, fp_1_5, fp_1_6, fp_1_7, fp_1_8, fp_1_9, fp_1_10, fp_1_11, fp_1_12, fp_1_13, fp_1_14, fp_2_0, fp_2_1, fp_2_2, fp_2_3, fp_3_0, fp_3_1, fp_4_0, fp_4_1, fp_4_2, fp_4_3, fp_4_4, fp_4_5, fp_4_6, fp_4_7, fp_5_0, fp_5_1, fp_5_2, fp_5_3, fp_5_4, fp_5_5, fp_5_6, fp_5_7, fp_6_0, fp_6_1, fp_6_2, fp_6_3, fp_6_4, fp_6_5, fp_6_6, fp_6_7, fp_6_8, fp_6_9, fp_6_10, fp_6_11, fp_6_12, fp_6_13, fp_6_14, fp_6_15, fp_7_0, fp_7_1, fp_7_2, fp_7_3, fp_7_4, fp_7_5, fp_7_6, fp_7_7, fp_7_8, fp_7_9, fp_7_10, fp_7_11, fp_7_12, fp_7_13, fp_7_14, fp_7_15, fp_7_16, fp_7_17, fp_7_18, fp_7_19, fp_7_20, fp_7_21, fp_7_22, fp_7_23, fp_7_24, iz_0_1, iz_0_2, iz_1_8, iz_1_9, iz_1_11, iz_2_1, iz_2_2, iz_2_3, iz_3_1, iz_4_1, iz_4_2, iz_5_0, iz_6_8, iz_6_9, iz_6_13, iz_6_14, iz_6_15, iz_7_2, iz_7_6, iz_7_12, iz_7_20, iz_7_21, iz_7_23, iz_7_24, ak_8, ak_9, ak_10, ak_11, ak_12, ak_13, ak_14, ak_15, ak_16, ak_17, ak_18, ak_19, ak_20, ak_21, ak_22, ak_23, ak_24, ak_25, ak_26, ak_27, ak_28, ak_29, ak_30, ak_31, ak_32, ak_33, ak_34, ak_35, ak_36, ak_37, ak_38, ak_39, ak_40, ak_41, ak_42, ak_43, ak_44, ak_45, ak_46, ak_47, ak_48, ak_49, ak_50, ak_51, ak_52, ak_53, ak_54, ak_55, ak_56, el31, el33, el34, CX1_followOrders, ca_X1_followOrders, frX1, kcX1, klX1, T_X1_followOrder, up_ap, false_and, and_false, if_false, if_true, ite_true, ite_false, exists_eq_right_right, exists_eq_right, exists_eq_left, Nat.lt_irrefl, and_self, implies_true, forall_const]
        obtain ⟨⟨p3, p4, p5⟩, h⟩ := h
        (repeat' (first | (with_reducible intro _) | (with_reducible refine And.intro ?_ ?_)))
        all_goals (try first | omega | exact ⟨by omega, by omega⟩)
        all_goals first | (exact FS_0 p4)
    · exact h.elim
