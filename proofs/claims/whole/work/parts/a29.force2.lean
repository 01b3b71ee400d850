def ca_X7_force : Nat → Option (Nat × Nat × Tr)
  | 248 => some (1, 7, T_X7_findForced)
  | 102 => some (2, 7, T_X7_isOperation2)
  | 147 => some (2, 7, T_X7_throughOf3)
  | 251 => some (3, 7, T_X7_areTwo2)
  | 114 => some (2, 7, T_X7_endOf3)
  | 127 => some (2, 7, T_X7_withTail3)
  | 239 => some (3, 7, T_X7_isSet2)
  | 254 => some (1, 7, T_X7_isForcedBoth)
  | _ => none
theorem cao_X7_force (l : Launch) : ∀ k n' ci T', ca_X7_force k = some (n', ci, T') → ∃ nn, nn + 1 ≤ 4 ∧ Site l yX7_force.cls k n' ci nn T' := by
  intro k n' ci T' h
  unfold ca_X7_force at h
  split at h
  · cases h; exact ⟨3, by decide, _, _, _, _, k_X7_findForced l, Or.inl ⟨_, rfl, FX7_findForced, KRX7_248⟩⟩
  · cases h; exact ⟨1, by decide, _, _, _, _, k_X7_isOperation2 l, Or.inl ⟨_, rfl, FX7_isOperation, KRX7_102⟩⟩
  · cases h; exact ⟨1, by decide, _, _, _, _, k_X7_throughOf3 l, Or.inl ⟨_, rfl, FX7_throughOf, KRX7_147⟩⟩
  · cases h; exact ⟨2, by decide, _, _, _, _, k_X7_areTwo2 l, Or.inl ⟨_, rfl, FX7_areTwo, KRX7_251⟩⟩
  · cases h; exact ⟨1, by decide, _, _, _, _, k_X7_endOf3 l, Or.inl ⟨_, rfl, FX7_endOf, KRX7_114⟩⟩
  · cases h; exact ⟨1, by decide, _, _, _, _, k_X7_withTail3 l, Or.inl ⟨_, rfl, FX7_withTail, KRX7_127⟩⟩
  · cases h; exact ⟨0, by decide, _, _, _, _, k_X7_isSet2 l, Or.inl ⟨_, rfl, FX7_isSet, KRX7_239⟩⟩
  · cases h; exact ⟨1, by decide, _, _, _, _, k_X7_isForcedBoth l, Or.inl ⟨_, rfl, FX7_isForcedBoth, KRX7_254⟩⟩
  · cases h
def T_X7_force : Tr := fun a σ K => match a with
  | [.inr (.inl (7, 0)), .inl u] => rWF σ ∧ (∀ σ', FOT σ σ' u → K (some 1) σ') ∧ (∀ σ', FrG p4556 σ σ' → (∀ C, ¬ rClo σ u C) → K (some 0) σ')
  | _ => False
set_option maxHeartbeats 8000000 in
set_option maxRecDepth 20000 in
theorem k_X7_force (l : Launch) : Ct l yX7_force cX7_force 5 (some .boolean) 4 T_X7_force := by
  refine mk_met (by decide +kernel) hCX7_force lCX7_force frX7_ok cstX7_ok (cao_X7_force l) ?_ ?_
  · intro a σ K h
    unfold T_X7_force at h
    split at h
    · simp [eL]
    · exact h.elim
  · intro a σ K ha hR h
    unfold T_X7_force at h
    split at h
    · rename_i u
      refine ⟨fun pc => if pc = 2 then some (fun L S σ' k => match L, S with | [some (.inr (.inl c1)), some (.inl u'), some (.inl x), _, _], [] => (c1 = (7, 0) ∧ u' = u ∧ 0 ≤ x ∧ x ≤ 16 ∧ FO0 σ σ' x) ∧ k = (1000000 - x).toNat | _, _ => False) else if pc = 23 then some (fun L S σ' k => match L, S with | [some (.inr (.inl c1)), some (.inl u'), some (.inl mo), _, _], [] => (c1 = (7, 0) ∧ u' = u ∧ ((mo = 0 ∧ FOT σ σ' u) ∨ (mo = 1 ∧ FOr σ σ' u))) ∧ k = ((256 - cfA σ') * 1000 + 500 * mo).toNat | _, _ => False) else if pc = 40 then some (fun L S σ' k => match L, S with | [some (.inr (.inl c1)), some (.inl u'), some (.inl mo), some (.inl x), _], [] => (c1 = (7, 0) ∧ u' = u ∧ 0 ≤ x ∧ x ≤ 16 ∧ FOx σ σ' u x x 0 mo) ∧ k = ((256 - cfA σ' + mo) * 1000 + 400 - 20 * x).toNat | _, _ => False) else if pc = 68 then some (fun L S σ' k => match L, S with | [some (.inr (.inl c1)), some (.inl u'), some (.inl mo), some (.inl x), some (.inl y)], [] => (c1 = (7, 0) ∧ u' = u ∧ 0 ≤ x ∧ x < 16 ∧ 0 ≤ y ∧ y ≤ 16 ∧ FOx σ σ' u (x + 1) x y mo) ∧ k = ((256 - cfA σ' + mo) * 1000 + 400 - 20 * x - 1 - y).toNat | _, _ => False) else none, 200, ?_, ?_⟩
      · intro pc I L S σ' k hcut hi
        dsimp only at hcut
        split at hcut
        · rename_i hpc
          subst hpc
          cases hcut
          try dsimp only at hi
          split at hi
          · rename_i c1 u' x x1 x2
            obtain ⟨hi, rfl⟩ := hi
            obtain ⟨rfl, rfl, h0, h1, hI⟩ := hi
            obtain ⟨p, hT, hN⟩ := h
            simp only [wp, stp, drp, entL, eL, lget, lset, okst, cnd, swt, rcv, Kr_int, Kr_bool, Kr_void, List.length_cons, List.length_nil, List.replicate, List.append_nil, List.cons_append, List.nil_append, List.take_succ_cons, List.take_zero, List.drop_succ_cons, List.drop_zero, List.reverse_cons, List.reverse_nil, Option.map_some, Option.map_none, Option.toList_some, Option.toList_none, Nat.reduceAdd, Nat.reduceSub, Nat.reduceLT, Nat.reduceLeDiff, Nat.reduceEqDiff, ↓reduceIte, Nat.add_zero, Nat.zero_add, true_and, and_true, Nat.le_refl, reduceCtorEq, false_implies, true_implies, not_true_eq_false, not_false_eq_true, Int.reduceAdd, Int.reduceSub, Int.reduceMul, Int.reduceLE, Int.reduceLT, Int.reduceEq, Int.reduceNe, Int.reduceNeg, Int.reduceDiv, Int.reduceMod, Bool.false_eq_true, Int.le_refl, and_self, true_or, or_true, inR_l, fv0, fv1, fv2, fv3, nc2, nc4, nc6, nc16, nc25, nc60, nc65, nc80, nc130, nc384, nc390, fp_0_0, fp_0_1, fp_0_2, fp_1_0, fp_1_1, fp_1_2, fp_1_3, fp_1_4, fp_1_5, fp_1_6, fp_1_7, fp_1_8, fp_1_9, fp_1_10, fp_1_11, fp_1_12, fp_1_13, fp_1_14, fp_2_0, fp_2_1, fp_2_2, fp_2_3, fp_3_0, fp_3_1, fp_4_0, fp_4_1, fp_4_2, fp_4_3, fp_4_4, fp_4_5, fp_4_6, fp_4_7, fp_5_0, fp_5_1, fp_5_2, fp_5_3, fp_5_4, fp_5_5, fp_5_6, fp_5_7, fp_6_0, fp_6_1, fp_6_2, fp_6_3, fp_6_4, fp_6_5, fp_6_6, fp_6_7, fp_6_8, fp_6_9, fp_6_10, fp_6_11, fp_6_12, fp_6_13, fp_6_14, fp_6_15, fp_7_0, fp_7_1, fp_7_2, fp_7_3, fp_7_4, fp_7_5, fp_7_6, fp_7_7, fp_7_8, fp_7_9, fp_7_10, fp_7_11, fp_7_12, fp_7_13, fp_7_14, fp_7_15, fp_7_16, fp_7_17, fp_7_18, fp_7_19, fp_7_20, fp_7_21, fp_7_22, fp_7_23, fp_7_24, iz_0_1, iz_0_2, iz_1_8, iz_1_9, iz_1_11, iz_2_1, iz_2_2, iz_2_3, iz_3_1, iz_4_1, iz_4_2, iz_5_0, iz_6_8, iz_6_9, iz_6_13, iz_6_14, iz_6_15, iz_7_2, iz_7_6, iz_7_12, iz_7_20, iz_7_21, iz_7_23, iz_7_24, ak_8, ak_9, ak_10, ak_11, ak_12, ak_13, ak_14, ak_15, ak_16, ak_17, ak_18, ak_19, ak_20, ak_21, ak_22, ak_23, ak_24, ak_25, ak_26, ak_27, ak_28, ak_29, ak_30, ak_31, ak_32, ak_33, ak_34, ak_35, ak_36, ak_37, ak_38, ak_39, ak_40, ak_41, ak_42, ak_43, ak_44, ak_45, ak_46, ak_47, ak_48, ak_49, ak_50, ak_51, ak_52, ak_53, ak_54, ak_55, ak_56, el31, el33, el34, CX7_force, ca_X7_force, frX7, kcX7, klX7, T_X7_findForced, T_X7_isOperation2, T_X7_throughOf3, T_X7_areTwo2, T_X7_endOf3, T_X7_withTail3, T_X7_isSet2, T_X7_isForcedBoth, up_ap, false_and, and_false, if_false, if_true, ite_true, ite_false, exists_eq_right_right, exists_eq_right, exists_eq_left, Nat.lt_irrefl, and_self, implies_true, forall_const]
            have hc := cfA_r σ'
            exact ⟨fun a => ⟨by omega, Or.inr (FOr_0 hI a)⟩, fun a => ⟨by omega, by simp only [inR]; omega, by omega, by omega, by omega, FO0_s hI⟩⟩
          · exact hi.elim
        · split at hcut
          · rename_i hpc
            subst hpc
            cases hcut
            try dsimp only at hi
            split at hi
            · rename_i c1 u' mo x1 x2
              obtain ⟨hi, rfl⟩ := hi
              obtain ⟨rfl, rfl, hI⟩ := hi
              obtain ⟨p, hT, hN⟩ := h
              simp only [wp, stp, drp, entL, eL, lget, lset, okst, cnd, swt, rcv, Kr_int, Kr_bool, Kr_void, List.length_cons, List.length_nil, List.replicate, List.append_nil, List.cons_append, List.nil_append, List.take_succ_cons, List.take_zero, List.drop_succ_cons, List.drop_zero, List.reverse_cons, List.reverse_nil, Option.map_some, Option.map_none, Option.toList_some, Option.toList_none, Nat.reduceAdd, Nat.reduceSub, Nat.reduceLT, Nat.reduceLeDiff, Nat.reduceEqDiff, ↓reduceIte, Nat.add_zero, Nat.zero_add, true_and, and_true, Nat.le_refl, reduceCtorEq, false_implies, true_implies, not_true_eq_false, not_false_eq_true, Int.reduceAdd, Int.reduceSub, Int.reduceMul, Int.reduceLE, Int.reduceLT, Int.reduceEq, Int.reduceNe, Int.reduceNeg, Int.reduceDiv, Int.reduceMod, Bool.false_eq_true, Int.le_refl, and_self, true_or, or_true, inR_l, fv0, fv1, fv2, fv3, nc2, nc4, nc6, nc16, nc25, nc60, nc65, nc80, nc130, nc384, nc390, fp_0_0, fp_0_1, fp_0_2, fp_1_0, fp_1_1, fp_1_2, fp_1_3, fp_1_4, fp_1_5, fp_1_6, fp_1_7, fp_1_8, fp_1_9, fp_1_10, fp_1_11, fp_1_12, fp_1_13, fp_1_14, fp_2_0, fp_2_1, fp_2_2, fp_2_3, fp_3_0, fp_3_1, fp_4_0, fp_4_1, fp_4_2, fp_4_3, fp_4_4, fp_4_5, fp_4_6, fp_4_7, fp_5_0, fp_5_1, fp_5_2, fp_5_3, fp_5_4, fp_5_5, fp_5_6, fp_5_7, fp_6_0, fp_6_1, fp_6_2, fp_6_3, fp_6_4, fp_6_5, fp_6_6, fp_6_7, fp_6_8, fp_6_9, fp_6_10, fp_6_11, fp_6_12, fp_6_13, fp_6_14, fp_6_15, fp_7_0, fp_7_1, fp_7_2, fp_7_3, fp_7_4, fp_7_5, fp_7_6, fp_7_7, fp_7_8, fp_7_9, fp_7_10, fp_7_11, fp_7_12, fp_7_13, fp_7_14, fp_7_15, fp_7_16, fp_7_17, fp_7_18, fp_7_19, fp_7_20, fp_7_21, fp_7_22, fp_7_23, fp_7_24, iz_0_1, iz_0_2, iz_1_8, iz_1_9, iz_1_11, iz_2_1, iz_2_2, iz_2_3, iz_3_1, iz_4_1, iz_4_2, iz_5_0, iz_6_8, iz_6_9, iz_6_13, iz_6_14, iz_6_15, iz_7_2, iz_7_6, iz_7_12, iz_7_20, iz_7_21, iz_7_23, iz_7_24, ak_8, ak_9, ak_10, ak_11, ak_12, ak_13, ak_14, ak_15, ak_16, ak_17, ak_18, ak_19, ak_20, ak_21, ak_22, ak_23, ak_24, ak_25, ak_26, ak_27, ak_28, ak_29, ak_30, ak_31, ak_32, ak_33, ak_34, ak_35, ak_36, ak_37, ak_38, ak_39, ak_40, ak_41, ak_42, ak_43, ak_44, ak_45, ak_46, ak_47, ak_48, ak_49, ak_50, ak_51, ak_52, ak_53, ak_54, ak_55, ak_56, el31, el33, el34, CX7_force, ca_X7_force, frX7, kcX7, klX7, T_X7_findForced, T_X7_isOperation2, T_X7_throughOf3, T_X7_areTwo2, T_X7_endOf3, T_X7_withTail3, T_X7_isSet2, T_X7_isForcedBoth, up_ap, false_and, and_false, if_false, if_true, ite_true, ite_false, exists_eq_right_right, exists_eq_right, exists_eq_left, Nat.lt_irrefl, and_self, implies_true, forall_const]
              have hc := cfA_r σ'
              refine ⟨fun a => ?_, fun a => ?_⟩
              · rcases hI with ⟨-, q⟩ | ⟨q, -⟩
                · exact hT σ' q
                · omega
              · rcases hI with ⟨q, -⟩ | ⟨q, hO⟩
                · exact absurd q a
                · have g := FOr_g p hO
                  have ec : ∀ σ2, FrG p456 σ' σ2 → cfA σ2 = cfA σ' := fun σ2 hF => by
                    have e54 := (p456_e hF).2
                    unfold cfA rFA
                    rw [e54]
                  refine ⟨g.1, fun σ2 hF hb hh ht => ⟨?_, FOx_0 hO hF hb hh ht⟩, fun σ2 hF hn => hN σ2 (hO.1.t (hF.w (by rintro t a x ⟨q, r⟩; exact ⟨by omega, r⟩))) (FOr_no p hO hn)⟩
                  rw [ec σ2 hF]
                  omega
            · exact hi.elim
          · split at hcut
            · rename_i hpc
              subst hpc
              cases hcut
              try dsimp only at hi
              split at hi
              · rename_i c1 u' mo x x2
                obtain ⟨hi, rfl⟩ := hi
                obtain ⟨rfl, rfl, h0, h1, hI⟩ := hi
                obtain ⟨p, hT, hN⟩ := h
                have hk := FOx_v p hI
                simp only [wp, stp, drp, entL, eL, lget, lset, okst, cnd, swt, rcv, Kr_int, Kr_bool, Kr_void, List.length_cons, List.length_nil, List.replicate, List.append_nil, List.cons_append, List.nil_append, List.take_succ_cons, List.take_zero, List.drop_succ_cons, List.drop_zero, List.reverse_cons, List.reverse_nil, Option.map_some, Option.map_none, Option.toList_some, Option.toList_none, Nat.reduceAdd, Nat.reduceSub, Nat.reduceLT, Nat.reduceLeDiff, Nat.reduceEqDiff, ↓reduceIte, Nat.add_zero, Nat.zero_add, true_and, and_true, Nat.le_refl, reduceCtorEq, false_implies, true_implies, not_true_eq_false, not_false_eq_true, Int.reduceAdd, Int.reduceSub, Int.reduceMul, Int.reduceLE, Int.reduceLT, Int.reduceEq, Int.reduceNe, Int.reduceNeg, Int.reduceDiv, Int.reduceMod, Bool.false_eq_true, Int.le_refl, and_self, true_or, or_true, inR_l, fv0, fv1, fv2, fv3, nc2, nc4, nc6, nc16, nc25, nc60, nc65, nc80, nc130, nc384, nc390, fp_0_0, fp_0_1, fp_0_2, fp_1_0, fp_1_1, fp_1_2, fp_1_3, fp_1_4, fp_1_5, fp_1_6, fp_1_7, fp_1_8, fp_1_9, fp_1_10, fp_1_11, fp_1_12, fp_1_13, fp_1_14, fp_2_0, fp_2_1, fp_2_2, fp_2_3, fp_3_0, fp_3_1, fp_4_0, fp_4_1, fp_4_2, fp_4_3, fp_4_4, fp_4_5, fp_4_6, fp_4_7, fp_5_0, fp_5_1, fp_5_2, fp_5_3, fp_5_4, fp_5_5, fp_5_6, fp_5_7, fp_6_0, fp_6_1, fp_6_2, fp_6_3, fp_6_4, fp_6_5, fp_6_6, fp_6_7, fp_6_8, fp_6_9, fp_6_10, fp_6_11, fp_6_12, fp_6_13, fp_6_14, fp_6_15, fp_7_0, fp_7_1, fp_7_2, fp_7_3, fp_7_4, fp_7_5, fp_7_6, fp_7_7, fp_7_8, fp_7_9, fp_7_10, fp_7_11, fp_7_12, fp_7_13, fp_7_14, fp_7_15, fp_7_16, fp_7_17, fp_7_18, fp_7_19, fp_7_20, fp_7_21, fp_7_22, fp_7_23, fp_7_24, iz_0_1, iz_0_2, iz_1_8, iz_1_9, iz_1_11, iz_2_1, iz_2_2, iz_2_3, iz_3_1, iz_4_1, iz_4_2, iz_5_0, iz_6_8, iz_6_9, iz_6_13, iz_6_14, iz_6_15, iz_7_2, iz_7_6, iz_7_12, iz_7_20, iz_7_21, iz_7_23, iz_7_24, ak_8, ak_9, ak_10, ak_11, ak_12, ak_13, ak_14, ak_15, ak_16, ak_17, ak_18, ak_19, ak_20, ak_21, ak_22, ak_23, ak_24, ak_25, ak_26, ak_27, ak_28, ak_29, ak_30, ak_31, ak_32, ak_33, ak_34, ak_35, ak_36, ak_37, ak_38, ak_39, ak_40, ak_41, ak_42, ak_43, ak_44, ak_45, ak_46, ak_47, ak_48, ak_49, ak_50, ak_51, ak_52, ak_53, ak_54, ak_55, ak_56, el31, el33, el34, CX7_force, ca_X7_force, frX7, kcX7, klX7, T_X7_findForced, T_X7_isOperation2, T_X7_throughOf3, T_X7_areTwo2, T_X7_endOf3, T_X7_withTail3, T_X7_isSet2, T_X7_isForcedBoth, up_ap, false_and, and_false, if_false, if_true, ite_true, ite_false, exists_eq_right_right, exists_eq_right, exists_eq_left, Nat.lt_irrefl, and_self, implies_true, forall_const]
                have hc := cfA_r σ'
                rw [hk.2.2.1]
                obtain ⟨k1, k2, -, k4, k5, k6, k7, k8, -⟩ := hk
                refine ⟨fun a => ⟨fun b => ⟨?_, Or.inl ⟨b, ?_⟩⟩, fun b => ⟨fun c => hN σ' k7 (FOr_both p (FOx_end hI) c), fun _ => ⟨by omega, Or.inr ⟨by omega, FOx_end hI⟩⟩⟩⟩, fun a => ⟨k2, fun v => ⟨⟨k1, v⟩, fun b => ⟨by omega, h0, by omega, FOx_x hI (fun _ => by rw [k4] at b; exact b)⟩, fun b => hN σ' k7 (FOx_long p hI v (by omega))⟩, fun v => ⟨by omega, h0, by omega, FOx_x hI (fun w => absurd w v)⟩⟩⟩
                · rw [b]
                  omega
                · rw [b] at hI
                  exact FOx_t hI a a
              · exact hi.elim
            · split at hcut
              · rename_i hpc
                subst hpc
                cases hcut
                try dsimp only at hi
                split at hi
                · rename_i c1 u' mo x y
                  obtain ⟨hi, rfl⟩ := hi
                  obtain ⟨rfl, rfl, h0, h1, h2, h3, hI⟩ := hi
                  obtain ⟨p, hT, hN⟩ := h
                  have hk := FOx_v p hI
                  simp only [wp, stp, drp, entL, eL, lget, lset, okst, cnd, swt, rcv, Kr_int, Kr_bool, Kr_void, List.length_cons, List.length_nil, List.replicate, List.append_nil, List.cons_append, List.nil_append, List.take_succ_cons, List.take_zero, List.drop_succ_cons, List.drop_zero, List.reverse_cons, List.reverse_nil, Option.map_some, Option.map_none, Option.toList_some, Option.toList_none, Nat.reduceAdd, Nat.reduceSub, Nat.reduceLT, Nat.reduceLeDiff, Nat.reduceEqDiff, ↓reduceIte, Nat.add_zero, Nat.zero_add, true_and, and_true, Nat.le_refl, reduceCtorEq, false_implies, true_implies, not_true_eq_false, not_false_eq_true, Int.reduceAdd, Int.reduceSub, Int.reduceMul, Int.reduceLE, Int.reduceLT, Int.reduceEq, Int.reduceNe, Int.reduceNeg, Int.reduceDiv, Int.reduceMod, Bool.false_eq_true, Int.le_refl, and_self, true_or, or_true, inR_l, fv0, fv1, fv2, fv3, nc2, nc4, nc6, nc16, nc25, nc60, nc65, nc80, nc130, nc384, nc390, fp_0_0, fp_0_1, fp_0_2, fp_1_0, fp_1_1, fp_1_2, fp_1_3, fp_1_4, fp_1_5, fp_1_6, fp_1_7, fp_1_8, fp_1_9, fp_1_10, fp_1_11, fp_1_12, fp_1_13, fp_1_14, fp_2_0, fp_2_1, fp_2_2, fp_2_3, fp_3_0, fp_3_1, fp_4_0, fp_4_1, fp_4_2, fp_4_3, fp_4_4, fp_4_5, fp_4_6, fp_4_7, fp_5_0, fp_5_1, fp_5_2, fp_5_3, fp_5_4, fp_5_5, fp_5_6, fp_5_7, fp_6_0, fp_6_1, fp_6_2, fp_6_3, fp_6_4, fp_6_5, fp_6_6, fp_6_7, fp_6_8, fp_6_9, fp_6_10, fp_6_11, fp_6_12, fp_6_13, fp_6_14, fp_6_15, fp_7_0, fp_7_1, fp_7_2, fp_7_3, fp_7_4, fp_7_5, fp_7_6, fp_7_7, fp_7_8, fp_7_9, fp_7_10, fp_7_11, fp_7_12, fp_7_13, fp_7_14, fp_7_15, fp_7_16, fp_7_17, fp_7_18, fp_7_19, fp_7_20, fp_7_21, fp_7_22, fp_7_23, fp_7_24, iz_0_1, iz_0_2, iz_1_8, iz_1_9, iz_1_11, iz_2_1, iz_2_2, iz_2_3, iz_3_1, iz_4_1, iz_4_2, iz_5_0, iz_6_8, iz_6_9, iz_6_13, iz_6_14, iz_6_15, iz_7_2, iz_7_6, iz_7_12, iz_7_20, iz_7_21, iz_7_23, iz_7_24, ak_8, ak_9, ak_10, ak_11, ak_12, ak_13, ak_14, ak_15, ak_16, ak_17, ak_18, ak_19, ak_20, ak_21, ak_22, ak_23, ak_24, ak_25, ak_26, ak_27, ak_28, ak_29, ak_30, ak_31, ak_32, ak_33, ak_34, ak_35, ak_36, ak_37, ak_38, ak_39, ak_40, ak_41, ak_42, ak_43, ak_44, ak_45, ak_46, ak_47, ak_48, ak_49, ak_50, ak_51, ak_52, ak_53, ak_54, ak_55, ak_56, el31, el33, el34, CX7_force, ca_X7_force, frX7, kcX7, klX7, T_X7_findForced, T_X7_isOperation2, T_X7_throughOf3, T_X7_areTwo2, T_X7_endOf3, T_X7_withTail3, T_X7_isSet2, T_X7_isForcedBoth, up_ap, false_and, and_false, if_false, if_true, ite_true, ite_false, exists_eq_right_right, exists_eq_right, exists_eq_left, Nat.lt_irrefl, and_self, implies_true, forall_const]
                  have hc := cfA_r σ'
                  have k3 := hk.2.2.1
                  obtain ⟨k1, k2, -, k4, k5, k6, k7, k8, -⟩ := hk
                  have N : ¬ 16 ≤ y → FOx σ σ' u' (x + 1) x (y + 1) mo → inR (y + 1) ∧ ((256 - cfA σ' + mo) * 1000 + 400 - 20 * x - 1 - (y + 1)).toNat < ((256 - cfA σ' + mo) * 1000 + 400 - 20 * x - 1 - y).toNat ∧ 0 ≤ x ∧ x < 16 ∧ 0 ≤ y + 1 ∧ y + 1 ≤ 16 ∧ FOx σ σ' u' (x + 1) x (y + 1) mo := fun a q => ⟨by simp only [inR]; omega, by omega, h0, h1, by omega, by omega, q⟩
                  refine ⟨fun a => ⟨by simp only [inR]; omega, by omega, by omega, by omega, FOx_row hI a⟩, fun a => ⟨k2, fun v => ⟨⟨k1, v.2.1⟩, ⟨k1, v.2.2.1⟩, ?_, fun b => N a (FOx_no hI (fun _ w => by rw [k4, k5] at b; omega)), fun b => ⟨⟨h0, h1⟩, fun c => N a (FOx_no hI (fun _ _ => c)), fun c => ?_⟩⟩, fun v => N a (FOx_no hI (fun q => absurd ((k6 x y).mpr q) v))⟩⟩
                  · have b1 := k1.2 x v.2.1
                    have b2 := k1.2 y v.2.2.1
                    have w1 := rWF_op k2 v.2.1
                    have w2 := rWF_op k2 v.2.2.1
                    unfold eF wTF
                    simp only [inR]
                    omega
                  · have ad := FOx_add (σ2 := up σ' 54 0 x (bor (σ' 54 0 x) (bshl 1 y))) p hI ((k6 x y).mp v) (by rw [k4, k5] at b; omega) c rfl
                    have hc2 := cfA_r (up σ' 54 0 x (bor (σ' 54 0 x) (bshl 1 y)))
                    exact ⟨⟨h0, h1⟩, ⟨h0, h1⟩, by simp only [inR]; omega, by omega, h0, h1, by omega, by omega, ad.1⟩
                · exact hi.elim
              · cases hcut
      · simp only [wp, stp, drp, entL, eL, lget, lset, okst, cnd, swt, rcv, Kr_int, Kr_bool, Kr_void, List.length_cons, List.length_nil, List.replicate, List.append_nil, List.cons_append, List.nil_append, List.take_succ_cons, List.take_zero, List.drop_succ_cons, List.drop_zero, List.reverse_cons, List.reverse_nil, Option.map_some, Option.map_none, Option.toList_some, Option.toList_none, Nat.reduceAdd, Nat.reduceSub, Nat.reduceLT, Nat.reduceLeDiff, Nat.reduceEqDiff, ↓reduceIte, Nat.add_zero, Nat.zero_add, true_and, and_true, Nat.le_refl, reduceCtorEq, false_implies, true_implies, not_true_eq_false, not_false_eq_true, Int.reduceAdd, Int.reduceSub, Int.reduceMul, Int.reduceLE, Int.reduceLT, Int.reduceEq, Int.reduceNe, Int.reduceNeg, Int.reduceDiv, Int.reduceMod, Bool.false_eq_true, Int.le_refl, and_self, true_or, or_true, inR_l, fv0, fv1, fv2, fv3, nc2, nc4, nc6, nc16, nc25, nc60, nc65, nc80, nc130, nc384, nc390, fp_0_0, fp_0_1, fp_0_2, fp_1_0, fp_1_1, fp_1_2, fp_1_3, fp_1_4, fp_1_5, fp_1_6, fp_1_7, fp_1_8, fp_1_9, fp_1_10, fp_1_11, fp_1_12, fp_1_13, fp_1_14, fp_2_0, fp_2_1, fp_2_2, fp_2_3, fp_3_0, fp_3_1, fp_4_0, fp_4_1, fp_4_2, fp_4_3, fp_4_4, fp_4_5, fp_4_6, fp_4_7, fp_5_0, fp_5_1, fp_5_2, fp_5_3, fp_5_4, fp_5_5, fp_5_6, fp_5_7, fp_6_0, fp_6_1, fp_6_2, fp_6_3, fp_6_4, fp_6_5, fp_6_6, fp_6_7, fp_6_8, fp_6_9, fp_6_10, fp_6_11, fp_6_12, fp_6_13, fp_6_14, fp_6_15, fp_7_0, fp_7_1, fp_7_2, fp_7_3, fp_7_4, fp_7_5, fp_7_6, fp_7_7, fp_7_8, fp_7_9, fp_7_10, fp_7_11, fp_7_12, fp_7_13, fp_7_14, fp_7_15, fp_7_16, fp_7_17, fp_7_18, fp_7_19, fp_7_20, fp_7_21, fp_7_22, fp_7_23, fp_7_24, iz_0_1, iz_0_2, iz_1_8, iz_1_9, iz_1_11, iz_2_1, iz_2_2, iz_2_3, iz_3_1, iz_4_1, iz_4_2, iz_5_0, iz_6_8, iz_6_9, iz_6_13, iz_6_14, iz_6_15, iz_7_2, iz_7_6, iz_7_12, iz_7_20, iz_7_21, iz_7_23, iz_7_24, ak_8, ak_9, ak_10, ak_11, ak_12, ak_13, ak_14, ak_15, ak_16, ak_17, ak_18, ak_19, ak_20, ak_21, ak_22, ak_23, ak_24, ak_25, ak_26, ak_27, ak_28, ak_29, ak_30, ak_31, ak_32, ak_33, ak_34, ak_35, ak_36, ak_37, ak_38, ak_39, ak_40, ak_41, ak_42, ak_43, ak_44, ak_45, ak_46, ak_47, ak_48, ak_49, ak_50, ak_51, ak_52, ak_53, ak_54, ak_55, ak_56, el31, el33, el34, CX7_force, ca_X7_force, frX7, kcX7, klX7, T_X7_findForced, T_X7_isOperation2, T_X7_throughOf3, T_X7_areTwo2, T_X7_endOf3, T_X7_withTail3, T_X7_isSet2, T_X7_isForcedBoth, up_ap, false_and, and_false, if_false, if_true, ite_true, ite_false, exists_eq_right_right, exists_eq_right, exists_eq_left, Nat.lt_irrefl, and_self, implies_true, forall_const]
        exact FO0_0
    · exact h.elim
