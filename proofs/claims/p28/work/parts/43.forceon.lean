def ca_X1_forceOn : Nat → Option (Nat × Nat × Tr)
  | 113 => some (3, 1, T_X1_undecided)
  | 116 => some (3, 1, T_X1_wayThrough)
  | 119 => some (3, 1, T_X1_decide)
  | _ => none
theorem cao_X1_forceOn (l : Launch) : ∀ k n' ci T', ca_X1_forceOn k = some (n', ci, T') → ∃ nn, nn + 1 ≤ 2 ∧ Site l yX1_forceOn.cls k n' ci nn T' := by
  intro k n' ci T' h
  unfold ca_X1_forceOn at h
  split at h
  · cases h; exact ⟨1, by decide, _, _, _, _, k_X1_undecided l, Or.inl ⟨_, rfl, FX1_undecided, KRX1_113⟩⟩
  · cases h; exact ⟨1, by decide, _, _, _, _, k_X1_wayThrough l, Or.inl ⟨_, rfl, FX1_wayThrough, KRX1_116⟩⟩
  · cases h; exact ⟨0, by decide, _, _, _, _, k_X1_decide l, Or.inl ⟨_, rfl, FX1_decide, KRX1_119⟩⟩
  · cases h
def T_X1_forceOn : Tr := fun a σ K => match a with
  | [.inr (.inl (1, n)), .inl m, .inl u] => (0 ≤ m ∧ m < 4 ∧ nB σ n ∧ nA σ n ∧ nH σ n) ∧ (∀ σ', FrG (pAh n) σ σ' → nA σ' n → bth σ n u → K (some (-5)) σ') ∧ (∀ r σ', FoI σ σ' n u (prM m) r → 0 ≤ r → r ≤ 24 → K (some r) σ')
  | _ => False
set_option maxHeartbeats 8000000 in
set_option maxRecDepth 20000 in
theorem k_X1_forceOn (l : Launch) : Ct l yX1_forceOn cX1_forceOn 10 (some .int) 2 T_X1_forceOn := by
  refine mk_met (by decide +kernel) hCX1_forceOn lCX1_forceOn frX1_ok cstX1_ok (cao_X1_forceOn l) ?_ ?_
  · intro a σ K h
    unfold T_X1_forceOn at h
    split at h
    · simp [eL]
    · exact h.elim
  · intro a σ K ha hR h
    unfold T_X1_forceOn at h
    split at h
    · rename_i n m u
      refine ⟨fun pc => if pc = 5 then some (fun L S σ' k => match L, S with | [some (.inr (.inl c1)), some (.inl m'), some (.inl u'), some (.inl nw), some (.inl a), _, _, _, _, _], [] => (c1 = (1, n) ∧ m' = m ∧ u' = u ∧ 0 ≤ a ∧ a ≤ 4 ∧ FoI σ σ' n u (prA m a (a + 1)) nw) ∧ k = (10 - a).toNat * 100 | _, _ => False) else if pc = 17 then some (fun L S σ' k => match L, S with | [some (.inr (.inl c1)), some (.inl m'), some (.inl u'), some (.inl nw), some (.inl a), some (.inl b), _, _, _, _], [] => (c1 = (1, n) ∧ m' = m ∧ u' = u ∧ 0 ≤ a ∧ a < 4 ∧ a < b ∧ b ≤ 4 ∧ FoI σ σ' n u (prA m a b) nw) ∧ k = (9 - a).toNat * 100 + (20 - b).toNat | _, _ => False) else none, 200, ?_, ?_⟩
      · intro pc I L S σ' k hcut hi
        dsimp only at hcut
        split at hcut
        · rename_i hpc
          subst hpc
          cases hcut
          try dsimp only at hi
          split at hi
          · rename_i c1 m' u' nw a x1 x2 x3 x4 x5
            obtain ⟨hi, rfl⟩ := hi
            obtain ⟨rfl, rfl, rfl, h0, h1, hI⟩ := hi
            obtain ⟨⟨p1, p2, p3, p4, p5⟩, hbad, h⟩ := h
            simp only [wp, stp, drp, entL, eL, lget, lset, okst, cnd, swt, rcv, Kr_int, Kr_bool, Kr_void, List.length_cons, List.length_nil, List.replicate, List.append_nil, List.cons_append, List.nil_append, List.take_succ_cons, List.take_zero, List.drop_succ_cons, List.drop_zero, List.reverse_cons, List.reverse_nil, Option.map_some, Option.map_none, Option.toList_some, Option.toList_none, Nat.reduceAdd, Nat.reduceSub, Nat.reduceLT, Nat.reduceLeDiff, Nat.reduceEqDiff, ↓reduceIte, Nat.add_zero, Nat.zero_add, true_and, and_true, Nat.le_refl, reduceCtorEq, false_implies, true_implies, not_true_eq_false, not_false_eq_true, Int.reduceAdd, Int.reduceSub, Int.reduceMul, Int.reduceLE, Int.reduceLT, Int.reduceEq, Int.reduceNe, Int.reduceNeg, Int.reduceDiv, Int.reduceMod, Bool.false_eq_true, Int.le_refl, and_self, true_or, or_true, inR_l, fv0, fv1, fv2, fv3, nc2, nc4, nc6, nc16, nc25, nc60, nc65, nc80, nc130, nc384, nc390, fp_0_0, fp_0_1, fp_0_2, fp_1_0, fp_1_1, fp_1_2, fp_1_3, fp_1_4, fp_1_5, fp_1_6, fp_1_7, fp_1_8, fp_1_9, fp_1_10, fp_1_11, fp_1_12, fp_1_13, fp_1_14, fp_2_0, fp_2_1, fp_2_2, fp_2_3, fp_3_0, fp_3_1, fp_4_0, fp_4_1, fp_4_2, fp_4_3, fp_4_4, fp_4_5, fp_4_6, fp_4_7, fp_5_0, fp_5_1, fp_5_2, fp_5_3, fp_5_4, fp_5_5, fp_5_6, fp_5_7, fp_6_0, fp_6_1, fp_6_2, fp_6_3, fp_6_4, fp_6_5, fp_6_6, fp_6_7, fp_6_8, fp_6_9, fp_6_10, fp_6_11, fp_6_12, fp_6_13, fp_6_14, fp_6_15, fp_7_0, fp_7_1, fp_7_2, fp_7_3, fp_7_4, fp_7_5, fp_7_6, fp_7_7, fp_7_8, fp_7_9, fp_7_10, fp_7_11, fp_7_12, fp_7_13, fp_7_14, fp_7_15, fp_7_16, fp_7_17, fp_7_18, fp_7_19, fp_7_20, fp_7_21, fp_7_22, fp_7_23, fp_7_24, iz_0_1, iz_0_2, iz_1_8, iz_1_9, iz_1_11, iz_2_1, iz_2_2, iz_2_3, iz_3_1, iz_4_1, iz_4_2, iz_5_0, iz_6_8, iz_6_9, iz_6_13, iz_6_14, iz_6_15, iz_7_2, iz_7_6, iz_7_12, iz_7_20, iz_7_21, iz_7_23, iz_7_24, ak_8, ak_9, ak_10, ak_11, ak_12, ak_13, ak_14, ak_15, ak_16, ak_17, ak_18, ak_19, ak_20, ak_21, ak_22, ak_23, ak_24, ak_25, ak_26, ak_27, ak_28, ak_29, ak_30, ak_31, ak_32, ak_33, ak_34, ak_35, ak_36, ak_37, ak_38, ak_39, ak_40, ak_41, ak_42, ak_43, ak_44, ak_45, ak_46, ak_47, ak_48, ak_49, ak_50, ak_51, ak_52, ak_53, ak_54, ak_55, ak_56, el31, el33, el34, CX1_forceOn, ca_X1_forceOn, frX1, kcX1, klX1, T_X1_undecided, T_X1_wayThrough, T_X1_decide, up_ap, false_and, and_false, if_false, if_true, ite_true, ite_false, exists_eq_right_right, exists_eq_right, exists_eq_left, Nat.lt_irrefl, and_self, implies_true, forall_const]
            (repeat' (first | (with_reducible intro _) | (with_reducible refine And.intro ?_ ?_)))
            all_goals (try first | omega | exact ⟨by omega, by omega⟩)
            all_goals first | (exact h _ _ (FoI_end hI (by omega)) hI.2.2.2.2.1 (by have := dc_r (σ 19 n) (σ' 20 n); have := dc_r (σ 19 n) (σ 20 n); have := hI.2.2.2.2.2.1; omega)) | (exact hI)
          · exact hi.elim
        · split at hcut
          · rename_i hpc
            subst hpc
            cases hcut
            try dsimp only at hi
            split at hi
            · rename_i c1 m' u' nw a b x1 x2 x3 x4
              obtain ⟨hi, rfl⟩ := hi
              obtain ⟨rfl, rfl, rfl, h0, h1, h2, h3, hI⟩ := hi
              obtain ⟨⟨p1, p2, p3, p4, p5⟩, hbad, h⟩ := h
              simp only [wp, stp, drp, entL, eL, lget, lset, okst, cnd, swt, rcv, Kr_int, Kr_bool, Kr_void, List.length_cons, List.length_nil, List.replicate, List.append_nil, List.cons_append, List.nil_append, List.take_succ_cons, List.take_zero, List.drop_succ_cons, List.drop_zero, List.reverse_cons, List.reverse_nil, Option.map_some, Option.map_none, Option.toList_some, Option.toList_none, Nat.reduceAdd, Nat.reduceSub, Nat.reduceLT, Nat.reduceLeDiff, Nat.reduceEqDiff, ↓reduceIte, Nat.add_zero, Nat.zero_add, true_and, and_true, Nat.le_refl, reduceCtorEq, false_implies, true_implies, not_true_eq_false, not_false_eq_true, Int.reduceAdd, Int.reduceSub, Int.reduceMul, Int.reduceLE, Int.reduceLT, Int.reduceEq, Int.reduceNe, Int.reduceNeg, Int.reduceDiv, Int.reduceMod, Bool.false_eq_true, Int.le_refl, and_self, true_or, or_true, inR_l, fv0, fv1, fv2, fv3, nc2, nc4, nc6, nc16, nc25, nc60, nc65, nc80, nc130, nc384, nc390, fp_0_0, fp_0_1, fp_0_2, fp_1_0, fp_1_1, fp_1_2, fp_1_3, fp_1_4, fp_1_5, fp_1_6, fp_1_7, fp_1_8, fp_1_9, fp_1_10, fp_1_11, fp_1_12, fp_1_13, fp_1_14, fp_2_0, fp_2_1, fp_2_2, fp_2_3, fp_3_0, fp_3_1, fp_4_0, fp_4_1, fp_4_2, fp_4_3, fp_4_4, fp_4_5, fp_4_6, fp_4_7, fp_5_0, fp_5_1, fp_5_2, fp_5_3, fp_5_4, fp_5_5, fp_5_6, fp_5_7, fp_6_0, fp_6_1, fp_6_2, fp_6_3, fp_6_4, fp_6_5, fp_6_6, fp_6_7, fp_6_8, fp_6_9, fp_6_10, fp_6_11, fp_6_12, fp_6_13, fp_6_14, fp_6_15, fp_7_0, fp_7_1, fp_7_2, fp_7_3, fp_7_4, fp_7_5, fp_7_6, fp_7_7, fp_7_8, fp_7_9, fp_7_10, fp_7_11, fp_7_12, fp_7_13, fp_7_14, fp_7_15, fp_7_16, fp_7_17, fp_7_18, fp_7_19, fp_7_20, fp_7_21, fp_7_22, fp_7_23, fp_7_24, iz_0_1, iz_0_2, iz_1_8, iz_1_9, iz_1_11, iz_2_1, iz_2_2, iz_2_3, iz_3_1, iz_4_1, iz_4_2, iz_5_0, iz_6_8, iz_6_9, iz_6_13, iz_6_14, iz_6_15, iz_7_2, iz_7_6, iz_7_12, iz_7_20, iz_7_21, iz_7_23, iz_7_24, ak_8, ak_9, ak_10, ak_11, ak_12, ak_13, ak_14, ak_15, ak_16, ak_17, ak_18, ak_19, ak_20, ak_21, ak_22, ak_23, ak_24, ak_25, ak_26, ak_27, ak_28, ak_29, ak_30, ak_31, ak_32, ak_33, ak_34, ak_35, ak_36, ak_37, ak_38, ak_39, ak_40, ak_41, ak_42, ak_43, ak_44, ak_45, ak_46, ak_47, ak_48, ak_49, ak_50, ak_51, ak_52, ak_53, ak_54, ak_55, ak_56, el31, el33, el34, CX1_forceOn, ca_X1_forceOn, frX1, kcX1, klX1, T_X1_undecided, T_X1_wayThrough, T_X1_decide, up_ap, false_and, and_false, if_false, if_true, ite_true, ite_false, exists_eq_right_right, exists_eq_right, exists_eq_left, Nat.lt_irrefl, and_self, implies_true, forall_const]
              have e : ∀ t, t ≠ 20 → ∀ x, σ' t n x = σ t n x := fun t ht x => hI.1 t n x (fun q => ht q.1)
              simp only [e 17 (by omega), e 19 (by omega), e 21 (by omega), e 22 (by omega)]
              have hr := dc_r (σ 19 n) (σ' 20 n)
              have hr2 := dc_r (σ 19 n) (σ 20 n)
              have hr3 := hI.2.2.2.2.1
              have hr4 := hI.2.2.2.2.2.1
              have hc : (0 ≤ (σ 19 n (4 * m' + a)) ∧ 0 ≤ (σ 19 n (4 * m' + b)) ∧ band (bshr (σ' 20 n (σ 19 n (4 * m' + b))) ((σ 19 n (4 * m' + a)) / 4)) 1 = 0 ∧ band (bshr (σ' 20 n (σ 19 n (4 * m' + a))) ((σ 19 n (4 * m' + b)) / 4)) 1 = 0) ↔ und (σ' 20 n) (σ 19 n (4 * m' + a)) (σ 19 n (4 * m' + b)) := by
                unfold und
                simp [hasB]
              by_cases hb : b < 4
              · obtain ⟨b1, b2, b3, b4⟩ := nH_pair p3 p5 p1 p2 h0 h1 (show 0 ≤ b by omega) hb
                by_cases hu : und (σ' 20 n) (σ 19 n (4 * m' + a)) (σ 19 n (4 * m' + b))
                · simp only [if_pos (hc.mpr hu)]
                  obtain ⟨u1, u2, u3, u4⟩ := b3 hu.1
                  obtain ⟨w1, w2, w3, w4⟩ := b4 hu.2.1
                  obtain ⟨v1, v2, v3⟩ := p3.2.2 m' a p1 p2 h0 h1 hu.1
                  obtain ⟨z1, z2, z3⟩ := p3.2.2 m' b p1 p2 (by omega) hb hu.2.1
                  have hu1 := hu.1
                  have hu2 := hu.2.1
                  (repeat' (first | (with_reducible intro _) | (with_reducible refine And.intro ?_ ?_)))
                  all_goals (try first | omega | exact ⟨by omega, by omega⟩)
                  all_goals first | (exfalso; omega) | (exact hbad _ hI.1 hI.2.1 ⟨(σ 19 n (4 * m' + a)), (σ 19 n (4 * m' + b)), v1, z1, by omega, by omega, (by unfold wy; omega), (by unfold wy; omega)⟩) | (exact FoI_short hI (by unfold wy; omega) (by unfold wy; omega)) | (exact FoI_dec p3 hI p1 p2 h0 h2 hb hu (Or.inl ⟨rfl, rfl⟩) (by unfold wy; omega)) | (exact FoI_dec p3 hI p1 p2 h0 h2 hb hu (Or.inr ⟨rfl, rfl⟩) (by unfold wy; omega))
                · simp only [if_neg (fun q => hu (hc.mp q))]
                  (repeat' (first | (with_reducible intro _) | (with_reducible refine And.intro ?_ ?_)))
                  all_goals (try first | omega | exact ⟨by omega, by omega⟩)
                  all_goals first | (exfalso; omega) | (exact FoI_none hI hu)
              · (repeat' (first | (with_reducible intro _) | (with_reducible refine And.intro ?_ ?_)))
                all_goals (try first | omega | exact ⟨by omega, by omega⟩)
                all_goals first | (exact FoI_row hI (by omega)) | (exfalso; omega)
            · exact hi.elim
          · cases hcut
      · simp only [wp, stp, drp, entL, eL, lget, lset, okst, cnd, swt, rcv, Kr_int, Kr_bool, Kr_void, List.length_cons, List.length_nil, List.replicate, List.append_nil, List.cons_append, List.nil_append, List.take_succ_cons, List.take_zero, List.drop_succ_cons, List.drop_zero, List.reverse_cons, List.reverse_nil, Option.map_some, Option.map_none, Option.toList_some, Option.toList_none, Nat.reduceAdd, Nat.reduceSub, Nat.reduceLT, Nat.reduceLeDiff, Nat.reduceEqDiff, ↓reduceIte, Nat.add_zero, Nat.zero_add, true_and, and_true, Nat.le_refl, reduceCtorEq, false_implies, true_implies, not_true_eq_false, not_false_eq_true, Int.reduceAdd, Int.reduceSub, Int.reduceMul, Int.reduceLE, Int.reduceLT, Int.reduceEq, Int.reduceNe, Int.reduceNeg, Int.reduceDiv, Int.reduceMod, Bool.false_eq_true, Int.le_refl, and_self, true_or, or_true, inR_l, fv0, fv1, fv2, fv3, nc2, nc4, nc6, nc16, nc25, nc60, nc65, nc80, nc130, nc384, nc390, fp_0_0, fp_0_1, fp_0_2, fp_1_0, fp_1_1, fp_1_2, fp_1_3, fp_1_4, fp_1_5, fp_1_6, fp_1_7, fp_1_8, fp_1_9, fp_1_10, fp_1_11, fp_1_12, fp_1_13, fp_1_14, fp_2_0, fp_2_1, fp_2_2, fp_2_3, fp_3_0, fp_3_1, fp_4_0, fp_4_1, fp_4_2, fp_4_3, fp_4_4, fp_4_5, fp_4_6, fp_4_7, fp_5_0, fp_5_1, fp_5_2, fp_5_3, fp_5_4, fp_5_5, fp_5_6, fp_5_7, fp_6_0, fp_6_1, fp_6_2, fp_6_3, fp_6_4, fp_6_5, fp_6_6, fp_6_7, fp_6_8, fp_6_9, fp_6_10, fp_6_11, fp_6_12, fp_6_13, fp_6_14, fp_6_15, fp_7_0, fp_7_1, fp_7_2, fp_7_3, fp_7_4, fp_7_5, fp_7_6, fp_7_7, fp_7_8, fp_7_9, fp_7_10, fp_7_11, fp_7_12, fp_7_13, fp_7_14, fp_7_15, fp_7_16, fp_7_17, fp_7_18, fp_7_19, fp_7_20, fp_7_21, fp_7_22, fp_7_23, fp_7_24, iz_0_1, iz_0_2, iz_1_8, iz_1_9, iz_1_11, iz_2_1, iz_2_2, iz_2_3, iz_3_1, iz_4_1, iz_4_2, iz_5_0, iz_6_8, iz_6_9, iz_6_13, iz_6_14, iz_6_15, iz_7_2, iz_7_6, iz_7_12, iz_7_20, iz_7_21, iz_7_23, iz_7_24, ak_8, ak_9, ak_10, ak_11, ak_12, ak_13, ak_14, ak_15, ak_16, ak_17, ak_18, ak_19, ak_20, ak_21, ak_22, ak_23, ak_24, ak_25, ak_26, ak_27, ak_28, ak_29, ak_30, ak_31, ak_32, ak_33, ak_34, ak_35, ak_36, ak_37, ak_38, ak_39, ak_40, ak_41, ak_42, ak_43, ak_44, ak_45, ak_46, ak_47, ak_48, ak_49, ak_50, ak_51, ak_52, ak_53, ak_54, ak_55, ak_56, el31, el33, el34, CX1_forceOn, ca_X1_forceOn, frX1, kcX1, klX1, T_X1_undecided, T_X1_wayThrough, T_X1_decide, up_ap, false_and, and_false, if_false, if_true, ite_true, ite_false, exists_eq_right_right, exists_eq_right, exists_eq_left, Nat.lt_irrefl, and_self, implies_true, forall_const]
        obtain ⟨⟨p1, p2, p3, p4, p5⟩, hbad, h⟩ := h
        exact FoI_0 p4 (fun m' i j q => by unfold prA at q; omega)
    · exact h.elim
