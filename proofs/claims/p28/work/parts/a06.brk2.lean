def ca_X6_takeBreakdown : Nat → Option (Nat × Nat × Tr)
  | 118 => some (2, 1, T_X1_load)
  | 285 => some (3, 5, T_X5_operationAt)
  | 288 => some (4, 6, T_X6_stays)
  | 291 => some (3, 1, T_X1_holdBack)
  | 294 => some (4, 1, T_X1_followOrder)
  | _ => none
theorem cao_X6_takeBreakdown (l : Launch) : ∀ k n' ci T', ca_X6_takeBreakdown k = some (n', ci, T') → ∃ nn, nn + 1 ≤ 2 ∧ Site l yX6_takeBreakdown.cls k n' ci nn T' := by
  intro k n' ci T' h
  unfold ca_X6_takeBreakdown at h
  split at h
  · cases h; exact ⟨1, by decide, _, _, _, _, k_X1_load l, Or.inl ⟨_, rfl, FX1_load, KRX6_118⟩⟩
  · cases h; exact ⟨1, by decide, _, _, _, _, k_X5_operationAt l, Or.inl ⟨_, rfl, FX5_operationAt, KRX6_285⟩⟩
  · cases h; exact ⟨1, by decide, _, _, _, _, k_X6_stays l, Or.inl ⟨_, rfl, FX6_stays, KRX6_288⟩⟩
  · cases h; exact ⟨0, by decide, _, _, _, _, k_X1_holdBack l, Or.inl ⟨_, rfl, FX1_holdBack, KRX6_291⟩⟩
  · cases h; exact ⟨1, by decide, _, _, _, _, k_X1_followOrder l, Or.inl ⟨_, rfl, FX1_followOrder, KRX6_294⟩⟩
  · cases h
def T_X6_takeBreakdown : Tr := fun a σ K => match a with
  | [.inr (.inl (6, 0)), .inl b, .inl t, .inl u] => (sWF σ 0 ∧ PK σ ∧ 0 ≤ b ∧ b < 4 ∧ 0 ≤ t ∧ t ≤ 200 ∧ 0 ≤ u ∧ u ≤ 400) ∧ ∀ σ', BDI σ σ' b t u 4 0 → K none σ'
  | _ => False
set_option maxHeartbeats 8000000 in
set_option maxRecDepth 20000 in
theorem k_X6_takeBreakdown (l : Launch) : Ct l yX6_takeBreakdown cX6_takeBreakdown 8 none 2 T_X6_takeBreakdown := by
  refine mk_met (by decide +kernel) hCX6_takeBreakdown lCX6_takeBreakdown frX6_ok cstX6_ok (cao_X6_takeBreakdown l) ?_ ?_
  · intro a σ K h
    unfold T_X6_takeBreakdown at h
    split at h
    · simp [eL]
    · exact h.elim
  · intro a σ K ha hR h
    unfold T_X6_takeBreakdown at h
    split at h
    · rename_i b t u
      obtain ⟨⟨p1, p2, p3, p4, p5, p6, p7, p8⟩, h⟩ := h
      refine ⟨fun pc => if pc = 64 then some (fun L S σ' k => match L, S with | [some (.inr (.inl c1)), some (.inl b'), some (.inl t'), some (.inl u'), some (.inl m), _, _, _], [] => (c1 = (6, 0) ∧ b' = b ∧ t' = t ∧ u' = u ∧ 0 ≤ m ∧ m ≤ 4 ∧ BDI σ σ' b t u m 0) ∧ k = ((4 - m) * 100).toNat | _, _ => False) else if pc = 76 then some (fun L S σ' k => match L, S with | [some (.inr (.inl c1)), some (.inl b'), some (.inl t'), some (.inl u'), some (.inl m), some (.inl s), some (.inl k1), _], [] => (c1 = (6, 0) ∧ b' = b ∧ t' = t ∧ u' = u ∧ 0 ≤ m ∧ m < 4 ∧ 0 ≤ k1 ∧ k1 ≤ σ 13 0 m ∧ s = bct σ b t m k1 ∧ BDI σ σ' b t u m k1) ∧ k = ((4 - m) * 100 - 1 - k1).toNat | _, _ => False) else none, 200, ?_, ?_⟩
      · intro pc I L S σ' k hcut hi
        dsimp only at hcut
        split at hcut
        · rename_i hpc
          subst hpc
          cases hcut
          try dsimp only at hi
          split at hi
          · rename_i c1 b' t' u' m x1 x2 x3
            obtain ⟨hi, rfl⟩ := hi
            obtain ⟨rfl, rfl, rfl, rfl, h0, h4, hI⟩ := hi
            simp only [wp, stp, drp, entL, eL, lget, lset, okst, cnd, swt, rcv, Kr_int, Kr_bool, Kr_void, List.length_cons, List.length_nil, List.replicate, List.append_nil, List.cons_append, List.nil_append, List.take_succ_cons, List.take_zero, List.drop_succ_cons, List.drop_zero, List.reverse_cons, List.reverse_nil, Option.map_some, Option.map_none, Option.toList_some, Option.toList_none, Nat.reduceAdd, Nat.reduceSub, Nat.reduceLT, Nat.reduceLeDiff, Nat.reduceEqDiff, ↓reduceIte, Nat.add_zero, Nat.zero_add, true_and, and_true, Nat.le_refl, reduceCtorEq, false_implies, true_implies, not_true_eq_false, not_false_eq_true, Int.reduceAdd, Int.reduceSub, Int.reduceMul, Int.reduceLE, Int.reduceLT, Int.reduceEq, Int.reduceNe, Int.reduceNeg, Int.reduceDiv, Int.reduceMod, Bool.false_eq_true, Int.le_refl, and_self, true_or, or_true, inR_l, fv0, fv1, fv2, fv3, nc2, nc4, nc6, nc16, nc25, nc60, nc65, nc80, nc130, nc384, nc390, fp_0_0, fp_0_1, fp_0_2, fp_1_0, fp_1_1, fp_1_2, fp_1_3, fp_1_4, fp_1_5, fp_1_6, fp_1_7, fp_1_8, fp_1_9, fp_1_10, fp_1_11, fp_1_12, fp_1_13, fp_1_14, fp_2_0, fp_2_1, fp_2_2, fp_2_3, fp_3_0, fp_3_1, fp_4_0, fp_4_1, fp_4_2, fp_4_3, fp_4_4, fp_4_5, fp_4_6, fp_4_7, fp_5_0, fp_5_1, fp_5_2, fp_5_3, fp_5_4, fp_5_5, fp_5_6, fp_5_7, fp_6_0, fp_6_1, fp_6_2, fp_6_3, fp_6_4, fp_6_5, fp_6_6, fp_6_7, fp_6_8, fp_6_9, fp_6_10, fp_6_11, fp_6_12, fp_6_13, fp_6_14, fp_6_15, fp_7_0, fp_7_1, fp_7_2, fp_7_3, fp_7_4, fp_7_5, fp_7_6, fp_7_7, fp_7_8, fp_7_9, fp_7_10, fp_7_11, fp_7_12, fp_7_13, fp_7_14, fp_7_15, fp_7_16, fp_7_17, fp_7_18, fp_7_19, fp_7_20, fp_7_21, fp_7_22, fp_7_23, fp_7_24, iz_0_1, iz_0_2, iz_1_8, iz_1_9, iz_1_11, iz_2_1, iz_2_2, iz_2_3, iz_3_1, iz_4_1, iz_4_2, iz_5_0, iz_6_8, iz_6_9, iz_6_13, iz_6_14, iz_6_15, iz_7_2, iz_7_6, iz_7_12, iz_7_20, iz_7_21, iz_7_23, iz_7_24, ak_8, ak_9, ak_10, ak_11, ak_12, ak_13, ak_14, ak_15, ak_16, ak_17, ak_18, ak_19, ak_20, ak_21, ak_22, ak_23, ak_24, ak_25, ak_26, ak_27, ak_28, ak_29, ak_30, ak_31, ak_32, ak_33, ak_34, ak_35, ak_36, ak_37, ak_38, ak_39, ak_40, ak_41, ak_42, ak_43, ak_44, ak_45, ak_46, ak_47, ak_48, ak_49, ak_50, ak_51, ak_52, ak_53, ak_54, ak_55, ak_56, el31, el33, el34, CX6_takeBreakdown, ca_X6_takeBreakdown, frX6, kcX6, klX6, T_X1_load, T_X5_operationAt, T_X6_stays, T_X1_holdBack, T_X1_followOrder, up_ap, false_and, and_false, if_false, if_true, ite_true, ite_false, exists_eq_right_right, exists_eq_right, exists_eq_left, Nat.lt_irrefl, and_self, implies_true, forall_const]
            exact ⟨fun a => h _ (by have e : m = 4 := by omega
                                    rw [e] at hI; exact hI), fun a => ⟨by omega, h0, by omega, (p1.1.2.2.2.2.1 m h0 (by omega)).1, (bct_0 _ _ _ _).symm, hI⟩⟩
          · exact hi.elim
        · split at hcut
          · rename_i hpc
            subst hpc
            cases hcut
            try dsimp only at hi
            split at hi
            · rename_i c1 b' t' u' m s k1 x3
              obtain ⟨hi, rfl⟩ := hi
              obtain ⟨rfl, rfl, rfl, rfl, h0, h4, hk, hk2, hs, hI⟩ := hi
              simp only [wp, stp, drp, entL, eL, lget, lset, okst, cnd, swt, rcv, Kr_int, Kr_bool, Kr_void, List.length_cons, List.length_nil, List.replicate, List.append_nil, List.cons_append, List.nil_append, List.take_succ_cons, List.take_zero, List.drop_succ_cons, List.drop_zero, List.reverse_cons, List.reverse_nil, Option.map_some, Option.map_none, Option.toList_some, Option.toList_none, Nat.reduceAdd, Nat.reduceSub, Nat.reduceLT, Nat.reduceLeDiff, Nat.reduceEqDiff, ↓reduceIte, Nat.add_zero, Nat.zero_add, true_and, and_true, Nat.le_refl, reduceCtorEq, false_implies, true_implies, not_true_eq_false, not_false_eq_true, Int.reduceAdd, Int.reduceSub, Int.reduceMul, Int.reduceLE, Int.reduceLT, Int.reduceEq, Int.reduceNe, Int.reduceNeg, Int.reduceDiv, Int.reduceMod, Bool.false_eq_true, Int.le_refl, and_self, true_or, or_true, inR_l, fv0, fv1, fv2, fv3, nc2, nc4, nc6, nc16, nc25, nc60, nc65, nc80, nc130, nc384, nc390, fp_0_0, fp_0_1, fp_0_2, fp_1_0, fp_1_1, fp_1_2, fp_1_3, fp_1_4, fp_1_5, fp_1_6, fp_1_7, fp_1_8, fp_1_9, fp_1_10, fp_1_11, fp_1_12, fp_1_13, fp_1_14, fp_2_0, fp_2_1, fp_2_2, fp_2_3, fp_3_0, fp_3_1, fp_4_0, fp_4_1, fp_4_2, fp_4_3, fp_4_4, fp_4_5, fp_4_6, fp_4_7, fp_5_0, fp_5_1, fp_5_2, fp_5_3, fp_5_4, fp_5_5, fp_5_6, fp_5_7, fp_6_0, fp_6_1, fp_6_2, fp_6_3, fp_6_4, fp_6_5, fp_6_6, fp_6_7, fp_6_8, fp_6_9, fp_6_10, fp_6_11, fp_6_12, fp_6_13, fp_6_14, fp_6_15, fp_7_0, fp_7_1, fp_7_2, fp_7_3, fp_7_4, fp_7_5, fp_7_6, fp_7_7, fp_7_8, fp_7_9, fp_7_10, fp_7_11, fp_7_12, fp_7_13, fp_7_14, fp_7_15, fp_7_16, fp_7_17, fp_7_18, fp_7_19, fp_7_20, fp_7_21, fp_7_22, fp_7_23, fp_7_24, iz_0_1, iz_0_2, iz_1_8, iz_1_9, iz_1_11, iz_2_1, iz_2_2, iz_2_3, iz_3_1, iz_4_1, iz_4_2, iz_5_0, iz_6_8, iz_6_9, iz_6_13, iz_6_14, iz_6_15, iz_7_2, iz_7_6, iz_7_12, iz_7_20, iz_7_21, iz_7_23, iz_7_24, ak_8, ak_9, ak_10, ak_11, ak_12, ak_13, ak_14, ak_15, ak_16, ak_17, ak_18, ak_19, ak_20, ak_21, ak_22, ak_23, ak_24, ak_25, ak_26, ak_27, ak_28, ak_29, ak_30, ak_31, ak_32, ak_33, ak_34, ak_35, ak_36, ak_37, ak_38, ak_39, ak_40, ak_41, ak_42, ak_43, ak_44, ak_45, ak_46, ak_47, ak_48, ak_49, ak_50, ak_51, ak_52, ak_53, ak_54, ak_55, ak_56, el31, el33, el34, CX6_takeBreakdown, ca_X6_takeBreakdown, frX6, kcX6, klX6, T_X1_load, T_X5_operationAt, T_X6_stays, T_X1_holdBack, T_X1_followOrder, up_ap, false_and, and_false, if_false, if_true, ite_true, ite_false, exists_eq_right_right, exists_eq_right, exists_eq_left, Nat.lt_irrefl, and_self, implies_true, forall_const]
              have e : ∀ s, s ≠ 6 ∧ s ≠ 4 → σ' s 0 = σ s 0 := fun s q => pBD_x hI.1 s 0 (by omega)
              have hw' := pBD_w hI.1 p1
              have hPK := pBD_k hI.1 p2
              rw [e 13 (by omega), e 14 (by omega), e 10 (by omega), e 11 (by omega), e 12 (by omega), e 21 (by omega)]
              have hr := bct_r σ (b := b') (t := t') (m := m) hk
              have hl4 := (p1.1.2.2.2.2.1 m h0 h4).2
              refine ⟨⟨h0, h4⟩, fun a => ?_, fun a => ?_⟩
              · have ek : k1 = σ 13 0 m := by omega
                exact ⟨⟨h0, h4, hI.2.2.1, hI.2.2.2.1, hI.2.2.2.2.2.2.2.1 m h0 h4, by omega, by omega⟩, fun σ2 hF => ⟨by simp only [inR]; omega, by omega, by omega, by omega, BDI_m p1 (by rw [← ek]; exact hI) h0 h4 (by rw [← ek, ← hs]; exact hF)⟩⟩
              · have hko : k1 < σ 13 0 m := by omega
                rw [if_pos ⟨hk, hko⟩]
                have eo : opF (σ 11 0) (σ 10 0 (σ 14 0 (4 * m + k1))) (σ 14 0 (4 * m + k1)) m = oq (σ 10 0) (σ 11 0) (σ 14 0) m k1 := rfl
                rw [eo]
                have ov := oq_v p1.1 h0 h4 hk hko
                have q6 := p1.1.2.2.2.2.2.1 m k1 h0 h4 hk hko
                refine ⟨⟨h0, h4, hl4, fun _ _ => ⟨q6.1, q6.2.1, (p1.1.2.1 _ q6.1 q6.2.1).2.1⟩⟩, ⟨hw', hPK, ov.1⟩, fun z => ⟨by simp only [inR]; omega, by simp only [inR]; omega, by omega, h0, h4, by omega, by omega, by rw [hs, (bct_s σ hk).1 z], BDI_k p1 hI h0 h4 hk hko z⟩, fun z => ?_⟩
                have es : s = bct σ b' t' m (k1 + 1) := by rw [hs, (bct_s σ hk).2 z]
                refine ⟨fun c => ⟨by simp only [inR]; omega, by omega, h0, h4, by omega, by omega, es, BDI_h p1 hI h0 h4 hk hko ⟨p5, by omega⟩ ⟨p7, p8⟩ z (by rw [show blim b' t' u' m = t' from if_neg c])⟩, fun c => ⟨by simp only [inR]; omega, by omega, h0, h4, by omega, by omega, es, BDI_h p1 hI h0 h4 hk hko ⟨p5, by omega⟩ ⟨p7, p8⟩ z (by rw [show blim b' t' u' m = u' from if_pos (Classical.not_not.mp c)])⟩⟩
            · exact hi.elim
          · cases hcut
      · simp only [wp, stp, drp, entL, eL, lget, lset, okst, cnd, swt, rcv, Kr_int, Kr_bool, Kr_void, List.length_cons, List.length_nil, List.replicate, List.append_nil, List.cons_append, List.nil_append, List.take_succ_cons, List.take_zero, List.drop_succ_cons, List.drop_zero, List.reverse_cons, List.reverse_nil, Option.map_some, Option.map_none, Option.toList_some, Option.toList_none, Nat.reduceAdd, Nat.reduceSub, Nat.reduceLT, Nat.reduceLeDiff, Nat.reduceEqDiff, ↓reduceIte, Nat.add_zero, Nat.zero_add, true_and, and_true, Nat.le_refl, reduceCtorEq, false_implies, true_implies, not_true_eq_false, not_false_eq_true, Int.reduceAdd, Int.reduceSub, Int.reduceMul, Int.reduceLE, Int.reduceLT, Int.reduceEq, Int.reduceNe, Int.reduceNeg, Int.reduceDiv, Int.reduceMod, Bool.false_eq_true, Int.le_refl, and_self, true_or, or_true, inR_l, fv0, fv1, fv2, fv3, nc2, nc4, nc6, nc16, nc25, nc60, nc65, nc80, nc130, nc384, nc390, fp_0_0, fp_0_1, fp_0_2, fp_1_0, fp_1_1, fp_1_2, fp_1_3, fp_1_4, fp_1_5, fp_1_6, fp_1_7, fp_1_8, fp_1_9, fp_1_10, fp_1_11, fp_1_12, fp_1_13, fp_1_14, fp_2_0, fp_2_1, fp_2_2, fp_2_3, fp_3_0, fp_3_1, fp_4_0, fp_4_1, fp_4_2, fp_4_3, fp_4_4, fp_4_5, fp_4_6, fp_4_7, fp_5_0, fp_5_1, fp_5_2, fp_5_3, fp_5_4, fp_5_5, fp_5_6, fp_5_7, fp_6_0, fp_6_1, fp_6_2, fp_6_3, fp_6_4, fp_6_5, fp_6_6, fp_6_7, fp_6_8, fp_6_9, fp_6_10, fp_6_11, fp_6_12, fp_6_13, fp_6_14, fp_6_15, fp_7_0, fp_7_1, fp_7_2, fp_7_3, fp_7_4, fp_7_5, fp_7_6, fp_7_7, fp_7_8, fp_7_9, fp_7_10, fp_7_11, fp_7_12, fp_7_13, fp_7_14, fp_7_15, fp_7_16, fp_7_17, fp_7_18, fp_7_19, fp_7_20, fp_7_21, fp_7_22, fp_7_23, fp_7_24, iz_0_1, iz_0_2, iz_1_8, iz_1_9, iz_1_11, iz_2_1, iz_2_2, iz_2_3, iz_3_1, iz_4_1, iz_4_2, iz_5_0, iz_6_8, iz_6_9, iz_6_13, iz_6_14, iz_6_15, iz_7_2, iz_7_6, iz_7_12, iz_7_20, iz_7_21, iz_7_23, iz_7_24, ak_8, ak_9, ak_10, ak_11, ak_12, ak_13, ak_14, ak_15, ak_16, ak_17, ak_18, ak_19, ak_20, ak_21, ak_22, ak_23, ak_24, ak_25, ak_26, ak_27, ak_28, ak_29, ak_30, ak_31, ak_32, ak_33, ak_34, ak_35, ak_36, ak_37, ak_38, ak_39, ak_40, ak_41, ak_42, ak_43, ak_44, ak_45, ak_46, ak_47, ak_48, ak_49, ak_50, ak_51, ak_52, ak_53, ak_54, ak_55, ak_56, el31, el33, el34, CX6_takeBreakdown, ca_X6_takeBreakdown, frX6, kcX6, klX6, T_X1_load, T_X5_operationAt, T_X6_stays, T_X1_holdBack, T_X1_followOrder, up_ap, false_and, and_false, if_false, if_true, ite_true, ite_false, exists_eq_right_right, exists_eq_right, exists_eq_left, Nat.lt_irrefl, and_self, implies_true, forall_const]
        have fin : ∀ σ0, FrG pBD σ σ0 → bPar σ σ0 b t u → stB σ0 0 ∧ ∀ σ', Lod 3 0 σ0 σ' → BDI σ σ' b t u 0 0 := fun σ0 hF hP => ⟨sWF_B (pBD_w hF p1), fun σ' hL => BDI_0 p1 hF hP hL⟩
        have f3 : ∀ σ0, FrG pBD σ σ0 → FrG pBD σ (up (up (up σ0 6 0 13 b) 6 0 14 t) 6 0 15 u) := fun σ0 hf => ((hf.u (Or.inr (Or.inl ⟨rfl, rfl, Or.inl rfl⟩))).u (Or.inr (Or.inl ⟨rfl, rfl, Or.inr (Or.inl rfl)⟩))).u (Or.inr (Or.inl ⟨rfl, rfl, Or.inr (Or.inr rfl)⟩))
        have f4 : FrG pBD σ (up (up (up (up σ 4 1 1 0) 6 0 13 b) 6 0 14 t) 6 0 15 u) := f3 _ (FrG.r.u (Or.inr (Or.inr ⟨rfl, rfl, rfl⟩)))
        have g4 : ¬ (σ 6 0 13 = b ∧ σ 6 0 14 = t ∧ σ 6 0 15 = u) → bPar σ (up (up (up (up σ 4 1 1 0) 6 0 13 b) 6 0 14 t) 6 0 15 u) b t u := fun q => ⟨by simp [up_ap], by simp [up_ap], by simp [up_ap], fun z => absurd z q, fun _ => by simp [up_ap]⟩
        refine ⟨fun a => fin _ f4 (g4 (fun z => a z.1)), fun a => ⟨fun c => fin _ f4 (g4 (fun z => c z.2.1)), fun c => ⟨fun d => fin _ (f3 _ FrG.r) ⟨by simp [up_ap], by simp [up_ap], by simp [up_ap], fun _ => by simp [up_ap], fun z => absurd ⟨Classical.not_not.mp a, Classical.not_not.mp c, d⟩ z⟩, fun d => fin _ f4 (g4 (fun z => d z.2.2))⟩⟩⟩
    · exact h.elim
