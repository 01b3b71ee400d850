theorem k_X7_need3 (l : Launch) : Ct l yX7_need cX7_need 2 none 1 T_X7_need3 := Ct_mono (k_X7_need2 l) m_X7_need3
theorem k_X7_takeNumber3 (l : Launch) : Ct l yX7_takeNumber cX7_takeNumber 4 (some .int) 1 T_X7_takeNumber3 := Ct_mono (k_X7_takeNumber l) m_X7_takeNumber3
theorem k_X7_takeDigit3 (l : Launch) : Ct l yX7_takeDigit cX7_takeDigit 2 (some .int) 1 T_X7_takeDigit3 := Ct_mono (k_X7_takeDigit l) m_X7_takeDigit3
def ca_X7_takeRoute : Nat → Option (Nat × Nat × Tr)
  | 275 => some (2, 7, T_X7_need3)
  | 278 => some (3, 7, T_X7_takeNumber3)
  | 269 => some (1, 7, T_X7_next2)
  | 281 => some (2, 7, T_X7_takeDigit3)
  | _ => none
theorem cao_X7_takeRoute (l : Launch) : ∀ k n' ci T', ca_X7_takeRoute k = some (n', ci, T') → ∃ nn, nn + 1 ≤ 2 ∧ Site l yX7_takeRoute.cls k n' ci nn T' := by
  intro k n' ci T' h
  unfold ca_X7_takeRoute at h
  split at h
  · cases h; exact ⟨1, by decide, _, _, _, _, k_X7_need3 l, Or.inl ⟨_, rfl, FX7_need, KRX7_275⟩⟩
  · cases h; exact ⟨1, by decide, _, _, _, _, k_X7_takeNumber3 l, Or.inl ⟨_, rfl, FX7_takeNumber, KRX7_278⟩⟩
  · cases h; exact ⟨0, by decide, _, _, _, _, k_X7_next2 l, Or.inl ⟨_, rfl, FX7_next, KRX7_269⟩⟩
  · cases h; exact ⟨1, by decide, _, _, _, _, k_X7_takeDigit3 l, Or.inl ⟨_, rfl, FX7_takeDigit, KRX7_281⟩⟩
  · cases h
def T_X7_takeRoute : Tr := fun a σ K => match a with
  | [.inr (.inl (7, 0))] => (0 ≤ σ 7 0 20 ∧ σ 7 0 20 ≤ xL σ ∧ xL σ ≤ 80 ∧ σ 7 0 21 = 0 ∧ 0 ≤ σ 7 0 23 ∧ σ 7 0 23 ≤ 3) ∧ ∀ σ', RXe σ σ' → K none σ'
  | _ => False
set_option maxHeartbeats 8000000 in
set_option maxRecDepth 20000 in
theorem k_X7_takeRoute (l : Launch) : Ct l yX7_takeRoute cX7_takeRoute 4 none 2 T_X7_takeRoute := by
  refine mk_met (by decide +kernel) hCX7_takeRoute lCX7_takeRoute frX7_ok cstX7_ok (cao_X7_takeRoute l) ?_ ?_
  · intro a σ K h
    unfold T_X7_takeRoute at h
    split at h
    · simp [eL]
    · exact h.elim
  · intro a σ K ha hR h
    unfold T_X7_takeRoute at h
    split at h
    · refine ⟨fun pc => if pc = 60 then some (fun L S σ' k => match L, S with | [some (.inr (.inl c1)), some (.inl r), some (.inl t), _], [] => (c1 = (7, 0) ∧ r = 11 * σ 7 0 23 ∧ RXi σ σ' t) ∧ k = (4 - σ' 55 0 (11 * σ 7 0 23 + 2)).toNat | _, _ => False) else none, 200, ?_, ?_⟩
      · intro pc I L S σ' k hcut hi
        dsimp only at hcut
        split at hcut
        · rename_i hpc
          subst hpc
          cases hcut
          try dsimp only at hi
          split at hi
          · rename_i c1 r t x1
            obtain ⟨hi, rfl⟩ := hi
            obtain ⟨rfl, rfl, hI⟩ := hi
            obtain ⟨⟨p1, p2, p3, p4, p5, p6⟩, h⟩ := h
            simp only [wp, stp, drp, entL, eL, lget, lset, okst, cnd, swt, rcv, Kr_int, Kr_bool, Kr_void, List.length_cons, List.length_nil, List.replicate, List.append_nil, List.cons_append, List.nil_append, List.take_succ_cons, List.take_zero, List.drop_succ_cons, List.drop_zero, List.reverse_cons, List.reverse_nil, Option.map_some, Option.map_none, Option.toList_some, Option.toList_none, Nat.reduceAdd, Nat.reduceSub, Nat.reduceLT, Nat.reduceLeDiff, Nat.reduceEqDiff, ↓reduceIte, Nat.add_zero, Nat.zero_add, true_and, and_true, Nat.le_refl, reduceCtorEq, false_implies, true_implies, not_true_eq_false, not_false_eq_true, Int.reduceAdd, Int.reduceSub, Int.reduceMul, Int.reduceLE, Int.reduceLT, Int.reduceEq, Int.reduceNe, Int.reduceNeg, Int.reduceDiv, Int.reduceMod, Bool.false_eq_true, Int.le_refl, and_self, true_or, or_true, inR_l, fv0, fv1, fv2, fv3, nc2, nc4, nc6, nc16, nc25, nc60, nc65, nc80, nc130, nc384, nc390, fp_0_0, fp_0_1, fp_0_2, fp_1_0, fp_1_1, fp_1_2, fp_1_3, fp_1_4, fp_1_5, fp_1_6, fp_1_7, fp_1_8, fp_1_9, fp_1_10, fp_1_11, fp_1_12, fp_1_13, fp_1_14, fp_2_0, fp_2_1, fp_2_2, fp_2_3, fp_3_0, fp_3_1, fp_4_0, fp_4_1, fp_4_2, fp_4_3, fp_4_4, fp_4_5, fp_4_6, fp_4_7, fp_5_0, fp_5_1, fp_5_2, fp_5_3, fp_5_4, fp_5_5, fp_5_6, fp_5_7, fp_6_0, fp_6_1, fp_6_2, fp_6_3, fp_6_4, fp_6_5, fp_6_6, fp_6_7, fp_6_8, fp_6_9, fp_6_10, fp_6_11, fp_6_12, fp_6_13, fp_6_14, fp_6_15, fp_7_0, fp_7_1, fp_7_2, fp_7_3, fp_7_4, fp_7_5, fp_7_6, fp_7_7, fp_7_8, fp_7_9, fp_7_10, fp_7_11, fp_7_12, fp_7_13, fp_7_14, fp_7_15, fp_7_16, fp_7_17, fp_7_18, fp_7_19, fp_7_20, fp_7_21, fp_7_22, fp_7_23, fp_7_24, iz_0_1, iz_0_2, iz_1_8, iz_1_9, iz_1_11, iz_2_1, iz_2_2, iz_2_3, iz_3_1, iz_4_1, iz_4_2, iz_5_0, iz_6_8, iz_6_9, iz_6_13, iz_6_14, iz_6_15, iz_7_2, iz_7_6, iz_7_12, iz_7_20, iz_7_21, iz_7_23, iz_7_24, ak_8, ak_9, ak_10, ak_11, ak_12, ak_13, ak_14, ak_15, ak_16, ak_17, ak_18, ak_19, ak_20, ak_21, ak_22, ak_23, ak_24, ak_25, ak_26, ak_27, ak_28, ak_29, ak_30, ak_31, ak_32, ak_33, ak_34, ak_35, ak_36, ak_37, ak_38, ak_39, ak_40, ak_41, ak_42, ak_43, ak_44, ak_45, ak_46, ak_47, ak_48, ak_49, ak_50, ak_51, ak_52, ak_53, ak_54, ak_55, ak_56, el31, el33, el34, CX7_takeRoute, ca_X7_takeRoute, frX7, kcX7, klX7, T_X7_need3, T_X7_takeNumber3, T_X7_next2, T_X7_takeDigit3, up_ap, false_and, and_false, if_false, if_true, ite_true, ite_false, xT_up, xL_20, xL_21, exists_eq_right_right, exists_eq_right, exists_eq_left, Nat.lt_irrefl, and_self, implies_true, forall_const]
            have hc := pRt_c hI.1
            obtain ⟨-, q23, -, ha0, ha1, hw, hc0, hc4, -⟩ := id hI
            rw [hc.1, hc.2, q23]
            have KE : (σ' 7 0 21 ≠ 0 ∨ nx (xT σ) (xL σ) (σ' 7 0 20) ≠ 44 ∨ 4 ≤ σ' 55 0 (11 * σ 7 0 23 + 2)) → inR (σ 7 0 23 + 1) ∧ K none (up σ' 7 0 23 (σ 7 0 23 + 1)) := fun z => ⟨by simp only [inR]; omega, h _ (RXi_end hI z (by rw [q23]))⟩
            refine ⟨fun a => KE (Or.inl a), fun a => ⟨⟨ha0, p3⟩, fun b => KE (Or.inr (Or.inl b)), fun b => ⟨by simp only [inR]; omega, ⟨by omega, by omega⟩, fun c => KE (Or.inr (Or.inr c)), fun c => ?_⟩⟩⟩
            have nn := Classical.not_not.mp b
            have hg := RXi_go hI a nn
            refine ⟨by simp only [inR]; omega, ⟨by omega, by omega, p3, hw, hg.2.1, hg.2.2⟩, fun σ1 d f1 t1 => ?_⟩
            have F1 : FrG pSp σ' σ1 := (FrG.r.u ⟨rfl, rfl, Or.inl rfl⟩).t f1
            have hc1 := pSp_c F1
            have w0 : σ' 7 0 21 = 0 := by omega
            rw [w0] at t1
            have B1 := (RXi_s (σ2 := σ) (w2 := 0) (s2 := 0) (v := 0) hI a nn c t1).1
            rw [hc1.1, hc1.2, hc.1, hc.2]
            refine ⟨⟨by omega, by omega, p3, by omega⟩, fun σ2 f2 t2 => ?_⟩
            have B2 := ((RXi_s (σ2 := σ) (v := 0) hI a nn c t1).2 t2).1
            have F2 := F1.t f2
            have e55 := (pSp_s F2).2.1
            have n1 : ¬ (11 * σ 7 0 23 + 2 = 11 * σ 7 0 23 + 3 + 2 * σ' 55 0 (11 * σ 7 0 23 + 2)) := by omega
            have n2 : ¬ (11 * σ 7 0 23 + 2 = 11 * σ 7 0 23 + 4 + 2 * σ' 55 0 (11 * σ 7 0 23 + 2)) := by omega
            have hc2 := pSp_c F2
            rw [e55]
            simp only [if_neg n1]
            have F3 : FrG pRt σ' (up σ2 55 0 (11 * σ 7 0 23 + 3 + 2 * σ' 55 0 (11 * σ 7 0 23 + 2)) d) := (pSp.t F2).u (Or.inr ⟨rfl, rfl⟩)
            have hc3 := pRt_c F3
            have g55 : ∀ x, (up σ2 55 0 (11 * σ 7 0 23 + 3 + 2 * σ' 55 0 (11 * σ 7 0 23 + 2)) d) 55 0 x = if x = 11 * σ 7 0 23 + 3 + 2 * σ' 55 0 (11 * σ 7 0 23 + 2) then d else σ' 55 0 x := fun x => by simp [up_ap, e55]
            have g23 : (up σ2 55 0 (11 * σ 7 0 23 + 3 + 2 * σ' 55 0 (11 * σ 7 0 23 + 2)) d) 7 0 23 = σ2 7 0 23 := by simp [up_ap]
            generalize (up σ2 55 0 (11 * σ 7 0 23 + 3 + 2 * σ' 55 0 (11 * σ 7 0 23 + 2)) d) = σ3 at *
            rw [hc3.1, hc3.2, hc.1, hc.2]
            refine ⟨by simp only [inR]; omega, by simp only [inR]; omega, ⟨by omega, by omega⟩, by simp only [inR]; omega, by simp only [inR]; omega, ⟨by omega, by omega⟩, by simp only [inR]; omega, by simp only [inR]; omega, ⟨by omega, by omega⟩, by simp only [inR]; omega, by simp only [inR]; omega, ⟨by omega, by omega, p3, by omega⟩, fun σ4 v f4 t4 => ?_⟩
            have k55 := (pSp_s f4).2.1
            have k23 := (pSp_s f4).1
            have kk : σ4 55 0 (11 * σ 7 0 23 + 2) = σ' 55 0 (11 * σ 7 0 23 + 2) := by rw [k55, g55, if_neg n1]
            rw [kk]
            simp only [if_neg n2]
            have j23 := (pSp_s F2).1
            refine ⟨⟨by omega, by omega⟩, by simp only [inR]; omega, ⟨by omega, by omega⟩, by simp only [inR]; omega, ⟨by omega, by omega⟩, by omega, ?_⟩
            refine ((RXi_s (v := v) hI a nn c t1).2 t2).2 ?_ ?_ ?_ (fun x => ?_)
            · simp only [up_ap]
              simpa using t4
            · exact (((hI.1.t F3).t (pSp.t f4)).u (Or.inr ⟨rfl, rfl⟩)).u (Or.inr ⟨rfl, rfl⟩)
            · simp [up_ap]
              omega
            · rw [up_ap, up_ap, k55, g55]
              simp only [true_and]
            
          · exact hi.elim
        · cases hcut
      · simp only [wp, stp, drp, entL, eL, lget, lset, okst, cnd, swt, rcv, Kr_int, Kr_bool, Kr_void, List.length_cons, List.length_nil, List.replicate, List.append_nil, List.cons_append, List.nil_append, List.take_succ_cons, List.take_zero, List.drop_succ_cons, List.drop_zero, List.reverse_cons, List.reverse_nil, Option.map_some, Option.map_none, Option.toList_some, Option.toList_none, Nat.reduceAdd, Nat.reduceSub, Nat.reduceLT, Nat.reduceLeDiff, Nat.reduceEqDiff, ↓reduceIte, Nat.add_zero, Nat.zero_add, true_and, and_true, Nat.le_refl, reduceCtorEq, false_implies, true_implies, not_true_eq_false, not_false_eq_true, Int.reduceAdd, Int.reduceSub, Int.reduceMul, Int.reduceLE, Int.reduceLT, Int.reduceEq, Int.reduceNe, Int.reduceNeg, Int.reduceDiv, Int.reduceMod, Bool.false_eq_true, Int.le_refl, and_self, true_or, or_true, inR_l, fv0, fv1, fv2, fv3, nc2, nc4, nc6, nc16, nc25, nc60, nc65, nc80, nc130, nc384, nc390, fp_0_0, fp_0_1, fp_0_2, fp_1_0, fp_1_1, fp_1_2, fp_1_3, fp_1_4, fp_1_5, fp_1_6, fp_1_7, fp_1_8, fp_1_9, fp_1_10, fp_1_11, fp_1_12, fp_1_13, fp_1_14, fp_2_0, fp_2_1, fp_2_2, fp_2_3, fp_3_0, fp_3_1, fp_4_0, fp_4_1, fp_4_2, fp_4_3, fp_4_4, fp_4_5, fp_4_6, fp_4_7, fp_5_0, fp_5_1, fp_5_2, fp_5_3, fp_5_4, fp_5_5, fp_5_6, fp_5_7, fp_6_0, fp_6_1, fp_6_2, fp_6_3, fp_6_4, fp_6_5, fp_6_6, fp_6_7, fp_6_8, fp_6_9, fp_6_10, fp_6_11, fp_6_12, fp_6_13, fp_6_14, fp_6_15, fp_7_0, fp_7_1, fp_7_2, fp_7_3, fp_7_4, fp_7_5, fp_7_6, fp_7_7, fp_7_8, fp_7_9, fp_7_10, fp_7_11, fp_7_12, fp_7_13, fp_7_14, fp_7_15, fp_7_16, fp_7_17, fp_7_18, fp_7_19, fp_7_20, fp_7_21, fp_7_22, fp_7_23, fp_7_24, iz_0_1, iz_0_2, iz_1_8, iz_1_9, iz_1_11, iz_2_1, iz_2_2, iz_2_3, iz_3_1, iz_4_1, iz_4_2, iz_5_0, iz_6_8, iz_6_9, iz_6_13, iz_6_14, iz_6_15, iz_7_2, iz_7_6, iz_7_12, iz_7_20, iz_7_21, iz_7_23, iz_7_24, ak_8, ak_9, ak_10, ak_11, ak_12, ak_13, ak_14, ak_15, ak_16, ak_17, ak_18, ak_19, ak_20, ak_21, ak_22, ak_23, ak_24, ak_25, ak_26, ak_27, ak_28, ak_29, ak_30, ak_31, ak_32, ak_33, ak_34, ak_35, ak_36, ak_37, ak_38, ak_39, ak_40, ak_41, ak_42, ak_43, ak_44, ak_45, ak_46, ak_47, ak_48, ak_49, ak_50, ak_51, ak_52, ak_53, ak_54, ak_55, ak_56, el31, el33, el34, CX7_takeRoute, ca_X7_takeRoute, frX7, kcX7, klX7, T_X7_need3, T_X7_takeNumber3, T_X7_next2, T_X7_takeDigit3, up_ap, false_and, and_false, if_false, if_true, ite_true, ite_false, xT_up, xL_20, xL_21, exists_eq_right_right, exists_eq_right, exists_eq_left, Nat.lt_irrefl, and_self, implies_true, forall_const]
        obtain ⟨⟨p1, p2, p3, p4, p5, p6⟩, h⟩ := h
        refine ⟨by simp only [inR]; omega, ⟨p1, p2, p3, Or.inl p4⟩, fun σ1 f1 t1 => ?_⟩
        rw [p4] at t1
        have s1 := S1_i t1
        have b1 := S1_b s1 p1 p2
        have c1 := pSp_c f1
        rw [c1.1, c1.2]
        refine ⟨⟨b1.1, b1.2.1, p3, b1.2.2⟩, fun σ2 v f2 t2 => ⟨⟨by omega, by omega⟩, ?_⟩⟩
        have s2 := S2_i s1 t2
        have b2 := S2_b s2 p1 p2
        have F2 := f1.t f2
        have q2 := pSp_s F2
        have G2 : FrG pRt σ (up σ2 55 0 (11 * σ 7 0 23) v) := (pSp.t F2).u (Or.inr ⟨rfl, rfl⟩)
        have d2 := pRt_c G2
        have g55 : ∀ x, (up σ2 55 0 (11 * σ 7 0 23) v) 55 0 x = if x = 11 * σ 7 0 23 then v else σ 55 0 x := fun x => by simp [up_ap, q2.2.1]
        have g23 : (up σ2 55 0 (11 * σ 7 0 23) v) 7 0 23 = σ 7 0 23 := by simp [up_ap, q2.1]
        generalize (up σ2 55 0 (11 * σ 7 0 23) v) = σ3 at *
        rw [d2.1, d2.2]
        refine ⟨⟨b2.1, b2.2.1, p3, b2.2.2.1⟩, fun σ4 f4 t4 => ?_⟩
        have s3 := S3_i s2 t4
        have b3 := S3_b s3 p1 p2
        have G4 := G2.t (pSp.t f4)
        have d4 := pRt_c G4
        rw [d4.1, d4.2]
        refine ⟨by simp only [inR]; omega, ⟨b3.1, b3.2.1, p3, b3.2.2⟩, fun σ5 v2 f5 t5 => ⟨⟨by omega, by omega⟩, by simp only [inR]; omega, ⟨by omega, by omega⟩, ?_⟩⟩
        have s4 := S4_i s3 t5
        have k4 := pSp_s f4
        have k5 := pSp_s f5
        refine RXi_0 (v := v) (v2 := v2) (((G4.t (pSp.t f5)).u (Or.inr ⟨rfl, rfl⟩)).u (Or.inr ⟨rfl, rfl⟩)) ?_ (fun x => ?_) p1 p2 ?_
        · simp [up_ap]
          omega
        · rw [up_ap, up_ap, k5.2.1, k4.2.1, g55]
          simp only [true_and]
        · simp only [up_ap]
          simpa using s4
    · exact h.elim
