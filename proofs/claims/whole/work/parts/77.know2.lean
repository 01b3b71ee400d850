def ca_X6_knowPlan : Nat → Option (Nat × Nat × Tr)
  | 118 => some (2, 1, T_X1_load)
  | 266 => some (2, 1, T_X1_followOrders)
  | 198 => some (1, 1, T_X1_measure)
  | 272 => some (3, 3, T_X3_trace)
  | _ => none
theorem cao_X6_knowPlan (l : Launch) : ∀ k n' ci T', ca_X6_knowPlan k = some (n', ci, T') → ∃ nn, nn + 1 ≤ 5 ∧ Site l yX6_knowPlan.cls k n' ci nn T' := by
  intro k n' ci T' h
  unfold ca_X6_knowPlan at h
  split at h
  · cases h; exact ⟨1, by decide, _, _, _, _, k_X1_load l, Or.inl ⟨_, rfl, FX1_load, KRX6_118⟩⟩
  · cases h; exact ⟨2, by decide, _, _, _, _, k_X1_followOrders l, Or.inl ⟨_, rfl, FX1_followOrders, KRX6_266⟩⟩
  · cases h; exact ⟨2, by decide, _, _, _, _, k_X1_measure l, Or.inl ⟨_, rfl, FX1_measure, KRX6_198⟩⟩
  · cases h; exact ⟨4, by decide, _, _, _, _, k_X3_trace l, Or.inl ⟨_, rfl, FX3_trace, KRX6_272⟩⟩
  · cases h
def T_X6_knowPlan : Tr := fun a σ K => match a with
  | [.inr (.inl (6, 0))] => (sWF σ 0 ∧ KPc σ) ∧ (∀ σ', FrG pKn σ σ' → σ' 6 0 8 = 1 → σ' 6 0 9 = 1 → PK σ' → K (some 1) σ') ∧ (∀ σ', FrG pKn σ σ' → σ' 6 0 8 = 1 → σ' 6 0 9 = 0 → (∀ h, ¬ sH σ' 0 h) → K (some 0) σ')
  | _ => False
set_option maxHeartbeats 4000000 in
set_option maxRecDepth 20000 in
theorem k_X6_knowPlan (l : Launch) : Ct l yX6_knowPlan cX6_knowPlan 1 (some .boolean) 5 T_X6_knowPlan := by
  refine mk_met (by decide +kernel) hCX6_knowPlan lCX6_knowPlan frX6_ok cstX6_ok (cao_X6_knowPlan l) ?_ ?_
  · intro a σ K h
    unfold T_X6_knowPlan at h
    split at h
    · simp [eL]
    · exact h.elim
  · intro a σ K ha hR h
    unfold T_X6_knowPlan at h
    split at h
    · refine ⟨fun _ => none, 200, fun pc I L S σ' k h => (by cases h), ?_⟩
      simp only [wp, stp, drp, entL, eL, lget, lset, okst, cnd, swt, rcv, Kr_int, Kr_bool, Kr_void, List.length_cons, List.length_nil, List.replicate, List.append_nil, List.cons_append, List.nil_append, List.take_succ_cons, List.take_zero, List.drop_succ_cons, List.drop_zero, List.reverse_cons, List.reverse_nil, Option.map_some, Option.map_none, Option.toList_some, Option.toList_none, Nat.reduceAdd, Nat.reduceSub, Nat.reduceLT, Nat.reduceLeDiff, Nat.reduceEqDiff, ↓reduceIte, Nat.add_zero, Nat.zero_add, true_and, and_true, Nat.le_refl, reduceCtorEq, false_implies, true_implies, not_true_eq_false, not_false_eq_true, Int.reduceAdd, Int.reduceSub, Int.reduceMul, Int.reduceLE, Int.reduceLT, Int.reduceEq, Int.reduceNe, Int.reduceNeg, Int.reduceDiv, Int.reduceMod, Bool.false_eq_true, Int.le_refl, and_self, true_or, or_true, inR_l, fv0, fv1, fv2, fv3, nc2, nc4, nc6, nc16, nc25, nc60, nc65, nc80, nc130, nc384, nc390, fp_0_0, fp_0_1, fp_0_2, fp_1_0, fp_1_1, fp_1_2, fp_1_3, fp_1_4, fp_1_5, fp_1_6, fp_1_7, fp_1_8, fp_1_9, fp_1_10, fp_1_11, fp_1_12, fp_1_13, fp_1_14, fp_2_0, fp_2_1, fp_2_2, fp_2_3, fp_3_0, fp_3_1, fp_4_0, fp_4_1, fp_4_2, fp_4_3, fp_4_4, fp_4_5, fp_4_6, fp_4_7, fp_5_0, fp_5_1, fp_5_2, fp_5_3, fp_5_4, fp_5_5, fp_5_6, fp_5_7, fp_6_0, fp_6_1, fp_6_2, fp_6_3, fp_6_4, fp_6_5, fp_6_6, fp_6_7, fp_6_8, fp_6_9, fp_6_10, fp_6_11, fp_6_12, fp_6_13, fp_6_14, fp_6_15, fp_7_0, fp_7_1, fp_7_2, fp_7_3, fp_7_4, fp_7_5, fp_7_6, fp_7_7, fp_7_8, fp_7_9, fp_7_10, fp_7_11, fp_7_12, fp_7_13, fp_7_14, fp_7_15, fp_7_16, fp_7_17, fp_7_18, fp_7_19, fp_7_20, fp_7_21, fp_7_22, fp_7_23, fp_7_24, iz_0_1, iz_0_2, iz_1_8, iz_1_9, iz_1_11, iz_2_1, iz_2_2, iz_2_3, iz_3_1, iz_4_1, iz_4_2, iz_5_0, iz_6_8, iz_6_9, iz_6_13, iz_6_14, iz_6_15, iz_7_2, iz_7_6, iz_7_12, iz_7_20, iz_7_21, iz_7_23, iz_7_24, ak_8, ak_9, ak_10, ak_11, ak_12, ak_13, ak_14, ak_15, ak_16, ak_17, ak_18, ak_19, ak_20, ak_21, ak_22, ak_23, ak_24, ak_25, ak_26, ak_27, ak_28, ak_29, ak_30, ak_31, ak_32, ak_33, ak_34, ak_35, ak_36, ak_37, ak_38, ak_39, ak_40, ak_41, ak_42, ak_43, ak_44, ak_45, ak_46, ak_47, ak_48, ak_49, ak_50, ak_51, ak_52, ak_53, ak_54, ak_55, ak_56, el31, el33, el34, CX6_knowPlan, ca_X6_knowPlan, frX6, kcX6, klX6, T_X1_load, T_X1_followOrders, T_X1_measure, T_X3_trace, up_ap, false_and, and_false, if_false, if_true, ite_true, ite_false]
      obtain ⟨⟨p1, p2⟩, h, hn⟩ := h
      refine ⟨fun a => ?_, fun a => ⟨sWF_B p1, fun σ1 hL => ⟨⟨hL.2.1, hL.2.2.1, Lod_qB p1 hL⟩, fun σ2 hF => ⟨FS_st hL.2.1 hL.2.2.2.1 hF, fun σ3 hR hM => ?_, fun σ3 hR hN => ?_⟩⟩⟩⟩
      · rcases p2 with q | ⟨q, ⟨q1, q2⟩ | ⟨q1, q2⟩⟩
        · exact absurd q a
        · rw [q1]
          exact ⟨Or.inr rfl, h σ FrG.r q q1 q2⟩
        · rw [q1]
          exact ⟨Or.inl rfl, hn σ FrG.r q q1 q2⟩
      · have hFF : FrG pKn σ σ3 := ((hL.1.w (by rintro t a x ⟨q1, q2⟩; exact Or.inl ⟨q1, by omega⟩)).t (hF.1.w (by rintro t a x ⟨q1, q2⟩; exact Or.inl ⟨q2, by omega⟩))).t (fun t a x q => hR t a x (fun ⟨z1, z2⟩ => q (Or.inl ⟨z1, by omega⟩)))
        have hF4 : FrG pKn σ (up σ3 6 0 9 1) := hFF.u (Or.inr (Or.inr ⟨rfl, rfl, Or.inr rfl⟩))
        have u : ∀ t a, t ≠ 6 → (up σ3 6 0 9 1) t a = σ3 t a := fun t a ht => funext fun x => by rw [up_ap, if_neg (fun q => ht q.1)]
        have hPM : PM σ (up σ3 6 0 9 1) 0 0 := (PM_cg (fun t ht => rfl) (fun t ht => u t 0 (by omega)) (by rw [u 1 0 (by omega)])).mpr (plan_ok p1 hL hF hR hM)
        have he : ∀ t, t = 5 ∨ t = 8 ∨ t = 10 ∨ t = 11 ∨ t = 12 ∨ t = 13 ∨ t = 14 → (up σ3 6 0 9 1) t 0 = σ t 0 := fun t ht => pKn_f hF4 t 0 (by omega)
        refine ⟨PM_c p1 hPM he, fun σ4 hT => ?_⟩
        have hF5 : FrG pKn σ σ4 := hF4.t (hT.1.w (fun _ _ _ q => Or.inr (Or.inl q)))
        have e9 : σ4 6 0 9 = 1 := by
          rw [pPa_f hT.1 6 0 (by omega), up_ap, if_pos ⟨rfl, rfl, rfl⟩]
        rw [e9]
        have hPK := TR_PK p1 hPM he hT
        have u2 : ∀ t a, t ≠ 6 → (up σ4 6 0 8 1) t a = σ4 t a := fun t a ht => funext fun x => by rw [up_ap, if_neg (fun q => ht q.1)]
        refine ⟨Or.inr rfl, h _ (hF5.u (Or.inr (Or.inr ⟨rfl, rfl, Or.inl rfl⟩))) (by rw [up_ap, if_pos ⟨rfl, rfl, rfl⟩]) (by rw [up_ap, if_neg (by rintro ⟨-, -, q⟩; omega)]; exact e9) ?_⟩
        unfold PK PM sH sT at hPK ⊢
        simp only [u2 1 0 (by omega), u2 3 0 (by omega), u2 8 0 (by omega), u2 10 0 (by omega), u2 11 0 (by omega), u2 12 0 (by omega), u2 13 0 (by omega), u2 14 0 (by omega), u2 15 0 (by omega), u2 16 0 (by omega), u2 17 0 (by omega), u2 21 0 (by omega), u2 22 0 (by omega), u2 37 0 (by omega)]
        exact hPK
      · have hFF : FrG pKn σ σ3 := ((hL.1.w (by rintro t a x ⟨q1, q2⟩; exact Or.inl ⟨q1, by omega⟩)).t (hF.1.w (by rintro t a x ⟨q1, q2⟩; exact Or.inl ⟨q2, by omega⟩))).t (fun t a x q => hR t a x (fun ⟨z1, z2⟩ => q (Or.inl ⟨z1, by omega⟩)))
        have hF4 : FrG pKn σ (up (up σ3 6 0 9 0) 6 0 8 1) := (hFF.u (Or.inr (Or.inr ⟨rfl, rfl, Or.inr rfl⟩))).u (Or.inr (Or.inr ⟨rfl, rfl, Or.inl rfl⟩))
        have hno := plan_no p1 hL hF hN
        refine hn _ hF4 (by rw [up_ap, if_pos ⟨rfl, rfl, rfl⟩]) (by rw [up_ap, if_neg (by rintro ⟨-, -, q⟩; omega), up_ap, if_pos ⟨rfl, rfl, rfl⟩]) (fun g hg => hno g ?_)
        unfold sH at hg ⊢
        rw [pKn_f hF4 8 0 (by omega), pKn_f hF4 10 0 (by omega), pKn_f hF4 11 0 (by omega), pKn_f hF4 12 0 (by omega), pKn_f hF4 13 0 (by omega), pKn_f hF4 14 0 (by omega)] at hg
        exact hg
    · exact h.elim
