def ca_X7_takePart : Nat → Option (Nat × Nat × Tr)
  | 287 => some (1, 7, T_X7_takeRoute)
  | 290 => some (1, 7, T_X7_takeOrder)
  | _ => none
theorem cao_X7_takePart (l : Launch) : ∀ k n' ci T', ca_X7_takePart k = some (n', ci, T') → ∃ nn, nn + 1 ≤ 3 ∧ Site l yX7_takePart.cls k n' ci nn T' := by
  intro k n' ci T' h
  unfold ca_X7_takePart at h
  split at h
  · cases h; exact ⟨2, by decide, _, _, _, _, k_X7_takeRoute l, Or.inl ⟨_, rfl, FX7_takeRoute, KRX7_287⟩⟩
  · cases h; exact ⟨2, by decide, _, _, _, _, k_X7_takeOrder l, Or.inl ⟨_, rfl, FX7_takeOrder, KRX7_290⟩⟩
  · cases h
def T_X7_takePart : Tr := fun a σ K => match a with
  | [.inr (.inl (7, 0)), .inl k] => ∃ σ0, (xL σ0 ≤ 80 ∧ FFp σ0 σ k) ∧ ∀ σ', FFi σ0 σ' k → σ' 7 0 23 = σ 7 0 23 + 1 → K none σ'
  | _ => False
set_option maxHeartbeats 4000000 in
set_option maxRecDepth 20000 in
theorem k_X7_takePart (l : Launch) : Ct l yX7_takePart cX7_takePart 2 none 3 T_X7_takePart := by
  refine mk_met (by decide +kernel) hCX7_takePart lCX7_takePart frX7_ok cstX7_ok (cao_X7_takePart l) ?_ ?_
  · intro a σ K h
    unfold T_X7_takePart at h
    split at h
    · simp [eL]
    · exact h.elim
  · intro a σ K ha hR h
    unfold T_X7_takePart at h
    split at h
    · rename_i k
      refine ⟨fun _ => none, 200, fun pc I L S σ' k h => (by cases h), ?_⟩
      simp only [wp, stp, drp, entL, eL, lget, lset, okst, cnd, swt, rcv, Kr_int, Kr_bool, Kr_void, List.length_cons, List.length_nil, List.replicate, List.append_nil, List.cons_append, List.nil_append, List.take_succ_cons, List.take_zero, List.drop_succ_cons, List.drop_zero, List.reverse_cons, List.reverse_nil, Option.map_some, Option.map_none, Option.toList_some, Option.toList_none, Nat.reduceAdd, Nat.reduceSub, Nat.reduceLT, Nat.reduceLeDiff, Nat.reduceEqDiff, ↓reduceIte, Nat.add_zero, Nat.zero_add, true_and, and_true, Nat.le_refl, reduceCtorEq, false_implies, true_implies, not_true_eq_false, not_false_eq_true, Int.reduceAdd, Int.reduceSub, Int.reduceMul, Int.reduceLE, Int.reduceLT, Int.reduceEq, Int.reduceNe, Int.reduceNeg, Int.reduceDiv, Int.reduceMod, Bool.false_eq_true, Int.le_refl, and_self, true_or, or_true, inR_l, fv0, fv1, fv2, fv3, nc2, nc4, nc6, nc16, nc25, nc60, nc65, nc80, nc130, nc384, nc390, fp_0_0, fp_0_1, fp_0_2, fp_1_0, fp_1_1, fp_1_2, fp_1_3, fp_1_4, fp_1_5, fp_1_6, fp_1_7, fp_1_8, fp_1_9, fp_1_10, fp_1_11, fp_1_12, fp_1_13, fp_1_14, fp_2_0, fp_2_1, fp_2_2, fp_2_3, fp_3_0, fp_3_1, fp_4_0, fp_4_1, fp_4_2, fp_4_3, fp_4_4, fp_4_5, fp_4_6, fp_4_7, fp_5_0, fp_5_1, fp_5_2, fp_5_3, fp_5_4, fp_5_5, fp_5_6, fp_5_7, fp_6_0, fp_6_1, fp_6_2, fp_6_3, fp_6_4, fp_6_5, fp_6_6, fp_6_7, fp_6_8, fp_6_9, fp_6_10, fp_6_11, fp_6_12, fp_6_13, fp_6_14, fp_6_15, fp_7_0, fp_7_1, fp_7_2, fp_7_3, fp_7_4, fp_7_5, fp_7_6, fp_7_7, fp_7_8, fp_7_9, fp_7_10, fp_7_11, fp_7_12, fp_7_13, fp_7_14, fp_7_15, fp_7_16, fp_7_17, fp_7_18, fp_7_19, fp_7_20, fp_7_21, fp_7_22, fp_7_23, fp_7_24, iz_0_1, iz_0_2, iz_1_8, iz_1_9, iz_1_11, iz_2_1, iz_2_2, iz_2_3, iz_3_1, iz_4_1, iz_4_2, iz_5_0, iz_6_8, iz_6_9, iz_6_13, iz_6_14, iz_6_15, iz_7_2, iz_7_6, iz_7_12, iz_7_20, iz_7_21, iz_7_23, iz_7_24, ak_8, ak_9, ak_10, ak_11, ak_12, ak_13, ak_14, ak_15, ak_16, ak_17, ak_18, ak_19, ak_20, ak_21, ak_22, ak_23, ak_24, ak_25, ak_26, ak_27, ak_28, ak_29, ak_30, ak_31, ak_32, ak_33, ak_34, ak_35, ak_36, ak_37, ak_38, ak_39, ak_40, ak_41, ak_42, ak_43, ak_44, ak_45, ak_46, ak_47, ak_48, ak_49, ak_50, ak_51, ak_52, ak_53, ak_54, ak_55, ak_56, el31, el33, el34, CX7_takePart, ca_X7_takePart, frX7, kcX7, klX7, T_X7_takeRoute, T_X7_takeOrder]
      obtain ⟨σ0, ⟨p1, p2⟩, h⟩ := h
      rcases p2 with ⟨z, J, Rs, r⟩ | ⟨z, J, ln, q, r⟩
      · obtain ⟨a1, a2, a3, a4, a5, a6, a7, -⟩ := id r
        have hc := pRt_c a1
        refine ⟨fun y => absurd z y, fun _ => ⟨⟨a5, by rw [hc.2]; exact a6, by rw [hc.2]; exact p1, a7, by omega, by omega⟩, fun σ' e => h σ' (Or.inl ⟨z, RFi_s r e⟩) e.2.1⟩⟩
      · obtain ⟨a1, a2, a3, a4, a5, a6, a7, a8, -⟩ := id r
        have hc := pRt_c a1
        refine ⟨fun _ => ⟨ln, q, ⟨a5, by rw [hc.2]; exact a6, by rw [hc.2]; exact p1, a7, by omega, by omega, a8⟩, fun σ' e => h σ' (Or.inr ⟨z, OFi_s r e⟩) e.2.1⟩, fun y => absurd z (by omega)⟩
    · exact h.elim
def ca_X7_faultOf : Nat → Option (Nat × Nat × Tr)
  | 293 => some (2, 7, T_X7_takePart)
  | 269 => some (1, 7, T_X7_next2)
  | _ => none
theorem cao_X7_faultOf (l : Launch) : ∀ k n' ci T', ca_X7_faultOf k = some (n', ci, T') → ∃ nn, nn + 1 ≤ 4 ∧ Site l yX7_faultOf.cls k n' ci nn T' := by
  intro k n' ci T' h
  unfold ca_X7_faultOf at h
  split at h
  · cases h; exact ⟨3, by decide, _, _, _, _, k_X7_takePart l, Or.inl ⟨_, rfl, FX7_takePart, KRX7_293⟩⟩
  · cases h; exact ⟨0, by decide, _, _, _, _, k_X7_next2 l, Or.inl ⟨_, rfl, FX7_next, KRX7_269⟩⟩
  · cases h
def T_X7_faultOf : Tr := fun a σ K => match a with
  | [.inr (.inl (7, 0)), .inl kd] => (0 ≤ xL σ ∧ xL σ ≤ 80 ∧ (kd = 0 ∨ kd = 1)) ∧ ∀ σ', FFe σ σ' kd → K (some (fltF (xT σ) (xL σ) kd)) σ'
  | _ => False
set_option maxHeartbeats 8000000 in
set_option maxRecDepth 20000 in
theorem k_X7_faultOf (l : Launch) : Ct l yX7_faultOf cX7_faultOf 2 (some .int) 4 T_X7_faultOf := by
  refine mk_met (by decide +kernel) hCX7_faultOf lCX7_faultOf frX7_ok cstX7_ok (cao_X7_faultOf l) ?_ ?_
  · intro a σ K h
    unfold T_X7_faultOf at h
    split at h
    · simp [eL]
    · exact h.elim
  · intro a σ K ha hR h
    unfold T_X7_faultOf at h
    split at h
    · rename_i kd
      obtain ⟨⟨p1, p2, p3⟩, h⟩ := h
      refine ⟨fun pc => if pc = 25 then some (fun L S σ' k => match L, S with | [some (.inr (.inl c1)), some (.inl k')], [] => (c1 = (7, 0) ∧ k' = kd ∧ FFi σ σ' kd) ∧ k = (4 - σ' 7 0 23).toNat | _, _ => False) else none, 200, ?_, ?_⟩
      · intro pc I L S σ' k hcut hi
        dsimp only at hcut
        split at hcut
        · rename_i hpc
          subst hpc
          cases hcut
          try dsimp only at hi
          split at hi
          · rename_i c1 k'
            obtain ⟨hi, rfl⟩ := hi
            obtain ⟨rfl, rfl, hI⟩ := hi
            simp only [wp, stp, drp, entL, eL, lget, lset, okst, cnd, swt, rcv, Kr_int, Kr_bool, Kr_void, List.length_cons, List.length_nil, List.replicate, List.append_nil, List.cons_append, List.nil_append, List.take_succ_cons, List.take_zero, List.drop_succ_cons, List.drop_zero, List.reverse_cons, List.reverse_nil, Option.map_some, Option.map_none, Option.toList_some, Option.toList_none, Nat.reduceAdd, Nat.reduceSub, Nat.reduceLT, Nat.reduceLeDiff, Nat.reduceEqDiff, ↓reduceIte, Nat.add_zero, Nat.zero_add, true_and, and_true, Nat.le_refl, reduceCtorEq, false_implies, true_implies, not_true_eq_false, not_false_eq_true, Int.reduceAdd, Int.reduceSub, Int.reduceMul, Int.reduceLE, Int.reduceLT, Int.reduceEq, Int.reduceNe, Int.reduceNeg, Int.reduceDiv, Int.reduceMod, Bool.false_eq_true, Int.le_refl, and_self, true_or, or_true, inR_l, fv0, fv1, fv2, fv3, nc2, nc4, nc6, nc16, nc25, nc60, nc65, nc80, nc130, nc384, nc390, fp_0_0, fp_0_1, fp_0_2, fp_1_0, fp_1_1, fp_1_2, fp_1_3, fp_1_4, fp_1_5, fp_1_6, fp_1_7, fp_1_8, fp_1_9, fp_1_10, fp_1_11, fp_1_12, fp_1_13, fp_1_14, fp_2_0, fp_2_1, fp_2_2, fp_2_3, fp_3_0, fp_3_1, fp_4_0, fp_4_1, fp_4_2, fp_4_3, fp_4_4, fp_4_5, fp_4_6, fp_4_7, fp_5_0, fp_5_1, fp_5_2, fp_5_3, fp_5_4, fp_5_5, fp_5_6, fp_5_7, fp_6_0, fp_6_1, fp_6_2, fp_6_3, fp_6_4, fp_6_5, fp_6_6, fp_6_7, fp_6_8, fp_6_9, fp_6_10, fp_6_11, fp_6_12, fp_6_13, fp_6_14, fp_6_15, fp_7_0, fp_7_1, fp_7_2, fp_7_3, fp_7_4, fp_7_5, fp_7_6, fp_7_7, fp_7_8, fp_7_9, fp_7_10, fp_7_11, fp_7_12, fp_7_13, fp_7_14, fp_7_15, fp_7_16, fp_7_17, fp_7_18, fp_7_19, fp_7_20, fp_7_21, fp_7_22, fp_7_23, fp_7_24, iz_0_1, iz_0_2, iz_1_8, iz_1_9, iz_1_11, iz_2_1, iz_2_2, iz_2_3, iz_3_1, iz_4_1, iz_4_2, iz_5_0, iz_6_8, iz_6_9, iz_6_13, iz_6_14, iz_6_15, iz_7_2, iz_7_6, iz_7_12, iz_7_20, iz_7_21, iz_7_23, iz_7_24, ak_8, ak_9, ak_10, ak_11, ak_12, ak_13, ak_14, ak_15, ak_16, ak_17, ak_18, ak_19, ak_20, ak_21, ak_22, ak_23, ak_24, ak_25, ak_26, ak_27, ak_28, ak_29, ak_30, ak_31, ak_32, ak_33, ak_34, ak_35, ak_36, ak_37, ak_38, ak_39, ak_40, ak_41, ak_42, ak_43, ak_44, ak_45, ak_46, ak_47, ak_48, ak_49, ak_50, ak_51, ak_52, ak_53, ak_54, ak_55, ak_56, el31, el33, el34, CX7_faultOf, ca_X7_faultOf, frX7, kcX7, klX7, T_X7_takePart, T_X7_next2, up_ap, false_and, and_false, if_false, if_true, ite_true, ite_false, xT_up, xL_20, xL_21, xT_55, xL_55, xL_24, exists_eq_right_right, exists_eq_right, exists_eq_left, Nat.lt_irrefl, and_self, implies_true, forall_const]
            have hb := FFi_b hI
            have hc := pRt_c hb.1
            rw [hc.1, hc.2]
            have eL : σ' 7 0 6 = xL σ := hc.2
            rw [eL]
            have KE : (σ' 7 0 21 ≠ 0 ∨ nx (xT σ) (xL σ) (σ' 7 0 20) ≠ 59 ∨ 4 ≤ σ' 7 0 23) → (σ' 7 0 21 ≠ 0 → K (some (σ' 7 0 20)) σ') ∧ (¬ σ' 7 0 21 ≠ 0 → (xL σ ≤ σ' 7 0 20 → K (some (-6)) σ') ∧ (¬ xL σ ≤ σ' 7 0 20 → K (some (σ' 7 0 20)) σ')) := fun z => by
              obtain ⟨e1, e2, e3⟩ := FFi_end hI z
              have hk := h _ e1
              exact ⟨fun y => by rw [e2 y] at hk; exact hk, fun y => ⟨fun x => by rw [(e3 y).1 x] at hk; exact hk, fun x => by rw [(e3 y).2 x] at hk; exact hk⟩⟩
            refine ⟨fun a => KE (Or.inl a), fun a => ⟨⟨hb.2.2.2.1, p2⟩, fun b => KE (Or.inr (Or.inl b)), fun b => ⟨fun c => KE (Or.inr (Or.inr c)), fun c => ⟨by simp only [inR]; omega, σ, ⟨p2, FFi_go hI a (Classical.not_not.mp b) c rfl⟩, fun σ1 e f => ⟨?_, e⟩⟩⟩⟩⟩
            have hb1 := FFi_b e
            omega
          · exact hi.elim
        · cases hcut
      · simp only [wp, stp, drp, entL, eL, lget, lset, okst, cnd, swt, rcv, Kr_int, Kr_bool, Kr_void, List.length_cons, List.length_nil, List.replicate, List.append_nil, List.cons_append, List.nil_append, List.take_succ_cons, List.take_zero, List.drop_succ_cons, List.drop_zero, List.reverse_cons, List.reverse_nil, Option.map_some, Option.map_none, Option.toList_some, Option.toList_none, Nat.reduceAdd, Nat.reduceSub, Nat.reduceLT, Nat.reduceLeDiff, Nat.reduceEqDiff, ↓reduceIte, Nat.add_zero, Nat.zero_add, true_and, and_true, Nat.le_refl, reduceCtorEq, false_implies, true_implies, not_true_eq_false, not_false_eq_true, Int.reduceAdd, Int.reduceSub, Int.reduceMul, Int.reduceLE, Int.reduceLT, Int.reduceEq, Int.reduceNe, Int.reduceNeg, Int.reduceDiv, Int.reduceMod, Bool.false_eq_true, Int.le_refl, and_self, true_or, or_true, inR_l, fv0, fv1, fv2, fv3, nc2, nc4, nc6, nc16, nc25, nc60, nc65, nc80, nc130, nc384, nc390, fp_0_0, fp_0_1, fp_0_2, fp_1_0, fp_1_1, fp_1_2, fp_1_3, fp_1_4, fp_1_5, fp_1_6, fp_1_7, fp_1_8, fp_1_9, fp_1_10, fp_1_11, fp_1_12, fp_1_13, fp_1_14, fp_2_0, fp_2_1, fp_2_2, fp_2_3, fp_3_0, fp_3_1, fp_4_0, fp_4_1, fp_4_2, fp_4_3, fp_4_4, fp_4_5, fp_4_6, fp_4_7, fp_5_0, fp_5_1, fp_5_2, fp_5_3, fp_5_4, fp_5_5, fp_5_6, fp_5_7, fp_6_0, fp_6_1, fp_6_2, fp_6_3, fp_6_4, fp_6_5, fp_6_6, fp_6_7, fp_6_8, fp_6_9, fp_6_10, fp_6_11, fp_6_12, fp_6_13, fp_6_14, fp_6_15, fp_7_0, fp_7_1, fp_7_2, fp_7_3, fp_7_4, fp_7_5, fp_7_6, fp_7_7, fp_7_8, fp_7_9, fp_7_10, fp_7_11, fp_7_12, fp_7_13, fp_7_14, fp_7_15, fp_7_16, fp_7_17, fp_7_18, fp_7_19, fp_7_20, fp_7_21, fp_7_22, fp_7_23, fp_7_24, iz_0_1, iz_0_2, iz_1_8, iz_1_9, iz_1_11, iz_2_1, iz_2_2, iz_2_3, iz_3_1, iz_4_1, iz_4_2, iz_5_0, iz_6_8, iz_6_9, iz_6_13, iz_6_14, iz_6_15, iz_7_2, iz_7_6, iz_7_12, iz_7_20, iz_7_21, iz_7_23, iz_7_24, ak_8, ak_9, ak_10, ak_11, ak_12, ak_13, ak_14, ak_15, ak_16, ak_17, ak_18, ak_19, ak_20, ak_21, ak_22, ak_23, ak_24, ak_25, ak_26, ak_27, ak_28, ak_29, ak_30, ak_31, ak_32, ak_33, ak_34, ak_35, ak_36, ak_37, ak_38, ak_39, ak_40, ak_41, ak_42, ak_43, ak_44, ak_45, ak_46, ak_47, ak_48, ak_49, ak_50, ak_51, ak_52, ak_53, ak_54, ak_55, ak_56, el31, el33, el34, CX7_faultOf, ca_X7_faultOf, frX7, kcX7, klX7, T_X7_takePart, T_X7_next2, up_ap, false_and, and_false, if_false, if_true, ite_true, ite_false, xT_up, xL_20, xL_21, xT_55, xL_55, xL_24, exists_eq_right_right, exists_eq_right, exists_eq_left, Nat.lt_irrefl, and_self, implies_true, forall_const]
        refine ⟨σ, ⟨p2, FFp_0 p3 ((((FrG.r.u (Or.inl ⟨rfl, rfl, by omega, by omega⟩)).u (Or.inl ⟨rfl, rfl, by omega, by omega⟩)).u (Or.inl ⟨rfl, rfl, by omega, by omega⟩)).u (Or.inl ⟨rfl, rfl, by omega, by omega⟩)) p1 (by simp [up_ap]) (by simp [up_ap]) (by simp [up_ap]) (by simp [up_ap])⟩, fun σ' e f => e⟩
    · exact h.elim
