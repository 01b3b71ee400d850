def ca_X7_isCritical : Nat → Option (Nat × Nat × Tr)
  | 147 => some (2, 7, T_X7_throughOf)
  | 143 => some (1, 7, T_X7_lastEnd)
  | _ => none
theorem cao_X7_isCritical (l : Launch) : ∀ k n' ci T', ca_X7_isCritical k = some (n', ci, T') → ∃ nn, nn + 1 ≤ 3 ∧ Site l yX7_isCritical.cls k n' ci nn T' := by
  intro k n' ci T' h
  unfold ca_X7_isCritical at h
  split at h
  · cases h; exact ⟨1, by decide, _, _, _, _, k_X7_throughOf l, Or.inl ⟨_, rfl, FX7_throughOf, KRX7_147⟩⟩
  · cases h; exact ⟨2, by decide, _, _, _, _, k_X7_lastEnd l, Or.inl ⟨_, rfl, FX7_lastEnd, KRX7_143⟩⟩
  · cases h
def T_X7_isCritical : Tr := fun a σ K => match a with
  | [.inr (.inl (7, 0)), .inl x] => (rBd σ ∧ rOp σ x) ∧ ∀ L, LE σ 16 L → K (some (if σ 45 0 x + σ 38 0 (14 + 2 * x) + σ 46 0 x = L then 1 else 0)) σ
  | _ => False
set_option maxHeartbeats 4000000 in
set_option maxRecDepth 20000 in
theorem k_X7_isCritical (l : Launch) : Ct l yX7_isCritical cX7_isCritical 2 (some .boolean) 3 T_X7_isCritical := by
  refine mk_met (by decide +kernel) hCX7_isCritical lCX7_isCritical frX7_ok cstX7_ok (cao_X7_isCritical l) ?_ ?_
  · intro a σ K h
    unfold T_X7_isCritical at h
    split at h
    · simp [eL]
    · exact h.elim
  · intro a σ K ha hR h
    unfold T_X7_isCritical at h
    split at h
    · rename_i x
      refine ⟨fun _ => none, 200, fun pc I L S σ' k h => (by cases h), ?_⟩
      simp only [wp, stp, drp, entL, eL, lget, lset, okst, cnd, swt, rcv, Kr_int, Kr_bool, Kr_void, List.length_cons, List.length_nil, List.replicate, List.append_nil, List.cons_append, List.nil_append, List.take_succ_cons, List.take_zero, List.drop_succ_cons, List.drop_zero, List.reverse_cons, List.reverse_nil, Option.map_some, Option.map_none, Option.toList_some, Option.toList_none, Nat.reduceAdd, Nat.reduceSub, Nat.reduceLT, Nat.reduceLeDiff, Nat.reduceEqDiff, ↓reduceIte, Nat.add_zero, Nat.zero_add, true_and, and_true, Nat.le_refl, reduceCtorEq, false_implies, true_implies, not_true_eq_false, not_false_eq_true, Int.reduceAdd, Int.reduceSub, Int.reduceMul, Int.reduceLE, Int.reduceLT, Int.reduceEq, Int.reduceNe, Int.reduceNeg, Int.reduceDiv, Int.reduceMod, Bool.false_eq_true, Int.le_refl, and_self, true_or, or_true, inR_l, fv0, fv1, fv2, fv3, nc2, nc4, nc6, nc16, nc25, nc60, nc65, nc80, nc130, nc384, nc390, fp_0_0, fp_0_1, fp_0_2, fp_1_0, fp_1_1, fp_1_2, fp_1_3, fp_1_4, fp_1_5, fp_1_6, fp_1_7, fp_1_8, fp_1_9, fp_1_10, fp_1_11, fp_1_12, fp_1_13, fp_1_14, fp_2_0, fp_2_1, fp_2_2, fp_2_3, fp_3_0, fp_3_1, fp_4_0, fp_4_1, fp_4_2, fp_4_3, fp_4_4, fp_4_5, fp_4_6, fp_4_7, fp_5_0, fp_5_1, fp_5_2, fp_5_3, fp_5_4, fp_5_5, fp_5_6, fp_5_7, fp_6_0, fp_6_1, fp_6_2, fp_6_3, fp_6_4, fp_6_5, fp_6_6, fp_6_7, fp_6_8, fp_6_9, fp_6_10, fp_6_11, fp_6_12, fp_6_13, fp_6_14, fp_6_15, fp_7_0, fp_7_1, fp_7_2, fp_7_3, fp_7_4, fp_7_5, fp_7_6, fp_7_7, fp_7_8, fp_7_9, fp_7_10, fp_7_11, fp_7_12, fp_7_13, fp_7_14, fp_7_15, fp_7_16, fp_7_17, fp_7_18, fp_7_19, fp_7_20, fp_7_21, fp_7_22, fp_7_23, fp_7_24, iz_0_1, iz_0_2, iz_1_8, iz_1_9, iz_1_11, iz_2_1, iz_2_2, iz_2_3, iz_3_1, iz_4_1, iz_4_2, iz_5_0, iz_6_8, iz_6_9, iz_6_13, iz_6_14, iz_6_15, iz_7_2, iz_7_6, iz_7_12, iz_7_20, iz_7_21, iz_7_23, iz_7_24, ak_8, ak_9, ak_10, ak_11, ak_12, ak_13, ak_14, ak_15, ak_16, ak_17, ak_18, ak_19, ak_20, ak_21, ak_22, ak_23, ak_24, ak_25, ak_26, ak_27, ak_28, ak_29, ak_30, ak_31, ak_32, ak_33, ak_34, ak_35, ak_36, ak_37, ak_38, ak_39, ak_40, ak_41, ak_42, ak_43, ak_44, ak_45, ak_46, ak_47, ak_48, ak_49, ak_50, ak_51, ak_52, ak_53, ak_54, ak_55, ak_56, el31, el33, el34, CX7_isCritical, ca_X7_isCritical, frX7, kcX7, klX7, T_X7_throughOf, T_X7_lastEnd, up_ap, false_and, and_false, if_false, if_true, ite_true, ite_false]
      obtain ⟨⟨p1, p2⟩, h⟩ := h
      have hb := p1.2 x p2
      have hd := rWF_op p1.1 p2
      have v0 := p2.1
      have v1 := p2.2.1
      have e : rDu σ x = σ 38 0 (14 + 2 * x) := rfl
      rw [e] at hd
      refine ⟨⟨v0, v1, ⟨by omega, by omega⟩, ⟨by omega, by omega⟩⟩, ⟨p1.1, fun o v => ⟨(p1.2 o v).1, (p1.2 o v).2.1⟩⟩, fun L hL => ⟨fun a => ?_, fun a => ?_⟩⟩
      · have := h L hL
        rw [if_neg a] at this
        exact this
      · have := h L hL
        rw [if_pos (Classical.not_not.mp a)] at this
        exact this
    · exact h.elim
def ca_X7_goesOn : Nat → Option (Nat × Nat × Tr)
  | 150 => some (2, 7, T_X7_isCritical)
  | 114 => some (2, 7, T_X7_endOf)
  | _ => none
theorem cao_X7_goesOn (l : Launch) : ∀ k n' ci T', ca_X7_goesOn k = some (n', ci, T') → ∃ nn, nn + 1 ≤ 4 ∧ Site l yX7_goesOn.cls k n' ci nn T' := by
  intro k n' ci T' h
  unfold ca_X7_goesOn at h
  split at h
  · cases h; exact ⟨3, by decide, _, _, _, _, k_X7_isCritical l, Or.inl ⟨_, rfl, FX7_isCritical, KRX7_150⟩⟩
  · cases h; exact ⟨1, by decide, _, _, _, _, k_X7_endOf l, Or.inl ⟨_, rfl, FX7_endOf, KRX7_114⟩⟩
  · cases h
def T_X7_goesOn : Tr := fun a σ K => match a with
  | [.inr (.inl (7, 0)), .inl x, .inl b] => (rBd σ ∧ rOp σ x ∧ (0 ≤ b → rOp σ b)) ∧ (∀ L, LE σ 16 L → gC σ L x b → K (some 1) σ) ∧ (∀ L, LE σ 16 L → ¬ gC σ L x b → K (some 0) σ)
  | _ => False
set_option maxHeartbeats 4000000 in
set_option maxRecDepth 20000 in
theorem k_X7_goesOn (l : Launch) : Ct l yX7_goesOn cX7_goesOn 3 (some .boolean) 4 T_X7_goesOn := by
  refine mk_met (by decide +kernel) hCX7_goesOn lCX7_goesOn frX7_ok cstX7_ok (cao_X7_goesOn l) ?_ ?_
  · intro a σ K h
    unfold T_X7_goesOn at h
    split at h
    · simp [eL]
    · exact h.elim
  · intro a σ K ha hR h
    unfold T_X7_goesOn at h
    split at h
    · rename_i x b
      refine ⟨fun _ => none, 200, fun pc I L S σ' k h => (by cases h), ?_⟩
      simp only [wp, stp, drp, entL, eL, lget, lset, okst, cnd, swt, rcv, Kr_int, Kr_bool, Kr_void, List.length_cons, List.length_nil, List.replicate, List.append_nil, List.cons_append, List.nil_append, List.take_succ_cons, List.take_zero, List.drop_succ_cons, List.drop_zero, List.reverse_cons, List.reverse_nil, Option.map_some, Option.map_none, Option.toList_some, Option.toList_none, Nat.reduceAdd, Nat.reduceSub, Nat.reduceLT, Nat.reduceLeDiff, Nat.reduceEqDiff, ↓reduceIte, Nat.add_zero, Nat.zero_add, true_and, and_true, Nat.le_refl, reduceCtorEq, false_implies, true_implies, not_true_eq_false, not_false_eq_true, Int.reduceAdd, Int.reduceSub, Int.reduceMul, Int.reduceLE, Int.reduceLT, Int.reduceEq, Int.reduceNe, Int.reduceNeg, Int.reduceDiv, Int.reduceMod, Bool.false_eq_true, Int.le_refl, and_self, true_or, or_true, inR_l, fv0, fv1, fv2, fv3, nc2, nc4, nc6, nc16, nc25, nc60, nc65, nc80, nc130, nc384, nc390, fp_0_0, fp_0_1, fp_0_2, fp_1_0, fp_1_1, fp_1_2, fp_1_3, fp_1_4, fp_1_5, fp_1_6, fp_1_7, fp_1_8, fp_1_9, fp_1_10, fp_1_11, fp_1_12, fp_1_13, fp_1_14, fp_2_0, fp_2_1, fp_2_2, fp_2_3, fp_3_0, fp_3_1, fp_4_0, fp_4_1, fp_4_2, fp_4_3, fp_4_4, fp_4_5, fp_4_6, fp_4_7, fp_5_0, fp_5_1, fp_5_2, fp_5_3, fp_5_4, fp_5_5, fp_5_6, fp_5_7, fp_6_0, fp_6_1, fp_6_2, fp_6_3, fp_6_4, fp_6_5, fp_6_6, fp_6_7, fp_6_8, fp_6_9, fp_6_10, fp_6_11, fp_6_12, fp_6_13, fp_6_14, fp_6_15, fp_7_0, fp_7_1, fp_7_2, fp_7_3, fp_7_4, fp_7_5, fp_7_6, fp_7_7, fp_7_8, fp_7_9, fp_7_10, fp_7_11, fp_7_12, fp_7_13, fp_7_14, fp_7_15, fp_7_16, fp_7_17, fp_7_18, fp_7_19, fp_7_20, fp_7_21, fp_7_22, fp_7_23, fp_7_24, iz_0_1, iz_0_2, iz_1_8, iz_1_9, iz_1_11, iz_2_1, iz_2_2, iz_2_3, iz_3_1, iz_4_1, iz_4_2, iz_5_0, iz_6_8, iz_6_9, iz_6_13, iz_6_14, iz_6_15, iz_7_2, iz_7_6, iz_7_12, iz_7_20, iz_7_21, iz_7_23, iz_7_24, ak_8, ak_9, ak_10, ak_11, ak_12, ak_13, ak_14, ak_15, ak_16, ak_17, ak_18, ak_19, ak_20, ak_21, ak_22, ak_23, ak_24, ak_25, ak_26, ak_27, ak_28, ak_29, ak_30, ak_31, ak_32, ak_33, ak_34, ak_35, ak_36, ak_37, ak_38, ak_39, ak_40, ak_41, ak_42, ak_43, ak_44, ak_45, ak_46, ak_47, ak_48, ak_49, ak_50, ak_51, ak_52, ak_53, ak_54, ak_55, ak_56, el31, el33, el34, CX7_goesOn, ca_X7_goesOn, frX7, kcX7, klX7, T_X7_isCritical, T_X7_endOf, up_ap, false_and, and_false, if_false, if_true, ite_true, ite_false]
      obtain ⟨⟨p1, p2, p3⟩, h, hn⟩ := h
      have hb := p1.2 x p2
      have hd := rWF_op p1.1 p2
      have v0 := p2.1
      have v1 := p2.2.1
      have e : ∀ x, σ 38 0 (14 + 2 * x) = rDu σ x := fun _ => rfl
      obtain ⟨L0, hL0⟩ := LE_ex p1
      refine ⟨fun a => hn L0 hL0 (fun z => by have := z.1; omega), fun a => ⟨⟨p1, p3 (by omega)⟩, fun L hL => ?_⟩⟩
      have hbb := p3 (by omega)
      have b0 := hbb.1
      have b1 := hbb.2.1
      simp only [e]
      have ex2 : (if x < 0 then 0 else σ 45 0 x + rDu σ x) = σ 45 0 x + rDu σ x := if_neg (by omega)
      rw [ex2]
      by_cases hc : σ 45 0 b + rDu σ b + σ 46 0 b = L
      · simp only [if_pos hc]
        refine ⟨fun q => absurd q (by omega), fun _ => ⟨⟨by omega, by omega⟩, ⟨by omega, fun _ => ⟨by omega, by omega⟩⟩, fun q => hn L hL (fun z => q z.2.2), fun q => h L hL ⟨by omega, hc, Classical.not_not.mp q⟩⟩⟩
      · simp only [if_neg hc]
        refine ⟨fun _ => hn L hL (fun z => hc z.2.1), fun q => absurd trivial q⟩
    · exact h.elim
