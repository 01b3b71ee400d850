def ca_X7_find : Nat → Option (Nat × Nat × Tr)
  | 130 => some (1, 7, T_X7_nothingStays)
  | 133 => some (2, 7, T_X7_findHeads)
  | 136 => some (1, 7, T_X7_findTails)
  | _ => none
theorem cao_X7_find (l : Launch) : ∀ k n' ci T', ca_X7_find k = some (n', ci, T') → ∃ nn, nn + 1 ≤ 4 ∧ Site l yX7_find.cls k n' ci nn T' := by
  intro k n' ci T' h
  unfold ca_X7_find at h
  split at h
  · cases h; exact ⟨0, by decide, _, _, _, _, k_X7_nothingStays l, Or.inl ⟨_, rfl, FX7_nothingStays, KRX7_130⟩⟩
  · cases h; exact ⟨3, by decide, _, _, _, _, k_X7_findHeads l, Or.inl ⟨_, rfl, FX7_findHeads, KRX7_133⟩⟩
  · cases h; exact ⟨3, by decide, _, _, _, _, k_X7_findTails l, Or.inl ⟨_, rfl, FX7_findTails, KRX7_136⟩⟩
  · cases h
def T_X7_find : Tr := fun a σ K => match a with
  | [.inr (.inl (7, 0))] => rWF σ ∧ (∀ σ', Fnd σ σ' → K (some 1) σ') ∧ (∀ σ', FrG pFd σ σ' → (∀ h, ¬ rH σ h) → K (some 0) σ')
  | _ => False
set_option maxHeartbeats 4000000 in
set_option maxRecDepth 20000 in
theorem k_X7_find (l : Launch) : Ct l yX7_find cX7_find 1 (some .boolean) 4 T_X7_find := by
  refine mk_met (by decide +kernel) hCX7_find lCX7_find frX7_ok cstX7_ok (cao_X7_find l) ?_ ?_
  · intro a σ K h
    unfold T_X7_find at h
    split at h
    · simp [eL]
    · exact h.elim
  · intro a σ K ha hR h
    unfold T_X7_find at h
    split at h
    · refine ⟨fun _ => none, 200, fun pc I L S σ' k h => (by cases h), ?_⟩
      simp only [wp, stp, drp, entL, eL, lget, lset, okst, cnd, swt, rcv, Kr_int, Kr_bool, Kr_void, List.length_cons, List.length_nil, List.replicate, List.append_nil, List.cons_append, List.nil_append, List.take_succ_cons, List.take_zero, List.drop_succ_cons, List.drop_zero, List.reverse_cons, List.reverse_nil, Option.map_some, Option.map_none, Option.toList_some, Option.toList_none, Nat.reduceAdd, Nat.reduceSub, Nat.reduceLT, Nat.reduceLeDiff, Nat.reduceEqDiff, ↓reduceIte, Nat.add_zero, Nat.zero_add, true_and, and_true, Nat.le_refl, reduceCtorEq, false_implies, true_implies, not_true_eq_false, not_false_eq_true, Int.reduceAdd, Int.reduceSub, Int.reduceMul, Int.reduceLE, Int.reduceLT, Int.reduceEq, Int.reduceNe, Int.reduceNeg, Int.reduceDiv, Int.reduceMod, Bool.false_eq_true, Int.le_refl, and_self, true_or, or_true, inR_l, fv0, fv1, fv2, fv3, nc2, nc4, nc6, nc16, nc25, nc60, nc65, nc80, nc130, nc384, nc390, fp_0_0, fp_0_1, fp_0_2, fp_1_0, fp_1_1, fp_1_2, fp_1_3, fp_1_4, fp_1_5, fp_1_6, fp_1_7, fp_1_8, fp_1_9, fp_1_10, fp_1_11, fp_1_12, fp_1_13, fp_1_14, fp_2_0, fp_2_1, fp_2_2, fp_2_3, fp_3_0, fp_3_1, fp_4_0, fp_4_1, fp_4_2, fp_4_3, fp_4_4, fp_4_5, fp_4_6, fp_4_7, fp_5_0, fp_5_1, fp_5_2, fp_5_3, fp_5_4, fp_5_5, fp_5_6, fp_5_7, fp_6_0, fp_6_1, fp_6_2, fp_6_3, fp_6_4, fp_6_5, fp_6_6, fp_6_7, fp_6_8, fp_6_9, fp_6_10, fp_6_11, fp_6_12, fp_6_13, fp_6_14, fp_6_15, fp_7_0, fp_7_1, fp_7_2, fp_7_3, fp_7_4, fp_7_5, fp_7_6, fp_7_7, fp_7_8, fp_7_9, fp_7_10, fp_7_11, fp_7_12, fp_7_13, fp_7_14, fp_7_15, fp_7_16, fp_7_17, fp_7_18, fp_7_19, fp_7_20, fp_7_21, fp_7_22, fp_7_23, fp_7_24, iz_0_1, iz_0_2, iz_1_8, iz_1_9, iz_1_11, iz_2_1, iz_2_2, iz_2_3, iz_3_1, iz_4_1, iz_4_2, iz_5_0, iz_6_8, iz_6_9, iz_6_13, iz_6_14, iz_6_15, iz_7_2, iz_7_6, iz_7_12, iz_7_20, iz_7_21, iz_7_23, iz_7_24, ak_8, ak_9, ak_10, ak_11, ak_12, ak_13, ak_14, ak_15, ak_16, ak_17, ak_18, ak_19, ak_20, ak_21, ak_22, ak_23, ak_24, ak_25, ak_26, ak_27, ak_28, ak_29, ak_30, ak_31, ak_32, ak_33, ak_34, ak_35, ak_36, ak_37, ak_38, ak_39, ak_40, ak_41, ak_42, ak_43, ak_44, ak_45, ak_46, ak_47, ak_48, ak_49, ak_50, ak_51, ak_52, ak_53, ak_54, ak_55, ak_56, el31, el33, el34, CX7_find, ca_X7_find, frX7, kcX7, klX7, T_X7_nothingStays, T_X7_findHeads, T_X7_findTails, up_ap, false_and, and_false, if_false, if_true, ite_true, ite_false]
      obtain ⟨p1, h, hn⟩ := h
      intro σ1 hN
      obtain ⟨f1, f2, f3, f4, f5⟩ := find_h p1 hN
      refine ⟨f2, fun σ2 hF hS hb => ?_, fun σ2 hF hS => ?_⟩
      · have hF2 : FrG pFd σ σ2 := f1.t (hF.w (by rintro t a x ⟨q, r⟩; exact ⟨by omega, r⟩))
        have hh := (f3 _).mp hS
        rw [f4] at hb
        obtain ⟨t1, t2, t3⟩ := find_t p1 (pFd_38 hF2) hh hb
        refine ⟨t1, fun σ3 hF3 hS3 hb3 => h σ3 ?_⟩
        have e45 : σ3 45 0 = σ2 45 0 := hF3.f 45 0 (by rintro x ⟨q, -⟩; omega)
        rw [t2] at hb3
        refine ⟨hF2.t (hF3.w (by rintro t a x ⟨q, r⟩; exact ⟨by omega, r⟩)), by rw [e45]; exact hh, (t3 _).mp hS3, fun o v => ?_⟩
        rw [e45]
        exact ⟨(hb o v).1, (hb o v).2, (hb3 o v).1, (hb3 o v).2⟩
      · exact hn σ2 (f1.t (hF.w (by rintro t a x ⟨q, r⟩; exact ⟨by omega, r⟩))) (fun g hg => hS g ((f3 g).mpr hg))
    · exact h.elim
def ca_X7_lastEnd : Nat → Option (Nat × Nat × Tr)
  | 102 => some (2, 7, T_X7_isOperation)
  | 114 => some (2, 7, T_X7_endOf)
  | 108 => some (2, 99, T_X7_greater)
  | _ => none
theorem cao_X7_lastEnd (l : Launch) : ∀ k n' ci T', ca_X7_lastEnd k = some (n', ci, T') → ∃ nn, nn + 1 ≤ 2 ∧ Site l yX7_lastEnd.cls k n' ci nn T' := by
  intro k n' ci T' h
  unfold ca_X7_lastEnd at h
  split at h
  · cases h; exact ⟨1, by decide, _, _, _, _, k_X7_isOperation l, Or.inl ⟨_, rfl, FX7_isOperation, KRX7_102⟩⟩
  · cases h; exact ⟨1, by decide, _, _, _, _, k_X7_endOf l, Or.inl ⟨_, rfl, FX7_endOf, KRX7_114⟩⟩
  · cases h; exact ⟨0, by decide, _, _, _, _, k_X7_greater l, Or.inr ⟨rfl, FX7_greater, Or.inl ⟨rfl, KRX7_108⟩⟩⟩
  · cases h
def T_X7_lastEnd : Tr := fun a σ K => match a with
  | [.inr (.inl (7, 0))] => (rWF σ ∧ (∀ o, rOp σ o → 0 ≤ σ 45 0 o ∧ σ 45 0 o ≤ 10000)) ∧ ∀ r, LE σ 16 r → K (some r) σ
  | _ => False
set_option maxHeartbeats 8000000 in
set_option maxRecDepth 20000 in
theorem k_X7_lastEnd (l : Launch) : Ct l yX7_lastEnd cX7_lastEnd 3 (some .int) 2 T_X7_lastEnd := by
  refine mk_met (by decide +kernel) hCX7_lastEnd lCX7_lastEnd frX7_ok cstX7_ok (cao_X7_lastEnd l) ?_ ?_
  · intro a σ K h
    unfold T_X7_lastEnd at h
    split at h
    · simp [eL]
    · exact h.elim
  · intro a σ K ha hR h
    unfold T_X7_lastEnd at h
    split at h
    · refine ⟨fun pc => if pc = 4 then some (fun L S σ' k => match L, S with | [some (.inr (.inl c1)), some (.inl r), some (.inl x)], [] => (c1 = (7, 0) ∧ σ' = σ ∧ 0 ≤ x ∧ x ≤ 16 ∧ LE σ x r) ∧ k = (20 - x).toNat | _, _ => False) else none, 200, ?_, ?_⟩
      · intro pc I L S σ' k hcut hi
        dsimp only at hcut
        split at hcut
        · rename_i hpc
          subst hpc
          cases hcut
          try dsimp only at hi
          split at hi
          · rename_i c1 r x
            obtain ⟨hi, rfl⟩ := hi
            obtain ⟨rfl, rfl, h0, h1, hI⟩ := hi
            obtain ⟨⟨p1, p2⟩, h⟩ := h
            simp only [wp, stp, drp, entL, eL, lget, lset, okst, cnd, swt, rcv, Kr_int, Kr_bool, Kr_void, List.length_cons, List.length_nil, List.replicate, List.append_nil, List.cons_append, List.nil_append, List.take_succ_cons, List.take_zero, List.drop_succ_cons, List.drop_zero, List.reverse_cons, List.reverse_nil, Option.map_some, Option.map_none, Option.toList_some, Option.toList_none, Nat.reduceAdd, Nat.reduceSub, Nat.reduceLT, Nat.reduceLeDiff, Nat.reduceEqDiff, ↓reduceIte, Nat.add_zero, Nat.zero_add, true_and, and_true, Nat.le_refl, reduceCtorEq, false_implies, true_implies, not_true_eq_false, not_false_eq_true, Int.reduceAdd, Int.reduceSub, Int.reduceMul, Int.reduceLE, Int.reduceLT, Int.reduceEq, Int.reduceNe, Int.reduceNeg, Int.reduceDiv, Int.reduceMod, Bool.false_eq_true, Int.le_refl, and_self, true_or, or_true, inR_l, fv0, fv1, fv2, fv3, nc2, nc4, nc6, nc16, nc25, nc60, nc65, nc80, nc130, nc384, nc390, fp_0_0, fp_0_1, fp_0_2, fp_1_0, fp_1_1, fp_1_2, fp_1_3, fp_1_4, fp_1_5, fp_1_6, fp_1_7, fp_1_8, fp_1_9, fp_1_10, fp_1_11, fp_1_12, fp_1_13, fp_1_14, fp_2_0, fp_2_1, fp_2_2, fp_2_3, fp_3_0, fp_3_1, fp_4_0, fp_4_1, fp_4_2, fp_4_3, fp_4_4, fp_4_5, fp_4_6, fp_4_7, fp_5_0, fp_5_1, fp_5_2, fp_5_3, fp_5_4, fp_5_5, fp_5_6, fp_5_7, fp_6_0, fp_6_1, fp_6_2, fp_6_3, fp_6_4, fp_6_5, fp_6_6, fp_6_7, fp_6_8, fp_6_9, fp_6_10, fp_6_11, fp_6_12, fp_6_13, fp_6_14, fp_6_15, fp_7_0, fp_7_1, fp_7_2, fp_7_3, fp_7_4, fp_7_5, fp_7_6, fp_7_7, fp_7_8, fp_7_9, fp_7_10, fp_7_11, fp_7_12, fp_7_13, fp_7_14, fp_7_15, fp_7_16, fp_7_17, fp_7_18, fp_7_19, fp_7_20, fp_7_21, fp_7_22, fp_7_23, fp_7_24, iz_0_1, iz_0_2, iz_1_8, iz_1_9, iz_1_11, iz_2_1, iz_2_2, iz_2_3, iz_3_1, iz_4_1, iz_4_2, iz_5_0, iz_6_8, iz_6_9, iz_6_13, iz_6_14, iz_6_15, iz_7_2, iz_7_6, iz_7_12, iz_7_20, iz_7_21, iz_7_23, iz_7_24, ak_8, ak_9, ak_10, ak_11, ak_12, ak_13, ak_14, ak_15, ak_16, ak_17, ak_18, ak_19, ak_20, ak_21, ak_22, ak_23, ak_24, ak_25, ak_26, ak_27, ak_28, ak_29, ak_30, ak_31, ak_32, ak_33, ak_34, ak_35, ak_36, ak_37, ak_38, ak_39, ak_40, ak_41, ak_42, ak_43, ak_44, ak_45, ak_46, ak_47, ak_48, ak_49, ak_50, ak_51, ak_52, ak_53, ak_54, ak_55, ak_56, el31, el33, el34, CX7_lastEnd, ca_X7_lastEnd, frX7, kcX7, klX7, T_X7_isOperation, T_X7_endOf, T_X7_greater, up_ap, false_and, and_false, if_false, if_true, ite_true, ite_false, gt2_f, exists_eq_right_right, exists_eq_right, exists_eq_left, Nat.lt_irrefl, and_self, implies_true, forall_const]
            have hc := rOp_if p1 x
            have h38 := p1.1.1.2
            by_cases hv : rOp σ' x
            · simp only [if_pos (hc.mpr hv), not_true_eq_false, false_implies, true_implies, and_true, true_and, ne_eq]
              have hb := p2 x hv
              have hd := (rWF_op p1 hv).2.2
              have e : (if x < 0 then 0 else σ' 45 0 x + σ' 38 0 (14 + 2 * x)) = σ' 45 0 x + rDu σ' x := if_neg (by omega)
              have e2 : rDu σ' x = σ' 38 0 (14 + 2 * x) := rfl
              simp only [e]
              (repeat' (first | (with_reducible intro _) | (with_reducible refine And.intro ?_ ?_)))
              all_goals (try first | omega | exact ⟨by omega, by omega⟩)
              all_goals first | (exact h _ (by rw [show (16 : Int) = x by omega]; exact hI)) | (exact LE_s hI hv hb ⟨hd.1, hd.2.1⟩)
            · simp only [if_neg (fun q => hv (hc.mp q)), not_true_eq_false, false_implies, true_implies, and_true, true_and, ne_eq, not_false_eq_true]
              (repeat' (first | (with_reducible intro _) | (with_reducible refine And.intro ?_ ?_)))
              all_goals (try first | omega | exact ⟨by omega, by omega⟩)
              all_goals first | (exact h _ (by rw [show (16 : Int) = x by omega]; exact hI)) | (exact LE_n hI hv) | (exfalso; omega)
          · exact hi.elim
        · cases hcut
      · simp only [wp, stp, drp, entL, eL, lget, lset, okst, cnd, swt, rcv, Kr_int, Kr_bool, Kr_void, List.length_cons, List.length_nil, List.replicate, List.append_nil, List.cons_append, List.nil_append, List.take_succ_cons, List.take_zero, List.drop_succ_cons, List.drop_zero, List.reverse_cons, List.reverse_nil, Option.map_some, Option.map_none, Option.toList_some, Option.toList_none, Nat.reduceAdd, Nat.reduceSub, Nat.reduceLT, Nat.reduceLeDiff, Nat.reduceEqDiff, ↓reduceIte, Nat.add_zero, Nat.zero_add, true_and, and_true, Nat.le_refl, reduceCtorEq, false_implies, true_implies, not_true_eq_false, not_false_eq_true, Int.reduceAdd, Int.reduceSub, Int.reduceMul, Int.reduceLE, Int.reduceLT, Int.reduceEq, Int.reduceNe, Int.reduceNeg, Int.reduceDiv, Int.reduceMod, Bool.false_eq_true, Int.le_refl, and_self, true_or, or_true, inR_l, fv0, fv1, fv2, fv3, nc2, nc4, nc6, nc16, nc25, nc60, nc65, nc80, nc130, nc384, nc390, fp_0_0, fp_0_1, fp_0_2, fp_1_0, fp_1_1, fp_1_2, fp_1_3, fp_1_4, fp_1_5, fp_1_6, fp_1_7, fp_1_8, fp_1_9, fp_1_10, fp_1_11, fp_1_12, fp_1_13, fp_1_14, fp_2_0, fp_2_1, fp_2_2, fp_2_3, fp_3_0, fp_3_1, fp_4_0, fp_4_1, fp_4_2, fp_4_3, fp_4_4, fp_4_5, fp_4_6, fp_4_7, fp_5_0, fp_5_1, fp_5_2, fp_5_3, fp_5_4, fp_5_5, fp_5_6, fp_5_7, fp_6_0, fp_6_1, fp_6_2, fp_6_3, fp_6_4, fp_6_5, fp_6_6, fp_6_7, fp_6_8, fp_6_9, fp_6_10, fp_6_11, fp_6_12, fp_6_13, fp_6_14, fp_6_15, fp_7_0, fp_7_1, fp_7_2, fp_7_3, fp_7_4, fp_7_5, fp_7_6, fp_7_7, fp_7_8, fp_7_9, fp_7_10, fp_7_11, fp_7_12, fp_7_13, fp_7_14, fp_7_15, fp_7_16, fp_7_17, fp_7_18, fp_7_19, fp_7_20, fp_7_21, fp_7_22, fp_7_23, fp_7_24, iz_0_1, iz_0_2, iz_1_8, iz_1_9, iz_1_11, iz_2_1, iz_2_2, iz_2_3, iz_3_1, iz_4_1, iz_4_2, iz_5_0, iz_6_8, iz_6_9, iz_6_13, iz_6_14, iz_6_15, iz_7_2, iz_7_6, iz_7_12, iz_7_20, iz_7_21, iz_7_23, iz_7_24, ak_8, ak_9, ak_10, ak_11, ak_12, ak_13, ak_14, ak_15, ak_16, ak_17, ak_18, ak_19, ak_20, ak_21, ak_22, ak_23, ak_24, ak_25, ak_26, ak_27, ak_28, ak_29, ak_30, ak_31, ak_32, ak_33, ak_34, ak_35, ak_36, ak_37, ak_38, ak_39, ak_40, ak_41, ak_42, ak_43, ak_44, ak_45, ak_46, ak_47, ak_48, ak_49, ak_50, ak_51, ak_52, ak_53, ak_54, ak_55, ak_56, el31, el33, el34, CX7_lastEnd, ca_X7_lastEnd, frX7, kcX7, klX7, T_X7_isOperation, T_X7_endOf, T_X7_greater, up_ap, false_and, and_false, if_false, if_true, ite_true, ite_false, gt2_f, exists_eq_right_right, exists_eq_right, exists_eq_left, Nat.lt_irrefl, and_self, implies_true, forall_const]
        exact LE_0
    · exact h.elim
