def ca_X3_first : Nat → Option (Nat × Nat × Tr)
  | 27 => some (2, 5, T_X5_hasOperation)
  | 33 => some (2, 1, T_X1_slackOf)
  | _ => none
theorem cao_X3_first (l : Launch) : ∀ k n' ci T', ca_X3_first k = some (n', ci, T') → ∃ nn, nn + 1 ≤ 2 ∧ Site l yX3_first.cls k n' ci nn T' := by
  intro k n' ci T' h
  unfold ca_X3_first at h
  split at h
  · cases h; exact ⟨0, by decide, _, _, _, _, k_X5_hasOperation l, Or.inl ⟨_, rfl, FX5_hasOperation, KRX3_27⟩⟩
  · cases h; exact ⟨1, by decide, _, _, _, _, k_X1_slackOf l, Or.inl ⟨_, rfl, FX1_slackOf, KRX3_33⟩⟩
  · cases h
def T_X3_first : Tr := fun a σ K => match a with
  | [.inr (.inl (3, 0)), .inr (.inl (1, n)), .inr (.inl (5, i))] => cOK σ i n ∧ ∀ r, cF1 σ i n 16 r → K (some r) σ
  | _ => False
set_option maxHeartbeats 8000000 in
set_option maxRecDepth 20000 in
theorem k_X3_first (l : Launch) : Ct l yX3_first cX3_first 4 (some .int) 2 T_X3_first := by
  refine mk_met (by decide +kernel) hCX3_first lCX3_first frX3_ok cstX3_ok (cao_X3_first l) ?_ ?_
  · intro a σ K h
    unfold T_X3_first at h
    split at h
    · simp [eL]
    · exact h.elim
  · intro a σ K ha hR h
    unfold T_X3_first at h
    split at h
    · rename_i n i
      refine ⟨fun pc => if pc = 2 then some (fun L S σ' k => match L, S with | [some (.inr (.inl c1)), some (.inr (.inl c2)), some (.inr (.inl c3)), some (.inl x)], [] => (c1 = (3, 0) ∧ c2 = (1, n) ∧ c3 = (5, i) ∧ σ' = σ ∧ 0 ≤ x ∧ x ≤ 16 ∧ ∀ o, vOp (σ 10 i) o → o < x → ¬ (Crt (σ 17 n) (σ 21 n) (σ 22 n) (σ 1 n 8) o ∧ σ 21 n o = σ 8 i (o / 4))) ∧ k = (20 - x).toNat | _, _ => False) else none, 200, ?_, ?_⟩
      · intro pc I L S σ' k hcut hi
        dsimp only at hcut
        split at hcut
        · rename_i hpc
          subst hpc
          cases hcut
          try dsimp only at hi
          split at hi
          · rename_i c1 c2 c3 x
            obtain ⟨hi, rfl⟩ := hi
            obtain ⟨rfl, rfl, rfl, rfl, h0, h1, hI⟩ := hi
            obtain ⟨p1, h⟩ := h
            simp only [wp, stp, drp, entL, eL, lget, lset, okst, cnd, swt, rcv, Kr_int, Kr_bool, Kr_void, List.length_cons, List.length_nil, List.replicate, List.append_nil, List.cons_append, List.nil_append, List.take_succ_cons, List.take_zero, List.drop_succ_cons, List.drop_zero, List.reverse_cons, List.reverse_nil, Option.map_some, Option.map_none, Option.toList_some, Option.toList_none, Nat.reduceAdd, Nat.reduceSub, Nat.reduceLT, Nat.reduceLeDiff, Nat.reduceEqDiff, ↓reduceIte, Nat.add_zero, Nat.zero_add, true_and, and_true, Nat.le_refl, reduceCtorEq, false_implies, true_implies, not_true_eq_false, not_false_eq_true, Int.reduceAdd, Int.reduceSub, Int.reduceMul, Int.reduceLE, Int.reduceLT, Int.reduceEq, Int.reduceNe, Int.reduceNeg, Int.reduceDiv, Int.reduceMod, Bool.false_eq_true, Int.le_refl, and_self, true_or, or_true, inR_l, fv0, fv1, fv2, fv3, nc2, nc4, nc6, nc16, nc25, nc60, nc65, nc80, nc130, nc384, nc390, fp_0_0, fp_0_1, fp_0_2, fp_1_0, fp_1_1, fp_1_2, fp_1_3, fp_1_4, fp_1_5, fp_1_6, fp_1_7, fp_1_8, fp_1_9, fp_1_10, fp_1_11, fp_1_12, fp_1_13, fp_1_14, fp_2_0, fp_2_1, fp_2_2, fp_2_3, fp_3_0, fp_3_1, fp_4_0, fp_4_1, fp_4_2, fp_4_3, fp_4_4, fp_4_5, fp_4_6, fp_4_7, fp_5_0, fp_5_1, fp_5_2, fp_5_3, fp_5_4, fp_5_5, fp_5_6, fp_5_7, fp_6_0, fp_6_1, fp_6_2, fp_6_3, fp_6_4, fp_6_5, fp_6_6, fp_6_7, fp_6_8, fp_6_9, fp_6_10, fp_6_11, fp_6_12, fp_6_13, fp_6_14, fp_6_15, fp_7_0, fp_7_1, fp_7_2, fp_7_3, fp_7_4, fp_7_5, fp_7_6, fp_7_7, fp_7_8, fp_7_9, fp_7_10, fp_7_11, fp_7_12, fp_7_13, fp_7_14, fp_7_15, fp_7_16, fp_7_17, fp_7_18, fp_7_19, fp_7_20, fp_7_21, fp_7_22, fp_7_23, fp_7_24, iz_0_1, iz_0_2, iz_1_8, iz_1_9, iz_1_11, iz_2_1, iz_2_2, iz_2_3, iz_3_1, iz_4_1, iz_4_2, iz_5_0, iz_6_8, iz_6_9, iz_6_13, iz_6_14, iz_6_15, iz_7_2, iz_7_6, iz_7_12, iz_7_20, iz_7_21, iz_7_23, iz_7_24, ak_8, ak_9, ak_10, ak_11, ak_12, ak_13, ak_14, ak_15, ak_16, ak_17, ak_18, ak_19, ak_20, ak_21, ak_22, ak_23, ak_24, ak_25, ak_26, ak_27, ak_28, ak_29, ak_30, ak_31, ak_32, ak_33, ak_34, ak_35, ak_36, ak_37, ak_38, ak_39, ak_40, ak_41, ak_42, ak_43, ak_44, ak_45, ak_46, ak_47, ak_48, ak_49, ak_50, ak_51, ak_52, ak_53, ak_54, ak_55, ak_56, el31, el33, el34, CX3_first, ca_X3_first, frX3, kcX3, klX3, T_X5_hasOperation, T_X1_slackOf, exists_eq_right_right, exists_eq_right, exists_eq_left, Nat.lt_irrefl, and_self, implies_true, forall_const]
            have hc : (0 ≤ x ∧ x < 16 ∧ x % 4 < σ' 10 i (x / 4)) ↔ vOp (σ' 10 i) x := Iff.rfl
            obtain ⟨p1a, p1b, p1c, p1d⟩ := p1
            have p1 : cOK σ' i n := ⟨p1a, p1b, p1c, p1d⟩
            have hstep : ¬ (vOp (σ' 10 i) x ∧ Crt (σ' 17 n) (σ' 21 n) (σ' 22 n) (σ' 1 n 8) x ∧ σ' 21 n x = σ' 8 i (x / 4)) → ∀ o, vOp (σ' 10 i) o → o < x + 1 → ¬ (Crt (σ' 17 n) (σ' 21 n) (σ' 22 n) (σ' 1 n 8) o ∧ σ' 21 n o = σ' 8 i (o / 4)) := by
              intro hz o v q
              rcases (show o < x ∨ o = x by omega) with c | rfl
              · exact hI o v c
              · exact fun z => hz ⟨v, z⟩
            by_cases hv : vOp (σ' 10 i) x
            · simp only [if_pos (hc.mpr hv), not_true_eq_false, false_implies, true_implies, and_true, true_and, ne_eq]
              have hb := cOK_op p1 hv
              (repeat' (first | (with_reducible intro _) | (with_reducible refine And.intro ?_ ?_)))
              all_goals (try first | omega | exact ⟨by omega, by omega⟩)
              all_goals first | (exfalso; omega) | (exact h _ (Or.inl ⟨rfl, fun o v q => hI o v (by omega)⟩)) | (exact hstep (fun z => by have := z.2.1; unfold Crt at this; omega) _ (by assumption) (by assumption)) | (exact hstep (fun z => by have := z.2.2; omega) _ (by assumption) (by assumption)) | (exact h _ (Or.inr ⟨hv, by omega, by unfold Crt; omega, by omega, hI⟩))
            · simp only [if_neg (fun q => hv (hc.mp q)), not_true_eq_false, false_implies, true_implies, and_true, true_and, ne_eq, not_false_eq_true]
              (repeat' (first | (with_reducible intro _) | (with_reducible refine And.intro ?_ ?_)))
              all_goals (try first | omega | exact ⟨by omega, by omega⟩)
              all_goals first | (exfalso; omega) | (exact h _ (Or.inl ⟨rfl, fun o v q => hI o v (by omega)⟩)) | (exact hstep (fun z => hv z.1) _ (by assumption) (by assumption))
          · exact hi.elim
        · cases hcut
      · simp only [wp, stp, drp, entL, eL, lget, lset, okst, cnd, swt, rcv, Kr_int, Kr_bool, Kr_void, List.length_cons, List.length_nil, List.replicate, List.append_nil, List.cons_append, List.nil_append, List.take_succ_cons, List.take_zero, List.drop_succ_cons, List.drop_zero, List.reverse_cons, List.reverse_nil, Option.map_some, Option.map_none, Option.toList_some, Option.toList_none, Nat.reduceAdd, Nat.reduceSub, Nat.reduceLT, Nat.reduceLeDiff, Nat.reduceEqDiff, ↓reduceIte, Nat.add_zero, Nat.zero_add, true_and, and_true, Nat.le_refl, reduceCtorEq, false_implies, true_implies, not_true_eq_false, not_false_eq_true, Int.reduceAdd, Int.reduceSub, Int.reduceMul, Int.reduceLE, Int.reduceLT, Int.reduceEq, Int.reduceNe, Int.reduceNeg, Int.reduceDiv, Int.reduceMod, Bool.false_eq_true, Int.le_refl, and_self, true_or, or_true, inR_l, fv0, fv1, fv2, fv3, nc2, nc4, nc6, nc16, nc25, nc60, nc65, nc80, nc130, nc384, nc390, fp_0_0, fp_0_1, fp_0_2, fp_1_0, fp_1_1, fp_1_2, fp_1_3, fp_1_4, fp_1_5, fp_1_6, fp_1_7, fp_1_8, fp_1_9, fp_1_10, fp_1_11, fp_1_12, fp_1_13, fp_1_14, fp_2_0, fp_2_1, fp_2_2, fp_2_3, fp_3_0, fp_3_1, fp_4_0, fp_4_1, fp_4_2, fp_4_3, fp_4_4, fp_4_5, fp_4_6, fp_4_7, fp_5_0, fp_5_1, fp_5_2, fp_5_3, fp_5_4, fp_5_5, fp_5_6, fp_5_7, fp_6_0, fp_6_1, fp_6_2, fp_6_3, fp_6_4, fp_6_5, fp_6_6, fp_6_7, fp_6_8, fp_6_9, fp_6_10, fp_6_11, fp_6_12, fp_6_13, fp_6_14, fp_6_15, fp_7_0, fp_7_1, fp_7_2, fp_7_3, fp_7_4, fp_7_5, fp_7_6, fp_7_7, fp_7_8, fp_7_9, fp_7_10, fp_7_11, fp_7_12, fp_7_13, fp_7_14, fp_7_15, fp_7_16, fp_7_17, fp_7_18, fp_7_19, fp_7_20, fp_7_21, fp_7_22, fp_7_23, fp_7_24, iz_0_1, iz_0_2, iz_1_8, iz_1_9, iz_1_11, iz_2_1, iz_2_2, iz_2_3, iz_3_1, iz_4_1, iz_4_2, iz_5_0, iz_6_8, iz_6_9, iz_6_13, iz_6_14, iz_6_15, iz_7_2, iz_7_6, iz_7_12, iz_7_20, iz_7_21, iz_7_23, iz_7_24, ak_8, ak_9, ak_10, ak_11, ak_12, ak_13, ak_14, ak_15, ak_16, ak_17, ak_18, ak_19, ak_20, ak_21, ak_22, ak_23, ak_24, ak_25, ak_26, ak_27, ak_28, ak_29, ak_30, ak_31, ak_32, ak_33, ak_34, ak_35, ak_36, ak_37, ak_38, ak_39, ak_40, ak_41, ak_42, ak_43, ak_44, ak_45, ak_46, ak_47, ak_48, ak_49, ak_50, ak_51, ak_52, ak_53, ak_54, ak_55, ak_56, el31, el33, el34, CX3_first, ca_X3_first, frX3, kcX3, klX3, T_X5_hasOperation, T_X1_slackOf, exists_eq_right_right, exists_eq_right, exists_eq_left, Nat.lt_irrefl, and_self, implies_true, forall_const]
        intro o v q
        have := v.1
        omega
    · exact h.elim
def ca_X3_next : Nat → Option (Nat × Nat × Tr)
  | 45 => some (2, 1, T_X1_endOf)
  | 51 => some (4, 3, T_X3_goesOn)
  | 55 => some (2, 5, T_X5_nextOnMachine)
  | _ => none
theorem cao_X3_next (l : Launch) : ∀ k n' ci T', ca_X3_next k = some (n', ci, T') → ∃ nn, nn + 1 ≤ 3 ∧ Site l yX3_next.cls k n' ci nn T' := by
  intro k n' ci T' h
  unfold ca_X3_next at h
  split at h
  · cases h; exact ⟨0, by decide, _, _, _, _, k_X1_endOf l, Or.inl ⟨_, rfl, FX1_endOf, KRX3_45⟩⟩
  · cases h; exact ⟨2, by decide, _, _, _, _, k_X3_goesOn l, Or.inl ⟨_, rfl, FX3_goesOn, KRX3_51⟩⟩
  · cases h; exact ⟨2, by decide, _, _, _, _, k_X5_nextOnMachine l, Or.inl ⟨_, rfl, FX5_nextOnMachine, KRX3_55⟩⟩
  · cases h
def T_X3_next : Tr := fun a σ K => match a with
  | [.inr (.inl (3, 0)), .inr (.inl (1, n)), .inr (.inl (5, i)), .inl x] => (cOK σ i n ∧ vOp (σ 10 i) x) ∧ ∀ r, cN σ i n x r → K (some r) σ
  | _ => False
set_option maxHeartbeats 4000000 in
set_option maxRecDepth 20000 in
theorem k_X3_next (l : Launch) : Ct l yX3_next cX3_next 6 (some .int) 3 T_X3_next := by
  refine mk_met (by decide +kernel) hCX3_next lCX3_next frX3_ok cstX3_ok (cao_X3_next l) ?_ ?_
  · intro a σ K h
    unfold T_X3_next at h
    split at h
    · simp [eL]
    · exact h.elim
  · intro a σ K ha hR h
    unfold T_X3_next at h
    split at h
    · rename_i n i x
      refine ⟨fun _ => none, 200, fun pc I L S σ' k h => (by cases h), ?_⟩
      simp only [wp, stp, drp, entL, eL, lget, lset, okst, cnd, swt, rcv, Kr_int, Kr_bool, Kr_void, List.length_cons, List.length_nil, List.replicate, List.append_nil, List.cons_append, List.nil_append, List.take_succ_cons, List.take_zero, List.drop_succ_cons, List.drop_zero, List.reverse_cons, List.reverse_nil, Option.map_some, Option.map_none, Option.toList_some, Option.toList_none, Nat.reduceAdd, Nat.reduceSub, Nat.reduceLT, Nat.reduceLeDiff, Nat.reduceEqDiff, ↓reduceIte, Nat.add_zero, Nat.zero_add, true_and, and_true, Nat.le_refl, reduceCtorEq, false_implies, true_implies, not_true_eq_false, not_false_eq_true, Int.reduceAdd, Int.reduceSub, Int.reduceMul, Int.reduceLE, Int.reduceLT, Int.reduceEq, Int.reduceNe, Int.reduceNeg, Int.reduceDiv, Int.reduceMod, Bool.false_eq_true, Int.le_refl, and_self, true_or, or_true, inR_l, fv0, fv1, fv2, fv3, nc2, nc4, nc6, nc16, nc25, nc60, nc65, nc80, nc130, nc384, nc390, fp_0_0, fp_0_1, fp_0_2, fp_1_0, fp_1_1, fp_1_2, fp_1_3, fp_1_4, fp_1_5, fp_1_6, fp_1_7, fp_1_8, fp_1_9, fp_1_10, fp_1_11, fp_1_12, fp_1_13, fp_1_14, fp_2_0, fp_2_1, fp_2_2, fp_2_3, fp_3_0, fp_3_1, fp_4_0, fp_4_1, fp_4_2, fp_4_3, fp_4_4, fp_4_5, fp_4_6, fp_4_7, fp_5_0, fp_5_1, fp_5_2, fp_5_3, fp_5_4, fp_5_5, fp_5_6, fp_5_7, fp_6_0, fp_6_1, fp_6_2, fp_6_3, fp_6_4, fp_6_5, fp_6_6, fp_6_7, fp_6_8, fp_6_9, fp_6_10, fp_6_11, fp_6_12, fp_6_13, fp_6_14, fp_6_15, fp_7_0, fp_7_1, fp_7_2, fp_7_3, fp_7_4, fp_7_5, fp_7_6, fp_7_7, fp_7_8, fp_7_9, fp_7_10, fp_7_11, fp_7_12, fp_7_13, fp_7_14, fp_7_15, fp_7_16, fp_7_17, fp_7_18, fp_7_19, fp_7_20, fp_7_21, fp_7_22, fp_7_23, fp_7_24, iz_0_1, iz_0_2, iz_1_8, iz_1_9, iz_1_11, iz_2_1, iz_2_2, iz_2_3, iz_3_1, iz_4_1, iz_4_2, iz_5_0, iz_6_8, iz_6_9, iz_6_13, iz_6_14, iz_6_15, iz_7_2, iz_7_6, iz_7_12, iz_7_20, iz_7_21, iz_7_23, iz_7_24, ak_8, ak_9, ak_10, ak_11, ak_12, ak_13, ak_14, ak_15, ak_16, ak_17, ak_18, ak_19, ak_20, ak_21, ak_22, ak_23, ak_24, ak_25, ak_26, ak_27, ak_28, ak_29, ak_30, ak_31, ak_32, ak_33, ak_34, ak_35, ak_36, ak_37, ak_38, ak_39, ak_40, ak_41, ak_42, ak_43, ak_44, ak_45, ak_46, ak_47, ak_48, ak_49, ak_50, ak_51, ak_52, ak_53, ak_54, ak_55, ak_56, el31, el33, el34, CX3_next, ca_X3_next, frX3, kcX3, klX3, T_X1_endOf, T_X3_goesOn, T_X5_nextOnMachine]
      obtain ⟨⟨p1, pv⟩, h⟩ := h
      have hb := cOK_op p1 pv
      have hj := vOp_j pv
      have hst := p1.1.2.1 (x / 4) hj.1 hj.2.1
      have hln := (p1.1.2.2.2.2.1 (σ 11 i x) hb.2.2.2.2.2.2.2.2.1 hb.2.2.2.2.2.2.2.2.2).2
      have hpl := plo_of p1.1 pv
      have hq : ∀ y, 0 ≤ y → y < σ 13 i (σ 11 i x) → 0 ≤ σ 14 i (4 * σ 11 i x + y) ∧ σ 14 i (4 * σ 11 i x + y) < 4 ∧ σ 10 i (σ 14 i (4 * σ 11 i x + y)) ≤ 4 := fun y y0 y1 => by
        obtain ⟨a, b, -⟩ := p1.1.2.2.2.2.2.1 (σ 11 i x) y hb.2.2.2.2.2.2.2.2.1 hb.2.2.2.2.2.2.2.2.2 y0 y1
        exact ⟨a, b, (p1.1.2.1 _ a b).2.1⟩
      have hL0 := p1.2.2.1
      have hL1 := p1.2.2.2
      have ePl : plF (σ 14 i) (4 * σ 11 i x) (σ 13 i (σ 11 i x)) (x / 4) = plo (σ 11 i) (σ 13 i) (σ 14 i) x := rfl
      have hx2 : ∀ y, Crt (σ 17 n) (σ 21 n) (σ 22 n) (σ 1 n 8) y ↔ σ 1 n 8 - (σ 21 n y + σ 17 n y + σ 22 n y) = 0 := fun y => by unfold Crt; omega
      simp only [nxt_eq p1.1 pv]
      have hbv : oqN (σ 10 i) (σ 11 i) (σ 13 i) (σ 14 i) x = -6 ∨ vOp (σ 10 i) (oqN (σ 10 i) (σ 11 i) (σ 13 i) (σ 14 i) x) := by
        unfold oqN
        split
        · rename_i c
          exact Or.inr (oq_v p1.1 hb.2.2.2.2.2.2.2.2.1 hb.2.2.2.2.2.2.2.2.2 (show 0 ≤ plo (σ 11 i) (σ 13 i) (σ 14 i) x + 1 by omega) c).1
        · exact Or.inl rfl
      have hN : ∀ r, isN (σ 10 i) (σ 11 i) (σ 17 n) (σ 13 i) (σ 14 i) (σ 21 n) (σ 22 n) (σ 1 n 8) x r → K (some r) σ := h
      unfold isN odN rtN at hN
      simp only [hx2] at hN
      generalize oqN (σ 10 i) (σ 11 i) (σ 13 i) (σ 14 i) x = b at hbv hN ⊢
      rw [ePl]
      have hbb : b ≠ -6 → 0 ≤ b ∧ b < 16 ∧ 0 ≤ σ 21 n b ∧ σ 21 n b ≤ 700 ∧ 0 ≤ σ 22 n b ∧ σ 22 n b ≤ 320 ∧ 1 ≤ σ 17 n b ∧ σ 17 n b ≤ 20 := fun q => by
        have := cOK_op p1 (hbv.resolve_left q)
        omega
      have hx1 : x % 4 + 1 < σ 10 i (x / 4) → 0 ≤ x + 1 ∧ x + 1 < 16 ∧ 0 ≤ σ 21 n (x + 1) ∧ σ 21 n (x + 1) ≤ 700 ∧ 0 ≤ σ 22 n (x + 1) ∧ σ 22 n (x + 1) ≤ 320 ∧ 1 ≤ σ 17 n (x + 1) ∧ σ 17 n (x + 1) ≤ 20 := fun q => by
        have := cOK_op p1 (rt_v p1.1 pv q)
        omega
      have h6 : b = -6 ∨ 0 ≤ b := by
        rcases hbv with q | q
        · exact Or.inl q
        · exact Or.inr q.1
      by_cases c1 : σ 1 n 8 - (σ 21 n (x + 1) + σ 17 n (x + 1) + σ 22 n (x + 1)) = 0 ∧ σ 21 n (x + 1) = σ 21 n x + σ 17 n x
      all_goals by_cases c2 : σ 1 n 8 - (σ 21 n b + σ 17 n b + σ 22 n b) = 0 ∧ σ 21 n b = σ 21 n x + σ 17 n x
      all_goals first | simp only [if_pos c1] | simp only [if_neg c1]
      all_goals first | simp only [if_pos c2] | simp only [if_neg c2]
      all_goals simp only [not_true_eq_false, not_false_eq_true, false_implies, true_implies, and_true, true_and, Int.reduceEq]
      (repeat' (first | (with_reducible intro _) | (with_reducible refine And.intro ?_ ?_)))
      all_goals (try first | omega | exact ⟨by omega, by omega⟩)
      all_goals first | (exact (hq _ (by assumption) (by assumption)).1) | (exact (hq _ (by assumption) (by assumption)).2.1) | (exact (hq _ (by assumption) (by assumption)).2.2) | (exact hN _ (by omega))
    · exact h.elim
