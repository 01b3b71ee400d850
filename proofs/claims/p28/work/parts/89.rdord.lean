theorem k_X2_names2 (l : Launch) : Ct l yX2_names cX2_names 2 (some .boolean) 0 T_X2_names2 := Ct_mono (k_X2_names l) m_X2_names2
theorem k_X5_append2 (l : Launch) : Ct l yX5_append cX5_append 3 none 0 T_X5_append2 := Ct_mono (k_X5_append l) m_X5_append2
def ca_X2_anotherJobFor : Nat → Option (Nat × Nat × Tr)
  | 49 => some (1, 2, T_X2_digit2)
  | _ => none
theorem cao_X2_anotherJobFor (l : Launch) : ∀ k n' ci T', ca_X2_anotherJobFor k = some (n', ci, T') → ∃ nn, nn + 1 ≤ 1 ∧ Site l yX2_anotherJobFor.cls k n' ci nn T' := by
  intro k n' ci T' h
  unfold ca_X2_anotherJobFor at h
  split at h
  · cases h; exact ⟨0, by decide, _, _, _, _, k_X2_digit2 l, Or.inl ⟨_, rfl, FX2_digit, KRX2_49⟩⟩
  · cases h
def T_X2_anotherJobFor : Tr := fun a σ K => match a with
  | [.inr (.inl (2, 0)), .inl s] => (0 ≤ σ 2 0 2 ∧ cL σ ≤ 80) ∧ ((0 ≤ dg (cT σ) (cL σ) (σ 2 0 2) ∧ dg (cT σ) (cL σ) (σ 2 0 2) < 4 ∧ ¬ hasB s (dg (cT σ) (cL σ) (σ 2 0 2))) → K (some 1) σ) ∧ (¬ (0 ≤ dg (cT σ) (cL σ) (σ 2 0 2) ∧ dg (cT σ) (cL σ) (σ 2 0 2) < 4 ∧ ¬ hasB s (dg (cT σ) (cL σ) (σ 2 0 2))) → K (some 0) σ)
  | _ => False
set_option maxHeartbeats 4000000 in
set_option maxRecDepth 20000 in
theorem k_X2_anotherJobFor (l : Launch) : Ct l yX2_anotherJobFor cX2_anotherJobFor 3 (some .boolean) 1 T_X2_anotherJobFor := by
  refine mk_met (by decide +kernel) hCX2_anotherJobFor lCX2_anotherJobFor frX2_ok cstX2_ok (cao_X2_anotherJobFor l) ?_ ?_
  · intro a σ K h
    unfold T_X2_anotherJobFor at h
    split at h
    · simp [eL]
    · exact h.elim
  · intro a σ K ha hR h
    unfold T_X2_anotherJobFor at h
    split at h
    · rename_i s
      refine ⟨fun _ => none, 200, fun pc I L S σ' k h => (by cases h), ?_⟩
      simp only [wp, stp, drp, entL, eL, lget, lset, okst, cnd, swt, rcv, Kr_int, Kr_bool, Kr_void, List.length_cons, List.length_nil, List.replicate, List.append_nil, List.cons_append, List.nil_append, List.take_succ_cons, List.take_zero, List.drop_succ_cons, List.drop_zero, List.reverse_cons, List.reverse_nil, Option.map_some, Option.map_none, Option.toList_some, Option.toList_none, Nat.reduceAdd, Nat.reduceSub, Nat.reduceLT, Nat.reduceLeDiff, Nat.reduceEqDiff, ↓reduceIte, Nat.add_zero, Nat.zero_add, true_and, and_true, Nat.le_refl, reduceCtorEq, false_implies, true_implies, not_true_eq_false, not_false_eq_true, Int.reduceAdd, Int.reduceSub, Int.reduceMul, Int.reduceLE, Int.reduceLT, Int.reduceEq, Int.reduceNe, Int.reduceNeg, Int.reduceDiv, Int.reduceMod, Bool.false_eq_true, Int.le_refl, and_self, true_or, or_true, inR_l, fv0, fv1, fv2, fv3, nc2, nc4, nc6, nc16, nc25, nc60, nc65, nc80, nc130, nc384, nc390, fp_0_0, fp_0_1, fp_0_2, fp_1_0, fp_1_1, fp_1_2, fp_1_3, fp_1_4, fp_1_5, fp_1_6, fp_1_7, fp_1_8, fp_1_9, fp_1_10, fp_1_11, fp_1_12, fp_1_13, fp_1_14, fp_2_0, fp_2_1, fp_2_2, fp_2_3, fp_3_0, fp_3_1, fp_4_0, fp_4_1, fp_4_2, fp_4_3, fp_4_4, fp_4_5, fp_4_6, fp_4_7, fp_5_0, fp_5_1, fp_5_2, fp_5_3, fp_5_4, fp_5_5, fp_5_6, fp_5_7, fp_6_0, fp_6_1, fp_6_2, fp_6_3, fp_6_4, fp_6_5, fp_6_6, fp_6_7, fp_6_8, fp_6_9, fp_6_10, fp_6_11, fp_6_12, fp_6_13, fp_6_14, fp_6_15, fp_7_0, fp_7_1, fp_7_2, fp_7_3, fp_7_4, fp_7_5, fp_7_6, fp_7_7, fp_7_8, fp_7_9, fp_7_10, fp_7_11, fp_7_12, fp_7_13, fp_7_14, fp_7_15, fp_7_16, fp_7_17, fp_7_18, fp_7_19, fp_7_20, fp_7_21, fp_7_22, fp_7_23, fp_7_24, iz_0_1, iz_0_2, iz_1_8, iz_1_9, iz_1_11, iz_2_1, iz_2_2, iz_2_3, iz_3_1, iz_4_1, iz_4_2, iz_5_0, iz_6_8, iz_6_9, iz_6_13, iz_6_14, iz_6_15, iz_7_2, iz_7_6, iz_7_12, iz_7_20, iz_7_21, iz_7_23, iz_7_24, ak_8, ak_9, ak_10, ak_11, ak_12, ak_13, ak_14, ak_15, ak_16, ak_17, ak_18, ak_19, ak_20, ak_21, ak_22, ak_23, ak_24, ak_25, ak_26, ak_27, ak_28, ak_29, ak_30, ak_31, ak_32, ak_33, ak_34, ak_35, ak_36, ak_37, ak_38, ak_39, ak_40, ak_41, ak_42, ak_43, ak_44, ak_45, ak_46, ak_47, ak_48, ak_49, ak_50, ak_51, ak_52, ak_53, ak_54, ak_55, ak_56, el31, el33, el34, CX2_anotherJobFor, ca_X2_anotherJobFor, frX2, kcX2, klX2, T_X2_digit2, up_ap, false_and, and_false, if_false, if_true, ite_true, ite_false]
      obtain ⟨hp, h1, h0⟩ := h
      exact ⟨hp, fun a => h0 (fun z => by omega), fun a => ⟨fun b => h0 (fun z => by omega), fun b => ⟨fun e => h0 (fun z => z.2.2 e), fun e => h1 ⟨by omega, by omega, e⟩⟩⟩⟩
    · exact h.elim
def ca_X2_readOrder : Nat → Option (Nat × Nat × Tr)
  | 49 => some (1, 2, T_X2_digit2)
  | 63 => some (2, 2, T_X2_names2)
  | 34 => some (2, 2, T_X2_take2)
  | 67 => some (2, 5, T_X5_jobsInOrder)
  | 71 => some (2, 2, T_X2_anotherJobFor)
  | 74 => some (3, 5, T_X5_append2)
  | _ => none
theorem cao_X2_readOrder (l : Launch) : ∀ k n' ci T', ca_X2_readOrder k = some (n', ci, T') → ∃ nn, nn + 1 ≤ 2 ∧ Site l yX2_readOrder.cls k n' ci nn T' := by
  intro k n' ci T' h
  unfold ca_X2_readOrder at h
  split at h
  · cases h; exact ⟨0, by decide, _, _, _, _, k_X2_digit2 l, Or.inl ⟨_, rfl, FX2_digit, KRX2_49⟩⟩
  · cases h; exact ⟨0, by decide, _, _, _, _, k_X2_names2 l, Or.inl ⟨_, rfl, FX2_names, KRX2_63⟩⟩
  · cases h; exact ⟨0, by decide, _, _, _, _, k_X2_take2 l, Or.inl ⟨_, rfl, FX2_take, KRX2_34⟩⟩
  · cases h; exact ⟨0, by decide, _, _, _, _, k_X5_jobsInOrder l, Or.inl ⟨_, rfl, FX5_jobsInOrder, KRX2_67⟩⟩
  · cases h; exact ⟨1, by decide, _, _, _, _, k_X2_anotherJobFor l, Or.inl ⟨_, rfl, FX2_anotherJobFor, KRX2_71⟩⟩
  · cases h; exact ⟨0, by decide, _, _, _, _, k_X5_append2 l, Or.inl ⟨_, rfl, FX5_append, KRX2_74⟩⟩
  · cases h
def T_X2_readOrder : Tr := fun a σ K => match a with
  | [.inr (.inl (2, 0)), .inr (.inl (5, i))] => ∃ ln q, (0 ≤ σ 2 0 2 ∧ σ 2 0 2 ≤ cL σ ∧ cL σ ≤ 80 ∧ PL σ i ln q) ∧ ((ordS (cT σ) (cL σ) ln q (σ 2 0 2)).1 ≠ 0 → ∀ σ', FrG (pPl i) σ σ' → σ' 2 0 2 = (ordS (cT σ) (cL σ) ln q (σ 2 0 2)).2.1 → K (some 0) σ') ∧ ((ordS (cT σ) (cL σ) ln q (σ 2 0 2)).1 = 0 → ∀ σ', FrG (pPl i) σ σ' → σ' 2 0 2 = (ordS (cT σ) (cL σ) ln q (σ 2 0 2)).2.1 → PL σ' i (ordS (cT σ) (cL σ) ln q (σ 2 0 2)).2.2.1 (ordS (cT σ) (cL σ) ln q (σ 2 0 2)).2.2.2 → K (some 1) σ')
  | _ => False
set_option maxHeartbeats 8000000 in
set_option maxRecDepth 20000 in
theorem k_X2_readOrder (l : Launch) : Ct l yX2_readOrder cX2_readOrder 4 (some .boolean) 2 T_X2_readOrder := by
  refine mk_met (by decide +kernel) hCX2_readOrder lCX2_readOrder frX2_ok cstX2_ok (cao_X2_readOrder l) ?_ ?_
  · intro a σ K h
    unfold T_X2_readOrder at h
    split at h
    · simp [eL]
    · exact h.elim
  · intro a σ K ha hR h
    unfold T_X2_readOrder at h
    split at h
    · rename_i i
      obtain ⟨ln, q, ⟨p1, p2, p3, p4⟩, hb, hg⟩ := h
      refine ⟨fun pc => if pc = 61 then some (fun L S σ' k => match L, S with | [some (.inr (.inl c1)), some (.inr (.inl c2)), some (.inl m), some (.inl c)], [] => (c1 = (2, 0) ∧ c2 = (5, i) ∧ ODi σ σ' i m ln q c) ∧ k = (20 - c).toNat | _, _ => False) else none, 200, ?_, ?_⟩
      · intro pc I L S σ' k hcut hi
        dsimp only at hcut
        split at hcut
        · rename_i hpc
          subst hpc
          cases hcut
          try dsimp only at hi
          split at hi
          · rename_i c1 c2 m c
            obtain ⟨hi, rfl⟩ := hi
            obtain ⟨rfl, rfl, hI⟩ := hi
            simp only [wp, stp, drp, entL, eL, lget, lset, okst, cnd, swt, rcv, Kr_int, Kr_bool, Kr_void, List.length_cons, List.length_nil, List.replicate, List.append_nil, List.cons_append, List.nil_append, List.take_succ_cons, List.take_zero, List.drop_succ_cons, List.drop_zero, List.reverse_cons, List.reverse_nil, Option.map_some, Option.map_none, Option.toList_some, Option.toList_none, Nat.reduceAdd, Nat.reduceSub, Nat.reduceLT, Nat.reduceLeDiff, Nat.reduceEqDiff, ↓reduceIte, Nat.add_zero, Nat.zero_add, true_and, and_true, Nat.le_refl, reduceCtorEq, false_implies, true_implies, not_true_eq_false, not_false_eq_true, Int.reduceAdd, Int.reduceSub, Int.reduceMul, Int.reduceLE, Int.reduceLT, Int.reduceEq, Int.reduceNe, Int.reduceNeg, Int.reduceDiv, Int.reduceMod, Bool.false_eq_true, Int.le_refl, and_self, true_or, or_true, inR_l, fv0, fv1, fv2, fv3, nc2, nc4, nc6, nc16, nc25, nc60, nc65, nc80, nc130, nc384, nc390, fp_0_0, fp_0_1, fp_0_2, fp_1_0, fp_1_1, fp_1_2, fp_1_3, fp_1_4, fp_1_5, fp_1_6, fp_1_7, fp_1_8, fp_1_9, fp_1_10, fp_1_11, fp_1_12, fp_1_13, fp_1_14, fp_2_0, fp_2_1, fp_2_2, fp_2_3, fp_3_0, fp_3_1, fp_4_0, fp_4_1, fp_4_2, fp_4_3, fp_4_4, fp_4_5, fp_4_6, fp_4_7, fp_5_0, fp_5_1, fp_5_2, fp_5_3, fp_5_4, fp_5_5, fp_5_6, fp_5_7, fp_6_0, fp_6_1, fp_6_2, fp_6_3, fp_6_4, fp_6_5, fp_6_6, fp_6_7, fp_6_8, fp_6_9, fp_6_10, fp_6_11, fp_6_12, fp_6_13, fp_6_14, fp_6_15, fp_7_0, fp_7_1, fp_7_2, fp_7_3, fp_7_4, fp_7_5, fp_7_6, fp_7_7, fp_7_8, fp_7_9, fp_7_10, fp_7_11, fp_7_12, fp_7_13, fp_7_14, fp_7_15, fp_7_16, fp_7_17, fp_7_18, fp_7_19, fp_7_20, fp_7_21, fp_7_22, fp_7_23, fp_7_24, iz_0_1, iz_0_2, iz_1_8, iz_1_9, iz_1_11, iz_2_1, iz_2_2, iz_2_3, iz_3_1, iz_4_1, iz_4_2, iz_5_0, iz_6_8, iz_6_9, iz_6_13, iz_6_14, iz_6_15, iz_7_2, iz_7_6, iz_7_12, iz_7_20, iz_7_21, iz_7_23, iz_7_24, ak_8, ak_9, ak_10, ak_11, ak_12, ak_13, ak_14, ak_15, ak_16, ak_17, ak_18, ak_19, ak_20, ak_21, ak_22, ak_23, ak_24, ak_25, ak_26, ak_27, ak_28, ak_29, ak_30, ak_31, ak_32, ak_33, ak_34, ak_35, ak_36, ak_37, ak_38, ak_39, ak_40, ak_41, ak_42, ak_43, ak_44, ak_45, ak_46, ak_47, ak_48, ak_49, ak_50, ak_51, ak_52, ak_53, ak_54, ak_55, ak_56, el31, el33, el34, CX2_readOrder, ca_X2_readOrder, frX2, kcX2, klX2, T_X2_digit2, T_X2_names2, T_X2_take2, T_X5_jobsInOrder, T_X2_anotherJobFor, T_X5_append2, up_ap, false_and, and_false, if_false, if_true, ite_true, ite_false, cT_up, cLn_up, exists_eq_right_right, exists_eq_right, exists_eq_left, Nat.lt_irrefl, and_self, implies_true, forall_const]
            obtain ⟨hF, q', hP, c0, c4, a0, a1, m0, m1, hq⟩ := hI
            have hc := pPl_c hF
            rw [hc.1, hc.2]
            have hm := hP.2.2 m m0 m1
            have el : uq ln m c m = c := if_pos rfl
            have hl : σ' 13 i m = c := by rw [hm.2.1, el, if_neg (by omega)]
            have hS := sF_B (q := σ' 14 i) (b := 4 * m) (n := c) c0 c4 (fun k k0 k1 => by rw [hm.2.2.2 k k0 (by omega)]; exact hm.2.2.1.2.2.1 k k0 (by omega))
            have hi : ∀ x, inq (σ' 14 i) (4 * m) c x ↔ inq q' (4 * m) c x := fun x => inq_cg (fun k a b => hm.2.2.2 k a (by omega))
            rw [hl]
            have KG : ¬ (0 ≤ dg (cT σ) (cL σ) (σ' 2 0 2) ∧ dg (cT σ) (cL σ) (σ' 2 0 2) < 4 ∧ ¬ inq q' (4 * m) c (dg (cT σ) (cL σ) (σ' 2 0 2))) ∨ 4 ≤ c → K (some 1) σ' := fun z => by
              have e : jbS (cT σ) (cL σ) m (4 - c).toNat c (σ' 2 0 2) q' = (σ' 2 0 2, c, q') := by
                by_cases y : 4 ≤ c
                · rw [show (4 - c).toNat = 0 by omega]
                  rfl
                · rw [show (4 - c).toNat = (3 - c).toNat + 1 by omega, jbS_1, cif_0 (z.elim id (fun w => absurd w y))]
              rw [e] at hq
              exact hg (by rw [hq]) σ' hF (by rw [hq]) (by rw [hq]; exact hP)
            refine ⟨fun a => KG (Or.inr a), fun a => ⟨⟨m0, m1, by omega⟩, ⟨a0, p3⟩, fun z => ⟨⟨a0, p3⟩, ⟨m0, m1, by omega, by omega⟩, fun σ2 hs => ?_⟩, fun z => KG (Or.inl (fun y => z ⟨y.1, y.2.1, fun w => y.2.2 ((hi _).mp ((hS.2.2 _ y.1 y.2.1).mp w))⟩))⟩⟩
            obtain ⟨z1, z2, z3⟩ := z
            have nq : ¬ inq q' (4 * m) c (dg (cT σ) (cL σ) (σ' 2 0 2)) := fun w => z3 ((hS.2.2 _ z1 z2).mpr ((hi _).mpr w))
            have hlt := dg_lt z1
            rw [show (4 - c).toNat = (4 - (c + 1)).toNat + 1 by omega, jbS_1, cif_1 ⟨z1, z2, nq⟩] at hq
            have hJ := PL_j (σ' := σ2) hP m0 m1 el c0 z1 z2 nq (by rw [hl]; exact hs)
            have e2 : σ2 2 0 2 = σ' 2 0 2 := by rw [hs]; simp [up_ap]
            rw [e2]
            have F3 : FrG pPd σ2 (up σ2 2 0 2 (σ' 2 0 2 + 1)) := FrG.r.u ⟨rfl, rfl, rfl⟩
            have hJ1 := hJ.1
            rw [uq_uq] at hJ1
            refine ⟨by simp only [inR]; omega, by simp only [inR]; omega, by omega, (hF.t ?_).t (pPd.P F3), uq q' (4 * m + c) (dg (cT σ) (cL σ) (σ' 2 0 2)), PL_cg F3 hJ1, by omega, by omega, ?_, ?_, m0, m1, ?_⟩
            · rw [hs]
              exact (FrG.r.u (Or.inr ⟨rfl, by omega⟩)).u (Or.inr ⟨rfl, by omega⟩)
            · rw [up_ap, if_pos ⟨rfl, rfl, rfl⟩]; omega
            · rw [up_ap, if_pos ⟨rfl, rfl, rfl⟩]; omega
            · rw [up_ap, if_pos ⟨rfl, rfl, rfl⟩]; exact hq
          · exact hi.elim
        · cases hcut
      · simp only [wp, stp, drp, entL, eL, lget, lset, okst, cnd, swt, rcv, Kr_int, Kr_bool, Kr_void, List.length_cons, List.length_nil, List.replicate, List.append_nil, List.cons_append, List.nil_append, List.take_succ_cons, List.take_zero, List.drop_succ_cons, List.drop_zero, List.reverse_cons, List.reverse_nil, Option.map_some, Option.map_none, Option.toList_some, Option.toList_none, Nat.reduceAdd, Nat.reduceSub, Nat.reduceLT, Nat.reduceLeDiff, Nat.reduceEqDiff, ↓reduceIte, Nat.add_zero, Nat.zero_add, true_and, and_true, Nat.le_refl, reduceCtorEq, false_implies, true_implies, not_true_eq_false, not_false_eq_true, Int.reduceAdd, Int.reduceSub, Int.reduceMul, Int.reduceLE, Int.reduceLT, Int.reduceEq, Int.reduceNe, Int.reduceNeg, Int.reduceDiv, Int.reduceMod, Bool.false_eq_true, Int.le_refl, and_self, true_or, or_true, inR_l, fv0, fv1, fv2, fv3, nc2, nc4, nc6, nc16, nc25, nc60, nc65, nc80, nc130, nc384, nc390, fp_0_0, fp_0_1, fp_0_2, fp_1_0, fp_1_1, fp_1_2, fp_1_3, fp_1_4, fp_1_5, fp_1_6, fp_1_7, fp_1_8, fp_1_9, fp_1_10, fp_1_11, fp_1_12, fp_1_13, fp_1_14, fp_2_0, fp_2_1, fp_2_2, fp_2_3, fp_3_0, fp_3_1, fp_4_0, fp_4_1, fp_4_2, fp_4_3, fp_4_4, fp_4_5, fp_4_6, fp_4_7, fp_5_0, fp_5_1, fp_5_2, fp_5_3, fp_5_4, fp_5_5, fp_5_6, fp_5_7, fp_6_0, fp_6_1, fp_6_2, fp_6_3, fp_6_4, fp_6_5, fp_6_6, fp_6_7, fp_6_8, fp_6_9, fp_6_10, fp_6_11, fp_6_12, fp_6_13, fp_6_14, fp_6_15, fp_7_0, fp_7_1, fp_7_2, fp_7_3, fp_7_4, fp_7_5, fp_7_6, fp_7_7, fp_7_8, fp_7_9, fp_7_10, fp_7_11, fp_7_12, fp_7_13, fp_7_14, fp_7_15, fp_7_16, fp_7_17, fp_7_18, fp_7_19, fp_7_20, fp_7_21, fp_7_22, fp_7_23, fp_7_24, iz_0_1, iz_0_2, iz_1_8, iz_1_9, iz_1_11, iz_2_1, iz_2_2, iz_2_3, iz_3_1, iz_4_1, iz_4_2, iz_5_0, iz_6_8, iz_6_9, iz_6_13, iz_6_14, iz_6_15, iz_7_2, iz_7_6, iz_7_12, iz_7_20, iz_7_21, iz_7_23, iz_7_24, ak_8, ak_9, ak_10, ak_11, ak_12, ak_13, ak_14, ak_15, ak_16, ak_17, ak_18, ak_19, ak_20, ak_21, ak_22, ak_23, ak_24, ak_25, ak_26, ak_27, ak_28, ak_29, ak_30, ak_31, ak_32, ak_33, ak_34, ak_35, ak_36, ak_37, ak_38, ak_39, ak_40, ak_41, ak_42, ak_43, ak_44, ak_45, ak_46, ak_47, ak_48, ak_49, ak_50, ak_51, ak_52, ak_53, ak_54, ak_55, ak_56, el31, el33, el34, CX2_readOrder, ca_X2_readOrder, frX2, kcX2, klX2, T_X2_digit2, T_X2_names2, T_X2_take2, T_X5_jobsInOrder, T_X2_anotherJobFor, T_X5_append2, up_ap, false_and, and_false, if_false, if_true, ite_true, ite_false, cT_up, cLn_up, exists_eq_right_right, exists_eq_right, exists_eq_left, Nat.lt_irrefl, and_self, implies_true, forall_const]
        have hd := dg_r (cT σ) (cL σ) (σ 2 0 2)
        have B0 : (dg (cT σ) (cL σ) (σ 2 0 2) < 0 ∨ 4 ≤ dg (cT σ) (cL σ) (σ 2 0 2) ∨ 0 ≤ ln (dg (cT σ) (cL σ) (σ 2 0 2))) → K (some 0) σ := fun z => by
          have e : ordS (cT σ) (cL σ) ln q (σ 2 0 2) = (1, σ 2 0 2, ln, q) := by
            unfold ordS
            exact cif_1 z
          exact hb (by rw [e]; show (1 : Int) ≠ 0; omega) σ FrG.r (by rw [e])
        have d0 : ¬ dg (cT σ) (cL σ) (σ 2 0 2) = -6 → 0 ≤ dg (cT σ) (cL σ) (σ 2 0 2) := fun z => by omega
        refine ⟨⟨p1, p3⟩, fun a => B0 (Or.inl (by omega)), fun a => ⟨fun b => B0 (Or.inr (Or.inl b)), fun b => ⟨fun e => B0 (Or.inr (Or.inr ((p4.2.2 _ (d0 a) (by omega)).1.mp e))), fun e => ?_⟩⟩⟩
        have D0 := d0 a
        have D1 : dg (cT σ) (cL σ) (σ 2 0 2) < 4 := by omega
        have nl : ln (dg (cT σ) (cL σ) (σ 2 0 2)) < 0 := by
          rcases Int.lt_or_le (ln (dg (cT σ) (cL σ) (σ 2 0 2))) 0 with z | z
          · exact z
          · exact absurd ((p4.2.2 _ D0 D1).1.mpr z) e
        have nb : ¬ (dg (cT σ) (cL σ) (σ 2 0 2) < 0 ∨ 4 ≤ dg (cT σ) (cL σ) (σ 2 0 2) ∨ 0 ≤ ln (dg (cT σ) (cL σ) (σ 2 0 2))) := by
          rintro (z | z | z) <;> omega
        have hlt := dg_lt D0
        have F1 : FrG pPd σ (up σ 2 0 2 (σ 2 0 2 + 1)) := FrG.r.u ⟨rfl, rfl, rfl⟩
        have PN := PL_n (PL_cg F1 p4) D0 D1 nl rfl
        rw [show (up σ 2 0 2 (σ 2 0 2 + 1)) 2 0 3 = σ 2 0 3 from by simp [up_ap]] at PN
        have F2 : FrG (pPl i) σ (up (up σ 2 0 2 (σ 2 0 2 + 1)) 2 0 3 (bor (σ 2 0 3) (bshl 1 (dg (cT σ) (cL σ) (σ 2 0 2))))) := (pPd.P F1).u (Or.inl ⟨rfl, rfl, Or.inr rfl⟩)
        have ea : (up (up σ 2 0 2 (σ 2 0 2 + 1)) 2 0 3 (bor (σ 2 0 3) (bshl 1 (dg (cT σ) (cL σ) (σ 2 0 2))))) 2 0 2 = σ 2 0 2 + 1 := by simp [up_ap]
        generalize (up (up σ 2 0 2 (σ 2 0 2 + 1)) 2 0 3 (bor (σ 2 0 3) (bshl 1 (dg (cT σ) (cL σ) (σ 2 0 2))))) = σ2 at *
        rw [(pPl_c F2).2]
        refine ⟨by simp only [inR]; omega, ⟨by omega, p3⟩, fun e58 σ3 f3 a3 => ?_, fun e58 => ?_⟩
        · have h58 := nx_lt e58 (by omega)
          have eo : ordS (cT σ) (cL σ) ln q (σ 2 0 2) = (0, (jbS (cT σ) (cL σ) (dg (cT σ) (cL σ) (σ 2 0 2)) 4 0 (σ 2 0 2 + 2) q).1, uq ln (dg (cT σ) (cL σ) (σ 2 0 2)) (jbS (cT σ) (cL σ) (dg (cT σ) (cL σ) (σ 2 0 2)) 4 0 (σ 2 0 2 + 2) q).2.1, (jbS (cT σ) (cL σ) (dg (cT σ) (cL σ) (σ 2 0 2)) 4 0 (σ 2 0 2 + 2) q).2.2) := by
            unfold ordS
            rw [cif_0 nb, cif_0 (fun z => z e58)]
          refine ⟨F2.t (pPd.P f3), q, PL_cg f3 PN.1, by omega, by omega, by omega, by omega, D0, D1, ?_⟩
          rw [eo, a3, show σ 2 0 2 + 1 + 1 = σ 2 0 2 + 2 by omega]
          rfl
        · have eo : ordS (cT σ) (cL σ) ln q (σ 2 0 2) = (1, σ 2 0 2 + 1, ln, q) := by
            unfold ordS
            rw [cif_0 nb, cif_1 e58]
          exact hb (by rw [eo]; show (1 : Int) ≠ 0; omega) _ F2 (by rw [eo, ea])
    · exact h.elim
