def ca_X7_findCritical : Nat → Option (Nat × Nat × Tr)
  | 102 => some (2, 7, T_X7_isOperation)
  | 150 => some (2, 7, T_X7_isCritical)
  | 69 => some (3, 7, T_X7_ofAJob)
  | 124 => some (2, 7, T_X7_behindOnRoute)
  | 73 => some (2, 7, T_X7_machineOf)
  | 156 => some (2, 7, T_X7_placeOf)
  | 117 => some (3, 7, T_X7_operationAt)
  | 159 => some (3, 7, T_X7_goesOn)
  | _ => none
theorem cao_X7_findCritical (l : Launch) : ∀ k n' ci T', ca_X7_findCritical k = some (n', ci, T') → ∃ nn, nn + 1 ≤ 5 ∧ Site l yX7_findCritical.cls k n' ci nn T' := by
  intro k n' ci T' h
  unfold ca_X7_findCritical at h
  split at h
  · cases h; exact ⟨1, by decide, _, _, _, _, k_X7_isOperation l, Or.inl ⟨_, rfl, FX7_isOperation, KRX7_102⟩⟩
  · cases h; exact ⟨3, by decide, _, _, _, _, k_X7_isCritical l, Or.inl ⟨_, rfl, FX7_isCritical, KRX7_150⟩⟩
  · cases h; exact ⟨0, by decide, _, _, _, _, k_X7_ofAJob l, Or.inl ⟨_, rfl, FX7_ofAJob, KRX7_69⟩⟩
  · cases h; exact ⟨1, by decide, _, _, _, _, k_X7_behindOnRoute l, Or.inl ⟨_, rfl, FX7_behindOnRoute, KRX7_124⟩⟩
  · cases h; exact ⟨0, by decide, _, _, _, _, k_X7_machineOf l, Or.inl ⟨_, rfl, FX7_machineOf, KRX7_73⟩⟩
  · cases h; exact ⟨1, by decide, _, _, _, _, k_X7_placeOf l, Or.inl ⟨_, rfl, FX7_placeOf, KRX7_156⟩⟩
  · cases h; exact ⟨2, by decide, _, _, _, _, k_X7_operationAt l, Or.inl ⟨_, rfl, FX7_operationAt, KRX7_117⟩⟩
  · cases h; exact ⟨4, by decide, _, _, _, _, k_X7_goesOn l, Or.inl ⟨_, rfl, FX7_goesOn, KRX7_159⟩⟩
  · cases h
def T_X7_findCritical : Tr := fun a σ K => match a with
  | [.inr (.inl (7, 0))] => rBd σ ∧ ∀ σ' L, LE σ 16 L → FCi σ σ' L (-6) → K none σ'
  | _ => False
set_option maxHeartbeats 8000000 in
set_option maxRecDepth 20000 in
theorem k_X7_findCritical (l : Launch) : Ct l yX7_findCritical cX7_findCritical 4 none 5 T_X7_findCritical := by
  refine mk_met (by decide +kernel) hCX7_findCritical lCX7_findCritical frX7_ok cstX7_ok (cao_X7_findCritical l) ?_ ?_
  · intro a σ K h
    unfold T_X7_findCritical at h
    split at h
    · simp [eL]
    · exact h.elim
  · intro a σ K ha hR h
    unfold T_X7_findCritical at h
    split at h
    · refine ⟨fun pc => if pc = 11 then some (fun L S σ' k => match L, S with | [some (.inr (.inl c1)), some (.inl r), some (.inl x), _], [] => (c1 = (7, 0) ∧ FrG pCr σ σ' ∧ σ' 7 0 12 = 0 ∧ -1 ≤ x ∧ x ≤ 15 ∧ ∀ L, LE σ 16 L → isF2 (rSt σ) (rRe σ) (rDu σ) (σ 45 0) (σ 46 0) L (x + 1) r) ∧ k = (20 + x).toNat + 100 | _, _ => False) else if pc = 60 then some (fun L S σ' k => match L, S with | [some (.inr (.inl c1)), some (.inl c), _, _], [] => (c1 = (7, 0) ∧ ∃ L, LE σ 16 L ∧ FCi σ σ' L c) ∧ k = (40 - σ' 7 0 12).toNat | _, _ => False) else none, 200, ?_, ?_⟩
      · intro pc I L S σ' k hcut hi
        dsimp only at hcut
        split at hcut
        · rename_i hpc
          subst hpc
          cases hcut
          try dsimp only at hi
          split at hi
          · rename_i c1 r x x1
            obtain ⟨hi, rfl⟩ := hi
            obtain ⟨rfl, hF, hz, h0, h1, hI⟩ := hi
            obtain ⟨p1, h⟩ := h
            simp only [wp, stp, drp, entL, eL, lget, lset, okst, cnd, swt, rcv, Kr_int, Kr_bool, Kr_void, List.length_cons, List.length_nil, List.replicate, List.append_nil, List.cons_append, List.nil_append, List.take_succ_cons, List.take_zero, List.drop_succ_cons, List.drop_zero, List.reverse_cons, List.reverse_nil, Option.map_some, Option.map_none, Option.toList_some, Option.toList_none, Nat.reduceAdd, Nat.reduceSub, Nat.reduceLT, Nat.reduceLeDiff, Nat.reduceEqDiff, ↓reduceIte, Nat.add_zero, Nat.zero_add, true_and, and_true, Nat.le_refl, reduceCtorEq, false_implies, true_implies, not_true_eq_false, not_false_eq_true, Int.reduceAdd, Int.reduceSub, Int.reduceMul, Int.reduceLE, Int.reduceLT, Int.reduceEq, Int.reduceNe, Int.reduceNeg, Int.reduceDiv, Int.reduceMod, Bool.false_eq_true, Int.le_refl, and_self, true_or, or_true, inR_l, fv0, fv1, fv2, fv3, nc2, nc4, nc6, nc16, nc25, nc60, nc65, nc80, nc130, nc384, nc390, fp_0_0, fp_0_1, fp_0_2, fp_1_0, fp_1_1, fp_1_2, fp_1_3, fp_1_4, fp_1_5, fp_1_6, fp_1_7, fp_1_8, fp_1_9, fp_1_10, fp_1_11, fp_1_12, fp_1_13, fp_1_14, fp_2_0, fp_2_1, fp_2_2, fp_2_3, fp_3_0, fp_3_1, fp_4_0, fp_4_1, fp_4_2, fp_4_3, fp_4_4, fp_4_5, fp_4_6, fp_4_7, fp_5_0, fp_5_1, fp_5_2, fp_5_3, fp_5_4, fp_5_5, fp_5_6, fp_5_7, fp_6_0, fp_6_1, fp_6_2, fp_6_3, fp_6_4, fp_6_5, fp_6_6, fp_6_7, fp_6_8, fp_6_9, fp_6_10, fp_6_11, fp_6_12, fp_6_13, fp_6_14, fp_6_15, fp_7_0, fp_7_1, fp_7_2, fp_7_3, fp_7_4, fp_7_5, fp_7_6, fp_7_7, fp_7_8, fp_7_9, fp_7_10, fp_7_11, fp_7_12, fp_7_13, fp_7_14, fp_7_15, fp_7_16, fp_7_17, fp_7_18, fp_7_19, fp_7_20, fp_7_21, fp_7_22, fp_7_23, fp_7_24, iz_0_1, iz_0_2, iz_1_8, iz_1_9, iz_1_11, iz_2_1, iz_2_2, iz_2_3, iz_3_1, iz_4_1, iz_4_2, iz_5_0, iz_6_8, iz_6_9, iz_6_13, iz_6_14, iz_6_15, iz_7_2, iz_7_6, iz_7_12, iz_7_20, iz_7_21, iz_7_23, iz_7_24, ak_8, ak_9, ak_10, ak_11, ak_12, ak_13, ak_14, ak_15, ak_16, ak_17, ak_18, ak_19, ak_20, ak_21, ak_22, ak_23, ak_24, ak_25, ak_26, ak_27, ak_28, ak_29, ak_30, ak_31, ak_32, ak_33, ak_34, ak_35, ak_36, ak_37, ak_38, ak_39, ak_40, ak_41, ak_42, ak_43, ak_44, ak_45, ak_46, ak_47, ak_48, ak_49, ak_50, ak_51, ak_52, ak_53, ak_54, ak_55, ak_56, el31, el33, el34, CX7_findCritical, ca_X7_findCritical, frX7, kcX7, klX7, T_X7_isOperation, T_X7_isCritical, T_X7_ofAJob, T_X7_behindOnRoute, T_X7_machineOf, T_X7_placeOf, T_X7_operationAt, T_X7_goesOn, exists_eq_right_right, exists_eq_right, exists_eq_left, Nat.lt_irrefl, and_self, implies_true, forall_const]
            have hs := pCr_sm hF
            obtain ⟨s1, s2, s3, s4⟩ := hs.o
            obtain ⟨L, hL⟩ := LE_ex p1
            have hc := rOp_if p1.1 x
            have hp1 := s3.mpr p1
            have h38 := p1.1.1.1.2
            simp only [hs.1, hs.2.1, hs.2.2, s4, s1]
            by_cases hv : rOp σ x
            · simp only [if_pos (hc.mpr hv), not_true_eq_false, false_implies, true_implies, and_true, true_and, ne_eq]
              have e0 : σ 38 0 (1 + 3 * (x / 4) + 0) = rRe σ (x / 4) := by rw [Int.add_zero]; rfl
              have e1 : σ 38 0 (14 + 2 * x) = rDu σ x := rfl
              rw [e0, e1]
              refine ⟨fun a => ⟨by omega, L, hL, FCi_0 hF hz (by have := hI L hL; rw [show x + 1 = 0 by omega] at this; exact this)⟩, fun a => ⟨h38, fun q => absurd q (by omega), fun _ => ⟨⟨hp1, hv⟩, fun L' hL' => ?_⟩⟩⟩
              have eL := LE_un hL' hL
              subst eL
              by_cases hcr : σ 45 0 x + rDu σ x + σ 46 0 x = L'
              · simp only [if_pos hcr]
                refine ⟨fun q => absurd q (by omega), fun _ => ⟨⟨by omega, by omega⟩, by omega, ⟨by omega, by omega⟩, fun q => ⟨⟨by omega, by omega⟩, by omega, hF, hz, by omega, by omega, fun L2 hL2 => ?_⟩, fun q => ⟨⟨by omega, by omega⟩, by omega, hF, hz, by omega, by omega, fun L2 hL2 => ?_⟩⟩⟩
                · rw [show x + -1 + 1 = x by omega]
                  exact isF2_n (hI L2 hL2) (fun z => q z.2.2)
                · rw [show x + -1 + 1 = x by omega]
                  exact isF2_s (hI L2 hL2) ⟨hv, by rw [LE_un hL2 hL]; exact hcr, Classical.not_not.mp q⟩
              · simp only [if_neg hcr]
                refine ⟨fun _ => ⟨⟨by omega, by omega⟩, by omega, hF, hz, by omega, by omega, fun L2 hL2 => ?_⟩, fun q => absurd trivial q⟩
                rw [show x + -1 + 1 = x by omega]
                exact isF2_n (hI L2 hL2) (fun z => hcr (by rw [LE_un hL hL2]; exact z.2.1))
            · simp only [if_neg (fun q => hv (hc.mp q)), not_true_eq_false, false_implies, true_implies, and_true, true_and, ne_eq, not_false_eq_true]
              refine ⟨fun a => ⟨by omega, L, hL, FCi_0 hF hz (by have := hI L hL; rw [show x + 1 = 0 by omega] at this; exact this)⟩, fun a => ⟨h38, ⟨by omega, by omega⟩, by omega, hF, hz, by omega, by omega, fun L2 hL2 => ?_⟩⟩
              rw [show x + -1 + 1 = x by omega]
              exact isF2_n (hI L2 hL2) (fun z => hv z.1)
          · exact hi.elim
        · split at hcut
          · rename_i hpc
            subst hpc
            cases hcut
            try dsimp only at hi
            split at hi
            · rename_i c1 c x2 x1
              obtain ⟨hi, rfl⟩ := hi
              obtain ⟨rfl, L, hL, hI⟩ := hi
              obtain ⟨p1, h⟩ := h
              simp only [wp, stp, drp, entL, eL, lget, lset, okst, cnd, swt, rcv, Kr_int, Kr_bool, Kr_void, List.length_cons, List.length_nil, List.replicate, List.append_nil, List.cons_append, List.nil_append, List.take_succ_cons, List.take_zero, List.drop_succ_cons, List.drop_zero, List.reverse_cons, List.reverse_nil, Option.map_some, Option.map_none, Option.toList_some, Option.toList_none, Nat.reduceAdd, Nat.reduceSub, Nat.reduceLT, Nat.reduceLeDiff, Nat.reduceEqDiff, ↓reduceIte, Nat.add_zero, Nat.zero_add, true_and, and_true, Nat.le_refl, reduceCtorEq, false_implies, true_implies, not_true_eq_false, not_false_eq_true, Int.reduceAdd, Int.reduceSub, Int.reduceMul, Int.reduceLE, Int.reduceLT, Int.reduceEq, Int.reduceNe, Int.reduceNeg, Int.reduceDiv, Int.reduceMod, Bool.false_eq_true, Int.le_refl, and_self, true_or, or_true, inR_l, fv0, fv1, fv2, fv3, nc2, nc4, nc6, nc16, nc25, nc60, nc65, nc80, nc130, nc384, nc390, fp_0_0, fp_0_1, fp_0_2, fp_1_0, fp_1_1, fp_1_2, fp_1_3, fp_1_4, fp_1_5, fp_1_6, fp_1_7, fp_1_8, fp_1_9, fp_1_10, fp_1_11, fp_1_12, fp_1_13, fp_1_14, fp_2_0, fp_2_1, fp_2_2, fp_2_3, fp_3_0, fp_3_1, fp_4_0, fp_4_1, fp_4_2, fp_4_3, fp_4_4, fp_4_5, fp_4_6, fp_4_7, fp_5_0, fp_5_1, fp_5_2, fp_5_3, fp_5_4, fp_5_5, fp_5_6, fp_5_7, fp_6_0, fp_6_1, fp_6_2, fp_6_3, fp_6_4, fp_6_5, fp_6_6, fp_6_7, fp_6_8, fp_6_9, fp_6_10, fp_6_11, fp_6_12, fp_6_13, fp_6_14, fp_6_15, fp_7_0, fp_7_1, fp_7_2, fp_7_3, fp_7_4, fp_7_5, fp_7_6, fp_7_7, fp_7_8, fp_7_9, fp_7_10, fp_7_11, fp_7_12, fp_7_13, fp_7_14, fp_7_15, fp_7_16, fp_7_17, fp_7_18, fp_7_19, fp_7_20, fp_7_21, fp_7_22, fp_7_23, fp_7_24, iz_0_1, iz_0_2, iz_1_8, iz_1_9, iz_1_11, iz_2_1, iz_2_2, iz_2_3, iz_3_1, iz_4_1, iz_4_2, iz_5_0, iz_6_8, iz_6_9, iz_6_13, iz_6_14, iz_6_15, iz_7_2, iz_7_6, iz_7_12, iz_7_20, iz_7_21, iz_7_23, iz_7_24, ak_8, ak_9, ak_10, ak_11, ak_12, ak_13, ak_14, ak_15, ak_16, ak_17, ak_18, ak_19, ak_20, ak_21, ak_22, ak_23, ak_24, ak_25, ak_26, ak_27, ak_28, ak_29, ak_30, ak_31, ak_32, ak_33, ak_34, ak_35, ak_36, ak_37, ak_38, ak_39, ak_40, ak_41, ak_42, ak_43, ak_44, ak_45, ak_46, ak_47, ak_48, ak_49, ak_50, ak_51, ak_52, ak_53, ak_54, ak_55, ak_56, el31, el33, el34, CX7_findCritical, ca_X7_findCritical, frX7, kcX7, klX7, T_X7_isOperation, T_X7_isCritical, T_X7_ofAJob, T_X7_behindOnRoute, T_X7_machineOf, T_X7_placeOf, T_X7_operationAt, T_X7_goesOn, exists_eq_right_right, exists_eq_right, exists_eq_left, Nat.lt_irrefl, and_self, implies_true, forall_const]
              have hn := hI.2.1
              have hv := PTi_v p1.1.1 hI.2
              have e12 : (up σ' 47 0 (σ' 7 0 12) c) 7 0 12 = σ' 7 0 12 := by rw [up_ap, if_neg (by rintro ⟨q, -⟩; omega)]
              simp only [e12]
              have hF2 : FrG pCr σ (up (up σ' 47 0 (σ' 7 0 12) c) 7 0 12 (σ' 7 0 12 + 1)) := (hI.1.u (Or.inl ⟨rfl, rfl⟩)).u (Or.inr ⟨rfl, rfl, rfl⟩)
              have e7 : (up (up σ' 47 0 (σ' 7 0 12) c) 7 0 12 (σ' 7 0 12 + 1)) 7 0 12 = σ' 7 0 12 + 1 := by rw [up_ap, if_pos ⟨rfl, rfl, rfl⟩]
              have hstep := fun c0 c' hc => FCi_s (c' := c') hI c0 hc
              generalize up (up σ' 47 0 (σ' 7 0 12) c) 7 0 12 (σ' 7 0 12 + 1) = σ2 at hF2 e7 hstep ⊢
              have hs := pCr_sm hF2
              obtain ⟨s1, s2, s3, s4⟩ := hs.o
              have hp2 := s3.mpr p1
              have hbk : ∀ m, 0 ≤ m → m < 4 → σ2 38 0 (45 + m) ≤ 4 := fun m a b => (oA_pre hp2.1 a b).1
              have EA := (r38 hs.1).2.2.2.2.2.2.2.2
              have ET := tP1_cg hs.1
              have Emc : ∀ x, σ2 38 0 (13 + 2 * x) = rMc σ x := fun x => by rw [hs.1]; rfl
              simp only [oA_eq, tP1_f]
              by_cases hc0 : 0 ≤ c
              · obtain ⟨vc, n15⟩ := hv.2.1 hc0
                have vc2 : rOp σ2 c := by rw [s1]; exact vc
                have c16 := vc.2.1
                have hm := rWF_op p1.1 vc
                rw [rPl_4 hp2.1 vc2]
                have hpl := rPl_of hp2.1 vc2
                have hpl' := rPl_of p1.1 vc
                have ePl : rPl σ2 c = rPl σ c := by
                  unfold rPl
                  rw [(r38 hs.1).2.1, (r38 hs.1).2.2.2.2.2.1, (r38 hs.1).2.2.2.2.2.2.1]
                obtain ⟨o1, o2, o3⟩ := oA_pre hp2.1 (show 0 ≤ σ2 38 0 (13 + 2 * c) by rw [Emc]; exact hm.1) (by rw [Emc]; exact hm.2.1)
                have hl4 : rLn σ2 (rMc σ2 c) ≤ 4 := hbk _ (by show 0 ≤ σ2 38 0 (13 + 2 * c); rw [Emc]; exact hm.1) (by show σ2 38 0 (13 + 2 * c) < 4; rw [Emc]; exact hm.2.1)
                simp only [Emc, EA, ET, ePl, oqN_A p1.1 vc]
                rw [Emc] at o1 o2 o3
                rw [ePl] at hpl
                refine ⟨fun a => absurd a (by omega), fun _ => ⟨⟨by omega, by omega⟩, ⟨by omega, by omega⟩, ⟨hc0, c16⟩, ⟨hc0, c16⟩, ⟨hc0, c16, hm.1, hm.2.1, by omega⟩, ⟨by omega, by omega⟩, ⟨hm.1, hm.2.1, o1, fun a b => o3 _ a b⟩, ⟨hp2, vc2, fun q => by rw [s1]; exact tP1_ok p1.1 _ vc q⟩, fun L1 hL1 hg => ?_, fun L1 hL1 hg => ⟨⟨hp2, vc2, fun q => by rw [s1]; exact (oqN_v p1.1.1 vc q).1⟩, fun L2 hL2 hg2 => ?_, fun L2 hL2 hg2 => ?_⟩⟩⟩
                all_goals rw [s4] at hL1
                all_goals have eL1 := LE_un hL1 hL
                all_goals subst eL1
                all_goals rw [gC_cg hs, gC_rt p1.1 vc] at hg
                · have et : tP1 σ c = c + 1 := if_pos hg.1
                  exact ⟨by omega, L1, hL, hstep hc0 _ (Or.inl ⟨hg, et⟩)⟩
                · rw [s4] at hL2
                  have eL2 := LE_un hL2 hL
                  subst eL2
                  rw [gC_cg hs] at hg2
                  exact ⟨by omega, L2, hL, hstep hc0 _ (Or.inr (Or.inl ⟨hg, hg2, rfl⟩))⟩
                · rw [s4] at hL2
                  have eL2 := LE_un hL2 hL
                  subst eL2
                  rw [gC_cg hs] at hg2
                  exact ⟨by omega, L2, hL, hstep hc0 _ (Or.inr (Or.inr ⟨hg, hg2, rfl⟩))⟩
              · refine ⟨fun a => h σ' L hL ?_, fun a => absurd a (by omega)⟩
                have hcm : c = -6 := by
                  have hi := hI.2
                  by_cases z : σ' 7 0 12 = 0
                  · rcases hi.2.1 z with ⟨q, -⟩ | ⟨q, -⟩
                    · exact q
                    · have := q.1; omega
                  · rcases hi.2.2.2.2 (by omega) with ⟨q1, q2⟩ | ⟨-, q1, q2⟩ | ⟨-, -, q⟩
                    · have := (hv.1 (σ' 7 0 12 - 1) (by omega) (by omega)).1; omega
                    · have := q1.1; omega
                    · exact q
                rw [hcm] at hI
                exact hI
            · exact hi.elim
          · cases hcut
      · simp only [wp, stp, drp, entL, eL, lget, lset, okst, cnd, swt, rcv, Kr_int, Kr_bool, Kr_void, List.length_cons, List.length_nil, List.replicate, List.append_nil, List.cons_append, List.nil_append, List.take_succ_cons, List.take_zero, List.drop_succ_cons, List.drop_zero, List.reverse_cons, List.reverse_nil, Option.map_some, Option.map_none, Option.toList_some, Option.toList_none, Nat.reduceAdd, Nat.reduceSub, Nat.reduceLT, Nat.reduceLeDiff, Nat.reduceEqDiff, ↓reduceIte, Nat.add_zero, Nat.zero_add, true_and, and_true, Nat.le_refl, reduceCtorEq, false_implies, true_implies, not_true_eq_false, not_false_eq_true, Int.reduceAdd, Int.reduceSub, Int.reduceMul, Int.reduceLE, Int.reduceLT, Int.reduceEq, Int.reduceNe, Int.reduceNeg, Int.reduceDiv, Int.reduceMod, Bool.false_eq_true, Int.le_refl, and_self, true_or, or_true, inR_l, fv0, fv1, fv2, fv3, nc2, nc4, nc6, nc16, nc25, nc60, nc65, nc80, nc130, nc384, nc390, fp_0_0, fp_0_1, fp_0_2, fp_1_0, fp_1_1, fp_1_2, fp_1_3, fp_1_4, fp_1_5, fp_1_6, fp_1_7, fp_1_8, fp_1_9, fp_1_10, fp_1_11, fp_1_12, fp_1_13, fp_1_14, fp_2_0, fp_2_1, fp_2_2, fp_2_3, fp_3_0, fp_3_1, fp_4_0, fp_4_1, fp_4_2, fp_4_3, fp_4_4, fp_4_5, fp_4_6, fp_4_7, fp_5_0, fp_5_1, fp_5_2, fp_5_3, fp_5_4, fp_5_5, fp_5_6, fp_5_7, fp_6_0, fp_6_1, fp_6_2, fp_6_3, fp_6_4, fp_6_5, fp_6_6, fp_6_7, fp_6_8, fp_6_9, fp_6_10, fp_6_11, fp_6_12, fp_6_13, fp_6_14, fp_6_15, fp_7_0, fp_7_1, fp_7_2, fp_7_3, fp_7_4, fp_7_5, fp_7_6, fp_7_7, fp_7_8, fp_7_9, fp_7_10, fp_7_11, fp_7_12, fp_7_13, fp_7_14, fp_7_15, fp_7_16, fp_7_17, fp_7_18, fp_7_19, fp_7_20, fp_7_21, fp_7_22, fp_7_23, fp_7_24, iz_0_1, iz_0_2, iz_1_8, iz_1_9, iz_1_11, iz_2_1, iz_2_2, iz_2_3, iz_3_1, iz_4_1, iz_4_2, iz_5_0, iz_6_8, iz_6_9, iz_6_13, iz_6_14, iz_6_15, iz_7_2, iz_7_6, iz_7_12, iz_7_20, iz_7_21, iz_7_23, iz_7_24, ak_8, ak_9, ak_10, ak_11, ak_12, ak_13, ak_14, ak_15, ak_16, ak_17, ak_18, ak_19, ak_20, ak_21, ak_22, ak_23, ak_24, ak_25, ak_26, ak_27, ak_28, ak_29, ak_30, ak_31, ak_32, ak_33, ak_34, ak_35, ak_36, ak_37, ak_38, ak_39, ak_40, ak_41, ak_42, ak_43, ak_44, ak_45, ak_46, ak_47, ak_48, ak_49, ak_50, ak_51, ak_52, ak_53, ak_54, ak_55, ak_56, el31, el33, el34, CX7_findCritical, ca_X7_findCritical, frX7, kcX7, klX7, T_X7_isOperation, T_X7_isCritical, T_X7_ofAJob, T_X7_behindOnRoute, T_X7_machineOf, T_X7_placeOf, T_X7_operationAt, T_X7_goesOn, exists_eq_right_right, exists_eq_right, exists_eq_left, Nat.lt_irrefl, and_self, implies_true, forall_const]
        obtain ⟨p1, h⟩ := h
        exact ⟨FrG.r.u (Or.inr ⟨rfl, rfl, rfl⟩), by rw [up_ap, if_pos ⟨rfl, rfl, rfl⟩], fun L hL => isF2_0⟩
    · exact h.elim
