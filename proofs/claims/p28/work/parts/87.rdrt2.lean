def ca_X2_readRoutes : Nat → Option (Nat × Nat × Tr)
  | 25 => some (1, 5, T_X5_clear)
  | 30 => some (2, 2, T_X2_readJob)
  | 34 => some (2, 2, T_X2_take2)
  | _ => none
theorem cao_X2_readRoutes (l : Launch) : ∀ k n' ci T', ca_X2_readRoutes k = some (n', ci, T') → ∃ nn, nn + 1 ≤ 4 ∧ Site l yX2_readRoutes.cls k n' ci nn T' := by
  intro k n' ci T' h
  unfold ca_X2_readRoutes at h
  split at h
  · cases h; exact ⟨0, by decide, _, _, _, _, k_X5_clear l, Or.inl ⟨_, rfl, FX5_clear, KRX2_25⟩⟩
  · cases h; exact ⟨3, by decide, _, _, _, _, k_X2_readJob l, Or.inl ⟨_, rfl, FX2_readJob, KRX2_30⟩⟩
  · cases h; exact ⟨0, by decide, _, _, _, _, k_X2_take2 l, Or.inl ⟨_, rfl, FX2_take, KRX2_34⟩⟩
  · cases h
def T_X2_readRoutes : Tr := fun a σ K => match a with
  | [.inr (.inl (2, 0)), .inr (.inl (5, i))] => (0 ≤ cL σ ∧ cL σ ≤ 80) ∧ ∀ σ', rtE σ σ' i → K (some (rtsF (cT σ) (cL σ))) σ'
  | _ => False
set_option maxHeartbeats 8000000 in
set_option maxRecDepth 20000 in
theorem k_X2_readRoutes (l : Launch) : Ct l yX2_readRoutes cX2_readRoutes 4 (some .int) 4 T_X2_readRoutes := by
  refine mk_met (by decide +kernel) hCX2_readRoutes lCX2_readRoutes frX2_ok cstX2_ok (cao_X2_readRoutes l) ?_ ?_
  · intro a σ K h
    unfold T_X2_readRoutes at h
    split at h
    · simp [eL]
    · exact h.elim
  · intro a σ K ha hR h
    unfold T_X2_readRoutes at h
    split at h
    · rename_i i
      refine ⟨fun pc => if pc = 13 then some (fun L S σ' k => match L, S with | [some (.inr (.inl c1)), some (.inr (.inl c2)), some (.inl mo), some (.inl jj)], [] => (c1 = (2, 0) ∧ c2 = (5, i) ∧ RTi σ σ' i mo jj) ∧ k = (20 - jj).toNat | _, _ => False) else none, 200, ?_, ?_⟩
      · intro pc I L S σ' k hcut hi
        dsimp only at hcut
        split at hcut
        · rename_i hpc
          subst hpc
          cases hcut
          try dsimp only at hi
          split at hi
          · rename_i c1 c2 mo jj
            obtain ⟨hi, rfl⟩ := hi
            obtain ⟨rfl, rfl, hI⟩ := hi
            obtain ⟨⟨p1, p2⟩, h⟩ := h
            simp only [wp, stp, drp, entL, eL, lget, lset, okst, cnd, swt, rcv, Kr_int, Kr_bool, Kr_void, List.length_cons, List.length_nil, List.replicate, List.append_nil, List.cons_append, List.nil_append, List.take_succ_cons, List.take_zero, List.drop_succ_cons, List.drop_zero, List.reverse_cons, List.reverse_nil, Option.map_some, Option.map_none, Option.toList_some, Option.toList_none, Nat.reduceAdd, Nat.reduceSub, Nat.reduceLT, Nat.reduceLeDiff, Nat.reduceEqDiff, ↓reduceIte, Nat.add_zero, Nat.zero_add, true_and, and_true, Nat.le_refl, reduceCtorEq, false_implies, true_implies, not_true_eq_false, not_false_eq_true, Int.reduceAdd, Int.reduceSub, Int.reduceMul, Int.reduceLE, Int.reduceLT, Int.reduceEq, Int.reduceNe, Int.reduceNeg, Int.reduceDiv, Int.reduceMod, Bool.false_eq_true, Int.le_refl, and_self, true_or, or_true, inR_l, fv0, fv1, fv2, fv3, nc2, nc4, nc6, nc16, nc25, nc60, nc65, nc80, nc130, nc384, nc390, fp_0_0, fp_0_1, fp_0_2, fp_1_0, fp_1_1, fp_1_2, fp_1_3, fp_1_4, fp_1_5, fp_1_6, fp_1_7, fp_1_8, fp_1_9, fp_1_10, fp_1_11, fp_1_12, fp_1_13, fp_1_14, fp_2_0, fp_2_1, fp_2_2, fp_2_3, fp_3_0, fp_3_1, fp_4_0, fp_4_1, fp_4_2, fp_4_3, fp_4_4, fp_4_5, fp_4_6, fp_4_7, fp_5_0, fp_5_1, fp_5_2, fp_5_3, fp_5_4, fp_5_5, fp_5_6, fp_5_7, fp_6_0, fp_6_1, fp_6_2, fp_6_3, fp_6_4, fp_6_5, fp_6_6, fp_6_7, fp_6_8, fp_6_9, fp_6_10, fp_6_11, fp_6_12, fp_6_13, fp_6_14, fp_6_15, fp_7_0, fp_7_1, fp_7_2, fp_7_3, fp_7_4, fp_7_5, fp_7_6, fp_7_7, fp_7_8, fp_7_9, fp_7_10, fp_7_11, fp_7_12, fp_7_13, fp_7_14, fp_7_15, fp_7_16, fp_7_17, fp_7_18, fp_7_19, fp_7_20, fp_7_21, fp_7_22, fp_7_23, fp_7_24, iz_0_1, iz_0_2, iz_1_8, iz_1_9, iz_1_11, iz_2_1, iz_2_2, iz_2_3, iz_3_1, iz_4_1, iz_4_2, iz_5_0, iz_6_8, iz_6_9, iz_6_13, iz_6_14, iz_6_15, iz_7_2, iz_7_6, iz_7_12, iz_7_20, iz_7_21, iz_7_23, iz_7_24, ak_8, ak_9, ak_10, ak_11, ak_12, ak_13, ak_14, ak_15, ak_16, ak_17, ak_18, ak_19, ak_20, ak_21, ak_22, ak_23, ak_24, ak_25, ak_26, ak_27, ak_28, ak_29, ak_30, ak_31, ak_32, ak_33, ak_34, ak_35, ak_36, ak_37, ak_38, ak_39, ak_40, ak_41, ak_42, ak_43, ak_44, ak_45, ak_46, ak_47, ak_48, ak_49, ak_50, ak_51, ak_52, ak_53, ak_54, ak_55, ak_56, el31, el33, el34, CX2_readRoutes, ca_X2_readRoutes, frX2, kcX2, klX2, T_X5_clear, T_X2_readJob, T_X2_take2, up_ap, false_and, and_false, if_false, if_true, ite_true, ite_false, cT_up, cLn_up, exists_eq_right_right, exists_eq_right, exists_eq_left, Nat.lt_irrefl, and_self, implies_true, forall_const]
            have hc := pRd_c hI.1
            have hcl : σ' 2 0 1 = cL σ := hc.2
            have KE : mo = 0 ∨ 4 < jj → (σ' 2 0 2 ≠ σ' 2 0 1 → K (some (σ' 2 0 2)) σ') ∧ (¬ σ' 2 0 2 ≠ σ' 2 0 1 → K (some (-6)) σ') := fun q => by
              obtain ⟨e1, e2⟩ := RTi_end hI q
              have := h _ e1
              rw [e2] at this
              rw [hcl]
              exact ⟨fun z => by rw [if_neg z] at this; exact this, fun z => by rw [if_pos (Classical.not_not.mp z)] at this; exact this⟩
            refine ⟨fun z => KE (Or.inl z), fun hm => ⟨fun z => KE (Or.inr z), fun hj => ?_⟩⟩
            obtain ⟨j4, Rs, hR0, hS⟩ := RTi_s hI hm
            have hb := fun q σ2 hF ha => RTi_bad (σ2 := σ2) hI hm q hF ha
            obtain ⟨-, ha0, ha1, hj1, -, -⟩ := hI
            rw [hc.1, hc.2]
            refine ⟨jj - 1, Rs, ⟨ha0, ha1, p2, by omega, by omega, hR0⟩, fun q σ2 hF ha => ?_, fun q σ2 hF ha hR2 => ?_⟩
            · obtain ⟨e1, e2⟩ := hb q σ2 hF ha
              have := h _ e1
              rw [e2] at this
              exact this
            · obtain ⟨s0, s1, s2⟩ := hS q σ2 hF ha hR2
              have hc2 := pRd_c hF
              rw [hc2.1, hc2.2, hc.1, hc.2]
              refine ⟨fun z => ⟨by simp only [inR]; omega, by omega, s2 (fun y => by omega)⟩, fun z => ⟨⟨s0, p2⟩, fun y σ3 f a => ⟨by simp only [inR]; omega, by omega, s1 y (by omega) σ3 f a⟩, fun y => ⟨by simp only [inR]; omega, by omega, s2 (fun w => y w.1)⟩⟩⟩
          · exact hi.elim
        · cases hcut
      · simp only [wp, stp, drp, entL, eL, lget, lset, okst, cnd, swt, rcv, Kr_int, Kr_bool, Kr_void, List.length_cons, List.length_nil, List.replicate, List.append_nil, List.cons_append, List.nil_append, List.take_succ_cons, List.take_zero, List.drop_succ_cons, List.drop_zero, List.reverse_cons, List.reverse_nil, Option.map_some, Option.map_none, Option.toList_some, Option.toList_none, Nat.reduceAdd, Nat.reduceSub, Nat.reduceLT, Nat.reduceLeDiff, Nat.reduceEqDiff, ↓reduceIte, Nat.add_zero, Nat.zero_add, true_and, and_true, Nat.le_refl, reduceCtorEq, false_implies, true_implies, not_true_eq_false, not_false_eq_true, Int.reduceAdd, Int.reduceSub, Int.reduceMul, Int.reduceLE, Int.reduceLT, Int.reduceEq, Int.reduceNe, Int.reduceNeg, Int.reduceDiv, Int.reduceMod, Bool.false_eq_true, Int.le_refl, and_self, true_or, or_true, inR_l, fv0, fv1, fv2, fv3, nc2, nc4, nc6, nc16, nc25, nc60, nc65, nc80, nc130, nc384, nc390, fp_0_0, fp_0_1, fp_0_2, fp_1_0, fp_1_1, fp_1_2, fp_1_3, fp_1_4, fp_1_5, fp_1_6, fp_1_7, fp_1_8, fp_1_9, fp_1_10, fp_1_11, fp_1_12, fp_1_13, fp_1_14, fp_2_0, fp_2_1, fp_2_2, fp_2_3, fp_3_0, fp_3_1, fp_4_0, fp_4_1, fp_4_2, fp_4_3, fp_4_4, fp_4_5, fp_4_6, fp_4_7, fp_5_0, fp_5_1, fp_5_2, fp_5_3, fp_5_4, fp_5_5, fp_5_6, fp_5_7, fp_6_0, fp_6_1, fp_6_2, fp_6_3, fp_6_4, fp_6_5, fp_6_6, fp_6_7, fp_6_8, fp_6_9, fp_6_10, fp_6_11, fp_6_12, fp_6_13, fp_6_14, fp_6_15, fp_7_0, fp_7_1, fp_7_2, fp_7_3, fp_7_4, fp_7_5, fp_7_6, fp_7_7, fp_7_8, fp_7_9, fp_7_10, fp_7_11, fp_7_12, fp_7_13, fp_7_14, fp_7_15, fp_7_16, fp_7_17, fp_7_18, fp_7_19, fp_7_20, fp_7_21, fp_7_22, fp_7_23, fp_7_24, iz_0_1, iz_0_2, iz_1_8, iz_1_9, iz_1_11, iz_2_1, iz_2_2, iz_2_3, iz_3_1, iz_4_1, iz_4_2, iz_5_0, iz_6_8, iz_6_9, iz_6_13, iz_6_14, iz_6_15, iz_7_2, iz_7_6, iz_7_12, iz_7_20, iz_7_21, iz_7_23, iz_7_24, ak_8, ak_9, ak_10, ak_11, ak_12, ak_13, ak_14, ak_15, ak_16, ak_17, ak_18, ak_19, ak_20, ak_21, ak_22, ak_23, ak_24, ak_25, ak_26, ak_27, ak_28, ak_29, ak_30, ak_31, ak_32, ak_33, ak_34, ak_35, ak_36, ak_37, ak_38, ak_39, ak_40, ak_41, ak_42, ak_43, ak_44, ak_45, ak_46, ak_47, ak_48, ak_49, ak_50, ak_51, ak_52, ak_53, ak_54, ak_55, ak_56, el31, el33, el34, CX2_readRoutes, ca_X2_readRoutes, frX2, kcX2, klX2, T_X5_clear, T_X2_readJob, T_X2_take2, up_ap, false_and, and_false, if_false, if_true, ite_true, ite_false, cT_up, cLn_up, exists_eq_right_right, exists_eq_right, exists_eq_left, Nat.lt_irrefl, and_self, implies_true, forall_const]
        obtain ⟨⟨p1, p2⟩, h⟩ := h
        intro σ' hs
        refine RTi_0 p1 (σ' := up σ 2 0 2 0) (FrG.r.u ⟨rfl, rfl, rfl⟩) (by rw [up_ap, if_pos ⟨rfl, rfl, rfl⟩]) (fun t k j => ?_)
        rw [hs, up_ap]
    · exact h.elim
