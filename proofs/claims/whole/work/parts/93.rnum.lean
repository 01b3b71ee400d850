theorem k_X7_in2 (l : Launch) : Ct l yX7_in cX7_in 3 (some .boolean) 0 T_X7_in2 := Ct_mono (k_X7_in l) m_X7_in2
theorem k_X7_next2 (l : Launch) : Ct l yX7_next cX7_next 1 (some .int) 0 T_X7_next2 := Ct_mono (k_X7_next l) m_X7_next2
theorem k_X7_need2 (l : Launch) : Ct l yX7_need cX7_need 2 none 1 T_X7_need2 := Ct_mono (k_X7_need l) m_X7_need2
def ca_X7_takeDigit : Nat → Option (Nat × Nat × Tr)
  | 269 => some (1, 7, T_X7_next2)
  | 87 => some (3, 99, T_X7_in2)
  | _ => none
theorem cao_X7_takeDigit (l : Launch) : ∀ k n' ci T', ca_X7_takeDigit k = some (n', ci, T') → ∃ nn, nn + 1 ≤ 1 ∧ Site l yX7_takeDigit.cls k n' ci nn T' := by
  intro k n' ci T' h
  unfold ca_X7_takeDigit at h
  split at h
  · cases h; exact ⟨0, by decide, _, _, _, _, k_X7_next2 l, Or.inl ⟨_, rfl, FX7_next, KRX7_269⟩⟩
  · cases h; exact ⟨0, by decide, _, _, _, _, k_X7_in2 l, Or.inr ⟨rfl, FX7_in, Or.inl ⟨rfl, KRX7_87⟩⟩⟩
  · cases h
def T_X7_takeDigit : Tr := fun a σ K => match a with
  | [.inr (.inl (7, 0)), .inl s] => (0 ≤ σ 7 0 20 ∧ σ 7 0 20 ≤ xL σ ∧ xL σ ≤ 80 ∧ (σ 7 0 21 = 0 ∨ σ 7 0 21 = 1) ∧ 0 ≤ s ∧ s < 16) ∧ (σ 7 0 21 = 0 ∧ 0 ≤ dg (xT σ) (xL σ) (σ 7 0 20) ∧ dg (xT σ) (xL σ) (σ 7 0 20) < 4 ∧ ¬ hasB s (dg (xT σ) (xL σ) (σ 7 0 20)) → ∀ σ', FrG pSp σ σ' → σ' 7 0 20 = σ 7 0 20 + 1 → σ' 7 0 21 = 0 → K (some (dg (xT σ) (xL σ) (σ 7 0 20))) σ') ∧ (¬ (σ 7 0 21 = 0 ∧ 0 ≤ dg (xT σ) (xL σ) (σ 7 0 20) ∧ dg (xT σ) (xL σ) (σ 7 0 20) < 4 ∧ ¬ hasB s (dg (xT σ) (xL σ) (σ 7 0 20))) → ∀ σ', FrG pSp σ σ' → σ' 7 0 20 = σ 7 0 20 → σ' 7 0 21 = 1 → K (some 0) σ')
  | _ => False
set_option maxHeartbeats 4000000 in
set_option maxRecDepth 20000 in
theorem k_X7_takeDigit (l : Launch) : Ct l yX7_takeDigit cX7_takeDigit 2 (some .int) 1 T_X7_takeDigit := by
  refine mk_met (by decide +kernel) hCX7_takeDigit lCX7_takeDigit frX7_ok cstX7_ok (cao_X7_takeDigit l) ?_ ?_
  · intro a σ K h
    unfold T_X7_takeDigit at h
    split at h
    · simp [eL]
    · exact h.elim
  · intro a σ K ha hR h
    unfold T_X7_takeDigit at h
    split at h
    · rename_i s
      refine ⟨fun _ => none, 200, fun pc I L S σ' k h => (by cases h), ?_⟩
      simp only [wp, stp, drp, entL, eL, lget, lset, okst, cnd, swt, rcv, Kr_int, Kr_bool, Kr_void, List.length_cons, List.length_nil, List.replicate, List.append_nil, List.cons_append, List.nil_append, List.take_succ_cons, List.take_zero, List.drop_succ_cons, List.drop_zero, List.reverse_cons, List.reverse_nil, Option.map_some, Option.map_none, Option.toList_some, Option.toList_none, Nat.reduceAdd, Nat.reduceSub, Nat.reduceLT, Nat.reduceLeDiff, Nat.reduceEqDiff, ↓reduceIte, Nat.add_zero, Nat.zero_add, true_and, and_true, Nat.le_refl, reduceCtorEq, false_implies, true_implies, not_true_eq_false, not_false_eq_true, Int.reduceAdd, Int.reduceSub, Int.reduceMul, Int.reduceLE, Int.reduceLT, Int.reduceEq, Int.reduceNe, Int.reduceNeg, Int.reduceDiv, Int.reduceMod, Bool.false_eq_true, Int.le_refl, and_self, true_or, or_true, inR_l, fv0, fv1, fv2, fv3, nc2, nc4, nc6, nc16, nc25, nc60, nc65, nc80, nc130, nc384, nc390, fp_0_0, fp_0_1, fp_0_2, fp_1_0, fp_1_1, fp_1_2, fp_1_3, fp_1_4, fp_1_5, fp_1_6, fp_1_7, fp_1_8, fp_1_9, fp_1_10, fp_1_11, fp_1_12, fp_1_13, fp_1_14, fp_2_0, fp_2_1, fp_2_2, fp_2_3, fp_3_0, fp_3_1, fp_4_0, fp_4_1, fp_4_2, fp_4_3, fp_4_4, fp_4_5, fp_4_6, fp_4_7, fp_5_0, fp_5_1, fp_5_2, fp_5_3, fp_5_4, fp_5_5, fp_5_6, fp_5_7, fp_6_0, fp_6_1, fp_6_2, fp_6_3, fp_6_4, fp_6_5, fp_6_6, fp_6_7, fp_6_8, fp_6_9, fp_6_10, fp_6_11, fp_6_12, fp_6_13, fp_6_14, fp_6_15, fp_7_0, fp_7_1, fp_7_2, fp_7_3, fp_7_4, fp_7_5, fp_7_6, fp_7_7, fp_7_8, fp_7_9, fp_7_10, fp_7_11, fp_7_12, fp_7_13, fp_7_14, fp_7_15, fp_7_16, fp_7_17, fp_7_18, fp_7_19, fp_7_20, fp_7_21, fp_7_22, fp_7_23, fp_7_24, iz_0_1, iz_0_2, iz_1_8, iz_1_9, iz_1_11, iz_2_1, iz_2_2, iz_2_3, iz_3_1, iz_4_1, iz_4_2, iz_5_0, iz_6_8, iz_6_9, iz_6_13, iz_6_14, iz_6_15, iz_7_2, iz_7_6, iz_7_12, iz_7_20, iz_7_21, iz_7_23, iz_7_24, ak_8, ak_9, ak_10, ak_11, ak_12, ak_13, ak_14, ak_15, ak_16, ak_17, ak_18, ak_19, ak_20, ak_21, ak_22, ak_23, ak_24, ak_25, ak_26, ak_27, ak_28, ak_29, ak_30, ak_31, ak_32, ak_33, ak_34, ak_35, ak_36, ak_37, ak_38, ak_39, ak_40, ak_41, ak_42, ak_43, ak_44, ak_45, ak_46, ak_47, ak_48, ak_49, ak_50, ak_51, ak_52, ak_53, ak_54, ak_55, ak_56, el31, el33, el34, CX7_takeDigit, ca_X7_takeDigit, frX7, kcX7, klX7, T_X7_next2, T_X7_in2, up_ap, false_and, and_false, if_false, if_true, ite_true, ite_false, xT_up, xL_20, xL_21]
      obtain ⟨⟨p1, p2, p3, p4, p5, p6⟩, h1, h0⟩ := h
      have KB : ¬ (σ 7 0 21 = 0 ∧ 0 ≤ dg (xT σ) (xL σ) (σ 7 0 20) ∧ dg (xT σ) (xL σ) (σ 7 0 20) < 4 ∧ ¬ hasB s (dg (xT σ) (xL σ) (σ 7 0 20))) → K (some 0) (up σ 7 0 21 1) := fun z => h0 z _ (FrG.r.u ⟨rfl, rfl, Or.inr rfl⟩) (by simp [up_ap]) (by simp [up_ap])
      have hd := dg_r (xT σ) (xL σ) (σ 7 0 20)
      refine ⟨fun a => KB (fun z => a z.1), fun a => ⟨⟨p1, p3⟩, fun b => ?_, fun b => KB (fun z => by have := dg_nx z.2.1; omega)⟩⟩
      have e := nx_dg2 (tx := xT σ) (n := xL σ) (a := σ 7 0 20) ⟨b.1, by omega⟩
      have hlt := dg_lt (tx := xT σ) (n := xL σ) (a := σ 7 0 20) (by omega)
      have ev : σ 42 0 (σ 7 0 20) = nx (xT σ) (xL σ) (σ 7 0 20) := by
        unfold nx
        rw [if_pos hlt]
        rfl
      rw [show σ 7 0 20 + 1 - 1 = σ 7 0 20 by omega, ev, ← e]
      have hB := isB p5 p6 (j := dg (xT σ) (xL σ) (σ 7 0 20)) (by omega) (by omega)
      refine ⟨⟨p1, p3⟩, by simp only [inR]; omega, fun c => ⟨by simp only [inR]; omega, by simp only [inR]; omega, ⟨by omega, by omega⟩, by simp only [inR]; omega, h1 ⟨by omega, by omega, by omega, fun z => c (hB.mpr z)⟩ _ ((FrG.r.u ⟨rfl, rfl, Or.inr rfl⟩).u ⟨rfl, rfl, Or.inl rfl⟩) (by simp [up_ap]) (by simp [up_ap])⟩, fun c => KB (fun z => z.2.2.2 (hB.mp (Classical.not_not.mp c)))⟩
    · exact h.elim
def ca_X7_takeNumber : Nat → Option (Nat × Nat × Tr)
  | 269 => some (1, 7, T_X7_next2)
  | 87 => some (3, 99, T_X7_in2)
  | _ => none
theorem cao_X7_takeNumber (l : Launch) : ∀ k n' ci T', ca_X7_takeNumber k = some (n', ci, T') → ∃ nn, nn + 1 ≤ 1 ∧ Site l yX7_takeNumber.cls k n' ci nn T' := by
  intro k n' ci T' h
  unfold ca_X7_takeNumber at h
  split at h
  · cases h; exact ⟨0, by decide, _, _, _, _, k_X7_next2 l, Or.inl ⟨_, rfl, FX7_next, KRX7_269⟩⟩
  · cases h; exact ⟨0, by decide, _, _, _, _, k_X7_in2 l, Or.inr ⟨rfl, FX7_in, Or.inl ⟨rfl, KRX7_87⟩⟩⟩
  · cases h
def T_X7_takeNumber : Tr := fun a σ K => match a with
  | [.inr (.inl (7, 0)), .inl lo, .inl hi] => (0 ≤ σ 7 0 20 ∧ σ 7 0 20 ≤ xL σ ∧ xL σ ≤ 80 ∧ (σ 7 0 21 = 0 ∨ σ 7 0 21 = 1) ∧ (lo = 0 ∨ lo = 1) ∧ 9 ≤ hi ∧ hi ≤ 1000) ∧ (σ 7 0 21 = 0 ∧ (numS (xT σ) (xL σ) lo hi (σ 7 0 20)).2.2 ≠ 1 → ∀ σ', FrG pSp σ σ' → σ' 7 0 20 = (numS (xT σ) (xL σ) lo hi (σ 7 0 20)).2.1 → σ' 7 0 21 = 0 → K (some (numS (xT σ) (xL σ) lo hi (σ 7 0 20)).1) σ') ∧ (¬ (σ 7 0 21 = 0 ∧ (numS (xT σ) (xL σ) lo hi (σ 7 0 20)).2.2 ≠ 1) → ∀ σ', FrG pSp σ σ' → σ' 7 0 20 = σ 7 0 20 → σ' 7 0 21 = 1 → K (some 0) σ')
  | _ => False
set_option maxHeartbeats 8000000 in
set_option maxRecDepth 20000 in
theorem k_X7_takeNumber (l : Launch) : Ct l yX7_takeNumber cX7_takeNumber 4 (some .int) 1 T_X7_takeNumber := by
  refine mk_met (by decide +kernel) hCX7_takeNumber lCX7_takeNumber frX7_ok cstX7_ok (cao_X7_takeNumber l) ?_ ?_
  · intro a σ K h
    unfold T_X7_takeNumber at h
    split at h
    · simp [eL]
    · exact h.elim
  · intro a σ K ha hR h
    unfold T_X7_takeNumber at h
    split at h
    · rename_i lo hi
      refine ⟨fun pc => if pc = 66 then some (fun L S σ' k => match L, S with | [some (.inr (.inl c1)), some (.inl lo'), some (.inl hi'), some (.inl v)], [] => (c1 = (7, 0) ∧ lo' = lo ∧ hi' = hi ∧ σ 7 0 21 = 0 ∧ NLx σ σ' hi lo v) ∧ k = (200 - σ' 7 0 20).toNat | _, _ => False) else none, 200, ?_, ?_⟩
      · intro pc I L S σ' k hcut hi
        dsimp only at hcut
        split at hcut
        · rename_i hpc
          subst hpc
          cases hcut
          try dsimp only at hi
          split at hi
          · rename_i c1 lo' hi' v
            obtain ⟨hi, rfl⟩ := hi
            obtain ⟨rfl, rfl, rfl, W0, hI⟩ := hi
            simp only [wp, stp, drp, entL, eL, lget, lset, okst, cnd, swt, rcv, Kr_int, Kr_bool, Kr_void, List.length_cons, List.length_nil, List.replicate, List.append_nil, List.cons_append, List.nil_append, List.take_succ_cons, List.take_zero, List.drop_succ_cons, List.drop_zero, List.reverse_cons, List.reverse_nil, Option.map_some, Option.map_none, Option.toList_some, Option.toList_none, Nat.reduceAdd, Nat.reduceSub, Nat.reduceLT, Nat.reduceLeDiff, Nat.reduceEqDiff, ↓reduceIte, Nat.add_zero, Nat.zero_add, true_and, and_true, Nat.le_refl, reduceCtorEq, false_implies, true_implies, not_true_eq_false, not_false_eq_true, Int.reduceAdd, Int.reduceSub, Int.reduceMul, Int.reduceLE, Int.reduceLT, Int.reduceEq, Int.reduceNe, Int.reduceNeg, Int.reduceDiv, Int.reduceMod, Bool.false_eq_true, Int.le_refl, and_self, true_or, or_true, inR_l, fv0, fv1, fv2, fv3, nc2, nc4, nc6, nc16, nc25, nc60, nc65, nc80, nc130, nc384, nc390, fp_0_0, fp_0_1, fp_0_2, fp_1_0, fp_1_1, fp_1_2, fp_1_3, fp_1_4, fp_1_5, fp_1_6, fp_1_7, fp_1_8, fp_1_9, fp_1_10, fp_1_11, fp_1_12, fp_1_13, fp_1_14, fp_2_0, fp_2_1, fp_2_2, fp_2_3, fp_3_0, fp_3_1, fp_4_0, fp_4_1, fp_4_2, fp_4_3, fp_4_4, fp_4_5, fp_4_6, fp_4_7, fp_5_0, fp_5_1, fp_5_2, fp_5_3, fp_5_4, fp_5_5, fp_5_6, fp_5_7, fp_6_0, fp_6_1, fp_6_2, fp_6_3, fp_6_4, fp_6_5, fp_6_6, fp_6_7, fp_6_8, fp_6_9, fp_6_10, fp_6_11, fp_6_12, fp_6_13, fp_6_14, fp_6_15, fp_7_0, fp_7_1, fp_7_2, fp_7_3, fp_7_4, fp_7_5, fp_7_6, fp_7_7, fp_7_8, fp_7_9, fp_7_10, fp_7_11, fp_7_12, fp_7_13, fp_7_14, fp_7_15, fp_7_16, fp_7_17, fp_7_18, fp_7_19, fp_7_20, fp_7_21, fp_7_22, fp_7_23, fp_7_24, iz_0_1, iz_0_2, iz_1_8, iz_1_9, iz_1_11, iz_2_1, iz_2_2, iz_2_3, iz_3_1, iz_4_1, iz_4_2, iz_5_0, iz_6_8, iz_6_9, iz_6_13, iz_6_14, iz_6_15, iz_7_2, iz_7_6, iz_7_12, iz_7_20, iz_7_21, iz_7_23, iz_7_24, ak_8, ak_9, ak_10, ak_11, ak_12, ak_13, ak_14, ak_15, ak_16, ak_17, ak_18, ak_19, ak_20, ak_21, ak_22, ak_23, ak_24, ak_25, ak_26, ak_27, ak_28, ak_29, ak_30, ak_31, ak_32, ak_33, ak_34, ak_35, ak_36, ak_37, ak_38, ak_39, ak_40, ak_41, ak_42, ak_43, ak_44, ak_45, ak_46, ak_47, ak_48, ak_49, ak_50, ak_51, ak_52, ak_53, ak_54, ak_55, ak_56, el31, el33, el34, CX7_takeNumber, ca_X7_takeNumber, frX7, kcX7, klX7, T_X7_next2, T_X7_in2, up_ap, false_and, and_false, if_false, if_true, ite_true, ite_false, xT_up, xL_20, xL_21, exists_eq_right_right, exists_eq_right, exists_eq_left, Nat.lt_irrefl, and_self, implies_true, forall_const]
            obtain ⟨⟨p1, p2, p3, p4, p5, p6, p7⟩, h1, h0⟩ := h
            have hc := pSp_c hI.1
            rw [hc.1, hc.2]
            obtain ⟨e1, e2, e3⟩ := NLx_e hI p3
            have KG : ∀ s', numS (xT σ) (xL σ) lo' hi' (σ 7 0 20) = (v, σ' 7 0 20, s') → s' ≠ 1 → K (some v) σ' := fun s' e hs => by
              have := h1 ⟨W0, by rw [e]; exact hs⟩ σ' hI.1 (by rw [e]) hI.2.1
              rw [e] at this
              exact this
            have b2 := hI.2.2.1
            have b3 := hI.2.2.2.1
            have b4 := hI.2.2.2.2.1
            have b5 := hI.2.2.2.2.2.1
            refine ⟨fun a => KG 0 (e1 (Or.inl a)) (by omega), fun a => ⟨⟨by omega, p3⟩, fun b => ?_, fun b => KG 0 (e1 (Or.inr (Classical.not_not.mp (fun z => b (nx_dg.mpr z))))) (by omega)⟩⟩
            have hr := dg_r (xT σ) (xL σ) (σ' 7 0 20)
            have e := nx_dg2 b
            have nn : ¬ (v ≤ 0 ∨ dg (xT σ) (xL σ) (σ' 7 0 20) = -6) := by omega
            have e' : 10 * v + nx (xT σ) (xL σ) (σ' 7 0 20) - 48 = 10 * v + dg (xT σ) (xL σ) (σ' 7 0 20) := by omega
            rw [e']
            refine ⟨by simp only [inR]; omega, ⟨by omega, p3⟩, by simp only [inR]; omega, by simp only [inR]; omega, fun c => KG 2 (e2 nn c) (by omega), fun c => ?_⟩
            obtain ⟨e4, e5⟩ := e3 nn c
            exact ⟨by simp only [inR]; omega, ⟨by omega, p3⟩, by simp only [inR]; omega, by simp only [inR]; omega, by simp only [inR]; omega, by omega, W0, e5⟩
          · exact hi.elim
        · cases hcut
      · simp only [wp, stp, drp, entL, eL, lget, lset, okst, cnd, swt, rcv, Kr_int, Kr_bool, Kr_void, List.length_cons, List.length_nil, List.replicate, List.append_nil, List.cons_append, List.nil_append, List.take_succ_cons, List.take_zero, List.drop_succ_cons, List.drop_zero, List.reverse_cons, List.reverse_nil, Option.map_some, Option.map_none, Option.toList_some, Option.toList_none, Nat.reduceAdd, Nat.reduceSub, Nat.reduceLT, Nat.reduceLeDiff, Nat.reduceEqDiff, ↓reduceIte, Nat.add_zero, Nat.zero_add, true_and, and_true, Nat.le_refl, reduceCtorEq, false_implies, true_implies, not_true_eq_false, not_false_eq_true, Int.reduceAdd, Int.reduceSub, Int.reduceMul, Int.reduceLE, Int.reduceLT, Int.reduceEq, Int.reduceNe, Int.reduceNeg, Int.reduceDiv, Int.reduceMod, Bool.false_eq_true, Int.le_refl, and_self, true_or, or_true, inR_l, fv0, fv1, fv2, fv3, nc2, nc4, nc6, nc16, nc25, nc60, nc65, nc80, nc130, nc384, nc390, fp_0_0, fp_0_1, fp_0_2, fp_1_0, fp_1_1, fp_1_2, fp_1_3, fp_1_4, fp_1_5, fp_1_6, fp_1_7, fp_1_8, fp_1_9, fp_1_10, fp_1_11, fp_1_12, fp_1_13, fp_1_14, fp_2_0, fp_2_1, fp_2_2, fp_2_3, fp_3_0, fp_3_1, fp_4_0, fp_4_1, fp_4_2, fp_4_3, fp_4_4, fp_4_5, fp_4_6, fp_4_7, fp_5_0, fp_5_1, fp_5_2, fp_5_3, fp_5_4, fp_5_5, fp_5_6, fp_5_7, fp_6_0, fp_6_1, fp_6_2, fp_6_3, fp_6_4, fp_6_5, fp_6_6, fp_6_7, fp_6_8, fp_6_9, fp_6_10, fp_6_11, fp_6_12, fp_6_13, fp_6_14, fp_6_15, fp_7_0, fp_7_1, fp_7_2, fp_7_3, fp_7_4, fp_7_5, fp_7_6, fp_7_7, fp_7_8, fp_7_9, fp_7_10, fp_7_11, fp_7_12, fp_7_13, fp_7_14, fp_7_15, fp_7_16, fp_7_17, fp_7_18, fp_7_19, fp_7_20, fp_7_21, fp_7_22, fp_7_23, fp_7_24, iz_0_1, iz_0_2, iz_1_8, iz_1_9, iz_1_11, iz_2_1, iz_2_2, iz_2_3, iz_3_1, iz_4_1, iz_4_2, iz_5_0, iz_6_8, iz_6_9, iz_6_13, iz_6_14, iz_6_15, iz_7_2, iz_7_6, iz_7_12, iz_7_20, iz_7_21, iz_7_23, iz_7_24, ak_8, ak_9, ak_10, ak_11, ak_12, ak_13, ak_14, ak_15, ak_16, ak_17, ak_18, ak_19, ak_20, ak_21, ak_22, ak_23, ak_24, ak_25, ak_26, ak_27, ak_28, ak_29, ak_30, ak_31, ak_32, ak_33, ak_34, ak_35, ak_36, ak_37, ak_38, ak_39, ak_40, ak_41, ak_42, ak_43, ak_44, ak_45, ak_46, ak_47, ak_48, ak_49, ak_50, ak_51, ak_52, ak_53, ak_54, ak_55, ak_56, el31, el33, el34, CX7_takeNumber, ca_X7_takeNumber, frX7, kcX7, klX7, T_X7_next2, T_X7_in2, up_ap, false_and, and_false, if_false, if_true, ite_true, ite_false, xT_up, xL_20, xL_21, exists_eq_right_right, exists_eq_right, exists_eq_left, Nat.lt_irrefl, and_self, implies_true, forall_const]
        obtain ⟨⟨p1, p2, p3, p4, p5, p6, p7⟩, h1, h0⟩ := h
        have KB : ¬ (σ 7 0 21 = 0 ∧ (numS (xT σ) (xL σ) lo hi (σ 7 0 20)).2.2 ≠ 1) → K (some 0) (up σ 7 0 21 1) := fun z => h0 z _ (FrG.r.u ⟨rfl, rfl, Or.inr rfl⟩) (by simp [up_ap]) (by simp [up_ap])
        have KB2 : dg (xT σ) (xL σ) (σ 7 0 20) < lo → K (some 0) (up σ 7 0 21 1) := fun z => KB (fun y => y.2 ((numS_s1 p6).mpr z))
        have hd := dg_r (xT σ) (xL σ) (σ 7 0 20)
        have KG : ¬ σ 7 0 21 ≠ 0 → (48 ≤ nx (xT σ) (xL σ) (σ 7 0 20) ∧ nx (xT σ) (xL σ) (σ 7 0 20) ≤ 57) → ¬ nx (xT σ) (xL σ) (σ 7 0 20) - 48 < lo → (0 ≤ σ 7 0 20 ∧ xL σ ≤ 80) ∧ inR (nx (xT σ) (xL σ) (σ 7 0 20) - 48) ∧ inR (σ 7 0 20 + 1) ∧ σ 7 0 21 = 0 ∧ NLx σ (up (up σ 7 0 21 0) 7 0 20 (σ 7 0 20 + 1)) hi lo (nx (xT σ) (xL σ) (σ 7 0 20) - 48) := fun w b c => by
          have e := nx_dg2 b
          rw [← e] at c ⊢
          exact ⟨⟨p1, p3⟩, by simp only [inR]; omega, by simp only [inR]; omega, by omega, NLx_0 rfl p2 p1 (by omega) c (by omega)⟩
        have hn : ¬ (48 ≤ nx (xT σ) (xL σ) (σ 7 0 20) ∧ nx (xT σ) (xL σ) (σ 7 0 20) ≤ 57) → dg (xT σ) (xL σ) (σ 7 0 20) = -6 := fun z => Classical.not_not.mp (fun y => z (nx_dg.mpr y))
        refine ⟨fun a => KB (fun z => a z.1), fun a => ⟨⟨p1, p3⟩, fun b => ⟨fun c => KG a c (by omega), fun c => KB2 (by have := hn c; omega)⟩, fun b => ⟨fun c => KG a ⟨by omega, c.2⟩ (by omega), fun c => KB2 ?_⟩⟩⟩
        by_cases z : 48 ≤ nx (xT σ) (xL σ) (σ 7 0 20) ∧ nx (xT σ) (xL σ) (σ 7 0 20) ≤ 57
        · have := nx_dg2 z
          omega
        · have := hn z
          omega
    · exact h.elim
