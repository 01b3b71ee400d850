theorem k_X5_addOperation2 (l : Launch) : Ct l yX5_addOperation cX5_addOperation 5 (some .int) 1 T_X5_addOperation2 := Ct_mono (k_X5_addOperation l) m_X5_addOperation2
def ca_X2_readOperation : Nat → Option (Nat × Nat × Tr)
  | 49 => some (1, 2, T_X2_digit2)
  | 53 => some (3, 5, T_X5_operationOf)
  | 34 => some (2, 2, T_X2_take2)
  | 38 => some (3, 2, T_X2_number2)
  | 56 => some (4, 5, T_X5_addOperation2)
  | _ => none
theorem cao_X2_readOperation (l : Launch) : ∀ k n' ci T', ca_X2_readOperation k = some (n', ci, T') → ∃ nn, nn + 1 ≤ 2 ∧ Site l yX2_readOperation.cls k n' ci nn T' := by
  intro k n' ci T' h
  unfold ca_X2_readOperation at h
  split at h
  · cases h; exact ⟨0, by decide, _, _, _, _, k_X2_digit2 l, Or.inl ⟨_, rfl, FX2_digit, KRX2_49⟩⟩
  · cases h; exact ⟨0, by decide, _, _, _, _, k_X5_operationOf l, Or.inl ⟨_, rfl, FX5_operationOf, KRX2_53⟩⟩
  · cases h; exact ⟨0, by decide, _, _, _, _, k_X2_take2 l, Or.inl ⟨_, rfl, FX2_take, KRX2_34⟩⟩
  · cases h; exact ⟨1, by decide, _, _, _, _, k_X2_number2 l, Or.inl ⟨_, rfl, FX2_number, KRX2_38⟩⟩
  · cases h; exact ⟨1, by decide, _, _, _, _, k_X5_addOperation2 l, Or.inl ⟨_, rfl, FX5_addOperation, KRX2_56⟩⟩
  · cases h
def T_X2_readOperation : Tr := fun a σ K => match a with
  | [.inr (.inl (2, 0)), .inr (.inl (5, i)), .inl j] => ∃ Rs Q c, (0 ≤ σ 2 0 2 ∧ σ 2 0 2 ≤ cL σ ∧ cL σ ≤ 80 ∧ DR σ i j Rs Q c) ∧ ((op1 (cT σ) (cL σ) Q c (σ 2 0 2)).1 ≠ 0 → ∀ σ', FrG (pRd i) σ σ' → σ' 2 0 2 = (op1 (cT σ) (cL σ) Q c (σ 2 0 2)).2.1 → K (some 0) σ') ∧ ((op1 (cT σ) (cL σ) Q c (σ 2 0 2)).1 = 0 → ∀ σ', FrG (pRd i) σ σ' → σ' 2 0 2 = (op1 (cT σ) (cL σ) Q c (σ 2 0 2)).2.1 → DR σ' i j Rs (uR Q c (op1 (cT σ) (cL σ) Q c (σ 2 0 2)).2.2.1 (op1 (cT σ) (cL σ) Q c (σ 2 0 2)).2.2.2) (c + 1) → K (some 1) σ')
  | _ => False
set_option maxHeartbeats 4000000 in
set_option maxRecDepth 20000 in
theorem k_X2_readOperation (l : Launch) : Ct l yX2_readOperation cX2_readOperation 5 (some .boolean) 2 T_X2_readOperation := by
  refine mk_met (by decide +kernel) hCX2_readOperation lCX2_readOperation frX2_ok cstX2_ok (cao_X2_readOperation l) ?_ ?_
  · intro a σ K h
    unfold T_X2_readOperation at h
    split at h
    · simp [eL]
    · exact h.elim
  · intro a σ K ha hR h
    unfold T_X2_readOperation at h
    split at h
    · rename_i i j
      refine ⟨fun _ => none, 200, fun pc I L S σ' k h => (by cases h), ?_⟩
      simp only [wp, stp, drp, entL, eL, lget, lset, okst, cnd, swt, rcv, Kr_int, Kr_bool, Kr_void, List.length_cons, List.length_nil, List.replicate, List.append_nil, List.cons_append, List.nil_append, List.take_succ_cons, List.take_zero, List.drop_succ_cons, List.drop_zero, List.reverse_cons, List.reverse_nil, Option.map_some, Option.map_none, Option.toList_some, Option.toList_none, Nat.reduceAdd, Nat.reduceSub, Nat.reduceLT, Nat.reduceLeDiff, Nat.reduceEqDiff, ↓reduceIte, Nat.add_zero, Nat.zero_add, true_and, and_true, Nat.le_refl, reduceCtorEq, false_implies, true_implies, not_true_eq_false, not_false_eq_true, Int.reduceAdd, Int.reduceSub, Int.reduceMul, Int.reduceLE, Int.reduceLT, Int.reduceEq, Int.reduceNe, Int.reduceNeg, Int.reduceDiv, Int.reduceMod, Bool.false_eq_true, Int.le_refl, and_self, true_or, or_true, inR_l, fv0, fv1, fv2, fv3, nc2, nc4, nc6, nc16, nc25, nc60, nc65, nc80, nc130, nc384, nc390, fp_0_0, fp_0_1, fp_0_2, fp_1_0, fp_1_1, fp_1_2, fp_1_3, fp_1_4, fp_1_5, fp_1_6, fp_1_7, fp_1_8, fp_1_9, fp_1_10, fp_1_11, fp_1_12, fp_1_13, fp_1_14, fp_2_0, fp_2_1, fp_2_2, fp_2_3, fp_3_0, fp_3_1, fp_4_0, fp_4_1, fp_4_2, fp_4_3, fp_4_4, fp_4_5, fp_4_6, fp_4_7, fp_5_0, fp_5_1, fp_5_2, fp_5_3, fp_5_4, fp_5_5, fp_5_6, fp_5_7, fp_6_0, fp_6_1, fp_6_2, fp_6_3, fp_6_4, fp_6_5, fp_6_6, fp_6_7, fp_6_8, fp_6_9, fp_6_10, fp_6_11, fp_6_12, fp_6_13, fp_6_14, fp_6_15, fp_7_0, fp_7_1, fp_7_2, fp_7_3, fp_7_4, fp_7_5, fp_7_6, fp_7_7, fp_7_8, fp_7_9, fp_7_10, fp_7_11, fp_7_12, fp_7_13, fp_7_14, fp_7_15, fp_7_16, fp_7_17, fp_7_18, fp_7_19, fp_7_20, fp_7_21, fp_7_22, fp_7_23, fp_7_24, iz_0_1, iz_0_2, iz_1_8, iz_1_9, iz_1_11, iz_2_1, iz_2_2, iz_2_3, iz_3_1, iz_4_1, iz_4_2, iz_5_0, iz_6_8, iz_6_9, iz_6_13, iz_6_14, iz_6_15, iz_7_2, iz_7_6, iz_7_12, iz_7_20, iz_7_21, iz_7_23, iz_7_24, ak_8, ak_9, ak_10, ak_11, ak_12, ak_13, ak_14, ak_15, ak_16, ak_17, ak_18, ak_19, ak_20, ak_21, ak_22, ak_23, ak_24, ak_25, ak_26, ak_27, ak_28, ak_29, ak_30, ak_31, ak_32, ak_33, ak_34, ak_35, ak_36, ak_37, ak_38, ak_39, ak_40, ak_41, ak_42, ak_43, ak_44, ak_45, ak_46, ak_47, ak_48, ak_49, ak_50, ak_51, ak_52, ak_53, ak_54, ak_55, ak_56, el31, el33, el34, CX2_readOperation, ca_X2_readOperation, frX2, kcX2, klX2, T_X2_digit2, T_X5_operationOf, T_X2_take2, T_X2_number2, T_X5_addOperation2, up_ap, false_and, and_false, if_false, if_true, ite_true, ite_false, cT_up, cLn_up]
      obtain ⟨Rs, Q, c, ⟨p1, p2, p3, p4⟩, hb, hg⟩ := h
      have hd := dg_r (cT σ) (cL σ) (σ 2 0 2)
      have hdd := DR_dup (d := dg (cT σ) (cL σ) (σ 2 0 2)) p4
      have hj : 0 ≤ j ∧ j < 4 := ⟨p4.2.2.1, by have := p4.1.1; have := p4.2.1; omega⟩
      have hst := p4.1.2.1 j hj.1 hj.2
      have B0 : (dg (cT σ) (cL σ) (σ 2 0 2) < 0 ∨ 4 ≤ dg (cT σ) (cL σ) (σ 2 0 2) ∨ dup Q c (dg (cT σ) (cL σ) (σ 2 0 2))) → K (some 0) σ := fun q => by
        have e : op1 (cT σ) (cL σ) Q c (σ 2 0 2) = (1, σ 2 0 2, 0, 0) := by
          unfold op1
          exact cif_1 q
        exact hb (by rw [e]; show (1 : Int) ≠ 0; omega) σ FrG.r (by rw [e])
      refine ⟨⟨p1, p3⟩, fun a => B0 (Or.inl (by omega)), fun a => ⟨fun b => B0 (Or.inr (Or.inl b)), fun b => ⟨⟨hj.1, hj.2, hst.2.1⟩, fun e => ?_, fun e => B0 (Or.inr (Or.inr (Classical.not_not.mp (fun z => e (hdd.mpr z)))))⟩⟩⟩
      have nd := hdd.mp e
      have nbad : ¬ (dg (cT σ) (cL σ) (σ 2 0 2) < 0 ∨ 4 ≤ dg (cT σ) (cL σ) (σ 2 0 2) ∨ dup Q c (dg (cT σ) (cL σ) (σ 2 0 2))) := by
        rintro (q | q | q)
        · omega
        · omega
        · exact nd q
      have hD : 0 ≤ dg (cT σ) (cL σ) (σ 2 0 2) ∧ dg (cT σ) (cL σ) (σ 2 0 2) < 4 ∧ σ 2 0 2 < cL σ := by
        rcases hd with q | q
        · exact absurd q a
        · exact ⟨q.1, by omega, q.2.2⟩
      have F0 : FrG pPd σ (up σ 2 0 2 (σ 2 0 2 + 1)) := FrG.r.u ⟨rfl, rfl, rfl⟩
      refine ⟨⟨by omega, by omega⟩, ⟨by omega, p3⟩, fun e42 σ1 f1 a1 => ?_, fun e42 => ?_⟩
      · have F1 : FrG pPd σ σ1 := F0.t f1
        have hc := pPd_c F1
        have e2 : σ 2 0 2 + 1 + 1 = σ 2 0 2 + 2 := by omega
        have h42 := nx_lt e42 (by omega)
        have nr := numS_r (cT σ) (n := cL σ) (lo := 1) (hi := 20) (a := σ 2 0 2 + 2) (by omega) (by omega) (by omega)
        rw [hc.1, hc.2, a1, e2]
        refine ⟨⟨by omega, by omega, p3⟩, fun s0 σ2 f2 a2 => ?_, fun s0 σ2 f2 a2 => ?_⟩
        · have eo : op1 (cT σ) (cL σ) Q c (σ 2 0 2) = (0, (numS (cT σ) (cL σ) 1 20 (σ 2 0 2 + 2)).2.1, dg (cT σ) (cL σ) (σ 2 0 2), (numS (cT σ) (cL σ) 1 20 (σ 2 0 2 + 2)).1) := by
            unfold op1
            rw [cif_0 nbad, cif_0 (fun z => z e42), cif_0 (fun z => z s0)]
          have F2 := F1.t f2
          have D2 := DR_cg F2 p4
          have v0 := nr.2.2.2.2.2 (by omega)
          have v1 := nr.2.2.2.2.1
          have key := fun σ3 hs => DR_op (σ' := σ3) D2 hD.1 hD.2.1 nd v0 v1 hs
          have k0 := key _ rfl
          have e10 := D2.2.2.2.1
          refine ⟨fun q => absurd q (by omega), fun _ => ⟨⟨hj.1, hj.2, hD.1, hD.2.1, by omega, by omega, k0.2.2.2.1, k0.2.2.1⟩, fun σ3 hs => ⟨fun q => absurd q (by omega), fun _ => hg (by rw [eo]) σ3 ?_ ?_ ?_⟩⟩⟩
          · rw [hs]
            exact ((((((pPd.R F2).u (Or.inr ⟨rfl, by omega⟩)).u (Or.inr ⟨rfl, by omega⟩)).u (Or.inr ⟨rfl, by omega⟩)).u (Or.inr ⟨rfl, by omega⟩)).u (Or.inr ⟨rfl, by omega⟩))
          · rw [hs, eo]
            simp [up_ap]
            exact a2
          · rw [eo]
            exact (key σ3 hs).1
        · have eo : op1 (cT σ) (cL σ) Q c (σ 2 0 2) = (1, (numS (cT σ) (cL σ) 1 20 (σ 2 0 2 + 2)).2.1, 0, 0) := by
            unfold op1
            rw [cif_0 nbad, cif_0 (fun z => z e42), cif_1 s0]
          exact hb (by rw [eo]; show (1 : Int) ≠ 0; omega) σ2 (pPd.R (F1.t f2)) (by rw [eo]; exact a2)
      · have eo : op1 (cT σ) (cL σ) Q c (σ 2 0 2) = (1, σ 2 0 2 + 1, 0, 0) := by
          unfold op1
          rw [cif_0 nbad, cif_1 e42]
        exact hb (by rw [eo]; show (1 : Int) ≠ 0; omega) _ (pPd.R F0) (by rw [eo, up_ap, if_pos ⟨rfl, rfl, rfl⟩])
    · exact h.elim
