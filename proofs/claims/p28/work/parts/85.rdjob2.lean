theorem k_X5_addJob2 (l : Launch) : Ct l yX5_addJob cX5_addJob 3 (some .int) 0 T_X5_addJob2 := Ct_mono (k_X5_addJob l) m_X5_addJob2
def ca_X2_readJob : Nat → Option (Nat × Nat × Tr)
  | 34 => some (2, 2, T_X2_take2)
  | 38 => some (3, 2, T_X2_number2)
  | 42 => some (3, 5, T_X5_addJob2)
  | 45 => some (3, 2, T_X2_readOperation)
  | _ => none
theorem cao_X2_readJob (l : Launch) : ∀ k n' ci T', ca_X2_readJob k = some (n', ci, T') → ∃ nn, nn + 1 ≤ 3 ∧ Site l yX2_readJob.cls k n' ci nn T' := by
  intro k n' ci T' h
  unfold ca_X2_readJob at h
  split at h
  · cases h; exact ⟨0, by decide, _, _, _, _, k_X2_take2 l, Or.inl ⟨_, rfl, FX2_take, KRX2_34⟩⟩
  · cases h; exact ⟨1, by decide, _, _, _, _, k_X2_number2 l, Or.inl ⟨_, rfl, FX2_number, KRX2_38⟩⟩
  · cases h; exact ⟨0, by decide, _, _, _, _, k_X5_addJob2 l, Or.inl ⟨_, rfl, FX5_addJob, KRX2_42⟩⟩
  · cases h; exact ⟨2, by decide, _, _, _, _, k_X2_readOperation l, Or.inl ⟨_, rfl, FX2_readOperation, KRX2_45⟩⟩
  · cases h
def T_X2_readJob : Tr := fun a σ K => match a with
  | [.inr (.inl (2, 0)), .inr (.inl (5, i))] => ∃ j Rs, (0 ≤ σ 2 0 2 ∧ σ 2 0 2 ≤ cL σ ∧ cL σ ≤ 80 ∧ 0 ≤ j ∧ j < 4 ∧ RJ σ i j Rs) ∧ ((jobS (cT σ) (cL σ) (σ 2 0 2)).1 ≠ 0 → ∀ σ', FrG (pRd i) σ σ' → σ' 2 0 2 = (jobS (cT σ) (cL σ) (σ 2 0 2)).2.1 → K (some 0) σ') ∧ ((jobS (cT σ) (cL σ) (σ 2 0 2)).1 = 0 → ∀ σ', FrG (pRd i) σ σ' → σ' 2 0 2 = (jobS (cT σ) (cL σ) (σ 2 0 2)).2.1 → RJ σ' i (j + 1) (uJ Rs j (jobS (cT σ) (cL σ) (σ 2 0 2)).2.2) → K (some 1) σ')
  | _ => False
set_option maxHeartbeats 8000000 in
set_option maxRecDepth 20000 in
theorem k_X2_readJob (l : Launch) : Ct l yX2_readJob cX2_readJob 6 (some .boolean) 3 T_X2_readJob := by
  refine mk_met (by decide +kernel) hCX2_readJob lCX2_readJob frX2_ok cstX2_ok (cao_X2_readJob l) ?_ ?_
  · intro a σ K h
    unfold T_X2_readJob at h
    split at h
    · simp [eL]
    · exact h.elim
  · intro a σ K ha hR h
    unfold T_X2_readJob at h
    split at h
    · rename_i i
      obtain ⟨j, Rs, ⟨p1, p2, p3, p4, p5, p6⟩, hb, hg⟩ := h
      refine ⟨fun pc => if pc = 64 then some (fun L S σ' k => match L, S with | [some (.inr (.inl c1)), some (.inr (.inl c2)), some (.inl r), some (.inl d), some (.inl jb), some (.inl c)], [] => (c1 = (2, 0) ∧ c2 = (5, i) ∧ jb = j ∧ RDi σ σ' i j Rs c) ∧ k = (20 - c).toNat | _, _ => False) else none, 200, ?_, ?_⟩
      · intro pc I L S σ' k hcut hi
        dsimp only at hcut
        split at hcut
        · rename_i hpc
          subst hpc
          cases hcut
          try dsimp only at hi
          split at hi
          · rename_i c1 c2 r d jb c
            obtain ⟨hi, rfl⟩ := hi
            obtain ⟨rfl, rfl, rfl, hI⟩ := hi
            simp only [wp, stp, drp, entL, eL, lget, lset, okst, cnd, swt, rcv, Kr_int, Kr_bool, Kr_void, List.length_cons, List.length_nil, List.replicate, List.append_nil, List.cons_append, List.nil_append, List.take_succ_cons, List.take_zero, List.drop_succ_cons, List.drop_zero, List.reverse_cons, List.reverse_nil, Option.map_some, Option.map_none, Option.toList_some, Option.toList_none, Nat.reduceAdd, Nat.reduceSub, Nat.reduceLT, Nat.reduceLeDiff, Nat.reduceEqDiff, ↓reduceIte, Nat.add_zero, Nat.zero_add, true_and, and_true, Nat.le_refl, reduceCtorEq, false_implies, true_implies, not_true_eq_false, not_false_eq_true, Int.reduceAdd, Int.reduceSub, Int.reduceMul, Int.reduceLE, Int.reduceLT, Int.reduceEq, Int.reduceNe, Int.reduceNeg, Int.reduceDiv, Int.reduceMod, Bool.false_eq_true, Int.le_refl, and_self, true_or, or_true, inR_l, fv0, fv1, fv2, fv3, nc2, nc4, nc6, nc16, nc25, nc60, nc65, nc80, nc130, nc384, nc390, fp_0_0, fp_0_1, fp_0_2, fp_1_0, fp_1_1, fp_1_2, fp_1_3, fp_1_4, fp_1_5, fp_1_6, fp_1_7, fp_1_8, fp_1_9, fp_1_10, fp_1_11, fp_1_12, fp_1_13, fp_1_14, fp_2_0, fp_2_1, fp_2_2, fp_2_3, fp_3_0, fp_3_1, fp_4_0, fp_4_1, fp_4_2, fp_4_3, fp_4_4, fp_4_5, fp_4_6, fp_4_7, fp_5_0, fp_5_1, fp_5_2, fp_5_3, fp_5_4, fp_5_5, fp_5_6, fp_5_7, fp_6_0, fp_6_1, fp_6_2, fp_6_3, fp_6_4, fp_6_5, fp_6_6, fp_6_7, fp_6_8, fp_6_9, fp_6_10, fp_6_11, fp_6_12, fp_6_13, fp_6_14, fp_6_15, fp_7_0, fp_7_1, fp_7_2, fp_7_3, fp_7_4, fp_7_5, fp_7_6, fp_7_7, fp_7_8, fp_7_9, fp_7_10, fp_7_11, fp_7_12, fp_7_13, fp_7_14, fp_7_15, fp_7_16, fp_7_17, fp_7_18, fp_7_19, fp_7_20, fp_7_21, fp_7_22, fp_7_23, fp_7_24, iz_0_1, iz_0_2, iz_1_8, iz_1_9, iz_1_11, iz_2_1, iz_2_2, iz_2_3, iz_3_1, iz_4_1, iz_4_2, iz_5_0, iz_6_8, iz_6_9, iz_6_13, iz_6_14, iz_6_15, iz_7_2, iz_7_6, iz_7_12, iz_7_20, iz_7_21, iz_7_23, iz_7_24, ak_8, ak_9, ak_10, ak_11, ak_12, ak_13, ak_14, ak_15, ak_16, ak_17, ak_18, ak_19, ak_20, ak_21, ak_22, ak_23, ak_24, ak_25, ak_26, ak_27, ak_28, ak_29, ak_30, ak_31, ak_32, ak_33, ak_34, ak_35, ak_36, ak_37, ak_38, ak_39, ak_40, ak_41, ak_42, ak_43, ak_44, ak_45, ak_46, ak_47, ak_48, ak_49, ak_50, ak_51, ak_52, ak_53, ak_54, ak_55, ak_56, el31, el33, el34, CX2_readJob, ca_X2_readJob, frX2, kcX2, klX2, T_X2_take2, T_X2_number2, T_X5_addJob2, T_X2_readOperation, up_ap, false_and, and_false, if_false, if_true, ite_true, ite_false, cT_up, cLn_up, exists_eq_right_right, exists_eq_right, exists_eq_left, Nat.lt_irrefl, and_self, implies_true, forall_const]
            obtain ⟨hF, Q, hD, hc0, hc4, ha0, ha1, hq⟩ := hI
            have hc := pRd_c hF
            rw [hc.1, hc.2]
            have e5 : (5 - c).toNat = (4 - c).toNat + 1 := by omega
            rw [e5, opsS_1] at hq
            have KG : ¬ (nx (cT σ) (cL σ) (σ' 2 0 2) = 44 ∧ c < 4) → K (some 1) σ' := fun z => by
              rw [cif_0 z] at hq
              exact hg (by rw [hq]) σ' hF (by rw [hq]) (by rw [hq]; exact RJ_s hD)
            refine ⟨fun a => absurd a (by omega), fun _ => ⟨fun a => KG (fun z => by omega), fun a => ⟨⟨ha0, p3⟩, fun e44 σ1 f1 a1 => ?_, fun e44 => KG (fun z => e44 z.1)⟩⟩⟩
            have hF1 := hF.t (pPd.R (i := i) f1)
            have hc1 := pRd_c hF1
            have hlt := nx_lt e44 (by omega)
            rw [cif_1 ⟨e44, by omega⟩] at hq
            refine ⟨Rs, Q, c, ?_⟩
            rw [hc1.1, hc1.2, a1]
            refine ⟨⟨by omega, by omega, p3, DR_cg f1 hD⟩, fun s1 σ2 f2 a2 => ?_, fun s1 σ2 f2 a2 D2 => ?_⟩
            · rw [cif_1 s1] at hq
              exact hb (by rw [hq]; show (1 : Int) ≠ 0; omega) σ2 (hF1.t f2) (by rw [hq]; exact a2)
            · rw [cif_0 (fun z => z s1)] at hq
              have ho := op1_r (cT σ) (n := cL σ) (R := Q) (c := c) (b := σ' 2 0 2 + 1) (by omega)
              exact ⟨⟨by omega, by omega⟩, by omega, hF1.t f2, _, D2, by omega, by omega, by omega, by omega, by rw [a2, show (5 - (c + 1)).toNat = (4 - c).toNat by omega]; exact hq⟩
          · exact hi.elim
        · cases hcut
      · simp only [wp, stp, drp, entL, eL, lget, lset, okst, cnd, swt, rcv, Kr_int, Kr_bool, Kr_void, List.length_cons, List.length_nil, List.replicate, List.append_nil, List.cons_append, List.nil_append, List.take_succ_cons, List.take_zero, List.drop_succ_cons, List.drop_zero, List.reverse_cons, List.reverse_nil, Option.map_some, Option.map_none, Option.toList_some, Option.toList_none, Nat.reduceAdd, Nat.reduceSub, Nat.reduceLT, Nat.reduceLeDiff, Nat.reduceEqDiff, ↓reduceIte, Nat.add_zero, Nat.zero_add, true_and, and_true, Nat.le_refl, reduceCtorEq, false_implies, true_implies, not_true_eq_false, not_false_eq_true, Int.reduceAdd, Int.reduceSub, Int.reduceMul, Int.reduceLE, Int.reduceLT, Int.reduceEq, Int.reduceNe, Int.reduceNeg, Int.reduceDiv, Int.reduceMod, Bool.false_eq_true, Int.le_refl, and_self, true_or, or_true, inR_l, fv0, fv1, fv2, fv3, nc2, nc4, nc6, nc16, nc25, nc60, nc65, nc80, nc130, nc384, nc390, fp_0_0, fp_0_1, fp_0_2, fp_1_0, fp_1_1, fp_1_2, fp_1_3, fp_1_4, fp_1_5, fp_1_6, fp_1_7, fp_1_8, fp_1_9, fp_1_10, fp_1_11, fp_1_12, fp_1_13, fp_1_14, fp_2_0, fp_2_1, fp_2_2, fp_2_3, fp_3_0, fp_3_1, fp_4_0, fp_4_1, fp_4_2, fp_4_3, fp_4_4, fp_4_5, fp_4_6, fp_4_7, fp_5_0, fp_5_1, fp_5_2, fp_5_3, fp_5_4, fp_5_5, fp_5_6, fp_5_7, fp_6_0, fp_6_1, fp_6_2, fp_6_3, fp_6_4, fp_6_5, fp_6_6, fp_6_7, fp_6_8, fp_6_9, fp_6_10, fp_6_11, fp_6_12, fp_6_13, fp_6_14, fp_6_15, fp_7_0, fp_7_1, fp_7_2, fp_7_3, fp_7_4, fp_7_5, fp_7_6, fp_7_7, fp_7_8, fp_7_9, fp_7_10, fp_7_11, fp_7_12, fp_7_13, fp_7_14, fp_7_15, fp_7_16, fp_7_17, fp_7_18, fp_7_19, fp_7_20, fp_7_21, fp_7_22, fp_7_23, fp_7_24, iz_0_1, iz_0_2, iz_1_8, iz_1_9, iz_1_11, iz_2_1, iz_2_2, iz_2_3, iz_3_1, iz_4_1, iz_4_2, iz_5_0, iz_6_8, iz_6_9, iz_6_13, iz_6_14, iz_6_15, iz_7_2, iz_7_6, iz_7_12, iz_7_20, iz_7_21, iz_7_23, iz_7_24, ak_8, ak_9, ak_10, ak_11, ak_12, ak_13, ak_14, ak_15, ak_16, ak_17, ak_18, ak_19, ak_20, ak_21, ak_22, ak_23, ak_24, ak_25, ak_26, ak_27, ak_28, ak_29, ak_30, ak_31, ak_32, ak_33, ak_34, ak_35, ak_36, ak_37, ak_38, ak_39, ak_40, ak_41, ak_42, ak_43, ak_44, ak_45, ak_46, ak_47, ak_48, ak_49, ak_50, ak_51, ak_52, ak_53, ak_54, ak_55, ak_56, el31, el33, el34, CX2_readJob, ca_X2_readJob, frX2, kcX2, klX2, T_X2_take2, T_X2_number2, T_X5_addJob2, T_X2_readOperation, up_ap, false_and, and_false, if_false, if_true, ite_true, ite_false, cT_up, cLn_up, exists_eq_right_right, exists_eq_right, exists_eq_left, Nat.lt_irrefl, and_self, implies_true, forall_const]
        have F0 : ∀ σ', FrG pPd σ σ' → cT σ' = cT σ ∧ cL σ' = cL σ := fun σ' h => pPd_c h
        have KB : ∀ (b : Int) σ', FrG pPd σ σ' → σ' 2 0 2 = b → jobS (cT σ) (cL σ) (σ 2 0 2) = (1, b, fun _ => 0) → K (some 0) σ' := fun b σ' hF ha e => hb (by rw [e]; show (1 : Int) ≠ 0; omega) σ' (pPd.R hF) (by rw [e]; exact ha)
        refine ⟨⟨p1, p3⟩, fun e1 σ1 f1 a1 => ?_, fun e1 => KB _ σ FrG.r rfl (by unfold jobS; rw [cif_1 e1])⟩
        have c1 := F0 σ1 f1
        have l1 := nx_lt e1 (by omega)
        have n1 := numS_r (cT σ) (n := cL σ) (lo := 0) (hi := 50) (a := σ 2 0 2 + 1) (by omega) (by omega) (by omega)
        rw [c1.1, c1.2, a1]
        refine ⟨⟨by omega, by omega, p3⟩, fun s1 σ2 f2 a2 => ⟨fun q => absurd q (by omega), fun _ => ?_⟩, fun s1 σ2 f2 a2 => KB _ σ2 (f1.t f2) a2 (by unfold jobS; rw [cif_0 (fun z => z e1), cif_1 s1])⟩
        have f12 := f1.t f2
        have c2 := F0 σ2 f12
        rw [c2.1, c2.2, a2]
        refine ⟨⟨by omega, p3⟩, fun e2 σ3 f3 a3 => ?_, fun e2 => KB _ σ2 f12 a2 (by unfold jobS; rw [cif_0 (fun z => z e1), cif_0 (fun z => z s1), cif_1 e2])⟩
        have f13 := f12.t f3
        have c3 := F0 σ3 f13
        have l2 := nx_lt e2 (by omega)
        have n2 := numS_r (cT σ) (n := cL σ) (lo := 0) (hi := 200) (a := (numS (cT σ) (cL σ) 0 50 (σ 2 0 2 + 1)).2.1 + 1) (by omega) (by omega) (by omega)
        rw [c3.1, c3.2, a3]
        refine ⟨⟨by omega, by omega, p3⟩, fun s2 σ4 f4 a4 => ⟨fun _ => ?_, fun q => absurd q (by omega)⟩, fun s2 σ4 f4 a4 => KB _ σ4 (f13.t f4) a4 (by unfold jobS; rw [cif_0 (fun z => z e1), cif_0 (fun z => z s1), cif_0 (fun z => z e2), cif_1 s2])⟩
        have f14 := f13.t f4
        have R4 := RJ_cg f14 p6
        have e5 : σ4 5 i 0 = j := R4.2.1
        rw [e5]
        refine ⟨⟨p4, p5⟩, fun σ5 hs => ⟨rfl, ?_, hdR (numS (cT σ) (cL σ) 0 50 (σ 2 0 2 + 1)).1 (numS (cT σ) (cL σ) 0 200 ((numS (cT σ) (cL σ) 0 50 (σ 2 0 2 + 1)).2.1 + 1)).1, DR_0 R4 p4 p5 n1.2.2.2.1 n1.2.2.2.2.1 n2.2.2.2.1 n2.2.2.2.2.1 hs, by omega, by omega, ?_, ?_, ?_⟩⟩
        · rw [hs]
          exact (((((pPd.R f14).u (Or.inr ⟨rfl, by omega⟩)).u (Or.inr ⟨rfl, by omega⟩)).u (Or.inr ⟨rfl, by omega⟩)).u (Or.inr ⟨rfl, by omega⟩))
        · rw [hs]; simp [up_ap]; omega
        · rw [hs]; simp [up_ap]; omega
        · have ea : σ5 2 0 2 = (numS (cT σ) (cL σ) 0 200 ((numS (cT σ) (cL σ) 0 50 (σ 2 0 2 + 1)).2.1 + 1)).2.1 := by
            rw [hs]; simp [up_ap]; exact a4
          unfold jobS
          rw [cif_0 (fun z => z e1), cif_0 (fun z => z s1), cif_0 (fun z => z e2), cif_0 (fun z => z s2), ea]
          rfl
    · exact h.elim
