def ca_X7_takeOrder : Nat → Option (Nat × Nat × Tr)
  | 281 => some (2, 7, T_X7_takeDigit3)
  | 275 => some (2, 7, T_X7_need3)
  | 269 => some (1, 7, T_X7_next2)
  | 87 => some (3, 99, T_X7_in2)
  | _ => none
theorem cao_X7_takeOrder (l : Launch) : ∀ k n' ci T', ca_X7_takeOrder k = some (n', ci, T') → ∃ nn, nn + 1 ≤ 2 ∧ Site l yX7_takeOrder.cls k n' ci nn T' := by
  intro k n' ci T' h
  unfold ca_X7_takeOrder at h
  split at h
  · cases h; exact ⟨1, by decide, _, _, _, _, k_X7_takeDigit3 l, Or.inl ⟨_, rfl, FX7_takeDigit, KRX7_281⟩⟩
  · cases h; exact ⟨1, by decide, _, _, _, _, k_X7_need3 l, Or.inl ⟨_, rfl, FX7_need, KRX7_275⟩⟩
  · cases h; exact ⟨0, by decide, _, _, _, _, k_X7_next2 l, Or.inl ⟨_, rfl, FX7_next, KRX7_269⟩⟩
  · cases h; exact ⟨0, by decide, _, _, _, _, k_X7_in2 l, Or.inr ⟨rfl, FX7_in, Or.inl ⟨rfl, KRX7_87⟩⟩⟩
  · cases h
def T_X7_takeOrder : Tr := fun a σ K => match a with
  | [.inr (.inl (7, 0))] => ∃ ln q, (0 ≤ σ 7 0 20 ∧ σ 7 0 20 ≤ xL σ ∧ xL σ ≤ 80 ∧ σ 7 0 21 = 0 ∧ 0 ≤ σ 7 0 23 ∧ σ 7 0 23 ≤ 3 ∧ PO σ ln q) ∧ ∀ σ', OXe σ σ' ln q → K none σ'
  | _ => False
set_option maxHeartbeats 8000000 in
set_option maxRecDepth 20000 in
theorem k_X7_takeOrder (l : Launch) : Ct l yX7_takeOrder cX7_takeOrder 4 none 2 T_X7_takeOrder := by
  refine mk_met (by decide +kernel) hCX7_takeOrder lCX7_takeOrder frX7_ok cstX7_ok (cao_X7_takeOrder l) ?_ ?_
  · intro a σ K h
    unfold T_X7_takeOrder at h
    split at h
    · simp [eL]
    · exact h.elim
  · intro a σ K ha hR h
    unfold T_X7_takeOrder at h
    split at h
    · rename_i _z
      obtain ⟨ln, q, ⟨p1, p2, p3, p4, p5, p6, p7⟩, h⟩ := h
      refine ⟨fun pc => if pc = 67 then some (fun L S σ' k => match L, S with | [some (.inr (.inl c1)), some (.inl r), some (.inl t), _], [] => (c1 = (7, 0) ∧ r = 11 * σ 7 0 23 ∧ OXi σ σ' t ln q) ∧ k = (4 - σ' 55 0 (11 * σ 7 0 23 + 1)).toNat | _, _ => False) else none, 200, ?_, ?_⟩
      · intro pc I L S σ' k hcut hi
        dsimp only at hcut
        split at hcut
        · rename_i hpc
          subst hpc
          cases hcut
          try dsimp only at hi
          split at hi
          · rename_i c1 r t x1
            obtain ⟨hi, rfl⟩ := hi
            obtain ⟨rfl, rfl, hI⟩ := hi
            simp only [wp, stp, drp, entL, eL, lget, lset, okst, cnd, swt, rcv, Kr_int, Kr_bool, Kr_void, List.length_cons, List.length_nil, List.replicate, List.append_nil, List.cons_append, List.nil_append, List.take_succ_cons, List.take_zero, List.drop_succ_cons, List.drop_zero, List.reverse_cons, List.reverse_nil, Option.map_some, Option.map_none, Option.toList_some, Option.toList_none, Nat.reduceAdd, Nat.reduceSub, Nat.reduceLT, Nat.reduceLeDiff, Nat.reduceEqDiff, ↓reduceIte, Nat.add_zero, Nat.zero_add, true_and, and_true, Nat.le_refl, reduceCtorEq, false_implies, true_implies, not_true_eq_false, not_false_eq_true, Int.reduceAdd, Int.reduceSub, Int.reduceMul, Int.reduceLE, Int.reduceLT, Int.reduceEq, Int.reduceNe, Int.reduceNeg, Int.reduceDiv, Int.reduceMod, Bool.false_eq_true, Int.le_refl, and_self, true_or, or_true, inR_l, fv0, fv1, fv2, fv3, nc2, nc4, nc6, nc16, nc25, nc60, nc65, nc80, nc130, nc384, nc390, fp_0_0, fp_0_1, fp_0_2, fp_1_0, fp_1_1, fp_1_2, fp_1_3, fp_1_4, fp_1_5, fp_1_6, fp_1_7, fp_1_8, fp_1_9, fp_1_10, fp_1_11, fp_1_12, fp_1_13, fp_1_14, fp_2_0, fp_2_1, fp_2_2, fp_2_3, fp_3_0, fp_3_1, fp_4_0, fp_4_1, fp_4_2, fp_4_3, fp_4_4, fp_4_5, fp_4_6, fp_4_7, fp_5_0, fp_5_1, fp_5_2, fp_5_3, fp_5_4, fp_5_5, fp_5_6, fp_5_7, fp_6_0, fp_6_1, fp_6_2, fp_6_3, fp_6_4, fp_6_5, fp_6_6, fp_6_7, fp_6_8, fp_6_9, fp_6_10, fp_6_11, fp_6_12, fp_6_13, fp_6_14, fp_6_15, fp_7_0, fp_7_1, fp_7_2, fp_7_3, fp_7_4, fp_7_5, fp_7_6, fp_7_7, fp_7_8, fp_7_9, fp_7_10, fp_7_11, fp_7_12, fp_7_13, fp_7_14, fp_7_15, fp_7_16, fp_7_17, fp_7_18, fp_7_19, fp_7_20, fp_7_21, fp_7_22, fp_7_23, fp_7_24, iz_0_1, iz_0_2, iz_1_8, iz_1_9, iz_1_11, iz_2_1, iz_2_2, iz_2_3, iz_3_1, iz_4_1, iz_4_2, iz_5_0, iz_6_8, iz_6_9, iz_6_13, iz_6_14, iz_6_15, iz_7_2, iz_7_6, iz_7_12, iz_7_20, iz_7_21, iz_7_23, iz_7_24, ak_8, ak_9, ak_10, ak_11, ak_12, ak_13, ak_14, ak_15, ak_16, ak_17, ak_18, ak_19, ak_20, ak_21, ak_22, ak_23, ak_24, ak_25, ak_26, ak_27, ak_28, ak_29, ak_30, ak_31, ak_32, ak_33, ak_34, ak_35, ak_36, ak_37, ak_38, ak_39, ak_40, ak_41, ak_42, ak_43, ak_44, ak_45, ak_46, ak_47, ak_48, ak_49, ak_50, ak_51, ak_52, ak_53, ak_54, ak_55, ak_56, el31, el33, el34, CX7_takeOrder, ca_X7_takeOrder, frX7, kcX7, klX7, T_X7_takeDigit3, T_X7_need3, T_X7_next2, T_X7_in2, up_ap, false_and, and_false, if_false, if_true, ite_true, ite_false, xT_up, xL_20, xL_21, xT_55, xL_55, xL_24, exists_eq_right_right, exists_eq_right, exists_eq_left, Nat.lt_irrefl, and_self, implies_true, forall_const]
            have hc := pRt_c hI.1
            obtain ⟨-, q23, -, ha0, ha1, hw, -⟩ := id hI
            rw [hc.1, hc.2, q23]
            have KE : (σ' 7 0 21 ≠ 0 ∨ ¬ (48 ≤ nx (xT σ) (xL σ) (σ' 7 0 20) ∧ nx (xT σ) (xL σ) (σ' 7 0 20) ≤ 51) ∨ hasB t (nx (xT σ) (xL σ) (σ' 7 0 20) - 48) ∧ (48 ≤ nx (xT σ) (xL σ) (σ' 7 0 20) ∧ nx (xT σ) (xL σ) (σ' 7 0 20) ≤ 51)) → inR (σ 7 0 23 + 1) ∧ K none (up σ' 7 0 23 (σ 7 0 23 + 1)) := fun z => ⟨by simp only [inR]; omega, h _ (OXi_end p7 hI z (by rw [q23]))⟩
            refine ⟨fun a => KE (Or.inl a), fun a => ⟨⟨ha0, p3⟩, fun b => ⟨⟨ha0, p3⟩, by simp only [inR]; omega, fun c => KE (Or.inr (Or.inr ⟨c, b⟩)), fun c => ?_⟩, fun b => KE (Or.inr (Or.inl b))⟩⟩
            have S0 := OXi_s (σ2 := σ) hI a b c
            refine ⟨⟨ha0, ha1, p3, hw, S0.2.1, S0.2.2.1⟩, fun σ1 v f1 t1 => ?_⟩
            have w0 : σ' 7 0 21 = 0 := by omega
            rw [w0] at t1
            have c0 := S0.2.2.2.1
            have c4 := S0.2.2.2.2.1
            have k1 := pSp_s f1
            rw [k1.2.1]
            have n1 : ¬ (11 * σ 7 0 23 + 1 = 11 * σ 7 0 23 + 2 + σ' 55 0 (11 * σ 7 0 23 + 1)) := by omega
            simp only [if_neg n1]
            refine ⟨by simp only [inR]; omega, by simp only [inR]; omega, ⟨by omega, by omega⟩, by simp only [inR]; omega, ⟨by omega, by omega⟩, by simp only [inR]; omega, ⟨by omega, by omega⟩, by simp only [inR]; omega, ⟨by omega, by omega⟩, by omega, ?_⟩
            refine (OXi_s hI a b c).2.2.2.2.2 _ _ v t1 ?_ ?_ (((hI.1.t (pSp.t f1)).u (Or.inr ⟨rfl, rfl⟩)).u (Or.inr ⟨rfl, rfl⟩)) ?_ ?_ (fun x => ?_)
            · simp [up_ap]
            · simp [up_ap]
            · simp [up_ap]
              omega
            · simp [up_ap]
              omega
            · rw [up_ap, up_ap, k1.2.1]
              simp only [true_and]
          · exact hi.elim
        · cases hcut
      · simp only [wp, stp, drp, entL, eL, lget, lset, okst, cnd, swt, rcv, Kr_int, Kr_bool, Kr_void, List.length_cons, List.length_nil, List.replicate, List.append_nil, List.cons_append, List.nil_append, List.take_succ_cons, List.take_zero, List.drop_succ_cons, List.drop_zero, List.reverse_cons, List.reverse_nil, Option.map_some, Option.map_none, Option.toList_some, Option.toList_none, Nat.reduceAdd, Nat.reduceSub, Nat.reduceLT, Nat.reduceLeDiff, Nat.reduceEqDiff, ↓reduceIte, Nat.add_zero, Nat.zero_add, true_and, and_true, Nat.le_refl, reduceCtorEq, false_implies, true_implies, not_true_eq_false, not_false_eq_true, Int.reduceAdd, Int.reduceSub, Int.reduceMul, Int.reduceLE, Int.reduceLT, Int.reduceEq, Int.reduceNe, Int.reduceNeg, Int.reduceDiv, Int.reduceMod, Bool.false_eq_true, Int.le_refl, and_self, true_or, or_true, inR_l, fv0, fv1, fv2, fv3, nc2, nc4, nc6, nc16, nc25, nc60, nc65, nc80, nc130, nc384, nc390, fp_0_0, fp_0_1, fp_0_2, fp_1_0, fp_1_1, fp_1_2, fp_1_3, fp_1_4, fp_1_5, fp_1_6, fp_1_7, fp_1_8, fp_1_9, fp_1_10, fp_1_11, fp_1_12, fp_1_13, fp_1_14, fp_2_0, fp_2_1, fp_2_2, fp_2_3, fp_3_0, fp_3_1, fp_4_0, fp_4_1, fp_4_2, fp_4_3, fp_4_4, fp_4_5, fp_4_6, fp_4_7, fp_5_0, fp_5_1, fp_5_2, fp_5_3, fp_5_4, fp_5_5, fp_5_6, fp_5_7, fp_6_0, fp_6_1, fp_6_2, fp_6_3, fp_6_4, fp_6_5, fp_6_6, fp_6_7, fp_6_8, fp_6_9, fp_6_10, fp_6_11, fp_6_12, fp_6_13, fp_6_14, fp_6_15, fp_7_0, fp_7_1, fp_7_2, fp_7_3, fp_7_4, fp_7_5, fp_7_6, fp_7_7, fp_7_8, fp_7_9, fp_7_10, fp_7_11, fp_7_12, fp_7_13, fp_7_14, fp_7_15, fp_7_16, fp_7_17, fp_7_18, fp_7_19, fp_7_20, fp_7_21, fp_7_22, fp_7_23, fp_7_24, iz_0_1, iz_0_2, iz_1_8, iz_1_9, iz_1_11, iz_2_1, iz_2_2, iz_2_3, iz_3_1, iz_4_1, iz_4_2, iz_5_0, iz_6_8, iz_6_9, iz_6_13, iz_6_14, iz_6_15, iz_7_2, iz_7_6, iz_7_12, iz_7_20, iz_7_21, iz_7_23, iz_7_24, ak_8, ak_9, ak_10, ak_11, ak_12, ak_13, ak_14, ak_15, ak_16, ak_17, ak_18, ak_19, ak_20, ak_21, ak_22, ak_23, ak_24, ak_25, ak_26, ak_27, ak_28, ak_29, ak_30, ak_31, ak_32, ak_33, ak_34, ak_35, ak_36, ak_37, ak_38, ak_39, ak_40, ak_41, ak_42, ak_43, ak_44, ak_45, ak_46, ak_47, ak_48, ak_49, ak_50, ak_51, ak_52, ak_53, ak_54, ak_55, ak_56, el31, el33, el34, CX7_takeOrder, ca_X7_takeOrder, frX7, kcX7, klX7, T_X7_takeDigit3, T_X7_need3, T_X7_next2, T_X7_in2, up_ap, false_and, and_false, if_false, if_true, ite_true, ite_false, xT_up, xL_20, xL_21, xT_55, xL_55, xL_24, exists_eq_right_right, exists_eq_right, exists_eq_left, Nat.lt_irrefl, and_self, implies_true, forall_const]
        refine ⟨by simp only [inR]; omega, ⟨p1, p2, p3, Or.inl p4, p7.1, p7.2.1⟩, fun σ1 v f1 t1 => ?_⟩
        rw [p4] at t1
        have s1 := P1_i (q := q) (fun m m0 m1 => (p7.2.2 m m0 m1).1) t1
        have b1 := P1_b s1 p1 p2
        have c1 := pSp_c f1
        have k1 := pSp_s f1
        have Q : ∀ o, (σ1 7 0 21 = 0 → o = bor (σ 7 0 24) (bshl 1 v)) → ∀ σ4, FrG pSp (up (up σ1 55 0 (11 * σ 7 0 23) v) 7 0 24 o) σ4 → ne (xT σ) (xL σ) (σ1 7 0 21) (σ1 7 0 20) 58 (σ4 7 0 21) (σ4 7 0 20) → inR (11 * σ 7 0 23 + 1) ∧ (0 ≤ 11 * σ 7 0 23 + 1 ∧ 11 * σ 7 0 23 + 1 < 60) ∧ OXi σ (up σ4 55 0 (11 * σ 7 0 23 + 1) 0) 0 ln q := fun o ho σ4 f4 t4 => by
          have s2 := P2_i s1 t4
          have k4 := pSp_s f4
          refine ⟨by simp only [inR]; omega, ⟨by omega, by omega⟩, OXi_0 (v := v) (((((pSp.t f1).u (Or.inr ⟨rfl, rfl⟩)).u (Or.inl ⟨rfl, rfl, by omega, by omega⟩)).t (pSp.t f4)).u (Or.inr ⟨rfl, rfl⟩)) ?_ (fun x => ?_) (fun z => ?_) p1 p2 ?_⟩
          · simp [up_ap, k4.1, k1.1]
          · rw [up_ap, k4.2.1, up_ap, up_ap, k1.2.1]
            simp [true_and]
          · have z' : σ4 7 0 21 = 0 := by simpa [up_ap] using z
            have w1 : σ1 7 0 21 = 0 := by
              rcases t4 with ⟨q, -⟩ | ⟨-, -, q⟩
              · exact q
              · omega
            rw [up_ap, if_neg (by rintro ⟨q, -⟩; omega), k4.2.2, up_ap, if_pos ⟨rfl, rfl, rfl⟩, ho w1]
          · simp only [up_ap]
            simpa using s2
        rw [c1.1, c1.2, k1.2.2]
        exact ⟨⟨by omega, by omega⟩, fun a => ⟨⟨by omega, by omega⟩, ⟨b1.1, b1.2.1, p3, b1.2.2.1⟩, Q _ (fun _ => rfl)⟩, fun a => ⟨⟨b1.1, b1.2.1, p3, b1.2.2.1⟩, Q _ (fun z => absurd z a)⟩⟩
    · exact h.elim
