/-- the first x are laid -/
def LfI (σ σ' : Mem) (x : Int) : Prop := FrG p53 σ σ' ∧ 0 ≤ x ∧ x ≤ 16 ∧ ∀ o, 0 ≤ o → o < x → (rOp σ o → σ' 53 0 o = rDu σ o) ∧ (¬ rOp σ o → σ' 53 0 o = 0)
theorem LfI_s {σ σ' : Mem} {x v : Int} (h : LfI σ σ' x) (hx : ¬ 16 ≤ x) (hv : (rOp σ x → v = rDu σ x) ∧ (¬ rOp σ x → v = 0)) : LfI σ (up σ' 53 0 x v) (x + 1) := by
  refine ⟨h.1.u ⟨rfl, rfl⟩, by have := h.2.1; omega, by omega, fun o o0 o1 => ?_⟩
  rw [up_ap]
  by_cases c : o = x
  · subst c
    rw [if_pos ⟨rfl, rfl, rfl⟩]
    exact hv
  · rw [if_neg (by rintro ⟨-, -, q⟩; exact c q)]
    exact h.2.2.2 o o0 (by omega)
theorem p53_w {σ σ' : Mem} (h : FrG p53 σ σ') (hw : rWF σ) : rWF σ' ∧ (∀ o, rOp σ' o ↔ rOp σ o) ∧ (∀ o, rDu σ' o = rDu σ o) ∧ (∀ o, rtA σ' o = rtA σ o) := by
  have e := p53_r h
  refine ⟨?_, fun o => by unfold rOp rSt; rw [e], fun o => by unfold rDu; rw [e], fun o => by unfold rtA rDu rSt; rw [e]⟩
  unfold rWF rSt rMc rDu rLn rQ rRe rDd at hw ⊢
  rw [e]
  exact hw
/-- the reference's bound -/
def RBE (σ σ' : Mem) (m B : Int) : Prop := FrG p53 σ σ' ∧ JB (je σ m) (jp σ m) (jr σ m) (jq σ m) B ∧ 0 ≤ B ∧ B ≤ 400
def ca_X7_boundOf : Nat → Option (Nat × Nat × Tr)
  | 102 => some (2, 7, T_X7_isOperation2)
  | 105 => some (2, 7, T_X7_lasts)
  | 233 => some (3, 7, T_X7_workedOn)
  | 230 => some (2, 7, T_X7_tailAlone)
  | 108 => some (2, 99, T_X7_greater)
  | _ => none
theorem cao_X7_boundOf (l : Launch) : ∀ k n' ci T', ca_X7_boundOf k = some (n', ci, T') → ∃ nn, nn + 1 ≤ 3 ∧ Site l yX7_boundOf.cls k n' ci nn T' := by
  intro k n' ci T' h
  unfold ca_X7_boundOf at h
  split at h
  · cases h; exact ⟨1, by decide, _, _, _, _, k_X7_isOperation2 l, Or.inl ⟨_, rfl, FX7_isOperation, KRX7_102⟩⟩
  · cases h; exact ⟨0, by decide, _, _, _, _, k_X7_lasts l, Or.inl ⟨_, rfl, FX7_lasts, KRX7_105⟩⟩
  · cases h; exact ⟨2, by decide, _, _, _, _, k_X7_workedOn l, Or.inl ⟨_, rfl, FX7_workedOn, KRX7_233⟩⟩
  · cases h; exact ⟨1, by decide, _, _, _, _, k_X7_tailAlone l, Or.inl ⟨_, rfl, FX7_tailAlone, KRX7_230⟩⟩
  · cases h; exact ⟨0, by decide, _, _, _, _, k_X7_greater l, Or.inr ⟨rfl, FX7_greater, Or.inl ⟨rfl, KRX7_108⟩⟩⟩
  · cases h
def T_X7_boundOf : Tr := fun a σ K => match a with
  | [.inr (.inl (7, 0)), .inl m] => (rWF σ ∧ 0 ≤ m ∧ m < 4) ∧ ∀ B σ', RBE σ σ' m B → K (some B) σ'
  | _ => False
set_option maxHeartbeats 8000000 in
set_option maxRecDepth 20000 in
theorem k_X7_boundOf (l : Launch) : Ct l yX7_boundOf cX7_boundOf 6 (some .int) 3 T_X7_boundOf := by
  refine mk_met (by decide +kernel) hCX7_boundOf lCX7_boundOf frX7_ok cstX7_ok (cao_X7_boundOf l) ?_ ?_
  · intro a σ K h
    unfold T_X7_boundOf at h
    split at h
    · simp [eL]
    · exact h.elim
  · intro a σ K ha hR h
    unfold T_X7_boundOf at h
    split at h
    · rename_i m
      refine ⟨fun pc => if pc = 12 then some (fun L S σ' k => match L, S with | [some (.inr (.inl c1)), some (.inl m'), some (.inl op), some (.inl x), _, _], [] => (c1 = (7, 0) ∧ m' = m ∧ op = rLn σ m ∧ LfI σ σ' x) ∧ k = (16 - x).toNat + 1000 | _, _ => False) else if pc = 52 then some (fun L S σ' k => match L, S with | [some (.inr (.inl c1)), some (.inl m'), some (.inl op), some (.inl g), some (.inl t), _], [] => (c1 = (7, 0) ∧ m' = m ∧ RBI σ σ' m op g t) ∧ k = (210 - t).toNat | _, _ => False) else none, 200, ?_, ?_⟩
      · intro pc I L S σ' k hcut hi
        dsimp only at hcut
        split at hcut
        · rename_i hpc
          subst hpc
          cases hcut
          try dsimp only at hi
          split at hi
          · rename_i c1 m' op x x1 x2
            obtain ⟨hi, rfl⟩ := hi
            obtain ⟨rfl, rfl, rfl, hI⟩ := hi
            obtain ⟨⟨p0, p1, p2⟩, h⟩ := h
            simp only [wp, stp, drp, entL, eL, lget, lset, okst, cnd, swt, rcv, Kr_int, Kr_bool, Kr_void, List.length_cons, List.length_nil, List.replicate, List.append_nil, List.cons_append, List.nil_append, List.take_succ_cons, List.take_zero, List.drop_succ_cons, List.drop_zero, List.reverse_cons, List.reverse_nil, Option.map_some, Option.map_none, Option.toList_some, Option.toList_none, Nat.reduceAdd, Nat.reduceSub, Nat.reduceLT, Nat.reduceLeDiff, Nat.reduceEqDiff, ↓reduceIte, Nat.add_zero, Nat.zero_add, true_and, and_true, Nat.le_refl, reduceCtorEq, false_implies, true_implies, not_true_eq_false, not_false_eq_true, Int.reduceAdd, Int.reduceSub, Int.reduceMul, Int.reduceLE, Int.reduceLT, Int.reduceEq, Int.reduceNe, Int.reduceNeg, Int.reduceDiv, Int.reduceMod, Bool.false_eq_true, Int.le_refl, and_self, true_or, or_true, inR_l, fv0, fv1, fv2, fv3, nc2, nc4, nc6, nc16, nc25, nc60, nc65, nc80, nc130, nc384, nc390, fp_0_0, fp_0_1, fp_0_2, fp_1_0, fp_1_1, fp_1_2, fp_1_3, fp_1_4, fp_1_5, fp_1_6, fp_1_7, fp_1_8, fp_1_9, fp_1_10, fp_1_11, fp_1_12, fp_1_13, fp_1_14, fp_2_0, fp_2_1, fp_2_2, fp_2_3, fp_3_0, fp_3_1, fp_4_0, fp_4_1, fp_4_2, fp_4_3, fp_4_4, fp_4_5, fp_4_6, fp_4_7, fp_5_0, fp_5_1, fp_5_2, fp_5_3, fp_5_4, fp_5_5, fp_5_6, fp_5_7, fp_6_0, fp_6_1, fp_6_2, fp_6_3, fp_6_4, fp_6_5, fp_6_6, fp_6_7, fp_6_8, fp_6_9, fp_6_10, fp_6_11, fp_6_12, fp_6_13, fp_6_14, fp_6_15, fp_7_0, fp_7_1, fp_7_2, fp_7_3, fp_7_4, fp_7_5, fp_7_6, fp_7_7, fp_7_8, fp_7_9, fp_7_10, fp_7_11, fp_7_12, fp_7_13, fp_7_14, fp_7_15, fp_7_16, fp_7_17, fp_7_18, fp_7_19, fp_7_20, fp_7_21, fp_7_22, fp_7_23, fp_7_24, iz_0_1, iz_0_2, iz_1_8, iz_1_9, iz_1_11, iz_2_1, iz_2_2, iz_2_3, iz_3_1, iz_4_1, iz_4_2, iz_5_0, iz_6_8, iz_6_9, iz_6_13, iz_6_14, iz_6_15, iz_7_2, iz_7_6, iz_7_12, iz_7_20, iz_7_21, iz_7_23, iz_7_24, ak_8, ak_9, ak_10, ak_11, ak_12, ak_13, ak_14, ak_15, ak_16, ak_17, ak_18, ak_19, ak_20, ak_21, ak_22, ak_23, ak_24, ak_25, ak_26, ak_27, ak_28, ak_29, ak_30, ak_31, ak_32, ak_33, ak_34, ak_35, ak_36, ak_37, ak_38, ak_39, ak_40, ak_41, ak_42, ak_43, ak_44, ak_45, ak_46, ak_47, ak_48, ak_49, ak_50, ak_51, ak_52, ak_53, ak_54, ak_55, ak_56, el31, el33, el34, CX7_boundOf, ca_X7_boundOf, frX7, kcX7, klX7, T_X7_isOperation2, T_X7_lasts, T_X7_workedOn, T_X7_tailAlone, T_X7_greater, up_ap, false_and, and_false, if_false, if_true, ite_true, ite_false, exists_eq_right_right, exists_eq_right, exists_eq_left, Nat.lt_irrefl, and_self, implies_true, forall_const]
            obtain ⟨q1, q2, q3, q4⟩ := p53_w hI.1 p0
            have ed : σ' 38 0 (14 + 2 * x) = rDu σ x := q3 x
            rw [ed]
            have x0 := hI.2.1
            refine ⟨fun a => ⟨by omega, RBI_0 p0 p1 p2 hI.1 (fun o o0 o1 => hI.2.2.2 o o0 (by omega))⟩, fun a => ⟨q1, fun v => ⟨⟨x0, by omega⟩, ⟨x0, by omega⟩, by simp only [inR]; omega, by omega, LfI_s hI a ⟨fun _ => rfl, fun z => absurd ((q2 x).mp v) z⟩⟩, fun v => ⟨⟨x0, by omega⟩, by simp only [inR]; omega, by omega, LfI_s hI a ⟨fun z => absurd ((q2 x).mpr z) v, fun _ => rfl⟩⟩⟩⟩
          · exact hi.elim
        · split at hcut
          · rename_i hpc
            subst hpc
            cases hcut
            try dsimp only at hi
            split at hi
            · rename_i c1 m' op g t x2
              obtain ⟨hi, rfl⟩ := hi
              obtain ⟨rfl, rfl, hI⟩ := hi
              obtain ⟨⟨p0, p1, p2⟩, h⟩ := h
              simp only [wp, stp, drp, entL, eL, lget, lset, okst, cnd, swt, rcv, Kr_int, Kr_bool, Kr_void, List.length_cons, List.length_nil, List.replicate, List.append_nil, List.cons_append, List.nil_append, List.take_succ_cons, List.take_zero, List.drop_succ_cons, List.drop_zero, List.reverse_cons, List.reverse_nil, Option.map_some, Option.map_none, Option.toList_some, Option.toList_none, Nat.reduceAdd, Nat.reduceSub, Nat.reduceLT, Nat.reduceLeDiff, Nat.reduceEqDiff, ↓reduceIte, Nat.add_zero, Nat.zero_add, true_and, and_true, Nat.le_refl, reduceCtorEq, false_implies, true_implies, not_true_eq_false, not_false_eq_true, Int.reduceAdd, Int.reduceSub, Int.reduceMul, Int.reduceLE, Int.reduceLT, Int.reduceEq, Int.reduceNe, Int.reduceNeg, Int.reduceDiv, Int.reduceMod, Bool.false_eq_true, Int.le_refl, and_self, true_or, or_true, inR_l, fv0, fv1, fv2, fv3, nc2, nc4, nc6, nc16, nc25, nc60, nc65, nc80, nc130, nc384, nc390, fp_0_0, fp_0_1, fp_0_2, fp_1_0, fp_1_1, fp_1_2, fp_1_3, fp_1_4, fp_1_5, fp_1_6, fp_1_7, fp_1_8, fp_1_9, fp_1_10, fp_1_11, fp_1_12, fp_1_13, fp_1_14, fp_2_0, fp_2_1, fp_2_2, fp_2_3, fp_3_0, fp_3_1, fp_4_0, fp_4_1, fp_4_2, fp_4_3, fp_4_4, fp_4_5, fp_4_6, fp_4_7, fp_5_0, fp_5_1, fp_5_2, fp_5_3, fp_5_4, fp_5_5, fp_5_6, fp_5_7, fp_6_0, fp_6_1, fp_6_2, fp_6_3, fp_6_4, fp_6_5, fp_6_6, fp_6_7, fp_6_8, fp_6_9, fp_6_10, fp_6_11, fp_6_12, fp_6_13, fp_6_14, fp_6_15, fp_7_0, fp_7_1, fp_7_2, fp_7_3, fp_7_4, fp_7_5, fp_7_6, fp_7_7, fp_7_8, fp_7_9, fp_7_10, fp_7_11, fp_7_12, fp_7_13, fp_7_14, fp_7_15, fp_7_16, fp_7_17, fp_7_18, fp_7_19, fp_7_20, fp_7_21, fp_7_22, fp_7_23, fp_7_24, iz_0_1, iz_0_2, iz_1_8, iz_1_9, iz_1_11, iz_2_1, iz_2_2, iz_2_3, iz_3_1, iz_4_1, iz_4_2, iz_5_0, iz_6_8, iz_6_9, iz_6_13, iz_6_14, iz_6_15, iz_7_2, iz_7_6, iz_7_12, iz_7_20, iz_7_21, iz_7_23, iz_7_24, ak_8, ak_9, ak_10, ak_11, ak_12, ak_13, ak_14, ak_15, ak_16, ak_17, ak_18, ak_19, ak_20, ak_21, ak_22, ak_23, ak_24, ak_25, ak_26, ak_27, ak_28, ak_29, ak_30, ak_31, ak_32, ak_33, ak_34, ak_35, ak_36, ak_37, ak_38, ak_39, ak_40, ak_41, ak_42, ak_43, ak_44, ak_45, ak_46, ak_47, ak_48, ak_49, ak_50, ak_51, ak_52, ak_53, ak_54, ak_55, ak_56, el31, el33, el34, CX7_boundOf, ca_X7_boundOf, frX7, kcX7, klX7, T_X7_isOperation2, T_X7_lasts, T_X7_workedOn, T_X7_tailAlone, T_X7_greater, up_ap, false_and, and_false, if_false, if_true, ite_true, ite_false, exists_eq_right_right, exists_eq_right, exists_eq_left, Nat.lt_irrefl, and_self, implies_true, forall_const]
              obtain ⟨q1, q2, q3, q4⟩ := p53_w hI.1 p0
              refine ⟨fun a => h g σ' ⟨hI.1, RBI_end p0 hI a, hI.2.2.2.2.2.1, hI.2.2.2.2.2.2⟩, fun a => ⟨q1, fun r hr => ⟨fun c => ?_, fun c => ?_⟩⟩⟩
              · have ht := RBI_t p0 hI a
                have t0 := hI.2.1
                exact ⟨by simp only [inR]; omega, by omega, RBI_i p0 hI a hr c⟩
              · have ht := RBI_t p0 hI a
                have t0 := hI.2.1
                obtain ⟨w1, w2, w3, w4, w5, w6, w7⟩ := RBI_w p0 hI a hr c rfl
                have v0 := w1.1
                have v1 := w1.2.1
                have e : (up σ' 53 0 r (σ' 53 0 r - 1)) 53 0 r = σ' 53 0 r - 1 := by rw [up_ap, if_pos ⟨rfl, rfl, rfl⟩]
                rw [e] at w6 w7
                obtain ⟨u1, u2, u3, u4⟩ := p53_w (hI.1.u (v := σ' 53 0 r - 1) (x := r) ⟨rfl, rfl⟩) p0
                rw [u4]
                refine ⟨⟨v0, v1⟩, by simp only [inR]; omega, ⟨v0, v1⟩, ⟨v0, v1⟩, fun d => ⟨by simp only [inR]; omega, by omega, w6 d⟩, fun d => ⟨by simp only [inR]; omega, by simp only [inR]; omega, ⟨u1, (u2 r).mpr w1⟩, by simp only [inR]; omega, by simp only [inR]; omega, by omega, w7 (by omega)⟩⟩
            · exact hi.elim
          · cases hcut
      · simp only [wp, stp, drp, entL, eL, lget, lset, okst, cnd, swt, rcv, Kr_int, Kr_bool, Kr_void, List.length_cons, List.length_nil, List.replicate, List.append_nil, List.cons_append, List.nil_append, List.take_succ_cons, List.take_zero, List.drop_succ_cons, List.drop_zero, List.reverse_cons, List.reverse_nil, Option.map_some, Option.map_none, Option.toList_some, Option.toList_none, Nat.reduceAdd, Nat.reduceSub, Nat.reduceLT, Nat.reduceLeDiff, Nat.reduceEqDiff, ↓reduceIte, Nat.add_zero, Nat.zero_add, true_and, and_true, Nat.le_refl, reduceCtorEq, false_implies, true_implies, not_true_eq_false, not_false_eq_true, Int.reduceAdd, Int.reduceSub, Int.reduceMul, Int.reduceLE, Int.reduceLT, Int.reduceEq, Int.reduceNe, Int.reduceNeg, Int.reduceDiv, Int.reduceMod, Bool.false_eq_true, Int.le_refl, and_self, true_or, or_true, inR_l, fv0, fv1, fv2, fv3, nc2, nc4, nc6, nc16, nc25, nc60, nc65, nc80, nc130, nc384, nc390, fp_0_0, fp_0_1, fp_0_2, fp_1_0, fp_1_1, fp_1_2, fp_1_3, fp_1_4, fp_1_5, fp_1_6, fp_1_7, fp_1_8, fp_1_9, fp_1_10, fp_1_11, fp_1_12, fp_1_13, fp_1_14, fp_2_0, fp_2_1, fp_2_2, fp_2_3, fp_3_0, fp_3_1, fp_4_0, fp_4_1, fp_4_2, fp_4_3, fp_4_4, fp_4_5, fp_4_6, fp_4_7, fp_5_0, fp_5_1, fp_5_2, fp_5_3, fp_5_4, fp_5_5, fp_5_6, fp_5_7, fp_6_0, fp_6_1, fp_6_2, fp_6_3, fp_6_4, fp_6_5, fp_6_6, fp_6_7, fp_6_8, fp_6_9, fp_6_10, fp_6_11, fp_6_12, fp_6_13, fp_6_14, fp_6_15, fp_7_0, fp_7_1, fp_7_2, fp_7_3, fp_7_4, fp_7_5, fp_7_6, fp_7_7, fp_7_8, fp_7_9, fp_7_10, fp_7_11, fp_7_12, fp_7_13, fp_7_14, fp_7_15, fp_7_16, fp_7_17, fp_7_18, fp_7_19, fp_7_20, fp_7_21, fp_7_22, fp_7_23, fp_7_24, iz_0_1, iz_0_2, iz_1_8, iz_1_9, iz_1_11, iz_2_1, iz_2_2, iz_2_3, iz_3_1, iz_4_1, iz_4_2, iz_5_0, iz_6_8, iz_6_9, iz_6_13, iz_6_14, iz_6_15, iz_7_2, iz_7_6, iz_7_12, iz_7_20, iz_7_21, iz_7_23, iz_7_24, ak_8, ak_9, ak_10, ak_11, ak_12, ak_13, ak_14, ak_15, ak_16, ak_17, ak_18, ak_19, ak_20, ak_21, ak_22, ak_23, ak_24, ak_25, ak_26, ak_27, ak_28, ak_29, ak_30, ak_31, ak_32, ak_33, ak_34, ak_35, ak_36, ak_37, ak_38, ak_39, ak_40, ak_41, ak_42, ak_43, ak_44, ak_45, ak_46, ak_47, ak_48, ak_49, ak_50, ak_51, ak_52, ak_53, ak_54, ak_55, ak_56, el31, el33, el34, CX7_boundOf, ca_X7_boundOf, frX7, kcX7, klX7, T_X7_isOperation2, T_X7_lasts, T_X7_workedOn, T_X7_tailAlone, T_X7_greater, up_ap, false_and, and_false, if_false, if_true, ite_true, ite_false, exists_eq_right_right, exists_eq_right, exists_eq_left, Nat.lt_irrefl, and_self, implies_true, forall_const]
        obtain ⟨⟨p0, p1, p2⟩, h⟩ := h
        exact ⟨by simp only [inR]; omega, ⟨by omega, by omega⟩, rfl, FrG.r, by omega, by omega, fun o a b => by omega⟩
    · exact h.elim
