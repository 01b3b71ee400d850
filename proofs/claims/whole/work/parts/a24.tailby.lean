/-- some pair below x is in both ways, of the row x the first y -/
def bthI (σ : Mem) (x y : Int) : Prop := ∃ a b, 0 ≤ b ∧ b < a ∧ (a < x ∨ (a = x ∧ b < y)) ∧ fst1 (σ 54 0 a) b ∧ fst1 (σ 54 0 b) a
theorem bthI_0 {σ : Mem} : ¬ bthI σ 0 0 := fun ⟨a, b, h1, h2, h3, _⟩ => by omega
theorem bthI_r {σ : Mem} {x y : Int} (h : ¬ y < x) : bthI σ x y ↔ bthI σ (x + 1) 0 := by
  constructor
  · rintro ⟨a, b, h1, h2, h3, h4⟩
    exact ⟨a, b, h1, h2, by omega, h4⟩
  · rintro ⟨a, b, h1, h2, h3, h4⟩
    exact ⟨a, b, h1, h2, by omega, h4⟩
theorem bthI_s {σ : Mem} {x y : Int} (y0 : 0 ≤ y) (h : y < x) : bthI σ x (y + 1) ↔ bthI σ x y ∨ (fst1 (σ 54 0 x) y ∧ fst1 (σ 54 0 y) x) := by
  constructor
  · rintro ⟨a, b, h1, h2, h3, h4⟩
    by_cases z : a = x ∧ b = y
    · obtain ⟨rfl, rfl⟩ := z
      exact Or.inr h4
    · exact Or.inl ⟨a, b, h1, h2, by omega, h4⟩
  · rintro (⟨a, b, h1, h2, h3, h4⟩ | h4)
    · exact ⟨a, b, h1, h2, by omega, h4⟩
    · exact ⟨x, y, y0, h, by omega, h4⟩
def ca_X7_tailBy : Nat → Option (Nat × Nat × Tr)
  | 124 => some (2, 7, T_X7_behindOnRoute)
  | 127 => some (2, 7, T_X7_withTail)
  | 239 => some (3, 7, T_X7_isSet2)
  | 108 => some (2, 99, T_X7_greater)
  | _ => none
theorem cao_X7_tailBy (l : Launch) : ∀ k n' ci T', ca_X7_tailBy k = some (n', ci, T') → ∃ nn, nn + 1 ≤ 2 ∧ Site l yX7_tailBy.cls k n' ci nn T' := by
  intro k n' ci T' h
  unfold ca_X7_tailBy at h
  split at h
  · cases h; exact ⟨1, by decide, _, _, _, _, k_X7_behindOnRoute l, Or.inl ⟨_, rfl, FX7_behindOnRoute, KRX7_124⟩⟩
  · cases h; exact ⟨1, by decide, _, _, _, _, k_X7_withTail l, Or.inl ⟨_, rfl, FX7_withTail, KRX7_127⟩⟩
  · cases h; exact ⟨0, by decide, _, _, _, _, k_X7_isSet2 l, Or.inl ⟨_, rfl, FX7_isSet, KRX7_239⟩⟩
  · cases h; exact ⟨0, by decide, _, _, _, _, k_X7_greater l, Or.inr ⟨rfl, FX7_greater, Or.inl ⟨rfl, KRX7_108⟩⟩⟩
  · cases h
def T_X7_tailBy : Tr := fun a σ K => match a with
  | [.inr (.inl (7, 0)), .inl o] => (fOK σ ∧ rOp σ o) ∧ ∀ r, MxO (aRt σ o) (aRt σ o) (fun k => fst1 (σ 54 0 k) o) (wTF σ) 16 r → K (some r) σ
  | _ => False
set_option maxHeartbeats 8000000 in
set_option maxRecDepth 20000 in
theorem k_X7_tailBy (l : Launch) : Ct l yX7_tailBy cX7_tailBy 4 (some .int) 2 T_X7_tailBy := by
  refine mk_met (by decide +kernel) hCX7_tailBy lCX7_tailBy frX7_ok cstX7_ok (cao_X7_tailBy l) ?_ ?_
  · intro a σ K h
    unfold T_X7_tailBy at h
    split at h
    · simp [eL]
    · exact h.elim
  · intro a σ K ha hR h
    unfold T_X7_tailBy at h
    split at h
    · rename_i o
      refine ⟨fun pc => if pc = 12 then some (fun L S σ' k => match L, S with | [some (.inr (.inl c1)), some (.inl o'), some (.inl r), some (.inl x)], [] => (c1 = (7, 0) ∧ o' = o ∧ 0 ≤ x ∧ x ≤ 16 ∧ MxO (aRt σ o) (aRt σ o) (fun k => fst1 (σ 54 0 k) o) (wTF σ) x r ∧ σ' = σ) ∧ k = (20 - x).toNat | _, _ => False) else none, 200, ?_, ?_⟩
      · intro pc I L S σ' k hcut hi
        dsimp only at hcut
        split at hcut
        · rename_i hpc
          subst hpc
          cases hcut
          try dsimp only at hi
          split at hi
          · rename_i c1 o' r x
            obtain ⟨hi, rfl⟩ := hi
            obtain ⟨rfl, rfl, h0, h1, hI, rfl⟩ := hi
            obtain ⟨⟨p0, p1⟩, h⟩ := h
            simp only [wp, stp, drp, entL, eL, lget, lset, okst, cnd, swt, rcv, Kr_int, Kr_bool, Kr_void, List.length_cons, List.length_nil, List.replicate, List.append_nil, List.cons_append, List.nil_append, List.take_succ_cons, List.take_zero, List.drop_succ_cons, List.drop_zero, List.reverse_cons, List.reverse_nil, Option.map_some, Option.map_none, Option.toList_some, Option.toList_none, Nat.reduceAdd, Nat.reduceSub, Nat.reduceLT, Nat.reduceLeDiff, Nat.reduceEqDiff, ↓reduceIte, Nat.add_zero, Nat.zero_add, true_and, and_true, Nat.le_refl, reduceCtorEq, false_implies, true_implies, not_true_eq_false, not_false_eq_true, Int.reduceAdd, Int.reduceSub, Int.reduceMul, Int.reduceLE, Int.reduceLT, Int.reduceEq, Int.reduceNe, Int.reduceNeg, Int.reduceDiv, Int.reduceMod, Bool.false_eq_true, Int.le_refl, and_self, true_or, or_true, inR_l, fv0, fv1, fv2, fv3, nc2, nc4, nc6, nc16, nc25, nc60, nc65, nc80, nc130, nc384, nc390, fp_0_0, fp_0_1, fp_0_2, fp_1_0, fp_1_1, fp_1_2, fp_1_3, fp_1_4, fp_1_5, fp_1_6, fp_1_7, fp_1_8, fp_1_9, fp_1_10, fp_1_11, fp_1_12, fp_1_13, fp_1_14, fp_2_0, fp_2_1, fp_2_2, fp_2_3, fp_3_0, fp_3_1, fp_4_0, fp_4_1, fp_4_2, fp_4_3, fp_4_4, fp_4_5, fp_4_6, fp_4_7, fp_5_0, fp_5_1, fp_5_2, fp_5_3, fp_5_4, fp_5_5, fp_5_6, fp_5_7, fp_6_0, fp_6_1, fp_6_2, fp_6_3, fp_6_4, fp_6_5, fp_6_6, fp_6_7, fp_6_8, fp_6_9, fp_6_10, fp_6_11, fp_6_12, fp_6_13, fp_6_14, fp_6_15, fp_7_0, fp_7_1, fp_7_2, fp_7_3, fp_7_4, fp_7_5, fp_7_6, fp_7_7, fp_7_8, fp_7_9, fp_7_10, fp_7_11, fp_7_12, fp_7_13, fp_7_14, fp_7_15, fp_7_16, fp_7_17, fp_7_18, fp_7_19, fp_7_20, fp_7_21, fp_7_22, fp_7_23, fp_7_24, iz_0_1, iz_0_2, iz_1_8, iz_1_9, iz_1_11, iz_2_1, iz_2_2, iz_2_3, iz_3_1, iz_4_1, iz_4_2, iz_5_0, iz_6_8, iz_6_9, iz_6_13, iz_6_14, iz_6_15, iz_7_2, iz_7_6, iz_7_12, iz_7_20, iz_7_21, iz_7_23, iz_7_24, ak_8, ak_9, ak_10, ak_11, ak_12, ak_13, ak_14, ak_15, ak_16, ak_17, ak_18, ak_19, ak_20, ak_21, ak_22, ak_23, ak_24, ak_25, ak_26, ak_27, ak_28, ak_29, ak_30, ak_31, ak_32, ak_33, ak_34, ak_35, ak_36, ak_37, ak_38, ak_39, ak_40, ak_41, ak_42, ak_43, ak_44, ak_45, ak_46, ak_47, ak_48, ak_49, ak_50, ak_51, ak_52, ak_53, ak_54, ak_55, ak_56, el31, el33, el34, CX7_tailBy, ca_X7_tailBy, frX7, kcX7, klX7, T_X7_behindOnRoute, T_X7_withTail, T_X7_isSet2, T_X7_greater, up_ap, false_and, and_false, if_false, if_true, ite_true, ite_false, exists_eq_right_right, exists_eq_right, exists_eq_left, Nat.lt_irrefl, and_self, implies_true, forall_const]
            have ee : σ' 38 0 (14 + 2 * x) + σ' 46 0 x = wTF σ' x := rfl
            rw [if_neg (show ¬ x < 0 by omega), ee]
            refine ⟨fun a => h _ (by rw [show (16 : Int) = x by omega]; exact hI), fun a => ⟨⟨h0, by omega⟩, fun b => ?_, fun b => ⟨by simp only [inR]; omega, by omega, by omega, by omega, MxO_n hI b⟩⟩⟩
            have v := (p0.2 x o' h0 (by omega) p1.1 p1.2.1 b).1
            have hr := eF_r p0 v
            exact ⟨⟨by omega, fun _ => by simp only [inR]; omega⟩, by simp only [inR]; omega, by omega, by omega, by omega, MxO_y hI h0 b⟩
          · exact hi.elim
        · cases hcut
      · simp only [wp, stp, drp, entL, eL, lget, lset, okst, cnd, swt, rcv, Kr_int, Kr_bool, Kr_void, List.length_cons, List.length_nil, List.replicate, List.append_nil, List.cons_append, List.nil_append, List.take_succ_cons, List.take_zero, List.drop_succ_cons, List.drop_zero, List.reverse_cons, List.reverse_nil, Option.map_some, Option.map_none, Option.toList_some, Option.toList_none, Nat.reduceAdd, Nat.reduceSub, Nat.reduceLT, Nat.reduceLeDiff, Nat.reduceEqDiff, ↓reduceIte, Nat.add_zero, Nat.zero_add, true_and, and_true, Nat.le_refl, reduceCtorEq, false_implies, true_implies, not_true_eq_false, not_false_eq_true, Int.reduceAdd, Int.reduceSub, Int.reduceMul, Int.reduceLE, Int.reduceLT, Int.reduceEq, Int.reduceNe, Int.reduceNeg, Int.reduceDiv, Int.reduceMod, Bool.false_eq_true, Int.le_refl, and_self, true_or, or_true, inR_l, fv0, fv1, fv2, fv3, nc2, nc4, nc6, nc16, nc25, nc60, nc65, nc80, nc130, nc384, nc390, fp_0_0, fp_0_1, fp_0_2, fp_1_0, fp_1_1, fp_1_2, fp_1_3, fp_1_4, fp_1_5, fp_1_6, fp_1_7, fp_1_8, fp_1_9, fp_1_10, fp_1_11, fp_1_12, fp_1_13, fp_1_14, fp_2_0, fp_2_1, fp_2_2, fp_2_3, fp_3_0, fp_3_1, fp_4_0, fp_4_1, fp_4_2, fp_4_3, fp_4_4, fp_4_5, fp_4_6, fp_4_7, fp_5_0, fp_5_1, fp_5_2, fp_5_3, fp_5_4, fp_5_5, fp_5_6, fp_5_7, fp_6_0, fp_6_1, fp_6_2, fp_6_3, fp_6_4, fp_6_5, fp_6_6, fp_6_7, fp_6_8, fp_6_9, fp_6_10, fp_6_11, fp_6_12, fp_6_13, fp_6_14, fp_6_15, fp_7_0, fp_7_1, fp_7_2, fp_7_3, fp_7_4, fp_7_5, fp_7_6, fp_7_7, fp_7_8, fp_7_9, fp_7_10, fp_7_11, fp_7_12, fp_7_13, fp_7_14, fp_7_15, fp_7_16, fp_7_17, fp_7_18, fp_7_19, fp_7_20, fp_7_21, fp_7_22, fp_7_23, fp_7_24, iz_0_1, iz_0_2, iz_1_8, iz_1_9, iz_1_11, iz_2_1, iz_2_2, iz_2_3, iz_3_1, iz_4_1, iz_4_2, iz_5_0, iz_6_8, iz_6_9, iz_6_13, iz_6_14, iz_6_15, iz_7_2, iz_7_6, iz_7_12, iz_7_20, iz_7_21, iz_7_23, iz_7_24, ak_8, ak_9, ak_10, ak_11, ak_12, ak_13, ak_14, ak_15, ak_16, ak_17, ak_18, ak_19, ak_20, ak_21, ak_22, ak_23, ak_24, ak_25, ak_26, ak_27, ak_28, ak_29, ak_30, ak_31, ak_32, ak_33, ak_34, ak_35, ak_36, ak_37, ak_38, ak_39, ak_40, ak_41, ak_42, ak_43, ak_44, ak_45, ak_46, ak_47, ak_48, ak_49, ak_50, ak_51, ak_52, ak_53, ak_54, ak_55, ak_56, el31, el33, el34, CX7_tailBy, ca_X7_tailBy, frX7, kcX7, klX7, T_X7_behindOnRoute, T_X7_withTail, T_X7_isSet2, T_X7_greater, up_ap, false_and, and_false, if_false, if_true, ite_true, ite_false, exists_eq_right_right, exists_eq_right, exists_eq_left, Nat.lt_irrefl, and_self, implies_true, forall_const]
        obtain ⟨⟨p0, p1⟩, h⟩ := h
        have s0 := rOp_s p0.1.1 p1
        have es : σ 38 0 (1 + 3 * (o / 4) + 2) = rSt σ (o / 4) := rfl
        rw [es]
        have eb : (if (if o % 4 + 1 < rSt σ (o / 4) then o + 1 else -6) < 0 then 0 else σ 38 0 (14 + 2 * if o % 4 + 1 < rSt σ (o / 4) then o + 1 else -6) + σ 46 0 (if o % 4 + 1 < rSt σ (o / 4) then o + 1 else -6)) = aRt σ o := by
          unfold aRt
          by_cases c : o % 4 + 1 < rSt σ (o / 4)
          · rw [if_pos c, if_pos c, if_neg (by omega)]
            rfl
          · rw [if_neg c, if_neg c, if_pos (by omega)]
        rw [eb]
        have hM := MxO_0 (a := aRt σ o) (b := aRt σ o) (P := fun k => fst1 (σ 54 0 k) o) (f := wTF σ)
        rw [if_neg (by omega)] at hM
        refine ⟨⟨by omega, by omega⟩, ⟨?_, fun z => ?_⟩, hM⟩
        · split <;> omega
        · by_cases c : o % 4 + 1 < rSt σ (o / 4)
          · rw [if_pos c]
            have v : rOp σ (o + 1) := ⟨by omega, by omega, by show (o + 1) % 4 < rSt σ ((o + 1) / 4); rw [show (o + 1) / 4 = o / 4 by omega]; omega⟩
            have hr := eF_r p0 v
            unfold wTF rDu at hr
            simp only [inR]
            omega
          · rw [if_neg c] at z
            omega
    · exact h.elim
def ca_X7_isForcedBoth : Nat → Option (Nat × Nat × Tr)
  | 239 => some (3, 7, T_X7_isSet2)
  | _ => none
theorem cao_X7_isForcedBoth (l : Launch) : ∀ k n' ci T', ca_X7_isForcedBoth k = some (n', ci, T') → ∃ nn, nn + 1 ≤ 1 ∧ Site l yX7_isForcedBoth.cls k n' ci nn T' := by
  intro k n' ci T' h
  unfold ca_X7_isForcedBoth at h
  split at h
  · cases h; exact ⟨0, by decide, _, _, _, _, k_X7_isSet2 l, Or.inl ⟨_, rfl, FX7_isSet, KRX7_239⟩⟩
  · cases h
def T_X7_isForcedBoth : Tr := fun a σ K => match a with
  | [.inr (.inl (7, 0))] => (bthI σ 16 0 → K (some 1) σ) ∧ (¬ bthI σ 16 0 → K (some 0) σ)
  | _ => False
set_option maxHeartbeats 8000000 in
set_option maxRecDepth 20000 in
theorem k_X7_isForcedBoth (l : Launch) : Ct l yX7_isForcedBoth cX7_isForcedBoth 4 (some .boolean) 1 T_X7_isForcedBoth := by
  refine mk_met (by decide +kernel) hCX7_isForcedBoth lCX7_isForcedBoth frX7_ok cstX7_ok (cao_X7_isForcedBoth l) ?_ ?_
  · intro a σ K h
    unfold T_X7_isForcedBoth at h
    split at h
    · simp [eL]
    · exact h.elim
  · intro a σ K ha hR h
    unfold T_X7_isForcedBoth at h
    split at h
    · refine ⟨fun pc => if pc = 4 then some (fun L S σ' k => match L, S with | [some (.inr (.inl c1)), some (.inl bo), some (.inl x), _], [] => (c1 = (7, 0) ∧ 0 ≤ x ∧ x ≤ 16 ∧ ((bo = 1 ∧ bthI σ x 0) ∨ (bo = 0 ∧ ¬ bthI σ x 0)) ∧ σ' = σ) ∧ k = ((20 - x) * 100).toNat | _, _ => False) else if pc = 12 then some (fun L S σ' k => match L, S with | [some (.inr (.inl c1)), some (.inl bo), some (.inl x), some (.inl y)], [] => (c1 = (7, 0) ∧ 0 ≤ x ∧ x < 16 ∧ 0 ≤ y ∧ y ≤ x ∧ ((bo = 1 ∧ bthI σ x y) ∨ (bo = 0 ∧ ¬ bthI σ x y)) ∧ σ' = σ) ∧ k = ((20 - x) * 100 - 1 - y).toNat | _, _ => False) else none, 200, ?_, ?_⟩
      · intro pc I L S σ' k hcut hi
        dsimp only at hcut
        split at hcut
        · rename_i hpc
          subst hpc
          cases hcut
          try dsimp only at hi
          split at hi
          · rename_i c1 bo x x1
            obtain ⟨hi, rfl⟩ := hi
            obtain ⟨rfl, h0, h1, hI, rfl⟩ := hi
            obtain ⟨hy, hn⟩ := h
            simp only [wp, stp, drp, entL, eL, lget, lset, okst, cnd, swt, rcv, Kr_int, Kr_bool, Kr_void, List.length_cons, List.length_nil, List.replicate, List.append_nil, List.cons_append, List.nil_append, List.take_succ_cons, List.take_zero, List.drop_succ_cons, List.drop_zero, List.reverse_cons, List.reverse_nil, Option.map_some, Option.map_none, Option.toList_some, Option.toList_none, Nat.reduceAdd, Nat.reduceSub, Nat.reduceLT, Nat.reduceLeDiff, Nat.reduceEqDiff, ↓reduceIte, Nat.add_zero, Nat.zero_add, true_and, and_true, Nat.le_refl, reduceCtorEq, false_implies, true_implies, not_true_eq_false, not_false_eq_true, Int.reduceAdd, Int.reduceSub, Int.reduceMul, Int.reduceLE, Int.reduceLT, Int.reduceEq, Int.reduceNe, Int.reduceNeg, Int.reduceDiv, Int.reduceMod, Bool.false_eq_true, Int.le_refl, and_self, true_or, or_true, inR_l, fv0, fv1, fv2, fv3, nc2, nc4, nc6, nc16, nc25, nc60, nc65, nc80, nc130, nc384, nc390, fp_0_0, fp_0_1, fp_0_2, fp_1_0, fp_1_1, fp_1_2, fp_1_3, fp_1_4, fp_1_5, fp_1_6, fp_1_7, fp_1_8, fp_1_9, fp_1_10, fp_1_11, fp_1_12, fp_1_13, fp_1_14, fp_2_0, fp_2_1, fp_2_2, fp_2_3, fp_3_0, fp_3_1, fp_4_0, fp_4_1, fp_4_2, fp_4_3, fp_4_4, fp_4_5, fp_4_6, fp_4_7, fp_5_0, fp_5_1, fp_5_2, fp_5_3, fp_5_4, fp_5_5, fp_5_6, fp_5_7, fp_6_0, fp_6_1, fp_6_2, fp_6_3, fp_6_4, fp_6_5, fp_6_6, fp_6_7, fp_6_8, fp_6_9, fp_6_10, fp_6_11, fp_6_12, fp_6_13, fp_6_14, fp_6_15, fp_7_0, fp_7_1, fp_7_2, fp_7_3, fp_7_4, fp_7_5, fp_7_6, fp_7_7, fp_7_8, fp_7_9, fp_7_10, fp_7_11, fp_7_12, fp_7_13, fp_7_14, fp_7_15, fp_7_16, fp_7_17, fp_7_18, fp_7_19, fp_7_20, fp_7_21, fp_7_22, fp_7_23, fp_7_24, iz_0_1, iz_0_2, iz_1_8, iz_1_9, iz_1_11, iz_2_1, iz_2_2, iz_2_3, iz_3_1, iz_4_1, iz_4_2, iz_5_0, iz_6_8, iz_6_9, iz_6_13, iz_6_14, iz_6_15, iz_7_2, iz_7_6, iz_7_12, iz_7_20, iz_7_21, iz_7_23, iz_7_24, ak_8, ak_9, ak_10, ak_11, ak_12, ak_13, ak_14, ak_15, ak_16, ak_17, ak_18, ak_19, ak_20, ak_21, ak_22, ak_23, ak_24, ak_25, ak_26, ak_27, ak_28, ak_29, ak_30, ak_31, ak_32, ak_33, ak_34, ak_35, ak_36, ak_37, ak_38, ak_39, ak_40, ak_41, ak_42, ak_43, ak_44, ak_45, ak_46, ak_47, ak_48, ak_49, ak_50, ak_51, ak_52, ak_53, ak_54, ak_55, ak_56, el31, el33, el34, CX7_isForcedBoth, ca_X7_isForcedBoth, frX7, kcX7, klX7, T_X7_isSet2, up_ap, false_and, and_false, if_false, if_true, ite_true, ite_false, exists_eq_right_right, exists_eq_right, exists_eq_left, Nat.lt_irrefl, and_self, implies_true, forall_const]
            refine ⟨fun a => ?_, fun a => ⟨by omega, h0, by omega, h0, hI⟩⟩
            have e : x = 16 := by omega
            rw [e] at hI
            rcases hI with ⟨z, y⟩ | ⟨z, y⟩
            · rw [z]
              exact ⟨Or.inr rfl, hy y⟩
            · rw [z]
              exact ⟨Or.inl rfl, hn y⟩
          · exact hi.elim
        · split at hcut
          · rename_i hpc
            subst hpc
            cases hcut
            try dsimp only at hi
            split at hi
            · rename_i c1 bo x y
              obtain ⟨hi, rfl⟩ := hi
              obtain ⟨rfl, h0, h1, h2, h3, hI, rfl⟩ := hi
              obtain ⟨hy, hn⟩ := h
              simp only [wp, stp, drp, entL, eL, lget, lset, okst, cnd, swt, rcv, Kr_int, Kr_bool, Kr_void, List.length_cons, List.length_nil, List.replicate, List.append_nil, List.cons_append, List.nil_append, List.take_succ_cons, List.take_zero, List.drop_succ_cons, List.drop_zero, List.reverse_cons, List.reverse_nil, Option.map_some, Option.map_none, Option.toList_some, Option.toList_none, Nat.reduceAdd, Nat.reduceSub, Nat.reduceLT, Nat.reduceLeDiff, Nat.reduceEqDiff, ↓reduceIte, Nat.add_zero, Nat.zero_add, true_and, and_true, Nat.le_refl, reduceCtorEq, false_implies, true_implies, not_true_eq_false, not_false_eq_true, Int.reduceAdd, Int.reduceSub, Int.reduceMul, Int.reduceLE, Int.reduceLT, Int.reduceEq, Int.reduceNe, Int.reduceNeg, Int.reduceDiv, Int.reduceMod, Bool.false_eq_true, Int.le_refl, and_self, true_or, or_true, inR_l, fv0, fv1, fv2, fv3, nc2, nc4, nc6, nc16, nc25, nc60, nc65, nc80, nc130, nc384, nc390, fp_0_0, fp_0_1, fp_0_2, fp_1_0, fp_1_1, fp_1_2, fp_1_3, fp_1_4, fp_1_5, fp_1_6, fp_1_7, fp_1_8, fp_1_9, fp_1_10, fp_1_11, fp_1_12, fp_1_13, fp_1_14, fp_2_0, fp_2_1, fp_2_2, fp_2_3, fp_3_0, fp_3_1, fp_4_0, fp_4_1, fp_4_2, fp_4_3, fp_4_4, fp_4_5, fp_4_6, fp_4_7, fp_5_0, fp_5_1, fp_5_2, fp_5_3, fp_5_4, fp_5_5, fp_5_6, fp_5_7, fp_6_0, fp_6_1, fp_6_2, fp_6_3, fp_6_4, fp_6_5, fp_6_6, fp_6_7, fp_6_8, fp_6_9, fp_6_10, fp_6_11, fp_6_12, fp_6_13, fp_6_14, fp_6_15, fp_7_0, fp_7_1, fp_7_2, fp_7_3, fp_7_4, fp_7_5, fp_7_6, fp_7_7, fp_7_8, fp_7_9, fp_7_10, fp_7_11, fp_7_12, fp_7_13, fp_7_14, fp_7_15, fp_7_16, fp_7_17, fp_7_18, fp_7_19, fp_7_20, fp_7_21, fp_7_22, fp_7_23, fp_7_24, iz_0_1, iz_0_2, iz_1_8, iz_1_9, iz_1_11, iz_2_1, iz_2_2, iz_2_3, iz_3_1, iz_4_1, iz_4_2, iz_5_0, iz_6_8, iz_6_9, iz_6_13, iz_6_14, iz_6_15, iz_7_2, iz_7_6, iz_7_12, iz_7_20, iz_7_21, iz_7_23, iz_7_24, ak_8, ak_9, ak_10, ak_11, ak_12, ak_13, ak_14, ak_15, ak_16, ak_17, ak_18, ak_19, ak_20, ak_21, ak_22, ak_23, ak_24, ak_25, ak_26, ak_27, ak_28, ak_29, ak_30, ak_31, ak_32, ak_33, ak_34, ak_35, ak_36, ak_37, ak_38, ak_39, ak_40, ak_41, ak_42, ak_43, ak_44, ak_45, ak_46, ak_47, ak_48, ak_49, ak_50, ak_51, ak_52, ak_53, ak_54, ak_55, ak_56, el31, el33, el34, CX7_isForcedBoth, ca_X7_isForcedBoth, frX7, kcX7, klX7, T_X7_isSet2, up_ap, false_and, and_false, if_false, if_true, ite_true, ite_false, exists_eq_right_right, exists_eq_right, exists_eq_left, Nat.lt_irrefl, and_self, implies_true, forall_const]
              have N : ∀ ft : Prop, ft → ¬ x ≤ y → inR (y + 1) ∧ ((20 - x) * 100 - 1 - (y + 1)).toNat < ((20 - x) * 100 - 1 - y).toNat ∧ 0 ≤ x ∧ x < 16 ∧ 0 ≤ y + 1 ∧ y + 1 ≤ x ∧ ft := fun ft q a => ⟨by simp only [inR]; omega, by omega, h0, h1, by omega, by omega, q⟩
              have hnb : ¬ bo ≠ 0 → ¬ bthI σ' x y := fun b => by
                rcases hI with ⟨z, w⟩ | ⟨z, w⟩
                · omega
                · exact w
              have hyb : bo ≠ 0 → bthI σ' x y := fun b => by
                rcases hI with ⟨z, w⟩ | ⟨z, w⟩
                · exact w
                · exact absurd z b
              refine ⟨fun a => ⟨by simp only [inR]; omega, by omega, by omega, by omega, by rw [← bthI_r (show ¬ y < x by omega)]; exact hI⟩, fun a => ⟨fun b => N _ (Or.inl ((bthI_s h2 (by omega)).mpr (Or.inl (hyb b)))) a, fun b => ⟨⟨h0, h1⟩, fun c => ⟨⟨h2, by omega⟩, fun d => N _ (Or.inl ((bthI_s h2 (by omega)).mpr (Or.inr ⟨c, d⟩))) a, fun d => N _ (Or.inr (fun w => ((bthI_s h2 (by omega)).mp w).elim (hnb b) (fun q => d q.2))) a⟩, fun c => N _ (Or.inr (fun w => ((bthI_s h2 (by omega)).mp w).elim (hnb b) (fun q => c q.1))) a⟩⟩⟩
            · exact hi.elim
          · cases hcut
      · simp only [wp, stp, drp, entL, eL, lget, lset, okst, cnd, swt, rcv, Kr_int, Kr_bool, Kr_void, List.length_cons, List.length_nil, List.replicate, List.append_nil, List.cons_append, List.nil_append, List.take_succ_cons, List.take_zero, List.drop_succ_cons, List.drop_zero, List.reverse_cons, List.reverse_nil, Option.map_some, Option.map_none, Option.toList_some, Option.toList_none, Nat.reduceAdd, Nat.reduceSub, Nat.reduceLT, Nat.reduceLeDiff, Nat.reduceEqDiff, ↓reduceIte, Nat.add_zero, Nat.zero_add, true_and, and_true, Nat.le_refl, reduceCtorEq, false_implies, true_implies, not_true_eq_false, not_false_eq_true, Int.reduceAdd, Int.reduceSub, Int.reduceMul, Int.reduceLE, Int.reduceLT, Int.reduceEq, Int.reduceNe, Int.reduceNeg, Int.reduceDiv, Int.reduceMod, Bool.false_eq_true, Int.le_refl, and_self, true_or, or_true, inR_l, fv0, fv1, fv2, fv3, nc2, nc4, nc6, nc16, nc25, nc60, nc65, nc80, nc130, nc384, nc390, fp_0_0, fp_0_1, fp_0_2, fp_1_0, fp_1_1, fp_1_2, fp_1_3, fp_1_4, fp_1_5, fp_1_6, fp_1_7, fp_1_8, fp_1_9, fp_1_10, fp_1_11, fp_1_12, fp_1_13, fp_1_14, fp_2_0, fp_2_1, fp_2_2, fp_2_3, fp_3_0, fp_3_1, fp_4_0, fp_4_1, fp_4_2, fp_4_3, fp_4_4, fp_4_5, fp_4_6, fp_4_7, fp_5_0, fp_5_1, fp_5_2, fp_5_3, fp_5_4, fp_5_5, fp_5_6, fp_5_7, fp_6_0, fp_6_1, fp_6_2, fp_6_3, fp_6_4, fp_6_5, fp_6_6, fp_6_7, fp_6_8, fp_6_9, fp_6_10, fp_6_11, fp_6_12, fp_6_13, fp_6_14, fp_6_15, fp_7_0, fp_7_1, fp_7_2, fp_7_3, fp_7_4, fp_7_5, fp_7_6, fp_7_7, fp_7_8, fp_7_9, fp_7_10, fp_7_11, fp_7_12, fp_7_13, fp_7_14, fp_7_15, fp_7_16, fp_7_17, fp_7_18, fp_7_19, fp_7_20, fp_7_21, fp_7_22, fp_7_23, fp_7_24, iz_0_1, iz_0_2, iz_1_8, iz_1_9, iz_1_11, iz_2_1, iz_2_2, iz_2_3, iz_3_1, iz_4_1, iz_4_2, iz_5_0, iz_6_8, iz_6_9, iz_6_13, iz_6_14, iz_6_15, iz_7_2, iz_7_6, iz_7_12, iz_7_20, iz_7_21, iz_7_23, iz_7_24, ak_8, ak_9, ak_10, ak_11, ak_12, ak_13, ak_14, ak_15, ak_16, ak_17, ak_18, ak_19, ak_20, ak_21, ak_22, ak_23, ak_24, ak_25, ak_26, ak_27, ak_28, ak_29, ak_30, ak_31, ak_32, ak_33, ak_34, ak_35, ak_36, ak_37, ak_38, ak_39, ak_40, ak_41, ak_42, ak_43, ak_44, ak_45, ak_46, ak_47, ak_48, ak_49, ak_50, ak_51, ak_52, ak_53, ak_54, ak_55, ak_56, el31, el33, el34, CX7_isForcedBoth, ca_X7_isForcedBoth, frX7, kcX7, klX7, T_X7_isSet2, up_ap, false_and, and_false, if_false, if_true, ite_true, ite_false, exists_eq_right_right, exists_eq_right, exists_eq_left, Nat.lt_irrefl, and_self, implies_true, forall_const]
        exact Or.inr bthI_0
    · exact h.elim
