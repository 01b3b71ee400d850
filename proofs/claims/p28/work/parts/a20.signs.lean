/-! a number that gives characters -/
def q64 (x : Int64) : Prop := (lg_cmp x (Int64.ofNat 0)).toInt = 0
def lo64 (x : Int64) : Int := (x &&& 255).toInt32.toInt
def sh64 (x : Int64) : Int64 := (x.toUInt64 >>> ((Int32.ofInt 8).toInt64.toUInt64 &&& Int64.toUInt64 63)).toInt64
/-- how many it gives, -2: it may not be put -/
noncomputable def sgS : Nat → Int64 → Int → Int
  | 0, x, c => cif (c = 0 ∨ ¬ q64 x) (-2) c
  | f + 1, x, c => cif (q64 (x &&& 255)) (cif (c = 0 ∨ ¬ q64 x) (-2) c) (cif (33 ≤ lo64 x ∧ lo64 x ≤ 126) (sgS f (sh64 x) (c + 1)) (-2))
theorem sgS_1 (f : Nat) (x : Int64) (c : Int) : sgS (f + 1) x c = cif (q64 (x &&& 255)) (cif (c = 0 ∨ ¬ q64 x) (-2) c) (cif (33 ≤ lo64 x ∧ lo64 x ≤ 126) (sgS f (sh64 x) (c + 1)) (-2)) := rfl
def ca_X6_signsIn : Nat → Option (Nat × Nat × Tr)
  | 68 => some (3, 99, T_X6_within2)
  | _ => none
theorem cao_X6_signsIn (l : Launch) : ∀ k n' ci T', ca_X6_signsIn k = some (n', ci, T') → ∃ nn, nn + 1 ≤ 1 ∧ Site l yX6_signsIn.cls k n' ci nn T' := by
  intro k n' ci T' h
  unfold ca_X6_signsIn at h
  split at h
  · cases h; exact ⟨0, by decide, _, _, _, _, k_X6_within2 l, Or.inr ⟨rfl, FX6_within, Or.inl ⟨rfl, KRX6_68⟩⟩⟩
  · cases h
def T_X6_signsIn : Tr := fun a σ K => match a with
  | [.inr (.inr x)] => K (some (sgS 8 x 0)) σ
  | _ => False
set_option maxHeartbeats 8000000 in
set_option maxRecDepth 20000 in
theorem k_X6_signsIn (l : Launch) : Ct l yX6_signsIn cX6_signsIn 6 (some .int) 1 T_X6_signsIn := by
  refine mk_met (by decide +kernel) hCX6_signsIn lCX6_signsIn frX6_ok cstX6_ok (cao_X6_signsIn l) ?_ ?_
  · intro a σ K h
    unfold T_X6_signsIn at h
    split at h
    · simp [eL]
    · exact h.elim
  · intro a σ K ha hR h
    unfold T_X6_signsIn at h
    split at h
    · rename_i x
      refine ⟨fun pc => if pc = 4 then some (fun L S σ' k => match L, S with | [some (.inr (.inr x')), none, some (.inl c), some (.inr (.inr y)), none, _], [] => (x' = x ∧ 0 ≤ c ∧ c ≤ 8 ∧ sgS 8 x 0 = sgS (8 - c).toNat y c ∧ σ' = σ) ∧ k = (8 - c).toNat | _, _ => False) else none, 200, ?_, ?_⟩
      · intro pc I L S σ' k hcut hi
        dsimp only at hcut
        split at hcut
        · rename_i hpc
          subst hpc
          cases hcut
          try dsimp only at hi
          split at hi
          · rename_i x' c y x3
            obtain ⟨hi, rfl⟩ := hi
            obtain ⟨rfl, h0, h1, h2, rfl⟩ := hi
            simp only [wp, stp, drp, entL, eL, lget, lset, okst, cnd, swt, rcv, Kr_int, Kr_bool, Kr_void, List.length_cons, List.length_nil, List.replicate, List.append_nil, List.cons_append, List.nil_append, List.take_succ_cons, List.take_zero, List.drop_succ_cons, List.drop_zero, List.reverse_cons, List.reverse_nil, Option.map_some, Option.map_none, Option.toList_some, Option.toList_none, Nat.reduceAdd, Nat.reduceSub, Nat.reduceLT, Nat.reduceLeDiff, Nat.reduceEqDiff, ↓reduceIte, Nat.add_zero, Nat.zero_add, true_and, and_true, Nat.le_refl, reduceCtorEq, false_implies, true_implies, not_true_eq_false, not_false_eq_true, Int.reduceAdd, Int.reduceSub, Int.reduceMul, Int.reduceLE, Int.reduceLT, Int.reduceEq, Int.reduceNe, Int.reduceNeg, Int.reduceDiv, Int.reduceMod, Bool.false_eq_true, Int.le_refl, and_self, true_or, or_true, inR_l, fv0, fv1, fv2, fv3, nc2, nc4, nc6, nc16, nc25, nc60, nc65, nc80, nc130, nc384, nc390, fp_0_0, fp_0_1, fp_0_2, fp_1_0, fp_1_1, fp_1_2, fp_1_3, fp_1_4, fp_1_5, fp_1_6, fp_1_7, fp_1_8, fp_1_9, fp_1_10, fp_1_11, fp_1_12, fp_1_13, fp_1_14, fp_2_0, fp_2_1, fp_2_2, fp_2_3, fp_3_0, fp_3_1, fp_4_0, fp_4_1, fp_4_2, fp_4_3, fp_4_4, fp_4_5, fp_4_6, fp_4_7, fp_5_0, fp_5_1, fp_5_2, fp_5_3, fp_5_4, fp_5_5, fp_5_6, fp_5_7, fp_6_0, fp_6_1, fp_6_2, fp_6_3, fp_6_4, fp_6_5, fp_6_6, fp_6_7, fp_6_8, fp_6_9, fp_6_10, fp_6_11, fp_6_12, fp_6_13, fp_6_14, fp_6_15, fp_7_0, fp_7_1, fp_7_2, fp_7_3, fp_7_4, fp_7_5, fp_7_6, fp_7_7, fp_7_8, fp_7_9, fp_7_10, fp_7_11, fp_7_12, fp_7_13, fp_7_14, fp_7_15, fp_7_16, fp_7_17, fp_7_18, fp_7_19, fp_7_20, fp_7_21, fp_7_22, fp_7_23, fp_7_24, iz_0_1, iz_0_2, iz_1_8, iz_1_9, iz_1_11, iz_2_1, iz_2_2, iz_2_3, iz_3_1, iz_4_1, iz_4_2, iz_5_0, iz_6_8, iz_6_9, iz_6_13, iz_6_14, iz_6_15, iz_7_2, iz_7_6, iz_7_12, iz_7_20, iz_7_21, iz_7_23, iz_7_24, ak_8, ak_9, ak_10, ak_11, ak_12, ak_13, ak_14, ak_15, ak_16, ak_17, ak_18, ak_19, ak_20, ak_21, ak_22, ak_23, ak_24, ak_25, ak_26, ak_27, ak_28, ak_29, ak_30, ak_31, ak_32, ak_33, ak_34, ak_35, ak_36, ak_37, ak_38, ak_39, ak_40, ak_41, ak_42, ak_43, ak_44, ak_45, ak_46, ak_47, ak_48, ak_49, ak_50, ak_51, ak_52, ak_53, ak_54, ak_55, ak_56, el31, el33, el34, CX6_signsIn, ca_X6_signsIn, frX6, kcX6, klX6, T_X6_within2, up_ap, false_and, and_false, if_false, if_true, ite_true, ite_false, exists_eq_right_right, exists_eq_right, exists_eq_left, Nat.lt_irrefl, and_self, implies_true, forall_const]
            generalize sgS 8 x' 0 = G at *
            have e1 : (lg_cmp y (Int64.ofNat 0)).toInt = 0 ↔ q64 y := Iff.rfl
            have e2 : (lg_cmp (y &&& 255) (Int64.ofNat 0)).toInt = 0 ↔ q64 (y &&& 255) := Iff.rfl
            have KB : G = -2 → K (some (-2)) σ' := fun e => by rw [e] at h; exact h
            have KC : G = c → K (some c) σ' := fun e => by rw [e] at h; exact h
            have E : ∀ (b : Prop), b → G = cif (c = 0 ∨ ¬ q64 y) (-2) c → (c = 0 → K (some (-2)) σ') ∧ (¬ c = 0 → (q64 y → K (some c) σ') ∧ (¬ q64 y → K (some (-2)) σ')) := fun b hb e => ⟨fun z => KB (by rw [e, cif_1 (Or.inl z)]), fun z => ⟨fun w => KC (by rw [e, cif_0 (fun u => u.elim z (fun v => v w))]), fun w => KB (by rw [e, cif_1 (Or.inr w)])⟩⟩
            refine ⟨fun a => ?_, fun a => ?_⟩
            · exact E True trivial (by rw [h2, show (8 - c).toNat = 0 by omega]; rfl)
            · rw [show (8 - c).toNat = (7 - c).toNat + 1 by omega, sgS_1] at h2
              refine ⟨fun b => E True trivial (by rw [h2, cif_1 (show q64 (y &&& 255) from b)]), fun b => ⟨fun d => ⟨by simp only [inR]; omega, by omega, by omega, by omega, ?_⟩, fun d => KB (by rw [h2, cif_0 (show ¬ q64 (y &&& 255) from b), cif_0 (show ¬ (33 ≤ lo64 y ∧ lo64 y ≤ 126) from d)])⟩⟩
              rw [h2, cif_0 (show ¬ q64 (y &&& 255) from b), cif_1 (show 33 ≤ lo64 y ∧ lo64 y ≤ 126 from d), show (8 - (c + 1)).toNat = (7 - c).toNat by omega]
              rfl
          · exact hi.elim
        · cases hcut
      · simp only [wp, stp, drp, entL, eL, lget, lset, okst, cnd, swt, rcv, Kr_int, Kr_bool, Kr_void, List.length_cons, List.length_nil, List.replicate, List.append_nil, List.cons_append, List.nil_append, List.take_succ_cons, List.take_zero, List.drop_succ_cons, List.drop_zero, List.reverse_cons, List.reverse_nil, Option.map_some, Option.map_none, Option.toList_some, Option.toList_none, Nat.reduceAdd, Nat.reduceSub, Nat.reduceLT, Nat.reduceLeDiff, Nat.reduceEqDiff, ↓reduceIte, Nat.add_zero, Nat.zero_add, true_and, and_true, Nat.le_refl, reduceCtorEq, false_implies, true_implies, not_true_eq_false, not_false_eq_true, Int.reduceAdd, Int.reduceSub, Int.reduceMul, Int.reduceLE, Int.reduceLT, Int.reduceEq, Int.reduceNe, Int.reduceNeg, Int.reduceDiv, Int.reduceMod, Bool.false_eq_true, Int.le_refl, and_self, true_or, or_true, inR_l, fv0, fv1, fv2, fv3, nc2, nc4, nc6, nc16, nc25, nc60, nc65, nc80, nc130, nc384, nc390, fp_0_0, fp_0_1, fp_0_2, fp_1_0, fp_1_1, fp_1_2, fp_1_3, fp_1_4, fp_1_5, fp_1_6, fp_1_7, fp_1_8, fp_1_9, fp_1_10, fp_1_11, fp_1_12, fp_1_13, fp_1_14, fp_2_0, fp_2_1, fp_2_2, fp_2_3, fp_3_0, fp_3_1, fp_4_0, fp_4_1, fp_4_2, fp_4_3, fp_4_4, fp_4_5, fp_4_6, fp_4_7, fp_5_0, fp_5_1, fp_5_2, fp_5_3, fp_5_4, fp_5_5, fp_5_6, fp_5_7, fp_6_0, fp_6_1, fp_6_2, fp_6_3, fp_6_4, fp_6_5, fp_6_6, fp_6_7, fp_6_8, fp_6_9, fp_6_10, fp_6_11, fp_6_12, fp_6_13, fp_6_14, fp_6_15, fp_7_0, fp_7_1, fp_7_2, fp_7_3, fp_7_4, fp_7_5, fp_7_6, fp_7_7, fp_7_8, fp_7_9, fp_7_10, fp_7_11, fp_7_12, fp_7_13, fp_7_14, fp_7_15, fp_7_16, fp_7_17, fp_7_18, fp_7_19, fp_7_20, fp_7_21, fp_7_22, fp_7_23, fp_7_24, iz_0_1, iz_0_2, iz_1_8, iz_1_9, iz_1_11, iz_2_1, iz_2_2, iz_2_3, iz_3_1, iz_4_1, iz_4_2, iz_5_0, iz_6_8, iz_6_9, iz_6_13, iz_6_14, iz_6_15, iz_7_2, iz_7_6, iz_7_12, iz_7_20, iz_7_21, iz_7_23, iz_7_24, ak_8, ak_9, ak_10, ak_11, ak_12, ak_13, ak_14, ak_15, ak_16, ak_17, ak_18, ak_19, ak_20, ak_21, ak_22, ak_23, ak_24, ak_25, ak_26, ak_27, ak_28, ak_29, ak_30, ak_31, ak_32, ak_33, ak_34, ak_35, ak_36, ak_37, ak_38, ak_39, ak_40, ak_41, ak_42, ak_43, ak_44, ak_45, ak_46, ak_47, ak_48, ak_49, ak_50, ak_51, ak_52, ak_53, ak_54, ak_55, ak_56, el31, el33, el34, CX6_signsIn, ca_X6_signsIn, frX6, kcX6, klX6, T_X6_within2, up_ap, false_and, and_false, if_false, if_true, ite_true, ite_false, exists_eq_right_right, exists_eq_right, exists_eq_left, Nat.lt_irrefl, and_self, implies_true, forall_const]
        rfl
    · exact h.elim
