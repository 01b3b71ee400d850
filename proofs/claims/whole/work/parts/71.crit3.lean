/-- the place on the path, among the first x -/
def PoI (p : Int → Int) (x o : Int) : Prop := ∀ k, 0 ≤ k → k < x → p k ≠ o
theorem PoI_s {p : Int → Int} {x o : Int} (h : PoI p x o) (hn : p x ≠ o) : PoI p (x + 1) o := fun k k0 k1 => by
  rcases (show k < x ∨ k = x by omega) with c | rfl
  · exact h k k0 c
  · exact hn
theorem blk_r (mc p : Int → Int) (n : Nat) : 0 ≤ sm (blk mc p) n ∧ sm (blk mc p) n ≤ n := by
  have := sm_r (f := blk mc p) (b := 1) (fun i => b2i_r _) n
  omega
def ca_X7_placeOnPath : Nat → Option (Nat × Nat × Tr) := fun _ => none
theorem cao_X7_placeOnPath (l : Launch) : ∀ k n' ci T', ca_X7_placeOnPath k = some (n', ci, T') → ∃ nn, nn + 1 ≤ 0 ∧ Site l yX7_placeOnPath.cls k n' ci nn T' := by
  intro k n' ci T' h
  cases h
def T_X7_placeOnPath : Tr := fun a σ K => match a with
  | [.inr (.inl (7, 0)), .inl x] => (0 ≤ σ 7 0 12 ∧ σ 7 0 12 ≤ 16) ∧ ∀ r, PoP (σ 47 0) (σ 7 0 12) x r → K (some r) σ
  | _ => False
set_option maxHeartbeats 8000000 in
set_option maxRecDepth 20000 in
theorem k_X7_placeOnPath (l : Launch) : Ct l yX7_placeOnPath cX7_placeOnPath 3 (some .int) 0 T_X7_placeOnPath := by
  refine mk_met (by decide +kernel) hCX7_placeOnPath lCX7_placeOnPath frX7_ok cstX7_ok (cao_X7_placeOnPath l) ?_ ?_
  · intro a σ K h
    unfold T_X7_placeOnPath at h
    split at h
    · simp [eL]
    · exact h.elim
  · intro a σ K ha hR h
    unfold T_X7_placeOnPath at h
    split at h
    · rename_i x
      refine ⟨fun pc => if pc = 2 then some (fun L S σ' k => match L, S with | [some (.inr (.inl c1)), some (.inl x'), some (.inl i)], [] => (c1 = (7, 0) ∧ x' = x ∧ σ' = σ ∧ 0 ≤ i ∧ i ≤ σ 7 0 12 ∧ PoI (σ 47 0) i x) ∧ k = (40 - i).toNat | _, _ => False) else none, 200, ?_, ?_⟩
      · intro pc I L S σ' k hcut hi
        dsimp only at hcut
        split at hcut
        · rename_i hpc
          subst hpc
          cases hcut
          try dsimp only at hi
          split at hi
          · rename_i c1 x' i
            obtain ⟨hi, rfl⟩ := hi
            obtain ⟨rfl, rfl, rfl, h0, h1, hI⟩ := hi
            obtain ⟨⟨p1, p2⟩, h⟩ := h
            simp only [wp, stp, drp, entL, eL, lget, lset, okst, cnd, swt, rcv, Kr_int, Kr_bool, Kr_void, List.length_cons, List.length_nil, List.replicate, List.append_nil, List.cons_append, List.nil_append, List.take_succ_cons, List.take_zero, List.drop_succ_cons, List.drop_zero, List.reverse_cons, List.reverse_nil, Option.map_some, Option.map_none, Option.toList_some, Option.toList_none, Nat.reduceAdd, Nat.reduceSub, Nat.reduceLT, Nat.reduceLeDiff, Nat.reduceEqDiff, ↓reduceIte, Nat.add_zero, Nat.zero_add, true_and, and_true, Nat.le_refl, reduceCtorEq, false_implies, true_implies, not_true_eq_false, not_false_eq_true, Int.reduceAdd, Int.reduceSub, Int.reduceMul, Int.reduceLE, Int.reduceLT, Int.reduceEq, Int.reduceNe, Int.reduceNeg, Int.reduceDiv, Int.reduceMod, Bool.false_eq_true, Int.le_refl, and_self, true_or, or_true, inR_l, fv0, fv1, fv2, fv3, nc2, nc4, nc6, nc16, nc25, nc60, nc65, nc80, nc130, nc384, nc390, fp_0_0, fp_0_1, fp_0_2, fp_1_0, fp_1_1, fp_1_2, fp_1_3, fp_1_4, fp_1_5, fp_1_6, fp_1_7, fp_1_8, fp_1_9, fp_1_10, fp_1_11, fp_1_12, fp_1_13, fp_1_14, fp_2_0, fp_2_1, fp_2_2, fp_2_3, fp_3_0, fp_3_1, fp_4_0, fp_4_1, fp_4_2, fp_4_3, fp_4_4, fp_4_5, fp_4_6, fp_4_7, fp_5_0, fp_5_1, fp_5_2, fp_5_3, fp_5_4, fp_5_5, fp_5_6, fp_5_7, fp_6_0, fp_6_1, fp_6_2, fp_6_3, fp_6_4, fp_6_5, fp_6_6, fp_6_7, fp_6_8, fp_6_9, fp_6_10, fp_6_11, fp_6_12, fp_6_13, fp_6_14, fp_6_15, fp_7_0, fp_7_1, fp_7_2, fp_7_3, fp_7_4, fp_7_5, fp_7_6, fp_7_7, fp_7_8, fp_7_9, fp_7_10, fp_7_11, fp_7_12, fp_7_13, fp_7_14, fp_7_15, fp_7_16, fp_7_17, fp_7_18, fp_7_19, fp_7_20, fp_7_21, fp_7_22, fp_7_23, fp_7_24, iz_0_1, iz_0_2, iz_1_8, iz_1_9, iz_1_11, iz_2_1, iz_2_2, iz_2_3, iz_3_1, iz_4_1, iz_4_2, iz_5_0, iz_6_8, iz_6_9, iz_6_13, iz_6_14, iz_6_15, iz_7_2, iz_7_6, iz_7_12, iz_7_20, iz_7_21, iz_7_23, iz_7_24, ak_8, ak_9, ak_10, ak_11, ak_12, ak_13, ak_14, ak_15, ak_16, ak_17, ak_18, ak_19, ak_20, ak_21, ak_22, ak_23, ak_24, ak_25, ak_26, ak_27, ak_28, ak_29, ak_30, ak_31, ak_32, ak_33, ak_34, ak_35, ak_36, ak_37, ak_38, ak_39, ak_40, ak_41, ak_42, ak_43, ak_44, ak_45, ak_46, ak_47, ak_48, ak_49, ak_50, ak_51, ak_52, ak_53, ak_54, ak_55, ak_56, el31, el33, el34, CX7_placeOnPath, ca_X7_placeOnPath, frX7, kcX7, klX7, exists_eq_right_right, exists_eq_right, exists_eq_left, Nat.lt_irrefl, and_self, implies_true, forall_const]
            (repeat' (first | (with_reducible intro _) | (with_reducible refine And.intro ?_ ?_)))
            all_goals (try first | omega | exact ⟨by omega, by omega⟩)
            all_goals first | (exact h _ (Or.inl ⟨rfl, by rw [show σ' 7 0 12 = i by omega]; exact hI⟩)) | (exact h _ (Or.inr ⟨h0, by omega, Classical.not_not.mp (by assumption), hI⟩)) | (exact PoI_s hI (by assumption))
          · exact hi.elim
        · cases hcut
      · simp only [wp, stp, drp, entL, eL, lget, lset, okst, cnd, swt, rcv, Kr_int, Kr_bool, Kr_void, List.length_cons, List.length_nil, List.replicate, List.append_nil, List.cons_append, List.nil_append, List.take_succ_cons, List.take_zero, List.drop_succ_cons, List.drop_zero, List.reverse_cons, List.reverse_nil, Option.map_some, Option.map_none, Option.toList_some, Option.toList_none, Nat.reduceAdd, Nat.reduceSub, Nat.reduceLT, Nat.reduceLeDiff, Nat.reduceEqDiff, ↓reduceIte, Nat.add_zero, Nat.zero_add, true_and, and_true, Nat.le_refl, reduceCtorEq, false_implies, true_implies, not_true_eq_false, not_false_eq_true, Int.reduceAdd, Int.reduceSub, Int.reduceMul, Int.reduceLE, Int.reduceLT, Int.reduceEq, Int.reduceNe, Int.reduceNeg, Int.reduceDiv, Int.reduceMod, Bool.false_eq_true, Int.le_refl, and_self, true_or, or_true, inR_l, fv0, fv1, fv2, fv3, nc2, nc4, nc6, nc16, nc25, nc60, nc65, nc80, nc130, nc384, nc390, fp_0_0, fp_0_1, fp_0_2, fp_1_0, fp_1_1, fp_1_2, fp_1_3, fp_1_4, fp_1_5, fp_1_6, fp_1_7, fp_1_8, fp_1_9, fp_1_10, fp_1_11, fp_1_12, fp_1_13, fp_1_14, fp_2_0, fp_2_1, fp_2_2, fp_2_3, fp_3_0, fp_3_1, fp_4_0, fp_4_1, fp_4_2, fp_4_3, fp_4_4, fp_4_5, fp_4_6, fp_4_7, fp_5_0, fp_5_1, fp_5_2, fp_5_3, fp_5_4, fp_5_5, fp_5_6, fp_5_7, fp_6_0, fp_6_1, fp_6_2, fp_6_3, fp_6_4, fp_6_5, fp_6_6, fp_6_7, fp_6_8, fp_6_9, fp_6_10, fp_6_11, fp_6_12, fp_6_13, fp_6_14, fp_6_15, fp_7_0, fp_7_1, fp_7_2, fp_7_3, fp_7_4, fp_7_5, fp_7_6, fp_7_7, fp_7_8, fp_7_9, fp_7_10, fp_7_11, fp_7_12, fp_7_13, fp_7_14, fp_7_15, fp_7_16, fp_7_17, fp_7_18, fp_7_19, fp_7_20, fp_7_21, fp_7_22, fp_7_23, fp_7_24, iz_0_1, iz_0_2, iz_1_8, iz_1_9, iz_1_11, iz_2_1, iz_2_2, iz_2_3, iz_3_1, iz_4_1, iz_4_2, iz_5_0, iz_6_8, iz_6_9, iz_6_13, iz_6_14, iz_6_15, iz_7_2, iz_7_6, iz_7_12, iz_7_20, iz_7_21, iz_7_23, iz_7_24, ak_8, ak_9, ak_10, ak_11, ak_12, ak_13, ak_14, ak_15, ak_16, ak_17, ak_18, ak_19, ak_20, ak_21, ak_22, ak_23, ak_24, ak_25, ak_26, ak_27, ak_28, ak_29, ak_30, ak_31, ak_32, ak_33, ak_34, ak_35, ak_36, ak_37, ak_38, ak_39, ak_40, ak_41, ak_42, ak_43, ak_44, ak_45, ak_46, ak_47, ak_48, ak_49, ak_50, ak_51, ak_52, ak_53, ak_54, ak_55, ak_56, el31, el33, el34, CX7_placeOnPath, ca_X7_placeOnPath, frX7, kcX7, klX7, exists_eq_right_right, exists_eq_right, exists_eq_left, Nat.lt_irrefl, and_self, implies_true, forall_const]
        obtain ⟨⟨p1, p2⟩, h⟩ := h
        (repeat' (first | (with_reducible intro _) | (with_reducible refine And.intro ?_ ?_)))
        all_goals (try first | omega | exact ⟨by omega, by omega⟩)
        all_goals first | (exact fun k a b => by omega)
    · exact h.elim
def ca_X7_blocks : Nat → Option (Nat × Nat × Tr)
  | 73 => some (2, 7, T_X7_machineOf)
  | _ => none
theorem cao_X7_blocks (l : Launch) : ∀ k n' ci T', ca_X7_blocks k = some (n', ci, T') → ∃ nn, nn + 1 ≤ 1 ∧ Site l yX7_blocks.cls k n' ci nn T' := by
  intro k n' ci T' h
  unfold ca_X7_blocks at h
  split at h
  · cases h; exact ⟨0, by decide, _, _, _, _, k_X7_machineOf l, Or.inl ⟨_, rfl, FX7_machineOf, KRX7_73⟩⟩
  · cases h
def T_X7_blocks : Tr := fun a σ K => match a with
  | [.inr (.inl (7, 0))] => (0 ≤ σ 7 0 12 ∧ σ 7 0 12 ≤ 16 ∧ ∀ k, 0 ≤ k → k < σ 7 0 12 → 0 ≤ σ 47 0 k ∧ σ 47 0 k < 16) ∧ K (some (sm (blk (rMc σ) (σ 47 0)) (σ 7 0 12).toNat)) σ
  | _ => False
set_option maxHeartbeats 8000000 in
set_option maxRecDepth 20000 in
theorem k_X7_blocks (l : Launch) : Ct l yX7_blocks cX7_blocks 3 (some .int) 1 T_X7_blocks := by
  refine mk_met (by decide +kernel) hCX7_blocks lCX7_blocks frX7_ok cstX7_ok (cao_X7_blocks l) ?_ ?_
  · intro a σ K h
    unfold T_X7_blocks at h
    split at h
    · simp [eL]
    · exact h.elim
  · intro a σ K ha hR h
    unfold T_X7_blocks at h
    split at h
    · refine ⟨fun pc => if pc = 4 then some (fun L S σ' k => match L, S with | [some (.inr (.inl c1)), some (.inl s), some (.inl i)], [] => (c1 = (7, 0) ∧ σ' = σ ∧ 0 ≤ i ∧ i ≤ σ 7 0 12 ∧ s = sm (blk (rMc σ) (σ 47 0)) i.toNat) ∧ k = (40 - i).toNat | _, _ => False) else none, 200, ?_, ?_⟩
      · intro pc I L S σ' k hcut hi
        dsimp only at hcut
        split at hcut
        · rename_i hpc
          subst hpc
          cases hcut
          try dsimp only at hi
          split at hi
          · rename_i c1 s i
            obtain ⟨hi, rfl⟩ := hi
            obtain ⟨rfl, rfl, h0, h1, hI⟩ := hi
            obtain ⟨⟨p1, p2, p3⟩, h⟩ := h
            simp only [wp, stp, drp, entL, eL, lget, lset, okst, cnd, swt, rcv, Kr_int, Kr_bool, Kr_void, List.length_cons, List.length_nil, List.replicate, List.append_nil, List.cons_append, List.nil_append, List.take_succ_cons, List.take_zero, List.drop_succ_cons, List.drop_zero, List.reverse_cons, List.reverse_nil, Option.map_some, Option.map_none, Option.toList_some, Option.toList_none, Nat.reduceAdd, Nat.reduceSub, Nat.reduceLT, Nat.reduceLeDiff, Nat.reduceEqDiff, ↓reduceIte, Nat.add_zero, Nat.zero_add, true_and, and_true, Nat.le_refl, reduceCtorEq, false_implies, true_implies, not_true_eq_false, not_false_eq_true, Int.reduceAdd, Int.reduceSub, Int.reduceMul, Int.reduceLE, Int.reduceLT, Int.reduceEq, Int.reduceNe, Int.reduceNeg, Int.reduceDiv, Int.reduceMod, Bool.false_eq_true, Int.le_refl, and_self, true_or, or_true, inR_l, fv0, fv1, fv2, fv3, nc2, nc4, nc6, nc16, nc25, nc60, nc65, nc80, nc130, nc384, nc390, fp_0_0, fp_0_1, fp_0_2, fp_1_0, fp_1_1, fp_1_2, fp_1_3, fp_1_4, fp_1_5, fp_1_6, fp_1_7, fp_1_8, fp_1_9, fp_1_10, fp_1_11, fp_1_12, fp_1_13, fp_1_14, fp_2_0, fp_2_1, fp_2_2, fp_2_3, fp_3_0, fp_3_1, fp_4_0, fp_4_1, fp_4_2, fp_4_3, fp_4_4, fp_4_5, fp_4_6, fp_4_7, fp_5_0, fp_5_1, fp_5_2, fp_5_3, fp_5_4, fp_5_5, fp_5_6, fp_5_7, fp_6_0, fp_6_1, fp_6_2, fp_6_3, fp_6_4, fp_6_5, fp_6_6, fp_6_7, fp_6_8, fp_6_9, fp_6_10, fp_6_11, fp_6_12, fp_6_13, fp_6_14, fp_6_15, fp_7_0, fp_7_1, fp_7_2, fp_7_3, fp_7_4, fp_7_5, fp_7_6, fp_7_7, fp_7_8, fp_7_9, fp_7_10, fp_7_11, fp_7_12, fp_7_13, fp_7_14, fp_7_15, fp_7_16, fp_7_17, fp_7_18, fp_7_19, fp_7_20, fp_7_21, fp_7_22, fp_7_23, fp_7_24, iz_0_1, iz_0_2, iz_1_8, iz_1_9, iz_1_11, iz_2_1, iz_2_2, iz_2_3, iz_3_1, iz_4_1, iz_4_2, iz_5_0, iz_6_8, iz_6_9, iz_6_13, iz_6_14, iz_6_15, iz_7_2, iz_7_6, iz_7_12, iz_7_20, iz_7_21, iz_7_23, iz_7_24, ak_8, ak_9, ak_10, ak_11, ak_12, ak_13, ak_14, ak_15, ak_16, ak_17, ak_18, ak_19, ak_20, ak_21, ak_22, ak_23, ak_24, ak_25, ak_26, ak_27, ak_28, ak_29, ak_30, ak_31, ak_32, ak_33, ak_34, ak_35, ak_36, ak_37, ak_38, ak_39, ak_40, ak_41, ak_42, ak_43, ak_44, ak_45, ak_46, ak_47, ak_48, ak_49, ak_50, ak_51, ak_52, ak_53, ak_54, ak_55, ak_56, el31, el33, el34, CX7_blocks, ca_X7_blocks, frX7, kcX7, klX7, T_X7_machineOf, exists_eq_right_right, exists_eq_right, exists_eq_left, Nat.lt_irrefl, and_self, implies_true, forall_const]
            have e1 := sm_s (blk (rMc σ') (σ' 47 0)) h0
            have hr := blk_r (rMc σ') (σ' 47 0) i.toNat
            rw [← hI] at hr e1
            have hy : (i = 0 ∨ rMc σ' (σ' 47 0 i) ≠ rMc σ' (σ' 47 0 (i - 1))) → blk (rMc σ') (σ' 47 0) i = 1 := fun q => b2i_1 q
            have hn : ¬ (i = 0 ∨ rMc σ' (σ' 47 0 i) ≠ rMc σ' (σ' 47 0 (i - 1))) → blk (rMc σ') (σ' 47 0) i = 0 := fun q => b2i_0 q
            have Emc : ∀ x, σ' 38 0 (13 + 2 * x) = rMc σ' x := fun _ => rfl
            simp only [Emc]
            have hp : i < σ' 7 0 12 → 0 ≤ σ' 47 0 i ∧ σ' 47 0 i < 16 := fun q => p3 i h0 q
            have hp2 : i < σ' 7 0 12 → i ≠ 0 → 0 ≤ σ' 47 0 (i - 1) ∧ σ' 47 0 (i - 1) < 16 := fun q z => p3 (i - 1) (by omega) (by omega)
            (repeat' (first | (with_reducible intro _) | (with_reducible refine And.intro ?_ ?_)))
            all_goals (try first | omega | exact ⟨by omega, by omega⟩)
            all_goals first | (rw [hI, show i.toNat = (σ' 7 0 12).toNat by omega]; exact h) | (exact (hp (by omega)).1) | (exact (hp (by omega)).2) | (exact (hp2 (by omega) (by omega)).1) | (exact (hp2 (by omega) (by omega)).2) | (rw [e1, hn (by omega)]; omega) | (rw [e1, hy (by omega)])
          · exact hi.elim
        · cases hcut
      · simp only [wp, stp, drp, entL, eL, lget, lset, okst, cnd, swt, rcv, Kr_int, Kr_bool, Kr_void, List.length_cons, List.length_nil, List.replicate, List.append_nil, List.cons_append, List.nil_append, List.take_succ_cons, List.take_zero, List.drop_succ_cons, List.drop_zero, List.reverse_cons, List.reverse_nil, Option.map_some, Option.map_none, Option.toList_some, Option.toList_none, Nat.reduceAdd, Nat.reduceSub, Nat.reduceLT, Nat.reduceLeDiff, Nat.reduceEqDiff, ↓reduceIte, Nat.add_zero, Nat.zero_add, true_and, and_true, Nat.le_refl, reduceCtorEq, false_implies, true_implies, not_true_eq_false, not_false_eq_true, Int.reduceAdd, Int.reduceSub, Int.reduceMul, Int.reduceLE, Int.reduceLT, Int.reduceEq, Int.reduceNe, Int.reduceNeg, Int.reduceDiv, Int.reduceMod, Bool.false_eq_true, Int.le_refl, and_self, true_or, or_true, inR_l, fv0, fv1, fv2, fv3, nc2, nc4, nc6, nc16, nc25, nc60, nc65, nc80, nc130, nc384, nc390, fp_0_0, fp_0_1, fp_0_2, fp_1_0, fp_1_1, fp_1_2, fp_1_3, fp_1_4, fp_1_5, fp_1_6, fp_1_7, fp_1_8, fp_1_9, fp_1_10, fp_1_11, fp_1_12, fp_1_13, fp_1_14, fp_2_0, fp_2_1, fp_2_2, fp_2_3, fp_3_0, fp_3_1, fp_4_0, fp_4_1, fp_4_2, fp_4_3, fp_4_4, fp_4_5, fp_4_6, fp_4_7, fp_5_0, fp_5_1, fp_5_2, fp_5_3, fp_5_4, fp_5_5, fp_5_6, fp_5_7, fp_6_0, fp_6_1, fp_6_2, fp_6_3, fp_6_4, fp_6_5, fp_6_6, fp_6_7, fp_6_8, fp_6_9, fp_6_10, fp_6_11, fp_6_12, fp_6_13, fp_6_14, fp_6_15, fp_7_0, fp_7_1, fp_7_2, fp_7_3, fp_7_4, fp_7_5, fp_7_6, fp_7_7, fp_7_8, fp_7_9, fp_7_10, fp_7_11, fp_7_12, fp_7_13, fp_7_14, fp_7_15, fp_7_16, fp_7_17, fp_7_18, fp_7_19, fp_7_20, fp_7_21, fp_7_22, fp_7_23, fp_7_24, iz_0_1, iz_0_2, iz_1_8, iz_1_9, iz_1_11, iz_2_1, iz_2_2, iz_2_3, iz_3_1, iz_4_1, iz_4_2, iz_5_0, iz_6_8, iz_6_9, iz_6_13, iz_6_14, iz_6_15, iz_7_2, iz_7_6, iz_7_12, iz_7_20, iz_7_21, iz_7_23, iz_7_24, ak_8, ak_9, ak_10, ak_11, ak_12, ak_13, ak_14, ak_15, ak_16, ak_17, ak_18, ak_19, ak_20, ak_21, ak_22, ak_23, ak_24, ak_25, ak_26, ak_27, ak_28, ak_29, ak_30, ak_31, ak_32, ak_33, ak_34, ak_35, ak_36, ak_37, ak_38, ak_39, ak_40, ak_41, ak_42, ak_43, ak_44, ak_45, ak_46, ak_47, ak_48, ak_49, ak_50, ak_51, ak_52, ak_53, ak_54, ak_55, ak_56, el31, el33, el34, CX7_blocks, ca_X7_blocks, frX7, kcX7, klX7, T_X7_machineOf, exists_eq_right_right, exists_eq_right, exists_eq_left, Nat.lt_irrefl, and_self, implies_true, forall_const]
        obtain ⟨⟨p1, p2, p3⟩, h⟩ := h
        (repeat' (first | (with_reducible intro _) | (with_reducible refine And.intro ?_ ?_)))
        all_goals (try first | omega | exact ⟨by omega, by omega⟩)
        all_goals first | (exact p1) | (rfl)
    · exact h.elim
def ca_X7_addOperation : Nat → Option (Nat × Nat × Tr)
  | 69 => some (3, 7, T_X7_ofAJob)
  | _ => none
theorem cao_X7_addOperation (l : Launch) : ∀ k n' ci T', ca_X7_addOperation k = some (n', ci, T') → ∃ nn, nn + 1 ≤ 1 ∧ Site l yX7_addOperation.cls k n' ci nn T' := by
  intro k n' ci T' h
  unfold ca_X7_addOperation at h
  split at h
  · cases h; exact ⟨0, by decide, _, _, _, _, k_X7_ofAJob l, Or.inl ⟨_, rfl, FX7_ofAJob, KRX7_69⟩⟩
  · cases h
def T_X7_addOperation : Tr := fun a σ K => match a with
  | [.inr (.inl (7, 0)), .inl j, .inl m, .inl d] => (0 ≤ j ∧ j < 4 ∧ 0 ≤ m ∧ m < 4 ∧ 0 ≤ σ 38 0 (1 + 3 * j + 2) ∧ σ 38 0 (1 + 3 * j + 2) < 4 ∧ 0 ≤ σ 38 0 (45 + m) ∧ σ 38 0 (45 + m) < 4) ∧ ∀ σ', FrG (fun t a _ => t = 38 ∧ a = 0) σ σ' → (∀ x, σ' 38 0 x = if x = 13 + 2 * (4 * j + σ 38 0 (1 + 3 * j + 2)) then m else if x = 14 + 2 * (4 * j + σ 38 0 (1 + 3 * j + 2)) then d else if x = 1 + 3 * j + 2 then σ 38 0 (1 + 3 * j + 2) + 1 else if x = 45 + m then σ 38 0 (45 + m) + 1 else if x = 49 + 4 * m + σ 38 0 (45 + m) then j else σ 38 0 x) → K (some (4 * j + σ 38 0 (1 + 3 * j + 2))) σ'
  | _ => False
set_option maxHeartbeats 4000000 in
set_option maxRecDepth 20000 in
theorem k_X7_addOperation (l : Launch) : Ct l yX7_addOperation cX7_addOperation 5 (some .int) 1 T_X7_addOperation := by
  refine mk_met (by decide +kernel) hCX7_addOperation lCX7_addOperation frX7_ok cstX7_ok (cao_X7_addOperation l) ?_ ?_
  · intro a σ K h
    unfold T_X7_addOperation at h
    split at h
    · simp [eL]
    · exact h.elim
  · intro a σ K ha hR h
    unfold T_X7_addOperation at h
    split at h
    · rename_i j m d
      refine ⟨fun _ => none, 200, fun pc I L S σ' k h => (by cases h), ?_⟩
      simp only [wp, stp, drp, entL, eL, lget, lset, okst, cnd, swt, rcv, Kr_int, Kr_bool, Kr_void, List.length_cons, List.length_nil, List.replicate, List.append_nil, List.cons_append, List.nil_append, List.take_succ_cons, List.take_zero, List.drop_succ_cons, List.drop_zero, List.reverse_cons, List.reverse_nil, Option.map_some, Option.map_none, Option.toList_some, Option.toList_none, Nat.reduceAdd, Nat.reduceSub, Nat.reduceLT, Nat.reduceLeDiff, Nat.reduceEqDiff, ↓reduceIte, Nat.add_zero, Nat.zero_add, true_and, and_true, Nat.le_refl, reduceCtorEq, false_implies, true_implies, not_true_eq_false, not_false_eq_true, Int.reduceAdd, Int.reduceSub, Int.reduceMul, Int.reduceLE, Int.reduceLT, Int.reduceEq, Int.reduceNe, Int.reduceNeg, Int.reduceDiv, Int.reduceMod, Bool.false_eq_true, Int.le_refl, and_self, true_or, or_true, inR_l, fv0, fv1, fv2, fv3, nc2, nc4, nc6, nc16, nc25, nc60, nc65, nc80, nc130, nc384, nc390, fp_0_0, fp_0_1, fp_0_2, fp_1_0, fp_1_1, fp_1_2, fp_1_3, fp_1_4, fp_1_5, fp_1_6, fp_1_7, fp_1_8, fp_1_9, fp_1_10, fp_1_11, fp_1_12, fp_1_13, fp_1_14, fp_2_0, fp_2_1, fp_2_2, fp_2_3, fp_3_0, fp_3_1, fp_4_0, fp_4_1, fp_4_2, fp_4_3, fp_4_4, fp_4_5, fp_4_6, fp_4_7, fp_5_0, fp_5_1, fp_5_2, fp_5_3, fp_5_4, fp_5_5, fp_5_6, fp_5_7, fp_6_0, fp_6_1, fp_6_2, fp_6_3, fp_6_4, fp_6_5, fp_6_6, fp_6_7, fp_6_8, fp_6_9, fp_6_10, fp_6_11, fp_6_12, fp_6_13, fp_6_14, fp_6_15, fp_7_0, fp_7_1, fp_7_2, fp_7_3, fp_7_4, fp_7_5, fp_7_6, fp_7_7, fp_7_8, fp_7_9, fp_7_10, fp_7_11, fp_7_12, fp_7_13, fp_7_14, fp_7_15, fp_7_16, fp_7_17, fp_7_18, fp_7_19, fp_7_20, fp_7_21, fp_7_22, fp_7_23, fp_7_24, iz_0_1, iz_0_2, iz_1_8, iz_1_9, iz_1_11, iz_2_1, iz_2_2, iz_2_3, iz_3_1, iz_4_1, iz_4_2, iz_5_0, iz_6_8, iz_6_9, iz_6_13, iz_6_14, iz_6_15, iz_7_2, iz_7_6, iz_7_12, iz_7_20, iz_7_21, iz_7_23, iz_7_24, ak_8, ak_9, ak_10, ak_11, ak_12, ak_13, ak_14, ak_15, ak_16, ak_17, ak_18, ak_19, ak_20, ak_21, ak_22, ak_23, ak_24, ak_25, ak_26, ak_27, ak_28, ak_29, ak_30, ak_31, ak_32, ak_33, ak_34, ak_35, ak_36, ak_37, ak_38, ak_39, ak_40, ak_41, ak_42, ak_43, ak_44, ak_45, ak_46, ak_47, ak_48, ak_49, ak_50, ak_51, ak_52, ak_53, ak_54, ak_55, ak_56, el31, el33, el34, CX7_addOperation, ca_X7_addOperation, frX7, kcX7, klX7, T_X7_ofAJob, up_ap, false_and, and_false, if_false, if_true, ite_true, ite_false]
      obtain ⟨⟨p1, p2, p3, p4, p5, p6, p7, p8⟩, h⟩ := h
      generalize hs : σ 38 0 (1 + 3 * j + 2) = s at p5 p6 h ⊢
      generalize hl : σ 38 0 (45 + m) = ln at p7 p8 h ⊢
      have n1 : (1 + 3 * j + 2 = 13 + 2 * (4 * j + s) + 1) = False := eq_false (by omega)
      have n2 : (1 + 3 * j + 2 = 13 + 2 * (4 * j + s)) = False := eq_false (by omega)
      have n3 : (45 + m = 1 + 3 * j + 2) = False := eq_false (by omega)
      have n4 : (45 + m = 13 + 2 * (4 * j + s) + 1) = False := eq_false (by omega)
      have n5 : (45 + m = 13 + 2 * (4 * j + s)) = False := eq_false (by omega)
      have n6 : (45 + m = 49 + 4 * m + ln) = False := eq_false (by omega)
      simp only [n1, n2, n3, n4, n5, n6, if_false]
      have key := h (up (up (up (up (up σ 38 0 (13 + 2 * (4 * j + s)) m) 38 0 (13 + 2 * (4 * j + s) + 1) d) 38 0 (1 + 3 * j + 2) (s + 1)) 38 0 (49 + 4 * m + ln) j) 38 0 (45 + m) (ln + 1)) (((((FrG.r.u ⟨rfl, rfl⟩).u ⟨rfl, rfl⟩).u ⟨rfl, rfl⟩).u ⟨rfl, rfl⟩).u ⟨rfl, rfl⟩) (fun x => by
        simp only [up_ap, true_and]
        by_cases c1 : x = 13 + 2 * (4 * j + s)
        · subst c1
          rw [if_neg (by omega), if_neg (by omega), if_neg (by omega), if_neg (by omega), if_pos rfl, if_pos rfl]
        by_cases c2 : x = 14 + 2 * (4 * j + s)
        · subst c2
          rw [if_neg (by omega), if_neg (by omega), if_neg (by omega), if_pos (by omega), if_neg (by omega), if_pos rfl]
        by_cases c3 : x = 1 + 3 * j + 2
        · subst c3
          rw [if_neg (by omega), if_neg (by omega), if_pos rfl, if_neg (by omega), if_neg (by omega), if_pos rfl]
        by_cases c4 : x = 45 + m
        · subst c4
          rw [if_pos rfl, if_neg (by omega), if_neg (by omega), if_neg (by omega), if_pos rfl]
        by_cases c5 : x = 49 + 4 * m + ln
        · subst c5
          rw [if_neg (by omega), if_pos rfl, if_neg (by omega), if_neg (by omega), if_neg (by omega), if_neg (by omega), if_pos rfl]
        · rw [if_neg c4, if_neg c5, if_neg c3, if_neg (by omega), if_neg c1, if_neg c1, if_neg c2, if_neg c3, if_neg c4, if_neg c5])
      (repeat' (first | (with_reducible intro _) | (with_reducible refine And.intro ?_ ?_)))
      all_goals (try first | omega | exact ⟨by omega, by omega⟩)
      all_goals first | (exact key)
    · exact h.elim
