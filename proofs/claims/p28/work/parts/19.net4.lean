/-- letFirst, over the first j of the others -/
def LI (σ σ' : Mem) (n : Nat) (m ot jb j : Int) : Prop := (∀ t a x, (t ≠ 20 ∨ a ≠ n) → σ' t a x = σ t a x) ∧ (∀ x, (∀ k, 0 ≤ k → k < j → hasB ot k → σ 19 n (4 * m + k) ≠ x) → σ' 20 n x = σ 20 n x) ∧ (∀ k, 0 ≤ k → k < j → hasB ot k → 0 ≤ σ 19 n (4 * m + k) → σ' 20 n (σ 19 n (4 * m + k)) = bor (σ 20 n (σ 19 n (4 * m + k))) (bshl 1 jb))
theorem LI_0 {σ : Mem} {n : Nat} {m ot jb : Int} : LI σ σ n m ot jb 0 := ⟨fun _ _ _ _ => rfl, fun _ _ => rfl, fun k a b => by omega⟩
theorem LI_4 {σ σ' : Mem} {n : Nat} {m ot jb j : Int} (h : LI σ σ' n m ot jb j) (h0 : 4 ≤ j) (h1 : j ≤ 4) : LI σ σ' n m ot jb 4 := by
  have : j = 4 := by omega
  rw [← this]
  exact h
theorem LI_19 {σ σ' : Mem} {n : Nat} {m ot jb j : Int} (h : LI σ σ' n m ot jb j) (x : Int) : σ' 19 n x = σ 19 n x := h.1 19 n x (Or.inl (by decide))
theorem LI_n {σ σ' : Mem} {n : Nat} {m ot jb j : Int} (h : LI σ σ' n m ot jb j) (hn : σ' 19 n (4 * m + j) < 0) : LI σ σ' n m ot jb (j + 1) := by
  rw [LI_19 h] at hn
  refine ⟨h.1, fun x q => h.2.1 x (fun k a b => q k a (by omega)), fun k a b c d => ?_⟩
  rcases (show k < j ∨ k = j by omega) with q | rfl
  · exact h.2.2 k a q c d
  · omega
theorem LI_skip {σ σ' : Mem} {n : Nat} {m ot jb j : Int} (h : LI σ σ' n m ot jb j) (hb : ¬ hasB ot j) : LI σ σ' n m ot jb (j + 1) := by
  refine ⟨h.1, fun x q => h.2.1 x (fun k a b => q k a (by omega)), fun k a b c d => ?_⟩
  rcases (show k < j ∨ k = j by omega) with q | rfl
  · exact h.2.2 k a q c d
  · exact absurd c hb
theorem LI_put {σ σ' : Mem} {n : Nat} {m ot jb j : Int} (h : LI σ σ' n m ot jb j) (h0 : 0 ≤ j) (h1 : ¬ 4 ≤ j) (hb : hasB ot j) (hn : ¬ σ' 19 n (4 * m + j) < 0) (hinj : ∀ k k2, 0 ≤ k → k < 4 → 0 ≤ k2 → k2 < 4 → 0 ≤ σ 19 n (4 * m + k) → σ 19 n (4 * m + k) = σ 19 n (4 * m + k2) → k = k2) : LI σ (up σ' 20 n (σ' 19 n (4 * m + j)) (bor (σ' 20 n (σ' 19 n (4 * m + j))) (bshl 1 jb))) n m ot jb (j + 1) := by
  have e := LI_19 h (4 * m + j)
  rw [e] at hn ⊢
  obtain ⟨a1, a2, a3⟩ := h
  have hnew : ∀ k, 0 ≤ k → k < j → σ 19 n (4 * m + k) ≠ σ 19 n (4 * m + j) := by
    intro k p q r
    have := hinj j k h0 (by omega) p (by omega) (by omega) r.symm
    omega
  refine ⟨fun t a x q => ?_, fun x q => ?_, fun k a b c d => ?_⟩
  · unfold up
    rw [if_neg]
    · exact a1 t a x q
    · rintro ⟨rfl, rfl, -⟩
      rcases q with q | q <;> exact q rfl
  · unfold up
    rw [if_neg]
    · exact a2 x (fun k p r => q k p (by omega))
    · rintro ⟨-, -, r⟩
      exact q j h0 (by omega) hb r.symm
  · rcases (show k < j ∨ k = j by omega) with q | rfl
    · unfold up
      rw [if_neg]
      · exact a3 k a q c d
      · rintro ⟨-, -, r⟩
        exact hnew k a q r
    · unfold up
      rw [if_pos ⟨rfl, rfl, rfl⟩, a2 _ (fun k2 p r s => hnew k2 p r)]
def ca_X1_letFirst : Nat → Option (Nat × Nat × Tr) := fun _ => none
theorem cao_X1_letFirst (l : Launch) : ∀ k n' ci T', ca_X1_letFirst k = some (n', ci, T') → ∃ nn, nn + 1 ≤ 0 ∧ Site l yX1_letFirst.cls k n' ci nn T' := by
  intro k n' ci T' h
  cases h
def T_X1_letFirst : Tr := fun a σ K => match a with
  | [.inr (.inl (1, n)), .inl m, .inl jb, .inl ot] => (0 ≤ m ∧ m < 4 ∧ (∀ k, 0 ≤ k → k < 4 → σ 19 n (4 * m + k) < 16) ∧ (∀ k k2, 0 ≤ k → k < 4 → 0 ≤ k2 → k2 < 4 → 0 ≤ σ 19 n (4 * m + k) → σ 19 n (4 * m + k) = σ 19 n (4 * m + k2) → k = k2)) ∧ (∀ σ' : Mem, LI σ σ' n m ot jb 4 → K none σ')
  | _ => False
set_option maxHeartbeats 8000000 in
set_option maxRecDepth 20000 in
theorem k_X1_letFirst (l : Launch) : Ct l yX1_letFirst cX1_letFirst 6 none 0 T_X1_letFirst := by
  refine mk_met (by decide +kernel) hCX1_letFirst lCX1_letFirst frX1_ok cstX1_ok (cao_X1_letFirst l) ?_ ?_
  · intro a σ K h
    unfold T_X1_letFirst at h
    split at h
    · simp [eL]
    · exact h.elim
  · intro a σ K ha hR h
    unfold T_X1_letFirst at h
    split at h
    · rename_i n m jb ot
      refine ⟨fun pc => if pc = 3 then some (fun L S σ' k => match L, S with | [some (.inr (.inl c1)), some (.inl m'), some (.inl jb'), some (.inl ot'), some (.inl j), _], [] => (c1 = (1, n) ∧ m' = m ∧ jb' = jb ∧ ot' = ot ∧ 0 ≤ j ∧ j ≤ 4 ∧ LI σ σ' n m ot jb j) ∧ k = (4 - j).toNat | _, _ => False) else none, 200, ?_, ?_⟩
      · intro pc I L S σ' k hcut hi
        dsimp only at hcut
        split at hcut
        · rename_i hpc
          subst hpc
          cases hcut
          try dsimp only at hi
          split at hi
          · rename_i c1 m' jb' ot' j x1
            obtain ⟨hi, rfl⟩ := hi
            obtain ⟨rfl, rfl, rfl, rfl, h0, h1, h2⟩ := hi
            obtain ⟨⟨p1, p2, p3, p4⟩, h⟩ := h
            simp only [wp, stp, drp, entL, eL, lget, lset, okst, cnd, swt, rcv, Kr_int, Kr_bool, Kr_void, List.length_cons, List.length_nil, List.replicate, List.append_nil, List.cons_append, List.nil_append, List.take_succ_cons, List.take_zero, List.drop_succ_cons, List.drop_zero, List.reverse_cons, List.reverse_nil, Option.map_some, Option.map_none, Option.toList_some, Option.toList_none, Nat.reduceAdd, Nat.reduceSub, Nat.reduceLT, Nat.reduceLeDiff, Nat.reduceEqDiff, ↓reduceIte, Nat.add_zero, Nat.zero_add, true_and, and_true, Nat.le_refl, reduceCtorEq, false_implies, true_implies, not_true_eq_false, not_false_eq_true, Int.reduceAdd, Int.reduceSub, Int.reduceMul, Int.reduceLE, Int.reduceLT, Int.reduceEq, Int.reduceNe, Int.reduceNeg, Int.reduceDiv, Int.reduceMod, Bool.false_eq_true, Int.le_refl, and_self, true_or, or_true, inR_l, fv0, fv1, fv2, fv3, nc2, nc4, nc6, nc16, nc25, nc60, nc65, nc80, nc130, nc384, nc390, fp_0_0, fp_0_1, fp_0_2, fp_1_0, fp_1_1, fp_1_2, fp_1_3, fp_1_4, fp_1_5, fp_1_6, fp_1_7, fp_1_8, fp_1_9, fp_1_10, fp_1_11, fp_1_12, fp_1_13, fp_1_14, fp_2_0, fp_2_1, fp_2_2, fp_2_3, fp_3_0, fp_3_1, fp_4_0, fp_4_1, fp_4_2, fp_4_3, fp_4_4, fp_4_5, fp_4_6, fp_4_7, fp_5_0, fp_5_1, fp_5_2, fp_5_3, fp_5_4, fp_5_5, fp_5_6, fp_5_7, fp_6_0, fp_6_1, fp_6_2, fp_6_3, fp_6_4, fp_6_5, fp_6_6, fp_6_7, fp_6_8, fp_6_9, fp_6_10, fp_6_11, fp_6_12, fp_6_13, fp_6_14, fp_6_15, fp_7_0, fp_7_1, fp_7_2, fp_7_3, fp_7_4, fp_7_5, fp_7_6, fp_7_7, fp_7_8, fp_7_9, fp_7_10, fp_7_11, fp_7_12, fp_7_13, fp_7_14, fp_7_15, fp_7_16, fp_7_17, fp_7_18, fp_7_19, fp_7_20, fp_7_21, fp_7_22, fp_7_23, fp_7_24, iz_0_1, iz_0_2, iz_1_8, iz_1_9, iz_1_11, iz_2_1, iz_2_2, iz_2_3, iz_3_1, iz_4_1, iz_4_2, iz_5_0, iz_6_8, iz_6_9, iz_6_13, iz_6_14, iz_6_15, iz_7_2, iz_7_6, iz_7_12, iz_7_20, iz_7_21, iz_7_23, iz_7_24, ak_8, ak_9, ak_10, ak_11, ak_12, ak_13, ak_14, ak_15, ak_16, ak_17, ak_18, ak_19, ak_20, ak_21, ak_22, ak_23, ak_24, ak_25, ak_26, ak_27, ak_28, ak_29, ak_30, ak_31, ak_32, ak_33, ak_34, ak_35, ak_36, ak_37, ak_38, ak_39, ak_40, ak_41, ak_42, ak_43, ak_44, ak_45, ak_46, ak_47, ak_48, ak_49, ak_50, ak_51, ak_52, ak_53, ak_54, ak_55, ak_56, el31, el33, el34, CX1_letFirst, ca_X1_letFirst, frX1, kcX1, klX1, hasB_def, exists_eq_right_right, exists_eq_right, exists_eq_left, Nat.lt_irrefl, and_self, implies_true, forall_const]
            refine ⟨fun b => h _ (LI_4 h2 b h1), fun b => ?_⟩
            have q1 := p3 j h0 (by omega)
            have q2 := LI_19 h2 (4 * m' + j)
            refine ⟨⟨by omega, by omega⟩, ⟨by omega, by omega⟩, ⟨by omega, by omega⟩, fun d => ⟨⟨by omega, by omega⟩, by omega, by omega, by omega, LI_n h2 d⟩, fun d => ⟨fun c => ⟨⟨by omega, by omega⟩, by omega, by omega, by omega, LI_skip h2 c⟩, fun c => ⟨⟨by omega, by omega⟩, ⟨by omega, by omega⟩, ⟨by omega, by omega⟩, by omega, by omega, by omega, LI_put h2 h0 b (Classical.not_not.mp c) d p4⟩⟩⟩
          · exact hi.elim
        · cases hcut
      · simp only [wp, stp, drp, entL, eL, lget, lset, okst, cnd, swt, rcv, Kr_int, Kr_bool, Kr_void, List.length_cons, List.length_nil, List.replicate, List.append_nil, List.cons_append, List.nil_append, List.take_succ_cons, List.take_zero, List.drop_succ_cons, List.drop_zero, List.reverse_cons, List.reverse_nil, Option.map_some, Option.map_none, Option.toList_some, Option.toList_none, Nat.reduceAdd, Nat.reduceSub, Nat.reduceLT, Nat.reduceLeDiff, Nat.reduceEqDiff, ↓reduceIte, Nat.add_zero, Nat.zero_add, true_and, and_true, Nat.le_refl, reduceCtorEq, false_implies, true_implies, not_true_eq_false, not_false_eq_true, Int.reduceAdd, Int.reduceSub, Int.reduceMul, Int.reduceLE, Int.reduceLT, Int.reduceEq, Int.reduceNe, Int.reduceNeg, Int.reduceDiv, Int.reduceMod, Bool.false_eq_true, Int.le_refl, and_self, true_or, or_true, inR_l, fv0, fv1, fv2, fv3, nc2, nc4, nc6, nc16, nc25, nc60, nc65, nc80, nc130, nc384, nc390, fp_0_0, fp_0_1, fp_0_2, fp_1_0, fp_1_1, fp_1_2, fp_1_3, fp_1_4, fp_1_5, fp_1_6, fp_1_7, fp_1_8, fp_1_9, fp_1_10, fp_1_11, fp_1_12, fp_1_13, fp_1_14, fp_2_0, fp_2_1, fp_2_2, fp_2_3, fp_3_0, fp_3_1, fp_4_0, fp_4_1, fp_4_2, fp_4_3, fp_4_4, fp_4_5, fp_4_6, fp_4_7, fp_5_0, fp_5_1, fp_5_2, fp_5_3, fp_5_4, fp_5_5, fp_5_6, fp_5_7, fp_6_0, fp_6_1, fp_6_2, fp_6_3, fp_6_4, fp_6_5, fp_6_6, fp_6_7, fp_6_8, fp_6_9, fp_6_10, fp_6_11, fp_6_12, fp_6_13, fp_6_14, fp_6_15, fp_7_0, fp_7_1, fp_7_2, fp_7_3, fp_7_4, fp_7_5, fp_7_6, fp_7_7, fp_7_8, fp_7_9, fp_7_10, fp_7_11, fp_7_12, fp_7_13, fp_7_14, fp_7_15, fp_7_16, fp_7_17, fp_7_18, fp_7_19, fp_7_20, fp_7_21, fp_7_22, fp_7_23, fp_7_24, iz_0_1, iz_0_2, iz_1_8, iz_1_9, iz_1_11, iz_2_1, iz_2_2, iz_2_3, iz_3_1, iz_4_1, iz_4_2, iz_5_0, iz_6_8, iz_6_9, iz_6_13, iz_6_14, iz_6_15, iz_7_2, iz_7_6, iz_7_12, iz_7_20, iz_7_21, iz_7_23, iz_7_24, ak_8, ak_9, ak_10, ak_11, ak_12, ak_13, ak_14, ak_15, ak_16, ak_17, ak_18, ak_19, ak_20, ak_21, ak_22, ak_23, ak_24, ak_25, ak_26, ak_27, ak_28, ak_29, ak_30, ak_31, ak_32, ak_33, ak_34, ak_35, ak_36, ak_37, ak_38, ak_39, ak_40, ak_41, ak_42, ak_43, ak_44, ak_45, ak_46, ak_47, ak_48, ak_49, ak_50, ak_51, ak_52, ak_53, ak_54, ak_55, ak_56, el31, el33, el34, CX1_letFirst, ca_X1_letFirst, frX1, kcX1, klX1, hasB_def, exists_eq_right_right, exists_eq_right, exists_eq_left, Nat.lt_irrefl, and_self, implies_true, forall_const]
        exact LI_0
    · exact h.elim
