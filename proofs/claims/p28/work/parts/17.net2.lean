/-- the operation of the job k on the machine of o; its end; its way behind -/
def oN (σ : Mem) (n : Nat) (o k : Int) : Int := σ 19 n (4 * σ 16 n o + k)
def eH (σ : Mem) (n : Nat) (o k : Int) : Int := σ 21 n (oN σ n o k) + σ 17 n (oN σ n o k)
def tE (σ : Mem) (n : Nat) (o k : Int) : Int := σ 17 n (oN σ n o k) + σ 22 n (oN σ n o k)
/-- the head of o, over the first j jobs ahead -/
def HI (σ : Mem) (n : Nat) (o r j : Int) : Prop := σ 18 n o ≤ r ∧ (o % 4 ≠ 0 → σ 21 n (o - 1) + σ 17 n (o - 1) ≤ r) ∧ (∀ k, 0 ≤ k → k < j → hasB (σ 20 n o) k → eH σ n o k ≤ r) ∧ (r = σ 18 n o ∨ (o % 4 ≠ 0 ∧ r = σ 21 n (o - 1) + σ 17 n (o - 1)) ∨ ∃ k, 0 ≤ k ∧ k < 4 ∧ hasB (σ 20 n o) k ∧ r = eH σ n o k)
theorem HI_z {σ : Mem} {n : Nat} {o r j : Int} (h : HI σ n o r j) (hz : σ 20 n o = 0) : HI σ n o r 4 := ⟨h.1, h.2.1, fun k a b c => absurd c (by rw [hz]; exact bit_0 a b), h.2.2.2⟩
theorem HI_4 {σ : Mem} {n : Nat} {o r j : Int} (h : HI σ n o r j) (hz : 4 ≤ j) : HI σ n o r 4 := ⟨h.1, h.2.1, fun k a b c => h.2.2.1 k a (by omega) c, h.2.2.2⟩
theorem HI_skip {σ : Mem} {n : Nat} {o r j : Int} (h : HI σ n o r j) (hb : ¬ hasB (σ 20 n o) j) : HI σ n o r (j + 1) := ⟨h.1, h.2.1, fun k a b c => by
  rcases (show k < j ∨ k = j by omega) with q | rfl
  · exact h.2.2.1 k a q c
  · exact absurd c hb, h.2.2.2⟩
theorem HI_keep {σ : Mem} {n : Nat} {o r j : Int} (h : HI σ n o r j) (hb : σ 21 n (σ 19 n (4 * σ 16 n o + j)) + σ 17 n (σ 19 n (4 * σ 16 n o + j)) ≤ r) : HI σ n o r (j + 1) := ⟨h.1, h.2.1, fun k a b c => by
  rcases (show k < j ∨ k = j by omega) with q | rfl
  · exact h.2.2.1 k a q c
  · exact hb, h.2.2.2⟩
theorem HI_take {σ : Mem} {n : Nat} {o r j : Int} (h : HI σ n o r j) (h0 : 0 ≤ j) (h1 : ¬ 4 ≤ j) (hb : ¬ ¬ hasB (σ 20 n o) j) (hc : ¬ σ 21 n (σ 19 n (4 * σ 16 n o + j)) + σ 17 n (σ 19 n (4 * σ 16 n o + j)) ≤ r) : HI σ n o (σ 21 n (σ 19 n (4 * σ 16 n o + j)) + σ 17 n (σ 19 n (4 * σ 16 n o + j))) (j + 1) := by
  obtain ⟨a1, a2, a3, a4⟩ := h
  refine ⟨by omega, fun q => by have := a2 q; omega, fun k a b c => ?_, Or.inr (Or.inr ⟨j, h0, by omega, Classical.not_not.mp hb, rfl⟩)⟩
  rcases (show k < j ∨ k = j by omega) with q | rfl
  · have := a3 k a q c
    omega
  · exact Int.le_refl _
theorem HI_a {σ : Mem} {n : Nat} {o : Int} (h : ¬ o % 4 ≠ 0) : HI σ n o (σ 18 n o) 0 := ⟨Int.le_refl _, fun q => absurd q h, fun k a b => by omega, Or.inl rfl⟩
theorem HI_b {σ : Mem} {n : Nat} {o : Int} (h : σ 21 n (o - 1) + σ 17 n (o - 1) ≤ σ 18 n o) : HI σ n o (σ 18 n o) 0 := ⟨Int.le_refl _, fun q => h, fun k a b => by omega, Or.inl rfl⟩
theorem HI_c {σ : Mem} {n : Nat} {o : Int} (hq : o % 4 ≠ 0) (h : ¬ σ 21 n (o - 1) + σ 17 n (o - 1) ≤ σ 18 n o) : HI σ n o (σ 21 n (o - 1) + σ 17 n (o - 1)) 0 := ⟨by omega, fun q => Int.le_refl _, fun k a b => by omega, Or.inr (Or.inl ⟨hq, rfl⟩)⟩
def ca_X1_headOf : Nat → Option (Nat × Nat × Tr) := fun _ => none
theorem cao_X1_headOf (l : Launch) : ∀ k n' ci T', ca_X1_headOf k = some (n', ci, T') → ∃ nn, nn + 1 ≤ 0 ∧ Site l yX1_headOf.cls k n' ci nn T' := by
  intro k n' ci T' h
  cases h
def T_X1_headOf : Tr := fun a σ K => match a with
  | [.inr (.inl (1, n)), .inl o] => (0 ≤ o ∧ o < 16 ∧ 0 ≤ σ 16 n o ∧ σ 16 n o < 4 ∧ (o % 4 ≠ 0 → inR (σ 21 n (o - 1) + σ 17 n (o - 1))) ∧ (∀ k, 0 ≤ k → k < 4 → hasB (σ 20 n o) k → 0 ≤ σ 19 n (4 * σ 16 n o + k) ∧ σ 19 n (4 * σ 16 n o + k) < 16 ∧ inR (σ 21 n (σ 19 n (4 * σ 16 n o + k)) + σ 17 n (σ 19 n (4 * σ 16 n o + k))))) ∧ ∀ r, HI σ n o r 4 → K (some r) σ
  | _ => False
set_option maxHeartbeats 8000000 in
set_option maxRecDepth 20000 in
theorem k_X1_headOf (l : Launch) : Ct l yX1_headOf cX1_headOf 7 (some .int) 0 T_X1_headOf := by
  refine mk_met (by decide +kernel) hCX1_headOf lCX1_headOf frX1_ok cstX1_ok (cao_X1_headOf l) ?_ ?_
  · intro a σ K h
    unfold T_X1_headOf at h
    split at h
    · simp [eL]
    · exact h.elim
  · intro a σ K ha hR h
    unfold T_X1_headOf at h
    split at h
    · rename_i n o
      refine ⟨fun pc => if pc = 52 then some (fun L S σ' k => match L, S with | [some (.inr (.inl c1)), some (.inl o'), some (.inl r), some (.inl ja), some (.inl j), _, _], [] => (c1 = (1, n) ∧ o' = o ∧ ja = σ 20 n o ∧ σ' = σ ∧ 0 ≤ j ∧ j ≤ 4 ∧ HI σ n o r j) ∧ k = (4 - j).toNat | _, _ => False) else none, 200, ?_, ?_⟩
      · intro pc I L S σ' k hcut hi
        dsimp only at hcut
        split at hcut
        · rename_i hpc
          subst hpc
          cases hcut
          try dsimp only at hi
          split at hi
          · rename_i c1 o' r ja j x1 x2
            obtain ⟨hi, rfl⟩ := hi
            obtain ⟨rfl, rfl, rfl, rfl, h0, h1, h2⟩ := hi
            obtain ⟨⟨p1, p2, p3, p4, p5, p6⟩, h⟩ := h
            simp only [wp, stp, drp, entL, eL, lget, lset, okst, cnd, swt, rcv, Kr_int, Kr_bool, Kr_void, List.length_cons, List.length_nil, List.replicate, List.append_nil, List.cons_append, List.nil_append, List.take_succ_cons, List.take_zero, List.drop_succ_cons, List.drop_zero, List.reverse_cons, List.reverse_nil, Option.map_some, Option.map_none, Option.toList_some, Option.toList_none, Nat.reduceAdd, Nat.reduceSub, Nat.reduceLT, Nat.reduceLeDiff, Nat.reduceEqDiff, ↓reduceIte, Nat.add_zero, Nat.zero_add, true_and, and_true, Nat.le_refl, reduceCtorEq, false_implies, true_implies, not_true_eq_false, not_false_eq_true, Int.reduceAdd, Int.reduceSub, Int.reduceMul, Int.reduceLE, Int.reduceLT, Int.reduceEq, Int.reduceNe, Int.reduceNeg, Int.reduceDiv, Int.reduceMod, Bool.false_eq_true, Int.le_refl, and_self, true_or, or_true, inR_l, fv0, fv1, fv2, fv3, nc2, nc4, nc6, nc16, nc25, nc60, nc65, nc80, nc130, nc384, nc390, fp_0_0, fp_0_1, fp_0_2, fp_1_0, fp_1_1, fp_1_2, fp_1_3, fp_1_4, fp_1_5, fp_1_6, fp_1_7, fp_1_8, fp_1_9, fp_1_10, fp_1_11, fp_1_12, fp_1_13, fp_1_14, fp_2_0, fp_2_1, fp_2_2, fp_2_3, fp_3_0, fp_3_1, fp_4_0, fp_4_1, fp_4_2, fp_4_3, fp_4_4, fp_4_5, fp_4_6, fp_4_7, fp_5_0, fp_5_1, fp_5_2, fp_5_3, fp_5_4, fp_5_5, fp_5_6, fp_5_7, fp_6_0, fp_6_1, fp_6_2, fp_6_3, fp_6_4, fp_6_5, fp_6_6, fp_6_7, fp_6_8, fp_6_9, fp_6_10, fp_6_11, fp_6_12, fp_6_13, fp_6_14, fp_6_15, fp_7_0, fp_7_1, fp_7_2, fp_7_3, fp_7_4, fp_7_5, fp_7_6, fp_7_7, fp_7_8, fp_7_9, fp_7_10, fp_7_11, fp_7_12, fp_7_13, fp_7_14, fp_7_15, fp_7_16, fp_7_17, fp_7_18, fp_7_19, fp_7_20, fp_7_21, fp_7_22, fp_7_23, fp_7_24, iz_0_1, iz_0_2, iz_1_8, iz_1_9, iz_1_11, iz_2_1, iz_2_2, iz_2_3, iz_3_1, iz_4_1, iz_4_2, iz_5_0, iz_6_8, iz_6_9, iz_6_13, iz_6_14, iz_6_15, iz_7_2, iz_7_6, iz_7_12, iz_7_20, iz_7_21, iz_7_23, iz_7_24, ak_8, ak_9, ak_10, ak_11, ak_12, ak_13, ak_14, ak_15, ak_16, ak_17, ak_18, ak_19, ak_20, ak_21, ak_22, ak_23, ak_24, ak_25, ak_26, ak_27, ak_28, ak_29, ak_30, ak_31, ak_32, ak_33, ak_34, ak_35, ak_36, ak_37, ak_38, ak_39, ak_40, ak_41, ak_42, ak_43, ak_44, ak_45, ak_46, ak_47, ak_48, ak_49, ak_50, ak_51, ak_52, ak_53, ak_54, ak_55, ak_56, el31, el33, el34, CX1_headOf, ca_X1_headOf, frX1, kcX1, klX1, hasB_def, exists_eq_right_right, exists_eq_right, exists_eq_left, Nat.lt_irrefl, and_self, implies_true, forall_const]
            refine ⟨fun a => h _ (HI_z h2 a), fun a => ⟨fun b => h _ (HI_4 h2 b), fun b => ⟨fun c => ⟨⟨by omega, by omega⟩, by omega, by omega, by omega, HI_skip h2 c⟩, fun c => ?_⟩⟩⟩
            obtain ⟨q1, q2, q3⟩ := p6 j h0 (by omega) (Classical.not_not.mp c)
            refine ⟨⟨p1, p2⟩, ⟨by omega, by omega⟩, ⟨by omega, by omega⟩, ⟨by omega, by omega⟩, fun d => absurd d (by omega), fun d => ⟨⟨q1, q2⟩, ⟨q1, q2⟩, q3, fun e => ⟨⟨by omega, by omega⟩, by omega, by omega, by omega, HI_keep h2 e⟩, fun e => ⟨⟨by omega, by omega⟩, by omega, by omega, by omega, HI_take h2 h0 b c e⟩⟩⟩
          · exact hi.elim
        · cases hcut
      · simp only [wp, stp, drp, entL, eL, lget, lset, okst, cnd, swt, rcv, Kr_int, Kr_bool, Kr_void, List.length_cons, List.length_nil, List.replicate, List.append_nil, List.cons_append, List.nil_append, List.take_succ_cons, List.take_zero, List.drop_succ_cons, List.drop_zero, List.reverse_cons, List.reverse_nil, Option.map_some, Option.map_none, Option.toList_some, Option.toList_none, Nat.reduceAdd, Nat.reduceSub, Nat.reduceLT, Nat.reduceLeDiff, Nat.reduceEqDiff, ↓reduceIte, Nat.add_zero, Nat.zero_add, true_and, and_true, Nat.le_refl, reduceCtorEq, false_implies, true_implies, not_true_eq_false, not_false_eq_true, Int.reduceAdd, Int.reduceSub, Int.reduceMul, Int.reduceLE, Int.reduceLT, Int.reduceEq, Int.reduceNe, Int.reduceNeg, Int.reduceDiv, Int.reduceMod, Bool.false_eq_true, Int.le_refl, and_self, true_or, or_true, inR_l, fv0, fv1, fv2, fv3, nc2, nc4, nc6, nc16, nc25, nc60, nc65, nc80, nc130, nc384, nc390, fp_0_0, fp_0_1, fp_0_2, fp_1_0, fp_1_1, fp_1_2, fp_1_3, fp_1_4, fp_1_5, fp_1_6, fp_1_7, fp_1_8, fp_1_9, fp_1_10, fp_1_11, fp_1_12, fp_1_13, fp_1_14, fp_2_0, fp_2_1, fp_2_2, fp_2_3, fp_3_0, fp_3_1, fp_4_0, fp_4_1, fp_4_2, fp_4_3, fp_4_4, fp_4_5, fp_4_6, fp_4_7, fp_5_0, fp_5_1, fp_5_2, fp_5_3, fp_5_4, fp_5_5, fp_5_6, fp_5_7, fp_6_0, fp_6_1, fp_6_2, fp_6_3, fp_6_4, fp_6_5, fp_6_6, fp_6_7, fp_6_8, fp_6_9, fp_6_10, fp_6_11, fp_6_12, fp_6_13, fp_6_14, fp_6_15, fp_7_0, fp_7_1, fp_7_2, fp_7_3, fp_7_4, fp_7_5, fp_7_6, fp_7_7, fp_7_8, fp_7_9, fp_7_10, fp_7_11, fp_7_12, fp_7_13, fp_7_14, fp_7_15, fp_7_16, fp_7_17, fp_7_18, fp_7_19, fp_7_20, fp_7_21, fp_7_22, fp_7_23, fp_7_24, iz_0_1, iz_0_2, iz_1_8, iz_1_9, iz_1_11, iz_2_1, iz_2_2, iz_2_3, iz_3_1, iz_4_1, iz_4_2, iz_5_0, iz_6_8, iz_6_9, iz_6_13, iz_6_14, iz_6_15, iz_7_2, iz_7_6, iz_7_12, iz_7_20, iz_7_21, iz_7_23, iz_7_24, ak_8, ak_9, ak_10, ak_11, ak_12, ak_13, ak_14, ak_15, ak_16, ak_17, ak_18, ak_19, ak_20, ak_21, ak_22, ak_23, ak_24, ak_25, ak_26, ak_27, ak_28, ak_29, ak_30, ak_31, ak_32, ak_33, ak_34, ak_35, ak_36, ak_37, ak_38, ak_39, ak_40, ak_41, ak_42, ak_43, ak_44, ak_45, ak_46, ak_47, ak_48, ak_49, ak_50, ak_51, ak_52, ak_53, ak_54, ak_55, ak_56, el31, el33, el34, CX1_headOf, ca_X1_headOf, frX1, kcX1, klX1, hasB_def, exists_eq_right_right, exists_eq_right, exists_eq_left, Nat.lt_irrefl, and_self, implies_true, forall_const]
        obtain ⟨⟨p1, p2, p3, p4, p5, p6⟩, h⟩ := h
        refine ⟨⟨p1, p2⟩, p1, fun a => ⟨⟨p1, p2⟩, HI_a (by omega)⟩, fun a => ⟨⟨by omega, by omega⟩, ⟨by omega, by omega⟩, ⟨by omega, by omega⟩, ⟨by omega, by omega⟩, p5 (by omega), fun b => ⟨⟨p1, p2⟩, HI_b b⟩, fun b => ⟨⟨p1, p2⟩, HI_c (by omega) b⟩⟩⟩
    · exact h.elim
