/-- keep: the rows move down by one (first k places) -/
def K1 (σ σ' : Mem) (k : Int) : Prop := (∀ t a x, (t ≠ 39 ∨ a ≠ 0) → σ' t a x = σ t a x) ∧ (∀ x, 0 ≤ x → x < k → σ' 39 0 x = σ 39 0 (x + 65)) ∧ (∀ x, k ≤ x → σ' 39 0 x = σ 39 0 x)
/-- how many rows stand below the new one -/
def kB (σ : Mem) : Int := if σ 7 0 2 = 6 then 5 else σ 7 0 2
def K2 (σ σ' : Mem) (k : Int) : Prop := (∀ t a x, (t ≠ 39 ∨ a ≠ 0) → ¬ (t = 7 ∧ a = 0 ∧ x = 2) → σ' t a x = σ t a x) ∧ σ' 7 0 2 = kB σ ∧ (∀ x, 0 ≤ x → x < 65 * kB σ → σ' 39 0 x = if σ 7 0 2 = 6 then σ 39 0 (x + 65) else σ 39 0 x) ∧ (∀ x, 0 ≤ x → x < k → σ' 39 0 (65 * kB σ + x) = σ 38 0 x)
theorem K1_0 (σ : Mem) : K1 σ σ 0 := ⟨fun _ _ _ _ => rfl, fun x a b => by omega, fun _ _ => rfl⟩
theorem K1_s {σ σ' : Mem} {k : Int} (h : K1 σ σ' k) (h0 : 0 ≤ k) : K1 σ (up σ' 39 0 k (σ' 39 0 (k + 65))) (k + 1) := by
  obtain ⟨a1, a2, a3⟩ := h
  refine ⟨fun t a x q => ?_, fun x p q => ?_, fun x p => ?_⟩
  · unfold up
    rw [if_neg, a1 t a x q]
    rintro ⟨rfl, rfl, -⟩
    rcases q with q | q <;> exact q rfl
  · unfold up
    rcases (show x < k ∨ x = k by omega) with r | rfl
    · rw [if_neg (by rintro ⟨-, -, s⟩; omega), a2 x p r]
    · rw [if_pos ⟨rfl, rfl, rfl⟩, a3 _ (by omega)]
  · unfold up
    rw [if_neg (by rintro ⟨-, -, s⟩; omega), a3 x (by omega)]
theorem K2_a {σ σ' : Mem} (h : K1 σ σ' 325) (h6 : σ 7 0 2 = 6) : K2 σ (up σ' 7 0 2 (σ' 7 0 2 - 1)) 0 := by
  obtain ⟨a1, a2, a3⟩ := h
  have e : σ' 7 0 2 = σ 7 0 2 := a1 7 0 2 (Or.inl (by decide))
  have hb : kB σ = 5 := by simp [kB, h6]
  refine ⟨fun t a x q r => ?_, ?_, fun x p q => ?_, fun x p q => by omega⟩
  · unfold up
    rw [if_neg r, a1 t a x q]
  · unfold up
    rw [if_pos ⟨rfl, rfl, rfl⟩, hb, e, h6]
    rfl
  · unfold up
    rw [if_neg (by rintro ⟨s, -⟩; omega), if_pos h6, a2 x p (by omega)]
theorem K2_b {σ : Mem} (h6 : ¬ σ 7 0 2 = 6) : K2 σ σ 0 := ⟨fun _ _ _ _ _ => rfl, by simp [kB, h6], fun x p q => by rw [if_neg h6], fun x p q => by omega⟩
theorem K2_s {σ σ' : Mem} {k : Int} (h : K2 σ σ' k) (h0 : 0 ≤ k) (hk : k < 65) : K2 σ (up σ' 39 0 (65 * σ' 7 0 2 + k) (σ' 38 0 k)) (k + 1) := by
  obtain ⟨a1, a2, a3, a4⟩ := h
  rw [a2]
  refine ⟨fun t a x q r => ?_, ?_, fun x p q => ?_, fun x p q => ?_⟩
  · unfold up
    rw [if_neg, a1 t a x q r]
    rintro ⟨rfl, rfl, -⟩
    rcases q with q | q <;> exact q rfl
  · unfold up
    rw [if_neg (by rintro ⟨s, -⟩; omega), a2]
  · unfold up
    rw [if_neg (by rintro ⟨-, -, s⟩; omega), a3 x p q]
  · unfold up
    rcases (show x < k ∨ x = k by omega) with r | rfl
    · rw [if_neg (by rintro ⟨-, -, s⟩; omega), a4 x p r]
    · rw [if_pos ⟨rfl, rfl, rfl⟩, a1 38 0 x (Or.inl (by decide)) (by rintro ⟨s, -⟩; omega)]
def ca_X7_keep : Nat → Option (Nat × Nat × Tr) := fun _ => none
theorem cao_X7_keep (l : Launch) : ∀ k n' ci T', ca_X7_keep k = some (n', ci, T') → ∃ nn, nn + 1 ≤ 0 ∧ Site l yX7_keep.cls k n' ci nn T' := by
  intro k n' ci T' h
  cases h
def T_X7_keep : Tr := fun a σ K => match a with
  | [.inr (.inl (7, 0))] => (0 ≤ σ 7 0 2 ∧ σ 7 0 2 ≤ 6) ∧ (∀ σ' : Mem, K2 σ σ' 65 → K none (up σ' 7 0 2 (kB σ + 1)))
  | _ => False
set_option maxHeartbeats 8000000 in
set_option maxRecDepth 20000 in
theorem k_X7_keep (l : Launch) : Ct l yX7_keep cX7_keep 2 none 0 T_X7_keep := by
  refine mk_met (by decide +kernel) hCX7_keep lCX7_keep frX7_ok cstX7_ok (cao_X7_keep l) ?_ ?_
  · intro a σ K h
    unfold T_X7_keep at h
    split at h
    · simp [eL]
    · exact h.elim
  · intro a σ K ha hR h
    unfold T_X7_keep at h
    split at h
    · refine ⟨fun pc => if pc = 11 then some (fun L S σ' k => match L, S with | [some (.inr (.inl c1)), some (.inl q)], [] => (c1 = (7, 0) ∧ σ 7 0 2 = 6 ∧ 0 ≤ q ∧ q ≤ 325 ∧ K1 σ σ' q) ∧ k = (1000 - q).toNat | _, _ => False) else if pc = 51 then some (fun L S σ' k => match L, S with | [some (.inr (.inl c1)), some (.inl q)], [] => (c1 = (7, 0) ∧ 0 ≤ q ∧ q ≤ 65 ∧ K2 σ σ' q) ∧ k = (65 - q).toNat | _, _ => False) else none, 200, ?_, ?_⟩
      · intro pc I L S σ' k hcut hi
        dsimp only at hcut
        split at hcut
        · rename_i hpc
          subst hpc
          cases hcut
          try dsimp only at hi
          split at hi
          · rename_i c1 q
            obtain ⟨hi, rfl⟩ := hi
            obtain ⟨rfl, h6, h0, h1, h2⟩ := hi
            obtain ⟨⟨p1, p2⟩, h⟩ := h
            simp only [wp, stp, drp, entL, eL, lget, lset, okst, cnd, swt, rcv, Kr_int, Kr_bool, Kr_void, List.length_cons, List.length_nil, List.replicate, List.append_nil, List.cons_append, List.nil_append, List.take_succ_cons, List.take_zero, List.drop_succ_cons, List.drop_zero, List.reverse_cons, List.reverse_nil, Option.map_some, Option.map_none, Option.toList_some, Option.toList_none, Nat.reduceAdd, Nat.reduceSub, Nat.reduceLT, Nat.reduceLeDiff, Nat.reduceEqDiff, ↓reduceIte, Nat.add_zero, Nat.zero_add, true_and, and_true, Nat.le_refl, reduceCtorEq, false_implies, true_implies, not_true_eq_false, not_false_eq_true, Int.reduceAdd, Int.reduceSub, Int.reduceMul, Int.reduceLE, Int.reduceLT, Int.reduceEq, Int.reduceNe, Int.reduceNeg, Int.reduceDiv, Int.reduceMod, Bool.false_eq_true, Int.le_refl, and_self, true_or, or_true, inR_l, fv0, fv1, fv2, fv3, nc2, nc4, nc6, nc16, nc25, nc60, nc65, nc80, nc130, nc384, nc390, fp_0_0, fp_0_1, fp_0_2, fp_1_0, fp_1_1, fp_1_2, fp_1_3, fp_1_4, fp_1_5, fp_1_6, fp_1_7, fp_1_8, fp_1_9, fp_1_10, fp_1_11, fp_1_12, fp_1_13, fp_1_14, fp_2_0, fp_2_1, fp_2_2, fp_2_3, fp_3_0, fp_3_1, fp_4_0, fp_4_1, fp_4_2, fp_4_3, fp_4_4, fp_4_5, fp_4_6, fp_4_7, fp_5_0, fp_5_1, fp_5_2, fp_5_3, fp_5_4, fp_5_5, fp_5_6, fp_5_7, fp_6_0, fp_6_1, fp_6_2, fp_6_3, fp_6_4, fp_6_5, fp_6_6, fp_6_7, fp_6_8, fp_6_9, fp_6_10, fp_6_11, fp_6_12, fp_6_13, fp_6_14, fp_6_15, fp_7_0, fp_7_1, fp_7_2, fp_7_3, fp_7_4, fp_7_5, fp_7_6, fp_7_7, fp_7_8, fp_7_9, fp_7_10, fp_7_11, fp_7_12, fp_7_13, fp_7_14, fp_7_15, fp_7_16, fp_7_17, fp_7_18, fp_7_19, fp_7_20, fp_7_21, fp_7_22, fp_7_23, fp_7_24, iz_0_1, iz_0_2, iz_1_8, iz_1_9, iz_1_11, iz_2_1, iz_2_2, iz_2_3, iz_3_1, iz_4_1, iz_4_2, iz_5_0, iz_6_8, iz_6_9, iz_6_13, iz_6_14, iz_6_15, iz_7_2, iz_7_6, iz_7_12, iz_7_20, iz_7_21, iz_7_23, iz_7_24, ak_8, ak_9, ak_10, ak_11, ak_12, ak_13, ak_14, ak_15, ak_16, ak_17, ak_18, ak_19, ak_20, ak_21, ak_22, ak_23, ak_24, ak_25, ak_26, ak_27, ak_28, ak_29, ak_30, ak_31, ak_32, ak_33, ak_34, ak_35, ak_36, ak_37, ak_38, ak_39, ak_40, ak_41, ak_42, ak_43, ak_44, ak_45, ak_46, ak_47, ak_48, ak_49, ak_50, ak_51, ak_52, ak_53, ak_54, ak_55, ak_56, el31, el33, el34, CX7_keep, ca_X7_keep, frX7, kcX7, klX7, exists_eq_right_right, exists_eq_right, exists_eq_left, Nat.lt_irrefl, and_self, implies_true, forall_const]
            have e7 : σ' 7 0 2 = σ 7 0 2 := h2.1 7 0 2 (Or.inl (by decide))
            refine ⟨fun a => ⟨⟨by omega, by omega⟩, by omega, ?_⟩, fun a => ⟨⟨by omega, by omega⟩, ⟨by omega, by omega⟩, ⟨by omega, by omega⟩, ⟨by omega, by omega⟩, by omega, h6, by omega, by omega, K1_s h2 h0⟩⟩
            have e8 : q = 325 := by omega
            rw [e8] at h2
            exact K2_a h2 h6
          · exact hi.elim
        · split at hcut
          · rename_i hpc
            subst hpc
            cases hcut
            try dsimp only at hi
            split at hi
            · rename_i c1 q
              obtain ⟨hi, rfl⟩ := hi
              obtain ⟨rfl, h0, h1, h2⟩ := hi
              obtain ⟨⟨p1, p2⟩, h⟩ := h
              simp only [wp, stp, drp, entL, eL, lget, lset, okst, cnd, swt, rcv, Kr_int, Kr_bool, Kr_void, List.length_cons, List.length_nil, List.replicate, List.append_nil, List.cons_append, List.nil_append, List.take_succ_cons, List.take_zero, List.drop_succ_cons, List.drop_zero, List.reverse_cons, List.reverse_nil, Option.map_some, Option.map_none, Option.toList_some, Option.toList_none, Nat.reduceAdd, Nat.reduceSub, Nat.reduceLT, Nat.reduceLeDiff, Nat.reduceEqDiff, ↓reduceIte, Nat.add_zero, Nat.zero_add, true_and, and_true, Nat.le_refl, reduceCtorEq, false_implies, true_implies, not_true_eq_false, not_false_eq_true, Int.reduceAdd, Int.reduceSub, Int.reduceMul, Int.reduceLE, Int.reduceLT, Int.reduceEq, Int.reduceNe, Int.reduceNeg, Int.reduceDiv, Int.reduceMod, Bool.false_eq_true, Int.le_refl, and_self, true_or, or_true, inR_l, fv0, fv1, fv2, fv3, nc2, nc4, nc6, nc16, nc25, nc60, nc65, nc80, nc130, nc384, nc390, fp_0_0, fp_0_1, fp_0_2, fp_1_0, fp_1_1, fp_1_2, fp_1_3, fp_1_4, fp_1_5, fp_1_6, fp_1_7, fp_1_8, fp_1_9, fp_1_10, fp_1_11, fp_1_12, fp_1_13, fp_1_14, fp_2_0, fp_2_1, fp_2_2, fp_2_3, fp_3_0, fp_3_1, fp_4_0, fp_4_1, fp_4_2, fp_4_3, fp_4_4, fp_4_5, fp_4_6, fp_4_7, fp_5_0, fp_5_1, fp_5_2, fp_5_3, fp_5_4, fp_5_5, fp_5_6, fp_5_7, fp_6_0, fp_6_1, fp_6_2, fp_6_3, fp_6_4, fp_6_5, fp_6_6, fp_6_7, fp_6_8, fp_6_9, fp_6_10, fp_6_11, fp_6_12, fp_6_13, fp_6_14, fp_6_15, fp_7_0, fp_7_1, fp_7_2, fp_7_3, fp_7_4, fp_7_5, fp_7_6, fp_7_7, fp_7_8, fp_7_9, fp_7_10, fp_7_11, fp_7_12, fp_7_13, fp_7_14, fp_7_15, fp_7_16, fp_7_17, fp_7_18, fp_7_19, fp_7_20, fp_7_21, fp_7_22, fp_7_23, fp_7_24, iz_0_1, iz_0_2, iz_1_8, iz_1_9, iz_1_11, iz_2_1, iz_2_2, iz_2_3, iz_3_1, iz_4_1, iz_4_2, iz_5_0, iz_6_8, iz_6_9, iz_6_13, iz_6_14, iz_6_15, iz_7_2, iz_7_6, iz_7_12, iz_7_20, iz_7_21, iz_7_23, iz_7_24, ak_8, ak_9, ak_10, ak_11, ak_12, ak_13, ak_14, ak_15, ak_16, ak_17, ak_18, ak_19, ak_20, ak_21, ak_22, ak_23, ak_24, ak_25, ak_26, ak_27, ak_28, ak_29, ak_30, ak_31, ak_32, ak_33, ak_34, ak_35, ak_36, ak_37, ak_38, ak_39, ak_40, ak_41, ak_42, ak_43, ak_44, ak_45, ak_46, ak_47, ak_48, ak_49, ak_50, ak_51, ak_52, ak_53, ak_54, ak_55, ak_56, el31, el33, el34, CX7_keep, ca_X7_keep, frX7, kcX7, klX7, exists_eq_right_right, exists_eq_right, exists_eq_left, Nat.lt_irrefl, and_self, implies_true, forall_const]
              have e7 := h2.2.1
              have e9 : 0 ≤ kB σ ∧ kB σ ≤ 5 := by
                unfold kB
                split <;> omega
              refine ⟨fun a => ⟨⟨by omega, by omega⟩, ?_⟩, fun a => ⟨⟨by omega, by omega⟩, ⟨by omega, by omega⟩, ⟨by omega, by omega⟩, ⟨by omega, by omega⟩, ⟨by omega, by omega⟩, by omega, by omega, by omega, K2_s h2 h0 (by omega)⟩⟩
              have e8 : q = 65 := by omega
              rw [e8] at h2
              rw [e7]
              exact h σ' h2
            · exact hi.elim
          · cases hcut
      · simp only [wp, stp, drp, entL, eL, lget, lset, okst, cnd, swt, rcv, Kr_int, Kr_bool, Kr_void, List.length_cons, List.length_nil, List.replicate, List.append_nil, List.cons_append, List.nil_append, List.take_succ_cons, List.take_zero, List.drop_succ_cons, List.drop_zero, List.reverse_cons, List.reverse_nil, Option.map_some, Option.map_none, Option.toList_some, Option.toList_none, Nat.reduceAdd, Nat.reduceSub, Nat.reduceLT, Nat.reduceLeDiff, Nat.reduceEqDiff, ↓reduceIte, Nat.add_zero, Nat.zero_add, true_and, and_true, Nat.le_refl, reduceCtorEq, false_implies, true_implies, not_true_eq_false, not_false_eq_true, Int.reduceAdd, Int.reduceSub, Int.reduceMul, Int.reduceLE, Int.reduceLT, Int.reduceEq, Int.reduceNe, Int.reduceNeg, Int.reduceDiv, Int.reduceMod, Bool.false_eq_true, Int.le_refl, and_self, true_or, or_true, inR_l, fv0, fv1, fv2, fv3, nc2, nc4, nc6, nc16, nc25, nc60, nc65, nc80, nc130, nc384, nc390, fp_0_0, fp_0_1, fp_0_2, fp_1_0, fp_1_1, fp_1_2, fp_1_3, fp_1_4, fp_1_5, fp_1_6, fp_1_7, fp_1_8, fp_1_9, fp_1_10, fp_1_11, fp_1_12, fp_1_13, fp_1_14, fp_2_0, fp_2_1, fp_2_2, fp_2_3, fp_3_0, fp_3_1, fp_4_0, fp_4_1, fp_4_2, fp_4_3, fp_4_4, fp_4_5, fp_4_6, fp_4_7, fp_5_0, fp_5_1, fp_5_2, fp_5_3, fp_5_4, fp_5_5, fp_5_6, fp_5_7, fp_6_0, fp_6_1, fp_6_2, fp_6_3, fp_6_4, fp_6_5, fp_6_6, fp_6_7, fp_6_8, fp_6_9, fp_6_10, fp_6_11, fp_6_12, fp_6_13, fp_6_14, fp_6_15, fp_7_0, fp_7_1, fp_7_2, fp_7_3, fp_7_4, fp_7_5, fp_7_6, fp_7_7, fp_7_8, fp_7_9, fp_7_10, fp_7_11, fp_7_12, fp_7_13, fp_7_14, fp_7_15, fp_7_16, fp_7_17, fp_7_18, fp_7_19, fp_7_20, fp_7_21, fp_7_22, fp_7_23, fp_7_24, iz_0_1, iz_0_2, iz_1_8, iz_1_9, iz_1_11, iz_2_1, iz_2_2, iz_2_3, iz_3_1, iz_4_1, iz_4_2, iz_5_0, iz_6_8, iz_6_9, iz_6_13, iz_6_14, iz_6_15, iz_7_2, iz_7_6, iz_7_12, iz_7_20, iz_7_21, iz_7_23, iz_7_24, ak_8, ak_9, ak_10, ak_11, ak_12, ak_13, ak_14, ak_15, ak_16, ak_17, ak_18, ak_19, ak_20, ak_21, ak_22, ak_23, ak_24, ak_25, ak_26, ak_27, ak_28, ak_29, ak_30, ak_31, ak_32, ak_33, ak_34, ak_35, ak_36, ak_37, ak_38, ak_39, ak_40, ak_41, ak_42, ak_43, ak_44, ak_45, ak_46, ak_47, ak_48, ak_49, ak_50, ak_51, ak_52, ak_53, ak_54, ak_55, ak_56, el31, el33, el34, CX7_keep, ca_X7_keep, frX7, kcX7, klX7, exists_eq_right_right, exists_eq_right, exists_eq_left, Nat.lt_irrefl, and_self, implies_true, forall_const]
        exact ⟨fun a => K2_b a, fun a => ⟨Classical.not_not.mp a, K1_0 σ⟩⟩
    · exact h.elim
