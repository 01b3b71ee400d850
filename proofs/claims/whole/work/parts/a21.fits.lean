/-- an order that was read at r fits the workshop -/
def fitP (σ : Mem) (r : Int) (n : Int) : Prop := σ 55 0 (r + 1) = rLn σ (σ 55 0 r) ∧ ∀ i, 0 ≤ i → i < n → je σ (σ 55 0 r) (σ 55 0 (r + 2 + i))
def T_X7_isJob2 : Tr := fun a σ K => match a with
  | [.inr (.inl (7, 0)), .inl j] => (0 ≤ j ∧ j < σ 38 0 0 → K (some 1) σ) ∧ (¬ (0 ≤ j ∧ j < σ 38 0 0) → K (some 0) σ)
  | _ => False
theorem m_X7_isJob2 : ∀ a σ K, T_X7_isJob2 a σ K → T_X7_isJob a σ K := by
  intro a σ K h
  unfold T_X7_isJob2 at h
  unfold T_X7_isJob
  split at h
  · rename_i j
    show K (some (if 0 ≤ j ∧ j < σ 38 0 0 then 1 else 0)) σ
    by_cases z : 0 ≤ j ∧ j < σ 38 0 0
    · rw [if_pos z]
      exact h.1 z
    · rw [if_neg z]
      exact h.2 z
  · exact h.elim
def T_X7_operationOn2 : Tr := fun a σ K => match a with
  | [.inr (.inl (7, 0)), .inl j, .inl m] => (rWF σ ∧ 0 ≤ j ∧ j < 4) ∧ K (some (oj σ m j)) σ
  | _ => False
theorem m_X7_operationOn2 : ∀ a σ K, T_X7_operationOn2 a σ K → T_X7_operationOn a σ K := by
  intro a σ K h
  unfold T_X7_operationOn2 at h
  unfold T_X7_operationOn
  split at h
  · obtain ⟨⟨p, j0, j1⟩, h⟩ := h
    exact ⟨⟨j0, j1, (rSt_r p j0 j1).2⟩, h⟩
  · exact h.elim
theorem je_J {σ : Mem} (h : rWF σ) {m k : Int} (k0 : 0 ≤ k) (k1 : k < 4) (hj : je σ m k) : k < σ 38 0 0 := by
  rcases oj_v h (m := m) k0 k1 with ⟨a, -⟩ | ⟨a, b, c, d⟩
  · unfold je at hj
    omega
  · have := (rWF_op h b).2.2.2.2.1
    omega
theorem k_X7_isJob2 (l : Launch) : Ct l yX7_isJob cX7_isJob 2 (some .boolean) 0 T_X7_isJob2 := Ct_mono (k_X7_isJob l) m_X7_isJob2
theorem k_X7_operationOn2 (l : Launch) : Ct l yX7_operationOn cX7_operationOn 4 (some .int) 1 T_X7_operationOn2 := Ct_mono (k_X7_operationOn l) m_X7_operationOn2
def ca_X7_fitsOrder : Nat → Option (Nat × Nat × Tr)
  | 65 => some (2, 7, T_X7_isJob2)
  | 80 => some (3, 7, T_X7_operationOn2)
  | _ => none
theorem cao_X7_fitsOrder (l : Launch) : ∀ k n' ci T', ca_X7_fitsOrder k = some (n', ci, T') → ∃ nn, nn + 1 ≤ 2 ∧ Site l yX7_fitsOrder.cls k n' ci nn T' := by
  intro k n' ci T' h
  unfold ca_X7_fitsOrder at h
  split at h
  · cases h; exact ⟨0, by decide, _, _, _, _, k_X7_isJob2 l, Or.inl ⟨_, rfl, FX7_isJob, KRX7_65⟩⟩
  · cases h; exact ⟨1, by decide, _, _, _, _, k_X7_operationOn2 l, Or.inl ⟨_, rfl, FX7_operationOn, KRX7_80⟩⟩
  · cases h
def T_X7_fitsOrder : Tr := fun a σ K => match a with
  | [.inr (.inl (7, 0)), .inl r] => (rWF σ ∧ 0 ≤ r ∧ r ≤ 40 ∧ 0 ≤ σ 55 0 r ∧ σ 55 0 r < 4 ∧ 0 ≤ σ 55 0 (r + 1) ∧ σ 55 0 (r + 1) ≤ 4 ∧ ∀ i, 0 ≤ i → i < σ 55 0 (r + 1) → 0 ≤ σ 55 0 (r + 2 + i) ∧ σ 55 0 (r + 2 + i) < 4) ∧ (fitP σ r (σ 55 0 (r + 1)) → K (some 1) σ) ∧ (¬ fitP σ r (σ 55 0 (r + 1)) → K (some 0) σ)
  | _ => False
set_option maxHeartbeats 8000000 in
set_option maxRecDepth 20000 in
theorem k_X7_fitsOrder (l : Launch) : Ct l yX7_fitsOrder cX7_fitsOrder 6 (some .boolean) 2 T_X7_fitsOrder := by
  refine mk_met (by decide +kernel) hCX7_fitsOrder lCX7_fitsOrder frX7_ok cstX7_ok (cao_X7_fitsOrder l) ?_ ?_
  · intro a σ K h
    unfold T_X7_fitsOrder at h
    split at h
    · simp [eL]
    · exact h.elim
  · intro a σ K ha hR h
    unfold T_X7_fitsOrder at h
    split at h
    · rename_i r
      refine ⟨fun pc => if pc = 36 then some (fun L S σ' k => match L, S with | [some (.inr (.inl c1)), some (.inl r'), some (.inl m), some (.inl ft), some (.inl k1), _], [] => (c1 = (7, 0) ∧ r' = r ∧ m = σ 55 0 r ∧ 0 ≤ k1 ∧ k1 ≤ σ 55 0 (r + 1) ∧ ((ft = 1 ∧ fitP σ r k1) ∨ (ft = 0 ∧ ¬ fitP σ r k1)) ∧ σ' = σ) ∧ k = (10 - k1).toNat | _, _ => False) else none, 200, ?_, ?_⟩
      · intro pc I L S σ' k hcut hi
        dsimp only at hcut
        split at hcut
        · rename_i hpc
          subst hpc
          cases hcut
          try dsimp only at hi
          split at hi
          · rename_i c1 r' m ft k1 x1
            obtain ⟨hi, rfl⟩ := hi
            obtain ⟨rfl, rfl, hm, h0, h1, hI, rfl⟩ := hi
            obtain ⟨⟨p0, p1, p2, p3, p4, p5, p6, p7⟩, hy, hn⟩ := h
            simp only [wp, stp, drp, entL, eL, lget, lset, okst, cnd, swt, rcv, Kr_int, Kr_bool, Kr_void, List.length_cons, List.length_nil, List.replicate, List.append_nil, List.cons_append, List.nil_append, List.take_succ_cons, List.take_zero, List.drop_succ_cons, List.drop_zero, List.reverse_cons, List.reverse_nil, Option.map_some, Option.map_none, Option.toList_some, Option.toList_none, Nat.reduceAdd, Nat.reduceSub, Nat.reduceLT, Nat.reduceLeDiff, Nat.reduceEqDiff, ↓reduceIte, Nat.add_zero, Nat.zero_add, true_and, and_true, Nat.le_refl, reduceCtorEq, false_implies, true_implies, not_true_eq_false, not_false_eq_true, Int.reduceAdd, Int.reduceSub, Int.reduceMul, Int.reduceLE, Int.reduceLT, Int.reduceEq, Int.reduceNe, Int.reduceNeg, Int.reduceDiv, Int.reduceMod, Bool.false_eq_true, Int.le_refl, and_self, true_or, or_true, inR_l, fv0, fv1, fv2, fv3, nc2, nc4, nc6, nc16, nc25, nc60, nc65, nc80, nc130, nc384, nc390, fp_0_0, fp_0_1, fp_0_2, fp_1_0, fp_1_1, fp_1_2, fp_1_3, fp_1_4, fp_1_5, fp_1_6, fp_1_7, fp_1_8, fp_1_9, fp_1_10, fp_1_11, fp_1_12, fp_1_13, fp_1_14, fp_2_0, fp_2_1, fp_2_2, fp_2_3, fp_3_0, fp_3_1, fp_4_0, fp_4_1, fp_4_2, fp_4_3, fp_4_4, fp_4_5, fp_4_6, fp_4_7, fp_5_0, fp_5_1, fp_5_2, fp_5_3, fp_5_4, fp_5_5, fp_5_6, fp_5_7, fp_6_0, fp_6_1, fp_6_2, fp_6_3, fp_6_4, fp_6_5, fp_6_6, fp_6_7, fp_6_8, fp_6_9, fp_6_10, fp_6_11, fp_6_12, fp_6_13, fp_6_14, fp_6_15, fp_7_0, fp_7_1, fp_7_2, fp_7_3, fp_7_4, fp_7_5, fp_7_6, fp_7_7, fp_7_8, fp_7_9, fp_7_10, fp_7_11, fp_7_12, fp_7_13, fp_7_14, fp_7_15, fp_7_16, fp_7_17, fp_7_18, fp_7_19, fp_7_20, fp_7_21, fp_7_22, fp_7_23, fp_7_24, iz_0_1, iz_0_2, iz_1_8, iz_1_9, iz_1_11, iz_2_1, iz_2_2, iz_2_3, iz_3_1, iz_4_1, iz_4_2, iz_5_0, iz_6_8, iz_6_9, iz_6_13, iz_6_14, iz_6_15, iz_7_2, iz_7_6, iz_7_12, iz_7_20, iz_7_21, iz_7_23, iz_7_24, ak_8, ak_9, ak_10, ak_11, ak_12, ak_13, ak_14, ak_15, ak_16, ak_17, ak_18, ak_19, ak_20, ak_21, ak_22, ak_23, ak_24, ak_25, ak_26, ak_27, ak_28, ak_29, ak_30, ak_31, ak_32, ak_33, ak_34, ak_35, ak_36, ak_37, ak_38, ak_39, ak_40, ak_41, ak_42, ak_43, ak_44, ak_45, ak_46, ak_47, ak_48, ak_49, ak_50, ak_51, ak_52, ak_53, ak_54, ak_55, ak_56, el31, el33, el34, CX7_fitsOrder, ca_X7_fitsOrder, frX7, kcX7, klX7, T_X7_isJob2, T_X7_operationOn2, up_ap, false_and, and_false, if_false, if_true, ite_true, ite_false, exists_eq_right_right, exists_eq_right, exists_eq_left, Nat.lt_irrefl, and_self, implies_true, forall_const]
            have N : ∀ ft' : Prop, ft' → ¬ σ' 55 0 (r' + 1) ≤ k1 → inR (k1 + 1) ∧ (10 - (k1 + 1)).toNat < (10 - k1).toNat ∧ m = σ' 55 0 r' ∧ 0 ≤ k1 + 1 ∧ k1 + 1 ≤ σ' 55 0 (r' + 1) ∧ ft' := fun ft' q a => ⟨by simp only [inR]; omega, by omega, hm, by omega, by omega, q⟩
            have hbad : ¬ fitP σ' r' k1 → ¬ fitP σ' r' (k1 + 1) := fun z y => z ⟨y.1, fun i i0 i1 => y.2 i i0 (by omega)⟩
            refine ⟨by simp only [inR]; omega, ⟨by omega, by omega⟩, fun a => ?_, fun a => ⟨by simp only [inR]; omega, by simp only [inR]; omega, ⟨by omega, by omega⟩, fun b => ?_, fun b => ?_⟩⟩
            · rw [show σ' 55 0 (r' + 1) = k1 by omega] at hy hn
              rcases hI with ⟨z, y⟩ | ⟨z, y⟩
              · rw [z]
                exact ⟨Or.inr rfl, hy y⟩
              · rw [z]
                exact ⟨Or.inl rfl, hn y⟩
            · rcases hI with ⟨z, y⟩ | ⟨z, y⟩
              · omega
              · exact N _ (Or.inr (hbad y)) a
            · have hf : fitP σ' r' k1 := by
                rcases hI with ⟨z, y⟩ | ⟨z, y⟩
                · exact y
                · exact absurd z b
              have hj := p7 k1 h0 (by omega)
              have hlast : fitP σ' r' (k1 + 1) → 0 ≤ oj σ' m (σ' 55 0 (r' + 2 + k1)) := fun y => by
                have := y.2 k1 h0 (by omega)
                rw [← hm] at this
                exact this
              refine ⟨fun d => ⟨⟨p0, hj⟩, fun e => N _ (Or.inr (fun y => by have := hlast y; omega)) a, fun e => N _ (Or.inl ⟨hf.1, fun i i0 i1 => ?_⟩) a⟩, fun d => N _ (Or.inr (fun y => d ⟨hj.1, je_J p0 hj.1 hj.2 (m := m) (hlast y)⟩)) a⟩
              by_cases c : i = k1
              · rw [c, ← hm]
                show 0 ≤ oj σ' m (σ' 55 0 (r' + 2 + k1))
                omega
              · exact hf.2 i i0 (by omega)
          · exact hi.elim
        · cases hcut
      · simp only [wp, stp, drp, entL, eL, lget, lset, okst, cnd, swt, rcv, Kr_int, Kr_bool, Kr_void, List.length_cons, List.length_nil, List.replicate, List.append_nil, List.cons_append, List.nil_append, List.take_succ_cons, List.take_zero, List.drop_succ_cons, List.drop_zero, List.reverse_cons, List.reverse_nil, Option.map_some, Option.map_none, Option.toList_some, Option.toList_none, Nat.reduceAdd, Nat.reduceSub, Nat.reduceLT, Nat.reduceLeDiff, Nat.reduceEqDiff, ↓reduceIte, Nat.add_zero, Nat.zero_add, true_and, and_true, Nat.le_refl, reduceCtorEq, false_implies, true_implies, not_true_eq_false, not_false_eq_true, Int.reduceAdd, Int.reduceSub, Int.reduceMul, Int.reduceLE, Int.reduceLT, Int.reduceEq, Int.reduceNe, Int.reduceNeg, Int.reduceDiv, Int.reduceMod, Bool.false_eq_true, Int.le_refl, and_self, true_or, or_true, inR_l, fv0, fv1, fv2, fv3, nc2, nc4, nc6, nc16, nc25, nc60, nc65, nc80, nc130, nc384, nc390, fp_0_0, fp_0_1, fp_0_2, fp_1_0, fp_1_1, fp_1_2, fp_1_3, fp_1_4, fp_1_5, fp_1_6, fp_1_7, fp_1_8, fp_1_9, fp_1_10, fp_1_11, fp_1_12, fp_1_13, fp_1_14, fp_2_0, fp_2_1, fp_2_2, fp_2_3, fp_3_0, fp_3_1, fp_4_0, fp_4_1, fp_4_2, fp_4_3, fp_4_4, fp_4_5, fp_4_6, fp_4_7, fp_5_0, fp_5_1, fp_5_2, fp_5_3, fp_5_4, fp_5_5, fp_5_6, fp_5_7, fp_6_0, fp_6_1, fp_6_2, fp_6_3, fp_6_4, fp_6_5, fp_6_6, fp_6_7, fp_6_8, fp_6_9, fp_6_10, fp_6_11, fp_6_12, fp_6_13, fp_6_14, fp_6_15, fp_7_0, fp_7_1, fp_7_2, fp_7_3, fp_7_4, fp_7_5, fp_7_6, fp_7_7, fp_7_8, fp_7_9, fp_7_10, fp_7_11, fp_7_12, fp_7_13, fp_7_14, fp_7_15, fp_7_16, fp_7_17, fp_7_18, fp_7_19, fp_7_20, fp_7_21, fp_7_22, fp_7_23, fp_7_24, iz_0_1, iz_0_2, iz_1_8, iz_1_9, iz_1_11, iz_2_1, iz_2_2, iz_2_3, iz_3_1, iz_4_1, iz_4_2, iz_5_0, iz_6_8, iz_6_9, iz_6_13, iz_6_14, iz_6_15, iz_7_2, iz_7_6, iz_7_12, iz_7_20, iz_7_21, iz_7_23, iz_7_24, ak_8, ak_9, ak_10, ak_11, ak_12, ak_13, ak_14, ak_15, ak_16, ak_17, ak_18, ak_19, ak_20, ak_21, ak_22, ak_23, ak_24, ak_25, ak_26, ak_27, ak_28, ak_29, ak_30, ak_31, ak_32, ak_33, ak_34, ak_35, ak_36, ak_37, ak_38, ak_39, ak_40, ak_41, ak_42, ak_43, ak_44, ak_45, ak_46, ak_47, ak_48, ak_49, ak_50, ak_51, ak_52, ak_53, ak_54, ak_55, ak_56, el31, el33, el34, CX7_fitsOrder, ca_X7_fitsOrder, frX7, kcX7, klX7, T_X7_isJob2, T_X7_operationOn2, up_ap, false_and, and_false, if_false, if_true, ite_true, ite_false, exists_eq_right_right, exists_eq_right, exists_eq_left, Nat.lt_irrefl, and_self, implies_true, forall_const]
        obtain ⟨⟨p0, p1, p2, p3, p4, p5, p6, p7⟩, hy, hn⟩ := h
        have e : σ 38 0 (45 + σ 55 0 r) = rLn σ (σ 55 0 r) := rfl
        rw [e]
        exact ⟨⟨p1, by omega⟩, by simp only [inR]; omega, ⟨by omega, by omega⟩, by simp only [inR]; omega, ⟨by omega, by omega⟩, fun a => ⟨p5, Or.inr (fun y => a y.1)⟩, fun a => ⟨p5, Or.inl ⟨Classical.not_not.mp a, fun i i0 i1 => by omega⟩⟩⟩
    · exact h.elim
