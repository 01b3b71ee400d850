def ca_X2_number : Nat → Option (Nat × Nat × Tr)
  | 49 => some (1, 2, T_X2_digit)
  | _ => none
theorem cao_X2_number (l : Launch) : ∀ k n' ci T', ca_X2_number k = some (n', ci, T') → ∃ nn, nn + 1 ≤ 1 ∧ Site l yX2_number.cls k n' ci nn T' := by
  intro k n' ci T' h
  unfold ca_X2_number at h
  split at h
  · cases h; exact ⟨0, by decide, _, _, _, _, k_X2_digit l, Or.inl ⟨_, rfl, FX2_digit, KRX2_49⟩⟩
  · cases h
def T_X2_number : Tr := fun a σ K => match a with
  | [.inr (.inl (2, 0)), .inl lo, .inl hi] => (0 ≤ σ 2 0 2 ∧ σ 2 0 2 ≤ σ 2 0 1 ∧ σ 2 0 1 ≤ 80 ∧ 0 ≤ lo ∧ 9 ≤ hi ∧ hi ≤ 1000) ∧ ∀ σ', FrG pPd σ σ' → σ' 2 0 2 = (numS (cT σ) (cL σ) lo hi (σ 2 0 2)).2.1 → K (some (if (numS (cT σ) (cL σ) lo hi (σ 2 0 2)).2.2 = 0 then (numS (cT σ) (cL σ) lo hi (σ 2 0 2)).1 else -6)) σ'
  | _ => False
set_option maxHeartbeats 8000000 in
set_option maxRecDepth 20000 in
theorem k_X2_number (l : Launch) : Ct l yX2_number cX2_number 4 (some .int) 1 T_X2_number := by
  refine mk_met (by decide +kernel) hCX2_number lCX2_number frX2_ok cstX2_ok (cao_X2_number l) ?_ ?_
  · intro a σ K h
    unfold T_X2_number at h
    split at h
    · simp [eL]
    · exact h.elim
  · intro a σ K ha hR h
    unfold T_X2_number at h
    split at h
    · rename_i lo hi
      refine ⟨fun pc => if pc = 34 then some (fun L S σ' k => match L, S with | [some (.inr (.inl c1)), some (.inl lo'), some (.inl hi'), some (.inl v)], [] => (c1 = (2, 0) ∧ lo' = lo ∧ hi' = hi ∧ NLi σ σ' hi lo v) ∧ k = (200 - σ' 2 0 2).toNat | _, _ => False) else none, 200, ?_, ?_⟩
      · intro pc I L S σ' k hcut hi
        dsimp only at hcut
        split at hcut
        · rename_i hpc
          subst hpc
          cases hcut
          try dsimp only at hi
          split at hi
          · rename_i c1 lo' hi' v
            obtain ⟨hi, rfl⟩ := hi
            obtain ⟨rfl, rfl, rfl, hI⟩ := hi
            simp only [wp, stp, drp, entL, eL, lget, lset, okst, cnd, swt, rcv, Kr_int, Kr_bool, Kr_void, List.length_cons, List.length_nil, List.replicate, List.append_nil, List.cons_append, List.nil_append, List.take_succ_cons, List.take_zero, List.drop_succ_cons, List.drop_zero, List.reverse_cons, List.reverse_nil, Option.map_some, Option.map_none, Option.toList_some, Option.toList_none, Nat.reduceAdd, Nat.reduceSub, Nat.reduceLT, Nat.reduceLeDiff, Nat.reduceEqDiff, ↓reduceIte, Nat.add_zero, Nat.zero_add, true_and, and_true, Nat.le_refl, reduceCtorEq, false_implies, true_implies, not_true_eq_false, not_false_eq_true, Int.reduceAdd, Int.reduceSub, Int.reduceMul, Int.reduceLE, Int.reduceLT, Int.reduceEq, Int.reduceNe, Int.reduceNeg, Int.reduceDiv, Int.reduceMod, Bool.false_eq_true, Int.le_refl, and_self, true_or, or_true, inR_l, fv0, fv1, fv2, fv3, nc2, nc4, nc6, nc16, nc25, nc60, nc65, nc80, nc130, nc384, nc390, fp_0_0, fp_0_1, fp_0_2, fp_1_0, fp_1_1, fp_1_2, fp_1_3, fp_1_4, fp_1_5, fp_1_6, fp_1_7, fp_1_8, fp_1_9, fp_1_10, fp_1_11, fp_1_12, fp_1_13, fp_1_14, fp_2_0, fp_2_1, fp_2_2, fp_2_3, fp_3_0, fp_3_1, fp_4_0, fp_4_1, fp_4_2, fp_4_3, fp_4_4, fp_4_5, fp_4_6, fp_4_7, fp_5_0, fp_5_1, fp_5_2, fp_5_3, fp_5_4, fp_5_5, fp_5_6, fp_5_7, fp_6_0, fp_6_1, fp_6_2, fp_6_3, fp_6_4, fp_6_5, fp_6_6, fp_6_7, fp_6_8, fp_6_9, fp_6_10, fp_6_11, fp_6_12, fp_6_13, fp_6_14, fp_6_15, fp_7_0, fp_7_1, fp_7_2, fp_7_3, fp_7_4, fp_7_5, fp_7_6, fp_7_7, fp_7_8, fp_7_9, fp_7_10, fp_7_11, fp_7_12, fp_7_13, fp_7_14, fp_7_15, fp_7_16, fp_7_17, fp_7_18, fp_7_19, fp_7_20, fp_7_21, fp_7_22, fp_7_23, fp_7_24, iz_0_1, iz_0_2, iz_1_8, iz_1_9, iz_1_11, iz_2_1, iz_2_2, iz_2_3, iz_3_1, iz_4_1, iz_4_2, iz_5_0, iz_6_8, iz_6_9, iz_6_13, iz_6_14, iz_6_15, iz_7_2, iz_7_6, iz_7_12, iz_7_20, iz_7_21, iz_7_23, iz_7_24, ak_8, ak_9, ak_10, ak_11, ak_12, ak_13, ak_14, ak_15, ak_16, ak_17, ak_18, ak_19, ak_20, ak_21, ak_22, ak_23, ak_24, ak_25, ak_26, ak_27, ak_28, ak_29, ak_30, ak_31, ak_32, ak_33, ak_34, ak_35, ak_36, ak_37, ak_38, ak_39, ak_40, ak_41, ak_42, ak_43, ak_44, ak_45, ak_46, ak_47, ak_48, ak_49, ak_50, ak_51, ak_52, ak_53, ak_54, ak_55, ak_56, el31, el33, el34, CX2_number, ca_X2_number, frX2, kcX2, klX2, T_X2_digit, exists_eq_right_right, exists_eq_right, exists_eq_left, Nat.lt_irrefl, and_self, implies_true, forall_const]
            obtain ⟨⟨p1, p2, p3, p4, p5, p6⟩, h⟩ := h
            have hc := pPd_c hI.1
            have hL : σ' 2 0 1 = σ 2 0 1 := hc.2
            have hl : σ' 2 0 1 ≤ 80 := by rw [hL]; exact p3
            obtain ⟨e1, e2, e3⟩ := NLi_e hI p3
            have hr := dg_r (cT σ) (cL σ) (σ' 2 0 2)
            have hend := fun q => dg_end (tx := cT σ) (n := cL σ) (a := σ' 2 0 2) q
            have b1 := hI.2.2.2.1
            have b2 := hI.2.1
            have b3 := hI.2.2.1
            have eu : (up σ' 2 0 2 (σ' 2 0 2 + 1)) 2 0 2 = σ' 2 0 2 + 1 := by rw [up_ap, if_pos ⟨rfl, rfl, rfl⟩]
            have hLc : cL σ = σ 2 0 1 := rfl
            simp only [digit_eq hl, hc.1, hc.2, eu]
            have K0 : numS (cT σ) (cL σ) lo' hi' (σ 2 0 2) = (v, σ' 2 0 2, 0) → K (some v) σ' := fun q => by
              have := h σ' hI.1 (by rw [q])
              rw [q] at this
              exact this
            have K2 : numS (cT σ) (cL σ) lo' hi' (σ 2 0 2) = (v, σ' 2 0 2, 2) → K (some (-6)) σ' := fun q => by
              have := h σ' hI.1 (by rw [q])
              rw [q] at this
              exact this
            (repeat' (first | (with_reducible intro _) | (with_reducible refine And.intro ?_ ?_)))
            all_goals (try first | omega | exact ⟨by omega, by omega⟩)
            all_goals first | (exact K0 (e1 (Or.inl (by assumption)))) | (exact K0 (e1 (Or.inr (by assumption)))) | (exact K0 (e1 (Or.inr (hend (by omega))))) | (exact K2 (e2 (by omega) (by omega))) | (exact e3 (by omega) (by omega))
          · exact hi.elim
        · cases hcut
      · simp only [wp, stp, drp, entL, eL, lget, lset, okst, cnd, swt, rcv, Kr_int, Kr_bool, Kr_void, List.length_cons, List.length_nil, List.replicate, List.append_nil, List.cons_append, List.nil_append, List.take_succ_cons, List.take_zero, List.drop_succ_cons, List.drop_zero, List.reverse_cons, List.reverse_nil, Option.map_some, Option.map_none, Option.toList_some, Option.toList_none, Nat.reduceAdd, Nat.reduceSub, Nat.reduceLT, Nat.reduceLeDiff, Nat.reduceEqDiff, ↓reduceIte, Nat.add_zero, Nat.zero_add, true_and, and_true, Nat.le_refl, reduceCtorEq, false_implies, true_implies, not_true_eq_false, not_false_eq_true, Int.reduceAdd, Int.reduceSub, Int.reduceMul, Int.reduceLE, Int.reduceLT, Int.reduceEq, Int.reduceNe, Int.reduceNeg, Int.reduceDiv, Int.reduceMod, Bool.false_eq_true, Int.le_refl, and_self, true_or, or_true, inR_l, fv0, fv1, fv2, fv3, nc2, nc4, nc6, nc16, nc25, nc60, nc65, nc80, nc130, nc384, nc390, fp_0_0, fp_0_1, fp_0_2, fp_1_0, fp_1_1, fp_1_2, fp_1_3, fp_1_4, fp_1_5, fp_1_6, fp_1_7, fp_1_8, fp_1_9, fp_1_10, fp_1_11, fp_1_12, fp_1_13, fp_1_14, fp_2_0, fp_2_1, fp_2_2, fp_2_3, fp_3_0, fp_3_1, fp_4_0, fp_4_1, fp_4_2, fp_4_3, fp_4_4, fp_4_5, fp_4_6, fp_4_7, fp_5_0, fp_5_1, fp_5_2, fp_5_3, fp_5_4, fp_5_5, fp_5_6, fp_5_7, fp_6_0, fp_6_1, fp_6_2, fp_6_3, fp_6_4, fp_6_5, fp_6_6, fp_6_7, fp_6_8, fp_6_9, fp_6_10, fp_6_11, fp_6_12, fp_6_13, fp_6_14, fp_6_15, fp_7_0, fp_7_1, fp_7_2, fp_7_3, fp_7_4, fp_7_5, fp_7_6, fp_7_7, fp_7_8, fp_7_9, fp_7_10, fp_7_11, fp_7_12, fp_7_13, fp_7_14, fp_7_15, fp_7_16, fp_7_17, fp_7_18, fp_7_19, fp_7_20, fp_7_21, fp_7_22, fp_7_23, fp_7_24, iz_0_1, iz_0_2, iz_1_8, iz_1_9, iz_1_11, iz_2_1, iz_2_2, iz_2_3, iz_3_1, iz_4_1, iz_4_2, iz_5_0, iz_6_8, iz_6_9, iz_6_13, iz_6_14, iz_6_15, iz_7_2, iz_7_6, iz_7_12, iz_7_20, iz_7_21, iz_7_23, iz_7_24, ak_8, ak_9, ak_10, ak_11, ak_12, ak_13, ak_14, ak_15, ak_16, ak_17, ak_18, ak_19, ak_20, ak_21, ak_22, ak_23, ak_24, ak_25, ak_26, ak_27, ak_28, ak_29, ak_30, ak_31, ak_32, ak_33, ak_34, ak_35, ak_36, ak_37, ak_38, ak_39, ak_40, ak_41, ak_42, ak_43, ak_44, ak_45, ak_46, ak_47, ak_48, ak_49, ak_50, ak_51, ak_52, ak_53, ak_54, ak_55, ak_56, el31, el33, el34, CX2_number, ca_X2_number, frX2, kcX2, klX2, T_X2_digit, exists_eq_right_right, exists_eq_right, exists_eq_left, Nat.lt_irrefl, and_self, implies_true, forall_const]
        obtain ⟨⟨p1, p2, p3, p4, p5, p6⟩, h⟩ := h
        have hr := dg_r (cT σ) (cL σ) (σ 2 0 2)
        simp only [digit_eq p3]
        have K1 : dg (cT σ) (cL σ) (σ 2 0 2) < lo → K (some (-6)) σ := fun q => by
          have e : numS (cT σ) (cL σ) lo hi (σ 2 0 2) = (0, σ 2 0 2, 1) := by
            unfold numS
            rw [if_pos q]
          have := h σ FrG.r (by rw [e])
          rw [e] at this
          exact this
        (repeat' (first | (with_reducible intro _) | (with_reducible refine And.intro ?_ ?_)))
        all_goals (try first | omega | exact ⟨by omega, by omega⟩)
        all_goals first | (exact K1 (by omega)) | (exfalso; omega) | (exact NLi_0 p2 p1 p4 (by assumption) (by assumption))
    · exact h.elim
