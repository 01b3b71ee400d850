/-! the workshop at the beginning -/
theorem GS_0 : GS (cv (fun _ _ _ => 0) 0, [], none, (fun _ => 0, 0)) (fun _ _ _ => 0) := by
  refine ⟨⟨⟨WF_0 (fun _ _ _ => rfl) (fun _ _ _ => rfl), fun j a b => ?_⟩, rfl⟩, ⟨⟨Int.le_refl 0, by decide, Int.le_refl 0, by decide⟩, rfl, fun d w h => (by cases h)⟩, fun w h => (by cases h), ⟨rfl, by decide, fun x _ => rfl⟩, ⟨Or.inl rfl, Or.inl rfl, Or.inl rfl⟩⟩
  have b' : j < 0 := b
  omega
def HO (v : Vw) : Prop := ∃ m, 0 ≤ m ∧ m < 4 ∧ 0 < v 13 m
def ca_L_act2 : Nat → Option (Nat × Nat × Tr)
  | 22 => some (2, 99, T_L_up)
  | 59 => some (3, 6, T_X6_orderG)
  | 62 => some (1, 6, T_X6_lengthG)
  | 66 => some (3, 6, T_X6_swapS)
  | 69 => some (2, 6, T_X6_countG)
  | 73 => some (1, 6, T_X6_improveS)
  | 76 => some (3, 6, T_X6_aboutG)
  | 79 => some (3, 6, T_X6_changeS)
  | 82 => some (3, 6, T_X6_bestG)
  | 84 => some (1, 6, T_X6_takeBestG)
  | _ => none
theorem cao_L_act2 (l : Launch) : ∀ k n' ci T', ca_L_act2 k = some (n', ci, T') → ∃ nn, nn + 1 ≤ 38 ∧ Site l yL_act.cls k n' ci nn T' := by
  intro k n' ci T' h
  unfold ca_L_act2 at h
  split at h
  · cases h; exact ⟨0, by decide, _, _, _, _, k_L_up l, Or.inr ⟨rfl, FL_up, Or.inl ⟨rfl, KRL_22⟩⟩⟩
  · cases h; exact ⟨2, by decide, _, _, _, _, k_X6_orderG l, Or.inl ⟨_, rfl, FX6_order, KRL_59⟩⟩
  · cases h; exact ⟨6, by decide, _, _, _, _, k_X6_lengthG l, Or.inl ⟨_, rfl, FX6_length, KRL_62⟩⟩
  · cases h; exact ⟨6, by decide, _, _, _, _, k_X6_swapS l, Or.inl ⟨_, rfl, FX6_swap, KRL_66⟩⟩
  · cases h; exact ⟨6, by decide, _, _, _, _, k_X6_countG l, Or.inl ⟨_, rfl, FX6_count, KRL_69⟩⟩
  · cases h; exact ⟨6, by decide, _, _, _, _, k_X6_improveS l, Or.inl ⟨_, rfl, FX6_improve, KRL_73⟩⟩
  · cases h; exact ⟨6, by decide, _, _, _, _, k_X6_aboutG l, Or.inl ⟨_, rfl, FX6_about, KRL_76⟩⟩
  · cases h; exact ⟨4, by decide, _, _, _, _, k_X6_changeS l, Or.inl ⟨_, rfl, FX6_change, KRL_79⟩⟩
  · cases h; exact ⟨37, by decide, _, _, _, _, k_X6_bestG l, Or.inl ⟨_, rfl, FX6_best, KRL_82⟩⟩
  · cases h; exact ⟨37, by decide, _, _, _, _, k_X6_takeBestG l, Or.inl ⟨_, rfl, FX6_takeBest, KRL_84⟩⟩
  · cases h
def T_L_act2 : Tr := fun a σ K => match a with
  | [.inr (.inl (6, 0)), .inl v, .inl w] => ∃ g, GS g σ ∧ 1 ≤ g.1 5 0 ∧ ∀ g' σ', GS g' σ' → (g'.1 5 0 = g.1 5 0 ∧ ∀ m, 0 ≤ m → m < 4 → g'.1 13 m = g.1 13 m) → K (some 1) σ'
  | _ => False
set_option maxHeartbeats 8000000 in
set_option maxRecDepth 20000 in
theorem k_L_act2 (l : Launch) : Ct l yL_act cL_act 9 (some .boolean) 38 T_L_act2 := by
  refine mk_met (by decide +kernel) hCL_act lCL_act frL_ok cstL_ok (cao_L_act2 l) ?_ ?_
  · intro a σ K h
    unfold T_L_act2 at h
    split at h
    · simp [eL]
    · exact h.elim
  · intro a σ K ha hR h
    unfold T_L_act2 at h
    split at h
    · rename_i v w
      obtain ⟨g, hg, hJ, hk⟩ := h
      have hw := GS_w hg
      have J4 := hw.1.1
      refine ⟨fun pc => if pc = 52 then some (fun L S σ' kz => match L, S with | [some (.inr (.inl c1)), _, some (.inl w), some (.inl m), some (.inl x), _, _, _, _], [] => (c1 = (6, 0) ∧ (0 ≤ m ∧ m ≤ 3) ∧ (0 ≤ x ∧ x ≤ 2) ∧ GS g σ') ∧ kz = 100 | _, _ => False) else if pc = 87 then some (fun L S σ' kz => match L, S with | [some (.inr (.inl c1)), _, some (.inl w), some (.inl m), some (.inl x), some (.inl a), some (.inl b), some (.inl L), some (.inl s)], [] => (c1 = (6, 0) ∧ (0 ≤ m ∧ m ≤ 3) ∧ (0 ≤ x ∧ x ≤ 2) ∧ a = ordA g.1 m x ∧ b = ordA g.1 m (x + 1) ∧ L = lenA g.1 ∧ ((x + 1 < g.1 13 m ∧ s = cif (pos (cnV (swV g.1 m x))) 1 0 ∧ GS (bumpG g (cnV (swV g.1 m x))) σ') ∨ (¬ x + 1 < g.1 13 m ∧ s = -1 ∧ GS g σ'))) ∧ kz = 90 | _, _ => False) else if pc = 152 then some (fun L S σ' kz => match L, S with | [some (.inr (.inl c1)), _, some (.inl w), some (.inl m), some (.inl x), some (.inl a), _, some (.inl L), _], [] => (c1 = (6, 0) ∧ (0 ≤ m ∧ m ≤ 3) ∧ (0 ≤ x ∧ x ≤ 2) ∧ a = ordA g.1 m x ∧ L = lenA g.1 ∧ x + 1 < g.1 13 m ∧ GS (bumpG g (cnV (swV g.1 m x))) σ') ∧ kz = 80 | _, _ => False) else none, 300, ?_, ?_⟩
      · intro pc I L S σ' kz hcut hi
        dsimp only at hcut
        by_cases hpc0 : pc = 52
        · rw [if_pos hpc0] at hcut
          subst hpc0
          cases hcut
          try dsimp only at hi
          split at hi
          · rename_i c1 y1 w m x y5 y6 y7 y8
            obtain ⟨hi, rfl⟩ := hi
            obtain ⟨rfl, hm, hx, hg'⟩ := hi
            simp only [wp, stp, drp, entL, eL, lget, lset, okst, cnd, swt, rcv, Kr_int, Kr_bool, Kr_void, List.length_cons, List.length_nil, List.replicate, List.append_nil, List.cons_append, List.nil_append, List.take_succ_cons, List.take_zero, List.drop_succ_cons, List.drop_zero, List.reverse_cons, List.reverse_nil, Option.map_some, Option.map_none, Option.toList_some, Option.toList_none, Nat.reduceAdd, Nat.reduceSub, Nat.reduceLT, Nat.reduceLeDiff, Nat.reduceEqDiff, ↓reduceIte, Nat.add_zero, Nat.zero_add, true_and, and_true, Nat.le_refl, reduceCtorEq, false_implies, true_implies, not_true_eq_false, not_false_eq_true, Int.reduceAdd, Int.reduceSub, Int.reduceMul, Int.reduceLE, Int.reduceLT, Int.reduceEq, Int.reduceNe, Int.reduceNeg, Int.reduceDiv, Int.reduceMod, Bool.false_eq_true, Int.le_refl, and_self, true_or, or_true, inR_l, fv0, fv1, fv2, fv3, nc2, nc4, nc6, nc16, nc25, nc60, nc65, nc80, nc130, nc384, nc390, fp_0_0, fp_0_1, fp_0_2, fp_1_0, fp_1_1, fp_1_2, fp_1_3, fp_1_4, fp_1_5, fp_1_6, fp_1_7, fp_1_8, fp_1_9, fp_1_10, fp_1_11, fp_1_12, fp_1_13, fp_1_14, fp_2_0, fp_2_1, fp_2_2, fp_2_3, fp_3_0, fp_3_1, fp_4_0, fp_4_1, fp_4_2, fp_4_3, fp_4_4, fp_4_5, fp_4_6, fp_4_7, fp_5_0, fp_5_1, fp_5_2, fp_5_3, fp_5_4, fp_5_5, fp_5_6, fp_5_7, fp_6_0, fp_6_1, fp_6_2, fp_6_3, fp_6_4, fp_6_5, fp_6_6, fp_6_7, fp_6_8, fp_6_9, fp_6_10, fp_6_11, fp_6_12, fp_6_13, fp_6_14, fp_6_15, fp_7_0, fp_7_1, fp_7_2, fp_7_3, fp_7_4, fp_7_5, fp_7_6, fp_7_7, fp_7_8, fp_7_9, fp_7_10, fp_7_11, fp_7_12, fp_7_13, fp_7_14, fp_7_15, fp_7_16, fp_7_17, fp_7_18, fp_7_19, fp_7_20, fp_7_21, fp_7_22, fp_7_23, fp_7_24, iz_0_1, iz_0_2, iz_1_8, iz_1_9, iz_1_11, iz_2_1, iz_2_2, iz_2_3, iz_3_1, iz_4_1, iz_4_2, iz_5_0, iz_6_8, iz_6_9, iz_6_13, iz_6_14, iz_6_15, iz_7_2, iz_7_6, iz_7_12, iz_7_20, iz_7_21, iz_7_23, iz_7_24, ak_8, ak_9, ak_10, ak_11, ak_12, ak_13, ak_14, ak_15, ak_16, ak_17, ak_18, ak_19, ak_20, ak_21, ak_22, ak_23, ak_24, ak_25, ak_26, ak_27, ak_28, ak_29, ak_30, ak_31, ak_32, ak_33, ak_34, ak_35, ak_36, ak_37, ak_38, ak_39, ak_40, ak_41, ak_42, ak_43, ak_44, ak_45, ak_46, ak_47, ak_48, ak_49, ak_50, ak_51, ak_52, ak_53, ak_54, ak_55, ak_56, el31, el33, el34, CL_act, ca_L_act2, frL, kcL, klL, T_L_up, T_X6_orderG, T_X6_lengthG, T_X6_swapS, T_X6_countG, T_X6_improveS, T_X6_aboutG, T_X6_changeS, T_X6_bestG, T_X6_takeBestG, exists_eq_right_right, exists_eq_right, exists_eq_left, Nat.lt_irrefl, and_self, implies_true, forall_const]
            exact ⟨g, hg', fun σ1 h1 => ⟨by constructor <;> omega, g, h1, fun σ2 h2 => ⟨g, h2, fun σ3 h3 => ⟨g, h3, ⟨hm, hx.1⟩, fun r σ4 hr => ⟨hm, hx, rfl, rfl, rfl, hr⟩⟩⟩⟩⟩
          · exact hi.elim
        rw [if_neg hpc0] at hcut
        by_cases hpc1 : pc = 87
        · rw [if_pos hpc1] at hcut
          subst hpc1
          cases hcut
          try dsimp only at hi
          split at hi
          · rename_i c1 y1 w m x a b L s
            obtain ⟨hi, rfl⟩ := hi
            obtain ⟨rfl, hm, hx, ha, hb, hL, hs⟩ := hi
            simp only [wp, stp, drp, entL, eL, lget, lset, okst, cnd, swt, rcv, Kr_int, Kr_bool, Kr_void, List.length_cons, List.length_nil, List.replicate, List.append_nil, List.cons_append, List.nil_append, List.take_succ_cons, List.take_zero, List.drop_succ_cons, List.drop_zero, List.reverse_cons, List.reverse_nil, Option.map_some, Option.map_none, Option.toList_some, Option.toList_none, Nat.reduceAdd, Nat.reduceSub, Nat.reduceLT, Nat.reduceLeDiff, Nat.reduceEqDiff, ↓reduceIte, Nat.add_zero, Nat.zero_add, true_and, and_true, Nat.le_refl, reduceCtorEq, false_implies, true_implies, not_true_eq_false, not_false_eq_true, Int.reduceAdd, Int.reduceSub, Int.reduceMul, Int.reduceLE, Int.reduceLT, Int.reduceEq, Int.reduceNe, Int.reduceNeg, Int.reduceDiv, Int.reduceMod, Bool.false_eq_true, Int.le_refl, and_self, true_or, or_true, inR_l, fv0, fv1, fv2, fv3, nc2, nc4, nc6, nc16, nc25, nc60, nc65, nc80, nc130, nc384, nc390, fp_0_0, fp_0_1, fp_0_2, fp_1_0, fp_1_1, fp_1_2, fp_1_3, fp_1_4, fp_1_5, fp_1_6, fp_1_7, fp_1_8, fp_1_9, fp_1_10, fp_1_11, fp_1_12, fp_1_13, fp_1_14, fp_2_0, fp_2_1, fp_2_2, fp_2_3, fp_3_0, fp_3_1, fp_4_0, fp_4_1, fp_4_2, fp_4_3, fp_4_4, fp_4_5, fp_4_6, fp_4_7, fp_5_0, fp_5_1, fp_5_2, fp_5_3, fp_5_4, fp_5_5, fp_5_6, fp_5_7, fp_6_0, fp_6_1, fp_6_2, fp_6_3, fp_6_4, fp_6_5, fp_6_6, fp_6_7, fp_6_8, fp_6_9, fp_6_10, fp_6_11, fp_6_12, fp_6_13, fp_6_14, fp_6_15, fp_7_0, fp_7_1, fp_7_2, fp_7_3, fp_7_4, fp_7_5, fp_7_6, fp_7_7, fp_7_8, fp_7_9, fp_7_10, fp_7_11, fp_7_12, fp_7_13, fp_7_14, fp_7_15, fp_7_16, fp_7_17, fp_7_18, fp_7_19, fp_7_20, fp_7_21, fp_7_22, fp_7_23, fp_7_24, iz_0_1, iz_0_2, iz_1_8, iz_1_9, iz_1_11, iz_2_1, iz_2_2, iz_2_3, iz_3_1, iz_4_1, iz_4_2, iz_5_0, iz_6_8, iz_6_9, iz_6_13, iz_6_14, iz_6_15, iz_7_2, iz_7_6, iz_7_12, iz_7_20, iz_7_21, iz_7_23, iz_7_24, ak_8, ak_9, ak_10, ak_11, ak_12, ak_13, ak_14, ak_15, ak_16, ak_17, ak_18, ak_19, ak_20, ak_21, ak_22, ak_23, ak_24, ak_25, ak_26, ak_27, ak_28, ak_29, ak_30, ak_31, ak_32, ak_33, ak_34, ak_35, ak_36, ak_37, ak_38, ak_39, ak_40, ak_41, ak_42, ak_43, ak_44, ak_45, ak_46, ak_47, ak_48, ak_49, ak_50, ak_51, ak_52, ak_53, ak_54, ak_55, ak_56, el31, el33, el34, CL_act, ca_L_act2, frL, kcL, klL, T_L_up, T_X6_orderG, T_X6_lengthG, T_X6_swapS, T_X6_countG, T_X6_improveS, T_X6_aboutG, T_X6_changeS, T_X6_bestG, T_X6_takeBestG, exists_eq_right_right, exists_eq_right, exists_eq_left, Nat.lt_irrefl, and_self, implies_true, forall_const]
            rcases hs with ⟨x1, hs, h1⟩ | ⟨x1, hs, h1⟩
            · have so := sw_ord hw hm.1 hm.2 hx.1 x1
              have jj := oq_j hw hm.1 (show m < 4 by omega) (show 0 ≤ x + 1 by omega) x1
              rw [← ord_i hm.1 hm.2 (by omega) x1, ← hb] at jj
              exact ⟨fun _ => ⟨_, h1, fun σ1 h1 => ⟨fun q => absurd (hs.trans (ct7 (g := bumpG g (cnV (swV g.1 m x)))).symm) q, fun _ => ⟨_, h1, fun σ2 h2 => ⟨fun q => absurd (so.1.trans hb.symm) q, fun _ => ⟨by constructor <;> omega, _, h2, fun σ3 h3 => ⟨fun _ => ⟨hm, hx, ha, hL, x1, h3⟩, fun q => absurd (so.2.trans ha.symm) q⟩⟩⟩⟩⟩⟩, fun q => by omega⟩
            · have e : b = -6 := hb.trans (ord_o hm.1 hm.2 (fun q => x1 q.2))
              exact ⟨fun q => by omega, fun _ => ⟨fun q => absurd hs q, fun _ => ⟨g, h1, fun σ1 h2 => ⟨fun q => absurd hL.symm q, fun _ => hk _ _ h2 ⟨rfl, fun _ _ _ => rfl⟩⟩⟩⟩⟩
          · exact hi.elim
        rw [if_neg hpc1] at hcut
        by_cases hpc2 : pc = 152
        · rw [if_pos hpc2] at hcut
          subst hpc2
          cases hcut
          try dsimp only at hi
          split at hi
          · rename_i c1 y1 w m x a y6 L y8
            obtain ⟨hi, rfl⟩ := hi
            obtain ⟨rfl, hm, hx, ha, hL, hx1, hg'⟩ := hi
            simp only [wp, stp, drp, entL, eL, lget, lset, okst, cnd, swt, rcv, Kr_int, Kr_bool, Kr_void, List.length_cons, List.length_nil, List.replicate, List.append_nil, List.cons_append, List.nil_append, List.take_succ_cons, List.take_zero, List.drop_succ_cons, List.drop_zero, List.reverse_cons, List.reverse_nil, Option.map_some, Option.map_none, Option.toList_some, Option.toList_none, Nat.reduceAdd, Nat.reduceSub, Nat.reduceLT, Nat.reduceLeDiff, Nat.reduceEqDiff, ↓reduceIte, Nat.add_zero, Nat.zero_add, true_and, and_true, Nat.le_refl, reduceCtorEq, false_implies, true_implies, not_true_eq_false, not_false_eq_true, Int.reduceAdd, Int.reduceSub, Int.reduceMul, Int.reduceLE, Int.reduceLT, Int.reduceEq, Int.reduceNe, Int.reduceNeg, Int.reduceDiv, Int.reduceMod, Bool.false_eq_true, Int.le_refl, and_self, true_or, or_true, inR_l, fv0, fv1, fv2, fv3, nc2, nc4, nc6, nc16, nc25, nc60, nc65, nc80, nc130, nc384, nc390, fp_0_0, fp_0_1, fp_0_2, fp_1_0, fp_1_1, fp_1_2, fp_1_3, fp_1_4, fp_1_5, fp_1_6, fp_1_7, fp_1_8, fp_1_9, fp_1_10, fp_1_11, fp_1_12, fp_1_13, fp_1_14, fp_2_0, fp_2_1, fp_2_2, fp_2_3, fp_3_0, fp_3_1, fp_4_0, fp_4_1, fp_4_2, fp_4_3, fp_4_4, fp_4_5, fp_4_6, fp_4_7, fp_5_0, fp_5_1, fp_5_2, fp_5_3, fp_5_4, fp_5_5, fp_5_6, fp_5_7, fp_6_0, fp_6_1, fp_6_2, fp_6_3, fp_6_4, fp_6_5, fp_6_6, fp_6_7, fp_6_8, fp_6_9, fp_6_10, fp_6_11, fp_6_12, fp_6_13, fp_6_14, fp_6_15, fp_7_0, fp_7_1, fp_7_2, fp_7_3, fp_7_4, fp_7_5, fp_7_6, fp_7_7, fp_7_8, fp_7_9, fp_7_10, fp_7_11, fp_7_12, fp_7_13, fp_7_14, fp_7_15, fp_7_16, fp_7_17, fp_7_18, fp_7_19, fp_7_20, fp_7_21, fp_7_22, fp_7_23, fp_7_24, iz_0_1, iz_0_2, iz_1_8, iz_1_9, iz_1_11, iz_2_1, iz_2_2, iz_2_3, iz_3_1, iz_4_1, iz_4_2, iz_5_0, iz_6_8, iz_6_9, iz_6_13, iz_6_14, iz_6_15, iz_7_2, iz_7_6, iz_7_12, iz_7_20, iz_7_21, iz_7_23, iz_7_24, ak_8, ak_9, ak_10, ak_11, ak_12, ak_13, ak_14, ak_15, ak_16, ak_17, ak_18, ak_19, ak_20, ak_21, ak_22, ak_23, ak_24, ak_25, ak_26, ak_27, ak_28, ak_29, ak_30, ak_31, ak_32, ak_33, ak_34, ak_35, ak_36, ak_37, ak_38, ak_39, ak_40, ak_41, ak_42, ak_43, ak_44, ak_45, ak_46, ak_47, ak_48, ak_49, ak_50, ak_51, ak_52, ak_53, ak_54, ak_55, ak_56, el31, el33, el34, CL_act, ca_L_act2, frL, kcL, klL, T_L_up, T_X6_orderG, T_X6_lengthG, T_X6_swapS, T_X6_countG, T_X6_improveS, T_X6_aboutG, T_X6_changeS, T_X6_bestG, T_X6_takeBestG, exists_eq_right_right, exists_eq_right, exists_eq_left, Nat.lt_irrefl, and_self, implies_true, forall_const]
            have e13 := (sw_13 (v := g.1) (m := m) (x := x)).2 m hm.1 (by omega)
            refine ⟨fun _ => hk _ _ hg' sw_13, fun _ => ⟨_, hg', ⟨hm, hx.1⟩, fun r σ1 hr => ?_⟩⟩
            rcases hr with ⟨y, hr, h1⟩ | ⟨y, -, -⟩
            · have e := sw_2 hw (GS_c hg) hm.1 hm.2 hx.1 hx1
              have h1' : GS (bumpG (bumpG g (cnV (swV g.1 m x))) (cnV (swV (cnV (swV g.1 m x)) m x))) σ1 := h1
              have hr' : r = cif (pos (cnV (swV (cnV (swV g.1 m x)) m x))) 1 0 := hr
              rw [e] at h1' hr'
              rcases lenA_s hw with ⟨hp, el, b, d⟩ | ⟨np, el⟩
              · exact ⟨fun _ => ⟨fun q => absurd (hr'.trans (cif_1 hp)) q, fun _ => ⟨_, h1', fun σ2 h2 => ⟨fun q => absurd hL.symm q, fun _ => ⟨_, h2, fun σ3 h3 => ⟨fun q => absurd ha.symm q, fun _ => hk _ _ h3 ⟨rfl, fun _ _ _ => rfl⟩⟩⟩⟩⟩⟩, fun q => by omega⟩
              · exact ⟨fun q => by omega, fun _ => ⟨fun q => absurd (hr'.trans (cif_0 np)) q, fun _ => ⟨_, h1', fun σ2 h2 => ⟨fun q => absurd hL.symm q, fun _ => ⟨_, h2, fun σ3 h3 => ⟨fun q => absurd ha.symm q, fun _ => hk _ _ h3 ⟨rfl, fun _ _ _ => rfl⟩⟩⟩⟩⟩⟩⟩
            · refine absurd ?_ y
              show x + 1 < cnV (swV g.1 m x) 13 m
              rw [e13]
              exact hx1
          · exact hi.elim
        rw [if_neg hpc2] at hcut
        cases hcut
      · simp only [wp, stp, drp, entL, eL, lget, lset, okst, cnd, swt, rcv, Kr_int, Kr_bool, Kr_void, List.length_cons, List.length_nil, List.replicate, List.append_nil, List.cons_append, List.nil_append, List.take_succ_cons, List.take_zero, List.drop_succ_cons, List.drop_zero, List.reverse_cons, List.reverse_nil, Option.map_some, Option.map_none, Option.toList_some, Option.toList_none, Nat.reduceAdd, Nat.reduceSub, Nat.reduceLT, Nat.reduceLeDiff, Nat.reduceEqDiff, ↓reduceIte, Nat.add_zero, Nat.zero_add, true_and, and_true, Nat.le_refl, reduceCtorEq, false_implies, true_implies, not_true_eq_false, not_false_eq_true, Int.reduceAdd, Int.reduceSub, Int.reduceMul, Int.reduceLE, Int.reduceLT, Int.reduceEq, Int.reduceNe, Int.reduceNeg, Int.reduceDiv, Int.reduceMod, Bool.false_eq_true, Int.le_refl, and_self, true_or, or_true, inR_l, fv0, fv1, fv2, fv3, nc2, nc4, nc6, nc16, nc25, nc60, nc65, nc80, nc130, nc384, nc390, fp_0_0, fp_0_1, fp_0_2, fp_1_0, fp_1_1, fp_1_2, fp_1_3, fp_1_4, fp_1_5, fp_1_6, fp_1_7, fp_1_8, fp_1_9, fp_1_10, fp_1_11, fp_1_12, fp_1_13, fp_1_14, fp_2_0, fp_2_1, fp_2_2, fp_2_3, fp_3_0, fp_3_1, fp_4_0, fp_4_1, fp_4_2, fp_4_3, fp_4_4, fp_4_5, fp_4_6, fp_4_7, fp_5_0, fp_5_1, fp_5_2, fp_5_3, fp_5_4, fp_5_5, fp_5_6, fp_5_7, fp_6_0, fp_6_1, fp_6_2, fp_6_3, fp_6_4, fp_6_5, fp_6_6, fp_6_7, fp_6_8, fp_6_9, fp_6_10, fp_6_11, fp_6_12, fp_6_13, fp_6_14, fp_6_15, fp_7_0, fp_7_1, fp_7_2, fp_7_3, fp_7_4, fp_7_5, fp_7_6, fp_7_7, fp_7_8, fp_7_9, fp_7_10, fp_7_11, fp_7_12, fp_7_13, fp_7_14, fp_7_15, fp_7_16, fp_7_17, fp_7_18, fp_7_19, fp_7_20, fp_7_21, fp_7_22, fp_7_23, fp_7_24, iz_0_1, iz_0_2, iz_1_8, iz_1_9, iz_1_11, iz_2_1, iz_2_2, iz_2_3, iz_3_1, iz_4_1, iz_4_2, iz_5_0, iz_6_8, iz_6_9, iz_6_13, iz_6_14, iz_6_15, iz_7_2, iz_7_6, iz_7_12, iz_7_20, iz_7_21, iz_7_23, iz_7_24, ak_8, ak_9, ak_10, ak_11, ak_12, ak_13, ak_14, ak_15, ak_16, ak_17, ak_18, ak_19, ak_20, ak_21, ak_22, ak_23, ak_24, ak_25, ak_26, ak_27, ak_28, ak_29, ak_30, ak_31, ak_32, ak_33, ak_34, ak_35, ak_36, ak_37, ak_38, ak_39, ak_40, ak_41, ak_42, ak_43, ak_44, ak_45, ak_46, ak_47, ak_48, ak_49, ak_50, ak_51, ak_52, ak_53, ak_54, ak_55, ak_56, el31, el33, el34, CL_act, ca_L_act2, frL, kcL, klL, T_L_up, T_X6_orderG, T_X6_lengthG, T_X6_swapS, T_X6_countG, T_X6_improveS, T_X6_aboutG, T_X6_changeS, T_X6_bestG, T_X6_takeBestG, exists_eq_right_right, exists_eq_right, exists_eq_left, Nat.lt_irrefl, and_self, implies_true, forall_const]
        have r4 := upA_r (v := w) (m := 4) (by omega)
        have r3 := upA_r (v := bshr w 2) (m := 3) (by omega)
        have r34 := upA_r (v := bshr w 3) (m := 4) (by omega)
        have r20 := upA_r (v := bshr w 5) (m := 20) (by omega)
        refine ⟨⟨fun _ => ⟨by omega, by omega, hg⟩, fun _ => ⟨by omega, by omega, hg⟩, fun _ => ?_, fun _ => ?_⟩, fun _ => ?_⟩
        · refine ⟨g, hg, fun σ1 h1 => ⟨g, h1, fun σ2 h2 => ⟨g, h2, fun r σ3 hr => ?_⟩⟩⟩
          rcases lenA_s hw with ⟨hp, e, b, d⟩ | ⟨np, e⟩
          · rcases hr with ⟨rfl, h3⟩ | ⟨_, m, x, a, q, lt, h3⟩
            · exact ⟨fun _ => ⟨fun q => absurd rfl q, fun _ => ⟨g, h3, fun σ4 h4 => ⟨fun q => absurd rfl q, fun _ => ⟨g, h4, fun σ5 h5 => ⟨fun q => absurd rfl q, fun _ => hk _ _ h5 ⟨rfl, fun _ _ _ => rfl⟩⟩⟩⟩⟩⟩, fun q => by omega⟩
            · have s := lenQ_sw hw a.1 a.2.1 a.2.2.1 a.2.2.2 q
              exact ⟨fun _ => ⟨fun _ => ⟨fun z => by omega, fun _ => ⟨_, h3, fun σ4 h4 => ⟨fun z => absurd s.1 z, fun _ => hk _ _ h4 sw_13⟩⟩⟩, fun z => by omega⟩, fun z => by omega⟩
          · rcases hr with ⟨rfl, h3⟩ | ⟨hp, _⟩
            · exact ⟨fun q => by omega, fun _ => ⟨fun q => absurd rfl q, fun _ => hk _ _ h3 ⟨rfl, fun _ _ _ => rfl⟩⟩⟩
            · exact absurd hp np
        · refine ⟨g, hg, fun σ1 h1 => ?_⟩
          rw [ct0]
          have rJ := upA_r (v := w) (m := g.1 5 0) (by omega)
          refine ⟨by omega, by constructor <;> omega, by constructor <;> omega, g, h1, fun σ2 h2 => ⟨by constructor <;> omega, g, h2, by omega, fun s σ3 hr => ?_⟩⟩
          generalize 4 * upA w (g.1 5 0) + upA (bshr w 3) 4 = o at hr ⊢
          rcases hr with ⟨nv, rfl, h3⟩ | ⟨vo, rfl, h3⟩
          · have e := ab_n nv 1
            exact ⟨fun q => by rw [e] at q; omega, fun _ => ⟨fun q => absurd rfl q, fun _ => hk _ _ h3 ⟨rfl, fun _ _ _ => rfl⟩⟩⟩
          · have e := ab1 vo
            have D := wWF_op hw vo
            refine ⟨fun _ => ⟨fun q => absurd e.symm q, fun _ => ⟨_, h3, fun σ4 h4 => ⟨by constructor <;> omega, fun q => absurd (ch_ab vo) q, fun _ => hk _ _ h4 ?_⟩⟩⟩, fun q => by rw [e] at q; omega⟩
            exact ⟨(cn5 _).trans (by rw [chV_o g.1 o _ (by omega)]), fun m a b => (cn13 a b).trans (by rw [chV_o g.1 o _ (by omega)])⟩
        · refine ⟨g, hg, fun σ1 h1 hB => ⟨fun _ => hk _ _ h1 ⟨rfl, fun _ _ _ => rfl⟩, fun _ => ⟨g, h1, fun hB2 σ2 h2 => ?_⟩⟩⟩
          have eb : bA g.1 (-1) 0 = leA g.1 := (if_neg (by omega)).trans (if_pos (by omega))
          have B := bst_len hw hB
          refine ⟨fun q => absurd eb.symm q, fun _ => ⟨_, h2, fun σ3 h3 => ⟨fun q => absurd (B.2.1.trans eb.symm) q, fun _ => hk _ _ h3 ?_⟩⟩⟩
          exact ⟨(cn5 _).trans (by rw [orV_o g.1 _ (by omega)]), fun m a b => (cn13 a b).trans (by rw [orV_o g.1 _ (by omega)])⟩
    · exact h.elim
