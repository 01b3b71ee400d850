/-! the law -/
def lawK (r : Option Int) (_ : Mem) : Prop := r = some 1
theorem HO_e {v w : Vw} (e : ∀ m, 0 ≤ m → m < 4 → w 13 m = v 13 m) (h : HO v) : HO w := by
  obtain ⟨m, a, b, c⟩ := h
  exact ⟨m, a, b, by rw [e m a b]; exact c⟩
theorem cv0_5 : cv (fun _ _ _ => 0) 0 5 0 = 0 := (cn5 (vwS (fun _ _ _ => 0) 0)).trans rfl
def ca_L_law : Nat → Option (Nat × Nat × Tr)
  | 12 => some (2, 99, T_L_cell)
  | 18 => some (2, 99, T_L_refused)
  | 22 => some (2, 99, T_L_up)
  | 26 => some (3, 6, T_X6_jobQ)
  | 29 => some (4, 6, T_X6_operationS)
  | 33 => some (3, 6, T_X6_ofJobG)
  | 36 => some (3, 99, T_L_act2)
  | 40 => some (1, 99, T_L_plan)
  | 47 => some (2, 99, T_L_forces)
  | 50 => some (2, 99, T_L_breaks)
  | 56 => some (2, 99, T_L_back)
  | _ => none
theorem cao_L_law (l : Launch) : ∀ k n' ci T', ca_L_law k = some (n', ci, T') → (k = 12 ∧ n' = 2 ∧ ci = 99 ∧ T' = T_L_cell) ∨ ∃ nn, nn + 1 ≤ 39 ∧ Site l RL k n' ci nn T' := by
  intro k n' ci T' h
  unfold ca_L_law at h
  split at h
  · cases h; exact Or.inl ⟨rfl, rfl, rfl, rfl⟩
  · cases h; exact Or.inr ⟨38, by decide, _, _, _, _, k_L_refused l, Or.inr ⟨rfl, FL_refused, Or.inl ⟨rfl, KRL_18⟩⟩⟩
  · cases h; exact Or.inr ⟨0, by decide, _, _, _, _, k_L_up l, Or.inr ⟨rfl, FL_up, Or.inl ⟨rfl, KRL_22⟩⟩⟩
  · cases h; exact Or.inr ⟨4, by decide, _, _, _, _, k_X6_jobQ l, Or.inl ⟨_, rfl, FX6_job, KRL_26⟩⟩
  · cases h; exact Or.inr ⟨4, by decide, _, _, _, _, k_X6_operationS l, Or.inl ⟨_, rfl, FX6_operation, KRL_29⟩⟩
  · cases h; exact Or.inr ⟨6, by decide, _, _, _, _, k_X6_ofJobG l, Or.inl ⟨_, rfl, FX6_ofJob, KRL_33⟩⟩
  · cases h; exact Or.inr ⟨38, by decide, _, _, _, _, k_L_act2 l, Or.inr ⟨rfl, FL_act, Or.inl ⟨rfl, KRL_36⟩⟩⟩
  · cases h; exact Or.inr ⟨8, by decide, _, _, _, _, k_L_plan l, Or.inr ⟨rfl, FL_plan, Or.inl ⟨rfl, KRL_40⟩⟩⟩
  · cases h; exact Or.inr ⟨7, by decide, _, _, _, _, k_L_forces l, Or.inr ⟨rfl, FL_forces, Or.inl ⟨rfl, KRL_47⟩⟩⟩
  · cases h; exact Or.inr ⟨38, by decide, _, _, _, _, k_L_breaks l, Or.inr ⟨rfl, FL_breaks, Or.inl ⟨rfl, KRL_50⟩⟩⟩
  · cases h; exact Or.inr ⟨38, by decide, _, _, _, _, k_L_back l, Or.inr ⟨rfl, FL_back, Or.inl ⟨rfl, KRL_56⟩⟩⟩
  · cases h
set_option maxHeartbeats 8000000 in
set_option maxRecDepth 20000 in
theorem law_C {g : Gh} {σ : Mem} {at0 : Int} {l3 l4 l5 l6 l7 l8 l9 l10 : Option AV} (hg : GS g σ) (ha : 0 ≤ at0 ∧ at0 < 1000) (h5 : g.1 5 0 < 4) : ∃ (cut : Cut) (f : Nat), (∀ pc I L S σ' k, cut pc = some I → I L S σ' k → wp (frL, kcL, klL, ca_L_law, false, 0, fun _ => 0) CL_law cut (fun k' => k' < k) (Kr (some .boolean) lawK) f (drp pc CL_law) L S σ' ) ∧ wp (frL, kcL, klL, ca_L_law, false, 0, fun _ => 0) CL_law cut (fun _ => True) (Kr (some .boolean) lawK) f (drp 297 CL_law) [some (.inr (.inl (56, 0))), some (.inr (.inl (6, 0))), some (.inl at0), l3, l4, l5, l6, l7, l8, l9, l10] [.inl 1] σ := by
  refine ⟨fun pc => none, 200, ?_, ?_⟩
  · intro pc I L S σ' kz hcut hi
    simp at hcut
  · simp only [wp, stp, drp, entL, eL, lget, lset, okst, cnd, swt, rcv, Kr_int, Kr_bool, Kr_void, List.length_cons, List.length_nil, List.replicate, List.append_nil, List.cons_append, List.nil_append, List.take_succ_cons, List.take_zero, List.drop_succ_cons, List.drop_zero, List.reverse_cons, List.reverse_nil, Option.map_some, Option.map_none, Option.toList_some, Option.toList_none, Nat.reduceAdd, Nat.reduceSub, Nat.reduceLT, Nat.reduceLeDiff, Nat.reduceEqDiff, ↓reduceIte, Nat.add_zero, Nat.zero_add, true_and, and_true, Nat.le_refl, reduceCtorEq, false_implies, true_implies, not_true_eq_false, not_false_eq_true, Int.reduceAdd, Int.reduceSub, Int.reduceMul, Int.reduceLE, Int.reduceLT, Int.reduceEq, Int.reduceNe, Int.reduceNeg, Int.reduceDiv, Int.reduceMod, Bool.false_eq_true, Int.le_refl, and_self, true_or, or_true, inR_l, fv0, fv1, fv2, fv3, nc2, nc4, nc6, nc16, nc25, nc60, nc65, nc80, nc130, nc384, nc390, fp_0_0, fp_0_1, fp_0_2, fp_1_0, fp_1_1, fp_1_2, fp_1_3, fp_1_4, fp_1_5, fp_1_6, fp_1_7, fp_1_8, fp_1_9, fp_1_10, fp_1_11, fp_1_12, fp_1_13, fp_1_14, fp_2_0, fp_2_1, fp_2_2, fp_2_3, fp_3_0, fp_3_1, fp_4_0, fp_4_1, fp_4_2, fp_4_3, fp_4_4, fp_4_5, fp_4_6, fp_4_7, fp_5_0, fp_5_1, fp_5_2, fp_5_3, fp_5_4, fp_5_5, fp_5_6, fp_5_7, fp_6_0, fp_6_1, fp_6_2, fp_6_3, fp_6_4, fp_6_5, fp_6_6, fp_6_7, fp_6_8, fp_6_9, fp_6_10, fp_6_11, fp_6_12, fp_6_13, fp_6_14, fp_6_15, fp_7_0, fp_7_1, fp_7_2, fp_7_3, fp_7_4, fp_7_5, fp_7_6, fp_7_7, fp_7_8, fp_7_9, fp_7_10, fp_7_11, fp_7_12, fp_7_13, fp_7_14, fp_7_15, fp_7_16, fp_7_17, fp_7_18, fp_7_19, fp_7_20, fp_7_21, fp_7_22, fp_7_23, fp_7_24, iz_0_1, iz_0_2, iz_1_8, iz_1_9, iz_1_11, iz_2_1, iz_2_2, iz_2_3, iz_3_1, iz_4_1, iz_4_2, iz_5_0, iz_6_8, iz_6_9, iz_6_13, iz_6_14, iz_6_15, iz_7_2, iz_7_6, iz_7_12, iz_7_20, iz_7_21, iz_7_23, iz_7_24, ak_8, ak_9, ak_10, ak_11, ak_12, ak_13, ak_14, ak_15, ak_16, ak_17, ak_18, ak_19, ak_20, ak_21, ak_22, ak_23, ak_24, ak_25, ak_26, ak_27, ak_28, ak_29, ak_30, ak_31, ak_32, ak_33, ak_34, ak_35, ak_36, ak_37, ak_38, ak_39, ak_40, ak_41, ak_42, ak_43, ak_44, ak_45, ak_46, ak_47, ak_48, ak_49, ak_50, ak_51, ak_52, ak_53, ak_54, ak_55, ak_56, el31, el33, el34, CL_law, ca_L_law, frL, kcL, klL, T_L_cell, lawK, T_L_refused, T_L_up, T_X6_jobQ, T_X6_operationS, T_X6_ofJobG, T_L_act2, T_L_plan, T_L_forces, T_L_breaks, T_L_back, exists_eq_right_right, exists_eq_right, exists_eq_left, Nat.lt_irrefl, and_self, implies_true, forall_const]
    exact ⟨by constructor <;> omega, by omega, fun x _ => ⟨g, hg, h5, fun g' σ1 h1 => ⟨g', h1⟩⟩⟩
def PT1 (bd : Int) (L : LL) (S : List AV) (σ : Mem) : Prop := ∃ at0 l3 l4 l5 l6 l7 l8 l9 l10, L = [some (.inr (.inl (56, 0))), some (.inr (.inl (6, 0))), some (.inl at0), l3, l4, l5, l6, l7, l8, l9, l10] ∧ S = [.inr (.inl (6, 0))] ∧ (0 ≤ at0 ∧ at0 < bd) ∧ ∃ g, GS g σ ∧ (g.1 5 0 < 4 ∧ HO g.1)
set_option maxHeartbeats 8000000 in
set_option maxRecDepth 20000 in
theorem law_B {g : Gh} {σ : Mem} {at0 : Int} {l3 l4 l5 l6 l7 l8 l9 l10 : Option AV} (hg : GS g σ) (ha : 0 ≤ at0 ∧ at0 < 800) (hp : pos g.1) (h5 : g.1 5 0 < 4 ∧ HO g.1) : ∃ (cut : Cut) (f : Nat), (∀ pc I L S σ' k, cut pc = some I → I L S σ' k → wp (frL, kcL, klL, ca_L_law, false, 0, fun _ => 0) CL_law cut (fun k' => k' < k) (Kr (some .boolean) lawK) f (drp pc CL_law) L S σ' ∨ (pc = 294 ∧ PT1 900 L S σ')) ∧ wp (frL, kcL, klL, ca_L_law, false, 0, fun _ => 0) CL_law cut (fun _ => True) (Kr (some .boolean) lawK) f (drp 260 CL_law) [some (.inr (.inl (56, 0))), some (.inr (.inl (6, 0))), some (.inl at0), l3, l4, l5, l6, l7, l8, l9, l10] [.inl 1] σ := by
  refine ⟨fun pc => if pc = 294 then some (fun L S σ' kz => match L, S with | [some (.inr (.inl c0)), some (.inr (.inl c1)), some (.inl at0), l3, l4, l5, l6, l7, l8, l9, l10], [.inr (.inl c2)] => (c0 = (56, 0) ∧ c1 = (6, 0) ∧ c2 = (6, 0) ∧ (0 ≤ at0 ∧ at0 < 900) ∧ ∃ g, GS g σ' ∧ (g.1 5 0 < 4 ∧ HO g.1)) ∧ kz = 1 | _, _ => False) else none, 200, ?_, ?_⟩
  · intro pc I L S σ' kz hcut hi
    dsimp only at hcut
    by_cases hpc0 : pc = 294
    · rw [if_pos hpc0] at hcut
      subst hpc0
      cases hcut
      try dsimp only at hi
      split at hi
      · rename_i c0 c1 at0 l3 l4 l5 l6 l7 l8 l9 l10 c2
        obtain ⟨hi, rfl⟩ := hi
        obtain ⟨rfl, rfl, rfl, h⟩ := hi
        exact Or.inr ⟨rfl, _, _, _, _, _, _, _, _, _, rfl, rfl, h⟩
      · exact hi.elim
    rw [if_neg hpc0] at hcut
    cases hcut
  · simp only [wp, stp, drp, entL, eL, lget, lset, okst, cnd, swt, rcv, Kr_int, Kr_bool, Kr_void, List.length_cons, List.length_nil, List.replicate, List.append_nil, List.cons_append, List.nil_append, List.take_succ_cons, List.take_zero, List.drop_succ_cons, List.drop_zero, List.reverse_cons, List.reverse_nil, Option.map_some, Option.map_none, Option.toList_some, Option.toList_none, Nat.reduceAdd, Nat.reduceSub, Nat.reduceLT, Nat.reduceLeDiff, Nat.reduceEqDiff, ↓reduceIte, Nat.add_zero, Nat.zero_add, true_and, and_true, Nat.le_refl, reduceCtorEq, false_implies, true_implies, not_true_eq_false, not_false_eq_true, Int.reduceAdd, Int.reduceSub, Int.reduceMul, Int.reduceLE, Int.reduceLT, Int.reduceEq, Int.reduceNe, Int.reduceNeg, Int.reduceDiv, Int.reduceMod, Bool.false_eq_true, Int.le_refl, and_self, true_or, or_true, inR_l, fv0, fv1, fv2, fv3, nc2, nc4, nc6, nc16, nc25, nc60, nc65, nc80, nc130, nc384, nc390, fp_0_0, fp_0_1, fp_0_2, fp_1_0, fp_1_1, fp_1_2, fp_1_3, fp_1_4, fp_1_5, fp_1_6, fp_1_7, fp_1_8, fp_1_9, fp_1_10, fp_1_11, fp_1_12, fp_1_13, fp_1_14, fp_2_0, fp_2_1, fp_2_2, fp_2_3, fp_3_0, fp_3_1, fp_4_0, fp_4_1, fp_4_2, fp_4_3, fp_4_4, fp_4_5, fp_4_6, fp_4_7, fp_5_0, fp_5_1, fp_5_2, fp_5_3, fp_5_4, fp_5_5, fp_5_6, fp_5_7, fp_6_0, fp_6_1, fp_6_2, fp_6_3, fp_6_4, fp_6_5, fp_6_6, fp_6_7, fp_6_8, fp_6_9, fp_6_10, fp_6_11, fp_6_12, fp_6_13, fp_6_14, fp_6_15, fp_7_0, fp_7_1, fp_7_2, fp_7_3, fp_7_4, fp_7_5, fp_7_6, fp_7_7, fp_7_8, fp_7_9, fp_7_10, fp_7_11, fp_7_12, fp_7_13, fp_7_14, fp_7_15, fp_7_16, fp_7_17, fp_7_18, fp_7_19, fp_7_20, fp_7_21, fp_7_22, fp_7_23, fp_7_24, iz_0_1, iz_0_2, iz_1_8, iz_1_9, iz_1_11, iz_2_1, iz_2_2, iz_2_3, iz_3_1, iz_4_1, iz_4_2, iz_5_0, iz_6_8, iz_6_9, iz_6_13, iz_6_14, iz_6_15, iz_7_2, iz_7_6, iz_7_12, iz_7_20, iz_7_21, iz_7_23, iz_7_24, ak_8, ak_9, ak_10, ak_11, ak_12, ak_13, ak_14, ak_15, ak_16, ak_17, ak_18, ak_19, ak_20, ak_21, ak_22, ak_23, ak_24, ak_25, ak_26, ak_27, ak_28, ak_29, ak_30, ak_31, ak_32, ak_33, ak_34, ak_35, ak_36, ak_37, ak_38, ak_39, ak_40, ak_41, ak_42, ak_43, ak_44, ak_45, ak_46, ak_47, ak_48, ak_49, ak_50, ak_51, ak_52, ak_53, ak_54, ak_55, ak_56, el31, el33, el34, CL_law, ca_L_law, frL, kcL, klL, T_L_cell, lawK, T_L_refused, T_L_up, T_X6_jobQ, T_X6_operationS, T_X6_ofJobG, T_L_act2, T_L_plan, T_L_forces, T_L_breaks, T_L_back, exists_eq_right_right, exists_eq_right, exists_eq_left, Nat.lt_irrefl, and_self, implies_true, forall_const]
    exact ⟨by constructor <;> omega, by omega, fun x _ => ⟨g, hg, hp, fun σ1 h1 => ⟨by constructor <;> omega, by omega, fun x2 _ => ⟨g, h1, hp, fun g' σ2 h2 e => ⟨by omega, g', h2, by rw [e.1]; exact h5.1, HO_e e.2 h5.2⟩⟩⟩⟩⟩
set_option maxHeartbeats 8000000 in
set_option maxRecDepth 20000 in
theorem law_A {σ : Mem} (hg : GS (cv (fun _ _ _ => 0) 0, [], none, (fun _ => 0, 0)) σ) : ∃ (cut : Cut) (f : Nat), (∀ pc I L S σ' k, cut pc = some I → I L S σ' k → wp (frL, kcL, klL, ca_L_law, false, 0, fun _ => 0) CL_law cut (fun k' => k' < k) (Kr (some .boolean) lawK) f (drp pc CL_law) L S σ' ∨ (pc = 257 ∧ PT1 800 L S σ')) ∧ wp (frL, kcL, klL, ca_L_law, false, 0, fun _ => 0) CL_law cut (fun _ => True) (Kr (some .boolean) lawK) f (drp 8 CL_law) [some (.inr (.inl (56, 0))), some (.inr (.inl (6, 0))), none, none, none, none, none, none, none, none, none] [] σ := by
  refine ⟨fun pc => if pc = 59 then some (fun L S σ' kz => match L, S with | [some (.inr (.inl c0)), some (.inr (.inl c1)), some (.inl at0), some (.inl v), some (.inl J), some (.inl S), some (.inl j), _, _, _, _], [] => (c0 = (56, 0) ∧ c1 = (6, 0) ∧ (1 ≤ J ∧ J ≤ 3) ∧ (2 ≤ S ∧ S ≤ 4) ∧ (0 ≤ j ∧ j ≤ J) ∧ (0 ≤ at0 ∧ at0 ≤ 2 + 10 * j) ∧ ∃ g, GS g σ' ∧ g.1 5 0 = j ∧ (1 ≤ j → HO g.1)) ∧ kz = 10000 + (20 - j).toNat * 100 | _, _ => False) else if pc = 123 then some (fun L S σ' kz => match L, S with | [some (.inr (.inl c0)), some (.inr (.inl c1)), some (.inl at0), some (.inl v), some (.inl J), some (.inl S), some (.inl j), some (.inl w), some (.inl k), _, _], [] => (c0 = (56, 0) ∧ c1 = (6, 0) ∧ (1 ≤ J ∧ J ≤ 3) ∧ (2 ≤ S ∧ S ≤ 4) ∧ (0 ≤ j ∧ j < J) ∧ (0 ≤ k ∧ k ≤ S) ∧ (0 ≤ at0 ∧ at0 ≤ 3 + 10 * j + k) ∧ ∃ g, GS g σ' ∧ g.1 5 0 = j + 1 ∧ (k = 0 → g.1 10 j = 0) ∧ (1 ≤ k → HO g.1)) ∧ kz = 9950 + (20 - j).toNat * 100 + (20 - k).toNat | _, _ => False) else if pc = 209 then some (fun L S σ' kz => match L, S with | [some (.inr (.inl c0)), some (.inr (.inl c1)), some (.inl at0), some (.inl v), some (.inl J), some (.inl S), some (.inl i), _, _, _, _], [] => (c0 = (56, 0) ∧ c1 = (6, 0) ∧ (0 ≤ i ∧ i ≤ 8) ∧ (0 ≤ at0 ∧ at0 ≤ 40 + 2 * i) ∧ ∃ g, GS g σ' ∧ 1 ≤ g.1 5 0 ∧ g.1 5 0 ≤ 3 ∧ HO g.1) ∧ kz = 100 + (20 - i).toNat | _, _ => False) else if pc = 257 then some (fun L S σ' kz => match L, S with | [some (.inr (.inl c0)), some (.inr (.inl c1)), some (.inl at0), l3, l4, l5, l6, l7, l8, l9, l10], [.inr (.inl c2)] => (c0 = (56, 0) ∧ c1 = (6, 0) ∧ c2 = (6, 0) ∧ (0 ≤ at0 ∧ at0 < 800) ∧ ∃ g, GS g σ' ∧ (g.1 5 0 < 4 ∧ HO g.1)) ∧ kz = 1 | _, _ => False) else none, 300, ?_, ?_⟩
  · intro pc I L S σ' kz hcut hi
    dsimp only at hcut
    by_cases hpc0 : pc = 59
    · rw [if_pos hpc0] at hcut
      subst hpc0
      cases hcut
      try dsimp only at hi
      split at hi
      · rename_i c0 c1 at0 v J S j y7 y8 y9 y10
        obtain ⟨hi, rfl⟩ := hi
        obtain ⟨rfl, rfl, hJ, hS, hj, hat, g, hg, h5, hho⟩ := hi
        refine Or.inl ?_
        simp only [wp, stp, drp, entL, eL, lget, lset, okst, cnd, swt, rcv, Kr_int, Kr_bool, Kr_void, List.length_cons, List.length_nil, List.replicate, List.append_nil, List.cons_append, List.nil_append, List.take_succ_cons, List.take_zero, List.drop_succ_cons, List.drop_zero, List.reverse_cons, List.reverse_nil, Option.map_some, Option.map_none, Option.toList_some, Option.toList_none, Nat.reduceAdd, Nat.reduceSub, Nat.reduceLT, Nat.reduceLeDiff, Nat.reduceEqDiff, ↓reduceIte, Nat.add_zero, Nat.zero_add, true_and, and_true, Nat.le_refl, reduceCtorEq, false_implies, true_implies, not_true_eq_false, not_false_eq_true, Int.reduceAdd, Int.reduceSub, Int.reduceMul, Int.reduceLE, Int.reduceLT, Int.reduceEq, Int.reduceNe, Int.reduceNeg, Int.reduceDiv, Int.reduceMod, Bool.false_eq_true, Int.le_refl, and_self, true_or, or_true, inR_l, fv0, fv1, fv2, fv3, nc2, nc4, nc6, nc16, nc25, nc60, nc65, nc80, nc130, nc384, nc390, fp_0_0, fp_0_1, fp_0_2, fp_1_0, fp_1_1, fp_1_2, fp_1_3, fp_1_4, fp_1_5, fp_1_6, fp_1_7, fp_1_8, fp_1_9, fp_1_10, fp_1_11, fp_1_12, fp_1_13, fp_1_14, fp_2_0, fp_2_1, fp_2_2, fp_2_3, fp_3_0, fp_3_1, fp_4_0, fp_4_1, fp_4_2, fp_4_3, fp_4_4, fp_4_5, fp_4_6, fp_4_7, fp_5_0, fp_5_1, fp_5_2, fp_5_3, fp_5_4, fp_5_5, fp_5_6, fp_5_7, fp_6_0, fp_6_1, fp_6_2, fp_6_3, fp_6_4, fp_6_5, fp_6_6, fp_6_7, fp_6_8, fp_6_9, fp_6_10, fp_6_11, fp_6_12, fp_6_13, fp_6_14, fp_6_15, fp_7_0, fp_7_1, fp_7_2, fp_7_3, fp_7_4, fp_7_5, fp_7_6, fp_7_7, fp_7_8, fp_7_9, fp_7_10, fp_7_11, fp_7_12, fp_7_13, fp_7_14, fp_7_15, fp_7_16, fp_7_17, fp_7_18, fp_7_19, fp_7_20, fp_7_21, fp_7_22, fp_7_23, fp_7_24, iz_0_1, iz_0_2, iz_1_8, iz_1_9, iz_1_11, iz_2_1, iz_2_2, iz_2_3, iz_3_1, iz_4_1, iz_4_2, iz_5_0, iz_6_8, iz_6_9, iz_6_13, iz_6_14, iz_6_15, iz_7_2, iz_7_6, iz_7_12, iz_7_20, iz_7_21, iz_7_23, iz_7_24, ak_8, ak_9, ak_10, ak_11, ak_12, ak_13, ak_14, ak_15, ak_16, ak_17, ak_18, ak_19, ak_20, ak_21, ak_22, ak_23, ak_24, ak_25, ak_26, ak_27, ak_28, ak_29, ak_30, ak_31, ak_32, ak_33, ak_34, ak_35, ak_36, ak_37, ak_38, ak_39, ak_40, ak_41, ak_42, ak_43, ak_44, ak_45, ak_46, ak_47, ak_48, ak_49, ak_50, ak_51, ak_52, ak_53, ak_54, ak_55, ak_56, el31, el33, el34, CL_law, ca_L_law, frL, kcL, klL, T_L_cell, lawK, T_L_refused, T_L_up, T_X6_jobQ, T_X6_operationS, T_X6_ofJobG, T_L_act2, T_L_plan, T_L_forces, T_L_breaks, T_L_back, exists_eq_right_right, exists_eq_right, exists_eq_left, Nat.lt_irrefl, and_self, implies_true, forall_const]
        refine ⟨fun q => ⟨by omega, by omega, g, hg, by omega, by omega, hho (by omega)⟩, fun q => ⟨by constructor <;> omega, by omega, fun x _ => ?_⟩⟩
        have r1 := upA_r (v := bshr x 1) (m := 51) (by omega)
        have r2 := upA_r (v := bshr x 7) (m := 201) (by omega)
        have fin : ∀ r d σ1, GS (bumpG g (cnV (jobV g.1 r d))) σ1 → (∃ g : Gh, GS g σ1 ∧ g.1 5 0 = j + 1 ∧ g.1 10 j = 0) := fun r d σ1 h1 => ⟨_, h1, (cn5 _).trans ((jobV_5 _ _ _).trans (by rw [h5])), by
          have e := jobV_10 g.1 r d
          rw [h5] at e
          exact (cn10 hj.1 (by omega)).trans e⟩
        exact ⟨fun _ => ⟨g, hg, by omega, by omega, fun σ1 h1 => ⟨fun _ => ⟨by omega, hJ, hS, by omega, by omega, by omega, fin _ _ _ h1⟩, fun z => absurd h5 z⟩⟩, fun _ => ⟨g, hg, by omega, by omega, fun σ1 h1 => ⟨fun _ => ⟨by omega, hJ, hS, by omega, by omega, by omega, fin _ _ _ h1⟩, fun z => absurd h5 z⟩⟩⟩
      · exact hi.elim
    rw [if_neg hpc0] at hcut
    by_cases hpc1 : pc = 123
    · rw [if_pos hpc1] at hcut
      subst hpc1
      cases hcut
      try dsimp only at hi
      split at hi
      · rename_i c0 c1 at0 v J S j w k y9 y10
        obtain ⟨hi, rfl⟩ := hi
        obtain ⟨rfl, rfl, hJ, hS, hj, hk, hat, g, hg, h5, h0, hho⟩ := hi
        refine Or.inl ?_
        simp only [wp, stp, drp, entL, eL, lget, lset, okst, cnd, swt, rcv, Kr_int, Kr_bool, Kr_void, List.length_cons, List.length_nil, List.replicate, List.append_nil, List.cons_append, List.nil_append, List.take_succ_cons, List.take_zero, List.drop_succ_cons, List.drop_zero, List.reverse_cons, List.reverse_nil, Option.map_some, Option.map_none, Option.toList_some, Option.toList_none, Nat.reduceAdd, Nat.reduceSub, Nat.reduceLT, Nat.reduceLeDiff, Nat.reduceEqDiff, ↓reduceIte, Nat.add_zero, Nat.zero_add, true_and, and_true, Nat.le_refl, reduceCtorEq, false_implies, true_implies, not_true_eq_false, not_false_eq_true, Int.reduceAdd, Int.reduceSub, Int.reduceMul, Int.reduceLE, Int.reduceLT, Int.reduceEq, Int.reduceNe, Int.reduceNeg, Int.reduceDiv, Int.reduceMod, Bool.false_eq_true, Int.le_refl, and_self, true_or, or_true, inR_l, fv0, fv1, fv2, fv3, nc2, nc4, nc6, nc16, nc25, nc60, nc65, nc80, nc130, nc384, nc390, fp_0_0, fp_0_1, fp_0_2, fp_1_0, fp_1_1, fp_1_2, fp_1_3, fp_1_4, fp_1_5, fp_1_6, fp_1_7, fp_1_8, fp_1_9, fp_1_10, fp_1_11, fp_1_12, fp_1_13, fp_1_14, fp_2_0, fp_2_1, fp_2_2, fp_2_3, fp_3_0, fp_3_1, fp_4_0, fp_4_1, fp_4_2, fp_4_3, fp_4_4, fp_4_5, fp_4_6, fp_4_7, fp_5_0, fp_5_1, fp_5_2, fp_5_3, fp_5_4, fp_5_5, fp_5_6, fp_5_7, fp_6_0, fp_6_1, fp_6_2, fp_6_3, fp_6_4, fp_6_5, fp_6_6, fp_6_7, fp_6_8, fp_6_9, fp_6_10, fp_6_11, fp_6_12, fp_6_13, fp_6_14, fp_6_15, fp_7_0, fp_7_1, fp_7_2, fp_7_3, fp_7_4, fp_7_5, fp_7_6, fp_7_7, fp_7_8, fp_7_9, fp_7_10, fp_7_11, fp_7_12, fp_7_13, fp_7_14, fp_7_15, fp_7_16, fp_7_17, fp_7_18, fp_7_19, fp_7_20, fp_7_21, fp_7_22, fp_7_23, fp_7_24, iz_0_1, iz_0_2, iz_1_8, iz_1_9, iz_1_11, iz_2_1, iz_2_2, iz_2_3, iz_3_1, iz_4_1, iz_4_2, iz_5_0, iz_6_8, iz_6_9, iz_6_13, iz_6_14, iz_6_15, iz_7_2, iz_7_6, iz_7_12, iz_7_20, iz_7_21, iz_7_23, iz_7_24, ak_8, ak_9, ak_10, ak_11, ak_12, ak_13, ak_14, ak_15, ak_16, ak_17, ak_18, ak_19, ak_20, ak_21, ak_22, ak_23, ak_24, ak_25, ak_26, ak_27, ak_28, ak_29, ak_30, ak_31, ak_32, ak_33, ak_34, ak_35, ak_36, ak_37, ak_38, ak_39, ak_40, ak_41, ak_42, ak_43, ak_44, ak_45, ak_46, ak_47, ak_48, ak_49, ak_50, ak_51, ak_52, ak_53, ak_54, ak_55, ak_56, el31, el33, el34, CL_law, ca_L_law, frL, kcL, klL, T_L_cell, lawK, T_L_refused, T_L_up, T_X6_jobQ, T_X6_operationS, T_X6_ofJobG, T_L_act2, T_L_plan, T_L_forces, T_L_breaks, T_L_back, exists_eq_right_right, exists_eq_right, exists_eq_left, Nat.lt_irrefl, and_self, implies_true, forall_const]
        refine ⟨fun q => ⟨by constructor <;> omega, by omega, hJ, hS, by omega, by omega, g, hg, h5, fun _ => hho (by omega)⟩, fun q => ⟨by constructor <;> omega, by omega, fun x _ => ?_⟩⟩
        have rS := upA_r (v := x) (m := S) (by omega)
        have r20 := upA_r (v := bshr x 3) (m := 20) (by omega)
        have hw := GS_w hg
        have s4 := st_w hw hj.1 (show j < 4 by omega)
        refine ⟨by omega, by constructor <;> omega, g, hg, by omega, fun r σ1 hr => ?_⟩
        rcases hr with ⟨nf, e, h1⟩ | ⟨ft, e, h1⟩
        · have hk1 : 1 ≤ k := Classical.byContradiction (fun z => nf ⟨⟨hj.1, by omega⟩, ⟨by omega, by omega⟩, fun s s0 s1 => by
            have := h0 (by omega)
            omega⟩)
          exact ⟨fun _ => ⟨by constructor <;> omega, by omega, hJ, hS, hj, by omega, by omega, g, h1, h5, fun z => by omega, fun _ => hho hk1⟩, fun z => absurd e z⟩
        · have a5 : (bumpG g (cnV (opV g.1 j (upA x S) (1 + upA (bshr x 3) 20)))).1 5 0 = j + 1 := (cn5 _).trans ((opV_9 _ _ _ _ (by omega) 0).trans h5)
          have a10 : (bumpG g (cnV (opV g.1 j (upA x S) (1 + upA (bshr x 3) 20)))).1 10 j = g.1 10 j + 1 := (cn10 hj.1 (by omega)).trans (by rw [opV_10, if_pos rfl])
          have aH : HO (bumpG g (cnV (opV g.1 j (upA x S) (1 + upA (bshr x 3) 20)))).1 := ⟨upA x S, by omega, by omega, by
            have l := ln_w hw (show 0 ≤ upA x S by omega) (show upA x S < 4 by omega)
            have e13 : (bumpG g (cnV (opV g.1 j (upA x S) (1 + upA (bshr x 3) 20)))).1 13 (upA x S) = g.1 13 (upA x S) + 1 := (cn13 (by omega) (by omega)).trans (by rw [opV_13, if_pos rfl])
            rw [e13]
            omega⟩
          have eo : ofjA (bumpG g (cnV (opV g.1 j (upA x S) (1 + upA (bshr x 3) 20)))).1 j 2 = g.1 10 j + 1 := (of2 ⟨hj.1, by rw [a5]; omega⟩).trans a10
          refine ⟨fun z => by omega, fun _ => ⟨by constructor <;> omega, _, h1, fun σ2 h2 => ?_⟩⟩
          rw [eo]
          exact ⟨by constructor <;> omega, by constructor <;> omega, fun _ => ⟨by constructor <;> omega, by omega, hJ, hS, hj, by omega, by omega, _, h2, a5, fun z => by omega, fun _ => aH⟩, fun z => absurd (by omega) z⟩
      · exact hi.elim
    rw [if_neg hpc1] at hcut
    by_cases hpc2 : pc = 209
    · rw [if_pos hpc2] at hcut
      subst hpc2
      cases hcut
      try dsimp only at hi
      split at hi
      · rename_i c0 c1 at0 v J S i y7 y8 y9 y10
        obtain ⟨hi, rfl⟩ := hi
        obtain ⟨rfl, rfl, hi0, hat, g, hg, h5, h6, hho⟩ := hi
        refine Or.inl ?_
        simp only [wp, stp, drp, entL, eL, lget, lset, okst, cnd, swt, rcv, Kr_int, Kr_bool, Kr_void, List.length_cons, List.length_nil, List.replicate, List.append_nil, List.cons_append, List.nil_append, List.take_succ_cons, List.take_zero, List.drop_succ_cons, List.drop_zero, List.reverse_cons, List.reverse_nil, Option.map_some, Option.map_none, Option.toList_some, Option.toList_none, Nat.reduceAdd, Nat.reduceSub, Nat.reduceLT, Nat.reduceLeDiff, Nat.reduceEqDiff, ↓reduceIte, Nat.add_zero, Nat.zero_add, true_and, and_true, Nat.le_refl, reduceCtorEq, false_implies, true_implies, not_true_eq_false, not_false_eq_true, Int.reduceAdd, Int.reduceSub, Int.reduceMul, Int.reduceLE, Int.reduceLT, Int.reduceEq, Int.reduceNe, Int.reduceNeg, Int.reduceDiv, Int.reduceMod, Bool.false_eq_true, Int.le_refl, and_self, true_or, or_true, inR_l, fv0, fv1, fv2, fv3, nc2, nc4, nc6, nc16, nc25, nc60, nc65, nc80, nc130, nc384, nc390, fp_0_0, fp_0_1, fp_0_2, fp_1_0, fp_1_1, fp_1_2, fp_1_3, fp_1_4, fp_1_5, fp_1_6, fp_1_7, fp_1_8, fp_1_9, fp_1_10, fp_1_11, fp_1_12, fp_1_13, fp_1_14, fp_2_0, fp_2_1, fp_2_2, fp_2_3, fp_3_0, fp_3_1, fp_4_0, fp_4_1, fp_4_2, fp_4_3, fp_4_4, fp_4_5, fp_4_6, fp_4_7, fp_5_0, fp_5_1, fp_5_2, fp_5_3, fp_5_4, fp_5_5, fp_5_6, fp_5_7, fp_6_0, fp_6_1, fp_6_2, fp_6_3, fp_6_4, fp_6_5, fp_6_6, fp_6_7, fp_6_8, fp_6_9, fp_6_10, fp_6_11, fp_6_12, fp_6_13, fp_6_14, fp_6_15, fp_7_0, fp_7_1, fp_7_2, fp_7_3, fp_7_4, fp_7_5, fp_7_6, fp_7_7, fp_7_8, fp_7_9, fp_7_10, fp_7_11, fp_7_12, fp_7_13, fp_7_14, fp_7_15, fp_7_16, fp_7_17, fp_7_18, fp_7_19, fp_7_20, fp_7_21, fp_7_22, fp_7_23, fp_7_24, iz_0_1, iz_0_2, iz_1_8, iz_1_9, iz_1_11, iz_2_1, iz_2_2, iz_2_3, iz_3_1, iz_4_1, iz_4_2, iz_5_0, iz_6_8, iz_6_9, iz_6_13, iz_6_14, iz_6_15, iz_7_2, iz_7_6, iz_7_12, iz_7_20, iz_7_21, iz_7_23, iz_7_24, ak_8, ak_9, ak_10, ak_11, ak_12, ak_13, ak_14, ak_15, ak_16, ak_17, ak_18, ak_19, ak_20, ak_21, ak_22, ak_23, ak_24, ak_25, ak_26, ak_27, ak_28, ak_29, ak_30, ak_31, ak_32, ak_33, ak_34, ak_35, ak_36, ak_37, ak_38, ak_39, ak_40, ak_41, ak_42, ak_43, ak_44, ak_45, ak_46, ak_47, ak_48, ak_49, ak_50, ak_51, ak_52, ak_53, ak_54, ak_55, ak_56, el31, el33, el34, CL_law, ca_L_law, frL, kcL, klL, T_L_cell, lawK, T_L_refused, T_L_up, T_X6_jobQ, T_X6_operationS, T_X6_ofJobG, T_L_act2, T_L_plan, T_L_forces, T_L_breaks, T_L_back, exists_eq_right_right, exists_eq_right, exists_eq_left, Nat.lt_irrefl, and_self, implies_true, forall_const]
        exact ⟨fun q => ⟨by omega, by omega, g, hg, by omega, hho⟩, fun q => ⟨by constructor <;> omega, by omega, fun x _ => ⟨by constructor <;> omega, by omega, fun x2 _ => ⟨g, hg, h5, fun g' σ1 h1 e => ⟨g', h1, fun σ2 h2 => ⟨by constructor <;> omega, by omega, by omega, by omega, g', h2, by rw [e.1]; exact h5, by rw [e.1]; exact h6, HO_e e.2 hho⟩⟩⟩⟩⟩⟩
      · exact hi.elim
    rw [if_neg hpc2] at hcut
    by_cases hpc3 : pc = 257
    · rw [if_pos hpc3] at hcut
      subst hpc3
      cases hcut
      try dsimp only at hi
      split at hi
      · rename_i c0 c1 at0 l3 l4 l5 l6 l7 l8 l9 l10 c2
        obtain ⟨hi, rfl⟩ := hi
        obtain ⟨rfl, rfl, rfl, h⟩ := hi
        exact Or.inr ⟨rfl, _, _, _, _, _, _, _, _, _, rfl, rfl, h⟩
      · exact hi.elim
    rw [if_neg hpc3] at hcut
    cases hcut
  · simp only [wp, stp, drp, entL, eL, lget, lset, okst, cnd, swt, rcv, Kr_int, Kr_bool, Kr_void, List.length_cons, List.length_nil, List.replicate, List.append_nil, List.cons_append, List.nil_append, List.take_succ_cons, List.take_zero, List.drop_succ_cons, List.drop_zero, List.reverse_cons, List.reverse_nil, Option.map_some, Option.map_none, Option.toList_some, Option.toList_none, Nat.reduceAdd, Nat.reduceSub, Nat.reduceLT, Nat.reduceLeDiff, Nat.reduceEqDiff, ↓reduceIte, Nat.add_zero, Nat.zero_add, true_and, and_true, Nat.le_refl, reduceCtorEq, false_implies, true_implies, not_true_eq_false, not_false_eq_true, Int.reduceAdd, Int.reduceSub, Int.reduceMul, Int.reduceLE, Int.reduceLT, Int.reduceEq, Int.reduceNe, Int.reduceNeg, Int.reduceDiv, Int.reduceMod, Bool.false_eq_true, Int.le_refl, and_self, true_or, or_true, inR_l, fv0, fv1, fv2, fv3, nc2, nc4, nc6, nc16, nc25, nc60, nc65, nc80, nc130, nc384, nc390, fp_0_0, fp_0_1, fp_0_2, fp_1_0, fp_1_1, fp_1_2, fp_1_3, fp_1_4, fp_1_5, fp_1_6, fp_1_7, fp_1_8, fp_1_9, fp_1_10, fp_1_11, fp_1_12, fp_1_13, fp_1_14, fp_2_0, fp_2_1, fp_2_2, fp_2_3, fp_3_0, fp_3_1, fp_4_0, fp_4_1, fp_4_2, fp_4_3, fp_4_4, fp_4_5, fp_4_6, fp_4_7, fp_5_0, fp_5_1, fp_5_2, fp_5_3, fp_5_4, fp_5_5, fp_5_6, fp_5_7, fp_6_0, fp_6_1, fp_6_2, fp_6_3, fp_6_4, fp_6_5, fp_6_6, fp_6_7, fp_6_8, fp_6_9, fp_6_10, fp_6_11, fp_6_12, fp_6_13, fp_6_14, fp_6_15, fp_7_0, fp_7_1, fp_7_2, fp_7_3, fp_7_4, fp_7_5, fp_7_6, fp_7_7, fp_7_8, fp_7_9, fp_7_10, fp_7_11, fp_7_12, fp_7_13, fp_7_14, fp_7_15, fp_7_16, fp_7_17, fp_7_18, fp_7_19, fp_7_20, fp_7_21, fp_7_22, fp_7_23, fp_7_24, iz_0_1, iz_0_2, iz_1_8, iz_1_9, iz_1_11, iz_2_1, iz_2_2, iz_2_3, iz_3_1, iz_4_1, iz_4_2, iz_5_0, iz_6_8, iz_6_9, iz_6_13, iz_6_14, iz_6_15, iz_7_2, iz_7_6, iz_7_12, iz_7_20, iz_7_21, iz_7_23, iz_7_24, ak_8, ak_9, ak_10, ak_11, ak_12, ak_13, ak_14, ak_15, ak_16, ak_17, ak_18, ak_19, ak_20, ak_21, ak_22, ak_23, ak_24, ak_25, ak_26, ak_27, ak_28, ak_29, ak_30, ak_31, ak_32, ak_33, ak_34, ak_35, ak_36, ak_37, ak_38, ak_39, ak_40, ak_41, ak_42, ak_43, ak_44, ak_45, ak_46, ak_47, ak_48, ak_49, ak_50, ak_51, ak_52, ak_53, ak_54, ak_55, ak_56, el31, el33, el34, CL_law, ca_L_law, frL, kcL, klL, T_L_cell, lawK, T_L_refused, T_L_up, T_X6_jobQ, T_X6_operationS, T_X6_ofJobG, T_L_act2, T_L_plan, T_L_forces, T_L_breaks, T_L_back, exists_eq_right_right, exists_eq_right, exists_eq_left, Nat.lt_irrefl, and_self, implies_true, forall_const]
    refine fun x _ => ⟨_, hg, ⟨cv0_5, rfl, rfl⟩, fun σ1 h1 x _ => ?_⟩
    have r3 := upA_r (v := x) (m := 3) (by omega)
    have r33 := upA_r (v := bshr x 2) (m := 3) (by omega)
    exact ⟨by constructor <;> omega, by constructor <;> omega, by omega, by omega, by omega, _, h1, cv0_5⟩
