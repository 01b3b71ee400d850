def ca_L_plan : Nat → Option (Nat × Nat × Tr)
  | 62 => some (1, 6, T_X6_lengthG)
  | 69 => some (2, 6, T_X6_countG)
  | 59 => some (3, 6, T_X6_orderG)
  | 87 => some (3, 99, T_L_on)
  | 76 => some (3, 6, T_X6_aboutG)
  | 91 => some (2, 99, T_L_end)
  | 33 => some (3, 6, T_X6_ofJobG)
  | 95 => some (2, 99, T_L_rest)
  | 98 => some (2, 6, T_X6_pathG)
  | 101 => some (2, 99, T_L_critical)
  | _ => none
theorem cao_L_plan (l : Launch) : ∀ k n' ci T', ca_L_plan k = some (n', ci, T') → ∃ nn, nn + 1 ≤ 8 ∧ Site l yL_plan.cls k n' ci nn T' := by
  intro k n' ci T' h
  unfold ca_L_plan at h
  split at h
  · cases h; exact ⟨6, by decide, _, _, _, _, k_X6_lengthG l, Or.inl ⟨_, rfl, FX6_length, KRL_62⟩⟩
  · cases h; exact ⟨6, by decide, _, _, _, _, k_X6_countG l, Or.inl ⟨_, rfl, FX6_count, KRL_69⟩⟩
  · cases h; exact ⟨2, by decide, _, _, _, _, k_X6_orderG l, Or.inl ⟨_, rfl, FX6_order, KRL_59⟩⟩
  · cases h; exact ⟨7, by decide, _, _, _, _, k_L_on l, Or.inr ⟨rfl, FL_on, Or.inl ⟨rfl, KRL_87⟩⟩⟩
  · cases h; exact ⟨6, by decide, _, _, _, _, k_X6_aboutG l, Or.inl ⟨_, rfl, FX6_about, KRL_76⟩⟩
  · cases h; exact ⟨7, by decide, _, _, _, _, k_L_end l, Or.inr ⟨rfl, FL_end, Or.inl ⟨rfl, KRL_91⟩⟩⟩
  · cases h; exact ⟨6, by decide, _, _, _, _, k_X6_ofJobG l, Or.inl ⟨_, rfl, FX6_ofJob, KRL_33⟩⟩
  · cases h; exact ⟨7, by decide, _, _, _, _, k_L_rest l, Or.inr ⟨rfl, FL_rest, Or.inl ⟨rfl, KRL_95⟩⟩⟩
  · cases h; exact ⟨6, by decide, _, _, _, _, k_X6_pathG l, Or.inl ⟨_, rfl, FX6_path, KRL_98⟩⟩
  · cases h; exact ⟨7, by decide, _, _, _, _, k_L_critical l, Or.inr ⟨rfl, FL_critical, Or.inl ⟨rfl, KRL_101⟩⟩⟩
  · cases h
def T_L_plan : Tr := fun a σ K => match a with
  | [.inr (.inl (6, 0))] => ∃ g, GS g σ ∧ ∀ σ', GS g σ' → K (some 1) σ'
  | _ => False
set_option maxHeartbeats 8000000 in
set_option maxRecDepth 20000 in
theorem k_L_plan (l : Launch) : Ct l yL_plan cL_plan 17 (some .boolean) 8 T_L_plan := by
  refine mk_met (by decide +kernel) hCL_plan lCL_plan frL_ok cstL_ok (cao_L_plan l) ?_ ?_
  · intro a σ K h
    unfold T_L_plan at h
    split at h
    · simp [eL]
    · exact h.elim
  · intro a σ K ha hR h
    unfold T_L_plan at h
    split at h
    · obtain ⟨g, hg, hk⟩ := h
      have hw := GS_w hg
      have J4 := hw.1.1
      refine ⟨fun pc => if pc = 35 then some (fun L S σ' kz => match L, S with | [some (.inr (.inl c1)), some (.inl L), some (.inl l), some (.inl w), some (.inl u), some (.inl m), _, _, _, _, _, _, _, _, _, _, _], [] => (c1 = (6, 0) ∧ L = lenA g.1 ∧ w = 0 ∧ u = 0 ∧ GS g σ' ∧ (0 ≤ m ∧ m ≤ 4) ∧ LON g.1 m 0 l) ∧ kz = (5 - m).toNat * 1000 + 900 | _, _ => False) else if pc = 44 then some (fun L S σ' kz => match L, S with | [some (.inr (.inl c1)), some (.inl L), some (.inl l), some (.inl w), some (.inl u), some (.inl m), some (.inl p), _, _, _, _, _, _, _, _, _, _], [] => (c1 = (6, 0) ∧ L = lenA g.1 ∧ w = 0 ∧ u = 0 ∧ GS g σ' ∧ (0 ≤ m ∧ m < 4) ∧ (0 ≤ p ∧ p ≤ 4) ∧ LON g.1 m p l) ∧ kz = (5 - m).toNat * 1000 + (5 - p).toNat * 100 + 90 | _, _ => False) else if pc = 80 then some (fun L S σ' kz => match L, S with | [some (.inr (.inl c1)), some (.inl L), some (.inl l), some (.inl w), some (.inl u), some (.inl m), some (.inl p), some (.inl j), some (.inl o), _, _, _, _, _, _, _, _], [] => (c1 = (6, 0) ∧ L = lenA g.1 ∧ w = 0 ∧ u = 0 ∧ GS g σ' ∧ (0 ≤ m ∧ m < 4) ∧ (0 ≤ p ∧ p < g.1 13 m ∧ p < 4) ∧ LON g.1 m p l ∧ j = g.1 14 (4 * m + p) ∧ o = oq (g.1 10) (g.1 11) (g.1 14) m p ∧ True) ∧ kz = (5 - m).toNat * 1000 + (5 - p).toNat * 100 + 80 | _, _ => False) else if pc = 117 then some (fun L S σ' kz => match L, S with | [some (.inr (.inl c1)), some (.inl L), some (.inl l), some (.inl w), some (.inl u), some (.inl m), some (.inl p), some (.inl j), some (.inl o), _, _, _, _, _, _, _, _], [] => (c1 = (6, 0) ∧ L = lenA g.1 ∧ w = 0 ∧ u = 0 ∧ GS g σ' ∧ (0 ≤ m ∧ m < 4) ∧ (0 ≤ p ∧ p < g.1 13 m ∧ p < 4) ∧ LON g.1 m p l ∧ j = g.1 14 (4 * m + p) ∧ o = oq (g.1 10) (g.1 11) (g.1 14) m p ∧ True) ∧ kz = (5 - m).toNat * 1000 + (5 - p).toNat * 100 + 70 | _, _ => False) else if pc = 151 then some (fun L S σ' kz => match L, S with | [some (.inr (.inl c1)), some (.inl L), some (.inl l), some (.inl w), some (.inl u), some (.inl m), some (.inl p), some (.inl j), some (.inl o), some (.inl b), _, _, _, _, _, _, _], [] => (c1 = (6, 0) ∧ L = lenA g.1 ∧ w = 0 ∧ u = 0 ∧ GS g σ' ∧ (0 ≤ m ∧ m < 4) ∧ (0 ≤ p ∧ p < g.1 13 m ∧ p < 4) ∧ LON g.1 m p l ∧ j = g.1 14 (4 * m + p) ∧ o = oq (g.1 10) (g.1 11) (g.1 14) m p ∧ pos g.1 ∧ b = befA g.1 m p) ∧ kz = (5 - m).toNat * 1000 + (5 - p).toNat * 100 + 60 | _, _ => False) else if pc = 186 then some (fun L S σ' kz => match L, S with | [some (.inr (.inl c1)), some (.inl L), some (.inl l), some (.inl w), some (.inl u), some (.inl m), some (.inl p), some (.inl j), some (.inl o), some (.inl b), some (.inl e), _, _, _, _, _, _], [] => (c1 = (6, 0) ∧ L = lenA g.1 ∧ w = 0 ∧ u = 0 ∧ GS g σ' ∧ (0 ≤ m ∧ m < 4) ∧ (0 ≤ p ∧ p < g.1 13 m ∧ p < 4) ∧ LON g.1 m p l ∧ j = g.1 14 (4 * m + p) ∧ o = oq (g.1 10) (g.1 11) (g.1 14) m p ∧ pos g.1 ∧ b = befA g.1 m p ∧ e = behA g.1 m p) ∧ kz = (5 - m).toNat * 1000 + (5 - p).toNat * 100 + 50 | _, _ => False) else if pc = 207 then some (fun L S σ' kz => match L, S with | [some (.inr (.inl c1)), some (.inl L), some (.inl l), some (.inl w), some (.inl u), some (.inl m), some (.inl p), some (.inl j), some (.inl o), some (.inl b), some (.inl e), some (.inl a), _, _, _, _, _], [] => (c1 = (6, 0) ∧ L = lenA g.1 ∧ w = 0 ∧ u = 0 ∧ GS g σ' ∧ (0 ≤ m ∧ m < 4) ∧ (0 ≤ p ∧ p < g.1 13 m ∧ p < 4) ∧ LON g.1 m p l ∧ j = g.1 14 (4 * m + p) ∧ o = oq (g.1 10) (g.1 11) (g.1 14) m p ∧ pos g.1 ∧ b = befA g.1 m p ∧ e = behA g.1 m p ∧ a = (if o % 4 = 0 then 0 else endA g.1 (o - 1))) ∧ kz = (5 - m).toNat * 1000 + (5 - p).toNat * 100 + 45 | _, _ => False) else if pc = 231 then some (fun L S σ' kz => match L, S with | [some (.inr (.inl c1)), some (.inl L), some (.inl l), some (.inl w), some (.inl u), some (.inl m), some (.inl p), some (.inl j), some (.inl o), some (.inl b), some (.inl e), some (.inl y11), some (.inl y12), some (.inl h), _, _, _], [] => (c1 = (6, 0) ∧ L = lenA g.1 ∧ w = 0 ∧ u = 0 ∧ GS g σ' ∧ (0 ≤ m ∧ m < 4) ∧ (0 ≤ p ∧ p < g.1 13 m ∧ p < 4) ∧ LON g.1 m p l ∧ j = g.1 14 (4 * m + p) ∧ o = oq (g.1 10) (g.1 11) (g.1 14) m p ∧ pos g.1 ∧ e = behA g.1 m p ∧ ((o % 4 ≠ 0 ∧ h = endA g.1 (o - 1) ∧ endA g.1 (befA g.1 m p) ≤ h) ∨ (h = endA g.1 (befA g.1 m p) ∧ (o % 4 ≠ 0 → endA g.1 (o - 1) ≤ h)))) ∧ kz = (5 - m).toNat * 1000 + (5 - p).toNat * 100 + 40 | _, _ => False) else if pc = 257 then some (fun L S σ' kz => match L, S with | [some (.inr (.inl c1)), some (.inl L), some (.inl l), some (.inl w), some (.inl u), some (.inl m), some (.inl p), some (.inl j), some (.inl o), some (.inl b), some (.inl e), some (.inl y11), some (.inl y12), some (.inl h), _, _, _], [] => (c1 = (6, 0) ∧ L = lenA g.1 ∧ w = 0 ∧ u = 0 ∧ GS g σ' ∧ (0 ≤ m ∧ m < 4) ∧ (0 ≤ p ∧ p < g.1 13 m ∧ p < 4) ∧ LON g.1 m p l ∧ j = g.1 14 (4 * m + p) ∧ o = oq (g.1 10) (g.1 11) (g.1 14) m p ∧ pos g.1 ∧ e = behA g.1 m p ∧ h = hV g.1 o) ∧ kz = (5 - m).toNat * 1000 + (5 - p).toNat * 100 + 30 | _, _ => False) else if pc = 279 then some (fun L S σ' kz => match L, S with | [some (.inr (.inl c1)), some (.inl L), some (.inl l), some (.inl w), some (.inl u), some (.inl m), some (.inl p), some (.inl j), some (.inl o), some (.inl b), some (.inl e), _, _, some (.inl h), some (.inl c), _, _], [] => (c1 = (6, 0) ∧ L = lenA g.1 ∧ w = 0 ∧ u = 0 ∧ GS g σ' ∧ (0 ≤ m ∧ m < 4) ∧ (0 ≤ p ∧ p < g.1 13 m ∧ p < 4) ∧ LON g.1 m p l ∧ j = g.1 14 (4 * m + p) ∧ o = oq (g.1 10) (g.1 11) (g.1 14) m p ∧ pos g.1 ∧ e = behA g.1 m p ∧ h = hV g.1 o ∧ c = (if o % 4 = 3 then 0 else rstA g.1 (o + 1))) ∧ kz = (5 - m).toNat * 1000 + (5 - p).toNat * 100 + 20 | _, _ => False) else if pc = 370 then some (fun L S σ' kz => match L, S with | [some (.inr (.inl c1)), some (.inl L), some (.inl l), some (.inl w), some (.inl u), some (.inl m), some (.inl p), some (.inl j), some (.inl o), _, _, _, _, _, _, _, some (.inl t)], [] => (c1 = (6, 0) ∧ L = lenA g.1 ∧ w = 0 ∧ u = 0 ∧ GS g σ' ∧ (0 ≤ m ∧ m < 4) ∧ (0 ≤ p ∧ p < g.1 13 m ∧ p < 4) ∧ LON g.1 m p l ∧ j = g.1 14 (4 * m + p) ∧ o = oq (g.1 10) (g.1 11) (g.1 14) m p ∧ pos g.1 ∧ t = thr g.1 o) ∧ kz = (5 - m).toNat * 1000 + (5 - p).toNat * 100 + 10 | _, _ => False) else if pc = 428 then some (fun L S σ' kz => match L, S with | [some (.inr (.inl c1)), some (.inl L), some (.inl l), some (.inl w), some (.inl u), some (.inl j), _, _, _, _, _, _, _, _, _, _, _], [] => (c1 = (6, 0) ∧ L = LV g.1 ∧ l = LV g.1 ∧ w = sm (ltA g.1) j.toNat ∧ u = mxS (ltA g.1) j.toNat ∧ (0 ≤ w ∧ w ≤ 500 * j) ∧ GS g σ' ∧ pos g.1 ∧ (0 ≤ j ∧ j ≤ g.1 5 0)) ∧ kz = (5 - j).toNat * 10 + 9 | _, _ => False) else if pc = 477 then some (fun L S σ' kz => match L, S with | [some (.inr (.inl c1)), some (.inl L), some (.inl l), some (.inl w), some (.inl u), some (.inl j), _, some (.inl e), _, _, _, _, _, _, _, _, _], [] => (c1 = (6, 0) ∧ L = LV g.1 ∧ l = LV g.1 ∧ w = sm (ltA g.1) j.toNat ∧ u = mxS (ltA g.1) j.toNat ∧ (0 ≤ w ∧ w ≤ 500 * j) ∧ GS g σ' ∧ pos g.1 ∧ (0 ≤ j ∧ j < g.1 5 0) ∧ e = ejA g.1 j) ∧ kz = (5 - j).toNat * 10 + 8 | _, _ => False) else if pc = 505 then some (fun L S σ' kz => match L, S with | [some (.inr (.inl c1)), some (.inl L), some (.inl l), some (.inl w), some (.inl u), some (.inl j), _, some (.inl e), some (.inl s), _, _, _, _, _, _, _, _], [] => (c1 = (6, 0) ∧ L = LV g.1 ∧ l = LV g.1 ∧ w = sm (ltA g.1) j.toNat ∧ u = mxS (ltA g.1) j.toNat ∧ (0 ≤ w ∧ w ≤ 500 * j) ∧ GS g σ' ∧ pos g.1 ∧ (0 ≤ j ∧ j < g.1 5 0) ∧ e = ejA g.1 j ∧ s = ltA g.1 j) ∧ kz = (5 - j).toNat * 10 + 7 | _, _ => False) else none, 300, ?_, ?_⟩
      · intro pc I L S σ' kz hcut hi
        dsimp only at hcut
        by_cases hpc0 : pc = 35
        · rw [if_pos hpc0] at hcut
          subst hpc0
          cases hcut
          try dsimp only at hi
          split at hi
          · rename_i c1 L l w u m y6 y7 y8 y9 y10 y11 y12 y13 y14 y15 y16
            obtain ⟨hi, rfl⟩ := hi
            obtain ⟨rfl, hL, rfl, rfl, hg', hm, hl⟩ := hi
            simp only [wp, stp, drp, entL, eL, lget, lset, okst, cnd, swt, rcv, Kr_int, Kr_bool, Kr_void, List.length_cons, List.length_nil, List.replicate, List.append_nil, List.cons_append, List.nil_append, List.take_succ_cons, List.take_zero, List.drop_succ_cons, List.drop_zero, List.reverse_cons, List.reverse_nil, Option.map_some, Option.map_none, Option.toList_some, Option.toList_none, Nat.reduceAdd, Nat.reduceSub, Nat.reduceLT, Nat.reduceLeDiff, Nat.reduceEqDiff, ↓reduceIte, Nat.add_zero, Nat.zero_add, true_and, and_true, Nat.le_refl, reduceCtorEq, false_implies, true_implies, not_true_eq_false, not_false_eq_true, Int.reduceAdd, Int.reduceSub, Int.reduceMul, Int.reduceLE, Int.reduceLT, Int.reduceEq, Int.reduceNe, Int.reduceNeg, Int.reduceDiv, Int.reduceMod, Bool.false_eq_true, Int.le_refl, and_self, true_or, or_true, inR_l, fv0, fv1, fv2, fv3, nc2, nc4, nc6, nc16, nc25, nc60, nc65, nc80, nc130, nc384, nc390, fp_0_0, fp_0_1, fp_0_2, fp_1_0, fp_1_1, fp_1_2, fp_1_3, fp_1_4, fp_1_5, fp_1_6, fp_1_7, fp_1_8, fp_1_9, fp_1_10, fp_1_11, fp_1_12, fp_1_13, fp_1_14, fp_2_0, fp_2_1, fp_2_2, fp_2_3, fp_3_0, fp_3_1, fp_4_0, fp_4_1, fp_4_2, fp_4_3, fp_4_4, fp_4_5, fp_4_6, fp_4_7, fp_5_0, fp_5_1, fp_5_2, fp_5_3, fp_5_4, fp_5_5, fp_5_6, fp_5_7, fp_6_0, fp_6_1, fp_6_2, fp_6_3, fp_6_4, fp_6_5, fp_6_6, fp_6_7, fp_6_8, fp_6_9, fp_6_10, fp_6_11, fp_6_12, fp_6_13, fp_6_14, fp_6_15, fp_7_0, fp_7_1, fp_7_2, fp_7_3, fp_7_4, fp_7_5, fp_7_6, fp_7_7, fp_7_8, fp_7_9, fp_7_10, fp_7_11, fp_7_12, fp_7_13, fp_7_14, fp_7_15, fp_7_16, fp_7_17, fp_7_18, fp_7_19, fp_7_20, fp_7_21, fp_7_22, fp_7_23, fp_7_24, iz_0_1, iz_0_2, iz_1_8, iz_1_9, iz_1_11, iz_2_1, iz_2_2, iz_2_3, iz_3_1, iz_4_1, iz_4_2, iz_5_0, iz_6_8, iz_6_9, iz_6_13, iz_6_14, iz_6_15, iz_7_2, iz_7_6, iz_7_12, iz_7_20, iz_7_21, iz_7_23, iz_7_24, ak_8, ak_9, ak_10, ak_11, ak_12, ak_13, ak_14, ak_15, ak_16, ak_17, ak_18, ak_19, ak_20, ak_21, ak_22, ak_23, ak_24, ak_25, ak_26, ak_27, ak_28, ak_29, ak_30, ak_31, ak_32, ak_33, ak_34, ak_35, ak_36, ak_37, ak_38, ak_39, ak_40, ak_41, ak_42, ak_43, ak_44, ak_45, ak_46, ak_47, ak_48, ak_49, ak_50, ak_51, ak_52, ak_53, ak_54, ak_55, ak_56, el31, el33, el34, CL_plan, ca_L_plan, frL, kcL, klL, T_X6_lengthG, T_X6_countG, T_X6_orderG, T_L_on, T_X6_aboutG, T_L_end, T_X6_ofJobG, T_L_rest, T_X6_pathG, T_L_critical, exists_eq_right_right, exists_eq_right, exists_eq_left, Nat.lt_irrefl, and_self, implies_true, forall_const]
            refine ⟨fun a => ?_, fun a => ⟨by omega, hL, hg', by omega, hl⟩⟩
            rcases lenA_s hw with ⟨hp, e, b, d⟩ | ⟨np, e⟩
            · have el := LON_e hw hp a hl
              exact ⟨fun _ => ⟨by omega, by omega, el, rfl, rfl, hg', hp, by omega⟩, fun q => by omega⟩
            · exact ⟨fun q => by omega, fun _ => ⟨g, hg', fun σ1 h1 => ⟨fun q => absurd (ct_np np (by omega) (by omega)) q, fun _ => ⟨g, h1, fun σ2 h2 => ⟨fun q => absurd (cif_0 (fun z => np z.1)) q, fun _ => hk _ h2⟩⟩⟩⟩⟩
          · exact hi.elim
        rw [if_neg hpc0] at hcut
        by_cases hpc1 : pc = 44
        · rw [if_pos hpc1] at hcut
          subst hpc1
          cases hcut
          try dsimp only at hi
          split at hi
          · rename_i c1 L l w u m p y7 y8 y9 y10 y11 y12 y13 y14 y15 y16
            obtain ⟨hi, rfl⟩ := hi
            obtain ⟨rfl, hL, rfl, rfl, hg', hm, hp0, hl⟩ := hi
            simp only [wp, stp, drp, entL, eL, lget, lset, okst, cnd, swt, rcv, Kr_int, Kr_bool, Kr_void, List.length_cons, List.length_nil, List.replicate, List.append_nil, List.cons_append, List.nil_append, List.take_succ_cons, List.take_zero, List.drop_succ_cons, List.drop_zero, List.reverse_cons, List.reverse_nil, Option.map_some, Option.map_none, Option.toList_some, Option.toList_none, Nat.reduceAdd, Nat.reduceSub, Nat.reduceLT, Nat.reduceLeDiff, Nat.reduceEqDiff, ↓reduceIte, Nat.add_zero, Nat.zero_add, true_and, and_true, Nat.le_refl, reduceCtorEq, false_implies, true_implies, not_true_eq_false, not_false_eq_true, Int.reduceAdd, Int.reduceSub, Int.reduceMul, Int.reduceLE, Int.reduceLT, Int.reduceEq, Int.reduceNe, Int.reduceNeg, Int.reduceDiv, Int.reduceMod, Bool.false_eq_true, Int.le_refl, and_self, true_or, or_true, inR_l, fv0, fv1, fv2, fv3, nc2, nc4, nc6, nc16, nc25, nc60, nc65, nc80, nc130, nc384, nc390, fp_0_0, fp_0_1, fp_0_2, fp_1_0, fp_1_1, fp_1_2, fp_1_3, fp_1_4, fp_1_5, fp_1_6, fp_1_7, fp_1_8, fp_1_9, fp_1_10, fp_1_11, fp_1_12, fp_1_13, fp_1_14, fp_2_0, fp_2_1, fp_2_2, fp_2_3, fp_3_0, fp_3_1, fp_4_0, fp_4_1, fp_4_2, fp_4_3, fp_4_4, fp_4_5, fp_4_6, fp_4_7, fp_5_0, fp_5_1, fp_5_2, fp_5_3, fp_5_4, fp_5_5, fp_5_6, fp_5_7, fp_6_0, fp_6_1, fp_6_2, fp_6_3, fp_6_4, fp_6_5, fp_6_6, fp_6_7, fp_6_8, fp_6_9, fp_6_10, fp_6_11, fp_6_12, fp_6_13, fp_6_14, fp_6_15, fp_7_0, fp_7_1, fp_7_2, fp_7_3, fp_7_4, fp_7_5, fp_7_6, fp_7_7, fp_7_8, fp_7_9, fp_7_10, fp_7_11, fp_7_12, fp_7_13, fp_7_14, fp_7_15, fp_7_16, fp_7_17, fp_7_18, fp_7_19, fp_7_20, fp_7_21, fp_7_22, fp_7_23, fp_7_24, iz_0_1, iz_0_2, iz_1_8, iz_1_9, iz_1_11, iz_2_1, iz_2_2, iz_2_3, iz_3_1, iz_4_1, iz_4_2, iz_5_0, iz_6_8, iz_6_9, iz_6_13, iz_6_14, iz_6_15, iz_7_2, iz_7_6, iz_7_12, iz_7_20, iz_7_21, iz_7_23, iz_7_24, ak_8, ak_9, ak_10, ak_11, ak_12, ak_13, ak_14, ak_15, ak_16, ak_17, ak_18, ak_19, ak_20, ak_21, ak_22, ak_23, ak_24, ak_25, ak_26, ak_27, ak_28, ak_29, ak_30, ak_31, ak_32, ak_33, ak_34, ak_35, ak_36, ak_37, ak_38, ak_39, ak_40, ak_41, ak_42, ak_43, ak_44, ak_45, ak_46, ak_47, ak_48, ak_49, ak_50, ak_51, ak_52, ak_53, ak_54, ak_55, ak_56, el31, el33, el34, CL_plan, ca_L_plan, frL, kcL, klL, T_X6_lengthG, T_X6_countG, T_X6_orderG, T_L_on, T_X6_aboutG, T_L_end, T_X6_ofJobG, T_L_rest, T_X6_pathG, T_L_critical, exists_eq_right_right, exists_eq_right, exists_eq_left, Nat.lt_irrefl, and_self, implies_true, forall_const]
            refine ⟨fun a => ⟨by constructor <;> omega, by omega, hL, hg', by omega, LON_r hw a hm.1 hm.2 hl⟩, fun a => ⟨g, hg', fun σ1 h1 => ?_⟩⟩
            by_cases c : p < g.1 13 m
            · have e : ordA g.1 m p = g.1 14 (4 * m + p) := (if_neg (by omega)).trans (if_pos ⟨hp0.1, c⟩)
              have j := oq_j hw hm.1 hm.2 hp0.1 c
              have l4 := ln_w hw hm.1 hm.2
              rw [e]
              exact ⟨fun _ => ⟨g, h1, j, fun r σ2 h2 hr => ⟨by omega, hL, h2, hm, by omega, hl, rfl, oq_on hw hm.1 hm.2 hp0.1 c hr⟩⟩, fun q => by omega⟩
            · have e : ordA g.1 m p = -6 := (if_neg (by omega)).trans (if_neg (fun q => c q.2))
              exact ⟨fun q => absurd e q, fun _ => ⟨by constructor <;> omega, by omega, hL, h1, hm, by omega, LON_n hw c hl⟩⟩
          · exact hi.elim
        rw [if_neg hpc1] at hcut
        by_cases hpc2 : pc = 80
        · rw [if_pos hpc2] at hcut
          subst hpc2
          cases hcut
          try dsimp only at hi
          split at hi
          · rename_i c1 L l w u m p j o y9 y10 y11 y12 y13 y14 y15 y16
            obtain ⟨hi, rfl⟩ := hi
            obtain ⟨rfl, hL, rfl, rfl, hg', hm, hp0, hl, hj, ho, -⟩ := hi
            simp only [wp, stp, drp, entL, eL, lget, lset, okst, cnd, swt, rcv, Kr_int, Kr_bool, Kr_void, List.length_cons, List.length_nil, List.replicate, List.append_nil, List.cons_append, List.nil_append, List.take_succ_cons, List.take_zero, List.drop_succ_cons, List.drop_zero, List.reverse_cons, List.reverse_nil, Option.map_some, Option.map_none, Option.toList_some, Option.toList_none, Nat.reduceAdd, Nat.reduceSub, Nat.reduceLT, Nat.reduceLeDiff, Nat.reduceEqDiff, ↓reduceIte, Nat.add_zero, Nat.zero_add, true_and, and_true, Nat.le_refl, reduceCtorEq, false_implies, true_implies, not_true_eq_false, not_false_eq_true, Int.reduceAdd, Int.reduceSub, Int.reduceMul, Int.reduceLE, Int.reduceLT, Int.reduceEq, Int.reduceNe, Int.reduceNeg, Int.reduceDiv, Int.reduceMod, Bool.false_eq_true, Int.le_refl, and_self, true_or, or_true, inR_l, fv0, fv1, fv2, fv3, nc2, nc4, nc6, nc16, nc25, nc60, nc65, nc80, nc130, nc384, nc390, fp_0_0, fp_0_1, fp_0_2, fp_1_0, fp_1_1, fp_1_2, fp_1_3, fp_1_4, fp_1_5, fp_1_6, fp_1_7, fp_1_8, fp_1_9, fp_1_10, fp_1_11, fp_1_12, fp_1_13, fp_1_14, fp_2_0, fp_2_1, fp_2_2, fp_2_3, fp_3_0, fp_3_1, fp_4_0, fp_4_1, fp_4_2, fp_4_3, fp_4_4, fp_4_5, fp_4_6, fp_4_7, fp_5_0, fp_5_1, fp_5_2, fp_5_3, fp_5_4, fp_5_5, fp_5_6, fp_5_7, fp_6_0, fp_6_1, fp_6_2, fp_6_3, fp_6_4, fp_6_5, fp_6_6, fp_6_7, fp_6_8, fp_6_9, fp_6_10, fp_6_11, fp_6_12, fp_6_13, fp_6_14, fp_6_15, fp_7_0, fp_7_1, fp_7_2, fp_7_3, fp_7_4, fp_7_5, fp_7_6, fp_7_7, fp_7_8, fp_7_9, fp_7_10, fp_7_11, fp_7_12, fp_7_13, fp_7_14, fp_7_15, fp_7_16, fp_7_17, fp_7_18, fp_7_19, fp_7_20, fp_7_21, fp_7_22, fp_7_23, fp_7_24, iz_0_1, iz_0_2, iz_1_8, iz_1_9, iz_1_11, iz_2_1, iz_2_2, iz_2_3, iz_3_1, iz_4_1, iz_4_2, iz_5_0, iz_6_8, iz_6_9, iz_6_13, iz_6_14, iz_6_15, iz_7_2, iz_7_6, iz_7_12, iz_7_20, iz_7_21, iz_7_23, iz_7_24, ak_8, ak_9, ak_10, ak_11, ak_12, ak_13, ak_14, ak_15, ak_16, ak_17, ak_18, ak_19, ak_20, ak_21, ak_22, ak_23, ak_24, ak_25, ak_26, ak_27, ak_28, ak_29, ak_30, ak_31, ak_32, ak_33, ak_34, ak_35, ak_36, ak_37, ak_38, ak_39, ak_40, ak_41, ak_42, ak_43, ak_44, ak_45, ak_46, ak_47, ak_48, ak_49, ak_50, ak_51, ak_52, ak_53, ak_54, ak_55, ak_56, el31, el33, el34, CL_plan, ca_L_plan, frL, kcL, klL, T_X6_lengthG, T_X6_countG, T_X6_orderG, T_L_on, T_X6_aboutG, T_L_end, T_X6_ofJobG, T_L_rest, T_X6_pathG, T_L_critical, exists_eq_right_right, exists_eq_right, exists_eq_left, Nat.lt_irrefl, and_self, implies_true, forall_const]
            have hq := oq_v hw.1 hm.1 hm.2 hp0.1 hp0.2.1
            have pk := plo_oq hw.1 hm.1 hm.2 hp0.1 hp0.2.1
            rw [← ho] at hq pk
            have o0 := hq.1.1
            have o1 := hq.1.2.1
            have e2 : abA g.1 o 2 = p := (ab2 hq.1).trans pk
            refine ⟨fun q => by omega, fun _ => ⟨g, hg', fun σ1 h1 => ⟨fun q => absurd e2 q, fun _ => ⟨fun _ => ⟨by omega, hL, h1, hm, hp0, hl, hj, ho⟩, fun z => ⟨by constructor <;> omega, g, h1, fun σ2 h2 => ⟨fun _ => ⟨by omega, hL, h2, hm, hp0, hl, hj, ho⟩, fun q => absurd ?_ q⟩⟩⟩⟩⟩⟩
            have e : ordA g.1 m (p - 1) = g.1 14 (4 * m + (p - 1)) := (if_neg (by omega)).trans (if_pos ⟨by omega, by omega⟩)
            rw [e]
            exact (oq_j hw hm.1 hm.2 (by omega) (by omega)).1
          · exact hi.elim
        rw [if_neg hpc2] at hcut
        by_cases hpc3 : pc = 117
        · rw [if_pos hpc3] at hcut
          subst hpc3
          cases hcut
          try dsimp only at hi
          split at hi
          · rename_i c1 L l w u m p j o y9 y10 y11 y12 y13 y14 y15 y16
            obtain ⟨hi, rfl⟩ := hi
            obtain ⟨rfl, hL, rfl, rfl, hg', hm, hp0, hl, hj, ho, -⟩ := hi
            simp only [wp, stp, drp, entL, eL, lget, lset, okst, cnd, swt, rcv, Kr_int, Kr_bool, Kr_void, List.length_cons, List.length_nil, List.replicate, List.append_nil, List.cons_append, List.nil_append, List.take_succ_cons, List.take_zero, List.drop_succ_cons, List.drop_zero, List.reverse_cons, List.reverse_nil, Option.map_some, Option.map_none, Option.toList_some, Option.toList_none, Nat.reduceAdd, Nat.reduceSub, Nat.reduceLT, Nat.reduceLeDiff, Nat.reduceEqDiff, ↓reduceIte, Nat.add_zero, Nat.zero_add, true_and, and_true, Nat.le_refl, reduceCtorEq, false_implies, true_implies, not_true_eq_false, not_false_eq_true, Int.reduceAdd, Int.reduceSub, Int.reduceMul, Int.reduceLE, Int.reduceLT, Int.reduceEq, Int.reduceNe, Int.reduceNeg, Int.reduceDiv, Int.reduceMod, Bool.false_eq_true, Int.le_refl, and_self, true_or, or_true, inR_l, fv0, fv1, fv2, fv3, nc2, nc4, nc6, nc16, nc25, nc60, nc65, nc80, nc130, nc384, nc390, fp_0_0, fp_0_1, fp_0_2, fp_1_0, fp_1_1, fp_1_2, fp_1_3, fp_1_4, fp_1_5, fp_1_6, fp_1_7, fp_1_8, fp_1_9, fp_1_10, fp_1_11, fp_1_12, fp_1_13, fp_1_14, fp_2_0, fp_2_1, fp_2_2, fp_2_3, fp_3_0, fp_3_1, fp_4_0, fp_4_1, fp_4_2, fp_4_3, fp_4_4, fp_4_5, fp_4_6, fp_4_7, fp_5_0, fp_5_1, fp_5_2, fp_5_3, fp_5_4, fp_5_5, fp_5_6, fp_5_7, fp_6_0, fp_6_1, fp_6_2, fp_6_3, fp_6_4, fp_6_5, fp_6_6, fp_6_7, fp_6_8, fp_6_9, fp_6_10, fp_6_11, fp_6_12, fp_6_13, fp_6_14, fp_6_15, fp_7_0, fp_7_1, fp_7_2, fp_7_3, fp_7_4, fp_7_5, fp_7_6, fp_7_7, fp_7_8, fp_7_9, fp_7_10, fp_7_11, fp_7_12, fp_7_13, fp_7_14, fp_7_15, fp_7_16, fp_7_17, fp_7_18, fp_7_19, fp_7_20, fp_7_21, fp_7_22, fp_7_23, fp_7_24, iz_0_1, iz_0_2, iz_1_8, iz_1_9, iz_1_11, iz_2_1, iz_2_2, iz_2_3, iz_3_1, iz_4_1, iz_4_2, iz_5_0, iz_6_8, iz_6_9, iz_6_13, iz_6_14, iz_6_15, iz_7_2, iz_7_6, iz_7_12, iz_7_20, iz_7_21, iz_7_23, iz_7_24, ak_8, ak_9, ak_10, ak_11, ak_12, ak_13, ak_14, ak_15, ak_16, ak_17, ak_18, ak_19, ak_20, ak_21, ak_22, ak_23, ak_24, ak_25, ak_26, ak_27, ak_28, ak_29, ak_30, ak_31, ak_32, ak_33, ak_34, ak_35, ak_36, ak_37, ak_38, ak_39, ak_40, ak_41, ak_42, ak_43, ak_44, ak_45, ak_46, ak_47, ak_48, ak_49, ak_50, ak_51, ak_52, ak_53, ak_54, ak_55, ak_56, el31, el33, el34, CL_plan, ca_L_plan, frL, kcL, klL, T_X6_lengthG, T_X6_countG, T_X6_orderG, T_L_on, T_X6_aboutG, T_L_end, T_X6_ofJobG, T_L_rest, T_X6_pathG, T_L_critical, exists_eq_right_right, exists_eq_right, exists_eq_left, Nat.lt_irrefl, and_self, implies_true, forall_const]
            rcases lenA_s hw with ⟨hp, e, b, d⟩ | ⟨np, e⟩
            · refine ⟨fun _ => ⟨fun z => ⟨by constructor <;> omega, g, hg', fun σ1 h1 => ?_⟩, fun z => ⟨by omega, hL, hg', hm, hp0, hl, hj, ho, hp, (if_pos (by omega)).symm⟩⟩, fun q => by omega⟩
              have e : ordA g.1 m (p - 1) = g.1 14 (4 * m + (p - 1)) := (if_neg (by omega)).trans (if_pos ⟨by omega, by omega⟩)
              rw [e]
              exact ⟨g, h1, oq_j hw hm.1 hm.2 (by omega) (by omega), fun r σ2 h2 hr => ⟨by omega, hL, h2, hm, hp0, hl, hj, ho, hp, (oq_on hw hm.1 hm.2 (by omega) (by omega) hr).trans (if_neg z).symm⟩⟩
            · exact ⟨fun q => by omega, fun _ => ⟨by constructor <;> omega, by omega, hL, hg', hm, by omega, LON_np np hl⟩⟩
          · exact hi.elim
        rw [if_neg hpc3] at hcut
        by_cases hpc4 : pc = 151
        · rw [if_pos hpc4] at hcut
          subst hpc4
          cases hcut
          try dsimp only at hi
          split at hi
          · rename_i c1 L l w u m p j o b y10 y11 y12 y13 y14 y15 y16
            obtain ⟨hi, rfl⟩ := hi
            obtain ⟨rfl, hL, rfl, rfl, hg', hm, hp0, hl, hj, ho, hp, hb⟩ := hi
            simp only [wp, stp, drp, entL, eL, lget, lset, okst, cnd, swt, rcv, Kr_int, Kr_bool, Kr_void, List.length_cons, List.length_nil, List.replicate, List.append_nil, List.cons_append, List.nil_append, List.take_succ_cons, List.take_zero, List.drop_succ_cons, List.drop_zero, List.reverse_cons, List.reverse_nil, Option.map_some, Option.map_none, Option.toList_some, Option.toList_none, Nat.reduceAdd, Nat.reduceSub, Nat.reduceLT, Nat.reduceLeDiff, Nat.reduceEqDiff, ↓reduceIte, Nat.add_zero, Nat.zero_add, true_and, and_true, Nat.le_refl, reduceCtorEq, false_implies, true_implies, not_true_eq_false, not_false_eq_true, Int.reduceAdd, Int.reduceSub, Int.reduceMul, Int.reduceLE, Int.reduceLT, Int.reduceEq, Int.reduceNe, Int.reduceNeg, Int.reduceDiv, Int.reduceMod, Bool.false_eq_true, Int.le_refl, and_self, true_or, or_true, inR_l, fv0, fv1, fv2, fv3, nc2, nc4, nc6, nc16, nc25, nc60, nc65, nc80, nc130, nc384, nc390, fp_0_0, fp_0_1, fp_0_2, fp_1_0, fp_1_1, fp_1_2, fp_1_3, fp_1_4, fp_1_5, fp_1_6, fp_1_7, fp_1_8, fp_1_9, fp_1_10, fp_1_11, fp_1_12, fp_1_13, fp_1_14, fp_2_0, fp_2_1, fp_2_2, fp_2_3, fp_3_0, fp_3_1, fp_4_0, fp_4_1, fp_4_2, fp_4_3, fp_4_4, fp_4_5, fp_4_6, fp_4_7, fp_5_0, fp_5_1, fp_5_2, fp_5_3, fp_5_4, fp_5_5, fp_5_6, fp_5_7, fp_6_0, fp_6_1, fp_6_2, fp_6_3, fp_6_4, fp_6_5, fp_6_6, fp_6_7, fp_6_8, fp_6_9, fp_6_10, fp_6_11, fp_6_12, fp_6_13, fp_6_14, fp_6_15, fp_7_0, fp_7_1, fp_7_2, fp_7_3, fp_7_4, fp_7_5, fp_7_6, fp_7_7, fp_7_8, fp_7_9, fp_7_10, fp_7_11, fp_7_12, fp_7_13, fp_7_14, fp_7_15, fp_7_16, fp_7_17, fp_7_18, fp_7_19, fp_7_20, fp_7_21, fp_7_22, fp_7_23, fp_7_24, iz_0_1, iz_0_2, iz_1_8, iz_1_9, iz_1_11, iz_2_1, iz_2_2, iz_2_3, iz_3_1, iz_4_1, iz_4_2, iz_5_0, iz_6_8, iz_6_9, iz_6_13, iz_6_14, iz_6_15, iz_7_2, iz_7_6, iz_7_12, iz_7_20, iz_7_21, iz_7_23, iz_7_24, ak_8, ak_9, ak_10, ak_11, ak_12, ak_13, ak_14, ak_15, ak_16, ak_17, ak_18, ak_19, ak_20, ak_21, ak_22, ak_23, ak_24, ak_25, ak_26, ak_27, ak_28, ak_29, ak_30, ak_31, ak_32, ak_33, ak_34, ak_35, ak_36, ak_37, ak_38, ak_39, ak_40, ak_41, ak_42, ak_43, ak_44, ak_45, ak_46, ak_47, ak_48, ak_49, ak_50, ak_51, ak_52, ak_53, ak_54, ak_55, ak_56, el31, el33, el34, CL_plan, ca_L_plan, frL, kcL, klL, T_X6_lengthG, T_X6_countG, T_X6_orderG, T_L_on, T_X6_aboutG, T_L_end, T_X6_ofJobG, T_L_rest, T_X6_pathG, T_L_critical, exists_eq_right_right, exists_eq_right, exists_eq_left, Nat.lt_irrefl, and_self, implies_true, forall_const]
            refine ⟨by constructor <;> omega, g, hg', fun σ1 h1 => ?_⟩
            by_cases c : p + 1 < g.1 13 m
            · have e : ordA g.1 m (p + 1) = g.1 14 (4 * m + (p + 1)) := (if_neg (by omega)).trans (if_pos ⟨by omega, c⟩)
              have jj := oq_j hw hm.1 hm.2 (show 0 ≤ p + 1 by omega) c
              refine ⟨fun _ => ⟨by constructor <;> omega, g, h1, fun σ2 h2 => ?_⟩, fun q => by rw [e] at q; omega⟩
              rw [e]
              exact ⟨g, h2, jj, fun r σ3 h3 hr => ⟨by omega, hL, h3, hm, hp0, hl, hj, ho, hp, hb, (oq_on hw hm.1 hm.2 (by omega) c hr).trans (if_pos c).symm⟩⟩
            · have e : ordA g.1 m (p + 1) = -6 := (if_neg (by omega)).trans (if_neg (fun q => c q.2))
              exact ⟨fun q => by rw [e] at q; omega, fun _ => ⟨by omega, hL, h1, hm, hp0, hl, hj, ho, hp, hb, (if_neg c).symm⟩⟩
          · exact hi.elim
        rw [if_neg hpc4] at hcut
        by_cases hpc5 : pc = 186
        · rw [if_pos hpc5] at hcut
          subst hpc5
          cases hcut
          try dsimp only at hi
          split at hi
          · rename_i c1 L l w u m p j o b e y11 y12 y13 y14 y15 y16
            obtain ⟨hi, rfl⟩ := hi
            obtain ⟨rfl, hL, rfl, rfl, hg', hm, hp0, hl, hj, ho, hp, hb, he⟩ := hi
            simp only [wp, stp, drp, entL, eL, lget, lset, okst, cnd, swt, rcv, Kr_int, Kr_bool, Kr_void, List.length_cons, List.length_nil, List.replicate, List.append_nil, List.cons_append, List.nil_append, List.take_succ_cons, List.take_zero, List.drop_succ_cons, List.drop_zero, List.reverse_cons, List.reverse_nil, Option.map_some, Option.map_none, Option.toList_some, Option.toList_none, Nat.reduceAdd, Nat.reduceSub, Nat.reduceLT, Nat.reduceLeDiff, Nat.reduceEqDiff, ↓reduceIte, Nat.add_zero, Nat.zero_add, true_and, and_true, Nat.le_refl, reduceCtorEq, false_implies, true_implies, not_true_eq_false, not_false_eq_true, Int.reduceAdd, Int.reduceSub, Int.reduceMul, Int.reduceLE, Int.reduceLT, Int.reduceEq, Int.reduceNe, Int.reduceNeg, Int.reduceDiv, Int.reduceMod, Bool.false_eq_true, Int.le_refl, and_self, true_or, or_true, inR_l, fv0, fv1, fv2, fv3, nc2, nc4, nc6, nc16, nc25, nc60, nc65, nc80, nc130, nc384, nc390, fp_0_0, fp_0_1, fp_0_2, fp_1_0, fp_1_1, fp_1_2, fp_1_3, fp_1_4, fp_1_5, fp_1_6, fp_1_7, fp_1_8, fp_1_9, fp_1_10, fp_1_11, fp_1_12, fp_1_13, fp_1_14, fp_2_0, fp_2_1, fp_2_2, fp_2_3, fp_3_0, fp_3_1, fp_4_0, fp_4_1, fp_4_2, fp_4_3, fp_4_4, fp_4_5, fp_4_6, fp_4_7, fp_5_0, fp_5_1, fp_5_2, fp_5_3, fp_5_4, fp_5_5, fp_5_6, fp_5_7, fp_6_0, fp_6_1, fp_6_2, fp_6_3, fp_6_4, fp_6_5, fp_6_6, fp_6_7, fp_6_8, fp_6_9, fp_6_10, fp_6_11, fp_6_12, fp_6_13, fp_6_14, fp_6_15, fp_7_0, fp_7_1, fp_7_2, fp_7_3, fp_7_4, fp_7_5, fp_7_6, fp_7_7, fp_7_8, fp_7_9, fp_7_10, fp_7_11, fp_7_12, fp_7_13, fp_7_14, fp_7_15, fp_7_16, fp_7_17, fp_7_18, fp_7_19, fp_7_20, fp_7_21, fp_7_22, fp_7_23, fp_7_24, iz_0_1, iz_0_2, iz_1_8, iz_1_9, iz_1_11, iz_2_1, iz_2_2, iz_2_3, iz_3_1, iz_4_1, iz_4_2, iz_5_0, iz_6_8, iz_6_9, iz_6_13, iz_6_14, iz_6_15, iz_7_2, iz_7_6, iz_7_12, iz_7_20, iz_7_21, iz_7_23, iz_7_24, ak_8, ak_9, ak_10, ak_11, ak_12, ak_13, ak_14, ak_15, ak_16, ak_17, ak_18, ak_19, ak_20, ak_21, ak_22, ak_23, ak_24, ak_25, ak_26, ak_27, ak_28, ak_29, ak_30, ak_31, ak_32, ak_33, ak_34, ak_35, ak_36, ak_37, ak_38, ak_39, ak_40, ak_41, ak_42, ak_43, ak_44, ak_45, ak_46, ak_47, ak_48, ak_49, ak_50, ak_51, ak_52, ak_53, ak_54, ak_55, ak_56, el31, el33, el34, CL_plan, ca_L_plan, frL, kcL, klL, T_X6_lengthG, T_X6_countG, T_X6_orderG, T_L_on, T_X6_aboutG, T_L_end, T_X6_ofJobG, T_L_rest, T_X6_pathG, T_L_critical, exists_eq_right_right, exists_eq_right, exists_eq_left, Nat.lt_irrefl, and_self, implies_true, forall_const]
            have hq := oq_v hw.1 hm.1 hm.2 hp0.1 hp0.2.1
            have pk := plo_oq hw.1 hm.1 hm.2 hp0.1 hp0.2.1
            rw [← ho] at hq pk
            have o0 := hq.1.1
            have o1 := hq.1.2.1
            exact ⟨o0, fun z => ⟨by constructor <;> omega, g, hg', hp, fun σ1 h1 => ⟨by omega, hL, h1, hm, hp0, hl, hj, ho, hp, hb, he, (if_neg z).symm⟩⟩, fun z => ⟨by omega, hL, hg', hm, hp0, hl, hj, ho, hp, hb, he, (if_pos (by omega)).symm⟩⟩
          · exact hi.elim
        rw [if_neg hpc5] at hcut
        by_cases hpc6 : pc = 207
        · rw [if_pos hpc6] at hcut
          subst hpc6
          cases hcut
          try dsimp only at hi
          split at hi
          · rename_i c1 L l w u m p j o b e a y12 y13 y14 y15 y16
            obtain ⟨hi, rfl⟩ := hi
            obtain ⟨rfl, hL, rfl, rfl, hg', hm, hp0, hl, hj, ho, hp, hb, he, hA⟩ := hi
            simp only [wp, stp, drp, entL, eL, lget, lset, okst, cnd, swt, rcv, Kr_int, Kr_bool, Kr_void, List.length_cons, List.length_nil, List.replicate, List.append_nil, List.cons_append, List.nil_append, List.take_succ_cons, List.take_zero, List.drop_succ_cons, List.drop_zero, List.reverse_cons, List.reverse_nil, Option.map_some, Option.map_none, Option.toList_some, Option.toList_none, Nat.reduceAdd, Nat.reduceSub, Nat.reduceLT, Nat.reduceLeDiff, Nat.reduceEqDiff, ↓reduceIte, Nat.add_zero, Nat.zero_add, true_and, and_true, Nat.le_refl, reduceCtorEq, false_implies, true_implies, not_true_eq_false, not_false_eq_true, Int.reduceAdd, Int.reduceSub, Int.reduceMul, Int.reduceLE, Int.reduceLT, Int.reduceEq, Int.reduceNe, Int.reduceNeg, Int.reduceDiv, Int.reduceMod, Bool.false_eq_true, Int.le_refl, and_self, true_or, or_true, inR_l, fv0, fv1, fv2, fv3, nc2, nc4, nc6, nc16, nc25, nc60, nc65, nc80, nc130, nc384, nc390, fp_0_0, fp_0_1, fp_0_2, fp_1_0, fp_1_1, fp_1_2, fp_1_3, fp_1_4, fp_1_5, fp_1_6, fp_1_7, fp_1_8, fp_1_9, fp_1_10, fp_1_11, fp_1_12, fp_1_13, fp_1_14, fp_2_0, fp_2_1, fp_2_2, fp_2_3, fp_3_0, fp_3_1, fp_4_0, fp_4_1, fp_4_2, fp_4_3, fp_4_4, fp_4_5, fp_4_6, fp_4_7, fp_5_0, fp_5_1, fp_5_2, fp_5_3, fp_5_4, fp_5_5, fp_5_6, fp_5_7, fp_6_0, fp_6_1, fp_6_2, fp_6_3, fp_6_4, fp_6_5, fp_6_6, fp_6_7, fp_6_8, fp_6_9, fp_6_10, fp_6_11, fp_6_12, fp_6_13, fp_6_14, fp_6_15, fp_7_0, fp_7_1, fp_7_2, fp_7_3, fp_7_4, fp_7_5, fp_7_6, fp_7_7, fp_7_8, fp_7_9, fp_7_10, fp_7_11, fp_7_12, fp_7_13, fp_7_14, fp_7_15, fp_7_16, fp_7_17, fp_7_18, fp_7_19, fp_7_20, fp_7_21, fp_7_22, fp_7_23, fp_7_24, iz_0_1, iz_0_2, iz_1_8, iz_1_9, iz_1_11, iz_2_1, iz_2_2, iz_2_3, iz_3_1, iz_4_1, iz_4_2, iz_5_0, iz_6_8, iz_6_9, iz_6_13, iz_6_14, iz_6_15, iz_7_2, iz_7_6, iz_7_12, iz_7_20, iz_7_21, iz_7_23, iz_7_24, ak_8, ak_9, ak_10, ak_11, ak_12, ak_13, ak_14, ak_15, ak_16, ak_17, ak_18, ak_19, ak_20, ak_21, ak_22, ak_23, ak_24, ak_25, ak_26, ak_27, ak_28, ak_29, ak_30, ak_31, ak_32, ak_33, ak_34, ak_35, ak_36, ak_37, ak_38, ak_39, ak_40, ak_41, ak_42, ak_43, ak_44, ak_45, ak_46, ak_47, ak_48, ak_49, ak_50, ak_51, ak_52, ak_53, ak_54, ak_55, ak_56, el31, el33, el34, CL_plan, ca_L_plan, frL, kcL, klL, T_X6_lengthG, T_X6_countG, T_X6_orderG, T_L_on, T_X6_aboutG, T_L_end, T_X6_ofJobG, T_L_rest, T_X6_pathG, T_L_critical, exists_eq_right_right, exists_eq_right, exists_eq_left, Nat.lt_irrefl, and_self, implies_true, forall_const]
            have R := endA_r hw hp (befA g.1 m p)
            refine ⟨g, hg', hp, fun σ1 h1 => ?_⟩
            rw [hb]
            by_cases c : o % 4 = 0
            · rw [if_pos c] at hA
              exact ⟨fun z => ⟨by omega, hL, h1, hm, hp0, hl, hj, ho, hp, he, Or.inr ⟨rfl, fun q => absurd c q⟩⟩, fun z => by omega⟩
            · rw [if_neg c] at hA
              exact ⟨fun z => ⟨by omega, hL, h1, hm, hp0, hl, hj, ho, hp, he, Or.inr ⟨rfl, fun _ => by omega⟩⟩, fun z => ⟨by omega, hL, h1, hm, hp0, hl, hj, ho, hp, he, Or.inl ⟨c, hA, by omega⟩⟩⟩
          · exact hi.elim
        rw [if_neg hpc6] at hcut
        by_cases hpc7 : pc = 231
        · rw [if_pos hpc7] at hcut
          subst hpc7
          cases hcut
          try dsimp only at hi
          split at hi
          · rename_i c1 L l w u m p j o b e y11 y12 h y14 y15 y16
            obtain ⟨hi, rfl⟩ := hi
            obtain ⟨rfl, hL, rfl, rfl, hg', hm, hp0, hl, hj, ho, hp, he, hh⟩ := hi
            simp only [wp, stp, drp, entL, eL, lget, lset, okst, cnd, swt, rcv, Kr_int, Kr_bool, Kr_void, List.length_cons, List.length_nil, List.replicate, List.append_nil, List.cons_append, List.nil_append, List.take_succ_cons, List.take_zero, List.drop_succ_cons, List.drop_zero, List.reverse_cons, List.reverse_nil, Option.map_some, Option.map_none, Option.toList_some, Option.toList_none, Nat.reduceAdd, Nat.reduceSub, Nat.reduceLT, Nat.reduceLeDiff, Nat.reduceEqDiff, ↓reduceIte, Nat.add_zero, Nat.zero_add, true_and, and_true, Nat.le_refl, reduceCtorEq, false_implies, true_implies, not_true_eq_false, not_false_eq_true, Int.reduceAdd, Int.reduceSub, Int.reduceMul, Int.reduceLE, Int.reduceLT, Int.reduceEq, Int.reduceNe, Int.reduceNeg, Int.reduceDiv, Int.reduceMod, Bool.false_eq_true, Int.le_refl, and_self, true_or, or_true, inR_l, fv0, fv1, fv2, fv3, nc2, nc4, nc6, nc16, nc25, nc60, nc65, nc80, nc130, nc384, nc390, fp_0_0, fp_0_1, fp_0_2, fp_1_0, fp_1_1, fp_1_2, fp_1_3, fp_1_4, fp_1_5, fp_1_6, fp_1_7, fp_1_8, fp_1_9, fp_1_10, fp_1_11, fp_1_12, fp_1_13, fp_1_14, fp_2_0, fp_2_1, fp_2_2, fp_2_3, fp_3_0, fp_3_1, fp_4_0, fp_4_1, fp_4_2, fp_4_3, fp_4_4, fp_4_5, fp_4_6, fp_4_7, fp_5_0, fp_5_1, fp_5_2, fp_5_3, fp_5_4, fp_5_5, fp_5_6, fp_5_7, fp_6_0, fp_6_1, fp_6_2, fp_6_3, fp_6_4, fp_6_5, fp_6_6, fp_6_7, fp_6_8, fp_6_9, fp_6_10, fp_6_11, fp_6_12, fp_6_13, fp_6_14, fp_6_15, fp_7_0, fp_7_1, fp_7_2, fp_7_3, fp_7_4, fp_7_5, fp_7_6, fp_7_7, fp_7_8, fp_7_9, fp_7_10, fp_7_11, fp_7_12, fp_7_13, fp_7_14, fp_7_15, fp_7_16, fp_7_17, fp_7_18, fp_7_19, fp_7_20, fp_7_21, fp_7_22, fp_7_23, fp_7_24, iz_0_1, iz_0_2, iz_1_8, iz_1_9, iz_1_11, iz_2_1, iz_2_2, iz_2_3, iz_3_1, iz_4_1, iz_4_2, iz_5_0, iz_6_8, iz_6_9, iz_6_13, iz_6_14, iz_6_15, iz_7_2, iz_7_6, iz_7_12, iz_7_20, iz_7_21, iz_7_23, iz_7_24, ak_8, ak_9, ak_10, ak_11, ak_12, ak_13, ak_14, ak_15, ak_16, ak_17, ak_18, ak_19, ak_20, ak_21, ak_22, ak_23, ak_24, ak_25, ak_26, ak_27, ak_28, ak_29, ak_30, ak_31, ak_32, ak_33, ak_34, ak_35, ak_36, ak_37, ak_38, ak_39, ak_40, ak_41, ak_42, ak_43, ak_44, ak_45, ak_46, ak_47, ak_48, ak_49, ak_50, ak_51, ak_52, ak_53, ak_54, ak_55, ak_56, el31, el33, el34, CL_plan, ca_L_plan, frL, kcL, klL, T_X6_lengthG, T_X6_countG, T_X6_orderG, T_L_on, T_X6_aboutG, T_L_end, T_X6_ofJobG, T_L_rest, T_X6_pathG, T_L_critical, exists_eq_right_right, exists_eq_right, exists_eq_left, Nat.lt_irrefl, and_self, implies_true, forall_const]
            have hq := oq_v hw.1 hm.1 hm.2 hp0.1 hp0.2.1
            have pk := plo_oq hw.1 hm.1 hm.2 hp0.1 hp0.2.1
            rw [← ho] at hq pk
            have o0 := hq.1.1
            have o1 := hq.1.2.1
            have jj := oq_j hw hm.1 hm.2 hp0.1 hp0.2.1
            rw [← hj] at jj
            have H := hd_eq hw hp hm.1 hm.2 hp0.1 hp0.2.1 ho
            have ej : o / 4 = j := hq.2.2.trans hj.symm
            rw [ej] at H
            refine ⟨g, hg', fun σ1 h1 => ?_⟩
            rw [of0 jj]
            refine ⟨fun z => ⟨by omega, hL, h1, hm, hp0, hl, hj, ho, hp, he, ?_⟩, fun z => ⟨g, h1, fun σ2 h2 => ?_⟩⟩
            · rcases H.2.2.2 with q | ⟨q, r⟩ | q
              · rcases hh with ⟨a, b, c⟩ | ⟨b, c⟩
                · have := H.1 a
                  omega
                · have := H.2.1
                  omega
              · have := H.2.1
                rcases hh with ⟨a, b, c⟩ | ⟨b, c⟩
                · omega
                · have := c q
                  omega
              · have := H.1
                rcases hh with ⟨a, b, c⟩ | ⟨b, c⟩
                · have := this a
                  omega
                · omega
            · rw [of0 jj]
              refine ⟨by omega, hL, h2, hm, hp0, hl, hj, ho, hp, he, ?_⟩
              rcases H.2.2.2 with q | ⟨q, r⟩ | q
              · exact q.symm
              · rcases hh with ⟨a, b, c⟩ | ⟨b, c⟩
                · have := H.2.2.1
                  omega
                · have := c q
                  have := H.2.2.1
                  omega
              · have := H.2.2.1
                rcases hh with ⟨a, b, c⟩ | ⟨b, c⟩ <;> omega
          · exact hi.elim
        rw [if_neg hpc7] at hcut
        by_cases hpc8 : pc = 257
        · rw [if_pos hpc8] at hcut
          subst hpc8
          cases hcut
          try dsimp only at hi
          split at hi
          · rename_i c1 L l w u m p j o b e y11 y12 h y14 y15 y16
            obtain ⟨hi, rfl⟩ := hi
            obtain ⟨rfl, hL, rfl, rfl, hg', hm, hp0, hl, hj, ho, hp, he, hh⟩ := hi
            simp only [wp, stp, drp, entL, eL, lget, lset, okst, cnd, swt, rcv, Kr_int, Kr_bool, Kr_void, List.length_cons, List.length_nil, List.replicate, List.append_nil, List.cons_append, List.nil_append, List.take_succ_cons, List.take_zero, List.drop_succ_cons, List.drop_zero, List.reverse_cons, List.reverse_nil, Option.map_some, Option.map_none, Option.toList_some, Option.toList_none, Nat.reduceAdd, Nat.reduceSub, Nat.reduceLT, Nat.reduceLeDiff, Nat.reduceEqDiff, ↓reduceIte, Nat.add_zero, Nat.zero_add, true_and, and_true, Nat.le_refl, reduceCtorEq, false_implies, true_implies, not_true_eq_false, not_false_eq_true, Int.reduceAdd, Int.reduceSub, Int.reduceMul, Int.reduceLE, Int.reduceLT, Int.reduceEq, Int.reduceNe, Int.reduceNeg, Int.reduceDiv, Int.reduceMod, Bool.false_eq_true, Int.le_refl, and_self, true_or, or_true, inR_l, fv0, fv1, fv2, fv3, nc2, nc4, nc6, nc16, nc25, nc60, nc65, nc80, nc130, nc384, nc390, fp_0_0, fp_0_1, fp_0_2, fp_1_0, fp_1_1, fp_1_2, fp_1_3, fp_1_4, fp_1_5, fp_1_6, fp_1_7, fp_1_8, fp_1_9, fp_1_10, fp_1_11, fp_1_12, fp_1_13, fp_1_14, fp_2_0, fp_2_1, fp_2_2, fp_2_3, fp_3_0, fp_3_1, fp_4_0, fp_4_1, fp_4_2, fp_4_3, fp_4_4, fp_4_5, fp_4_6, fp_4_7, fp_5_0, fp_5_1, fp_5_2, fp_5_3, fp_5_4, fp_5_5, fp_5_6, fp_5_7, fp_6_0, fp_6_1, fp_6_2, fp_6_3, fp_6_4, fp_6_5, fp_6_6, fp_6_7, fp_6_8, fp_6_9, fp_6_10, fp_6_11, fp_6_12, fp_6_13, fp_6_14, fp_6_15, fp_7_0, fp_7_1, fp_7_2, fp_7_3, fp_7_4, fp_7_5, fp_7_6, fp_7_7, fp_7_8, fp_7_9, fp_7_10, fp_7_11, fp_7_12, fp_7_13, fp_7_14, fp_7_15, fp_7_16, fp_7_17, fp_7_18, fp_7_19, fp_7_20, fp_7_21, fp_7_22, fp_7_23, fp_7_24, iz_0_1, iz_0_2, iz_1_8, iz_1_9, iz_1_11, iz_2_1, iz_2_2, iz_2_3, iz_3_1, iz_4_1, iz_4_2, iz_5_0, iz_6_8, iz_6_9, iz_6_13, iz_6_14, iz_6_15, iz_7_2, iz_7_6, iz_7_12, iz_7_20, iz_7_21, iz_7_23, iz_7_24, ak_8, ak_9, ak_10, ak_11, ak_12, ak_13, ak_14, ak_15, ak_16, ak_17, ak_18, ak_19, ak_20, ak_21, ak_22, ak_23, ak_24, ak_25, ak_26, ak_27, ak_28, ak_29, ak_30, ak_31, ak_32, ak_33, ak_34, ak_35, ak_36, ak_37, ak_38, ak_39, ak_40, ak_41, ak_42, ak_43, ak_44, ak_45, ak_46, ak_47, ak_48, ak_49, ak_50, ak_51, ak_52, ak_53, ak_54, ak_55, ak_56, el31, el33, el34, CL_plan, ca_L_plan, frL, kcL, klL, T_X6_lengthG, T_X6_countG, T_X6_orderG, T_L_on, T_X6_aboutG, T_L_end, T_X6_ofJobG, T_L_rest, T_X6_pathG, T_L_critical, exists_eq_right_right, exists_eq_right, exists_eq_left, Nat.lt_irrefl, and_self, implies_true, forall_const]
            have hq := oq_v hw.1 hm.1 hm.2 hp0.1 hp0.2.1
            have pk := plo_oq hw.1 hm.1 hm.2 hp0.1 hp0.2.1
            rw [← ho] at hq pk
            have o0 := hq.1.1
            have o1 := hq.1.2.1
            exact ⟨o0, fun z => ⟨by constructor <;> omega, g, hg', hp, fun σ1 h1 => ⟨by omega, hL, h1, hm, hp0, hl, hj, ho, hp, he, hh, (if_neg z).symm⟩⟩, fun z => ⟨by omega, hL, hg', hm, hp0, hl, hj, ho, hp, he, hh, (if_pos (by omega)).symm⟩⟩
          · exact hi.elim
        rw [if_neg hpc8] at hcut
        by_cases hpc9 : pc = 279
        · rw [if_pos hpc9] at hcut
          subst hpc9
          cases hcut
          try dsimp only at hi
          split at hi
          · rename_i c1 L l w u m p j o b e y11 y12 h c y15 y16
            obtain ⟨hi, rfl⟩ := hi
            obtain ⟨rfl, hL, rfl, rfl, hg', hm, hp0, hl, hj, ho, hp, he, hh, hc⟩ := hi
            simp only [wp, stp, drp, entL, eL, lget, lset, okst, cnd, swt, rcv, Kr_int, Kr_bool, Kr_void, List.length_cons, List.length_nil, List.replicate, List.append_nil, List.cons_append, List.nil_append, List.take_succ_cons, List.take_zero, List.drop_succ_cons, List.drop_zero, List.reverse_cons, List.reverse_nil, Option.map_some, Option.map_none, Option.toList_some, Option.toList_none, Nat.reduceAdd, Nat.reduceSub, Nat.reduceLT, Nat.reduceLeDiff, Nat.reduceEqDiff, ↓reduceIte, Nat.add_zero, Nat.zero_add, true_and, and_true, Nat.le_refl, reduceCtorEq, false_implies, true_implies, not_true_eq_false, not_false_eq_true, Int.reduceAdd, Int.reduceSub, Int.reduceMul, Int.reduceLE, Int.reduceLT, Int.reduceEq, Int.reduceNe, Int.reduceNeg, Int.reduceDiv, Int.reduceMod, Bool.false_eq_true, Int.le_refl, and_self, true_or, or_true, inR_l, fv0, fv1, fv2, fv3, nc2, nc4, nc6, nc16, nc25, nc60, nc65, nc80, nc130, nc384, nc390, fp_0_0, fp_0_1, fp_0_2, fp_1_0, fp_1_1, fp_1_2, fp_1_3, fp_1_4, fp_1_5, fp_1_6, fp_1_7, fp_1_8, fp_1_9, fp_1_10, fp_1_11, fp_1_12, fp_1_13, fp_1_14, fp_2_0, fp_2_1, fp_2_2, fp_2_3, fp_3_0, fp_3_1, fp_4_0, fp_4_1, fp_4_2, fp_4_3, fp_4_4, fp_4_5, fp_4_6, fp_4_7, fp_5_0, fp_5_1, fp_5_2, fp_5_3, fp_5_4, fp_5_5, fp_5_6, fp_5_7, fp_6_0, fp_6_1, fp_6_2, fp_6_3, fp_6_4, fp_6_5, fp_6_6, fp_6_7, fp_6_8, fp_6_9, fp_6_10, fp_6_11, fp_6_12, fp_6_13, fp_6_14, fp_6_15, fp_7_0, fp_7_1, fp_7_2, fp_7_3, fp_7_4, fp_7_5, fp_7_6, fp_7_7, fp_7_8, fp_7_9, fp_7_10, fp_7_11, fp_7_12, fp_7_13, fp_7_14, fp_7_15, fp_7_16, fp_7_17, fp_7_18, fp_7_19, fp_7_20, fp_7_21, fp_7_22, fp_7_23, fp_7_24, iz_0_1, iz_0_2, iz_1_8, iz_1_9, iz_1_11, iz_2_1, iz_2_2, iz_2_3, iz_3_1, iz_4_1, iz_4_2, iz_5_0, iz_6_8, iz_6_9, iz_6_13, iz_6_14, iz_6_15, iz_7_2, iz_7_6, iz_7_12, iz_7_20, iz_7_21, iz_7_23, iz_7_24, ak_8, ak_9, ak_10, ak_11, ak_12, ak_13, ak_14, ak_15, ak_16, ak_17, ak_18, ak_19, ak_20, ak_21, ak_22, ak_23, ak_24, ak_25, ak_26, ak_27, ak_28, ak_29, ak_30, ak_31, ak_32, ak_33, ak_34, ak_35, ak_36, ak_37, ak_38, ak_39, ak_40, ak_41, ak_42, ak_43, ak_44, ak_45, ak_46, ak_47, ak_48, ak_49, ak_50, ak_51, ak_52, ak_53, ak_54, ak_55, ak_56, el31, el33, el34, CL_plan, ca_L_plan, frL, kcL, klL, T_X6_lengthG, T_X6_countG, T_X6_orderG, T_L_on, T_X6_aboutG, T_L_end, T_X6_ofJobG, T_L_rest, T_X6_pathG, T_L_critical, exists_eq_right_right, exists_eq_right, exists_eq_left, Nat.lt_irrefl, and_self, implies_true, forall_const]
            have hq := oq_v hw.1 hm.1 hm.2 hp0.1 hp0.2.1
            have pk := plo_oq hw.1 hm.1 hm.2 hp0.1 hp0.2.1
            rw [← ho] at hq pk
            have o0 := hq.1.1
            have o1 := hq.1.2.1
            have B := (hV_b hw hp).1 o hq.1
            have LB := (hV_b hw hp).2
            have D := wWF_op hw hq.1
            have eL : lenA g.1 = LV g.1 := cif_1 hp
            have mx := (pos_f hw hp).2.2.1.2.1 o hq.1
            dsimp only at mx
            have T := tl_eq hw hp hm.1 hm.2 hp0.1 hp0.2.1 ho
            rw [← he] at T
            have e3 := ab3 hq.1 hp
            have e1 := ab1 hq.1
            have e4 := ab4 hq.1 hp
            have e5 : abA g.1 o 5 = L - (hV g.1 o + g.1 12 o + tV g.1 o) := by rw [ab5 hq.1 hp, hL, eL]; rfl
            have t1 : c ≤ rstA g.1 e → tV g.1 o = rstA g.1 e := fun z => by
              by_cases y : o % 4 = 3
              · rw [if_pos y] at hc
                rcases T.2.2.2 with q | q | q
                · have := T.2.1
                  omega
                · exact absurd y q.1
                · exact q
              · rw [if_neg y] at hc
                have := T.1 y
                rcases T.2.2.2 with q | q | q
                · have := T.2.1
                  have := endA_r hw hp e
                  omega
                · omega
                · exact q
            have t2 : ¬ c ≤ rstA g.1 e → tV g.1 o = c := fun z => by
              have R := endA_r hw hp e
              by_cases y : o % 4 = 3
              · rw [if_pos y] at hc
                omega
              · rw [if_neg y] at hc
                have := T.1 y
                rcases T.2.2.2 with q | q | q <;> omega
            refine ⟨g, hg', hp, fun σ1 h1 => ⟨g, h1, fun σ2 h2 => ⟨g, h2, fun σ3 h3 => ?_⟩⟩⟩
            rw [e3, e1]
            refine ⟨by constructor <;> omega, g, h3, fun σ4 h4 => ?_⟩
            rw [e4]
            refine ⟨by constructor <;> omega, g, h4, fun σ5 h5 => ?_⟩
            rw [e3]
            refine ⟨fun q => absurd hh.symm q, fun _ => ⟨g, h5, fun σ6 h6 => ?_⟩⟩
            rw [e4]
            refine ⟨fun z => ⟨fun q => absurd (t1 z) q, fun _ => ⟨g, h6, fun σ7 h7 => ?_⟩⟩, fun z => ⟨fun q => absurd (t2 z) q, fun _ => ⟨g, h6, fun σ7 h7 => ?_⟩⟩⟩
            · exact ⟨by constructor <;> omega, fun q => absurd e5 q, fun _ => ⟨fun _ => ⟨by omega, hL, h7, hm, hp0, hl, hj, ho, hp, rfl⟩, fun q => absurd (by omega) q⟩⟩
            · exact ⟨by constructor <;> omega, fun q => absurd e5 q, fun _ => ⟨fun _ => ⟨by omega, hL, h7, hm, hp0, hl, hj, ho, hp, rfl⟩, fun q => absurd (by omega) q⟩⟩
          · exact hi.elim
        rw [if_neg hpc9] at hcut
        by_cases hpc10 : pc = 370
        · rw [if_pos hpc10] at hcut
          subst hpc10
          cases hcut
          try dsimp only at hi
          split at hi
          · rename_i c1 L l w u m p j o y9 y10 y11 y12 y13 y14 y15 t
            obtain ⟨hi, rfl⟩ := hi
            obtain ⟨rfl, hL, rfl, rfl, hg', hm, hp0, hl, hj, ho, hp, ht⟩ := hi
            simp only [wp, stp, drp, entL, eL, lget, lset, okst, cnd, swt, rcv, Kr_int, Kr_bool, Kr_void, List.length_cons, List.length_nil, List.replicate, List.append_nil, List.cons_append, List.nil_append, List.take_succ_cons, List.take_zero, List.drop_succ_cons, List.drop_zero, List.reverse_cons, List.reverse_nil, Option.map_some, Option.map_none, Option.toList_some, Option.toList_none, Nat.reduceAdd, Nat.reduceSub, Nat.reduceLT, Nat.reduceLeDiff, Nat.reduceEqDiff, ↓reduceIte, Nat.add_zero, Nat.zero_add, true_and, and_true, Nat.le_refl, reduceCtorEq, false_implies, true_implies, not_true_eq_false, not_false_eq_true, Int.reduceAdd, Int.reduceSub, Int.reduceMul, Int.reduceLE, Int.reduceLT, Int.reduceEq, Int.reduceNe, Int.reduceNeg, Int.reduceDiv, Int.reduceMod, Bool.false_eq_true, Int.le_refl, and_self, true_or, or_true, inR_l, fv0, fv1, fv2, fv3, nc2, nc4, nc6, nc16, nc25, nc60, nc65, nc80, nc130, nc384, nc390, fp_0_0, fp_0_1, fp_0_2, fp_1_0, fp_1_1, fp_1_2, fp_1_3, fp_1_4, fp_1_5, fp_1_6, fp_1_7, fp_1_8, fp_1_9, fp_1_10, fp_1_11, fp_1_12, fp_1_13, fp_1_14, fp_2_0, fp_2_1, fp_2_2, fp_2_3, fp_3_0, fp_3_1, fp_4_0, fp_4_1, fp_4_2, fp_4_3, fp_4_4, fp_4_5, fp_4_6, fp_4_7, fp_5_0, fp_5_1, fp_5_2, fp_5_3, fp_5_4, fp_5_5, fp_5_6, fp_5_7, fp_6_0, fp_6_1, fp_6_2, fp_6_3, fp_6_4, fp_6_5, fp_6_6, fp_6_7, fp_6_8, fp_6_9, fp_6_10, fp_6_11, fp_6_12, fp_6_13, fp_6_14, fp_6_15, fp_7_0, fp_7_1, fp_7_2, fp_7_3, fp_7_4, fp_7_5, fp_7_6, fp_7_7, fp_7_8, fp_7_9, fp_7_10, fp_7_11, fp_7_12, fp_7_13, fp_7_14, fp_7_15, fp_7_16, fp_7_17, fp_7_18, fp_7_19, fp_7_20, fp_7_21, fp_7_22, fp_7_23, fp_7_24, iz_0_1, iz_0_2, iz_1_8, iz_1_9, iz_1_11, iz_2_1, iz_2_2, iz_2_3, iz_3_1, iz_4_1, iz_4_2, iz_5_0, iz_6_8, iz_6_9, iz_6_13, iz_6_14, iz_6_15, iz_7_2, iz_7_6, iz_7_12, iz_7_20, iz_7_21, iz_7_23, iz_7_24, ak_8, ak_9, ak_10, ak_11, ak_12, ak_13, ak_14, ak_15, ak_16, ak_17, ak_18, ak_19, ak_20, ak_21, ak_22, ak_23, ak_24, ak_25, ak_26, ak_27, ak_28, ak_29, ak_30, ak_31, ak_32, ak_33, ak_34, ak_35, ak_36, ak_37, ak_38, ak_39, ak_40, ak_41, ak_42, ak_43, ak_44, ak_45, ak_46, ak_47, ak_48, ak_49, ak_50, ak_51, ak_52, ak_53, ak_54, ak_55, ak_56, el31, el33, el34, CL_plan, ca_L_plan, frL, kcL, klL, T_X6_lengthG, T_X6_countG, T_X6_orderG, T_L_on, T_X6_aboutG, T_L_end, T_X6_ofJobG, T_L_rest, T_X6_pathG, T_L_critical, exists_eq_right_right, exists_eq_right, exists_eq_left, Nat.lt_irrefl, and_self, implies_true, forall_const]
            refine ⟨fun a => ⟨by constructor <;> omega, by omega, hL, hg', hm, by omega, LON_s hw hp hm.1 hm.2 hp0.1 hp0.2.1 ho hl (Or.inr ⟨by omega, rfl⟩)⟩, fun a => ⟨by constructor <;> omega, by omega, hL, hg', hm, by omega, ?_⟩⟩
            rw [ht]
            exact LON_s hw hp hm.1 hm.2 hp0.1 hp0.2.1 ho hl (Or.inl ⟨by omega, rfl⟩)
          · exact hi.elim
        rw [if_neg hpc10] at hcut
        by_cases hpc11 : pc = 428
        · rw [if_pos hpc11] at hcut
          subst hpc11
          cases hcut
          try dsimp only at hi
          split at hi
          · rename_i c1 L l w u j y6 y7 y8 y9 y10 y11 y12 y13 y14 y15 y16
            obtain ⟨hi, rfl⟩ := hi
            obtain ⟨rfl, hL, hl, hw1, hu, hwb, hg', hp, hj⟩ := hi
            simp only [wp, stp, drp, entL, eL, lget, lset, okst, cnd, swt, rcv, Kr_int, Kr_bool, Kr_void, List.length_cons, List.length_nil, List.replicate, List.append_nil, List.cons_append, List.nil_append, List.take_succ_cons, List.take_zero, List.drop_succ_cons, List.drop_zero, List.reverse_cons, List.reverse_nil, Option.map_some, Option.map_none, Option.toList_some, Option.toList_none, Nat.reduceAdd, Nat.reduceSub, Nat.reduceLT, Nat.reduceLeDiff, Nat.reduceEqDiff, ↓reduceIte, Nat.add_zero, Nat.zero_add, true_and, and_true, Nat.le_refl, reduceCtorEq, false_implies, true_implies, not_true_eq_false, not_false_eq_true, Int.reduceAdd, Int.reduceSub, Int.reduceMul, Int.reduceLE, Int.reduceLT, Int.reduceEq, Int.reduceNe, Int.reduceNeg, Int.reduceDiv, Int.reduceMod, Bool.false_eq_true, Int.le_refl, and_self, true_or, or_true, inR_l, fv0, fv1, fv2, fv3, nc2, nc4, nc6, nc16, nc25, nc60, nc65, nc80, nc130, nc384, nc390, fp_0_0, fp_0_1, fp_0_2, fp_1_0, fp_1_1, fp_1_2, fp_1_3, fp_1_4, fp_1_5, fp_1_6, fp_1_7, fp_1_8, fp_1_9, fp_1_10, fp_1_11, fp_1_12, fp_1_13, fp_1_14, fp_2_0, fp_2_1, fp_2_2, fp_2_3, fp_3_0, fp_3_1, fp_4_0, fp_4_1, fp_4_2, fp_4_3, fp_4_4, fp_4_5, fp_4_6, fp_4_7, fp_5_0, fp_5_1, fp_5_2, fp_5_3, fp_5_4, fp_5_5, fp_5_6, fp_5_7, fp_6_0, fp_6_1, fp_6_2, fp_6_3, fp_6_4, fp_6_5, fp_6_6, fp_6_7, fp_6_8, fp_6_9, fp_6_10, fp_6_11, fp_6_12, fp_6_13, fp_6_14, fp_6_15, fp_7_0, fp_7_1, fp_7_2, fp_7_3, fp_7_4, fp_7_5, fp_7_6, fp_7_7, fp_7_8, fp_7_9, fp_7_10, fp_7_11, fp_7_12, fp_7_13, fp_7_14, fp_7_15, fp_7_16, fp_7_17, fp_7_18, fp_7_19, fp_7_20, fp_7_21, fp_7_22, fp_7_23, fp_7_24, iz_0_1, iz_0_2, iz_1_8, iz_1_9, iz_1_11, iz_2_1, iz_2_2, iz_2_3, iz_3_1, iz_4_1, iz_4_2, iz_5_0, iz_6_8, iz_6_9, iz_6_13, iz_6_14, iz_6_15, iz_7_2, iz_7_6, iz_7_12, iz_7_20, iz_7_21, iz_7_23, iz_7_24, ak_8, ak_9, ak_10, ak_11, ak_12, ak_13, ak_14, ak_15, ak_16, ak_17, ak_18, ak_19, ak_20, ak_21, ak_22, ak_23, ak_24, ak_25, ak_26, ak_27, ak_28, ak_29, ak_30, ak_31, ak_32, ak_33, ak_34, ak_35, ak_36, ak_37, ak_38, ak_39, ak_40, ak_41, ak_42, ak_43, ak_44, ak_45, ak_46, ak_47, ak_48, ak_49, ak_50, ak_51, ak_52, ak_53, ak_54, ak_55, ak_56, el31, el33, el34, CL_plan, ca_L_plan, frL, kcL, klL, T_X6_lengthG, T_X6_countG, T_X6_orderG, T_L_on, T_X6_aboutG, T_L_end, T_X6_ofJobG, T_L_rest, T_X6_pathG, T_L_critical, exists_eq_right_right, exists_eq_right, exists_eq_left, Nat.lt_irrefl, and_self, implies_true, forall_const]
            refine ⟨g, hg', fun σ1 h1 => ?_⟩
            rw [ct0]
            refine ⟨fun a => ?_, fun a => ?_⟩
            · obtain rfl : j = g.1 5 0 := by omega
              exact ⟨fun q => by omega, fun _ => ⟨g, h1, fun σ2 h2 => ⟨fun q => absurd ((ct5 hp).trans hw1.symm) q, fun _ => ⟨g, h2, fun σ3 h3 => ⟨fun q => absurd ((ct6 hp).trans hu.symm) q, fun _ => ⟨g, h3, hp, hL, fun σ4 h4 => hk _ h4⟩⟩⟩⟩⟩⟩
            · have hj' : 0 ≤ j ∧ j < g.1 5 0 := by omega
              have s4 := st_w hw hj.1 (show j < 4 by omega)
              refine ⟨g, h1, fun σ2 h2 => ?_⟩
              rw [of2 hj']
              refine ⟨fun z => ⟨by constructor <;> omega, by constructor <;> omega, by constructor <;> omega, g, h2, hp, fun σ3 h3 => ⟨by omega, hL, hl, hw1, hu, hwb, h3, hp, hj', ?_⟩⟩, fun z => ⟨g, h2, fun σ3 h3 => ⟨by omega, hL, hl, hw1, hu, hwb, h3, hp, hj', ?_⟩⟩⟩
              · unfold ejA
                rw [if_pos (by omega)]
                exact (endA_v (last_v hw hj.1 (by omega) (by omega))).1
              · rw [of0 hj']
                unfold ejA
                rw [if_neg (by omega)]
          · exact hi.elim
        rw [if_neg hpc11] at hcut
        by_cases hpc12 : pc = 477
        · rw [if_pos hpc12] at hcut
          subst hpc12
          cases hcut
          try dsimp only at hi
          split at hi
          · rename_i c1 L l w u j y6 e y8 y9 y10 y11 y12 y13 y14 y15 y16
            obtain ⟨hi, rfl⟩ := hi
            obtain ⟨rfl, hL, hl, hw1, hu, hwb, hg', hp, hj, he⟩ := hi
            simp only [wp, stp, drp, entL, eL, lget, lset, okst, cnd, swt, rcv, Kr_int, Kr_bool, Kr_void, List.length_cons, List.length_nil, List.replicate, List.append_nil, List.cons_append, List.nil_append, List.take_succ_cons, List.take_zero, List.drop_succ_cons, List.drop_zero, List.reverse_cons, List.reverse_nil, Option.map_some, Option.map_none, Option.toList_some, Option.toList_none, Nat.reduceAdd, Nat.reduceSub, Nat.reduceLT, Nat.reduceLeDiff, Nat.reduceEqDiff, ↓reduceIte, Nat.add_zero, Nat.zero_add, true_and, and_true, Nat.le_refl, reduceCtorEq, false_implies, true_implies, not_true_eq_false, not_false_eq_true, Int.reduceAdd, Int.reduceSub, Int.reduceMul, Int.reduceLE, Int.reduceLT, Int.reduceEq, Int.reduceNe, Int.reduceNeg, Int.reduceDiv, Int.reduceMod, Bool.false_eq_true, Int.le_refl, and_self, true_or, or_true, inR_l, fv0, fv1, fv2, fv3, nc2, nc4, nc6, nc16, nc25, nc60, nc65, nc80, nc130, nc384, nc390, fp_0_0, fp_0_1, fp_0_2, fp_1_0, fp_1_1, fp_1_2, fp_1_3, fp_1_4, fp_1_5, fp_1_6, fp_1_7, fp_1_8, fp_1_9, fp_1_10, fp_1_11, fp_1_12, fp_1_13, fp_1_14, fp_2_0, fp_2_1, fp_2_2, fp_2_3, fp_3_0, fp_3_1, fp_4_0, fp_4_1, fp_4_2, fp_4_3, fp_4_4, fp_4_5, fp_4_6, fp_4_7, fp_5_0, fp_5_1, fp_5_2, fp_5_3, fp_5_4, fp_5_5, fp_5_6, fp_5_7, fp_6_0, fp_6_1, fp_6_2, fp_6_3, fp_6_4, fp_6_5, fp_6_6, fp_6_7, fp_6_8, fp_6_9, fp_6_10, fp_6_11, fp_6_12, fp_6_13, fp_6_14, fp_6_15, fp_7_0, fp_7_1, fp_7_2, fp_7_3, fp_7_4, fp_7_5, fp_7_6, fp_7_7, fp_7_8, fp_7_9, fp_7_10, fp_7_11, fp_7_12, fp_7_13, fp_7_14, fp_7_15, fp_7_16, fp_7_17, fp_7_18, fp_7_19, fp_7_20, fp_7_21, fp_7_22, fp_7_23, fp_7_24, iz_0_1, iz_0_2, iz_1_8, iz_1_9, iz_1_11, iz_2_1, iz_2_2, iz_2_3, iz_3_1, iz_4_1, iz_4_2, iz_5_0, iz_6_8, iz_6_9, iz_6_13, iz_6_14, iz_6_15, iz_7_2, iz_7_6, iz_7_12, iz_7_20, iz_7_21, iz_7_23, iz_7_24, ak_8, ak_9, ak_10, ak_11, ak_12, ak_13, ak_14, ak_15, ak_16, ak_17, ak_18, ak_19, ak_20, ak_21, ak_22, ak_23, ak_24, ak_25, ak_26, ak_27, ak_28, ak_29, ak_30, ak_31, ak_32, ak_33, ak_34, ak_35, ak_36, ak_37, ak_38, ak_39, ak_40, ak_41, ak_42, ak_43, ak_44, ak_45, ak_46, ak_47, ak_48, ak_49, ak_50, ak_51, ak_52, ak_53, ak_54, ak_55, ak_56, el31, el33, el34, CL_plan, ca_L_plan, frL, kcL, klL, T_X6_lengthG, T_X6_countG, T_X6_orderG, T_L_on, T_X6_aboutG, T_L_end, T_X6_ofJobG, T_L_rest, T_X6_pathG, T_L_critical, exists_eq_right_right, exists_eq_right, exists_eq_left, Nat.lt_irrefl, and_self, implies_true, forall_const]
            have R := ejA_r hw hp hj
            refine ⟨g, hg', fun σ1 h1 => ?_⟩
            rw [of1 hj]
            refine ⟨fun a => ⟨by omega, hL, hl, hw1, hu, hwb, h1, hp, hj, he, ?_⟩, fun a => ⟨g, h1, fun σ2 h2 => ?_⟩⟩
            · unfold ltA
              rw [if_neg (by omega)]
            · rw [of1 hj]
              refine ⟨by constructor <;> omega, by omega, hL, hl, hw1, hu, hwb, h2, hp, hj, he, ?_⟩
              unfold ltA
              rw [if_pos (by omega), he]
          · exact hi.elim
        rw [if_neg hpc12] at hcut
        by_cases hpc13 : pc = 505
        · rw [if_pos hpc13] at hcut
          subst hpc13
          cases hcut
          try dsimp only at hi
          split at hi
          · rename_i c1 L l w u j y6 e s y9 y10 y11 y12 y13 y14 y15 y16
            obtain ⟨hi, rfl⟩ := hi
            obtain ⟨rfl, hL, hl, hw1, hu, hwb, hg', hp, hj, he, hs⟩ := hi
            simp only [wp, stp, drp, entL, eL, lget, lset, okst, cnd, swt, rcv, Kr_int, Kr_bool, Kr_void, List.length_cons, List.length_nil, List.replicate, List.append_nil, List.cons_append, List.nil_append, List.take_succ_cons, List.take_zero, List.drop_succ_cons, List.drop_zero, List.reverse_cons, List.reverse_nil, Option.map_some, Option.map_none, Option.toList_some, Option.toList_none, Nat.reduceAdd, Nat.reduceSub, Nat.reduceLT, Nat.reduceLeDiff, Nat.reduceEqDiff, ↓reduceIte, Nat.add_zero, Nat.zero_add, true_and, and_true, Nat.le_refl, reduceCtorEq, false_implies, true_implies, not_true_eq_false, not_false_eq_true, Int.reduceAdd, Int.reduceSub, Int.reduceMul, Int.reduceLE, Int.reduceLT, Int.reduceEq, Int.reduceNe, Int.reduceNeg, Int.reduceDiv, Int.reduceMod, Bool.false_eq_true, Int.le_refl, and_self, true_or, or_true, inR_l, fv0, fv1, fv2, fv3, nc2, nc4, nc6, nc16, nc25, nc60, nc65, nc80, nc130, nc384, nc390, fp_0_0, fp_0_1, fp_0_2, fp_1_0, fp_1_1, fp_1_2, fp_1_3, fp_1_4, fp_1_5, fp_1_6, fp_1_7, fp_1_8, fp_1_9, fp_1_10, fp_1_11, fp_1_12, fp_1_13, fp_1_14, fp_2_0, fp_2_1, fp_2_2, fp_2_3, fp_3_0, fp_3_1, fp_4_0, fp_4_1, fp_4_2, fp_4_3, fp_4_4, fp_4_5, fp_4_6, fp_4_7, fp_5_0, fp_5_1, fp_5_2, fp_5_3, fp_5_4, fp_5_5, fp_5_6, fp_5_7, fp_6_0, fp_6_1, fp_6_2, fp_6_3, fp_6_4, fp_6_5, fp_6_6, fp_6_7, fp_6_8, fp_6_9, fp_6_10, fp_6_11, fp_6_12, fp_6_13, fp_6_14, fp_6_15, fp_7_0, fp_7_1, fp_7_2, fp_7_3, fp_7_4, fp_7_5, fp_7_6, fp_7_7, fp_7_8, fp_7_9, fp_7_10, fp_7_11, fp_7_12, fp_7_13, fp_7_14, fp_7_15, fp_7_16, fp_7_17, fp_7_18, fp_7_19, fp_7_20, fp_7_21, fp_7_22, fp_7_23, fp_7_24, iz_0_1, iz_0_2, iz_1_8, iz_1_9, iz_1_11, iz_2_1, iz_2_2, iz_2_3, iz_3_1, iz_4_1, iz_4_2, iz_5_0, iz_6_8, iz_6_9, iz_6_13, iz_6_14, iz_6_15, iz_7_2, iz_7_6, iz_7_12, iz_7_20, iz_7_21, iz_7_23, iz_7_24, ak_8, ak_9, ak_10, ak_11, ak_12, ak_13, ak_14, ak_15, ak_16, ak_17, ak_18, ak_19, ak_20, ak_21, ak_22, ak_23, ak_24, ak_25, ak_26, ak_27, ak_28, ak_29, ak_30, ak_31, ak_32, ak_33, ak_34, ak_35, ak_36, ak_37, ak_38, ak_39, ak_40, ak_41, ak_42, ak_43, ak_44, ak_45, ak_46, ak_47, ak_48, ak_49, ak_50, ak_51, ak_52, ak_53, ak_54, ak_55, ak_56, el31, el33, el34, CL_plan, ca_L_plan, frL, kcL, klL, T_X6_lengthG, T_X6_countG, T_X6_orderG, T_L_on, T_X6_aboutG, T_L_end, T_X6_ofJobG, T_L_rest, T_X6_pathG, T_L_critical, exists_eq_right_right, exists_eq_right, exists_eq_left, Nat.lt_irrefl, and_self, implies_true, forall_const]
            have R := ejA_r hw hp hj
            have es := sm_s (ltA g.1) hj.1
            have em := mxS_s (ltA g.1) hj.1
            rw [← hs, ← hw1] at es
            rw [← hs, ← hu] at em
            refine ⟨g, hg', fun σ1 h1 => ⟨fun q => absurd ((of4 hj hp).trans he.symm) q, fun _ => ⟨g, h1, fun σ2 h2 => ⟨fun _ => ⟨by constructor <;> omega, fun a => ⟨by constructor <;> omega, by omega, hL, hl, es.symm, ?_, by omega, h2, hp, by omega⟩, fun a => ⟨by constructor <;> omega, by omega, hL, hl, es.symm, ?_, by omega, h2, hp, by omega⟩⟩, fun q => absurd ((of5 hj hp).trans hs.symm) q⟩⟩⟩⟩
            · rw [em, if_neg (by omega)]
            · rw [em, if_pos (by omega)]
          · exact hi.elim
        rw [if_neg hpc13] at hcut
        cases hcut
      · simp only [wp, stp, drp, entL, eL, lget, lset, okst, cnd, swt, rcv, Kr_int, Kr_bool, Kr_void, List.length_cons, List.length_nil, List.replicate, List.append_nil, List.cons_append, List.nil_append, List.take_succ_cons, List.take_zero, List.drop_succ_cons, List.drop_zero, List.reverse_cons, List.reverse_nil, Option.map_some, Option.map_none, Option.toList_some, Option.toList_none, Nat.reduceAdd, Nat.reduceSub, Nat.reduceLT, Nat.reduceLeDiff, Nat.reduceEqDiff, ↓reduceIte, Nat.add_zero, Nat.zero_add, true_and, and_true, Nat.le_refl, reduceCtorEq, false_implies, true_implies, not_true_eq_false, not_false_eq_true, Int.reduceAdd, Int.reduceSub, Int.reduceMul, Int.reduceLE, Int.reduceLT, Int.reduceEq, Int.reduceNe, Int.reduceNeg, Int.reduceDiv, Int.reduceMod, Bool.false_eq_true, Int.le_refl, and_self, true_or, or_true, inR_l, fv0, fv1, fv2, fv3, nc2, nc4, nc6, nc16, nc25, nc60, nc65, nc80, nc130, nc384, nc390, fp_0_0, fp_0_1, fp_0_2, fp_1_0, fp_1_1, fp_1_2, fp_1_3, fp_1_4, fp_1_5, fp_1_6, fp_1_7, fp_1_8, fp_1_9, fp_1_10, fp_1_11, fp_1_12, fp_1_13, fp_1_14, fp_2_0, fp_2_1, fp_2_2, fp_2_3, fp_3_0, fp_3_1, fp_4_0, fp_4_1, fp_4_2, fp_4_3, fp_4_4, fp_4_5, fp_4_6, fp_4_7, fp_5_0, fp_5_1, fp_5_2, fp_5_3, fp_5_4, fp_5_5, fp_5_6, fp_5_7, fp_6_0, fp_6_1, fp_6_2, fp_6_3, fp_6_4, fp_6_5, fp_6_6, fp_6_7, fp_6_8, fp_6_9, fp_6_10, fp_6_11, fp_6_12, fp_6_13, fp_6_14, fp_6_15, fp_7_0, fp_7_1, fp_7_2, fp_7_3, fp_7_4, fp_7_5, fp_7_6, fp_7_7, fp_7_8, fp_7_9, fp_7_10, fp_7_11, fp_7_12, fp_7_13, fp_7_14, fp_7_15, fp_7_16, fp_7_17, fp_7_18, fp_7_19, fp_7_20, fp_7_21, fp_7_22, fp_7_23, fp_7_24, iz_0_1, iz_0_2, iz_1_8, iz_1_9, iz_1_11, iz_2_1, iz_2_2, iz_2_3, iz_3_1, iz_4_1, iz_4_2, iz_5_0, iz_6_8, iz_6_9, iz_6_13, iz_6_14, iz_6_15, iz_7_2, iz_7_6, iz_7_12, iz_7_20, iz_7_21, iz_7_23, iz_7_24, ak_8, ak_9, ak_10, ak_11, ak_12, ak_13, ak_14, ak_15, ak_16, ak_17, ak_18, ak_19, ak_20, ak_21, ak_22, ak_23, ak_24, ak_25, ak_26, ak_27, ak_28, ak_29, ak_30, ak_31, ak_32, ak_33, ak_34, ak_35, ak_36, ak_37, ak_38, ak_39, ak_40, ak_41, ak_42, ak_43, ak_44, ak_45, ak_46, ak_47, ak_48, ak_49, ak_50, ak_51, ak_52, ak_53, ak_54, ak_55, ak_56, el31, el33, el34, CL_plan, ca_L_plan, frL, kcL, klL, T_X6_lengthG, T_X6_countG, T_X6_orderG, T_L_on, T_X6_aboutG, T_L_end, T_X6_ofJobG, T_L_rest, T_X6_pathG, T_L_critical, exists_eq_right_right, exists_eq_right, exists_eq_left, Nat.lt_irrefl, and_self, implies_true, forall_const]
        rcases lenA_s hw with ⟨hp, e, b, d⟩ | ⟨np, e⟩
        · exact ⟨g, hg, fun σ1 h1 => ⟨g, h1, fun σ2 h2 => ⟨fun _ => ⟨fun _ => ⟨rfl, h2, LON_0 hw⟩, fun q => absurd (ct7p hp) q⟩, fun q => by omega⟩⟩⟩
        · exact ⟨g, hg, fun σ1 h1 => ⟨g, h1, fun σ2 h2 => ⟨fun q => by omega, fun _ => ⟨fun _ => ⟨rfl, h2, LON_0 hw⟩, fun q => absurd (ct7n np) q⟩⟩⟩⟩
    · exact h.elim
