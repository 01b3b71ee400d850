def ca_L_told : Nat → Option (Nat × Nat × Tr)
  | 62 => some (1, 6, T_X6_lengthG)
  | 120 => some (1, 6, T_X6_wipeG)
  | 59 => some (3, 6, T_X6_orderG)
  | 125 => some (2, 6, T_X6_putG)
  | 131 => some (2, 6, T_X6_faultG)
  | 66 => some (3, 6, T_X6_swapS)
  | 134 => some (1, 6, T_X6_loadPlanG)
  | 69 => some (2, 6, T_X6_countG)
  | _ => none
theorem cao_L_told (l : Launch) : ∀ k n' ci T', ca_L_told k = some (n', ci, T') → ∃ nn, nn + 1 ≤ 7 ∧ Site l yL_told.cls k n' ci nn T' := by
  intro k n' ci T' h
  unfold ca_L_told at h
  split at h
  · cases h; exact ⟨6, by decide, _, _, _, _, k_X6_lengthG l, Or.inl ⟨_, rfl, FX6_length, KRL_62⟩⟩
  · cases h; exact ⟨0, by decide, _, _, _, _, k_X6_wipeG l, Or.inl ⟨_, rfl, FX6_wipe, KRL_120⟩⟩
  · cases h; exact ⟨2, by decide, _, _, _, _, k_X6_orderG l, Or.inl ⟨_, rfl, FX6_order, KRL_59⟩⟩
  · cases h; exact ⟨2, by decide, _, _, _, _, k_X6_putG l, Or.inl ⟨_, rfl, FX6_put, KRL_125⟩⟩
  · cases h; exact ⟨5, by decide, _, _, _, _, k_X6_faultG l, Or.inl ⟨_, rfl, FX6_fault, KRL_131⟩⟩
  · cases h; exact ⟨6, by decide, _, _, _, _, k_X6_swapS l, Or.inl ⟨_, rfl, FX6_swap, KRL_66⟩⟩
  · cases h; exact ⟨6, by decide, _, _, _, _, k_X6_loadPlanG l, Or.inl ⟨_, rfl, FX6_loadPlan, KRL_134⟩⟩
  · cases h; exact ⟨6, by decide, _, _, _, _, k_X6_countG l, Or.inl ⟨_, rfl, FX6_count, KRL_69⟩⟩
  · cases h
def ca2_L_told : Nat → Option (Nat × Nat × Tr)
  | 62 => some (1, 6, T_X6_lengthH)
  | 59 => some (3, 6, T_X6_orderH)
  | 131 => some (2, 6, T_X6_faultH)
  | 66 => some (3, 6, T_X6_swapH)
  | 134 => some (1, 6, T_X6_loadPlanH)
  | 69 => some (2, 6, T_X6_countH)
  | _ => none
theorem cao2_L_told (l : Launch) : ∀ k n' ci T', ca2_L_told k = some (n', ci, T') → ∃ nn T0, nn + 1 ≤ 7 ∧ Site l yL_told.cls k n' ci nn T0 ∧ ∀ a σ K, T' a σ K → M2 T0 a σ K := by
  intro k n' ci T' h
  unfold ca2_L_told at h
  split at h
  · cases h; exact ⟨6, T_X6_lengthG, by decide, ⟨_, _, _, _, k_X6_lengthG l, Or.inl ⟨_, rfl, FX6_length, KRL_62⟩⟩, m_X6_lengthH⟩
  · cases h; exact ⟨2, T_X6_orderG, by decide, ⟨_, _, _, _, k_X6_orderG l, Or.inl ⟨_, rfl, FX6_order, KRL_59⟩⟩, m_X6_orderH⟩
  · cases h; exact ⟨5, T_X6_faultG, by decide, ⟨_, _, _, _, k_X6_faultG l, Or.inl ⟨_, rfl, FX6_fault, KRL_131⟩⟩, m_X6_faultH⟩
  · cases h; exact ⟨6, T_X6_swapS, by decide, ⟨_, _, _, _, k_X6_swapS l, Or.inl ⟨_, rfl, FX6_swap, KRL_66⟩⟩, m_X6_swapH⟩
  · cases h; exact ⟨6, T_X6_loadPlanG, by decide, ⟨_, _, _, _, k_X6_loadPlanG l, Or.inl ⟨_, rfl, FX6_loadPlan, KRL_134⟩⟩, m_X6_loadPlanH⟩
  · cases h; exact ⟨6, T_X6_countG, by decide, ⟨_, _, _, _, k_X6_countG l, Or.inl ⟨_, rfl, FX6_count, KRL_69⟩⟩, m_X6_countH⟩
  · cases h
def T_L_told : Tr := fun a σ K => match a with
  | [.inr (.inl (6, 0))] => ∃ g, GS g σ ∧ (∃ m, 0 ≤ m ∧ m < 4 ∧ 0 < g.1 13 m) ∧ ∀ g' σ', GS g' σ' → g'.1 = g.1 → K (some 1) σ'
  | _ => False
set_option maxHeartbeats 8000000 in
set_option maxRecDepth 20000 in
theorem p2_L_told {K : Option Int → Mem → Prop} {g : Gh} {σ : Mem} {L k m : Int} {l4 l5 : Option AV} (hg : GS g σ) (hL : L = lenA g.1) (ht : Txt g.1 g.2.2.2.1 g.2.2.2.2 4 0 0) (hk : ∀ g' σ', GS g' σ' → g'.1 = g.1 → K (some 1) σ') : ∃ (cut2 : Cut) (f2 : Nat), (∀ pc I L S σ' k, cut2 pc = some I → I L S σ' k → wp (frL, kcL, klL, ca2_L_told, false, 0, fun _ => 0) CL_told cut2 (fun k' => k' < k) (Kr (some .boolean) K) f2 (drp pc CL_told) L S σ') ∧ wp (frL, kcL, klL, ca2_L_told, false, 0, fun _ => 0) CL_told cut2 (fun _ => True) (Kr (some .boolean) K) f2 (drp 126 CL_told) [some (.inr (.inl (6, 0))), some (.inl L), some (.inl k), some (.inl m), l4, l5] [.inr (.inl (57, 0))] (zr σ) := by
  have hw := GS_w hg
  have hc := GS_c hg
  have hrd := rd_all hw ht
  refine ⟨fun pc => if pc = 130 then some (fun L S σ' kz => match L, S with | [some (.inr (.inl c1)), some (.inl L), some (.inl k), some (.inr (.inl c3)), some (.inl i), _], [] => (c1 = (6, 0) ∧ c3 = (57, 0) ∧ L = lenA g.1 ∧ (0 ≤ i ∧ i ≤ 16) ∧ ∃ f, GX g f σ' ∧ ∀ k, 0 ≤ k → k < i → f k = ordA g.1 (k / 4) (k % 4)) ∧ kz = 9000 + (20 - i).toNat | _, _ => False) else if pc = 162 then some (fun L S σ' kz => match L, S with | [some (.inr (.inl c1)), some (.inl L), some (.inl k), some (.inr (.inl c3)), some (.inl m), _], [] => (c1 = (6, 0) ∧ c3 = (57, 0) ∧ L = lenA g.1 ∧ (0 ≤ m ∧ m ≤ 4) ∧ ∃ f w h, GX (w, h, g.2.2.1, g.2.2.2) f σ' ∧ SW g.1 w ∧ ∀ k, 0 ≤ k → k < 16 → f k = ordA g.1 (k / 4) (k % 4)) ∧ kz = 1000 + (20 - m).toNat * 100 | _, _ => False) else if pc = 171 then some (fun L S σ' kz => match L, S with | [some (.inr (.inl c1)), some (.inl L), some (.inl k), some (.inr (.inl c3)), some (.inl m), some (.inl x)], [] => (c1 = (6, 0) ∧ c3 = (57, 0) ∧ L = lenA g.1 ∧ (0 ≤ m ∧ m < 4) ∧ (0 ≤ x ∧ x ≤ 3) ∧ ∃ f w h, GX (w, h, g.2.2.1, g.2.2.2) f σ' ∧ SW g.1 w ∧ ∀ k, 0 ≤ k → k < 16 → f k = ordA g.1 (k / 4) (k % 4)) ∧ kz = 950 + (20 - m).toNat * 100 + (20 - x).toNat | _, _ => False) else if pc = 246 then some (fun L S σ' kz => match L, S with | [some (.inr (.inl c1)), some (.inl L), some (.inl k), some (.inr (.inl c3)), some (.inl i), _], [] => (c1 = (6, 0) ∧ c3 = (57, 0) ∧ L = lenA g.1 ∧ (0 ≤ i ∧ i ≤ 16) ∧ ∃ f g', GX g' f σ' ∧ g'.1 = g.1 ∧ ∀ k, 0 ≤ k → k < 16 → f k = ordA g.1 (k / 4) (k % 4)) ∧ kz = (20 - i).toNat | _, _ => False) else none, 200, ?_, ?_⟩
  · intro pc I L S σ' kz hcut hi
    dsimp only at hcut
    by_cases hpc0 : pc = 130
    · rw [if_pos hpc0] at hcut
      subst hpc0
      cases hcut
      try dsimp only at hi
      split at hi
      · rename_i c1 L k c3 i y5
        obtain ⟨hi, rfl⟩ := hi
        obtain ⟨rfl, rfl, hL, hi0, f, hf, hr⟩ := hi
        simp only [wp, stp, drp, entL, eL, lget, lset, okst, cnd, swt, rcv, Kr_int, Kr_bool, Kr_void, List.length_cons, List.length_nil, List.replicate, List.append_nil, List.cons_append, List.nil_append, List.take_succ_cons, List.take_zero, List.drop_succ_cons, List.drop_zero, List.reverse_cons, List.reverse_nil, Option.map_some, Option.map_none, Option.toList_some, Option.toList_none, Nat.reduceAdd, Nat.reduceSub, Nat.reduceLT, Nat.reduceLeDiff, Nat.reduceEqDiff, ↓reduceIte, Nat.add_zero, Nat.zero_add, true_and, and_true, Nat.le_refl, reduceCtorEq, false_implies, true_implies, not_true_eq_false, not_false_eq_true, Int.reduceAdd, Int.reduceSub, Int.reduceMul, Int.reduceLE, Int.reduceLT, Int.reduceEq, Int.reduceNe, Int.reduceNeg, Int.reduceDiv, Int.reduceMod, Bool.false_eq_true, Int.le_refl, and_self, true_or, or_true, inR_l, fv0, fv1, fv2, fv3, nc2, nc4, nc6, nc16, nc25, nc60, nc65, nc80, nc130, nc384, nc390, fp_0_0, fp_0_1, fp_0_2, fp_1_0, fp_1_1, fp_1_2, fp_1_3, fp_1_4, fp_1_5, fp_1_6, fp_1_7, fp_1_8, fp_1_9, fp_1_10, fp_1_11, fp_1_12, fp_1_13, fp_1_14, fp_2_0, fp_2_1, fp_2_2, fp_2_3, fp_3_0, fp_3_1, fp_4_0, fp_4_1, fp_4_2, fp_4_3, fp_4_4, fp_4_5, fp_4_6, fp_4_7, fp_5_0, fp_5_1, fp_5_2, fp_5_3, fp_5_4, fp_5_5, fp_5_6, fp_5_7, fp_6_0, fp_6_1, fp_6_2, fp_6_3, fp_6_4, fp_6_5, fp_6_6, fp_6_7, fp_6_8, fp_6_9, fp_6_10, fp_6_11, fp_6_12, fp_6_13, fp_6_14, fp_6_15, fp_7_0, fp_7_1, fp_7_2, fp_7_3, fp_7_4, fp_7_5, fp_7_6, fp_7_7, fp_7_8, fp_7_9, fp_7_10, fp_7_11, fp_7_12, fp_7_13, fp_7_14, fp_7_15, fp_7_16, fp_7_17, fp_7_18, fp_7_19, fp_7_20, fp_7_21, fp_7_22, fp_7_23, fp_7_24, iz_0_1, iz_0_2, iz_1_8, iz_1_9, iz_1_11, iz_2_1, iz_2_2, iz_2_3, iz_3_1, iz_4_1, iz_4_2, iz_5_0, iz_6_8, iz_6_9, iz_6_13, iz_6_14, iz_6_15, iz_7_2, iz_7_6, iz_7_12, iz_7_20, iz_7_21, iz_7_23, iz_7_24, ak_8, ak_9, ak_10, ak_11, ak_12, ak_13, ak_14, ak_15, ak_16, ak_17, ak_18, ak_19, ak_20, ak_21, ak_22, ak_23, ak_24, ak_25, ak_26, ak_27, ak_28, ak_29, ak_30, ak_31, ak_32, ak_33, ak_34, ak_35, ak_36, ak_37, ak_38, ak_39, ak_40, ak_41, ak_42, ak_43, ak_44, ak_45, ak_46, ak_47, ak_48, ak_49, ak_50, ak_51, ak_52, ak_53, ak_54, ak_55, ak_56, el31, el33, el34, CL_told, ca_L_told, frL, kcL, klL, T_X6_lengthH, T_X6_wipeG, T_X6_orderH, T_X6_putG, T_X6_faultH, T_X6_swapH, T_X6_loadPlanH, T_X6_countH, ca2_L_told, ak57, exists_eq_right_right, exists_eq_right, exists_eq_left, Nat.lt_irrefl, and_self, implies_true, forall_const]
        refine ⟨fun q => ⟨by omega, hL, f, g.1, g.2.1, hf, SW_r _, fun k k0 k1 => hr k k0 (by omega)⟩, fun q => ⟨hi0.1, hi0.1, g, f, hf, fun σ1 h1 => ⟨by omega, by constructor <;> omega, by omega, hL, by omega, _, GX_up h1 i _, fun k k0 k1 => ?_⟩⟩⟩
        by_cases z : k = i
        · rw [if_pos z, z]
        · rw [if_neg z]
          exact hr k k0 (by omega)
      · exact hi.elim
    rw [if_neg hpc0] at hcut
    by_cases hpc1 : pc = 162
    · rw [if_pos hpc1] at hcut
      subst hpc1
      cases hcut
      try dsimp only at hi
      split at hi
      · rename_i c1 L k c3 m y5
        obtain ⟨hi, rfl⟩ := hi
        obtain ⟨rfl, rfl, hL, hm0, f, w, h, hf, hs, hr⟩ := hi
        simp only [wp, stp, drp, entL, eL, lget, lset, okst, cnd, swt, rcv, Kr_int, Kr_bool, Kr_void, List.length_cons, List.length_nil, List.replicate, List.append_nil, List.cons_append, List.nil_append, List.take_succ_cons, List.take_zero, List.drop_succ_cons, List.drop_zero, List.reverse_cons, List.reverse_nil, Option.map_some, Option.map_none, Option.toList_some, Option.toList_none, Nat.reduceAdd, Nat.reduceSub, Nat.reduceLT, Nat.reduceLeDiff, Nat.reduceEqDiff, ↓reduceIte, Nat.add_zero, Nat.zero_add, true_and, and_true, Nat.le_refl, reduceCtorEq, false_implies, true_implies, not_true_eq_false, not_false_eq_true, Int.reduceAdd, Int.reduceSub, Int.reduceMul, Int.reduceLE, Int.reduceLT, Int.reduceEq, Int.reduceNe, Int.reduceNeg, Int.reduceDiv, Int.reduceMod, Bool.false_eq_true, Int.le_refl, and_self, true_or, or_true, inR_l, fv0, fv1, fv2, fv3, nc2, nc4, nc6, nc16, nc25, nc60, nc65, nc80, nc130, nc384, nc390, fp_0_0, fp_0_1, fp_0_2, fp_1_0, fp_1_1, fp_1_2, fp_1_3, fp_1_4, fp_1_5, fp_1_6, fp_1_7, fp_1_8, fp_1_9, fp_1_10, fp_1_11, fp_1_12, fp_1_13, fp_1_14, fp_2_0, fp_2_1, fp_2_2, fp_2_3, fp_3_0, fp_3_1, fp_4_0, fp_4_1, fp_4_2, fp_4_3, fp_4_4, fp_4_5, fp_4_6, fp_4_7, fp_5_0, fp_5_1, fp_5_2, fp_5_3, fp_5_4, fp_5_5, fp_5_6, fp_5_7, fp_6_0, fp_6_1, fp_6_2, fp_6_3, fp_6_4, fp_6_5, fp_6_6, fp_6_7, fp_6_8, fp_6_9, fp_6_10, fp_6_11, fp_6_12, fp_6_13, fp_6_14, fp_6_15, fp_7_0, fp_7_1, fp_7_2, fp_7_3, fp_7_4, fp_7_5, fp_7_6, fp_7_7, fp_7_8, fp_7_9, fp_7_10, fp_7_11, fp_7_12, fp_7_13, fp_7_14, fp_7_15, fp_7_16, fp_7_17, fp_7_18, fp_7_19, fp_7_20, fp_7_21, fp_7_22, fp_7_23, fp_7_24, iz_0_1, iz_0_2, iz_1_8, iz_1_9, iz_1_11, iz_2_1, iz_2_2, iz_2_3, iz_3_1, iz_4_1, iz_4_2, iz_5_0, iz_6_8, iz_6_9, iz_6_13, iz_6_14, iz_6_15, iz_7_2, iz_7_6, iz_7_12, iz_7_20, iz_7_21, iz_7_23, iz_7_24, ak_8, ak_9, ak_10, ak_11, ak_12, ak_13, ak_14, ak_15, ak_16, ak_17, ak_18, ak_19, ak_20, ak_21, ak_22, ak_23, ak_24, ak_25, ak_26, ak_27, ak_28, ak_29, ak_30, ak_31, ak_32, ak_33, ak_34, ak_35, ak_36, ak_37, ak_38, ak_39, ak_40, ak_41, ak_42, ak_43, ak_44, ak_45, ak_46, ak_47, ak_48, ak_49, ak_50, ak_51, ak_52, ak_53, ak_54, ak_55, ak_56, el31, el33, el34, CL_told, ca_L_told, frL, kcL, klL, T_X6_lengthH, T_X6_wipeG, T_X6_orderH, T_X6_putG, T_X6_faultH, T_X6_swapH, T_X6_loadPlanH, T_X6_countH, ca2_L_told, ak57, exists_eq_right_right, exists_eq_right, exists_eq_left, Nat.lt_irrefl, and_self, implies_true, forall_const]
        have B := SW_back hw hc hs hrd.2
        refine ⟨fun q => ⟨_, f, hf, fun σ1 h1 => ⟨fun z => absurd hrd.1 z, fun _ => ⟨_, f, h1, hrd.1, B.1, fun σ2 h2 => ?_⟩⟩⟩, fun q => ⟨by omega, hL, by omega, f, w, h, hf, hs, hr⟩⟩
        have h2a : GX (cnV (orV w (tqV w (pln0 g.2.2.2.1 g.2.2.2.2).2.2.1 (pln0 g.2.2.2.1 g.2.2.2.2).2.2.2)), w :: List.take 5 h, g.2.2.1, (g.2.2.2.1, 0)) f σ2 := h2
        rw [B.2] at h2a
        rcases lenA_s hw with ⟨hp, el, l0, -⟩ | ⟨np, el⟩
        · have px : pos (cnV (orV w (tqV w (pln0 g.2.2.2.1 g.2.2.2.2).2.2.1 (pln0 g.2.2.2.1 g.2.2.2.2).2.2.2))) := by
            rw [B.2]
            exact hp
          refine ⟨fun _ => ⟨fun z => absurd (cif_1 px) z, fun _ => ?_⟩, fun z => by omega⟩
          exact ⟨_, f, h2a, fun σ3 h3 => ⟨fun z => absurd hL.symm z, fun _ => ⟨_, f, h3, fun σ4 h4 => ⟨fun _ => ⟨by omega, hL, f, _, h4, rfl, hr⟩, fun z => absurd (ct8 (g := (g.1, w :: List.take 5 h, g.2.2.1, (g.2.2.2.1, (0 : Int))))) z⟩⟩⟩⟩
        · have px : ¬ pos (cnV (orV w (tqV w (pln0 g.2.2.2.1 g.2.2.2.2).2.2.1 (pln0 g.2.2.2.1 g.2.2.2.2).2.2.2))) := by
            rw [B.2]
            exact np
          refine ⟨fun z => by omega, fun _ => ⟨fun z => absurd (cif_0 px) z, fun _ => ?_⟩⟩
          exact ⟨_, f, h2a, fun σ3 h3 => ⟨fun z => absurd hL.symm z, fun _ => ⟨_, f, h3, fun σ4 h4 => ⟨fun _ => ⟨by omega, hL, f, _, h4, rfl, hr⟩, fun z => absurd (ct8 (g := (g.1, w :: List.take 5 h, g.2.2.1, (g.2.2.2.1, (0 : Int))))) z⟩⟩⟩⟩
      · exact hi.elim
    rw [if_neg hpc1] at hcut
    by_cases hpc2 : pc = 171
    · rw [if_pos hpc2] at hcut
      subst hpc2
      cases hcut
      try dsimp only at hi
      split at hi
      · rename_i c1 L k c3 m x
        obtain ⟨hi, rfl⟩ := hi
        obtain ⟨rfl, rfl, hL, hm0, hx0, f, w, h, hf, hs, hr⟩ := hi
        simp only [wp, stp, drp, entL, eL, lget, lset, okst, cnd, swt, rcv, Kr_int, Kr_bool, Kr_void, List.length_cons, List.length_nil, List.replicate, List.append_nil, List.cons_append, List.nil_append, List.take_succ_cons, List.take_zero, List.drop_succ_cons, List.drop_zero, List.reverse_cons, List.reverse_nil, Option.map_some, Option.map_none, Option.toList_some, Option.toList_none, Nat.reduceAdd, Nat.reduceSub, Nat.reduceLT, Nat.reduceLeDiff, Nat.reduceEqDiff, ↓reduceIte, Nat.add_zero, Nat.zero_add, true_and, and_true, Nat.le_refl, reduceCtorEq, false_implies, true_implies, not_true_eq_false, not_false_eq_true, Int.reduceAdd, Int.reduceSub, Int.reduceMul, Int.reduceLE, Int.reduceLT, Int.reduceEq, Int.reduceNe, Int.reduceNeg, Int.reduceDiv, Int.reduceMod, Bool.false_eq_true, Int.le_refl, and_self, true_or, or_true, inR_l, fv0, fv1, fv2, fv3, nc2, nc4, nc6, nc16, nc25, nc60, nc65, nc80, nc130, nc384, nc390, fp_0_0, fp_0_1, fp_0_2, fp_1_0, fp_1_1, fp_1_2, fp_1_3, fp_1_4, fp_1_5, fp_1_6, fp_1_7, fp_1_8, fp_1_9, fp_1_10, fp_1_11, fp_1_12, fp_1_13, fp_1_14, fp_2_0, fp_2_1, fp_2_2, fp_2_3, fp_3_0, fp_3_1, fp_4_0, fp_4_1, fp_4_2, fp_4_3, fp_4_4, fp_4_5, fp_4_6, fp_4_7, fp_5_0, fp_5_1, fp_5_2, fp_5_3, fp_5_4, fp_5_5, fp_5_6, fp_5_7, fp_6_0, fp_6_1, fp_6_2, fp_6_3, fp_6_4, fp_6_5, fp_6_6, fp_6_7, fp_6_8, fp_6_9, fp_6_10, fp_6_11, fp_6_12, fp_6_13, fp_6_14, fp_6_15, fp_7_0, fp_7_1, fp_7_2, fp_7_3, fp_7_4, fp_7_5, fp_7_6, fp_7_7, fp_7_8, fp_7_9, fp_7_10, fp_7_11, fp_7_12, fp_7_13, fp_7_14, fp_7_15, fp_7_16, fp_7_17, fp_7_18, fp_7_19, fp_7_20, fp_7_21, fp_7_22, fp_7_23, fp_7_24, iz_0_1, iz_0_2, iz_1_8, iz_1_9, iz_1_11, iz_2_1, iz_2_2, iz_2_3, iz_3_1, iz_4_1, iz_4_2, iz_5_0, iz_6_8, iz_6_9, iz_6_13, iz_6_14, iz_6_15, iz_7_2, iz_7_6, iz_7_12, iz_7_20, iz_7_21, iz_7_23, iz_7_24, ak_8, ak_9, ak_10, ak_11, ak_12, ak_13, ak_14, ak_15, ak_16, ak_17, ak_18, ak_19, ak_20, ak_21, ak_22, ak_23, ak_24, ak_25, ak_26, ak_27, ak_28, ak_29, ak_30, ak_31, ak_32, ak_33, ak_34, ak_35, ak_36, ak_37, ak_38, ak_39, ak_40, ak_41, ak_42, ak_43, ak_44, ak_45, ak_46, ak_47, ak_48, ak_49, ak_50, ak_51, ak_52, ak_53, ak_54, ak_55, ak_56, el31, el33, el34, CL_told, ca_L_told, frL, kcL, klL, T_X6_lengthH, T_X6_wipeG, T_X6_orderH, T_X6_putG, T_X6_faultH, T_X6_swapH, T_X6_loadPlanH, T_X6_countH, ca2_L_told, ak57, exists_eq_right_right, exists_eq_right, exists_eq_left, Nat.lt_irrefl, and_self, implies_true, forall_const]
        refine ⟨fun q => ⟨by constructor <;> omega, by omega, hL, by omega, f, w, h, hf, hs, hr⟩, fun q => ⟨_, f, hf, by omega, fun σ1 h1 => ⟨by constructor <;> omega, by omega, hL, hm0, by omega, ?_⟩⟩⟩
        rcases h1 with ⟨a, b⟩ | b
        · exact ⟨f, _, _, b, SW_s (GS_w hf.1) hs hm0.1 hm0.2 hx0.1 a, hr⟩
        · exact ⟨f, w, h, b, hs, hr⟩
      · exact hi.elim
    rw [if_neg hpc2] at hcut
    by_cases hpc3 : pc = 246
    · rw [if_pos hpc3] at hcut
      subst hpc3
      cases hcut
      try dsimp only at hi
      split at hi
      · rename_i c1 L k c3 i y5
        obtain ⟨hi, rfl⟩ := hi
        obtain ⟨rfl, rfl, hL, hi0, f, g', hf, hg1, hr⟩ := hi
        simp only [wp, stp, drp, entL, eL, lget, lset, okst, cnd, swt, rcv, Kr_int, Kr_bool, Kr_void, List.length_cons, List.length_nil, List.replicate, List.append_nil, List.cons_append, List.nil_append, List.take_succ_cons, List.take_zero, List.drop_succ_cons, List.drop_zero, List.reverse_cons, List.reverse_nil, Option.map_some, Option.map_none, Option.toList_some, Option.toList_none, Nat.reduceAdd, Nat.reduceSub, Nat.reduceLT, Nat.reduceLeDiff, Nat.reduceEqDiff, ↓reduceIte, Nat.add_zero, Nat.zero_add, true_and, and_true, Nat.le_refl, reduceCtorEq, false_implies, true_implies, not_true_eq_false, not_false_eq_true, Int.reduceAdd, Int.reduceSub, Int.reduceMul, Int.reduceLE, Int.reduceLT, Int.reduceEq, Int.reduceNe, Int.reduceNeg, Int.reduceDiv, Int.reduceMod, Bool.false_eq_true, Int.le_refl, and_self, true_or, or_true, inR_l, fv0, fv1, fv2, fv3, nc2, nc4, nc6, nc16, nc25, nc60, nc65, nc80, nc130, nc384, nc390, fp_0_0, fp_0_1, fp_0_2, fp_1_0, fp_1_1, fp_1_2, fp_1_3, fp_1_4, fp_1_5, fp_1_6, fp_1_7, fp_1_8, fp_1_9, fp_1_10, fp_1_11, fp_1_12, fp_1_13, fp_1_14, fp_2_0, fp_2_1, fp_2_2, fp_2_3, fp_3_0, fp_3_1, fp_4_0, fp_4_1, fp_4_2, fp_4_3, fp_4_4, fp_4_5, fp_4_6, fp_4_7, fp_5_0, fp_5_1, fp_5_2, fp_5_3, fp_5_4, fp_5_5, fp_5_6, fp_5_7, fp_6_0, fp_6_1, fp_6_2, fp_6_3, fp_6_4, fp_6_5, fp_6_6, fp_6_7, fp_6_8, fp_6_9, fp_6_10, fp_6_11, fp_6_12, fp_6_13, fp_6_14, fp_6_15, fp_7_0, fp_7_1, fp_7_2, fp_7_3, fp_7_4, fp_7_5, fp_7_6, fp_7_7, fp_7_8, fp_7_9, fp_7_10, fp_7_11, fp_7_12, fp_7_13, fp_7_14, fp_7_15, fp_7_16, fp_7_17, fp_7_18, fp_7_19, fp_7_20, fp_7_21, fp_7_22, fp_7_23, fp_7_24, iz_0_1, iz_0_2, iz_1_8, iz_1_9, iz_1_11, iz_2_1, iz_2_2, iz_2_3, iz_3_1, iz_4_1, iz_4_2, iz_5_0, iz_6_8, iz_6_9, iz_6_13, iz_6_14, iz_6_15, iz_7_2, iz_7_6, iz_7_12, iz_7_20, iz_7_21, iz_7_23, iz_7_24, ak_8, ak_9, ak_10, ak_11, ak_12, ak_13, ak_14, ak_15, ak_16, ak_17, ak_18, ak_19, ak_20, ak_21, ak_22, ak_23, ak_24, ak_25, ak_26, ak_27, ak_28, ak_29, ak_30, ak_31, ak_32, ak_33, ak_34, ak_35, ak_36, ak_37, ak_38, ak_39, ak_40, ak_41, ak_42, ak_43, ak_44, ak_45, ak_46, ak_47, ak_48, ak_49, ak_50, ak_51, ak_52, ak_53, ak_54, ak_55, ak_56, el31, el33, el34, CL_told, ca_L_told, frL, kcL, klL, T_X6_lengthH, T_X6_wipeG, T_X6_orderH, T_X6_putG, T_X6_faultH, T_X6_swapH, T_X6_loadPlanH, T_X6_countH, ca2_L_told, ak57, exists_eq_right_right, exists_eq_right, exists_eq_left, Nat.lt_irrefl, and_self, implies_true, forall_const]
        refine ⟨fun _ => hk _ _ hf.1 hg1, fun q => ⟨hi0.1, hi0.1, g', f, hf, fun σ1 h1 => ⟨by omega, fun _ => ⟨by constructor <;> omega, by omega, hL, by omega, f, g', h1, hg1, hr⟩, fun z => ?_⟩⟩⟩
        refine absurd ?_ z
        rw [h1.2 i, hr i hi0.1 (by omega), hg1]
      · exact hi.elim
    rw [if_neg hpc3] at hcut
    cases hcut
  · simp only [wp, stp, drp, entL, eL, lget, lset, okst, cnd, swt, rcv, Kr_int, Kr_bool, Kr_void, List.length_cons, List.length_nil, List.replicate, List.append_nil, List.cons_append, List.nil_append, List.take_succ_cons, List.take_zero, List.drop_succ_cons, List.drop_zero, List.reverse_cons, List.reverse_nil, Option.map_some, Option.map_none, Option.toList_some, Option.toList_none, Nat.reduceAdd, Nat.reduceSub, Nat.reduceLT, Nat.reduceLeDiff, Nat.reduceEqDiff, ↓reduceIte, Nat.add_zero, Nat.zero_add, true_and, and_true, Nat.le_refl, reduceCtorEq, false_implies, true_implies, not_true_eq_false, not_false_eq_true, Int.reduceAdd, Int.reduceSub, Int.reduceMul, Int.reduceLE, Int.reduceLT, Int.reduceEq, Int.reduceNe, Int.reduceNeg, Int.reduceDiv, Int.reduceMod, Bool.false_eq_true, Int.le_refl, and_self, true_or, or_true, inR_l, fv0, fv1, fv2, fv3, nc2, nc4, nc6, nc16, nc25, nc60, nc65, nc80, nc130, nc384, nc390, fp_0_0, fp_0_1, fp_0_2, fp_1_0, fp_1_1, fp_1_2, fp_1_3, fp_1_4, fp_1_5, fp_1_6, fp_1_7, fp_1_8, fp_1_9, fp_1_10, fp_1_11, fp_1_12, fp_1_13, fp_1_14, fp_2_0, fp_2_1, fp_2_2, fp_2_3, fp_3_0, fp_3_1, fp_4_0, fp_4_1, fp_4_2, fp_4_3, fp_4_4, fp_4_5, fp_4_6, fp_4_7, fp_5_0, fp_5_1, fp_5_2, fp_5_3, fp_5_4, fp_5_5, fp_5_6, fp_5_7, fp_6_0, fp_6_1, fp_6_2, fp_6_3, fp_6_4, fp_6_5, fp_6_6, fp_6_7, fp_6_8, fp_6_9, fp_6_10, fp_6_11, fp_6_12, fp_6_13, fp_6_14, fp_6_15, fp_7_0, fp_7_1, fp_7_2, fp_7_3, fp_7_4, fp_7_5, fp_7_6, fp_7_7, fp_7_8, fp_7_9, fp_7_10, fp_7_11, fp_7_12, fp_7_13, fp_7_14, fp_7_15, fp_7_16, fp_7_17, fp_7_18, fp_7_19, fp_7_20, fp_7_21, fp_7_22, fp_7_23, fp_7_24, iz_0_1, iz_0_2, iz_1_8, iz_1_9, iz_1_11, iz_2_1, iz_2_2, iz_2_3, iz_3_1, iz_4_1, iz_4_2, iz_5_0, iz_6_8, iz_6_9, iz_6_13, iz_6_14, iz_6_15, iz_7_2, iz_7_6, iz_7_12, iz_7_20, iz_7_21, iz_7_23, iz_7_24, ak_8, ak_9, ak_10, ak_11, ak_12, ak_13, ak_14, ak_15, ak_16, ak_17, ak_18, ak_19, ak_20, ak_21, ak_22, ak_23, ak_24, ak_25, ak_26, ak_27, ak_28, ak_29, ak_30, ak_31, ak_32, ak_33, ak_34, ak_35, ak_36, ak_37, ak_38, ak_39, ak_40, ak_41, ak_42, ak_43, ak_44, ak_45, ak_46, ak_47, ak_48, ak_49, ak_50, ak_51, ak_52, ak_53, ak_54, ak_55, ak_56, el31, el33, el34, CL_told, ca_L_told, frL, kcL, klL, T_X6_lengthH, T_X6_wipeG, T_X6_orderH, T_X6_putG, T_X6_faultH, T_X6_swapH, T_X6_loadPlanH, T_X6_countH, ca2_L_told, ak57, exists_eq_right_right, exists_eq_right, exists_eq_left, Nat.lt_irrefl, and_self, implies_true, forall_const]
    exact ⟨hL, _, GX_0 hg, fun k a b => by omega⟩
set_option maxHeartbeats 8000000 in
set_option maxRecDepth 20000 in
theorem k_L_told (l : Launch) : CtN l yL_told cL_told 6 (some .boolean) 7 T_L_told := by
  refine mk_N (by decide +kernel) hCL_told lCL_told frL_ok cstL_ok (cao_L_told l) (cao2_L_told l) wInt (by decide +kernel : decode cL_told 124 = .ok (.newarray .int, 2)) ?_ ?_
  · intro a σ K h
    unfold T_L_told at h
    split at h
    · simp [eL]
    · exact h.elim
  · intro a σ K ha hR h
    unfold T_L_told at h
    split at h
    · obtain ⟨g, hg, hm, hk⟩ := h
      have hw := GS_w hg
      have J4 := hw.1.1
      refine ⟨fun pc => if pc = 14 then some (fun L S σ' kz => match L, S with | [some (.inr (.inl c1)), some (.inl L), some (.inl k), some (.inl m), l4, l5], [] => (c1 = (6, 0) ∧ L = lenA g.1 ∧ (0 ≤ k ∧ k ≤ m ∧ m ≤ 4) ∧ ∃ f n, GS (g.1, g.2.1, g.2.2.1, (f, n)) σ' ∧ Cnt g.1 m f n ∧ (0 ≤ n ∧ n ≤ 7 * m) ∧ (k = 0 ↔ n = 0) ∧ (n = 0 → ∀ m', 0 ≤ m' → m' < m → g.1 13 m' = 0)) ∧ kz = (10 - m).toNat * 100 + 50 | _, _ => False) else if pc = 63 then some (fun L S σ' kz => match L, S with | [some (.inr (.inl c1)), some (.inl L), some (.inl k), some (.inl m), some (.inl x), l5], [] => (c1 = (6, 0) ∧ L = lenA g.1 ∧ (0 ≤ k ∧ k ≤ m ∧ m < 4) ∧ 0 < g.1 13 m ∧ (0 ≤ x ∧ x ≤ g.1 13 m) ∧ ∃ f b, GS (g.1, g.2.1, g.2.2.1, (f, b + 2 + x)) σ' ∧ Csg g.1 m f b ∧ (0 ≤ b ∧ b ≤ 7 * m + 1) ∧ f b = 48 + m ∧ f (b + 1) = 58 ∧ ∀ y, 0 ≤ y → y < x → f (b + 2 + y) = 48 + g.1 14 (4 * m + y)) ∧ kz = (10 - m).toNat * 100 + (10 - x).toNat | _, _ => False) else if pc = 124 then some (fun L S σ' kz => match L, S with | [some (.inr (.inl c1)), some (.inl L), some (.inl k), some (.inl m), l4, l5], [.inl w] => (c1 = (6, 0) ∧ w = 16 ∧ L = lenA g.1 ∧ ∃ f n, GS (g.1, g.2.1, g.2.2.1, (f, n)) σ' ∧ Txt g.1 f n 4 0 0) ∧ kz = 1 | _, _ => False) else none, 300, ?_, ?_⟩
      · intro pc I L S σ' kz hcut hi
        dsimp only at hcut
        by_cases hpc0 : pc = 14
        · rw [if_pos hpc0] at hcut
          subst hpc0
          cases hcut
          try dsimp only at hi
          split at hi
          · rename_i c1 L k m l4 l5
            obtain ⟨hi, rfl⟩ := hi
            obtain ⟨rfl, hL, hkm, f, n, hg', hC, hn, hkn, hz⟩ := hi
            refine Or.inl ?_
            simp only [wp, stp, drp, entL, eL, lget, lset, okst, cnd, swt, rcv, Kr_int, Kr_bool, Kr_void, List.length_cons, List.length_nil, List.replicate, List.append_nil, List.cons_append, List.nil_append, List.take_succ_cons, List.take_zero, List.drop_succ_cons, List.drop_zero, List.reverse_cons, List.reverse_nil, Option.map_some, Option.map_none, Option.toList_some, Option.toList_none, Nat.reduceAdd, Nat.reduceSub, Nat.reduceLT, Nat.reduceLeDiff, Nat.reduceEqDiff, ↓reduceIte, Nat.add_zero, Nat.zero_add, true_and, and_true, Nat.le_refl, reduceCtorEq, false_implies, true_implies, not_true_eq_false, not_false_eq_true, Int.reduceAdd, Int.reduceSub, Int.reduceMul, Int.reduceLE, Int.reduceLT, Int.reduceEq, Int.reduceNe, Int.reduceNeg, Int.reduceDiv, Int.reduceMod, Bool.false_eq_true, Int.le_refl, and_self, true_or, or_true, inR_l, fv0, fv1, fv2, fv3, nc2, nc4, nc6, nc16, nc25, nc60, nc65, nc80, nc130, nc384, nc390, fp_0_0, fp_0_1, fp_0_2, fp_1_0, fp_1_1, fp_1_2, fp_1_3, fp_1_4, fp_1_5, fp_1_6, fp_1_7, fp_1_8, fp_1_9, fp_1_10, fp_1_11, fp_1_12, fp_1_13, fp_1_14, fp_2_0, fp_2_1, fp_2_2, fp_2_3, fp_3_0, fp_3_1, fp_4_0, fp_4_1, fp_4_2, fp_4_3, fp_4_4, fp_4_5, fp_4_6, fp_4_7, fp_5_0, fp_5_1, fp_5_2, fp_5_3, fp_5_4, fp_5_5, fp_5_6, fp_5_7, fp_6_0, fp_6_1, fp_6_2, fp_6_3, fp_6_4, fp_6_5, fp_6_6, fp_6_7, fp_6_8, fp_6_9, fp_6_10, fp_6_11, fp_6_12, fp_6_13, fp_6_14, fp_6_15, fp_7_0, fp_7_1, fp_7_2, fp_7_3, fp_7_4, fp_7_5, fp_7_6, fp_7_7, fp_7_8, fp_7_9, fp_7_10, fp_7_11, fp_7_12, fp_7_13, fp_7_14, fp_7_15, fp_7_16, fp_7_17, fp_7_18, fp_7_19, fp_7_20, fp_7_21, fp_7_22, fp_7_23, fp_7_24, iz_0_1, iz_0_2, iz_1_8, iz_1_9, iz_1_11, iz_2_1, iz_2_2, iz_2_3, iz_3_1, iz_4_1, iz_4_2, iz_5_0, iz_6_8, iz_6_9, iz_6_13, iz_6_14, iz_6_15, iz_7_2, iz_7_6, iz_7_12, iz_7_20, iz_7_21, iz_7_23, iz_7_24, ak_8, ak_9, ak_10, ak_11, ak_12, ak_13, ak_14, ak_15, ak_16, ak_17, ak_18, ak_19, ak_20, ak_21, ak_22, ak_23, ak_24, ak_25, ak_26, ak_27, ak_28, ak_29, ak_30, ak_31, ak_32, ak_33, ak_34, ak_35, ak_36, ak_37, ak_38, ak_39, ak_40, ak_41, ak_42, ak_43, ak_44, ak_45, ak_46, ak_47, ak_48, ak_49, ak_50, ak_51, ak_52, ak_53, ak_54, ak_55, ak_56, el31, el33, el34, CL_told, ca_L_told, frL, kcL, klL, T_X6_lengthG, T_X6_wipeG, T_X6_orderG, T_X6_putG, T_X6_faultG, T_X6_swapS, T_X6_loadPlanG, T_X6_countG, exists_eq_right_right, exists_eq_right, exists_eq_left, Nat.lt_irrefl, and_self, implies_true, forall_const]
            refine ⟨fun q => ?_, fun q => ⟨_, hg', fun σ1 h1 => ?_⟩⟩
            · have k0 : k ≠ 0 := fun e => by
                obtain ⟨m', a, b, c⟩ := hm
                have := hz (hkn.mp e) m' a (by omega)
                omega
              have n0 : n ≠ 0 := fun e => k0 (hkn.mpr e)
              have e4 : m = 4 := by omega
              rw [e4] at hC
              exact ⟨fun _ => ⟨by omega, hL, f, n, hg', Cnt_e hC (by omega)⟩, fun z => absurd k0 z⟩
            have m0 : 0 ≤ m := by omega
            have m1 : m < 4 := by omega
            have l4 := ln_w hw m0 m1
            have q0 := ord_p (v := g.1) (m := m) (k := 0) m0 (by omega) (Int.le_refl 0)
            refine ⟨fun z => ?_, fun z => ?_⟩
            · have c : 0 < g.1 13 m := Classical.byContradiction (fun c => by
                rw [if_neg c] at q0
                have z' : 0 ≤ ordA g.1 m 0 := z
                omega)
              have P := pm_1 (d := m) m0 m1
              refine ⟨fun k0 => ?_, fun k0 => ?_⟩
              · have n0 : n = 0 := hkn.mp (by omega)
                have T := pt_2 (f := f) (n := n) P
                refine ⟨by constructor <;> omega, _, h1, ?_, fun σ2 h2 => ?_⟩
                · rw [P.1]
                  exact ⟨by omega, show n + 2 ≤ 80 by omega⟩
                · have h2' : GS (g.1, g.2.1, g.2.2.1, (ptF f n ((Int32.ofInt (48 + m)).toInt64 <<< ((Int32.ofInt 8).toInt64 &&& 63) ||| 58) (sgS 8 ((Int32.ofInt (48 + m)).toInt64 <<< ((Int32.ofInt 8).toInt64 &&& 63) ||| 58) 0), n + sgS 8 ((Int32.ofInt (48 + m)).toInt64 <<< ((Int32.ofInt 8).toInt64 &&& 63) ||| 58) 0)) σ2 := h2
                  rw [show n + sgS 8 ((Int32.ofInt (48 + m)).toInt64 <<< ((Int32.ofInt 8).toInt64 &&& 63) ||| 58) 0 = n + 2 + 0 by rw [P.1]; omega] at h2'
                  refine ⟨by omega, hL, by omega, c, by omega, _, n, h2', ?_, by omega, T.2.1, T.2.2, fun y a b => by omega⟩
                  subst n0
                  exact Csg_cg (Csg_0 hC) (fun y _ b => T.1 y b)
              · have n0 : 0 < n := by
                  have : n ≠ 0 := fun e => by
                    have := hkn.mpr e
                    omega
                  omega
                have T1 := pt_1 (f := f) (n := n) ps_1
                have T := pt_2 (f := ptF f n 59 (sgS 8 59 0)) (n := n + 1) P
                refine ⟨_, h1, ?_, fun σ2 h2 => ?_⟩
                · rw [ps_1.1]
                  exact ⟨by omega, show n + 1 ≤ 80 by omega⟩
                · have h2' : GS (g.1, g.2.1, g.2.2.1, (ptF f n 59 (sgS 8 59 0), n + sgS 8 59 0)) σ2 := h2
                  rw [show n + sgS 8 59 0 = n + 1 by rw [ps_1.1]] at h2'
                  refine ⟨by constructor <;> omega, _, h2', ?_, fun σ3 h3 => ?_⟩
                  · rw [P.1]
                    exact ⟨by omega, show n + 1 + 2 ≤ 80 by omega⟩
                  · have h3' : GS (g.1, g.2.1, g.2.2.1, (ptF (ptF f n 59 (sgS 8 59 0)) (n + 1) ((Int32.ofInt (48 + m)).toInt64 <<< ((Int32.ofInt 8).toInt64 &&& 63) ||| 58) (sgS 8 ((Int32.ofInt (48 + m)).toInt64 <<< ((Int32.ofInt 8).toInt64 &&& 63) ||| 58) 0), n + 1 + sgS 8 ((Int32.ofInt (48 + m)).toInt64 <<< ((Int32.ofInt 8).toInt64 &&& 63) ||| 58) 0)) σ3 := h3
                    rw [show n + 1 + sgS 8 ((Int32.ofInt (48 + m)).toInt64 <<< ((Int32.ofInt 8).toInt64 &&& 63) ||| 58) 0 = n + 1 + 2 + 0 by rw [P.1]; omega] at h3'
                    exact ⟨by omega, hL, by omega, c, by omega, _, n + 1, h3', Csg_cg (Csg_1 hC n0 (fun y b => T1.1 y b) T1.2) (fun y _ b => T.1 y b), by omega, T.2.1, T.2.2, fun y a b => by omega⟩
            · have c : g.1 13 m = 0 := by
                by_cases c : 0 < g.1 13 m
                · rw [if_pos c] at q0
                  have j := oq_j hw m0 m1 (Int.le_refl 0) c
                  have z' : ¬ 0 ≤ ordA g.1 m 0 := z
                  omega
                · omega
              exact ⟨by constructor <;> omega, by omega, hL, by omega, f, n, h1, Cnt_n hC m0 m1 c, by omega, hkn, fun e m' a b => by
                by_cases w : m' = m
                · rw [w]
                  exact c
                · exact hz e m' a (by omega)⟩
          · exact hi.elim
        rw [if_neg hpc0] at hcut
        by_cases hpc1 : pc = 63
        · rw [if_pos hpc1] at hcut
          subst hpc1
          cases hcut
          try dsimp only at hi
          split at hi
          · rename_i c1 L k m x l5
            obtain ⟨hi, rfl⟩ := hi
            obtain ⟨rfl, hL, hkm, hl, hx0, f, b, hg', hC, hb, f1, f2, f3⟩ := hi
            refine Or.inl ?_
            simp only [wp, stp, drp, entL, eL, lget, lset, okst, cnd, swt, rcv, Kr_int, Kr_bool, Kr_void, List.length_cons, List.length_nil, List.replicate, List.append_nil, List.cons_append, List.nil_append, List.take_succ_cons, List.take_zero, List.drop_succ_cons, List.drop_zero, List.reverse_cons, List.reverse_nil, Option.map_some, Option.map_none, Option.toList_some, Option.toList_none, Nat.reduceAdd, Nat.reduceSub, Nat.reduceLT, Nat.reduceLeDiff, Nat.reduceEqDiff, ↓reduceIte, Nat.add_zero, Nat.zero_add, true_and, and_true, Nat.le_refl, reduceCtorEq, false_implies, true_implies, not_true_eq_false, not_false_eq_true, Int.reduceAdd, Int.reduceSub, Int.reduceMul, Int.reduceLE, Int.reduceLT, Int.reduceEq, Int.reduceNe, Int.reduceNeg, Int.reduceDiv, Int.reduceMod, Bool.false_eq_true, Int.le_refl, and_self, true_or, or_true, inR_l, fv0, fv1, fv2, fv3, nc2, nc4, nc6, nc16, nc25, nc60, nc65, nc80, nc130, nc384, nc390, fp_0_0, fp_0_1, fp_0_2, fp_1_0, fp_1_1, fp_1_2, fp_1_3, fp_1_4, fp_1_5, fp_1_6, fp_1_7, fp_1_8, fp_1_9, fp_1_10, fp_1_11, fp_1_12, fp_1_13, fp_1_14, fp_2_0, fp_2_1, fp_2_2, fp_2_3, fp_3_0, fp_3_1, fp_4_0, fp_4_1, fp_4_2, fp_4_3, fp_4_4, fp_4_5, fp_4_6, fp_4_7, fp_5_0, fp_5_1, fp_5_2, fp_5_3, fp_5_4, fp_5_5, fp_5_6, fp_5_7, fp_6_0, fp_6_1, fp_6_2, fp_6_3, fp_6_4, fp_6_5, fp_6_6, fp_6_7, fp_6_8, fp_6_9, fp_6_10, fp_6_11, fp_6_12, fp_6_13, fp_6_14, fp_6_15, fp_7_0, fp_7_1, fp_7_2, fp_7_3, fp_7_4, fp_7_5, fp_7_6, fp_7_7, fp_7_8, fp_7_9, fp_7_10, fp_7_11, fp_7_12, fp_7_13, fp_7_14, fp_7_15, fp_7_16, fp_7_17, fp_7_18, fp_7_19, fp_7_20, fp_7_21, fp_7_22, fp_7_23, fp_7_24, iz_0_1, iz_0_2, iz_1_8, iz_1_9, iz_1_11, iz_2_1, iz_2_2, iz_2_3, iz_3_1, iz_4_1, iz_4_2, iz_5_0, iz_6_8, iz_6_9, iz_6_13, iz_6_14, iz_6_15, iz_7_2, iz_7_6, iz_7_12, iz_7_20, iz_7_21, iz_7_23, iz_7_24, ak_8, ak_9, ak_10, ak_11, ak_12, ak_13, ak_14, ak_15, ak_16, ak_17, ak_18, ak_19, ak_20, ak_21, ak_22, ak_23, ak_24, ak_25, ak_26, ak_27, ak_28, ak_29, ak_30, ak_31, ak_32, ak_33, ak_34, ak_35, ak_36, ak_37, ak_38, ak_39, ak_40, ak_41, ak_42, ak_43, ak_44, ak_45, ak_46, ak_47, ak_48, ak_49, ak_50, ak_51, ak_52, ak_53, ak_54, ak_55, ak_56, el31, el33, el34, CL_told, ca_L_told, frL, kcL, klL, T_X6_lengthG, T_X6_wipeG, T_X6_orderG, T_X6_putG, T_X6_faultG, T_X6_swapS, T_X6_loadPlanG, T_X6_countG, exists_eq_right_right, exists_eq_right, exists_eq_left, Nat.lt_irrefl, and_self, implies_true, forall_const]
            have m0 : 0 ≤ m := by omega
            have m1 : m < 4 := by omega
            have l4 := ln_w hw m0 m1
            have q0 := ord_p (v := g.1) (m := m) (k := x) m0 (by omega) hx0.1
            refine ⟨_, hg', fun σ1 h1 => ⟨fun z => ?_, fun z => ⟨_, h1, fun σ2 h2 => ?_⟩⟩⟩
            · by_cases c : x < g.1 13 m
              · rw [if_pos c] at q0
                have j := oq_j hw m0 m1 hx0.1 c
                have z' : ordA g.1 m x < 0 := z
                omega
              · have e : x = g.1 13 m := by omega
                refine ⟨by constructor <;> omega, by constructor <;> omega, by omega, hL, by omega, f, b + 2 + x, h1, ?_, by omega, ⟨fun _ => by omega, fun _ => by omega⟩, fun e => by omega⟩
                rw [e]
                exact Cnt_s hC hb.1 m0 m1 hl f1 f2 (fun y a c => f3 y a (by omega))
            · have z' : ¬ ordA g.1 m x < 0 := z
              have c : x < g.1 13 m := Classical.byContradiction (fun c => by
                rw [if_neg c] at q0
                omega)
              rw [if_pos c] at q0
              have j := oq_j hw m0 m1 hx0.1 c
              have P := pd_1 (d := ordA g.1 m x) (by omega) (by omega)
              have T := pt_1 (f := f) (n := b + 2 + x) P
              refine ⟨show inR (48 + ordA g.1 m x) from by constructor <;> omega, _, h2, ?_, fun σ3 h3 => ?_⟩
              · show 1 ≤ sgS 8 (Int32.ofInt (48 + ordA g.1 m x)).toInt64 0 ∧ b + 2 + x + sgS 8 (Int32.ofInt (48 + ordA g.1 m x)).toInt64 0 ≤ 80
                rw [P.1]
                omega
              · have h3' : GS (g.1, g.2.1, g.2.2.1, (ptF f (b + 2 + x) (Int32.ofInt (48 + ordA g.1 m x)).toInt64 (sgS 8 (Int32.ofInt (48 + ordA g.1 m x)).toInt64 0), b + 2 + x + sgS 8 (Int32.ofInt (48 + ordA g.1 m x)).toInt64 0)) σ3 := h3
                rw [show b + 2 + x + sgS 8 (Int32.ofInt (48 + ordA g.1 m x)).toInt64 0 = b + 2 + (x + 1) by rw [P.1]; omega] at h3'
                refine ⟨by constructor <;> omega, by omega, hL, hkm, hl, by omega, _, b, h3', Csg_cg hC (fun y _ c => T.1 y (by omega)), hb, (T.1 _ (by omega)).trans f1, (T.1 _ (by omega)).trans f2, fun y a c => ?_⟩
                by_cases w : y = x
                · rw [w, ← q0]
                  exact T.2
                · exact (T.1 _ (by omega)).trans (f3 y a (by omega))
          · exact hi.elim
        rw [if_neg hpc1] at hcut
        by_cases hpc2 : pc = 124
        · rw [if_pos hpc2] at hcut
          subst hpc2
          cases hcut
          try dsimp only at hi
          split at hi
          · rename_i c1 L k m l4 l5 w
            obtain ⟨hi, rfl⟩ := hi
            obtain ⟨rfl, rfl, hL, f, n, hg', ht⟩ := hi
            exact Or.inr ⟨rfl, rfl, p2_L_told (g := (g.1, g.2.1, g.2.2.1, (f, n))) hg' hL ht hk⟩
          · exact hi.elim
        rw [if_neg hpc2] at hcut
        cases hcut
      · simp only [wp, stp, drp, entL, eL, lget, lset, okst, cnd, swt, rcv, Kr_int, Kr_bool, Kr_void, List.length_cons, List.length_nil, List.replicate, List.append_nil, List.cons_append, List.nil_append, List.take_succ_cons, List.take_zero, List.drop_succ_cons, List.drop_zero, List.reverse_cons, List.reverse_nil, Option.map_some, Option.map_none, Option.toList_some, Option.toList_none, Nat.reduceAdd, Nat.reduceSub, Nat.reduceLT, Nat.reduceLeDiff, Nat.reduceEqDiff, ↓reduceIte, Nat.add_zero, Nat.zero_add, true_and, and_true, Nat.le_refl, reduceCtorEq, false_implies, true_implies, not_true_eq_false, not_false_eq_true, Int.reduceAdd, Int.reduceSub, Int.reduceMul, Int.reduceLE, Int.reduceLT, Int.reduceEq, Int.reduceNe, Int.reduceNeg, Int.reduceDiv, Int.reduceMod, Bool.false_eq_true, Int.le_refl, and_self, true_or, or_true, inR_l, fv0, fv1, fv2, fv3, nc2, nc4, nc6, nc16, nc25, nc60, nc65, nc80, nc130, nc384, nc390, fp_0_0, fp_0_1, fp_0_2, fp_1_0, fp_1_1, fp_1_2, fp_1_3, fp_1_4, fp_1_5, fp_1_6, fp_1_7, fp_1_8, fp_1_9, fp_1_10, fp_1_11, fp_1_12, fp_1_13, fp_1_14, fp_2_0, fp_2_1, fp_2_2, fp_2_3, fp_3_0, fp_3_1, fp_4_0, fp_4_1, fp_4_2, fp_4_3, fp_4_4, fp_4_5, fp_4_6, fp_4_7, fp_5_0, fp_5_1, fp_5_2, fp_5_3, fp_5_4, fp_5_5, fp_5_6, fp_5_7, fp_6_0, fp_6_1, fp_6_2, fp_6_3, fp_6_4, fp_6_5, fp_6_6, fp_6_7, fp_6_8, fp_6_9, fp_6_10, fp_6_11, fp_6_12, fp_6_13, fp_6_14, fp_6_15, fp_7_0, fp_7_1, fp_7_2, fp_7_3, fp_7_4, fp_7_5, fp_7_6, fp_7_7, fp_7_8, fp_7_9, fp_7_10, fp_7_11, fp_7_12, fp_7_13, fp_7_14, fp_7_15, fp_7_16, fp_7_17, fp_7_18, fp_7_19, fp_7_20, fp_7_21, fp_7_22, fp_7_23, fp_7_24, iz_0_1, iz_0_2, iz_1_8, iz_1_9, iz_1_11, iz_2_1, iz_2_2, iz_2_3, iz_3_1, iz_4_1, iz_4_2, iz_5_0, iz_6_8, iz_6_9, iz_6_13, iz_6_14, iz_6_15, iz_7_2, iz_7_6, iz_7_12, iz_7_20, iz_7_21, iz_7_23, iz_7_24, ak_8, ak_9, ak_10, ak_11, ak_12, ak_13, ak_14, ak_15, ak_16, ak_17, ak_18, ak_19, ak_20, ak_21, ak_22, ak_23, ak_24, ak_25, ak_26, ak_27, ak_28, ak_29, ak_30, ak_31, ak_32, ak_33, ak_34, ak_35, ak_36, ak_37, ak_38, ak_39, ak_40, ak_41, ak_42, ak_43, ak_44, ak_45, ak_46, ak_47, ak_48, ak_49, ak_50, ak_51, ak_52, ak_53, ak_54, ak_55, ak_56, el31, el33, el34, CL_told, ca_L_told, frL, kcL, klL, T_X6_lengthG, T_X6_wipeG, T_X6_orderG, T_X6_putG, T_X6_faultG, T_X6_swapS, T_X6_loadPlanG, T_X6_countG, exists_eq_right_right, exists_eq_right, exists_eq_left, Nat.lt_irrefl, and_self, implies_true, forall_const]
        exact ⟨g, hg, fun σ1 h1 => ⟨g, h1, fun σ2 h2 => ⟨rfl, g.2.2.2.1, 0, h2, Cnt_0 _ _, by omega, ⟨fun _ => rfl, fun _ => trivial⟩, fun _ m' a b => by omega⟩⟩⟩
    · exact h.elim
