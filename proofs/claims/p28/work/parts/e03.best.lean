/-! the best plan, in the law -/
theorem bou_max {v : Vw} {B x : Int} (x0 : 0 ≤ x) (hb : bndS (v 10) (v 11) (v 12) (v 8) (-1) B) (h : ∀ m, 0 ≤ m → m < 4 → bndS (v 10) (v 11) (v 12) (v 8) m (bouA v m) ∧ bouA v m ≤ x) (hx : x = 0 ∨ ∃ m, 0 ≤ m ∧ m < 4 ∧ x = bouA v m) : B = x := by
  rcases hb with ⟨z, -⟩ | ⟨-, b0, b1, b2⟩
  · omega
  · have a : B ≤ x ∨ B = 0 := by
      rcases b2 with b2 | ⟨m, m0, m1, b2⟩
      · exact Or.inr b2
      · have q := h m m0 m1
        have e := bndS_un q.1 (Or.inl ⟨m0, b2⟩)
        omega
    rcases hx with hx | ⟨m, m0, m1, hx⟩
    · omega
    · have q := h m m0 m1
      rcases q.1 with ⟨-, q1⟩ | ⟨q1, -⟩
      · obtain ⟨B', c1, c2⟩ := b1 m m0 m1
        have e := JB_un q1 c1
        omega
      · omega
def ca_L_best : Nat → Option (Nat × Nat × Tr)
  | 82 => some (3, 6, T_X6_bestG)
  | 62 => some (1, 6, T_X6_lengthG)
  | 104 => some (2, 6, T_X6_boundG)
  | 69 => some (2, 6, T_X6_countG)
  | 33 => some (3, 6, T_X6_ofJobG)
  | 84 => some (1, 6, T_X6_takeBestG)
  | 73 => some (1, 6, T_X6_improveR)
  | 59 => some (3, 6, T_X6_orderG)
  | 40 => some (1, 99, T_L_plan)
  | _ => none
theorem cao_L_best (l : Launch) : ∀ k n' ci T', ca_L_best k = some (n', ci, T') → ∃ nn, nn + 1 ≤ 38 ∧ Site l yL_best.cls k n' ci nn T' := by
  intro k n' ci T' h
  unfold ca_L_best at h
  split at h
  · cases h; exact ⟨37, by decide, _, _, _, _, k_X6_bestG l, Or.inl ⟨_, rfl, FX6_best, KRL_82⟩⟩
  · cases h; exact ⟨6, by decide, _, _, _, _, k_X6_lengthG l, Or.inl ⟨_, rfl, FX6_length, KRL_62⟩⟩
  · cases h; exact ⟨3, by decide, _, _, _, _, k_X6_boundG l, Or.inl ⟨_, rfl, FX6_bound, KRL_104⟩⟩
  · cases h; exact ⟨6, by decide, _, _, _, _, k_X6_countG l, Or.inl ⟨_, rfl, FX6_count, KRL_69⟩⟩
  · cases h; exact ⟨6, by decide, _, _, _, _, k_X6_ofJobG l, Or.inl ⟨_, rfl, FX6_ofJob, KRL_33⟩⟩
  · cases h; exact ⟨37, by decide, _, _, _, _, k_X6_takeBestG l, Or.inl ⟨_, rfl, FX6_takeBest, KRL_84⟩⟩
  · cases h; exact ⟨6, by decide, _, _, _, _, k_X6_improveR l, Or.inl ⟨_, rfl, FX6_improve, KRL_73⟩⟩
  · cases h; exact ⟨2, by decide, _, _, _, _, k_X6_orderG l, Or.inl ⟨_, rfl, FX6_order, KRL_59⟩⟩
  · cases h; exact ⟨8, by decide, _, _, _, _, k_L_plan l, Or.inr ⟨rfl, FL_plan, Or.inl ⟨rfl, KRL_40⟩⟩⟩
  · cases h
def ca2_L_best : Nat → Option (Nat × Nat × Tr)
  | 82 => some (3, 6, T_X6_bestH)
  | 62 => some (1, 6, T_X6_lengthH)
  | 84 => some (1, 6, T_X6_takeBestH)
  | 73 => some (1, 6, T_X6_improveH)
  | 59 => some (3, 6, T_X6_orderH)
  | 40 => some (1, 99, T_L_planH)
  | _ => none
theorem cao2_L_best (l : Launch) : ∀ k n' ci T', ca2_L_best k = some (n', ci, T') → ∃ nn T0, nn + 1 ≤ 38 ∧ Site l yL_best.cls k n' ci nn T0 ∧ ∀ a σ K, T' a σ K → M2 T0 a σ K := by
  intro k n' ci T' h
  unfold ca2_L_best at h
  split at h
  · cases h; exact ⟨37, T_X6_bestG, by decide, ⟨_, _, _, _, k_X6_bestG l, Or.inl ⟨_, rfl, FX6_best, KRL_82⟩⟩, m_X6_bestH⟩
  · cases h; exact ⟨6, T_X6_lengthG, by decide, ⟨_, _, _, _, k_X6_lengthG l, Or.inl ⟨_, rfl, FX6_length, KRL_62⟩⟩, m_X6_lengthH⟩
  · cases h; exact ⟨37, T_X6_takeBestG, by decide, ⟨_, _, _, _, k_X6_takeBestG l, Or.inl ⟨_, rfl, FX6_takeBest, KRL_84⟩⟩, m_X6_takeBestH⟩
  · cases h; exact ⟨6, T_X6_improveR, by decide, ⟨_, _, _, _, k_X6_improveR l, Or.inl ⟨_, rfl, FX6_improve, KRL_73⟩⟩, m_X6_improveH⟩
  · cases h; exact ⟨2, T_X6_orderG, by decide, ⟨_, _, _, _, k_X6_orderG l, Or.inl ⟨_, rfl, FX6_order, KRL_59⟩⟩, m_X6_orderH⟩
  · cases h; exact ⟨8, T_L_plan, by decide, ⟨_, _, _, _, k_L_plan l, Or.inr ⟨rfl, FL_plan, Or.inl ⟨rfl, KRL_40⟩⟩⟩, m_L_planH⟩
  · cases h
def T_L_best : Tr := fun a σ K => match a with
  | [.inr (.inl (6, 0))] => ∃ g, GS g σ ∧ ∀ σ', BstF g.1 → GS (bumpG g (cnV (orV g.1 (bfA g.1)))) σ' → K (some 1) σ'
  | _ => False
set_option maxHeartbeats 8000000 in
set_option maxRecDepth 20000 in
theorem p2_L_best {K : Option Int → Mem → Prop} {g : Gh} {σ : Mem} {a L B x y : Int} (hg : GS g σ) (hB : BstF g.1) (ha : a = leA g.1) (hk : ∀ σ', GS (bumpG g (cnV (orV g.1 (bfA g.1)))) σ' → K (some 1) σ') : ∃ (cut2 : Cut) (f2 : Nat), (∀ pc I L S σ' k, cut2 pc = some I → I L S σ' k → wp (frL, kcL, klL, ca2_L_best, false, 0, fun _ => 0) CL_best cut2 (fun k' => k' < k) (Kr (some .boolean) K) f2 (drp pc CL_best) L S σ') ∧ wp (frL, kcL, klL, ca2_L_best, false, 0, fun _ => 0) CL_best cut2 (fun _ => True) (Kr (some .boolean) K) f2 (drp 136 CL_best) [some (.inr (.inl (6, 0))), some (.inl a), some (.inl L), some (.inl B), some (.inl x), some (.inl y), none] [.inr (.inl (57, 0))] (zr σ) := by
  have hw := GS_w hg
  refine ⟨fun pc => if pc = 141 then some (fun L S σ' kz => match L, S with | [some (.inr (.inl c1)), some (.inl a), some (.inl x2), some (.inl x3), some (.inl x4), some (.inr (.inl c5)), some (.inl i)], [] => (c1 = (6, 0) ∧ c5 = (57, 0) ∧ a = leA g.1 ∧ (0 ≤ i ∧ i ≤ 16) ∧ ∃ f, GX g f σ' ∧ ∀ k, 0 ≤ k → k < i → f k = bA g.1 (k / 4) (k % 4)) ∧ kz = 1000 + (20 - i).toNat | _, _ => False) else if pc = 201 then some (fun L S σ' kz => match L, S with | [some (.inr (.inl c1)), some (.inl a), some (.inl x2), some (.inl x3), some (.inl x4), some (.inr (.inl c5)), some (.inl i)], [] => (c1 = (6, 0) ∧ c5 = (57, 0) ∧ (0 ≤ i ∧ i ≤ 16) ∧ ∃ f, GX (bumpG g (cnV (orV g.1 (bfA g.1)))) f σ' ∧ ∀ k, 0 ≤ k → k < 16 → f k = bA g.1 (k / 4) (k % 4)) ∧ kz = (20 - i).toNat | _, _ => False) else none, 200, ?_, ?_⟩
  · intro pc I L S σ' kz hcut hi
    dsimp only at hcut
    by_cases hpc0 : pc = 141
    · rw [if_pos hpc0] at hcut
      subst hpc0
      cases hcut
      try dsimp only at hi
      split at hi
      · rename_i c1 a x2 x3 x4 c5 i
        obtain ⟨hi, rfl⟩ := hi
        obtain ⟨rfl, rfl, ha, hi0, f, hf, hr⟩ := hi
        simp only [wp, stp, drp, entL, eL, lget, lset, okst, cnd, swt, rcv, Kr_int, Kr_bool, Kr_void, List.length_cons, List.length_nil, List.replicate, List.append_nil, List.cons_append, List.nil_append, List.take_succ_cons, List.take_zero, List.drop_succ_cons, List.drop_zero, List.reverse_cons, List.reverse_nil, Option.map_some, Option.map_none, Option.toList_some, Option.toList_none, Nat.reduceAdd, Nat.reduceSub, Nat.reduceLT, Nat.reduceLeDiff, Nat.reduceEqDiff, ↓reduceIte, Nat.add_zero, Nat.zero_add, true_and, and_true, Nat.le_refl, reduceCtorEq, false_implies, true_implies, not_true_eq_false, not_false_eq_true, Int.reduceAdd, Int.reduceSub, Int.reduceMul, Int.reduceLE, Int.reduceLT, Int.reduceEq, Int.reduceNe, Int.reduceNeg, Int.reduceDiv, Int.reduceMod, Bool.false_eq_true, Int.le_refl, and_self, true_or, or_true, inR_l, fv0, fv1, fv2, fv3, nc2, nc4, nc6, nc16, nc25, nc60, nc65, nc80, nc130, nc384, nc390, fp_0_0, fp_0_1, fp_0_2, fp_1_0, fp_1_1, fp_1_2, fp_1_3, fp_1_4, fp_1_5, fp_1_6, fp_1_7, fp_1_8, fp_1_9, fp_1_10, fp_1_11, fp_1_12, fp_1_13, fp_1_14, fp_2_0, fp_2_1, fp_2_2, fp_2_3, fp_3_0, fp_3_1, fp_4_0, fp_4_1, fp_4_2, fp_4_3, fp_4_4, fp_4_5, fp_4_6, fp_4_7, fp_5_0, fp_5_1, fp_5_2, fp_5_3, fp_5_4, fp_5_5, fp_5_6, fp_5_7, fp_6_0, fp_6_1, fp_6_2, fp_6_3, fp_6_4, fp_6_5, fp_6_6, fp_6_7, fp_6_8, fp_6_9, fp_6_10, fp_6_11, fp_6_12, fp_6_13, fp_6_14, fp_6_15, fp_7_0, fp_7_1, fp_7_2, fp_7_3, fp_7_4, fp_7_5, fp_7_6, fp_7_7, fp_7_8, fp_7_9, fp_7_10, fp_7_11, fp_7_12, fp_7_13, fp_7_14, fp_7_15, fp_7_16, fp_7_17, fp_7_18, fp_7_19, fp_7_20, fp_7_21, fp_7_22, fp_7_23, fp_7_24, iz_0_1, iz_0_2, iz_1_8, iz_1_9, iz_1_11, iz_2_1, iz_2_2, iz_2_3, iz_3_1, iz_4_1, iz_4_2, iz_5_0, iz_6_8, iz_6_9, iz_6_13, iz_6_14, iz_6_15, iz_7_2, iz_7_6, iz_7_12, iz_7_20, iz_7_21, iz_7_23, iz_7_24, ak_8, ak_9, ak_10, ak_11, ak_12, ak_13, ak_14, ak_15, ak_16, ak_17, ak_18, ak_19, ak_20, ak_21, ak_22, ak_23, ak_24, ak_25, ak_26, ak_27, ak_28, ak_29, ak_30, ak_31, ak_32, ak_33, ak_34, ak_35, ak_36, ak_37, ak_38, ak_39, ak_40, ak_41, ak_42, ak_43, ak_44, ak_45, ak_46, ak_47, ak_48, ak_49, ak_50, ak_51, ak_52, ak_53, ak_54, ak_55, ak_56, el31, el33, el34, CL_best, ca_L_best, frL, kcL, klL, T_X6_bestH, T_X6_lengthH, T_X6_boundG, T_X6_countG, T_X6_ofJobG, T_X6_takeBestH, T_X6_improveH, T_X6_orderH, T_L_planH, ca2_L_best, ak57, exists_eq_right_right, exists_eq_right, exists_eq_left, Nat.lt_irrefl, and_self, implies_true, forall_const]
        refine ⟨fun q => ?_, fun q => ⟨hi0.1, hi0.1, g, f, hf, fun σ1 h1 => ⟨by omega, by constructor <;> omega, by omega, ha, by omega, _, GX_up h1 i _, fun k k0 k1 => ?_⟩⟩⟩
        · have B := bst_len hw hB
          have i16 : i = 16 := by omega
          refine ⟨g, f, hf, fun σ1 h1 => ⟨fun q => absurd ha.symm q, fun _ => ⟨_, f, h1, fun σ2 h2 => ⟨fun q => absurd (B.2.1.trans ha.symm) q, fun _ => ⟨_, f, h2, fun _ m x le m0 m1 x0 x1 hl z => ?_, fun σ3 h3 => ⟨by omega, f, h3, fun k k0 k1 => hr k k0 (by omega)⟩⟩⟩⟩⟩⟩
          have lo := bst_imp hw hB m0 m1 x0 x1 hl
          have z' : le < LV (cnV (orV g.1 (bfA g.1))) := z
          rw [B.2.2.2.2] at z'
          omega
        · by_cases z : k = i
          · rw [if_pos z, z]
          · rw [if_neg z]
            exact hr k k0 (by omega)
      · exact hi.elim
    rw [if_neg hpc0] at hcut
    by_cases hpc1 : pc = 201
    · rw [if_pos hpc1] at hcut
      subst hpc1
      cases hcut
      try dsimp only at hi
      split at hi
      · rename_i c1 a x2 x3 x4 c5 i
        obtain ⟨hi, rfl⟩ := hi
        obtain ⟨rfl, rfl, hi0, f, hf, hr⟩ := hi
        simp only [wp, stp, drp, entL, eL, lget, lset, okst, cnd, swt, rcv, Kr_int, Kr_bool, Kr_void, List.length_cons, List.length_nil, List.replicate, List.append_nil, List.cons_append, List.nil_append, List.take_succ_cons, List.take_zero, List.drop_succ_cons, List.drop_zero, List.reverse_cons, List.reverse_nil, Option.map_some, Option.map_none, Option.toList_some, Option.toList_none, Nat.reduceAdd, Nat.reduceSub, Nat.reduceLT, Nat.reduceLeDiff, Nat.reduceEqDiff, ↓reduceIte, Nat.add_zero, Nat.zero_add, true_and, and_true, Nat.le_refl, reduceCtorEq, false_implies, true_implies, not_true_eq_false, not_false_eq_true, Int.reduceAdd, Int.reduceSub, Int.reduceMul, Int.reduceLE, Int.reduceLT, Int.reduceEq, Int.reduceNe, Int.reduceNeg, Int.reduceDiv, Int.reduceMod, Bool.false_eq_true, Int.le_refl, and_self, true_or, or_true, inR_l, fv0, fv1, fv2, fv3, nc2, nc4, nc6, nc16, nc25, nc60, nc65, nc80, nc130, nc384, nc390, fp_0_0, fp_0_1, fp_0_2, fp_1_0, fp_1_1, fp_1_2, fp_1_3, fp_1_4, fp_1_5, fp_1_6, fp_1_7, fp_1_8, fp_1_9, fp_1_10, fp_1_11, fp_1_12, fp_1_13, fp_1_14, fp_2_0, fp_2_1, fp_2_2, fp_2_3, fp_3_0, fp_3_1, fp_4_0, fp_4_1, fp_4_2, fp_4_3, fp_4_4, fp_4_5, fp_4_6, fp_4_7, fp_5_0, fp_5_1, fp_5_2, fp_5_3, fp_5_4, fp_5_5, fp_5_6, fp_5_7, fp_6_0, fp_6_1, fp_6_2, fp_6_3, fp_6_4, fp_6_5, fp_6_6, fp_6_7, fp_6_8, fp_6_9, fp_6_10, fp_6_11, fp_6_12, fp_6_13, fp_6_14, fp_6_15, fp_7_0, fp_7_1, fp_7_2, fp_7_3, fp_7_4, fp_7_5, fp_7_6, fp_7_7, fp_7_8, fp_7_9, fp_7_10, fp_7_11, fp_7_12, fp_7_13, fp_7_14, fp_7_15, fp_7_16, fp_7_17, fp_7_18, fp_7_19, fp_7_20, fp_7_21, fp_7_22, fp_7_23, fp_7_24, iz_0_1, iz_0_2, iz_1_8, iz_1_9, iz_1_11, iz_2_1, iz_2_2, iz_2_3, iz_3_1, iz_4_1, iz_4_2, iz_5_0, iz_6_8, iz_6_9, iz_6_13, iz_6_14, iz_6_15, iz_7_2, iz_7_6, iz_7_12, iz_7_20, iz_7_21, iz_7_23, iz_7_24, ak_8, ak_9, ak_10, ak_11, ak_12, ak_13, ak_14, ak_15, ak_16, ak_17, ak_18, ak_19, ak_20, ak_21, ak_22, ak_23, ak_24, ak_25, ak_26, ak_27, ak_28, ak_29, ak_30, ak_31, ak_32, ak_33, ak_34, ak_35, ak_36, ak_37, ak_38, ak_39, ak_40, ak_41, ak_42, ak_43, ak_44, ak_45, ak_46, ak_47, ak_48, ak_49, ak_50, ak_51, ak_52, ak_53, ak_54, ak_55, ak_56, el31, el33, el34, CL_best, ca_L_best, frL, kcL, klL, T_X6_bestH, T_X6_lengthH, T_X6_boundG, T_X6_countG, T_X6_ofJobG, T_X6_takeBestH, T_X6_improveH, T_X6_orderH, T_L_planH, ca2_L_best, ak57, exists_eq_right_right, exists_eq_right, exists_eq_left, Nat.lt_irrefl, and_self, implies_true, forall_const]
        refine ⟨fun _ => ⟨_, f, hf, fun σ1 h1 => hk σ1 h1.1⟩, fun q => ⟨hi0.1, hi0.1, _, f, hf, fun σ1 h1 => ⟨by omega, fun _ => ⟨by constructor <;> omega, by omega, by omega, f, h1, hr⟩, fun z => ?_⟩⟩⟩
        refine absurd ?_ z
        rw [h1.2 i, hr i hi0.1 (by omega)]
        exact bA_ord hw (by omega) (by omega)
      · exact hi.elim
    rw [if_neg hpc1] at hcut
    cases hcut
  · simp only [wp, stp, drp, entL, eL, lget, lset, okst, cnd, swt, rcv, Kr_int, Kr_bool, Kr_void, List.length_cons, List.length_nil, List.replicate, List.append_nil, List.cons_append, List.nil_append, List.take_succ_cons, List.take_zero, List.drop_succ_cons, List.drop_zero, List.reverse_cons, List.reverse_nil, Option.map_some, Option.map_none, Option.toList_some, Option.toList_none, Nat.reduceAdd, Nat.reduceSub, Nat.reduceLT, Nat.reduceLeDiff, Nat.reduceEqDiff, ↓reduceIte, Nat.add_zero, Nat.zero_add, true_and, and_true, Nat.le_refl, reduceCtorEq, false_implies, true_implies, not_true_eq_false, not_false_eq_true, Int.reduceAdd, Int.reduceSub, Int.reduceMul, Int.reduceLE, Int.reduceLT, Int.reduceEq, Int.reduceNe, Int.reduceNeg, Int.reduceDiv, Int.reduceMod, Bool.false_eq_true, Int.le_refl, and_self, true_or, or_true, inR_l, fv0, fv1, fv2, fv3, nc2, nc4, nc6, nc16, nc25, nc60, nc65, nc80, nc130, nc384, nc390, fp_0_0, fp_0_1, fp_0_2, fp_1_0, fp_1_1, fp_1_2, fp_1_3, fp_1_4, fp_1_5, fp_1_6, fp_1_7, fp_1_8, fp_1_9, fp_1_10, fp_1_11, fp_1_12, fp_1_13, fp_1_14, fp_2_0, fp_2_1, fp_2_2, fp_2_3, fp_3_0, fp_3_1, fp_4_0, fp_4_1, fp_4_2, fp_4_3, fp_4_4, fp_4_5, fp_4_6, fp_4_7, fp_5_0, fp_5_1, fp_5_2, fp_5_3, fp_5_4, fp_5_5, fp_5_6, fp_5_7, fp_6_0, fp_6_1, fp_6_2, fp_6_3, fp_6_4, fp_6_5, fp_6_6, fp_6_7, fp_6_8, fp_6_9, fp_6_10, fp_6_11, fp_6_12, fp_6_13, fp_6_14, fp_6_15, fp_7_0, fp_7_1, fp_7_2, fp_7_3, fp_7_4, fp_7_5, fp_7_6, fp_7_7, fp_7_8, fp_7_9, fp_7_10, fp_7_11, fp_7_12, fp_7_13, fp_7_14, fp_7_15, fp_7_16, fp_7_17, fp_7_18, fp_7_19, fp_7_20, fp_7_21, fp_7_22, fp_7_23, fp_7_24, iz_0_1, iz_0_2, iz_1_8, iz_1_9, iz_1_11, iz_2_1, iz_2_2, iz_2_3, iz_3_1, iz_4_1, iz_4_2, iz_5_0, iz_6_8, iz_6_9, iz_6_13, iz_6_14, iz_6_15, iz_7_2, iz_7_6, iz_7_12, iz_7_20, iz_7_21, iz_7_23, iz_7_24, ak_8, ak_9, ak_10, ak_11, ak_12, ak_13, ak_14, ak_15, ak_16, ak_17, ak_18, ak_19, ak_20, ak_21, ak_22, ak_23, ak_24, ak_25, ak_26, ak_27, ak_28, ak_29, ak_30, ak_31, ak_32, ak_33, ak_34, ak_35, ak_36, ak_37, ak_38, ak_39, ak_40, ak_41, ak_42, ak_43, ak_44, ak_45, ak_46, ak_47, ak_48, ak_49, ak_50, ak_51, ak_52, ak_53, ak_54, ak_55, ak_56, el31, el33, el34, CL_best, ca_L_best, frL, kcL, klL, T_X6_bestH, T_X6_lengthH, T_X6_boundG, T_X6_countG, T_X6_ofJobG, T_X6_takeBestH, T_X6_improveH, T_X6_orderH, T_L_planH, ca2_L_best, ak57, exists_eq_right_right, exists_eq_right, exists_eq_left, Nat.lt_irrefl, and_self, implies_true, forall_const]
    exact ⟨ha, _, GX_0 hg, fun k a b => by omega⟩
set_option maxHeartbeats 8000000 in
set_option maxRecDepth 20000 in
theorem k_L_best (l : Launch) : CtN l yL_best cL_best 7 (some .boolean) 38 T_L_best := by
  refine mk_N (by decide +kernel) hCL_best lCL_best frL_ok cstL_ok (cao_L_best l) (cao2_L_best l) wInt (by decide +kernel : decode cL_best 134 = .ok (.newarray .int, 2)) ?_ ?_
  · intro a σ K h
    unfold T_L_best at h
    split at h
    · simp [eL]
    · exact h.elim
  · intro a σ K ha hR h
    unfold T_L_best at h
    split at h
    · obtain ⟨g, hg, hk⟩ := h
      have hw := GS_w hg
      have J4 := hw.1.1
      refine ⟨fun pc => if pc = 24 then some (fun L S σ' kz => match L, S with | [some (.inr (.inl c1)), some (.inl a), some (.inl L), some (.inl B), some (.inl x), some (.inl i), none], [] => (c1 = (6, 0) ∧ a = leA g.1 ∧ L = lenA g.1 ∧ B = bouA g.1 (-1) ∧ GS g σ' ∧ BstF g.1 ∧ (bndS (g.1 10) (g.1 11) (g.1 12) (g.1 8) (-1) B ∧ 0 ≤ B) ∧ (0 ≤ i ∧ i ≤ 4) ∧ 0 ≤ x ∧ (∀ m, 0 ≤ m → m < i → bndS (g.1 10) (g.1 11) (g.1 12) (g.1 8) m (bouA g.1 m) ∧ bouA g.1 m ≤ x) ∧ (x = 0 ∨ ∃ m, 0 ≤ m ∧ m < i ∧ x = bouA g.1 m)) ∧ kz = 100 + (20 - i).toNat | _, _ => False) else if pc = 85 then some (fun L S σ' kz => match L, S with | [some (.inr (.inl c1)), some (.inl a), some (.inl L), some (.inl B), some (.inl x), some (.inl i), none], [] => (c1 = (6, 0) ∧ a = leA g.1 ∧ L = lenA g.1 ∧ B = bouA g.1 (-1) ∧ GS g σ' ∧ BstF g.1 ∧ (bndS (g.1 10) (g.1 11) (g.1 12) (g.1 8) (-1) B ∧ 0 ≤ B) ∧ (0 ≤ i ∧ i ≤ g.1 5 0)) ∧ kz = 50 + (20 - i).toNat | _, _ => False) else if pc = 134 then some (fun L S σ' kz => match L, S with | [some (.inr (.inl c1)), some (.inl a), some (.inl L), some (.inl B), some (.inl x), some (.inl y), none], [.inl w] => (c1 = (6, 0) ∧ w = 16 ∧ a = leA g.1 ∧ GS g σ' ∧ BstF g.1) ∧ kz = 1 | _, _ => False) else none, 300, ?_, ?_⟩
      · intro pc I L S σ' kz hcut hi
        dsimp only at hcut
        by_cases hpc0 : pc = 24
        · rw [if_pos hpc0] at hcut
          subst hpc0
          cases hcut
          try dsimp only at hi
          split at hi
          · rename_i c1 a L B x i
            obtain ⟨hi, rfl⟩ := hi
            obtain ⟨rfl, ha, hL, hBe, hg', hB, hbn, hi0, x0, hx, hx2⟩ := hi
            refine Or.inl ?_
            simp only [wp, stp, drp, entL, eL, lget, lset, okst, cnd, swt, rcv, Kr_int, Kr_bool, Kr_void, List.length_cons, List.length_nil, List.replicate, List.append_nil, List.cons_append, List.nil_append, List.take_succ_cons, List.take_zero, List.drop_succ_cons, List.drop_zero, List.reverse_cons, List.reverse_nil, Option.map_some, Option.map_none, Option.toList_some, Option.toList_none, Nat.reduceAdd, Nat.reduceSub, Nat.reduceLT, Nat.reduceLeDiff, Nat.reduceEqDiff, ↓reduceIte, Nat.add_zero, Nat.zero_add, true_and, and_true, Nat.le_refl, reduceCtorEq, false_implies, true_implies, not_true_eq_false, not_false_eq_true, Int.reduceAdd, Int.reduceSub, Int.reduceMul, Int.reduceLE, Int.reduceLT, Int.reduceEq, Int.reduceNe, Int.reduceNeg, Int.reduceDiv, Int.reduceMod, Bool.false_eq_true, Int.le_refl, and_self, true_or, or_true, inR_l, fv0, fv1, fv2, fv3, nc2, nc4, nc6, nc16, nc25, nc60, nc65, nc80, nc130, nc384, nc390, fp_0_0, fp_0_1, fp_0_2, fp_1_0, fp_1_1, fp_1_2, fp_1_3, fp_1_4, fp_1_5, fp_1_6, fp_1_7, fp_1_8, fp_1_9, fp_1_10, fp_1_11, fp_1_12, fp_1_13, fp_1_14, fp_2_0, fp_2_1, fp_2_2, fp_2_3, fp_3_0, fp_3_1, fp_4_0, fp_4_1, fp_4_2, fp_4_3, fp_4_4, fp_4_5, fp_4_6, fp_4_7, fp_5_0, fp_5_1, fp_5_2, fp_5_3, fp_5_4, fp_5_5, fp_5_6, fp_5_7, fp_6_0, fp_6_1, fp_6_2, fp_6_3, fp_6_4, fp_6_5, fp_6_6, fp_6_7, fp_6_8, fp_6_9, fp_6_10, fp_6_11, fp_6_12, fp_6_13, fp_6_14, fp_6_15, fp_7_0, fp_7_1, fp_7_2, fp_7_3, fp_7_4, fp_7_5, fp_7_6, fp_7_7, fp_7_8, fp_7_9, fp_7_10, fp_7_11, fp_7_12, fp_7_13, fp_7_14, fp_7_15, fp_7_16, fp_7_17, fp_7_18, fp_7_19, fp_7_20, fp_7_21, fp_7_22, fp_7_23, fp_7_24, iz_0_1, iz_0_2, iz_1_8, iz_1_9, iz_1_11, iz_2_1, iz_2_2, iz_2_3, iz_3_1, iz_4_1, iz_4_2, iz_5_0, iz_6_8, iz_6_9, iz_6_13, iz_6_14, iz_6_15, iz_7_2, iz_7_6, iz_7_12, iz_7_20, iz_7_21, iz_7_23, iz_7_24, ak_8, ak_9, ak_10, ak_11, ak_12, ak_13, ak_14, ak_15, ak_16, ak_17, ak_18, ak_19, ak_20, ak_21, ak_22, ak_23, ak_24, ak_25, ak_26, ak_27, ak_28, ak_29, ak_30, ak_31, ak_32, ak_33, ak_34, ak_35, ak_36, ak_37, ak_38, ak_39, ak_40, ak_41, ak_42, ak_43, ak_44, ak_45, ak_46, ak_47, ak_48, ak_49, ak_50, ak_51, ak_52, ak_53, ak_54, ak_55, ak_56, el31, el33, el34, CL_best, ca_L_best, frL, kcL, klL, T_X6_bestG, T_X6_lengthG, T_X6_boundG, T_X6_countG, T_X6_ofJobG, T_X6_takeBestG, T_X6_improveR, T_X6_orderG, T_L_plan, exists_eq_right_right, exists_eq_right, exists_eq_left, Nat.lt_irrefl, and_self, implies_true, forall_const]
            refine ⟨fun q => ?_, fun q => ⟨g, hg', fun σ1 h1 hb1 => ⟨fun q1 => ?_, fun q1 => ⟨g, h1, fun σ2 h2 _ => ?_⟩⟩⟩⟩
            · have i4 : i = 4 := by omega
              have e : B = x := bou_max x0 hbn.1 (fun m m0 m1 => hx m m0 (by omega)) (hx2.elim Or.inl (fun ⟨m, m0, m1, e⟩ => Or.inr ⟨m, m0, by omega, e⟩))
              have le := bou_le hw hB (show (-1 : Int) < 4 by omega) hbn.1
              refine ⟨fun z => z e, fun _ => ⟨fun z => by omega, fun _ => ⟨fun _ => ⟨by omega, ha, hL, hBe, hg', hB, hbn, by omega⟩, fun z => ⟨fun _ => ⟨by omega, ha, hL, hBe, hg', hB, hbn, by omega⟩, fun z2 => ?_⟩⟩⟩⟩
              rcases lenA_s hw with ⟨hp, el, -, -⟩ | ⟨np, el⟩
              · have := bst_LV hw hB hp
                omega
              · omega
            · have b := hb1 (by omega)
              refine ⟨by constructor <;> omega, by omega, ha, hL, hBe, h1, hB, hbn, by omega, x0, fun m m0 m1 => ?_, hx2.elim Or.inl (fun ⟨m, m0, m1, e⟩ => Or.inr ⟨m, m0, by omega, e⟩)⟩
              by_cases z : m = i
              · rw [z]
                exact ⟨b.1, q1⟩
              · exact hx m m0 (by omega)
            · have b := hb1 (by omega)
              refine ⟨by constructor <;> omega, by omega, ha, hL, hBe, h2, hB, hbn, by omega, b.2, fun m m0 m1 => ?_, Or.inr ⟨i, hi0.1, by omega, rfl⟩⟩
              by_cases z : m = i
              · rw [z]
                exact ⟨b.1, Int.le_refl _⟩
              · have h9 := hx m m0 (by omega)
                exact ⟨h9.1, by omega⟩
          · exact hi.elim
        rw [if_neg hpc0] at hcut
        by_cases hpc1 : pc = 85
        · rw [if_pos hpc1] at hcut
          subst hpc1
          cases hcut
          try dsimp only at hi
          split at hi
          · rename_i c1 a L B x i
            obtain ⟨hi, rfl⟩ := hi
            obtain ⟨rfl, ha, hL, hBe, hg', hB, hbn, hi0⟩ := hi
            refine Or.inl ?_
            simp only [wp, stp, drp, entL, eL, lget, lset, okst, cnd, swt, rcv, Kr_int, Kr_bool, Kr_void, List.length_cons, List.length_nil, List.replicate, List.append_nil, List.cons_append, List.nil_append, List.take_succ_cons, List.take_zero, List.drop_succ_cons, List.drop_zero, List.reverse_cons, List.reverse_nil, Option.map_some, Option.map_none, Option.toList_some, Option.toList_none, Nat.reduceAdd, Nat.reduceSub, Nat.reduceLT, Nat.reduceLeDiff, Nat.reduceEqDiff, ↓reduceIte, Nat.add_zero, Nat.zero_add, true_and, and_true, Nat.le_refl, reduceCtorEq, false_implies, true_implies, not_true_eq_false, not_false_eq_true, Int.reduceAdd, Int.reduceSub, Int.reduceMul, Int.reduceLE, Int.reduceLT, Int.reduceEq, Int.reduceNe, Int.reduceNeg, Int.reduceDiv, Int.reduceMod, Bool.false_eq_true, Int.le_refl, and_self, true_or, or_true, inR_l, fv0, fv1, fv2, fv3, nc2, nc4, nc6, nc16, nc25, nc60, nc65, nc80, nc130, nc384, nc390, fp_0_0, fp_0_1, fp_0_2, fp_1_0, fp_1_1, fp_1_2, fp_1_3, fp_1_4, fp_1_5, fp_1_6, fp_1_7, fp_1_8, fp_1_9, fp_1_10, fp_1_11, fp_1_12, fp_1_13, fp_1_14, fp_2_0, fp_2_1, fp_2_2, fp_2_3, fp_3_0, fp_3_1, fp_4_0, fp_4_1, fp_4_2, fp_4_3, fp_4_4, fp_4_5, fp_4_6, fp_4_7, fp_5_0, fp_5_1, fp_5_2, fp_5_3, fp_5_4, fp_5_5, fp_5_6, fp_5_7, fp_6_0, fp_6_1, fp_6_2, fp_6_3, fp_6_4, fp_6_5, fp_6_6, fp_6_7, fp_6_8, fp_6_9, fp_6_10, fp_6_11, fp_6_12, fp_6_13, fp_6_14, fp_6_15, fp_7_0, fp_7_1, fp_7_2, fp_7_3, fp_7_4, fp_7_5, fp_7_6, fp_7_7, fp_7_8, fp_7_9, fp_7_10, fp_7_11, fp_7_12, fp_7_13, fp_7_14, fp_7_15, fp_7_16, fp_7_17, fp_7_18, fp_7_19, fp_7_20, fp_7_21, fp_7_22, fp_7_23, fp_7_24, iz_0_1, iz_0_2, iz_1_8, iz_1_9, iz_1_11, iz_2_1, iz_2_2, iz_2_3, iz_3_1, iz_4_1, iz_4_2, iz_5_0, iz_6_8, iz_6_9, iz_6_13, iz_6_14, iz_6_15, iz_7_2, iz_7_6, iz_7_12, iz_7_20, iz_7_21, iz_7_23, iz_7_24, ak_8, ak_9, ak_10, ak_11, ak_12, ak_13, ak_14, ak_15, ak_16, ak_17, ak_18, ak_19, ak_20, ak_21, ak_22, ak_23, ak_24, ak_25, ak_26, ak_27, ak_28, ak_29, ak_30, ak_31, ak_32, ak_33, ak_34, ak_35, ak_36, ak_37, ak_38, ak_39, ak_40, ak_41, ak_42, ak_43, ak_44, ak_45, ak_46, ak_47, ak_48, ak_49, ak_50, ak_51, ak_52, ak_53, ak_54, ak_55, ak_56, el31, el33, el34, CL_best, ca_L_best, frL, kcL, klL, T_X6_bestG, T_X6_lengthG, T_X6_boundG, T_X6_countG, T_X6_ofJobG, T_X6_takeBestG, T_X6_improveR, T_X6_orderG, T_L_plan, exists_eq_right_right, exists_eq_right, exists_eq_left, Nat.lt_irrefl, and_self, implies_true, forall_const]
            refine ⟨g, hg', fun σ1 h1 => ?_⟩
            rw [ct0]
            refine ⟨fun q => ⟨by omega, ha, h1, hB⟩, fun q => ⟨g, h1, fun σ2 h2 => ⟨fun q2 => ⟨by constructor <;> omega, by omega, ha, hL, hBe, h2, hB, hbn, by omega, by omega⟩, fun q2 => ⟨g, h2, fun σ3 h3 => ⟨g, h3, fun σ4 h4 => ?_⟩⟩⟩⟩⟩
            have hi4 : i < 4 := by omega
            rw [of2 ⟨hi0.1, by omega⟩] at q2
            rw [of0 ⟨hi0.1, by omega⟩, of3 ⟨hi0.1, by omega⟩]
            have s4 := st_w hw hi0.1 hi4
            have b := bou_job hw hbn.1 hi0.1 hi4 (show 0 < g.1 10 i by omega)
            have wb := wF_b (f := g.1 12) (b := 4 * i) (n := g.1 10 i) s4.1 s4.2.1 (fun k k0 k1 => by
              have := rt_w hw hi0.1 hi4 k0 k1
              omega)
            have r := hw.2 i hi0.1 (by omega)
            exact ⟨by constructor <;> omega, fun _ => ⟨by constructor <;> omega, by omega, ha, hL, hBe, h4, hB, hbn, by omega, by omega⟩, fun z => z (by omega)⟩
          · exact hi.elim
        rw [if_neg hpc1] at hcut
        by_cases hpc2 : pc = 134
        · rw [if_pos hpc2] at hcut
          subst hpc2
          cases hcut
          try dsimp only at hi
          split at hi
          · rename_i c1 a L B x y w
            obtain ⟨hi, rfl⟩ := hi
            obtain ⟨rfl, rfl, ha, hg', hB⟩ := hi
            exact Or.inr ⟨rfl, rfl, p2_L_best hg' hB ha (fun σ1 h1 => hk σ1 hB h1)⟩
          · exact hi.elim
        rw [if_neg hpc2] at hcut
        cases hcut
      · simp only [wp, stp, drp, entL, eL, lget, lset, okst, cnd, swt, rcv, Kr_int, Kr_bool, Kr_void, List.length_cons, List.length_nil, List.replicate, List.append_nil, List.cons_append, List.nil_append, List.take_succ_cons, List.take_zero, List.drop_succ_cons, List.drop_zero, List.reverse_cons, List.reverse_nil, Option.map_some, Option.map_none, Option.toList_some, Option.toList_none, Nat.reduceAdd, Nat.reduceSub, Nat.reduceLT, Nat.reduceLeDiff, Nat.reduceEqDiff, ↓reduceIte, Nat.add_zero, Nat.zero_add, true_and, and_true, Nat.le_refl, reduceCtorEq, false_implies, true_implies, not_true_eq_false, not_false_eq_true, Int.reduceAdd, Int.reduceSub, Int.reduceMul, Int.reduceLE, Int.reduceLT, Int.reduceEq, Int.reduceNe, Int.reduceNeg, Int.reduceDiv, Int.reduceMod, Bool.false_eq_true, Int.le_refl, and_self, true_or, or_true, inR_l, fv0, fv1, fv2, fv3, nc2, nc4, nc6, nc16, nc25, nc60, nc65, nc80, nc130, nc384, nc390, fp_0_0, fp_0_1, fp_0_2, fp_1_0, fp_1_1, fp_1_2, fp_1_3, fp_1_4, fp_1_5, fp_1_6, fp_1_7, fp_1_8, fp_1_9, fp_1_10, fp_1_11, fp_1_12, fp_1_13, fp_1_14, fp_2_0, fp_2_1, fp_2_2, fp_2_3, fp_3_0, fp_3_1, fp_4_0, fp_4_1, fp_4_2, fp_4_3, fp_4_4, fp_4_5, fp_4_6, fp_4_7, fp_5_0, fp_5_1, fp_5_2, fp_5_3, fp_5_4, fp_5_5, fp_5_6, fp_5_7, fp_6_0, fp_6_1, fp_6_2, fp_6_3, fp_6_4, fp_6_5, fp_6_6, fp_6_7, fp_6_8, fp_6_9, fp_6_10, fp_6_11, fp_6_12, fp_6_13, fp_6_14, fp_6_15, fp_7_0, fp_7_1, fp_7_2, fp_7_3, fp_7_4, fp_7_5, fp_7_6, fp_7_7, fp_7_8, fp_7_9, fp_7_10, fp_7_11, fp_7_12, fp_7_13, fp_7_14, fp_7_15, fp_7_16, fp_7_17, fp_7_18, fp_7_19, fp_7_20, fp_7_21, fp_7_22, fp_7_23, fp_7_24, iz_0_1, iz_0_2, iz_1_8, iz_1_9, iz_1_11, iz_2_1, iz_2_2, iz_2_3, iz_3_1, iz_4_1, iz_4_2, iz_5_0, iz_6_8, iz_6_9, iz_6_13, iz_6_14, iz_6_15, iz_7_2, iz_7_6, iz_7_12, iz_7_20, iz_7_21, iz_7_23, iz_7_24, ak_8, ak_9, ak_10, ak_11, ak_12, ak_13, ak_14, ak_15, ak_16, ak_17, ak_18, ak_19, ak_20, ak_21, ak_22, ak_23, ak_24, ak_25, ak_26, ak_27, ak_28, ak_29, ak_30, ak_31, ak_32, ak_33, ak_34, ak_35, ak_36, ak_37, ak_38, ak_39, ak_40, ak_41, ak_42, ak_43, ak_44, ak_45, ak_46, ak_47, ak_48, ak_49, ak_50, ak_51, ak_52, ak_53, ak_54, ak_55, ak_56, el31, el33, el34, CL_best, ca_L_best, frL, kcL, klL, T_X6_bestG, T_X6_lengthG, T_X6_boundG, T_X6_countG, T_X6_ofJobG, T_X6_takeBestG, T_X6_improveR, T_X6_orderG, T_L_plan, exists_eq_right_right, exists_eq_right, exists_eq_left, Nat.lt_irrefl, and_self, implies_true, forall_const]
        refine ⟨g, hg, fun σ1 h1 hB0 => ?_⟩
        have hB := hB0
        exact ⟨g, h1, fun σ2 h2 => ⟨g, h2, fun σ3 h3 hb => ⟨(if_neg (by omega)).trans (if_pos (by omega)), rfl, rfl, h3, hB, hb, fun m a b => by omega⟩⟩⟩
    · exact h.elim
