/-! what is asked about the plan: the class -/
def T_X6_knowPlan2 : Tr := fun a σ K => match a with
  | [.inr (.inl (6, 0))] => (sWF σ 0 ∧ KPc σ) ∧ (∀ σ', FrG pKn σ σ' → KPc σ' → PK σ' → K (some 1) σ') ∧ (∀ σ', FrG pKn σ σ' → KPc σ' → (∀ h, ¬ sH σ 0 h) → K (some 0) σ')
  | _ => False
theorem m_X6_knowPlan2 : ∀ a σ K, T_X6_knowPlan2 a σ K → T_X6_knowPlan a σ K := by
  intro a σ K h
  unfold T_X6_knowPlan2 at h
  unfold T_X6_knowPlan
  split at h
  · refine ⟨h.1, fun σ' hF e8 e9 hP => h.2.1 σ' hF (Or.inr ⟨e8, Or.inl ⟨e9, hP⟩⟩) hP, fun σ' hF e8 e9 hN => h.2.2 σ' hF (Or.inr ⟨e8, Or.inr ⟨e9, hN⟩⟩) (fun g hg => hN g ((sH_cg (fun t q => pKn_f hF t 0 (by omega))).mpr hg))⟩
  · exact h.elim
theorem kn_w {σ σ' : Mem} (hw : sWF σ 0) (h : FrG pKn σ σ') : sWF σ' 0 := (sWF_cg (fun t q => pKn_f h t 0 (by omega))).mpr hw
theorem kn_v {σ σ' : Mem} (h : FrG pKn σ σ') : σ' 5 0 = σ 5 0 ∧ σ' 8 0 = σ 8 0 ∧ σ' 9 0 = σ 9 0 ∧ σ' 10 0 = σ 10 0 ∧ σ' 11 0 = σ 11 0 ∧ σ' 12 0 = σ 12 0 ∧ σ' 13 0 = σ 13 0 ∧ σ' 14 0 = σ 14 0 := ⟨pKn_f h 5 0 (by omega), pKn_f h 8 0 (by omega), pKn_f h 9 0 (by omega), pKn_f h 10 0 (by omega), pKn_f h 11 0 (by omega), pKn_f h 12 0 (by omega), pKn_f h 13 0 (by omega), pKn_f h 14 0 (by omega)⟩
theorem PK_n {σ : Mem} (hw : sWF σ 0) (hP : PK σ) : 0 ≤ σ 3 0 1 ∧ σ 3 0 1 ≤ 16 := by
  have hv := PTi_v hw.1 hP.2
  exact ⟨hP.2.1, hv.2.2⟩
theorem sW_j {σ : Mem} (hw : sWF σ 0) : 0 ≤ σ 5 0 0 ∧ σ 5 0 0 ≤ 4 ∧ (∀ j, 0 ≤ j → j < 4 → 0 ≤ σ 10 0 j ∧ σ 10 0 j ≤ 4) ∧ (∀ m, 0 ≤ m → m < 4 → 0 ≤ σ 13 0 m ∧ σ 13 0 m ≤ 4) ∧ (∀ j x, 0 ≤ j → j < 4 → 0 ≤ x → x < σ 10 0 j → 1 ≤ σ 12 0 (4 * j + x) ∧ σ 12 0 (4 * j + x) ≤ 20) := by
  refine ⟨hw.1.1.1, hw.1.1.2, fun j a b => ⟨(hw.1.2.1 j a b).1, (hw.1.2.1 j a b).2.1⟩, hw.1.2.2.2.2.1, fun j x a b c d => ?_⟩
  have := (hw.1.2.1 j a b).2.1
  have := sWF_op hw (o := 4 * j + x) ⟨by omega, by omega, by rw [show (4 * j + x) / 4 = j by omega]; omega⟩
  omega
theorem wF_bd {f : Int → Int} {b n lo hi : Int} (h : ∀ x, 0 ≤ x → x < n → lo ≤ f (b + x) ∧ f (b + x) ≤ hi) (l0 : lo ≤ 0) (h0 : 0 ≤ hi) : 4 * lo ≤ wF f b n ∧ wF f b n ≤ 4 * hi := by
  unfold wF
  have e : f (b + 0) = f b := by rw [Int.add_zero]
  split
  · omega
  · have := h 0 (by omega) (by omega)
    split
    · omega
    · have := h 1 (by omega) (by omega)
      split
      · omega
      · have := h 2 (by omega) (by omega)
        split
        · omega
        · have := h 3 (by omega) (by omega)
          omega
theorem k_X6_knowPlan2 (l : Launch) : Ct l yX6_knowPlan cX6_knowPlan 1 (some .boolean) 5 T_X6_knowPlan2 := Ct_mono (k_X6_knowPlan l) m_X6_knowPlan2
def T_X5_hasJob2 : Tr := fun a σ K => match a with
  | [.inr (.inl (5, i)), .inl j] => (0 ≤ j ∧ j < σ 5 i 0 → K (some 1) σ) ∧ (¬ (0 ≤ j ∧ j < σ 5 i 0) → K (some 0) σ)
  | _ => False
theorem m_X5_hasJob2 : ∀ a σ K, T_X5_hasJob2 a σ K → T_X5_hasJob a σ K := by
  intro a σ K h
  unfold T_X5_hasJob2 at h
  unfold T_X5_hasJob
  split at h
  · rename_i i j
    show K (some (if 0 ≤ j ∧ j < σ 5 i 0 then 1 else 0)) σ
    by_cases c : 0 ≤ j ∧ j < σ 5 i 0
    · rw [if_pos c]
      exact h.1 c
    · rw [if_neg c]
      exact h.2 c
  · exact h.elim
theorem k_X5_hasJob2 (l : Launch) : Ct l yX5_hasJob cX5_hasJob 2 (some .boolean) 0 T_X5_hasJob2 := Ct_mono (k_X5_hasJob l) m_X5_hasJob2
def ca_X6_length : Nat → Option (Nat × Nat × Tr)
  | 111 => some (1, 6, T_X6_knowPlan2)
  | _ => none
theorem cao_X6_length (l : Launch) : ∀ k n' ci T', ca_X6_length k = some (n', ci, T') → ∃ nn, nn + 1 ≤ 6 ∧ Site l yX6_length.cls k n' ci nn T' := by
  intro k n' ci T' h
  unfold ca_X6_length at h
  split at h
  · cases h; exact ⟨5, by decide, _, _, _, _, k_X6_knowPlan2 l, Or.inl ⟨_, rfl, FX6_knowPlan, KRX6_111⟩⟩
  · cases h
def T_X6_length : Tr := fun a σ K => match a with
  | [.inr (.inl (6, 0))] => (sWF σ 0 ∧ KPc σ) ∧ (∀ σ1, FrG pKn σ σ1 → KPc σ1 → (∀ h, ¬ sH σ 0 h) → K (some (-6)) σ1) ∧ (∀ σ1, FrG pKn σ σ1 → KPc σ1 → PK σ1 → K (some (σ1 1 0 8)) σ1)
  | _ => False
set_option maxHeartbeats 4000000 in
set_option maxRecDepth 20000 in
theorem k_X6_length (l : Launch) : Ct l yX6_length cX6_length 1 (some .int) 6 T_X6_length := by
  refine mk_met (by decide +kernel) hCX6_length lCX6_length frX6_ok cstX6_ok (cao_X6_length l) ?_ ?_
  · intro a σ K h
    unfold T_X6_length at h
    split at h
    · simp [eL]
    · exact h.elim
  · intro a σ K ha hR h
    unfold T_X6_length at h
    split at h
    · refine ⟨fun _ => none, 200, fun pc I L S σ' k h => (by cases h), ?_⟩
      simp only [wp, stp, drp, entL, eL, lget, lset, okst, cnd, swt, rcv, Kr_int, Kr_bool, Kr_void, List.length_cons, List.length_nil, List.replicate, List.append_nil, List.cons_append, List.nil_append, List.take_succ_cons, List.take_zero, List.drop_succ_cons, List.drop_zero, List.reverse_cons, List.reverse_nil, Option.map_some, Option.map_none, Option.toList_some, Option.toList_none, Nat.reduceAdd, Nat.reduceSub, Nat.reduceLT, Nat.reduceLeDiff, Nat.reduceEqDiff, ↓reduceIte, Nat.add_zero, Nat.zero_add, true_and, and_true, Nat.le_refl, reduceCtorEq, false_implies, true_implies, not_true_eq_false, not_false_eq_true, Int.reduceAdd, Int.reduceSub, Int.reduceMul, Int.reduceLE, Int.reduceLT, Int.reduceEq, Int.reduceNe, Int.reduceNeg, Int.reduceDiv, Int.reduceMod, Bool.false_eq_true, Int.le_refl, and_self, true_or, or_true, inR_l, fv0, fv1, fv2, fv3, nc2, nc4, nc6, nc16, nc25, nc60, nc65, nc80, nc130, nc384, nc390, fp_0_0, fp_0_1, fp_0_2, fp_1_0, fp_1_1, fp_1_2, fp_1_3, fp_1_4, fp_1_5, fp_1_6, fp_1_7, fp_1_8, fp_1_9, fp_1_10, fp_1_11, fp_1_12, fp_1_13, fp_1_14, fp_2_0, fp_2_1, fp_2_2, fp_2_3, fp_3_0, fp_3_1, fp_4_0, fp_4_1, fp_4_2, fp_4_3, fp_4_4, fp_4_5, fp_4_6, fp_4_7, fp_5_0, fp_5_1, fp_5_2, fp_5_3, fp_5_4, fp_5_5, fp_5_6, fp_5_7, fp_6_0, fp_6_1, fp_6_2, fp_6_3, fp_6_4, fp_6_5, fp_6_6, fp_6_7, fp_6_8, fp_6_9, fp_6_10, fp_6_11, fp_6_12, fp_6_13, fp_6_14, fp_6_15, fp_7_0, fp_7_1, fp_7_2, fp_7_3, fp_7_4, fp_7_5, fp_7_6, fp_7_7, fp_7_8, fp_7_9, fp_7_10, fp_7_11, fp_7_12, fp_7_13, fp_7_14, fp_7_15, fp_7_16, fp_7_17, fp_7_18, fp_7_19, fp_7_20, fp_7_21, fp_7_22, fp_7_23, fp_7_24, iz_0_1, iz_0_2, iz_1_8, iz_1_9, iz_1_11, iz_2_1, iz_2_2, iz_2_3, iz_3_1, iz_4_1, iz_4_2, iz_5_0, iz_6_8, iz_6_9, iz_6_13, iz_6_14, iz_6_15, iz_7_2, iz_7_6, iz_7_12, iz_7_20, iz_7_21, iz_7_23, iz_7_24, ak_8, ak_9, ak_10, ak_11, ak_12, ak_13, ak_14, ak_15, ak_16, ak_17, ak_18, ak_19, ak_20, ak_21, ak_22, ak_23, ak_24, ak_25, ak_26, ak_27, ak_28, ak_29, ak_30, ak_31, ak_32, ak_33, ak_34, ak_35, ak_36, ak_37, ak_38, ak_39, ak_40, ak_41, ak_42, ak_43, ak_44, ak_45, ak_46, ak_47, ak_48, ak_49, ak_50, ak_51, ak_52, ak_53, ak_54, ak_55, ak_56, el31, el33, el34, CX6_length, ca_X6_length, frX6, kcX6, klX6, T_X6_knowPlan2, xT_up, xL_20, xL_21]
      obtain ⟨p, hN, hP⟩ := h
      exact ⟨p, fun σ1 hF hK h1 => hP σ1 hF hK h1, fun σ1 hF hK h1 => hN σ1 hF hK h1⟩
    · exact h.elim
def ca_X6_about : Nat → Option (Nat × Nat × Tr)
  | 97 => some (2, 5, T_X5_hasOperation2)
  | 68 => some (3, 99, T_X6_within2)
  | 154 => some (2, 5, T_X5_placeOf)
  | 111 => some (1, 6, T_X6_knowPlan2)
  | 157 => some (3, 6, T_X6_timeAbout)
  | _ => none
theorem cao_X6_about (l : Launch) : ∀ k n' ci T', ca_X6_about k = some (n', ci, T') → ∃ nn, nn + 1 ≤ 6 ∧ Site l yX6_about.cls k n' ci nn T' := by
  intro k n' ci T' h
  unfold ca_X6_about at h
  split at h
  · cases h; exact ⟨0, by decide, _, _, _, _, k_X5_hasOperation2 l, Or.inl ⟨_, rfl, FX5_hasOperation, KRX6_97⟩⟩
  · cases h; exact ⟨0, by decide, _, _, _, _, k_X6_within2 l, Or.inr ⟨rfl, FX6_within, Or.inl ⟨rfl, KRX6_68⟩⟩⟩
  · cases h; exact ⟨0, by decide, _, _, _, _, k_X5_placeOf l, Or.inl ⟨_, rfl, FX5_placeOf, KRX6_154⟩⟩
  · cases h; exact ⟨5, by decide, _, _, _, _, k_X6_knowPlan2 l, Or.inl ⟨_, rfl, FX6_knowPlan, KRX6_111⟩⟩
  · cases h; exact ⟨2, by decide, _, _, _, _, k_X6_timeAbout l, Or.inl ⟨_, rfl, FX6_timeAbout, KRX6_157⟩⟩
  · cases h
def T_X6_about : Tr := fun a σ K => match a with
  | [.inr (.inl (6, 0)), .inl x, .inl w] => (sWF σ 0 ∧ KPc σ) ∧ (¬ vOp (σ 10 0) x → K (some (-1)) σ) ∧ (vOp (σ 10 0) x → ¬ (0 ≤ w ∧ w ≤ 7) → K (some (-2)) σ) ∧ (vOp (σ 10 0) x → w = 0 → K (some (σ 11 0 x)) σ) ∧ (vOp (σ 10 0) x → w = 1 → K (some (σ 12 0 x)) σ) ∧ (vOp (σ 10 0) x → w = 2 → K (some (plo (σ 11 0) (σ 13 0) (σ 14 0) x)) σ) ∧ (vOp (σ 10 0) x → 3 ≤ w → w ≤ 7 → (∀ σ1, FrG pKn σ σ1 → KPc σ1 → (∀ h, ¬ sH σ 0 h) → K (some (-6)) σ1) ∧ (∀ σ1, FrG pKn σ σ1 → KPc σ1 → PK σ1 → (w = 3 → K (some (σ1 21 0 x)) σ1) ∧ (w = 4 → K (some (σ1 22 0 x)) σ1) ∧ (w = 5 → K (some (σ1 1 0 8 - (σ1 21 0 x + σ1 12 0 x + σ1 22 0 x))) σ1) ∧ (w = 6 → σ1 1 0 8 - (σ1 21 0 x + σ1 12 0 x + σ1 22 0 x) = 0 → K (some 1) σ1) ∧ (w = 6 → ¬ σ1 1 0 8 - (σ1 21 0 x + σ1 12 0 x + σ1 22 0 x) = 0 → K (some 0) σ1) ∧ (w = 7 → ∀ r, PoP (σ1 37 0) (σ1 3 0 1) x r → K (some r) σ1)))
  | _ => False
set_option maxHeartbeats 4000000 in
set_option maxRecDepth 20000 in
theorem k_X6_about (l : Launch) : Ct l yX6_about cX6_about 3 (some .int) 6 T_X6_about := by
  refine mk_met (by decide +kernel) hCX6_about lCX6_about frX6_ok cstX6_ok (cao_X6_about l) ?_ ?_
  · intro a σ K h
    unfold T_X6_about at h
    split at h
    · simp [eL]
    · exact h.elim
  · intro a σ K ha hR h
    unfold T_X6_about at h
    split at h
    · rename_i x w
      refine ⟨fun _ => none, 200, fun pc I L S σ' k h => (by cases h), ?_⟩
      simp only [wp, stp, drp, entL, eL, lget, lset, okst, cnd, swt, rcv, Kr_int, Kr_bool, Kr_void, List.length_cons, List.length_nil, List.replicate, List.append_nil, List.cons_append, List.nil_append, List.take_succ_cons, List.take_zero, List.drop_succ_cons, List.drop_zero, List.reverse_cons, List.reverse_nil, Option.map_some, Option.map_none, Option.toList_some, Option.toList_none, Nat.reduceAdd, Nat.reduceSub, Nat.reduceLT, Nat.reduceLeDiff, Nat.reduceEqDiff, ↓reduceIte, Nat.add_zero, Nat.zero_add, true_and, and_true, Nat.le_refl, reduceCtorEq, false_implies, true_implies, not_true_eq_false, not_false_eq_true, Int.reduceAdd, Int.reduceSub, Int.reduceMul, Int.reduceLE, Int.reduceLT, Int.reduceEq, Int.reduceNe, Int.reduceNeg, Int.reduceDiv, Int.reduceMod, Bool.false_eq_true, Int.le_refl, and_self, true_or, or_true, inR_l, fv0, fv1, fv2, fv3, nc2, nc4, nc6, nc16, nc25, nc60, nc65, nc80, nc130, nc384, nc390, fp_0_0, fp_0_1, fp_0_2, fp_1_0, fp_1_1, fp_1_2, fp_1_3, fp_1_4, fp_1_5, fp_1_6, fp_1_7, fp_1_8, fp_1_9, fp_1_10, fp_1_11, fp_1_12, fp_1_13, fp_1_14, fp_2_0, fp_2_1, fp_2_2, fp_2_3, fp_3_0, fp_3_1, fp_4_0, fp_4_1, fp_4_2, fp_4_3, fp_4_4, fp_4_5, fp_4_6, fp_4_7, fp_5_0, fp_5_1, fp_5_2, fp_5_3, fp_5_4, fp_5_5, fp_5_6, fp_5_7, fp_6_0, fp_6_1, fp_6_2, fp_6_3, fp_6_4, fp_6_5, fp_6_6, fp_6_7, fp_6_8, fp_6_9, fp_6_10, fp_6_11, fp_6_12, fp_6_13, fp_6_14, fp_6_15, fp_7_0, fp_7_1, fp_7_2, fp_7_3, fp_7_4, fp_7_5, fp_7_6, fp_7_7, fp_7_8, fp_7_9, fp_7_10, fp_7_11, fp_7_12, fp_7_13, fp_7_14, fp_7_15, fp_7_16, fp_7_17, fp_7_18, fp_7_19, fp_7_20, fp_7_21, fp_7_22, fp_7_23, fp_7_24, iz_0_1, iz_0_2, iz_1_8, iz_1_9, iz_1_11, iz_2_1, iz_2_2, iz_2_3, iz_3_1, iz_4_1, iz_4_2, iz_5_0, iz_6_8, iz_6_9, iz_6_13, iz_6_14, iz_6_15, iz_7_2, iz_7_6, iz_7_12, iz_7_20, iz_7_21, iz_7_23, iz_7_24, ak_8, ak_9, ak_10, ak_11, ak_12, ak_13, ak_14, ak_15, ak_16, ak_17, ak_18, ak_19, ak_20, ak_21, ak_22, ak_23, ak_24, ak_25, ak_26, ak_27, ak_28, ak_29, ak_30, ak_31, ak_32, ak_33, ak_34, ak_35, ak_36, ak_37, ak_38, ak_39, ak_40, ak_41, ak_42, ak_43, ak_44, ak_45, ak_46, ak_47, ak_48, ak_49, ak_50, ak_51, ak_52, ak_53, ak_54, ak_55, ak_56, el31, el33, el34, CX6_about, ca_X6_about, frX6, kcX6, klX6, T_X5_hasOperation2, T_X6_within2, T_X5_placeOf, T_X6_knowPlan2, T_X6_timeAbout, xT_up, xL_20, xL_21]
      obtain ⟨p, h1, h2, h3, h4, h5, h6⟩ := h
      refine ⟨fun v => ⟨fun a => ⟨fun b => ⟨fun c => ⟨fun d => ⟨p, fun σ1 hF hK hP => ?_, fun σ1 hF hK hN => (h6 v (by omega) (by omega)).1 σ1 hF hK hN⟩, fun d => ⟨?_, h5 v (by omega)⟩⟩, fun c => ⟨⟨v.1, v.2.1⟩, h4 v (by omega)⟩⟩, fun b => ⟨⟨v.1, v.2.1⟩, h3 v (by omega)⟩⟩, fun a => h2 v a⟩, fun v => h1 v⟩
      · obtain ⟨g3, g4, g5, g6, g7, g8⟩ := (h6 v (by omega) (by omega)).2 σ1 hF hK hP
        exact ⟨⟨kn_w p.1 hF, hP, by rw [(kn_v hF).2.2.2.1]; exact v⟩, g3, g4, g5, g6, g7, fun q => g8 (by omega)⟩
      · have w := sWF_op p.1 v
        exact ⟨v.1, v.2.1, w.1, w.2.1, ((sW_j p.1).2.2.2.1 _ w.1 w.2.1).2⟩
    · exact h.elim
def ca_X6_path : Nat → Option (Nat × Nat × Tr)
  | 111 => some (1, 6, T_X6_knowPlan2)
  | _ => none
theorem cao_X6_path (l : Launch) : ∀ k n' ci T', ca_X6_path k = some (n', ci, T') → ∃ nn, nn + 1 ≤ 6 ∧ Site l yX6_path.cls k n' ci nn T' := by
  intro k n' ci T' h
  unfold ca_X6_path at h
  split at h
  · cases h; exact ⟨5, by decide, _, _, _, _, k_X6_knowPlan2 l, Or.inl ⟨_, rfl, FX6_knowPlan, KRX6_111⟩⟩
  · cases h
def T_X6_path : Tr := fun a σ K => match a with
  | [.inr (.inl (6, 0)), .inl x] => (sWF σ 0 ∧ KPc σ) ∧ (∀ σ1, FrG pKn σ σ1 → KPc σ1 → (∀ h, ¬ sH σ 0 h) → K (some (-6)) σ1) ∧ (∀ σ1, FrG pKn σ σ1 → KPc σ1 → PK σ1 → (0 ≤ x → x < σ1 3 0 1 → K (some (σ1 37 0 x)) σ1) ∧ (¬ (0 ≤ x ∧ x < σ1 3 0 1) → K (some (-6)) σ1))
  | _ => False
set_option maxHeartbeats 4000000 in
set_option maxRecDepth 20000 in
theorem k_X6_path (l : Launch) : Ct l yX6_path cX6_path 2 (some .int) 6 T_X6_path := by
  refine mk_met (by decide +kernel) hCX6_path lCX6_path frX6_ok cstX6_ok (cao_X6_path l) ?_ ?_
  · intro a σ K h
    unfold T_X6_path at h
    split at h
    · simp [eL]
    · exact h.elim
  · intro a σ K ha hR h
    unfold T_X6_path at h
    split at h
    · rename_i x
      refine ⟨fun _ => none, 200, fun pc I L S σ' k h => (by cases h), ?_⟩
      simp only [wp, stp, drp, entL, eL, lget, lset, okst, cnd, swt, rcv, Kr_int, Kr_bool, Kr_void, List.length_cons, List.length_nil, List.replicate, List.append_nil, List.cons_append, List.nil_append, List.take_succ_cons, List.take_zero, List.drop_succ_cons, List.drop_zero, List.reverse_cons, List.reverse_nil, Option.map_some, Option.map_none, Option.toList_some, Option.toList_none, Nat.reduceAdd, Nat.reduceSub, Nat.reduceLT, Nat.reduceLeDiff, Nat.reduceEqDiff, ↓reduceIte, Nat.add_zero, Nat.zero_add, true_and, and_true, Nat.le_refl, reduceCtorEq, false_implies, true_implies, not_true_eq_false, not_false_eq_true, Int.reduceAdd, Int.reduceSub, Int.reduceMul, Int.reduceLE, Int.reduceLT, Int.reduceEq, Int.reduceNe, Int.reduceNeg, Int.reduceDiv, Int.reduceMod, Bool.false_eq_true, Int.le_refl, and_self, true_or, or_true, inR_l, fv0, fv1, fv2, fv3, nc2, nc4, nc6, nc16, nc25, nc60, nc65, nc80, nc130, nc384, nc390, fp_0_0, fp_0_1, fp_0_2, fp_1_0, fp_1_1, fp_1_2, fp_1_3, fp_1_4, fp_1_5, fp_1_6, fp_1_7, fp_1_8, fp_1_9, fp_1_10, fp_1_11, fp_1_12, fp_1_13, fp_1_14, fp_2_0, fp_2_1, fp_2_2, fp_2_3, fp_3_0, fp_3_1, fp_4_0, fp_4_1, fp_4_2, fp_4_3, fp_4_4, fp_4_5, fp_4_6, fp_4_7, fp_5_0, fp_5_1, fp_5_2, fp_5_3, fp_5_4, fp_5_5, fp_5_6, fp_5_7, fp_6_0, fp_6_1, fp_6_2, fp_6_3, fp_6_4, fp_6_5, fp_6_6, fp_6_7, fp_6_8, fp_6_9, fp_6_10, fp_6_11, fp_6_12, fp_6_13, fp_6_14, fp_6_15, fp_7_0, fp_7_1, fp_7_2, fp_7_3, fp_7_4, fp_7_5, fp_7_6, fp_7_7, fp_7_8, fp_7_9, fp_7_10, fp_7_11, fp_7_12, fp_7_13, fp_7_14, fp_7_15, fp_7_16, fp_7_17, fp_7_18, fp_7_19, fp_7_20, fp_7_21, fp_7_22, fp_7_23, fp_7_24, iz_0_1, iz_0_2, iz_1_8, iz_1_9, iz_1_11, iz_2_1, iz_2_2, iz_2_3, iz_3_1, iz_4_1, iz_4_2, iz_5_0, iz_6_8, iz_6_9, iz_6_13, iz_6_14, iz_6_15, iz_7_2, iz_7_6, iz_7_12, iz_7_20, iz_7_21, iz_7_23, iz_7_24, ak_8, ak_9, ak_10, ak_11, ak_12, ak_13, ak_14, ak_15, ak_16, ak_17, ak_18, ak_19, ak_20, ak_21, ak_22, ak_23, ak_24, ak_25, ak_26, ak_27, ak_28, ak_29, ak_30, ak_31, ak_32, ak_33, ak_34, ak_35, ak_36, ak_37, ak_38, ak_39, ak_40, ak_41, ak_42, ak_43, ak_44, ak_45, ak_46, ak_47, ak_48, ak_49, ak_50, ak_51, ak_52, ak_53, ak_54, ak_55, ak_56, el31, el33, el34, CX6_path, ca_X6_path, frX6, kcX6, klX6, T_X6_knowPlan2, xT_up, xL_20, xL_21]
      obtain ⟨p, hN, hP⟩ := h
      refine ⟨p, fun σ1 hF hK h1 => ?_, fun σ1 hF hK h1 => hN σ1 hF hK h1⟩
      have q := hP σ1 hF hK h1
      have n := PK_n (kn_w p.1 hF) h1
      exact ⟨fun a => q.2 (by omega), fun a => ⟨fun b => ⟨by omega, q.1 (by omega) b⟩, fun b => q.2 (by omega)⟩⟩
    · exact h.elim
def ca_X6_order : Nat → Option (Nat × Nat × Tr)
  | 87 => some (1, 99, T_X6_isMachine2)
  | 160 => some (3, 5, T_X5_hasPlace2)
  | _ => none
theorem cao_X6_order (l : Launch) : ∀ k n' ci T', ca_X6_order k = some (n', ci, T') → ∃ nn, nn + 1 ≤ 2 ∧ Site l yX6_order.cls k n' ci nn T' := by
  intro k n' ci T' h
  unfold ca_X6_order at h
  split at h
  · cases h; exact ⟨1, by decide, _, _, _, _, k_X6_isMachine2 l, Or.inr ⟨rfl, FX6_isMachine, Or.inl ⟨rfl, KRX6_87⟩⟩⟩
  · cases h; exact ⟨0, by decide, _, _, _, _, k_X5_hasPlace2 l, Or.inl ⟨_, rfl, FX5_hasPlace, KRX6_160⟩⟩
  · cases h
def T_X6_order : Tr := fun a σ K => match a with
  | [.inr (.inl (6, 0)), .inl m, .inl x] => sWF σ 0 ∧ (¬ (0 ≤ m ∧ m ≤ 3) → K (some (-2)) σ) ∧ (0 ≤ m ∧ m ≤ 3 → (0 ≤ x ∧ x < σ 13 0 m → K (some (σ 14 0 (4 * m + x))) σ) ∧ (¬ (0 ≤ x ∧ x < σ 13 0 m) → K (some (-6)) σ))
  | _ => False
set_option maxHeartbeats 4000000 in
set_option maxRecDepth 20000 in
theorem k_X6_order (l : Launch) : Ct l yX6_order cX6_order 3 (some .int) 2 T_X6_order := by
  refine mk_met (by decide +kernel) hCX6_order lCX6_order frX6_ok cstX6_ok (cao_X6_order l) ?_ ?_
  · intro a σ K h
    unfold T_X6_order at h
    split at h
    · simp [eL]
    · exact h.elim
  · intro a σ K ha hR h
    unfold T_X6_order at h
    split at h
    · rename_i m x
      refine ⟨fun _ => none, 200, fun pc I L S σ' k h => (by cases h), ?_⟩
      simp only [wp, stp, drp, entL, eL, lget, lset, okst, cnd, swt, rcv, Kr_int, Kr_bool, Kr_void, List.length_cons, List.length_nil, List.replicate, List.append_nil, List.cons_append, List.nil_append, List.take_succ_cons, List.take_zero, List.drop_succ_cons, List.drop_zero, List.reverse_cons, List.reverse_nil, Option.map_some, Option.map_none, Option.toList_some, Option.toList_none, Nat.reduceAdd, Nat.reduceSub, Nat.reduceLT, Nat.reduceLeDiff, Nat.reduceEqDiff, ↓reduceIte, Nat.add_zero, Nat.zero_add, true_and, and_true, Nat.le_refl, reduceCtorEq, false_implies, true_implies, not_true_eq_false, not_false_eq_true, Int.reduceAdd, Int.reduceSub, Int.reduceMul, Int.reduceLE, Int.reduceLT, Int.reduceEq, Int.reduceNe, Int.reduceNeg, Int.reduceDiv, Int.reduceMod, Bool.false_eq_true, Int.le_refl, and_self, true_or, or_true, inR_l, fv0, fv1, fv2, fv3, nc2, nc4, nc6, nc16, nc25, nc60, nc65, nc80, nc130, nc384, nc390, fp_0_0, fp_0_1, fp_0_2, fp_1_0, fp_1_1, fp_1_2, fp_1_3, fp_1_4, fp_1_5, fp_1_6, fp_1_7, fp_1_8, fp_1_9, fp_1_10, fp_1_11, fp_1_12, fp_1_13, fp_1_14, fp_2_0, fp_2_1, fp_2_2, fp_2_3, fp_3_0, fp_3_1, fp_4_0, fp_4_1, fp_4_2, fp_4_3, fp_4_4, fp_4_5, fp_4_6, fp_4_7, fp_5_0, fp_5_1, fp_5_2, fp_5_3, fp_5_4, fp_5_5, fp_5_6, fp_5_7, fp_6_0, fp_6_1, fp_6_2, fp_6_3, fp_6_4, fp_6_5, fp_6_6, fp_6_7, fp_6_8, fp_6_9, fp_6_10, fp_6_11, fp_6_12, fp_6_13, fp_6_14, fp_6_15, fp_7_0, fp_7_1, fp_7_2, fp_7_3, fp_7_4, fp_7_5, fp_7_6, fp_7_7, fp_7_8, fp_7_9, fp_7_10, fp_7_11, fp_7_12, fp_7_13, fp_7_14, fp_7_15, fp_7_16, fp_7_17, fp_7_18, fp_7_19, fp_7_20, fp_7_21, fp_7_22, fp_7_23, fp_7_24, iz_0_1, iz_0_2, iz_1_8, iz_1_9, iz_1_11, iz_2_1, iz_2_2, iz_2_3, iz_3_1, iz_4_1, iz_4_2, iz_5_0, iz_6_8, iz_6_9, iz_6_13, iz_6_14, iz_6_15, iz_7_2, iz_7_6, iz_7_12, iz_7_20, iz_7_21, iz_7_23, iz_7_24, ak_8, ak_9, ak_10, ak_11, ak_12, ak_13, ak_14, ak_15, ak_16, ak_17, ak_18, ak_19, ak_20, ak_21, ak_22, ak_23, ak_24, ak_25, ak_26, ak_27, ak_28, ak_29, ak_30, ak_31, ak_32, ak_33, ak_34, ak_35, ak_36, ak_37, ak_38, ak_39, ak_40, ak_41, ak_42, ak_43, ak_44, ak_45, ak_46, ak_47, ak_48, ak_49, ak_50, ak_51, ak_52, ak_53, ak_54, ak_55, ak_56, el31, el33, el34, CX6_order, ca_X6_order, frX6, kcX6, klX6, T_X6_isMachine2, T_X5_hasPlace2, xT_up, xL_20, xL_21]
      obtain ⟨p, h1, h2⟩ := h
      refine ⟨fun a => ⟨by omega, fun b => ?_, (h2 a).2⟩, h1⟩
      have l := (sW_j p).2.2.2.1 m (by omega) (by omega)
      exact ⟨by simp only [inR]; omega, by simp only [inR]; omega, by omega, (h2 a).1 b⟩
    · exact h.elim
def ca_X6_ofJob : Nat → Option (Nat × Nat × Tr)
  | 83 => some (2, 5, T_X5_hasJob2)
  | 68 => some (3, 99, T_X6_within2)
  | 173 => some (2, 5, T_X5_work)
  | 111 => some (1, 6, T_X6_knowPlan2)
  | 176 => some (2, 6, T_X6_endOfJob2)
  | 179 => some (2, 6, T_X6_lateness2)
  | _ => none
theorem cao_X6_ofJob (l : Launch) : ∀ k n' ci T', ca_X6_ofJob k = some (n', ci, T') → ∃ nn, nn + 1 ≤ 6 ∧ Site l yX6_ofJob.cls k n' ci nn T' := by
  intro k n' ci T' h
  unfold ca_X6_ofJob at h
  split at h
  · cases h; exact ⟨0, by decide, _, _, _, _, k_X5_hasJob2 l, Or.inl ⟨_, rfl, FX5_hasJob, KRX6_83⟩⟩
  · cases h; exact ⟨0, by decide, _, _, _, _, k_X6_within2 l, Or.inr ⟨rfl, FX6_within, Or.inl ⟨rfl, KRX6_68⟩⟩⟩
  · cases h; exact ⟨0, by decide, _, _, _, _, k_X5_work l, Or.inl ⟨_, rfl, FX5_work, KRX6_173⟩⟩
  · cases h; exact ⟨5, by decide, _, _, _, _, k_X6_knowPlan2 l, Or.inl ⟨_, rfl, FX6_knowPlan, KRX6_111⟩⟩
  · cases h; exact ⟨1, by decide, _, _, _, _, k_X6_endOfJob2 l, Or.inl ⟨_, rfl, FX6_endOfJob, KRX6_176⟩⟩
  · cases h; exact ⟨2, by decide, _, _, _, _, k_X6_lateness2 l, Or.inl ⟨_, rfl, FX6_lateness, KRX6_179⟩⟩
  · cases h
def T_X6_ofJob : Tr := fun a σ K => match a with
  | [.inr (.inl (6, 0)), .inl j, .inl w] => (sWF σ 0 ∧ KPc σ) ∧ (¬ (0 ≤ j ∧ j < σ 5 0 0) → K (some (-1)) σ) ∧ (0 ≤ j ∧ j < σ 5 0 0 → ¬ (0 ≤ w ∧ w ≤ 5) → K (some (-2)) σ) ∧ (0 ≤ j ∧ j < σ 5 0 0 → w = 0 → K (some (σ 8 0 j)) σ) ∧ (0 ≤ j ∧ j < σ 5 0 0 → w = 1 → K (some (σ 9 0 j)) σ) ∧ (0 ≤ j ∧ j < σ 5 0 0 → w = 2 → K (some (σ 10 0 j)) σ) ∧ (0 ≤ j ∧ j < σ 5 0 0 → w = 3 → K (some (wF (σ 12 0) (4 * j) (σ 10 0 j))) σ) ∧ (0 ≤ j ∧ j < σ 5 0 0 → 4 ≤ w → w ≤ 5 → (∀ σ1, FrG pKn σ σ1 → KPc σ1 → (∀ h, ¬ sH σ 0 h) → K (some (-6)) σ1) ∧ (∀ σ1, FrG pKn σ σ1 → KPc σ1 → PK σ1 → (w = 4 → K (some (ejV σ1 j)) σ1) ∧ (w = 5 → K (some (ltV σ1 j)) σ1)))
  | _ => False
set_option maxHeartbeats 4000000 in
set_option maxRecDepth 20000 in
theorem k_X6_ofJob (l : Launch) : Ct l yX6_ofJob cX6_ofJob 3 (some .int) 6 T_X6_ofJob := by
  refine mk_met (by decide +kernel) hCX6_ofJob lCX6_ofJob frX6_ok cstX6_ok (cao_X6_ofJob l) ?_ ?_
  · intro a σ K h
    unfold T_X6_ofJob at h
    split at h
    · simp [eL]
    · exact h.elim
  · intro a σ K ha hR h
    unfold T_X6_ofJob at h
    split at h
    · rename_i j w
      refine ⟨fun _ => none, 200, fun pc I L S σ' k h => (by cases h), ?_⟩
      simp only [wp, stp, drp, entL, eL, lget, lset, okst, cnd, swt, rcv, Kr_int, Kr_bool, Kr_void, List.length_cons, List.length_nil, List.replicate, List.append_nil, List.cons_append, List.nil_append, List.take_succ_cons, List.take_zero, List.drop_succ_cons, List.drop_zero, List.reverse_cons, List.reverse_nil, Option.map_some, Option.map_none, Option.toList_some, Option.toList_none, Nat.reduceAdd, Nat.reduceSub, Nat.reduceLT, Nat.reduceLeDiff, Nat.reduceEqDiff, ↓reduceIte, Nat.add_zero, Nat.zero_add, true_and, and_true, Nat.le_refl, reduceCtorEq, false_implies, true_implies, not_true_eq_false, not_false_eq_true, Int.reduceAdd, Int.reduceSub, Int.reduceMul, Int.reduceLE, Int.reduceLT, Int.reduceEq, Int.reduceNe, Int.reduceNeg, Int.reduceDiv, Int.reduceMod, Bool.false_eq_true, Int.le_refl, and_self, true_or, or_true, inR_l, fv0, fv1, fv2, fv3, nc2, nc4, nc6, nc16, nc25, nc60, nc65, nc80, nc130, nc384, nc390, fp_0_0, fp_0_1, fp_0_2, fp_1_0, fp_1_1, fp_1_2, fp_1_3, fp_1_4, fp_1_5, fp_1_6, fp_1_7, fp_1_8, fp_1_9, fp_1_10, fp_1_11, fp_1_12, fp_1_13, fp_1_14, fp_2_0, fp_2_1, fp_2_2, fp_2_3, fp_3_0, fp_3_1, fp_4_0, fp_4_1, fp_4_2, fp_4_3, fp_4_4, fp_4_5, fp_4_6, fp_4_7, fp_5_0, fp_5_1, fp_5_2, fp_5_3, fp_5_4, fp_5_5, fp_5_6, fp_5_7, fp_6_0, fp_6_1, fp_6_2, fp_6_3, fp_6_4, fp_6_5, fp_6_6, fp_6_7, fp_6_8, fp_6_9, fp_6_10, fp_6_11, fp_6_12, fp_6_13, fp_6_14, fp_6_15, fp_7_0, fp_7_1, fp_7_2, fp_7_3, fp_7_4, fp_7_5, fp_7_6, fp_7_7, fp_7_8, fp_7_9, fp_7_10, fp_7_11, fp_7_12, fp_7_13, fp_7_14, fp_7_15, fp_7_16, fp_7_17, fp_7_18, fp_7_19, fp_7_20, fp_7_21, fp_7_22, fp_7_23, fp_7_24, iz_0_1, iz_0_2, iz_1_8, iz_1_9, iz_1_11, iz_2_1, iz_2_2, iz_2_3, iz_3_1, iz_4_1, iz_4_2, iz_5_0, iz_6_8, iz_6_9, iz_6_13, iz_6_14, iz_6_15, iz_7_2, iz_7_6, iz_7_12, iz_7_20, iz_7_21, iz_7_23, iz_7_24, ak_8, ak_9, ak_10, ak_11, ak_12, ak_13, ak_14, ak_15, ak_16, ak_17, ak_18, ak_19, ak_20, ak_21, ak_22, ak_23, ak_24, ak_25, ak_26, ak_27, ak_28, ak_29, ak_30, ak_31, ak_32, ak_33, ak_34, ak_35, ak_36, ak_37, ak_38, ak_39, ak_40, ak_41, ak_42, ak_43, ak_44, ak_45, ak_46, ak_47, ak_48, ak_49, ak_50, ak_51, ak_52, ak_53, ak_54, ak_55, ak_56, el31, el33, el34, CX6_ofJob, ca_X6_ofJob, frX6, kcX6, klX6, T_X5_hasJob2, T_X6_within2, T_X5_work, T_X6_knowPlan2, T_X6_endOfJob2, T_X6_lateness2, xT_up, xL_20, xL_21]
      obtain ⟨p, h1, h2, h3, h4, h5, h6, h7⟩ := h
      have l := sW_j p.1
      refine ⟨fun a => ⟨fun b => ⟨⟨fun c => ⟨by omega, h3 a c⟩, fun c => ⟨by omega, h4 a c⟩, fun c => ⟨by omega, h5 a c⟩, fun c => ⟨⟨by omega, by omega, (l.2.2.1 j (by omega) (by omega)).1, (l.2.2.1 j (by omega) (by omega)).2, fun x x0 x1 => ?_⟩, h6 a c⟩⟩, fun c => ⟨p, fun σ1 hF hK hP => ?_, fun σ1 hF hK hN => (h7 a (by omega) (by omega)).1 σ1 hF hK hN⟩⟩, fun b => h2 a b⟩, h1⟩
      · have := l.2.2.2.2 j x (by omega) (by omega) x0 x1
        omega
      · obtain ⟨g4, g5⟩ := (h7 a (by omega) (by omega)).2 σ1 hF hK hP
        have e := (PK_e (kn_w p.1 hF) hP).2.1 j a.1 (by rw [(kn_v hF).1]; exact a.2)
        exact ⟨fun d => ⟨e, g5 (by omega)⟩, fun d => ⟨e, g4 (by omega)⟩⟩
    · exact h.elim
def ca_X6_count : Nat → Option (Nat × Nat × Tr)
  | 68 => some (3, 99, T_X6_within2)
  | 182 => some (1, 5, T_X5_allSteps)
  | 186 => some (1, 5, T_X5_allWork)
  | 111 => some (1, 6, T_X6_knowPlan2)
  | 195 => some (2, 6, T_X6_numberOfPlan)
  | _ => none
theorem cao_X6_count (l : Launch) : ∀ k n' ci T', ca_X6_count k = some (n', ci, T') → ∃ nn, nn + 1 ≤ 6 ∧ Site l yX6_count.cls k n' ci nn T' := by
  intro k n' ci T' h
  unfold ca_X6_count at h
  split at h
  · cases h; exact ⟨0, by decide, _, _, _, _, k_X6_within2 l, Or.inr ⟨rfl, FX6_within, Or.inl ⟨rfl, KRX6_68⟩⟩⟩
  · cases h; exact ⟨0, by decide, _, _, _, _, k_X5_allSteps l, Or.inl ⟨_, rfl, FX5_allSteps, KRX6_182⟩⟩
  · cases h; exact ⟨1, by decide, _, _, _, _, k_X5_allWork l, Or.inl ⟨_, rfl, FX5_allWork, KRX6_186⟩⟩
  · cases h; exact ⟨5, by decide, _, _, _, _, k_X6_knowPlan2 l, Or.inl ⟨_, rfl, FX6_knowPlan, KRX6_111⟩⟩
  · cases h; exact ⟨4, by decide, _, _, _, _, k_X6_numberOfPlan l, Or.inl ⟨_, rfl, FX6_numberOfPlan, KRX6_195⟩⟩
  · cases h
def T_X6_count : Tr := fun a σ K => match a with
  | [.inr (.inl (6, 0)), .inl w] => (sWF σ 0 ∧ KPc σ) ∧ (¬ (0 ≤ w ∧ w ≤ 9) → K (some (-2)) σ) ∧ (w = 0 → K (some (σ 5 0 0)) σ) ∧ (w = 1 → K (some (wF (σ 10 0) 0 (σ 5 0 0))) σ) ∧ (w = 2 → K (some (wF (fun j => wF (σ 12 0) (4 * j) (σ 10 0 j)) 0 (σ 5 0 0))) σ) ∧ (w = 8 → K (some (σ 2 0 1)) σ) ∧ (w = 9 → K (some (σ 0 0 1)) σ) ∧ ((3 ≤ w ∧ w ≤ 6) ∨ w = 7 → (∀ σ1, FrG pKn σ σ1 → KPc σ1 → (∀ h, ¬ sH σ 0 h) → (w ≠ 7 → K (some (-6)) σ1) ∧ (w = 7 → K (some 0) σ1)) ∧ (∀ σ1, FrG pKn σ σ1 → KPc σ1 → PK σ1 → (w = 7 → K (some 1) σ1) ∧ (w = 3 → K (some (σ1 3 0 1)) σ1) ∧ (w = 4 → K (some (sm (blk (σ1 11 0) (σ1 37 0)) (σ1 3 0 1).toNat)) σ1) ∧ (w = 5 → K (some (sm (ltV σ1) (σ1 5 0 0).toNat)) σ1) ∧ (w = 6 → K (some (mxS (ltV σ1) (σ1 5 0 0).toNat)) σ1)))
  | _ => False
set_option maxHeartbeats 4000000 in
set_option maxRecDepth 20000 in
theorem k_X6_count (l : Launch) : Ct l yX6_count cX6_count 2 (some .int) 6 T_X6_count := by
  refine mk_met (by decide +kernel) hCX6_count lCX6_count frX6_ok cstX6_ok (cao_X6_count l) ?_ ?_
  · intro a σ K h
    unfold T_X6_count at h
    split at h
    · simp [eL]
    · exact h.elim
  · intro a σ K ha hR h
    unfold T_X6_count at h
    split at h
    · rename_i w
      refine ⟨fun _ => none, 200, fun pc I L S σ' k h => (by cases h), ?_⟩
      simp only [wp, stp, drp, entL, eL, lget, lset, okst, cnd, swt, rcv, Kr_int, Kr_bool, Kr_void, List.length_cons, List.length_nil, List.replicate, List.append_nil, List.cons_append, List.nil_append, List.take_succ_cons, List.take_zero, List.drop_succ_cons, List.drop_zero, List.reverse_cons, List.reverse_nil, Option.map_some, Option.map_none, Option.toList_some, Option.toList_none, Nat.reduceAdd, Nat.reduceSub, Nat.reduceLT, Nat.reduceLeDiff, Nat.reduceEqDiff, ↓reduceIte, Nat.add_zero, Nat.zero_add, true_and, and_true, Nat.le_refl, reduceCtorEq, false_implies, true_implies, not_true_eq_false, not_false_eq_true, Int.reduceAdd, Int.reduceSub, Int.reduceMul, Int.reduceLE, Int.reduceLT, Int.reduceEq, Int.reduceNe, Int.reduceNeg, Int.reduceDiv, Int.reduceMod, Bool.false_eq_true, Int.le_refl, and_self, true_or, or_true, inR_l, fv0, fv1, fv2, fv3, nc2, nc4, nc6, nc16, nc25, nc60, nc65, nc80, nc130, nc384, nc390, fp_0_0, fp_0_1, fp_0_2, fp_1_0, fp_1_1, fp_1_2, fp_1_3, fp_1_4, fp_1_5, fp_1_6, fp_1_7, fp_1_8, fp_1_9, fp_1_10, fp_1_11, fp_1_12, fp_1_13, fp_1_14, fp_2_0, fp_2_1, fp_2_2, fp_2_3, fp_3_0, fp_3_1, fp_4_0, fp_4_1, fp_4_2, fp_4_3, fp_4_4, fp_4_5, fp_4_6, fp_4_7, fp_5_0, fp_5_1, fp_5_2, fp_5_3, fp_5_4, fp_5_5, fp_5_6, fp_5_7, fp_6_0, fp_6_1, fp_6_2, fp_6_3, fp_6_4, fp_6_5, fp_6_6, fp_6_7, fp_6_8, fp_6_9, fp_6_10, fp_6_11, fp_6_12, fp_6_13, fp_6_14, fp_6_15, fp_7_0, fp_7_1, fp_7_2, fp_7_3, fp_7_4, fp_7_5, fp_7_6, fp_7_7, fp_7_8, fp_7_9, fp_7_10, fp_7_11, fp_7_12, fp_7_13, fp_7_14, fp_7_15, fp_7_16, fp_7_17, fp_7_18, fp_7_19, fp_7_20, fp_7_21, fp_7_22, fp_7_23, fp_7_24, iz_0_1, iz_0_2, iz_1_8, iz_1_9, iz_1_11, iz_2_1, iz_2_2, iz_2_3, iz_3_1, iz_4_1, iz_4_2, iz_5_0, iz_6_8, iz_6_9, iz_6_13, iz_6_14, iz_6_15, iz_7_2, iz_7_6, iz_7_12, iz_7_20, iz_7_21, iz_7_23, iz_7_24, ak_8, ak_9, ak_10, ak_11, ak_12, ak_13, ak_14, ak_15, ak_16, ak_17, ak_18, ak_19, ak_20, ak_21, ak_22, ak_23, ak_24, ak_25, ak_26, ak_27, ak_28, ak_29, ak_30, ak_31, ak_32, ak_33, ak_34, ak_35, ak_36, ak_37, ak_38, ak_39, ak_40, ak_41, ak_42, ak_43, ak_44, ak_45, ak_46, ak_47, ak_48, ak_49, ak_50, ak_51, ak_52, ak_53, ak_54, ak_55, ak_56, el31, el33, el34, CX6_count, ca_X6_count, frX6, kcX6, klX6, T_X6_within2, T_X5_allSteps, T_X5_allWork, T_X6_knowPlan2, T_X6_numberOfPlan, xT_up, xL_20, xL_21]
      obtain ⟨p, h1, h2, h3, h4, h5, h6, h7⟩ := h
      have l := sW_j p.1
      have num : (3 ≤ w ∧ w ≤ 6) → (sWF σ 0 ∧ KPc σ) ∧ (∀ σ' : Mem, FrG pKn σ σ' → KPc σ' → PK σ' → (sWF σ' 0 ∧ PK σ') ∧ (w = 3 → K (some (σ' 3 0 1)) σ') ∧ (w = 4 → K (some (sm (blk (σ' 11 0) (σ' 37 0)) (σ' 3 0 1).toNat)) σ') ∧ (w = 5 → K (some (sm (ltV σ') (σ' 5 0 0).toNat)) σ') ∧ (w ≠ 3 ∧ w ≠ 4 ∧ w ≠ 5 → K (some (mxS (ltV σ') (σ' 5 0 0).toNat)) σ')) ∧ ∀ σ' : Mem, FrG pKn σ σ' → KPc σ' → (∀ h : Int → Int, ¬ sH σ 0 h) → K (some (-6)) σ' := fun a => by
        refine ⟨p, fun σ1 hF hK hP => ?_, fun σ1 hF hK hN => ((h7 (Or.inl a)).1 σ1 hF hK hN).1 (by omega)⟩
        obtain ⟨g7, g3, g4, g5, g6⟩ := (h7 (Or.inl a)).2 σ1 hF hK hP
        exact ⟨⟨kn_w p.1 hF, hP⟩, g3, g4, g5, fun q => g6 (by omega)⟩
      refine ⟨fun a => ⟨⟨h2, fun b => ⟨⟨l.1, l.2.1, l.2.2.1⟩, h3 b⟩, fun b => ⟨⟨l.1, l.2.1, fun j j0 j1 => ?_, fun j x j0 j1 x0 x1 => ?_⟩, h4 b⟩, fun b => num (by omega), fun b => num (by omega), fun b => num (by omega), fun b => num (by omega), fun b => ⟨p, fun σ1 hF hK hP => ((h7 (Or.inr b)).2 σ1 hF hK hP).1 b, fun σ1 hF hK hN => ((h7 (Or.inr b)).1 σ1 hF hK hN).2 b⟩, h5, h6⟩, fun b => ?_⟩, h1⟩
      · have s := l.2.2.1 j j0 (by omega)
        have q := wF_bd (f := σ 12 0) (b := 4 * j) (n := σ 10 0 j) (lo := 0) (hi := 20) (fun x x0 x1 => by
          have := l.2.2.2.2 j x j0 (by omega) x0 x1
          omega) (by omega) (by omega)
        omega
      · have := l.2.2.2.2 j x j0 (by omega) x0 x1
        omega
      · exfalso
        omega
    · exact h.elim
