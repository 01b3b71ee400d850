/-! what is asked about the plan: the reference -/
def pRP (t a : Nat) (x : Int) : Prop := pFd t a x ∨ pCr t a x
def RP2 (σ σ' : Mem) (L : Int) : Prop := FrG pRP σ σ' ∧ rH σ (σ' 45 0) ∧ rT σ (σ' 46 0) ∧ rBd σ' ∧ LE σ' 16 L ∧ rPT σ' L (σ' 47 0) (σ' 7 0 12) (-6)
theorem RP2_i {σ σ1 σ2 : Mem} {L : Int} (hw : rWF σ) (h : Fnd σ σ1) (hL : LE σ1 16 L) (hC : FCi σ1 σ2 L (-6)) : RP2 σ σ2 L := by
  have hb := Fnd_rBd hw h
  have e38 : σ2 38 0 = σ1 38 0 := hC.1.f 38 0 (by rintro x (⟨q, -⟩ | ⟨q, -⟩) <;> omega)
  have e45 : σ2 45 0 = σ1 45 0 := hC.1.f 45 0 (by rintro x (⟨q, -⟩ | ⟨q, -⟩) <;> omega)
  have e46 : σ2 46 0 = σ1 46 0 := hC.1.f 46 0 (by rintro x (⟨q, -⟩ | ⟨q, -⟩) <;> omega)
  refine ⟨(h.1.w (fun _ _ _ q => Or.inl q)).t (hC.1.w (fun _ _ _ q => Or.inr q)), by rw [e45]; exact h.2.1, by rw [e46]; exact h.2.2.1, ?_, ?_, ?_⟩
  · unfold rBd rWF rOp rSt rMc rDu rLn rQ rRe rDd at hb ⊢
    rw [e38, e45, e46]
    exact hb
  · unfold LE rOp rSt rDu at hL ⊢
    rw [e38, e45]
    exact hL
  · have := hC.2
    unfold rPT rSt rMc rDu rLn rQ rRe at this ⊢
    rw [e38, e45, e46]
    exact this
theorem Fnd_p {σ σ1 : Mem} (hw : rWF σ) (h : Fnd σ σ1) : rWF σ1 ∧ rOp σ1 = rOp σ ∧ (∀ o, rOp σ1 o → 0 ≤ σ1 45 0 o ∧ σ1 45 0 o ≤ 10000) ∧ σ1 38 0 = σ 38 0 := by
  have b := Fnd_rBd hw h
  have e := pFd_38 h.1
  refine ⟨b.1, ?_, fun o v => ⟨(b.2 o v).1, (b.2 o v).2.1⟩, e⟩
  unfold rOp
  rw [(r38 e).1]
theorem RP2_R {σ σ' : Mem} {L : Int} (h : RP2 σ σ' L) : RPl σ σ' := ⟨h.1, h.2.1, h.2.2.1, h.2.2.2.1, L, h.2.2.2.2⟩
theorem pRP_38 {σ σ' : Mem} (h : FrG pRP σ σ') : σ' 38 0 = σ 38 0 := h.f 38 0 (by rintro x (⟨q, -⟩ | ⟨q, -⟩) <;> omega)
def ca_X7_length : Nat → Option (Nat × Nat × Tr)
  | 139 => some (1, 7, T_X7_find)
  | 143 => some (1, 7, T_X7_lastEnd)
  | _ => none
theorem cao_X7_length (l : Launch) : ∀ k n' ci T', ca_X7_length k = some (n', ci, T') → ∃ nn, nn + 1 ≤ 5 ∧ Site l yX7_length.cls k n' ci nn T' := by
  intro k n' ci T' h
  unfold ca_X7_length at h
  split at h
  · cases h; exact ⟨4, by decide, _, _, _, _, k_X7_find l, Or.inl ⟨_, rfl, FX7_find, KRX7_139⟩⟩
  · cases h; exact ⟨2, by decide, _, _, _, _, k_X7_lastEnd l, Or.inl ⟨_, rfl, FX7_lastEnd, KRX7_143⟩⟩
  · cases h
def T_X7_length : Tr := fun a σ K => match a with
  | [.inr (.inl (7, 0))] => rWF σ ∧ (∀ σ1, FrG pFd σ σ1 → (∀ h, ¬ rH σ h) → K (some (-6)) σ1) ∧ (∀ σ1 L, Fnd σ σ1 → LE σ1 16 L → K (some L) σ1)
  | _ => False
set_option maxHeartbeats 4000000 in
set_option maxRecDepth 20000 in
theorem k_X7_length (l : Launch) : Ct l yX7_length cX7_length 1 (some .int) 5 T_X7_length := by
  refine mk_met (by decide +kernel) hCX7_length lCX7_length frX7_ok cstX7_ok (cao_X7_length l) ?_ ?_
  · intro a σ K h
    unfold T_X7_length at h
    split at h
    · simp [eL]
    · exact h.elim
  · intro a σ K ha hR h
    unfold T_X7_length at h
    split at h
    · refine ⟨fun _ => none, 200, fun pc I L S σ' k h => (by cases h), ?_⟩
      simp only [wp, stp, drp, entL, eL, lget, lset, okst, cnd, swt, rcv, Kr_int, Kr_bool, Kr_void, List.length_cons, List.length_nil, List.replicate, List.append_nil, List.cons_append, List.nil_append, List.take_succ_cons, List.take_zero, List.drop_succ_cons, List.drop_zero, List.reverse_cons, List.reverse_nil, Option.map_some, Option.map_none, Option.toList_some, Option.toList_none, Nat.reduceAdd, Nat.reduceSub, Nat.reduceLT, Nat.reduceLeDiff, Nat.reduceEqDiff, ↓reduceIte, Nat.add_zero, Nat.zero_add, true_and, and_true, Nat.le_refl, reduceCtorEq, false_implies, true_implies, not_true_eq_false, not_false_eq_true, Int.reduceAdd, Int.reduceSub, Int.reduceMul, Int.reduceLE, Int.reduceLT, Int.reduceEq, Int.reduceNe, Int.reduceNeg, Int.reduceDiv, Int.reduceMod, Bool.false_eq_true, Int.le_refl, and_self, true_or, or_true, inR_l, fv0, fv1, fv2, fv3, nc2, nc4, nc6, nc16, nc25, nc60, nc65, nc80, nc130, nc384, nc390, fp_0_0, fp_0_1, fp_0_2, fp_1_0, fp_1_1, fp_1_2, fp_1_3, fp_1_4, fp_1_5, fp_1_6, fp_1_7, fp_1_8, fp_1_9, fp_1_10, fp_1_11, fp_1_12, fp_1_13, fp_1_14, fp_2_0, fp_2_1, fp_2_2, fp_2_3, fp_3_0, fp_3_1, fp_4_0, fp_4_1, fp_4_2, fp_4_3, fp_4_4, fp_4_5, fp_4_6, fp_4_7, fp_5_0, fp_5_1, fp_5_2, fp_5_3, fp_5_4, fp_5_5, fp_5_6, fp_5_7, fp_6_0, fp_6_1, fp_6_2, fp_6_3, fp_6_4, fp_6_5, fp_6_6, fp_6_7, fp_6_8, fp_6_9, fp_6_10, fp_6_11, fp_6_12, fp_6_13, fp_6_14, fp_6_15, fp_7_0, fp_7_1, fp_7_2, fp_7_3, fp_7_4, fp_7_5, fp_7_6, fp_7_7, fp_7_8, fp_7_9, fp_7_10, fp_7_11, fp_7_12, fp_7_13, fp_7_14, fp_7_15, fp_7_16, fp_7_17, fp_7_18, fp_7_19, fp_7_20, fp_7_21, fp_7_22, fp_7_23, fp_7_24, iz_0_1, iz_0_2, iz_1_8, iz_1_9, iz_1_11, iz_2_1, iz_2_2, iz_2_3, iz_3_1, iz_4_1, iz_4_2, iz_5_0, iz_6_8, iz_6_9, iz_6_13, iz_6_14, iz_6_15, iz_7_2, iz_7_6, iz_7_12, iz_7_20, iz_7_21, iz_7_23, iz_7_24, ak_8, ak_9, ak_10, ak_11, ak_12, ak_13, ak_14, ak_15, ak_16, ak_17, ak_18, ak_19, ak_20, ak_21, ak_22, ak_23, ak_24, ak_25, ak_26, ak_27, ak_28, ak_29, ak_30, ak_31, ak_32, ak_33, ak_34, ak_35, ak_36, ak_37, ak_38, ak_39, ak_40, ak_41, ak_42, ak_43, ak_44, ak_45, ak_46, ak_47, ak_48, ak_49, ak_50, ak_51, ak_52, ak_53, ak_54, ak_55, ak_56, el31, el33, el34, CX7_length, ca_X7_length, frX7, kcX7, klX7, T_X7_find, T_X7_lastEnd, xT_up, xL_20, xL_21]
      obtain ⟨p, hN, hP⟩ := h
      exact ⟨p, fun σ1 hF => ⟨⟨(Fnd_p p hF).1, (Fnd_p p hF).2.2.1⟩, fun r hr => hP σ1 r hF hr⟩, fun σ1 hF h1 => hN σ1 hF h1⟩
    · exact h.elim
def ca_X7_about : Nat → Option (Nat × Nat × Tr)
  | 102 => some (2, 7, T_X7_isOperation2)
  | 87 => some (3, 99, T_X7_in2)
  | 73 => some (2, 7, T_X7_machineOf)
  | 105 => some (2, 7, T_X7_lasts)
  | 156 => some (2, 7, T_X7_placeOf)
  | 139 => some (1, 7, T_X7_find)
  | 165 => some (1, 7, T_X7_findCritical)
  | 143 => some (1, 7, T_X7_lastEnd)
  | 147 => some (2, 7, T_X7_throughOf3)
  | 150 => some (2, 7, T_X7_isCritical)
  | 202 => some (2, 7, T_X7_placeOnPath)
  | _ => none
theorem cao_X7_about (l : Launch) : ∀ k n' ci T', ca_X7_about k = some (n', ci, T') → ∃ nn, nn + 1 ≤ 6 ∧ Site l yX7_about.cls k n' ci nn T' := by
  intro k n' ci T' h
  unfold ca_X7_about at h
  split at h
  · cases h; exact ⟨1, by decide, _, _, _, _, k_X7_isOperation2 l, Or.inl ⟨_, rfl, FX7_isOperation, KRX7_102⟩⟩
  · cases h; exact ⟨0, by decide, _, _, _, _, k_X7_in2 l, Or.inr ⟨rfl, FX7_in, Or.inl ⟨rfl, KRX7_87⟩⟩⟩
  · cases h; exact ⟨0, by decide, _, _, _, _, k_X7_machineOf l, Or.inl ⟨_, rfl, FX7_machineOf, KRX7_73⟩⟩
  · cases h; exact ⟨0, by decide, _, _, _, _, k_X7_lasts l, Or.inl ⟨_, rfl, FX7_lasts, KRX7_105⟩⟩
  · cases h; exact ⟨1, by decide, _, _, _, _, k_X7_placeOf l, Or.inl ⟨_, rfl, FX7_placeOf, KRX7_156⟩⟩
  · cases h; exact ⟨4, by decide, _, _, _, _, k_X7_find l, Or.inl ⟨_, rfl, FX7_find, KRX7_139⟩⟩
  · cases h; exact ⟨5, by decide, _, _, _, _, k_X7_findCritical l, Or.inl ⟨_, rfl, FX7_findCritical, KRX7_165⟩⟩
  · cases h; exact ⟨2, by decide, _, _, _, _, k_X7_lastEnd l, Or.inl ⟨_, rfl, FX7_lastEnd, KRX7_143⟩⟩
  · cases h; exact ⟨1, by decide, _, _, _, _, k_X7_throughOf3 l, Or.inl ⟨_, rfl, FX7_throughOf, KRX7_147⟩⟩
  · cases h; exact ⟨3, by decide, _, _, _, _, k_X7_isCritical l, Or.inl ⟨_, rfl, FX7_isCritical, KRX7_150⟩⟩
  · cases h; exact ⟨0, by decide, _, _, _, _, k_X7_placeOnPath l, Or.inl ⟨_, rfl, FX7_placeOnPath, KRX7_202⟩⟩
  · cases h
def T_X7_about : Tr := fun a σ K => match a with
  | [.inr (.inl (7, 0)), .inl x, .inl w] => rWF σ ∧ (¬ rOp σ x → K (some (-1)) σ) ∧ (rOp σ x → ¬ (0 ≤ w ∧ w ≤ 7) → K (some (-2)) σ) ∧ (rOp σ x → w = 0 → K (some (rMc σ x)) σ) ∧ (rOp σ x → w = 1 → K (some (rDu σ x)) σ) ∧ (rOp σ x → w = 2 → K (some (rPl σ x)) σ) ∧ (rOp σ x → 3 ≤ w → w ≤ 7 → (∀ σ1, FrG pFd σ σ1 → (∀ h, ¬ rH σ h) → K (some (-6)) σ1) ∧ (∀ σ1 L, RP2 σ σ1 L → (w = 3 → K (some (σ1 45 0 x)) σ1) ∧ (w = 4 → K (some (σ1 46 0 x)) σ1) ∧ (w = 5 → K (some (L - (σ1 45 0 x + rDu σ1 x + σ1 46 0 x))) σ1) ∧ (w = 6 → σ1 45 0 x + rDu σ1 x + σ1 46 0 x = L → K (some 1) σ1) ∧ (w = 6 → ¬ σ1 45 0 x + rDu σ1 x + σ1 46 0 x = L → K (some 0) σ1) ∧ (w = 7 → ∀ r, PoP (σ1 47 0) (σ1 7 0 12) x r → K (some r) σ1)))
  | _ => False
set_option maxHeartbeats 4000000 in
set_option maxRecDepth 20000 in
theorem k_X7_about (l : Launch) : Ct l yX7_about cX7_about 3 (some .int) 6 T_X7_about := by
  refine mk_met (by decide +kernel) hCX7_about lCX7_about frX7_ok cstX7_ok (cao_X7_about l) ?_ ?_
  · intro a σ K h
    unfold T_X7_about at h
    split at h
    · simp [eL]
    · exact h.elim
  · intro a σ K ha hR h
    unfold T_X7_about at h
    split at h
    · rename_i x w
      refine ⟨fun _ => none, 200, fun pc I L S σ' k h => (by cases h), ?_⟩
      simp only [wp, stp, drp, entL, eL, lget, lset, okst, cnd, swt, rcv, Kr_int, Kr_bool, Kr_void, List.length_cons, List.length_nil, List.replicate, List.append_nil, List.cons_append, List.nil_append, List.take_succ_cons, List.take_zero, List.drop_succ_cons, List.drop_zero, List.reverse_cons, List.reverse_nil, Option.map_some, Option.map_none, Option.toList_some, Option.toList_none, Nat.reduceAdd, Nat.reduceSub, Nat.reduceLT, Nat.reduceLeDiff, Nat.reduceEqDiff, ↓reduceIte, Nat.add_zero, Nat.zero_add, true_and, and_true, Nat.le_refl, reduceCtorEq, false_implies, true_implies, not_true_eq_false, not_false_eq_true, Int.reduceAdd, Int.reduceSub, Int.reduceMul, Int.reduceLE, Int.reduceLT, Int.reduceEq, Int.reduceNe, Int.reduceNeg, Int.reduceDiv, Int.reduceMod, Bool.false_eq_true, Int.le_refl, and_self, true_or, or_true, inR_l, fv0, fv1, fv2, fv3, nc2, nc4, nc6, nc16, nc25, nc60, nc65, nc80, nc130, nc384, nc390, fp_0_0, fp_0_1, fp_0_2, fp_1_0, fp_1_1, fp_1_2, fp_1_3, fp_1_4, fp_1_5, fp_1_6, fp_1_7, fp_1_8, fp_1_9, fp_1_10, fp_1_11, fp_1_12, fp_1_13, fp_1_14, fp_2_0, fp_2_1, fp_2_2, fp_2_3, fp_3_0, fp_3_1, fp_4_0, fp_4_1, fp_4_2, fp_4_3, fp_4_4, fp_4_5, fp_4_6, fp_4_7, fp_5_0, fp_5_1, fp_5_2, fp_5_3, fp_5_4, fp_5_5, fp_5_6, fp_5_7, fp_6_0, fp_6_1, fp_6_2, fp_6_3, fp_6_4, fp_6_5, fp_6_6, fp_6_7, fp_6_8, fp_6_9, fp_6_10, fp_6_11, fp_6_12, fp_6_13, fp_6_14, fp_6_15, fp_7_0, fp_7_1, fp_7_2, fp_7_3, fp_7_4, fp_7_5, fp_7_6, fp_7_7, fp_7_8, fp_7_9, fp_7_10, fp_7_11, fp_7_12, fp_7_13, fp_7_14, fp_7_15, fp_7_16, fp_7_17, fp_7_18, fp_7_19, fp_7_20, fp_7_21, fp_7_22, fp_7_23, fp_7_24, iz_0_1, iz_0_2, iz_1_8, iz_1_9, iz_1_11, iz_2_1, iz_2_2, iz_2_3, iz_3_1, iz_4_1, iz_4_2, iz_5_0, iz_6_8, iz_6_9, iz_6_13, iz_6_14, iz_6_15, iz_7_2, iz_7_6, iz_7_12, iz_7_20, iz_7_21, iz_7_23, iz_7_24, ak_8, ak_9, ak_10, ak_11, ak_12, ak_13, ak_14, ak_15, ak_16, ak_17, ak_18, ak_19, ak_20, ak_21, ak_22, ak_23, ak_24, ak_25, ak_26, ak_27, ak_28, ak_29, ak_30, ak_31, ak_32, ak_33, ak_34, ak_35, ak_36, ak_37, ak_38, ak_39, ak_40, ak_41, ak_42, ak_43, ak_44, ak_45, ak_46, ak_47, ak_48, ak_49, ak_50, ak_51, ak_52, ak_53, ak_54, ak_55, ak_56, el31, el33, el34, CX7_about, ca_X7_about, frX7, kcX7, klX7, T_X7_isOperation2, T_X7_in2, T_X7_machineOf, T_X7_lasts, T_X7_placeOf, T_X7_find, T_X7_findCritical, T_X7_lastEnd, T_X7_throughOf3, T_X7_isCritical, T_X7_placeOnPath, xT_up, xL_20, xL_21]
      obtain ⟨p, h1, h2, h3, h4, h5, h6⟩ := h
      refine ⟨p, fun v => ⟨fun a => ⟨fun b => ⟨p, fun σ1 hF => ⟨Fnd_rBd p hF, fun σ2 L hL hC => ?_⟩, fun σ1 hF hN => (h6 v (by omega) (by omega)).1 σ1 hF hN⟩, fun b => ⟨fun c => ⟨fun d => ⟨?_, ?_⟩, fun d => ⟨⟨v.1, v.2.1⟩, h4 v (by omega)⟩⟩, fun c => ⟨⟨v.1, v.2.1⟩, h3 v (by omega)⟩⟩⟩, fun a => h2 v a⟩, fun v => h1 v⟩
      · have R := RP2_i p hF hL hC
        obtain ⟨g3, g4, g5, g6, g7, g8⟩ := (h6 v (by omega) (by omega)).2 σ2 L R
        have e38 := pRP_38 R.1
        have v2 : rOp σ2 x := by
          unfold rOp
          rw [(r38 e38).1]
          exact v
        have bd := R.2.2.2.1
        refine ⟨⟨fun q => ⟨⟨v.1, v.2.1⟩, g3 q⟩, fun q => ⟨⟨v.1, v.2.1⟩, g4 q⟩, fun q => ⟨⟨bd.1, fun o w => ⟨(bd.2 o w).1, (bd.2 o w).2.1⟩⟩, fun r hr => ⟨⟨bd, v2⟩, ?_, ?_⟩⟩, fun q => ⟨⟨bd, v2⟩, fun L' hL' => ⟨fun c => ?_, fun c => ?_⟩⟩⟩, fun q => ⟨(RPl_b (RP2_R R)).2.1.elim (fun a b => ⟨a, b.1⟩), g8 (by omega)⟩⟩
        · have b := bd.2 x v2
          have d := rWF_op bd.1 v2
          have l1 := hr.1
          have l2 := hr.2.1
          unfold eF
          simp only [inR]
          omega
        · rw [LE_un hr R.2.2.2.2.1]
          exact g5 q
        · refine g7 q (fun z => ?_)
          rw [LE_un hL' R.2.2.2.2.1, if_pos (show σ2 45 0 x + σ2 38 0 (14 + 2 * x) + σ2 46 0 x = L from z)] at c
          omega
        · refine g6 q (Classical.byContradiction fun z => c ?_)
          rw [LE_un hL' R.2.2.2.2.1]
          exact if_neg z
      · have w := rWF_op p v
        rw [rPl_4 p v]
        have := (rPl_of p v).1
        unfold rMc at w
        exact ⟨v.1, v.2.1, by omega, by omega, by omega⟩
      · rw [rPl_4 p v]
        exact h5 v (by omega)
    · exact h.elim
def ca_X7_path : Nat → Option (Nat × Nat × Tr)
  | 139 => some (1, 7, T_X7_find)
  | 165 => some (1, 7, T_X7_findCritical)
  | _ => none
theorem cao_X7_path (l : Launch) : ∀ k n' ci T', ca_X7_path k = some (n', ci, T') → ∃ nn, nn + 1 ≤ 6 ∧ Site l yX7_path.cls k n' ci nn T' := by
  intro k n' ci T' h
  unfold ca_X7_path at h
  split at h
  · cases h; exact ⟨4, by decide, _, _, _, _, k_X7_find l, Or.inl ⟨_, rfl, FX7_find, KRX7_139⟩⟩
  · cases h; exact ⟨5, by decide, _, _, _, _, k_X7_findCritical l, Or.inl ⟨_, rfl, FX7_findCritical, KRX7_165⟩⟩
  · cases h
def T_X7_path : Tr := fun a σ K => match a with
  | [.inr (.inl (7, 0)), .inl x] => rWF σ ∧ (∀ σ1, FrG pFd σ σ1 → (∀ h, ¬ rH σ h) → K (some (-6)) σ1) ∧ (∀ σ1 L, RP2 σ σ1 L → (0 ≤ x → x < σ1 7 0 12 → K (some (σ1 47 0 x)) σ1) ∧ (¬ (0 ≤ x ∧ x < σ1 7 0 12) → K (some (-6)) σ1))
  | _ => False
set_option maxHeartbeats 4000000 in
set_option maxRecDepth 20000 in
theorem k_X7_path (l : Launch) : Ct l yX7_path cX7_path 2 (some .int) 6 T_X7_path := by
  refine mk_met (by decide +kernel) hCX7_path lCX7_path frX7_ok cstX7_ok (cao_X7_path l) ?_ ?_
  · intro a σ K h
    unfold T_X7_path at h
    split at h
    · simp [eL]
    · exact h.elim
  · intro a σ K ha hR h
    unfold T_X7_path at h
    split at h
    · rename_i x
      refine ⟨fun _ => none, 200, fun pc I L S σ' k h => (by cases h), ?_⟩
      simp only [wp, stp, drp, entL, eL, lget, lset, okst, cnd, swt, rcv, Kr_int, Kr_bool, Kr_void, List.length_cons, List.length_nil, List.replicate, List.append_nil, List.cons_append, List.nil_append, List.take_succ_cons, List.take_zero, List.drop_succ_cons, List.drop_zero, List.reverse_cons, List.reverse_nil, Option.map_some, Option.map_none, Option.toList_some, Option.toList_none, Nat.reduceAdd, Nat.reduceSub, Nat.reduceLT, Nat.reduceLeDiff, Nat.reduceEqDiff, ↓reduceIte, Nat.add_zero, Nat.zero_add, true_and, and_true, Nat.le_refl, reduceCtorEq, false_implies, true_implies, not_true_eq_false, not_false_eq_true, Int.reduceAdd, Int.reduceSub, Int.reduceMul, Int.reduceLE, Int.reduceLT, Int.reduceEq, Int.reduceNe, Int.reduceNeg, Int.reduceDiv, Int.reduceMod, Bool.false_eq_true, Int.le_refl, and_self, true_or, or_true, inR_l, fv0, fv1, fv2, fv3, nc2, nc4, nc6, nc16, nc25, nc60, nc65, nc80, nc130, nc384, nc390, fp_0_0, fp_0_1, fp_0_2, fp_1_0, fp_1_1, fp_1_2, fp_1_3, fp_1_4, fp_1_5, fp_1_6, fp_1_7, fp_1_8, fp_1_9, fp_1_10, fp_1_11, fp_1_12, fp_1_13, fp_1_14, fp_2_0, fp_2_1, fp_2_2, fp_2_3, fp_3_0, fp_3_1, fp_4_0, fp_4_1, fp_4_2, fp_4_3, fp_4_4, fp_4_5, fp_4_6, fp_4_7, fp_5_0, fp_5_1, fp_5_2, fp_5_3, fp_5_4, fp_5_5, fp_5_6, fp_5_7, fp_6_0, fp_6_1, fp_6_2, fp_6_3, fp_6_4, fp_6_5, fp_6_6, fp_6_7, fp_6_8, fp_6_9, fp_6_10, fp_6_11, fp_6_12, fp_6_13, fp_6_14, fp_6_15, fp_7_0, fp_7_1, fp_7_2, fp_7_3, fp_7_4, fp_7_5, fp_7_6, fp_7_7, fp_7_8, fp_7_9, fp_7_10, fp_7_11, fp_7_12, fp_7_13, fp_7_14, fp_7_15, fp_7_16, fp_7_17, fp_7_18, fp_7_19, fp_7_20, fp_7_21, fp_7_22, fp_7_23, fp_7_24, iz_0_1, iz_0_2, iz_1_8, iz_1_9, iz_1_11, iz_2_1, iz_2_2, iz_2_3, iz_3_1, iz_4_1, iz_4_2, iz_5_0, iz_6_8, iz_6_9, iz_6_13, iz_6_14, iz_6_15, iz_7_2, iz_7_6, iz_7_12, iz_7_20, iz_7_21, iz_7_23, iz_7_24, ak_8, ak_9, ak_10, ak_11, ak_12, ak_13, ak_14, ak_15, ak_16, ak_17, ak_18, ak_19, ak_20, ak_21, ak_22, ak_23, ak_24, ak_25, ak_26, ak_27, ak_28, ak_29, ak_30, ak_31, ak_32, ak_33, ak_34, ak_35, ak_36, ak_37, ak_38, ak_39, ak_40, ak_41, ak_42, ak_43, ak_44, ak_45, ak_46, ak_47, ak_48, ak_49, ak_50, ak_51, ak_52, ak_53, ak_54, ak_55, ak_56, el31, el33, el34, CX7_path, ca_X7_path, frX7, kcX7, klX7, T_X7_find, T_X7_findCritical, xT_up, xL_20, xL_21]
      obtain ⟨p, hN, hP⟩ := h
      refine ⟨p, fun σ1 hF => ⟨Fnd_rBd p hF, fun σ2 L hL hC => ?_⟩, fun σ1 hF h1 => hN σ1 hF h1⟩
      have R := RP2_i p hF hL hC
      have q := hP σ2 L R
      have n := (RPl_b (RP2_R R)).2.1
      exact ⟨fun a => q.2 (by omega), fun a => ⟨fun b => q.2 (by omega), fun b => ⟨by omega, q.1 (by omega) (by omega)⟩⟩⟩
    · exact h.elim
def ca_X7_order : Nat → Option (Nat × Nat × Tr)
  | 87 => some (3, 99, T_X7_in2)
  | 77 => some (3, 7, T_X7_jobAt)
  | _ => none
theorem cao_X7_order (l : Launch) : ∀ k n' ci T', ca_X7_order k = some (n', ci, T') → ∃ nn, nn + 1 ≤ 1 ∧ Site l yX7_order.cls k n' ci nn T' := by
  intro k n' ci T' h
  unfold ca_X7_order at h
  split at h
  · cases h; exact ⟨0, by decide, _, _, _, _, k_X7_in2 l, Or.inr ⟨rfl, FX7_in, Or.inl ⟨rfl, KRX7_87⟩⟩⟩
  · cases h; exact ⟨0, by decide, _, _, _, _, k_X7_jobAt l, Or.inl ⟨_, rfl, FX7_jobAt, KRX7_77⟩⟩
  · cases h
def T_X7_order : Tr := fun a σ K => match a with
  | [.inr (.inl (7, 0)), .inl m, .inl x] => rWF σ ∧ (¬ (0 ≤ m ∧ m ≤ 3) → K (some (-2)) σ) ∧ (0 ≤ m ∧ m ≤ 3 → (0 ≤ x ∧ x < rLn σ m → K (some (rQ σ (4 * m + x))) σ) ∧ (¬ (0 ≤ x ∧ x < rLn σ m) → K (some (-6)) σ))
  | _ => False
set_option maxHeartbeats 4000000 in
set_option maxRecDepth 20000 in
theorem k_X7_order (l : Launch) : Ct l yX7_order cX7_order 3 (some .int) 1 T_X7_order := by
  refine mk_met (by decide +kernel) hCX7_order lCX7_order frX7_ok cstX7_ok (cao_X7_order l) ?_ ?_
  · intro a σ K h
    unfold T_X7_order at h
    split at h
    · simp [eL]
    · exact h.elim
  · intro a σ K ha hR h
    unfold T_X7_order at h
    split at h
    · rename_i m x
      refine ⟨fun _ => none, 200, fun pc I L S σ' k h => (by cases h), ?_⟩
      simp only [wp, stp, drp, entL, eL, lget, lset, okst, cnd, swt, rcv, Kr_int, Kr_bool, Kr_void, List.length_cons, List.length_nil, List.replicate, List.append_nil, List.cons_append, List.nil_append, List.take_succ_cons, List.take_zero, List.drop_succ_cons, List.drop_zero, List.reverse_cons, List.reverse_nil, Option.map_some, Option.map_none, Option.toList_some, Option.toList_none, Nat.reduceAdd, Nat.reduceSub, Nat.reduceLT, Nat.reduceLeDiff, Nat.reduceEqDiff, ↓reduceIte, Nat.add_zero, Nat.zero_add, true_and, and_true, Nat.le_refl, reduceCtorEq, false_implies, true_implies, not_true_eq_false, not_false_eq_true, Int.reduceAdd, Int.reduceSub, Int.reduceMul, Int.reduceLE, Int.reduceLT, Int.reduceEq, Int.reduceNe, Int.reduceNeg, Int.reduceDiv, Int.reduceMod, Bool.false_eq_true, Int.le_refl, and_self, true_or, or_true, inR_l, fv0, fv1, fv2, fv3, nc2, nc4, nc6, nc16, nc25, nc60, nc65, nc80, nc130, nc384, nc390, fp_0_0, fp_0_1, fp_0_2, fp_1_0, fp_1_1, fp_1_2, fp_1_3, fp_1_4, fp_1_5, fp_1_6, fp_1_7, fp_1_8, fp_1_9, fp_1_10, fp_1_11, fp_1_12, fp_1_13, fp_1_14, fp_2_0, fp_2_1, fp_2_2, fp_2_3, fp_3_0, fp_3_1, fp_4_0, fp_4_1, fp_4_2, fp_4_3, fp_4_4, fp_4_5, fp_4_6, fp_4_7, fp_5_0, fp_5_1, fp_5_2, fp_5_3, fp_5_4, fp_5_5, fp_5_6, fp_5_7, fp_6_0, fp_6_1, fp_6_2, fp_6_3, fp_6_4, fp_6_5, fp_6_6, fp_6_7, fp_6_8, fp_6_9, fp_6_10, fp_6_11, fp_6_12, fp_6_13, fp_6_14, fp_6_15, fp_7_0, fp_7_1, fp_7_2, fp_7_3, fp_7_4, fp_7_5, fp_7_6, fp_7_7, fp_7_8, fp_7_9, fp_7_10, fp_7_11, fp_7_12, fp_7_13, fp_7_14, fp_7_15, fp_7_16, fp_7_17, fp_7_18, fp_7_19, fp_7_20, fp_7_21, fp_7_22, fp_7_23, fp_7_24, iz_0_1, iz_0_2, iz_1_8, iz_1_9, iz_1_11, iz_2_1, iz_2_2, iz_2_3, iz_3_1, iz_4_1, iz_4_2, iz_5_0, iz_6_8, iz_6_9, iz_6_13, iz_6_14, iz_6_15, iz_7_2, iz_7_6, iz_7_12, iz_7_20, iz_7_21, iz_7_23, iz_7_24, ak_8, ak_9, ak_10, ak_11, ak_12, ak_13, ak_14, ak_15, ak_16, ak_17, ak_18, ak_19, ak_20, ak_21, ak_22, ak_23, ak_24, ak_25, ak_26, ak_27, ak_28, ak_29, ak_30, ak_31, ak_32, ak_33, ak_34, ak_35, ak_36, ak_37, ak_38, ak_39, ak_40, ak_41, ak_42, ak_43, ak_44, ak_45, ak_46, ak_47, ak_48, ak_49, ak_50, ak_51, ak_52, ak_53, ak_54, ak_55, ak_56, el31, el33, el34, CX7_order, ca_X7_order, frX7, kcX7, klX7, T_X7_in2, T_X7_jobAt, xT_up, xL_20, xL_21]
      obtain ⟨p, h1, h2⟩ := h
      have eL : rLn σ m = σ 38 0 (45 + m) := rfl
      refine ⟨fun a => ⟨fun b => (h2 a).2 (by omega), fun b => ⟨by simp only [inR]; omega, by omega, fun c => (h2 a).2 (by omega), fun c => ?_⟩⟩, h1⟩
      have l := rW_l p m (by omega) (by omega)
      have r := (h2 a).1 (by omega)
      unfold rQ at r
      rw [← Int.add_assoc] at r
      exact ⟨by omega, r⟩
    · exact h.elim
def ca_X7_ofJob : Nat → Option (Nat × Nat × Tr)
  | 65 => some (2, 7, T_X7_isJob2)
  | 87 => some (3, 99, T_X7_in2)
  | 208 => some (2, 7, T_X7_sumOf)
  | 69 => some (3, 7, T_X7_ofAJob)
  | 139 => some (1, 7, T_X7_find)
  | 205 => some (2, 7, T_X7_endOfJob)
  | 211 => some (2, 7, T_X7_lateness)
  | _ => none
theorem cao_X7_ofJob (l : Launch) : ∀ k n' ci T', ca_X7_ofJob k = some (n', ci, T') → ∃ nn, nn + 1 ≤ 5 ∧ Site l yX7_ofJob.cls k n' ci nn T' := by
  intro k n' ci T' h
  unfold ca_X7_ofJob at h
  split at h
  · cases h; exact ⟨0, by decide, _, _, _, _, k_X7_isJob2 l, Or.inl ⟨_, rfl, FX7_isJob, KRX7_65⟩⟩
  · cases h; exact ⟨0, by decide, _, _, _, _, k_X7_in2 l, Or.inr ⟨rfl, FX7_in, Or.inl ⟨rfl, KRX7_87⟩⟩⟩
  · cases h; exact ⟨1, by decide, _, _, _, _, k_X7_sumOf l, Or.inl ⟨_, rfl, FX7_sumOf, KRX7_208⟩⟩
  · cases h; exact ⟨0, by decide, _, _, _, _, k_X7_ofAJob l, Or.inl ⟨_, rfl, FX7_ofAJob, KRX7_69⟩⟩
  · cases h; exact ⟨4, by decide, _, _, _, _, k_X7_find l, Or.inl ⟨_, rfl, FX7_find, KRX7_139⟩⟩
  · cases h; exact ⟨2, by decide, _, _, _, _, k_X7_endOfJob l, Or.inl ⟨_, rfl, FX7_endOfJob, KRX7_205⟩⟩
  · cases h; exact ⟨3, by decide, _, _, _, _, k_X7_lateness l, Or.inl ⟨_, rfl, FX7_lateness, KRX7_211⟩⟩
  · cases h
def T_X7_ofJob : Tr := fun a σ K => match a with
  | [.inr (.inl (7, 0)), .inl j, .inl w] => rWF σ ∧ (¬ (0 ≤ j ∧ j < σ 38 0 0) → K (some (-1)) σ) ∧ (0 ≤ j ∧ j < σ 38 0 0 → ¬ (0 ≤ w ∧ w ≤ 5) → K (some (-2)) σ) ∧ (0 ≤ j ∧ j < σ 38 0 0 → w = 0 → K (some (rRe σ j)) σ) ∧ (0 ≤ j ∧ j < σ 38 0 0 → w = 1 → K (some (rDd σ j)) σ) ∧ (0 ≤ j ∧ j < σ 38 0 0 → w = 2 → K (some (rSt σ j)) σ) ∧ (0 ≤ j ∧ j < σ 38 0 0 → w = 3 → K (some (wF (rDu σ) (4 * j) (rSt σ j))) σ) ∧ (0 ≤ j ∧ j < σ 38 0 0 → 4 ≤ w → w ≤ 5 → (∀ σ1, FrG pFd σ σ1 → (∀ h, ¬ rH σ h) → K (some (-6)) σ1) ∧ (∀ σ1, Fnd σ σ1 → (w = 4 → K (some (rej σ1 j)) σ1) ∧ (w = 5 → K (some (rlt σ1 j)) σ1)))
  | _ => False
set_option maxHeartbeats 4000000 in
set_option maxRecDepth 20000 in
theorem k_X7_ofJob (l : Launch) : Ct l yX7_ofJob cX7_ofJob 3 (some .int) 5 T_X7_ofJob := by
  refine mk_met (by decide +kernel) hCX7_ofJob lCX7_ofJob frX7_ok cstX7_ok (cao_X7_ofJob l) ?_ ?_
  · intro a σ K h
    unfold T_X7_ofJob at h
    split at h
    · simp [eL]
    · exact h.elim
  · intro a σ K ha hR h
    unfold T_X7_ofJob at h
    split at h
    · rename_i j w
      refine ⟨fun _ => none, 200, fun pc I L S σ' k h => (by cases h), ?_⟩
      simp only [wp, stp, drp, entL, eL, lget, lset, okst, cnd, swt, rcv, Kr_int, Kr_bool, Kr_void, List.length_cons, List.length_nil, List.replicate, List.append_nil, List.cons_append, List.nil_append, List.take_succ_cons, List.take_zero, List.drop_succ_cons, List.drop_zero, List.reverse_cons, List.reverse_nil, Option.map_some, Option.map_none, Option.toList_some, Option.toList_none, Nat.reduceAdd, Nat.reduceSub, Nat.reduceLT, Nat.reduceLeDiff, Nat.reduceEqDiff, ↓reduceIte, Nat.add_zero, Nat.zero_add, true_and, and_true, Nat.le_refl, reduceCtorEq, false_implies, true_implies, not_true_eq_false, not_false_eq_true, Int.reduceAdd, Int.reduceSub, Int.reduceMul, Int.reduceLE, Int.reduceLT, Int.reduceEq, Int.reduceNe, Int.reduceNeg, Int.reduceDiv, Int.reduceMod, Bool.false_eq_true, Int.le_refl, and_self, true_or, or_true, inR_l, fv0, fv1, fv2, fv3, nc2, nc4, nc6, nc16, nc25, nc60, nc65, nc80, nc130, nc384, nc390, fp_0_0, fp_0_1, fp_0_2, fp_1_0, fp_1_1, fp_1_2, fp_1_3, fp_1_4, fp_1_5, fp_1_6, fp_1_7, fp_1_8, fp_1_9, fp_1_10, fp_1_11, fp_1_12, fp_1_13, fp_1_14, fp_2_0, fp_2_1, fp_2_2, fp_2_3, fp_3_0, fp_3_1, fp_4_0, fp_4_1, fp_4_2, fp_4_3, fp_4_4, fp_4_5, fp_4_6, fp_4_7, fp_5_0, fp_5_1, fp_5_2, fp_5_3, fp_5_4, fp_5_5, fp_5_6, fp_5_7, fp_6_0, fp_6_1, fp_6_2, fp_6_3, fp_6_4, fp_6_5, fp_6_6, fp_6_7, fp_6_8, fp_6_9, fp_6_10, fp_6_11, fp_6_12, fp_6_13, fp_6_14, fp_6_15, fp_7_0, fp_7_1, fp_7_2, fp_7_3, fp_7_4, fp_7_5, fp_7_6, fp_7_7, fp_7_8, fp_7_9, fp_7_10, fp_7_11, fp_7_12, fp_7_13, fp_7_14, fp_7_15, fp_7_16, fp_7_17, fp_7_18, fp_7_19, fp_7_20, fp_7_21, fp_7_22, fp_7_23, fp_7_24, iz_0_1, iz_0_2, iz_1_8, iz_1_9, iz_1_11, iz_2_1, iz_2_2, iz_2_3, iz_3_1, iz_4_1, iz_4_2, iz_5_0, iz_6_8, iz_6_9, iz_6_13, iz_6_14, iz_6_15, iz_7_2, iz_7_6, iz_7_12, iz_7_20, iz_7_21, iz_7_23, iz_7_24, ak_8, ak_9, ak_10, ak_11, ak_12, ak_13, ak_14, ak_15, ak_16, ak_17, ak_18, ak_19, ak_20, ak_21, ak_22, ak_23, ak_24, ak_25, ak_26, ak_27, ak_28, ak_29, ak_30, ak_31, ak_32, ak_33, ak_34, ak_35, ak_36, ak_37, ak_38, ak_39, ak_40, ak_41, ak_42, ak_43, ak_44, ak_45, ak_46, ak_47, ak_48, ak_49, ak_50, ak_51, ak_52, ak_53, ak_54, ak_55, ak_56, el31, el33, el34, CX7_ofJob, ca_X7_ofJob, frX7, kcX7, klX7, T_X7_isJob2, T_X7_in2, T_X7_sumOf, T_X7_ofAJob, T_X7_find, T_X7_endOfJob, T_X7_lateness, xT_up, xL_20, xL_21]
      obtain ⟨p, h1, h2, h3, h4, h5, h6, h7⟩ := h
      have j4 := p.1.1.2
      refine ⟨fun a => ⟨fun b => ⟨fun c => ⟨p, fun σ1 hF => ?_, fun σ1 hF hN => (h7 a (by omega) (by omega)).1 σ1 hF hN⟩, fun c => ⟨fun d => ⟨by omega, ?_⟩, fun d => ⟨⟨p, by omega, by omega⟩, h6 a (by omega)⟩⟩⟩, fun b => h2 a b⟩, h1⟩
      · have q := Fnd_p p hF
        obtain ⟨g4, g5⟩ := (h7 a (by omega) (by omega)).2 σ1 hF
        have hb : rHb σ1 := ⟨q.1, q.2.2.1⟩
        have e : σ1 38 0 0 = σ 38 0 0 := by rw [q.2.2.2]
        exact ⟨fun d => ⟨⟨hb, a.1, by rw [e]; exact a.2⟩, g5 (by omega)⟩, fun d => ⟨⟨hb, a.1, by rw [e]; exact a.2⟩, g4 (by omega)⟩⟩
      · rcases (show w = 0 ∨ w = 1 ∨ w = 2 by omega) with rfl | rfl | rfl
        · have r := h3 a rfl
          unfold rRe at r
          rw [Int.add_zero]
          exact r
        · exact h4 a rfl
        · exact h5 a rfl
    · exact h.elim
def ca_X7_count : Nat → Option (Nat × Nat × Tr)
  | 87 => some (3, 99, T_X7_in2)
  | 217 => some (2, 7, T_X7_ofPlan)
  | 220 => some (2, 7, T_X7_sumOfAll)
  | 139 => some (1, 7, T_X7_find)
  | _ => none
theorem cao_X7_count (l : Launch) : ∀ k n' ci T', ca_X7_count k = some (n', ci, T') → ∃ nn, nn + 1 ≤ 7 ∧ Site l yX7_count.cls k n' ci nn T' := by
  intro k n' ci T' h
  unfold ca_X7_count at h
  split at h
  · cases h; exact ⟨0, by decide, _, _, _, _, k_X7_in2 l, Or.inr ⟨rfl, FX7_in, Or.inl ⟨rfl, KRX7_87⟩⟩⟩
  · cases h; exact ⟨6, by decide, _, _, _, _, k_X7_ofPlan l, Or.inl ⟨_, rfl, FX7_ofPlan, KRX7_217⟩⟩
  · cases h; exact ⟨2, by decide, _, _, _, _, k_X7_sumOfAll l, Or.inl ⟨_, rfl, FX7_sumOfAll, KRX7_220⟩⟩
  · cases h; exact ⟨4, by decide, _, _, _, _, k_X7_find l, Or.inl ⟨_, rfl, FX7_find, KRX7_139⟩⟩
  · cases h
def T_X7_count : Tr := fun a σ K => match a with
  | [.inr (.inl (7, 0)), .inl w] => rWF σ ∧ (¬ (0 ≤ w ∧ w ≤ 9) → K (some (-2)) σ) ∧ (w = 0 → K (some (σ 38 0 0)) σ) ∧ (w = 1 → K (some (wF (rSt σ) 0 (σ 38 0 0))) σ) ∧ (w = 2 → K (some (wF (fun j => wF (rDu σ) (4 * j) (rSt σ j)) 0 (σ 38 0 0))) σ) ∧ (w = 8 → K (some (σ 7 0 6)) σ) ∧ (w = 9 → K (some (σ 7 0 2)) σ) ∧ (w = 7 → (∀ σ1, FrG pFd σ σ1 → (∀ h, ¬ rH σ h) → K (some 0) σ1) ∧ (∀ σ1, Fnd σ σ1 → K (some 1) σ1)) ∧ (3 ≤ w → w ≤ 6 → (∀ σ1, FrG pFd σ σ1 → (∀ h, ¬ rH σ h) → K (some (-6)) σ1) ∧ (∀ σ1, RPl σ σ1 → (w = 3 → K (some (σ1 7 0 12)) σ1) ∧ (w = 4 → K (some (sm (blk (rMc σ1) (σ1 47 0)) (σ1 7 0 12).toNat)) σ1) ∧ (w = 5 → K (some (sm (rlt σ1) (σ1 38 0 0).toNat)) σ1) ∧ (w = 6 → K (some (mxS (rlt σ1) (σ1 38 0 0).toNat)) σ1)))
  | _ => False
set_option maxHeartbeats 4000000 in
set_option maxRecDepth 20000 in
theorem k_X7_count (l : Launch) : Ct l yX7_count cX7_count 2 (some .int) 7 T_X7_count := by
  refine mk_met (by decide +kernel) hCX7_count lCX7_count frX7_ok cstX7_ok (cao_X7_count l) ?_ ?_
  · intro a σ K h
    unfold T_X7_count at h
    split at h
    · simp [eL]
    · exact h.elim
  · intro a σ K ha hR h
    unfold T_X7_count at h
    split at h
    · rename_i w
      refine ⟨fun _ => none, 200, fun pc I L S σ' k h => (by cases h), ?_⟩
      simp only [wp, stp, drp, entL, eL, lget, lset, okst, cnd, swt, rcv, Kr_int, Kr_bool, Kr_void, List.length_cons, List.length_nil, List.replicate, List.append_nil, List.cons_append, List.nil_append, List.take_succ_cons, List.take_zero, List.drop_succ_cons, List.drop_zero, List.reverse_cons, List.reverse_nil, Option.map_some, Option.map_none, Option.toList_some, Option.toList_none, Nat.reduceAdd, Nat.reduceSub, Nat.reduceLT, Nat.reduceLeDiff, Nat.reduceEqDiff, ↓reduceIte, Nat.add_zero, Nat.zero_add, true_and, and_true, Nat.le_refl, reduceCtorEq, false_implies, true_implies, not_true_eq_false, not_false_eq_true, Int.reduceAdd, Int.reduceSub, Int.reduceMul, Int.reduceLE, Int.reduceLT, Int.reduceEq, Int.reduceNe, Int.reduceNeg, Int.reduceDiv, Int.reduceMod, Bool.false_eq_true, Int.le_refl, and_self, true_or, or_true, inR_l, fv0, fv1, fv2, fv3, nc2, nc4, nc6, nc16, nc25, nc60, nc65, nc80, nc130, nc384, nc390, fp_0_0, fp_0_1, fp_0_2, fp_1_0, fp_1_1, fp_1_2, fp_1_3, fp_1_4, fp_1_5, fp_1_6, fp_1_7, fp_1_8, fp_1_9, fp_1_10, fp_1_11, fp_1_12, fp_1_13, fp_1_14, fp_2_0, fp_2_1, fp_2_2, fp_2_3, fp_3_0, fp_3_1, fp_4_0, fp_4_1, fp_4_2, fp_4_3, fp_4_4, fp_4_5, fp_4_6, fp_4_7, fp_5_0, fp_5_1, fp_5_2, fp_5_3, fp_5_4, fp_5_5, fp_5_6, fp_5_7, fp_6_0, fp_6_1, fp_6_2, fp_6_3, fp_6_4, fp_6_5, fp_6_6, fp_6_7, fp_6_8, fp_6_9, fp_6_10, fp_6_11, fp_6_12, fp_6_13, fp_6_14, fp_6_15, fp_7_0, fp_7_1, fp_7_2, fp_7_3, fp_7_4, fp_7_5, fp_7_6, fp_7_7, fp_7_8, fp_7_9, fp_7_10, fp_7_11, fp_7_12, fp_7_13, fp_7_14, fp_7_15, fp_7_16, fp_7_17, fp_7_18, fp_7_19, fp_7_20, fp_7_21, fp_7_22, fp_7_23, fp_7_24, iz_0_1, iz_0_2, iz_1_8, iz_1_9, iz_1_11, iz_2_1, iz_2_2, iz_2_3, iz_3_1, iz_4_1, iz_4_2, iz_5_0, iz_6_8, iz_6_9, iz_6_13, iz_6_14, iz_6_15, iz_7_2, iz_7_6, iz_7_12, iz_7_20, iz_7_21, iz_7_23, iz_7_24, ak_8, ak_9, ak_10, ak_11, ak_12, ak_13, ak_14, ak_15, ak_16, ak_17, ak_18, ak_19, ak_20, ak_21, ak_22, ak_23, ak_24, ak_25, ak_26, ak_27, ak_28, ak_29, ak_30, ak_31, ak_32, ak_33, ak_34, ak_35, ak_36, ak_37, ak_38, ak_39, ak_40, ak_41, ak_42, ak_43, ak_44, ak_45, ak_46, ak_47, ak_48, ak_49, ak_50, ak_51, ak_52, ak_53, ak_54, ak_55, ak_56, el31, el33, el34, CX7_count, ca_X7_count, frX7, kcX7, klX7, T_X7_in2, T_X7_ofPlan, T_X7_sumOfAll, T_X7_find, xT_up, xL_20, xL_21]
      obtain ⟨p, h1, h2, h3, h4, h5, h6, h7, h8⟩ := h
      refine ⟨fun a => ⟨p, fun σ1 hF hN => (h8 a.1 a.2).1 σ1 hF hN, fun σ1 hR => ?_⟩, fun a => ⟨⟨h2, fun b => ⟨p, h3 b⟩, fun b => ⟨p, h4 b⟩, fun b => by omega, fun b => by omega, fun b => by omega, fun b => by omega, fun b => ⟨p, (h7 b).2, (h7 b).1⟩, h5, h6⟩, fun b => h1 (by omega)⟩⟩
      obtain ⟨g3, g4, g5, g6⟩ := (h8 a.1 a.2).2 σ1 hR
      exact ⟨g3, g4, g5, fun q => g6 (by omega)⟩
    · exact h.elim
