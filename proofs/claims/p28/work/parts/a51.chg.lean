/-! what changes: the class -/
def BecE (σ σ' : Mem) (i i2 : Nat) : Prop := ∀ t k j, σ' t k j = if k = i ∧ ((t = 5 ∧ j = 0) ∨ (8 ≤ t ∧ t ≤ 14 ∧ 0 ≤ j ∧ j < (if t = 11 ∨ t = 12 ∨ t = 14 then 16 else 4))) then σ t i2 j else σ t k j
def TakE (σ σ' : Mem) : Prop := ∀ t k j, σ' t k j = if t = 0 ∧ k = 0 ∧ j = 2 then (σ 0 0 2 + 6 - 1) % 6 else if t = 0 ∧ k = 0 ∧ j = 1 then σ 0 0 1 - 1 else if k = 0 ∧ ((t = 5 ∧ j = 0) ∨ (8 ≤ t ∧ t ≤ 14 ∧ 0 ≤ j ∧ j < (if t = 11 ∨ t = 12 ∨ t = 14 then 16 else 4))) then σ t (2 + (σ 0 0 2).toNat) j else σ t k j
theorem Rec_w {σ σ' : Mem} (h : RecE σ σ') : ∀ t, t = 5 ∨ t = 8 ∨ t = 9 ∨ t = 10 ∨ t = 11 ∨ t = 12 ∨ t = 13 ∨ t = 14 → σ' t 0 = σ t 0 := fun t q => funext fun x => RecE_e h t 0 x (by omega)
theorem Rec_s {σ σ' : Mem} (hw : sWF σ 0) (h : RecE σ σ') : sWF σ' 0 ∧ KPc σ' := by
  refine ⟨(sWF_cg (Rec_w h)).mpr hw, Or.inl ?_⟩
  rw [h 6 0 8, if_neg (by rintro ⟨q, -⟩; omega), if_neg (by rintro ⟨q, -⟩; omega), if_pos (Or.inl ⟨rfl, rfl, rfl⟩)]
theorem sWF_ex {σ σ2 : Mem} {m x : Int} (hw : sWF σ 0) (m0 : 0 ≤ m) (m1 : m < 4) (x0 : 0 ≤ x) (x1 : x + 1 < σ 13 0 m) (h2 : σ2 = up (up σ 14 0 (4 * m + x) (σ 14 0 (4 * m + x + 1))) 14 0 (4 * m + x + 1) (σ 14 0 (4 * m + x))) : sWF σ2 0 ∧ σ2 14 0 = exQ (σ 14 0) (4 * m + x) ∧ ∀ t a, t ≠ 14 ∨ a ≠ 0 → σ2 t a = σ t a := by
  have e14 : σ2 14 0 = exQ (σ 14 0) (4 * m + x) := by rw [h2, up_up_ex]
  have e : ∀ t a, t ≠ 14 ∨ a ≠ 0 → σ2 t a = σ t a := fun t a q => by
    funext y
    rw [h2, up_ap, if_neg (by rintro ⟨p, r, -⟩; omega), up_ap, if_neg (by rintro ⟨p, r, -⟩; omega)]
  refine ⟨?_, e14, e⟩
  unfold sWF
  rw [e14, e 5 0 (by omega), e 10 0 (by omega), e 11 0 (by omega), e 12 0 (by omega), e 13 0 (by omega), e 8 0 (by omega), e 9 0 (by omega)]
  exact ⟨WF_ex hw.1 m0 m1 x0 x1, hw.2⟩
theorem opF_ne {f : Int → Int} {n j m : Int} (j0 : 0 ≤ j) (n4 : n ≤ 4) : (opF f n j m ≠ -6 → ∃ s, 0 ≤ s ∧ s < n ∧ f (4 * j + s) = m) ∧ (opF f n j m = -6 → ∀ s, 0 ≤ s → s < n → f (4 * j + s) ≠ m) := by
  refine ⟨fun h => ?_, fun h s s0 s1 e => ?_⟩
  · apply Classical.byContradiction
    intro hn
    exact h (opF_no (fun s a b c => hn ⟨s, a, b, c⟩))
  · have := opF_is s0 s1 n4 e
    omega
def ca_X6_job : Nat → Option (Nat × Nat × Tr)
  | 68 => some (3, 99, T_X6_within2)
  | 76 => some (1, 6, T_X6_beginChange2)
  | 79 => some (3, 5, T_X5_addJob2)
  | _ => none
theorem cao_X6_job (l : Launch) : ∀ k n' ci T', ca_X6_job k = some (n', ci, T') → ∃ nn, nn + 1 ≤ 4 ∧ Site l yX6_job.cls k n' ci nn T' := by
  intro k n' ci T' h
  unfold ca_X6_job at h
  split at h
  · cases h; exact ⟨0, by decide, _, _, _, _, k_X6_within2 l, Or.inr ⟨rfl, FX6_within, Or.inl ⟨rfl, KRX6_68⟩⟩⟩
  · cases h; exact ⟨3, by decide, _, _, _, _, k_X6_beginChange2 l, Or.inl ⟨_, rfl, FX6_beginChange, KRX6_76⟩⟩
  · cases h; exact ⟨0, by decide, _, _, _, _, k_X5_addJob2 l, Or.inl ⟨_, rfl, FX5_addJob, KRX6_79⟩⟩
  · cases h
def T_X6_job : Tr := fun a σ K => match a with
  | [.inr (.inl (6, 0)), .inl r, .inl d] => (sWF σ 0 ∧ hsB σ) ∧ (¬ ((0 ≤ r ∧ r ≤ 50) ∧ (0 ≤ d ∧ d ≤ 200)) → K (some (-2)) σ) ∧ ((0 ≤ r ∧ r ≤ 50) ∧ (0 ≤ d ∧ d ≤ 200) → 4 ≤ σ 5 0 0 → K (some (-4)) σ) ∧ ((0 ≤ r ∧ r ≤ 50) ∧ (0 ≤ d ∧ d ≤ 200) → σ 5 0 0 < 4 → ∀ σ1 σ2, RecE σ σ1 → σ2 = up (up (up (up σ1 8 0 (σ 5 0 0) r) 9 0 (σ 5 0 0) d) 10 0 (σ 5 0 0) 0) 5 0 0 (σ 5 0 0 + 1) → K (some (σ 5 0 0)) σ2)
  | _ => False
set_option maxHeartbeats 4000000 in
set_option maxRecDepth 20000 in
theorem k_X6_job (l : Launch) : Ct l yX6_job cX6_job 3 (some .int) 4 T_X6_job := by
  refine mk_met (by decide +kernel) hCX6_job lCX6_job frX6_ok cstX6_ok (cao_X6_job l) ?_ ?_
  · intro a σ K h
    unfold T_X6_job at h
    split at h
    · simp [eL]
    · exact h.elim
  · intro a σ K ha hR h
    unfold T_X6_job at h
    split at h
    · rename_i r d
      refine ⟨fun _ => none, 200, fun pc I L S σ' k h => (by cases h), ?_⟩
      simp only [wp, stp, drp, entL, eL, lget, lset, okst, cnd, swt, rcv, Kr_int, Kr_bool, Kr_void, List.length_cons, List.length_nil, List.replicate, List.append_nil, List.cons_append, List.nil_append, List.take_succ_cons, List.take_zero, List.drop_succ_cons, List.drop_zero, List.reverse_cons, List.reverse_nil, Option.map_some, Option.map_none, Option.toList_some, Option.toList_none, Nat.reduceAdd, Nat.reduceSub, Nat.reduceLT, Nat.reduceLeDiff, Nat.reduceEqDiff, ↓reduceIte, Nat.add_zero, Nat.zero_add, true_and, and_true, Nat.le_refl, reduceCtorEq, false_implies, true_implies, not_true_eq_false, not_false_eq_true, Int.reduceAdd, Int.reduceSub, Int.reduceMul, Int.reduceLE, Int.reduceLT, Int.reduceEq, Int.reduceNe, Int.reduceNeg, Int.reduceDiv, Int.reduceMod, Bool.false_eq_true, Int.le_refl, and_self, true_or, or_true, inR_l, fv0, fv1, fv2, fv3, nc2, nc4, nc6, nc16, nc25, nc60, nc65, nc80, nc130, nc384, nc390, fp_0_0, fp_0_1, fp_0_2, fp_1_0, fp_1_1, fp_1_2, fp_1_3, fp_1_4, fp_1_5, fp_1_6, fp_1_7, fp_1_8, fp_1_9, fp_1_10, fp_1_11, fp_1_12, fp_1_13, fp_1_14, fp_2_0, fp_2_1, fp_2_2, fp_2_3, fp_3_0, fp_3_1, fp_4_0, fp_4_1, fp_4_2, fp_4_3, fp_4_4, fp_4_5, fp_4_6, fp_4_7, fp_5_0, fp_5_1, fp_5_2, fp_5_3, fp_5_4, fp_5_5, fp_5_6, fp_5_7, fp_6_0, fp_6_1, fp_6_2, fp_6_3, fp_6_4, fp_6_5, fp_6_6, fp_6_7, fp_6_8, fp_6_9, fp_6_10, fp_6_11, fp_6_12, fp_6_13, fp_6_14, fp_6_15, fp_7_0, fp_7_1, fp_7_2, fp_7_3, fp_7_4, fp_7_5, fp_7_6, fp_7_7, fp_7_8, fp_7_9, fp_7_10, fp_7_11, fp_7_12, fp_7_13, fp_7_14, fp_7_15, fp_7_16, fp_7_17, fp_7_18, fp_7_19, fp_7_20, fp_7_21, fp_7_22, fp_7_23, fp_7_24, iz_0_1, iz_0_2, iz_1_8, iz_1_9, iz_1_11, iz_2_1, iz_2_2, iz_2_3, iz_3_1, iz_4_1, iz_4_2, iz_5_0, iz_6_8, iz_6_9, iz_6_13, iz_6_14, iz_6_15, iz_7_2, iz_7_6, iz_7_12, iz_7_20, iz_7_21, iz_7_23, iz_7_24, ak_8, ak_9, ak_10, ak_11, ak_12, ak_13, ak_14, ak_15, ak_16, ak_17, ak_18, ak_19, ak_20, ak_21, ak_22, ak_23, ak_24, ak_25, ak_26, ak_27, ak_28, ak_29, ak_30, ak_31, ak_32, ak_33, ak_34, ak_35, ak_36, ak_37, ak_38, ak_39, ak_40, ak_41, ak_42, ak_43, ak_44, ak_45, ak_46, ak_47, ak_48, ak_49, ak_50, ak_51, ak_52, ak_53, ak_54, ak_55, ak_56, el31, el33, el34, CX6_job, ca_X6_job, frX6, kcX6, klX6, T_X6_within2, T_X6_beginChange2, T_X5_addJob2, xT_up, xL_20, xL_21]
      obtain ⟨⟨p, q⟩, h1, h2, h3⟩ := h
      refine ⟨fun a => ⟨fun b => ⟨fun c => ⟨q, fun σ1 hR => ?_⟩, fun c => h2 ⟨a, b⟩ (by omega)⟩, fun b => h1 (fun z => b z.2)⟩, fun a => h1 (fun z => a z.1)⟩
      have e : σ1 5 0 0 = σ 5 0 0 := by rw [Rec_w hR 5 (by omega)]
      rw [e]
      exact ⟨⟨(sW_j p).1, c⟩, fun σ2 h => h3 ⟨a, b⟩ c σ1 σ2 hR h⟩
    · exact h.elim
def ca_X6_operation : Nat → Option (Nat × Nat × Tr)
  | 83 => some (2, 5, T_X5_hasJob2)
  | 87 => some (1, 99, T_X6_isMachine2)
  | 68 => some (3, 99, T_X6_within2)
  | 90 => some (3, 5, T_X5_operationOf)
  | 76 => some (1, 6, T_X6_beginChange2)
  | 93 => some (4, 5, T_X5_addOperation2)
  | _ => none
theorem cao_X6_operation (l : Launch) : ∀ k n' ci T', ca_X6_operation k = some (n', ci, T') → ∃ nn, nn + 1 ≤ 4 ∧ Site l yX6_operation.cls k n' ci nn T' := by
  intro k n' ci T' h
  unfold ca_X6_operation at h
  split at h
  · cases h; exact ⟨0, by decide, _, _, _, _, k_X5_hasJob2 l, Or.inl ⟨_, rfl, FX5_hasJob, KRX6_83⟩⟩
  · cases h; exact ⟨1, by decide, _, _, _, _, k_X6_isMachine2 l, Or.inr ⟨rfl, FX6_isMachine, Or.inl ⟨rfl, KRX6_87⟩⟩⟩
  · cases h; exact ⟨0, by decide, _, _, _, _, k_X6_within2 l, Or.inr ⟨rfl, FX6_within, Or.inl ⟨rfl, KRX6_68⟩⟩⟩
  · cases h; exact ⟨0, by decide, _, _, _, _, k_X5_operationOf l, Or.inl ⟨_, rfl, FX5_operationOf, KRX6_90⟩⟩
  · cases h; exact ⟨3, by decide, _, _, _, _, k_X6_beginChange2 l, Or.inl ⟨_, rfl, FX6_beginChange, KRX6_76⟩⟩
  · cases h; exact ⟨1, by decide, _, _, _, _, k_X5_addOperation2 l, Or.inl ⟨_, rfl, FX5_addOperation, KRX6_93⟩⟩
  · cases h
def T_X6_operation : Tr := fun a σ K => match a with
  | [.inr (.inl (6, 0)), .inl j, .inl m, .inl d] => (sWF σ 0 ∧ hsB σ) ∧ (¬ (0 ≤ j ∧ j < σ 5 0 0) → K (some (-1)) σ) ∧ (0 ≤ j ∧ j < σ 5 0 0 → ¬ ((0 ≤ m ∧ m ≤ 3) ∧ (1 ≤ d ∧ d ≤ 20)) → K (some (-2)) σ) ∧ (0 ≤ j ∧ j < σ 5 0 0 → (0 ≤ m ∧ m ≤ 3) ∧ (1 ≤ d ∧ d ≤ 20) → (∃ s, 0 ≤ s ∧ s < σ 10 0 j ∧ σ 11 0 (4 * j + s) = m) → K (some (-5)) σ) ∧ (0 ≤ j ∧ j < σ 5 0 0 → (0 ≤ m ∧ m ≤ 3) ∧ (1 ≤ d ∧ d ≤ 20) → (∀ s, 0 ≤ s → s < σ 10 0 j → σ 11 0 (4 * j + s) ≠ m) → ∀ σ1 σ2, RecE σ σ1 → σ2 = up (up (up (up (up σ1 11 0 (4 * j + σ 10 0 j) m) 12 0 (4 * j + σ 10 0 j) d) 10 0 j (σ 10 0 j + 1)) 14 0 (4 * m + σ 13 0 m) j) 13 0 m (σ 13 0 m + 1) → K (some (4 * j + σ 10 0 j)) σ2)
  | _ => False
set_option maxHeartbeats 4000000 in
set_option maxRecDepth 20000 in
theorem k_X6_operation (l : Launch) : Ct l yX6_operation cX6_operation 4 (some .int) 4 T_X6_operation := by
  refine mk_met (by decide +kernel) hCX6_operation lCX6_operation frX6_ok cstX6_ok (cao_X6_operation l) ?_ ?_
  · intro a σ K h
    unfold T_X6_operation at h
    split at h
    · simp [eL]
    · exact h.elim
  · intro a σ K ha hR h
    unfold T_X6_operation at h
    split at h
    · rename_i j m d
      refine ⟨fun _ => none, 200, fun pc I L S σ' k h => (by cases h), ?_⟩
      simp only [wp, stp, drp, entL, eL, lget, lset, okst, cnd, swt, rcv, Kr_int, Kr_bool, Kr_void, List.length_cons, List.length_nil, List.replicate, List.append_nil, List.cons_append, List.nil_append, List.take_succ_cons, List.take_zero, List.drop_succ_cons, List.drop_zero, List.reverse_cons, List.reverse_nil, Option.map_some, Option.map_none, Option.toList_some, Option.toList_none, Nat.reduceAdd, Nat.reduceSub, Nat.reduceLT, Nat.reduceLeDiff, Nat.reduceEqDiff, ↓reduceIte, Nat.add_zero, Nat.zero_add, true_and, and_true, Nat.le_refl, reduceCtorEq, false_implies, true_implies, not_true_eq_false, not_false_eq_true, Int.reduceAdd, Int.reduceSub, Int.reduceMul, Int.reduceLE, Int.reduceLT, Int.reduceEq, Int.reduceNe, Int.reduceNeg, Int.reduceDiv, Int.reduceMod, Bool.false_eq_true, Int.le_refl, and_self, true_or, or_true, inR_l, fv0, fv1, fv2, fv3, nc2, nc4, nc6, nc16, nc25, nc60, nc65, nc80, nc130, nc384, nc390, fp_0_0, fp_0_1, fp_0_2, fp_1_0, fp_1_1, fp_1_2, fp_1_3, fp_1_4, fp_1_5, fp_1_6, fp_1_7, fp_1_8, fp_1_9, fp_1_10, fp_1_11, fp_1_12, fp_1_13, fp_1_14, fp_2_0, fp_2_1, fp_2_2, fp_2_3, fp_3_0, fp_3_1, fp_4_0, fp_4_1, fp_4_2, fp_4_3, fp_4_4, fp_4_5, fp_4_6, fp_4_7, fp_5_0, fp_5_1, fp_5_2, fp_5_3, fp_5_4, fp_5_5, fp_5_6, fp_5_7, fp_6_0, fp_6_1, fp_6_2, fp_6_3, fp_6_4, fp_6_5, fp_6_6, fp_6_7, fp_6_8, fp_6_9, fp_6_10, fp_6_11, fp_6_12, fp_6_13, fp_6_14, fp_6_15, fp_7_0, fp_7_1, fp_7_2, fp_7_3, fp_7_4, fp_7_5, fp_7_6, fp_7_7, fp_7_8, fp_7_9, fp_7_10, fp_7_11, fp_7_12, fp_7_13, fp_7_14, fp_7_15, fp_7_16, fp_7_17, fp_7_18, fp_7_19, fp_7_20, fp_7_21, fp_7_22, fp_7_23, fp_7_24, iz_0_1, iz_0_2, iz_1_8, iz_1_9, iz_1_11, iz_2_1, iz_2_2, iz_2_3, iz_3_1, iz_4_1, iz_4_2, iz_5_0, iz_6_8, iz_6_9, iz_6_13, iz_6_14, iz_6_15, iz_7_2, iz_7_6, iz_7_12, iz_7_20, iz_7_21, iz_7_23, iz_7_24, ak_8, ak_9, ak_10, ak_11, ak_12, ak_13, ak_14, ak_15, ak_16, ak_17, ak_18, ak_19, ak_20, ak_21, ak_22, ak_23, ak_24, ak_25, ak_26, ak_27, ak_28, ak_29, ak_30, ak_31, ak_32, ak_33, ak_34, ak_35, ak_36, ak_37, ak_38, ak_39, ak_40, ak_41, ak_42, ak_43, ak_44, ak_45, ak_46, ak_47, ak_48, ak_49, ak_50, ak_51, ak_52, ak_53, ak_54, ak_55, ak_56, el31, el33, el34, CX6_operation, ca_X6_operation, frX6, kcX6, klX6, T_X5_hasJob2, T_X6_isMachine2, T_X6_within2, T_X5_operationOf, T_X6_beginChange2, T_X5_addOperation2, xT_up, xL_20, xL_21]
      obtain ⟨⟨p, q⟩, h1, h2, h3, h4⟩ := h
      have l := sW_j p
      refine ⟨fun a => ⟨fun b => ⟨fun c => ⟨⟨a.1, by omega, (l.2.2.1 j a.1 (by omega)).2⟩, fun d => ⟨q, fun σ1 hR => ?_⟩, fun d => h3 a ⟨b, c⟩ ((opF_ne a.1 (l.2.2.1 j a.1 (by omega)).2).1 d)⟩, fun c => h2 a (fun z => c z.2)⟩, fun b => h2 a (fun z => b z.1)⟩, h1⟩
      have hn := (opF_ne a.1 (l.2.2.1 j a.1 (by omega)).2).2 d
      have r := WF_room p.1 a.1 a.2 b.1 (by omega) hn
      rw [Rec_w hR 10 (by omega), Rec_w hR 13 (by omega)]
      exact ⟨⟨a.1, by omega, b.1, by omega, r.2.2.1, r.1, r.2.2.2.1, r.2.1⟩, fun σ2 h => h4 a ⟨b, c⟩ hn σ1 σ2 hR h⟩
    · exact h.elim
def ca_X6_change : Nat → Option (Nat × Nat × Tr)
  | 97 => some (2, 5, T_X5_hasOperation2)
  | 68 => some (3, 99, T_X6_within2)
  | 76 => some (1, 6, T_X6_beginChange2)
  | _ => none
theorem cao_X6_change (l : Launch) : ∀ k n' ci T', ca_X6_change k = some (n', ci, T') → ∃ nn, nn + 1 ≤ 4 ∧ Site l yX6_change.cls k n' ci nn T' := by
  intro k n' ci T' h
  unfold ca_X6_change at h
  split at h
  · cases h; exact ⟨0, by decide, _, _, _, _, k_X5_hasOperation2 l, Or.inl ⟨_, rfl, FX5_hasOperation, KRX6_97⟩⟩
  · cases h; exact ⟨0, by decide, _, _, _, _, k_X6_within2 l, Or.inr ⟨rfl, FX6_within, Or.inl ⟨rfl, KRX6_68⟩⟩⟩
  · cases h; exact ⟨3, by decide, _, _, _, _, k_X6_beginChange2 l, Or.inl ⟨_, rfl, FX6_beginChange, KRX6_76⟩⟩
  · cases h
def T_X6_change : Tr := fun a σ K => match a with
  | [.inr (.inl (6, 0)), .inl x, .inl d] => (sWF σ 0 ∧ hsB σ) ∧ (¬ vOp (σ 10 0) x → K (some (-1)) σ) ∧ (vOp (σ 10 0) x → ¬ (1 ≤ d ∧ d ≤ 20) → K (some (-2)) σ) ∧ (vOp (σ 10 0) x → 1 ≤ d ∧ d ≤ 20 → ∀ σ1, RecE σ σ1 → K (some (σ 12 0 x)) (up σ1 12 0 x d))
  | _ => False
set_option maxHeartbeats 4000000 in
set_option maxRecDepth 20000 in
theorem k_X6_change (l : Launch) : Ct l yX6_change cX6_change 4 (some .int) 4 T_X6_change := by
  refine mk_met (by decide +kernel) hCX6_change lCX6_change frX6_ok cstX6_ok (cao_X6_change l) ?_ ?_
  · intro a σ K h
    unfold T_X6_change at h
    split at h
    · simp [eL]
    · exact h.elim
  · intro a σ K ha hR h
    unfold T_X6_change at h
    split at h
    · rename_i x d
      refine ⟨fun _ => none, 200, fun pc I L S σ' k h => (by cases h), ?_⟩
      simp only [wp, stp, drp, entL, eL, lget, lset, okst, cnd, swt, rcv, Kr_int, Kr_bool, Kr_void, List.length_cons, List.length_nil, List.replicate, List.append_nil, List.cons_append, List.nil_append, List.take_succ_cons, List.take_zero, List.drop_succ_cons, List.drop_zero, List.reverse_cons, List.reverse_nil, Option.map_some, Option.map_none, Option.toList_some, Option.toList_none, Nat.reduceAdd, Nat.reduceSub, Nat.reduceLT, Nat.reduceLeDiff, Nat.reduceEqDiff, ↓reduceIte, Nat.add_zero, Nat.zero_add, true_and, and_true, Nat.le_refl, reduceCtorEq, false_implies, true_implies, not_true_eq_false, not_false_eq_true, Int.reduceAdd, Int.reduceSub, Int.reduceMul, Int.reduceLE, Int.reduceLT, Int.reduceEq, Int.reduceNe, Int.reduceNeg, Int.reduceDiv, Int.reduceMod, Bool.false_eq_true, Int.le_refl, and_self, true_or, or_true, inR_l, fv0, fv1, fv2, fv3, nc2, nc4, nc6, nc16, nc25, nc60, nc65, nc80, nc130, nc384, nc390, fp_0_0, fp_0_1, fp_0_2, fp_1_0, fp_1_1, fp_1_2, fp_1_3, fp_1_4, fp_1_5, fp_1_6, fp_1_7, fp_1_8, fp_1_9, fp_1_10, fp_1_11, fp_1_12, fp_1_13, fp_1_14, fp_2_0, fp_2_1, fp_2_2, fp_2_3, fp_3_0, fp_3_1, fp_4_0, fp_4_1, fp_4_2, fp_4_3, fp_4_4, fp_4_5, fp_4_6, fp_4_7, fp_5_0, fp_5_1, fp_5_2, fp_5_3, fp_5_4, fp_5_5, fp_5_6, fp_5_7, fp_6_0, fp_6_1, fp_6_2, fp_6_3, fp_6_4, fp_6_5, fp_6_6, fp_6_7, fp_6_8, fp_6_9, fp_6_10, fp_6_11, fp_6_12, fp_6_13, fp_6_14, fp_6_15, fp_7_0, fp_7_1, fp_7_2, fp_7_3, fp_7_4, fp_7_5, fp_7_6, fp_7_7, fp_7_8, fp_7_9, fp_7_10, fp_7_11, fp_7_12, fp_7_13, fp_7_14, fp_7_15, fp_7_16, fp_7_17, fp_7_18, fp_7_19, fp_7_20, fp_7_21, fp_7_22, fp_7_23, fp_7_24, iz_0_1, iz_0_2, iz_1_8, iz_1_9, iz_1_11, iz_2_1, iz_2_2, iz_2_3, iz_3_1, iz_4_1, iz_4_2, iz_5_0, iz_6_8, iz_6_9, iz_6_13, iz_6_14, iz_6_15, iz_7_2, iz_7_6, iz_7_12, iz_7_20, iz_7_21, iz_7_23, iz_7_24, ak_8, ak_9, ak_10, ak_11, ak_12, ak_13, ak_14, ak_15, ak_16, ak_17, ak_18, ak_19, ak_20, ak_21, ak_22, ak_23, ak_24, ak_25, ak_26, ak_27, ak_28, ak_29, ak_30, ak_31, ak_32, ak_33, ak_34, ak_35, ak_36, ak_37, ak_38, ak_39, ak_40, ak_41, ak_42, ak_43, ak_44, ak_45, ak_46, ak_47, ak_48, ak_49, ak_50, ak_51, ak_52, ak_53, ak_54, ak_55, ak_56, el31, el33, el34, CX6_change, ca_X6_change, frX6, kcX6, klX6, T_X5_hasOperation2, T_X6_within2, T_X6_beginChange2, xT_up, xL_20, xL_21]
      obtain ⟨⟨p, q⟩, h1, h2, h3⟩ := h
      refine ⟨fun v => ⟨fun b => ⟨q, fun σ1 hR => ⟨⟨v.1, v.2.1⟩, ⟨v.1, v.2.1⟩, ?_⟩⟩, h2 v⟩, h1⟩
      rw [Rec_w hR 12 (by omega)]
      exact h3 v b σ1 hR
    · exact h.elim
def ca_X6_swap : Nat → Option (Nat × Nat × Tr)
  | 87 => some (1, 99, T_X6_isMachine2)
  | 76 => some (1, 6, T_X6_beginChange2)
  | 107 => some (3, 5, T_X5_exchange)
  | 111 => some (1, 6, T_X6_knowPlan2)
  | _ => none
theorem cao_X6_swap (l : Launch) : ∀ k n' ci T', ca_X6_swap k = some (n', ci, T') → ∃ nn, nn + 1 ≤ 6 ∧ Site l yX6_swap.cls k n' ci nn T' := by
  intro k n' ci T' h
  unfold ca_X6_swap at h
  split at h
  · cases h; exact ⟨1, by decide, _, _, _, _, k_X6_isMachine2 l, Or.inr ⟨rfl, FX6_isMachine, Or.inl ⟨rfl, KRX6_87⟩⟩⟩
  · cases h; exact ⟨3, by decide, _, _, _, _, k_X6_beginChange2 l, Or.inl ⟨_, rfl, FX6_beginChange, KRX6_76⟩⟩
  · cases h; exact ⟨0, by decide, _, _, _, _, k_X5_exchange l, Or.inl ⟨_, rfl, FX5_exchange, KRX6_107⟩⟩
  · cases h; exact ⟨5, by decide, _, _, _, _, k_X6_knowPlan2 l, Or.inl ⟨_, rfl, FX6_knowPlan, KRX6_111⟩⟩
  · cases h
def T_X6_swap : Tr := fun a σ K => match a with
  | [.inr (.inl (6, 0)), .inl m, .inl x] => (sWF σ 0 ∧ hsB σ) ∧ (¬ (0 ≤ m ∧ m ≤ 3) → K (some (-2)) σ) ∧ (0 ≤ m ∧ m ≤ 3 → ¬ (0 ≤ x ∧ x < σ 13 0 m - 1) → K (some (-1)) σ) ∧ (0 ≤ m ∧ m ≤ 3 → 0 ≤ x ∧ x < σ 13 0 m - 1 → ∀ σ1 σ2, RecE σ σ1 → σ2 = up (up σ1 14 0 (4 * m + x) (σ1 14 0 (4 * m + x + 1))) 14 0 (4 * m + x + 1) (σ1 14 0 (4 * m + x)) → sWF σ2 0 → ((∀ σ3, FrG pKn σ2 σ3 → KPc σ3 → PK σ3 → K (some 1) σ3) ∧ (∀ σ3, FrG pKn σ2 σ3 → KPc σ3 → (∀ h, ¬ sH σ2 0 h) → K (some 0) σ3)))
  | _ => False
set_option maxHeartbeats 4000000 in
set_option maxRecDepth 20000 in
theorem k_X6_swap (l : Launch) : Ct l yX6_swap cX6_swap 3 (some .int) 6 T_X6_swap := by
  refine mk_met (by decide +kernel) hCX6_swap lCX6_swap frX6_ok cstX6_ok (cao_X6_swap l) ?_ ?_
  · intro a σ K h
    unfold T_X6_swap at h
    split at h
    · simp [eL]
    · exact h.elim
  · intro a σ K ha hR h
    unfold T_X6_swap at h
    split at h
    · rename_i m x
      refine ⟨fun _ => none, 200, fun pc I L S σ' k h => (by cases h), ?_⟩
      simp only [wp, stp, drp, entL, eL, lget, lset, okst, cnd, swt, rcv, Kr_int, Kr_bool, Kr_void, List.length_cons, List.length_nil, List.replicate, List.append_nil, List.cons_append, List.nil_append, List.take_succ_cons, List.take_zero, List.drop_succ_cons, List.drop_zero, List.reverse_cons, List.reverse_nil, Option.map_some, Option.map_none, Option.toList_some, Option.toList_none, Nat.reduceAdd, Nat.reduceSub, Nat.reduceLT, Nat.reduceLeDiff, Nat.reduceEqDiff, ↓reduceIte, Nat.add_zero, Nat.zero_add, true_and, and_true, Nat.le_refl, reduceCtorEq, false_implies, true_implies, not_true_eq_false, not_false_eq_true, Int.reduceAdd, Int.reduceSub, Int.reduceMul, Int.reduceLE, Int.reduceLT, Int.reduceEq, Int.reduceNe, Int.reduceNeg, Int.reduceDiv, Int.reduceMod, Bool.false_eq_true, Int.le_refl, and_self, true_or, or_true, inR_l, fv0, fv1, fv2, fv3, nc2, nc4, nc6, nc16, nc25, nc60, nc65, nc80, nc130, nc384, nc390, fp_0_0, fp_0_1, fp_0_2, fp_1_0, fp_1_1, fp_1_2, fp_1_3, fp_1_4, fp_1_5, fp_1_6, fp_1_7, fp_1_8, fp_1_9, fp_1_10, fp_1_11, fp_1_12, fp_1_13, fp_1_14, fp_2_0, fp_2_1, fp_2_2, fp_2_3, fp_3_0, fp_3_1, fp_4_0, fp_4_1, fp_4_2, fp_4_3, fp_4_4, fp_4_5, fp_4_6, fp_4_7, fp_5_0, fp_5_1, fp_5_2, fp_5_3, fp_5_4, fp_5_5, fp_5_6, fp_5_7, fp_6_0, fp_6_1, fp_6_2, fp_6_3, fp_6_4, fp_6_5, fp_6_6, fp_6_7, fp_6_8, fp_6_9, fp_6_10, fp_6_11, fp_6_12, fp_6_13, fp_6_14, fp_6_15, fp_7_0, fp_7_1, fp_7_2, fp_7_3, fp_7_4, fp_7_5, fp_7_6, fp_7_7, fp_7_8, fp_7_9, fp_7_10, fp_7_11, fp_7_12, fp_7_13, fp_7_14, fp_7_15, fp_7_16, fp_7_17, fp_7_18, fp_7_19, fp_7_20, fp_7_21, fp_7_22, fp_7_23, fp_7_24, iz_0_1, iz_0_2, iz_1_8, iz_1_9, iz_1_11, iz_2_1, iz_2_2, iz_2_3, iz_3_1, iz_4_1, iz_4_2, iz_5_0, iz_6_8, iz_6_9, iz_6_13, iz_6_14, iz_6_15, iz_7_2, iz_7_6, iz_7_12, iz_7_20, iz_7_21, iz_7_23, iz_7_24, ak_8, ak_9, ak_10, ak_11, ak_12, ak_13, ak_14, ak_15, ak_16, ak_17, ak_18, ak_19, ak_20, ak_21, ak_22, ak_23, ak_24, ak_25, ak_26, ak_27, ak_28, ak_29, ak_30, ak_31, ak_32, ak_33, ak_34, ak_35, ak_36, ak_37, ak_38, ak_39, ak_40, ak_41, ak_42, ak_43, ak_44, ak_45, ak_46, ak_47, ak_48, ak_49, ak_50, ak_51, ak_52, ak_53, ak_54, ak_55, ak_56, el31, el33, el34, CX6_swap, ca_X6_swap, frX6, kcX6, klX6, T_X6_isMachine2, T_X6_beginChange2, T_X5_exchange, T_X6_knowPlan2, xT_up, xL_20, xL_21]
      obtain ⟨⟨p, q⟩, h1, h2, h3⟩ := h
      refine ⟨fun a => ⟨fun b => h2 a (by omega), fun b => ⟨by omega, ?_, fun c => ⟨q, fun σ1 hR => ?_⟩, fun c => h2 a (by omega)⟩⟩, h1⟩
      · have := (sW_j p).2.2.2.1 m a.1 (by omega)
        simp only [inR]
        omega
      · have l := (sW_j p).2.2.2.1 m a.1 (by omega)
        have e13 : σ1 13 0 = σ 13 0 := Rec_w hR 13 (by omega)
        have w1 := Rec_s p hR
        have ex := sWF_ex w1.1 a.1 (show m < 4 by omega) (show 0 ≤ x by omega) (by rw [e13]; omega) rfl
        have r := h3 a ⟨by omega, c⟩ σ1 _ hR rfl ex.1
        refine ⟨⟨a.1, by omega, by omega, by rw [e13]; exact c, by rw [e13]; exact l.2⟩, ⟨ex.1, Or.inl ?_⟩, r.1, r.2⟩
        rw [ex.2.2 6 0 (by omega)]
        rw [hR 6 0 8, if_neg (by rintro ⟨q, -⟩; omega), if_neg (by rintro ⟨q, -⟩; omega), if_pos (Or.inl ⟨rfl, rfl, rfl⟩)]
    · exact h.elim
def ca_X6_undo : Nat → Option (Nat × Nat × Tr)
  | 250 => some (2, 0, T_X0_takeBack)
  | 253 => some (1, 6, T_X6_forgetAnswers)
  | _ => none
theorem cao_X6_undo (l : Launch) : ∀ k n' ci T', ca_X6_undo k = some (n', ci, T') → ∃ nn, nn + 1 ≤ 3 ∧ Site l yX6_undo.cls k n' ci nn T' := by
  intro k n' ci T' h
  unfold ca_X6_undo at h
  split at h
  · cases h; exact ⟨2, by decide, _, _, _, _, k_X0_takeBack l, Or.inl ⟨_, rfl, FX0_takeBack, KRX6_250⟩⟩
  · cases h; exact ⟨0, by decide, _, _, _, _, k_X6_forgetAnswers l, Or.inl ⟨_, rfl, FX6_forgetAnswers, KRX6_253⟩⟩
  · cases h
def T_X6_undo : Tr := fun a σ K => match a with
  | [.inr (.inl (6, 0))] => hsB σ ∧ (σ 0 0 1 ≤ 0 → K (some (-5)) σ) ∧ (0 < σ 0 0 1 → ∀ σ1 σ2, TakE σ σ1 → σ2 = up (up (up σ1 6 0 8 0) 4 0 1 0) 4 1 1 0 → K (some (σ 0 0 1 - 1)) σ2)
  | _ => False
set_option maxHeartbeats 4000000 in
set_option maxRecDepth 20000 in
theorem k_X6_undo (l : Launch) : Ct l yX6_undo cX6_undo 1 (some .int) 3 T_X6_undo := by
  refine mk_met (by decide +kernel) hCX6_undo lCX6_undo frX6_ok cstX6_ok (cao_X6_undo l) ?_ ?_
  · intro a σ K h
    unfold T_X6_undo at h
    split at h
    · simp [eL]
    · exact h.elim
  · intro a σ K ha hR h
    unfold T_X6_undo at h
    split at h
    · refine ⟨fun _ => none, 200, fun pc I L S σ' k h => (by cases h), ?_⟩
      simp only [wp, stp, drp, entL, eL, lget, lset, okst, cnd, swt, rcv, Kr_int, Kr_bool, Kr_void, List.length_cons, List.length_nil, List.replicate, List.append_nil, List.cons_append, List.nil_append, List.take_succ_cons, List.take_zero, List.drop_succ_cons, List.drop_zero, List.reverse_cons, List.reverse_nil, Option.map_some, Option.map_none, Option.toList_some, Option.toList_none, Nat.reduceAdd, Nat.reduceSub, Nat.reduceLT, Nat.reduceLeDiff, Nat.reduceEqDiff, ↓reduceIte, Nat.add_zero, Nat.zero_add, true_and, and_true, Nat.le_refl, reduceCtorEq, false_implies, true_implies, not_true_eq_false, not_false_eq_true, Int.reduceAdd, Int.reduceSub, Int.reduceMul, Int.reduceLE, Int.reduceLT, Int.reduceEq, Int.reduceNe, Int.reduceNeg, Int.reduceDiv, Int.reduceMod, Bool.false_eq_true, Int.le_refl, and_self, true_or, or_true, inR_l, fv0, fv1, fv2, fv3, nc2, nc4, nc6, nc16, nc25, nc60, nc65, nc80, nc130, nc384, nc390, fp_0_0, fp_0_1, fp_0_2, fp_1_0, fp_1_1, fp_1_2, fp_1_3, fp_1_4, fp_1_5, fp_1_6, fp_1_7, fp_1_8, fp_1_9, fp_1_10, fp_1_11, fp_1_12, fp_1_13, fp_1_14, fp_2_0, fp_2_1, fp_2_2, fp_2_3, fp_3_0, fp_3_1, fp_4_0, fp_4_1, fp_4_2, fp_4_3, fp_4_4, fp_4_5, fp_4_6, fp_4_7, fp_5_0, fp_5_1, fp_5_2, fp_5_3, fp_5_4, fp_5_5, fp_5_6, fp_5_7, fp_6_0, fp_6_1, fp_6_2, fp_6_3, fp_6_4, fp_6_5, fp_6_6, fp_6_7, fp_6_8, fp_6_9, fp_6_10, fp_6_11, fp_6_12, fp_6_13, fp_6_14, fp_6_15, fp_7_0, fp_7_1, fp_7_2, fp_7_3, fp_7_4, fp_7_5, fp_7_6, fp_7_7, fp_7_8, fp_7_9, fp_7_10, fp_7_11, fp_7_12, fp_7_13, fp_7_14, fp_7_15, fp_7_16, fp_7_17, fp_7_18, fp_7_19, fp_7_20, fp_7_21, fp_7_22, fp_7_23, fp_7_24, iz_0_1, iz_0_2, iz_1_8, iz_1_9, iz_1_11, iz_2_1, iz_2_2, iz_2_3, iz_3_1, iz_4_1, iz_4_2, iz_5_0, iz_6_8, iz_6_9, iz_6_13, iz_6_14, iz_6_15, iz_7_2, iz_7_6, iz_7_12, iz_7_20, iz_7_21, iz_7_23, iz_7_24, ak_8, ak_9, ak_10, ak_11, ak_12, ak_13, ak_14, ak_15, ak_16, ak_17, ak_18, ak_19, ak_20, ak_21, ak_22, ak_23, ak_24, ak_25, ak_26, ak_27, ak_28, ak_29, ak_30, ak_31, ak_32, ak_33, ak_34, ak_35, ak_36, ak_37, ak_38, ak_39, ak_40, ak_41, ak_42, ak_43, ak_44, ak_45, ak_46, ak_47, ak_48, ak_49, ak_50, ak_51, ak_52, ak_53, ak_54, ak_55, ak_56, el31, el33, el34, CX6_undo, ca_X6_undo, frX6, kcX6, klX6, T_X0_takeBack, T_X6_forgetAnswers, xT_up, xL_20, xL_21]
      obtain ⟨q, h1, h2⟩ := h
      refine ⟨fun a => ⟨⟨q.1, q.2.1, q.2.2.2⟩, fun b => by omega, fun b σ1 hE => ?_⟩, fun a => h1 (by omega)⟩
      have e : up (up (up σ1 6 0 8 0) 4 0 1 0) 4 1 1 0 0 0 1 = σ 0 0 1 - 1 := by
        rw [up_ap, if_neg (by rintro ⟨z, -⟩; omega), up_ap, if_neg (by rintro ⟨z, -⟩; omega), up_ap, if_neg (by rintro ⟨z, -⟩; omega), hE 0 0 1, if_neg (by rintro ⟨-, -, z⟩; omega), if_pos ⟨rfl, rfl, rfl⟩]
      rw [e]
      exact h2 a σ1 _ hE rfl
    · exact h.elim
def ca_X6_save : Nat → Option (Nat × Nat × Tr)
  | 68 => some (3, 99, T_X6_within2)
  | 237 => some (2, 5, T_X5_become)
  | _ => none
theorem cao_X6_save (l : Launch) : ∀ k n' ci T', ca_X6_save k = some (n', ci, T') → ∃ nn, nn + 1 ≤ 2 ∧ Site l yX6_save.cls k n' ci nn T' := by
  intro k n' ci T' h
  unfold ca_X6_save at h
  split at h
  · cases h; exact ⟨0, by decide, _, _, _, _, k_X6_within2 l, Or.inr ⟨rfl, FX6_within, Or.inl ⟨rfl, KRX6_68⟩⟩⟩
  · cases h; exact ⟨1, by decide, _, _, _, _, k_X5_become l, Or.inl ⟨_, rfl, FX5_become, KRX6_237⟩⟩
  · cases h
def T_X6_save : Tr := fun a σ K => match a with
  | [.inr (.inl (6, 0)), .inl s] => (¬ (0 ≤ s ∧ s ≤ 1) → K (some (-2)) σ) ∧ (0 ≤ s ∧ s ≤ 1 → ∀ σ1, BecE σ σ1 (8 + s.toNat) 0 → K (some (σ 5 0 0)) (up σ1 35 0 s 1))
  | _ => False
set_option maxHeartbeats 4000000 in
set_option maxRecDepth 20000 in
theorem k_X6_save (l : Launch) : Ct l yX6_save cX6_save 2 (some .int) 2 T_X6_save := by
  refine mk_met (by decide +kernel) hCX6_save lCX6_save frX6_ok cstX6_ok (cao_X6_save l) ?_ ?_
  · intro a σ K h
    unfold T_X6_save at h
    split at h
    · simp [eL]
    · exact h.elim
  · intro a σ K ha hR h
    unfold T_X6_save at h
    split at h
    · rename_i s
      refine ⟨fun _ => none, 200, fun pc I L S σ' k h => (by cases h), ?_⟩
      simp only [wp, stp, drp, entL, eL, lget, lset, okst, cnd, swt, rcv, Kr_int, Kr_bool, Kr_void, List.length_cons, List.length_nil, List.replicate, List.append_nil, List.cons_append, List.nil_append, List.take_succ_cons, List.take_zero, List.drop_succ_cons, List.drop_zero, List.reverse_cons, List.reverse_nil, Option.map_some, Option.map_none, Option.toList_some, Option.toList_none, Nat.reduceAdd, Nat.reduceSub, Nat.reduceLT, Nat.reduceLeDiff, Nat.reduceEqDiff, ↓reduceIte, Nat.add_zero, Nat.zero_add, true_and, and_true, Nat.le_refl, reduceCtorEq, false_implies, true_implies, not_true_eq_false, not_false_eq_true, Int.reduceAdd, Int.reduceSub, Int.reduceMul, Int.reduceLE, Int.reduceLT, Int.reduceEq, Int.reduceNe, Int.reduceNeg, Int.reduceDiv, Int.reduceMod, Bool.false_eq_true, Int.le_refl, and_self, true_or, or_true, inR_l, fv0, fv1, fv2, fv3, nc2, nc4, nc6, nc16, nc25, nc60, nc65, nc80, nc130, nc384, nc390, fp_0_0, fp_0_1, fp_0_2, fp_1_0, fp_1_1, fp_1_2, fp_1_3, fp_1_4, fp_1_5, fp_1_6, fp_1_7, fp_1_8, fp_1_9, fp_1_10, fp_1_11, fp_1_12, fp_1_13, fp_1_14, fp_2_0, fp_2_1, fp_2_2, fp_2_3, fp_3_0, fp_3_1, fp_4_0, fp_4_1, fp_4_2, fp_4_3, fp_4_4, fp_4_5, fp_4_6, fp_4_7, fp_5_0, fp_5_1, fp_5_2, fp_5_3, fp_5_4, fp_5_5, fp_5_6, fp_5_7, fp_6_0, fp_6_1, fp_6_2, fp_6_3, fp_6_4, fp_6_5, fp_6_6, fp_6_7, fp_6_8, fp_6_9, fp_6_10, fp_6_11, fp_6_12, fp_6_13, fp_6_14, fp_6_15, fp_7_0, fp_7_1, fp_7_2, fp_7_3, fp_7_4, fp_7_5, fp_7_6, fp_7_7, fp_7_8, fp_7_9, fp_7_10, fp_7_11, fp_7_12, fp_7_13, fp_7_14, fp_7_15, fp_7_16, fp_7_17, fp_7_18, fp_7_19, fp_7_20, fp_7_21, fp_7_22, fp_7_23, fp_7_24, iz_0_1, iz_0_2, iz_1_8, iz_1_9, iz_1_11, iz_2_1, iz_2_2, iz_2_3, iz_3_1, iz_4_1, iz_4_2, iz_5_0, iz_6_8, iz_6_9, iz_6_13, iz_6_14, iz_6_15, iz_7_2, iz_7_6, iz_7_12, iz_7_20, iz_7_21, iz_7_23, iz_7_24, ak_8, ak_9, ak_10, ak_11, ak_12, ak_13, ak_14, ak_15, ak_16, ak_17, ak_18, ak_19, ak_20, ak_21, ak_22, ak_23, ak_24, ak_25, ak_26, ak_27, ak_28, ak_29, ak_30, ak_31, ak_32, ak_33, ak_34, ak_35, ak_36, ak_37, ak_38, ak_39, ak_40, ak_41, ak_42, ak_43, ak_44, ak_45, ak_46, ak_47, ak_48, ak_49, ak_50, ak_51, ak_52, ak_53, ak_54, ak_55, ak_56, el31, el33, el34, CX6_save, ca_X6_save, frX6, kcX6, klX6, T_X6_within2, T_X5_become, xT_up, xL_20, xL_21]
      obtain ⟨h1, h2⟩ := h
      refine ⟨fun a => ⟨by omega, by omega, fun σ1 hE => ⟨by omega, ?_⟩⟩, h1⟩
      have e : up σ1 35 0 s 1 5 0 0 = σ 5 0 0 := by
        rw [up_ap, if_neg (by rintro ⟨z, -⟩; omega), hE 5 0 0, if_neg (by rintro ⟨z, -⟩; omega)]
      rw [e]
      exact h2 a σ1 hE
    · exact h.elim
def ca_X6_restore : Nat → Option (Nat × Nat × Tr)
  | 68 => some (3, 99, T_X6_within2)
  | 76 => some (1, 6, T_X6_beginChange2)
  | 237 => some (2, 5, T_X5_become)
  | _ => none
theorem cao_X6_restore (l : Launch) : ∀ k n' ci T', ca_X6_restore k = some (n', ci, T') → ∃ nn, nn + 1 ≤ 4 ∧ Site l yX6_restore.cls k n' ci nn T' := by
  intro k n' ci T' h
  unfold ca_X6_restore at h
  split at h
  · cases h; exact ⟨0, by decide, _, _, _, _, k_X6_within2 l, Or.inr ⟨rfl, FX6_within, Or.inl ⟨rfl, KRX6_68⟩⟩⟩
  · cases h; exact ⟨3, by decide, _, _, _, _, k_X6_beginChange2 l, Or.inl ⟨_, rfl, FX6_beginChange, KRX6_76⟩⟩
  · cases h; exact ⟨1, by decide, _, _, _, _, k_X5_become l, Or.inl ⟨_, rfl, FX5_become, KRX6_237⟩⟩
  · cases h
def T_X6_restore : Tr := fun a σ K => match a with
  | [.inr (.inl (6, 0)), .inl s] => hsB σ ∧ (¬ (0 ≤ s ∧ s ≤ 1) → K (some (-2)) σ) ∧ (0 ≤ s ∧ s ≤ 1 → σ 35 0 s = 0 → K (some (-5)) σ) ∧ (0 ≤ s ∧ s ≤ 1 → ¬ σ 35 0 s = 0 → ∀ σ1 σ2, RecE σ σ1 → BecE σ1 σ2 0 (8 + s.toNat) → K (some (σ2 5 0 0)) σ2)
  | _ => False
set_option maxHeartbeats 4000000 in
set_option maxRecDepth 20000 in
theorem k_X6_restore (l : Launch) : Ct l yX6_restore cX6_restore 2 (some .int) 4 T_X6_restore := by
  refine mk_met (by decide +kernel) hCX6_restore lCX6_restore frX6_ok cstX6_ok (cao_X6_restore l) ?_ ?_
  · intro a σ K h
    unfold T_X6_restore at h
    split at h
    · simp [eL]
    · exact h.elim
  · intro a σ K ha hR h
    unfold T_X6_restore at h
    split at h
    · rename_i s
      refine ⟨fun _ => none, 200, fun pc I L S σ' k h => (by cases h), ?_⟩
      simp only [wp, stp, drp, entL, eL, lget, lset, okst, cnd, swt, rcv, Kr_int, Kr_bool, Kr_void, List.length_cons, List.length_nil, List.replicate, List.append_nil, List.cons_append, List.nil_append, List.take_succ_cons, List.take_zero, List.drop_succ_cons, List.drop_zero, List.reverse_cons, List.reverse_nil, Option.map_some, Option.map_none, Option.toList_some, Option.toList_none, Nat.reduceAdd, Nat.reduceSub, Nat.reduceLT, Nat.reduceLeDiff, Nat.reduceEqDiff, ↓reduceIte, Nat.add_zero, Nat.zero_add, true_and, and_true, Nat.le_refl, reduceCtorEq, false_implies, true_implies, not_true_eq_false, not_false_eq_true, Int.reduceAdd, Int.reduceSub, Int.reduceMul, Int.reduceLE, Int.reduceLT, Int.reduceEq, Int.reduceNe, Int.reduceNeg, Int.reduceDiv, Int.reduceMod, Bool.false_eq_true, Int.le_refl, and_self, true_or, or_true, inR_l, fv0, fv1, fv2, fv3, nc2, nc4, nc6, nc16, nc25, nc60, nc65, nc80, nc130, nc384, nc390, fp_0_0, fp_0_1, fp_0_2, fp_1_0, fp_1_1, fp_1_2, fp_1_3, fp_1_4, fp_1_5, fp_1_6, fp_1_7, fp_1_8, fp_1_9, fp_1_10, fp_1_11, fp_1_12, fp_1_13, fp_1_14, fp_2_0, fp_2_1, fp_2_2, fp_2_3, fp_3_0, fp_3_1, fp_4_0, fp_4_1, fp_4_2, fp_4_3, fp_4_4, fp_4_5, fp_4_6, fp_4_7, fp_5_0, fp_5_1, fp_5_2, fp_5_3, fp_5_4, fp_5_5, fp_5_6, fp_5_7, fp_6_0, fp_6_1, fp_6_2, fp_6_3, fp_6_4, fp_6_5, fp_6_6, fp_6_7, fp_6_8, fp_6_9, fp_6_10, fp_6_11, fp_6_12, fp_6_13, fp_6_14, fp_6_15, fp_7_0, fp_7_1, fp_7_2, fp_7_3, fp_7_4, fp_7_5, fp_7_6, fp_7_7, fp_7_8, fp_7_9, fp_7_10, fp_7_11, fp_7_12, fp_7_13, fp_7_14, fp_7_15, fp_7_16, fp_7_17, fp_7_18, fp_7_19, fp_7_20, fp_7_21, fp_7_22, fp_7_23, fp_7_24, iz_0_1, iz_0_2, iz_1_8, iz_1_9, iz_1_11, iz_2_1, iz_2_2, iz_2_3, iz_3_1, iz_4_1, iz_4_2, iz_5_0, iz_6_8, iz_6_9, iz_6_13, iz_6_14, iz_6_15, iz_7_2, iz_7_6, iz_7_12, iz_7_20, iz_7_21, iz_7_23, iz_7_24, ak_8, ak_9, ak_10, ak_11, ak_12, ak_13, ak_14, ak_15, ak_16, ak_17, ak_18, ak_19, ak_20, ak_21, ak_22, ak_23, ak_24, ak_25, ak_26, ak_27, ak_28, ak_29, ak_30, ak_31, ak_32, ak_33, ak_34, ak_35, ak_36, ak_37, ak_38, ak_39, ak_40, ak_41, ak_42, ak_43, ak_44, ak_45, ak_46, ak_47, ak_48, ak_49, ak_50, ak_51, ak_52, ak_53, ak_54, ak_55, ak_56, el31, el33, el34, CX6_restore, ca_X6_restore, frX6, kcX6, klX6, T_X6_within2, T_X6_beginChange2, T_X5_become, xT_up, xL_20, xL_21]
      obtain ⟨q, h1, h2, h3⟩ := h
      exact ⟨fun a => ⟨by omega, fun b => ⟨q, fun σ1 hR => ⟨by omega, fun σ2 hE => h3 a b σ1 σ2 hR hE⟩⟩, fun b => h2 a (Classical.not_not.mp b)⟩, h1⟩
    · exact h.elim
