/-! what changes: the reference -/
def pmB (σ : Mem) : Prop := 0 ≤ σ 7 0 2 ∧ σ 7 0 2 ≤ 6
theorem KEE_r {σ σ' : Mem} (hw : rWF σ) (h : KEE σ σ') : rWF σ' := (r38 (KEE_w h)).2.2.2.2.2.2.2.1.mpr hw
theorem row_ex {σ : Mem} {y : Int} (q : Int) (hq : 49 + q = y) : ∀ z, rQ (up (up σ 38 0 y (σ 38 0 (y + 1))) 38 0 (y + 1) (σ 38 0 y)) z = exQ (rQ σ) q z := fun z => by
  unfold rQ exQ
  rw [up_ap, up_ap]
  subst hq
  by_cases a : z = q + 1
  · rw [if_pos a, if_pos ⟨rfl, rfl, by omega⟩]
  · rw [if_neg a, if_neg (fun c => a (by omega))]
    by_cases b : z = q
    · rw [if_pos b, if_pos ⟨rfl, rfl, by omega⟩]
      show _ = σ 38 0 (49 + (q + 1))
      rw [show 49 + (q + 1) = 49 + q + 1 by omega]
    · rw [if_neg b, if_neg (fun c => b (by omega))]
theorem rWF_ex {σ σ2 : Mem} {m x : Int} (hw : rWF σ) (m0 : 0 ≤ m) (m1 : m < 4) (x0 : 0 ≤ x) (x1 : x + 1 < rLn σ m) (h2 : σ2 = up (up σ 38 0 (49 + 4 * m + x) (σ 38 0 (49 + 4 * m + x + 1))) 38 0 (49 + 4 * m + x + 1) (σ 38 0 (49 + 4 * m + x))) : rWF σ2 ∧ rts σ2 σ ∧ (∀ z, rQ σ2 z = exQ (rQ σ) (4 * m + x) z) ∧ ∀ t a, t ≠ 38 ∨ a ≠ 0 → σ2 t a = σ t a := by
  have l4 := (rW_l hw m m0 m1).2
  have hr : rts σ2 σ := fun y y0 y1 => by
    rw [h2, up_ap, if_neg (by rintro ⟨-, -, q⟩; omega), up_ap, if_neg (by rintro ⟨-, -, q⟩; omega)]
  have hq : ∀ z, rQ σ2 z = exQ (rQ σ) (4 * m + x) z := fun z => by
    rw [h2]
    exact row_ex (4 * m + x) (by omega) z
  have e : ∀ t a, t ≠ 38 ∨ a ≠ 0 → σ2 t a = σ t a := fun t a q => by
    funext y
    rw [h2, up_ap, if_neg (by rintro ⟨p, r, -⟩; omega), up_ap, if_neg (by rintro ⟨p, r, -⟩; omega)]
  obtain ⟨e0, e1, e2, e3, e4⟩ := rts_e hr
  have ag : AG (σ 38 0 0) (σ2 38 0 0) (rSt σ) (rSt σ2) (rMc σ) (rMc σ2) (rDu σ) (rDu σ2) (rRe σ) (rRe σ2) (rLn σ) (rLn σ2) (exQ (rQ σ) (4 * m + x)) (rQ σ2) := ⟨e0.symm, fun j a b => (e1 j a b).1.symm, fun o v => ⟨(e2 o v.1 v.2.1).1.symm, (e2 o v.1 v.2.1).2.symm, (e1 _ (vOp_j v).1 (vOp_j v).2.1).2.1.symm⟩, fun m a b => (e3 m a b).symm, fun m' k _ _ _ _ => (hq _).symm⟩
  refine ⟨⟨ag.wf (WF_ex hw.1 m0 m1 x0 x1), fun j a b => ?_⟩, hr, hq, e⟩
  rw [e0] at b
  have j4 : j < 4 := by
    have := hw.1.1
    omega
  rw [(e1 j a j4).2.1, (e1 j a j4).2.2]
  exact hw.2 j a b
def ca_X7_job : Nat → Option (Nat × Nat × Tr)
  | 87 => some (3, 99, T_X7_in2)
  | 91 => some (1, 7, T_X7_keep2)
  | 94 => some (3, 7, T_X7_addJob)
  | _ => none
theorem cao_X7_job (l : Launch) : ∀ k n' ci T', ca_X7_job k = some (n', ci, T') → ∃ nn, nn + 1 ≤ 1 ∧ Site l yX7_job.cls k n' ci nn T' := by
  intro k n' ci T' h
  unfold ca_X7_job at h
  split at h
  · cases h; exact ⟨0, by decide, _, _, _, _, k_X7_in2 l, Or.inr ⟨rfl, FX7_in, Or.inl ⟨rfl, KRX7_87⟩⟩⟩
  · cases h; exact ⟨0, by decide, _, _, _, _, k_X7_keep2 l, Or.inl ⟨_, rfl, FX7_keep, KRX7_91⟩⟩
  · cases h; exact ⟨0, by decide, _, _, _, _, k_X7_addJob l, Or.inl ⟨_, rfl, FX7_addJob, KRX7_94⟩⟩
  · cases h
def T_X7_job : Tr := fun a σ K => match a with
  | [.inr (.inl (7, 0)), .inl r, .inl d] => (rWF σ ∧ pmB σ) ∧ (¬ ((0 ≤ r ∧ r ≤ 50) ∧ (0 ≤ d ∧ d ≤ 200)) → K (some (-2)) σ) ∧ ((0 ≤ r ∧ r ≤ 50) ∧ (0 ≤ d ∧ d ≤ 200) → 4 ≤ σ 38 0 0 → K (some (-4)) σ) ∧ ((0 ≤ r ∧ r ≤ 50) ∧ (0 ≤ d ∧ d ≤ 200) → σ 38 0 0 < 4 → ∀ σ1 σ2, KEE σ σ1 → σ2 = up (up (up (up σ1 38 0 0 (σ 38 0 0 + 1)) 38 0 (1 + 3 * σ 38 0 0) r) 38 0 (1 + 3 * σ 38 0 0 + 1) d) 38 0 (1 + 3 * σ 38 0 0 + 2) 0 → K (some (σ 38 0 0)) σ2)
  | _ => False
set_option maxHeartbeats 4000000 in
set_option maxRecDepth 20000 in
theorem k_X7_job (l : Launch) : Ct l yX7_job cX7_job 3 (some .int) 1 T_X7_job := by
  refine mk_met (by decide +kernel) hCX7_job lCX7_job frX7_ok cstX7_ok (cao_X7_job l) ?_ ?_
  · intro a σ K h
    unfold T_X7_job at h
    split at h
    · simp [eL]
    · exact h.elim
  · intro a σ K ha hR h
    unfold T_X7_job at h
    split at h
    · rename_i r d
      refine ⟨fun _ => none, 200, fun pc I L S σ' k h => (by cases h), ?_⟩
      simp only [wp, stp, drp, entL, eL, lget, lset, okst, cnd, swt, rcv, Kr_int, Kr_bool, Kr_void, List.length_cons, List.length_nil, List.replicate, List.append_nil, List.cons_append, List.nil_append, List.take_succ_cons, List.take_zero, List.drop_succ_cons, List.drop_zero, List.reverse_cons, List.reverse_nil, Option.map_some, Option.map_none, Option.toList_some, Option.toList_none, Nat.reduceAdd, Nat.reduceSub, Nat.reduceLT, Nat.reduceLeDiff, Nat.reduceEqDiff, ↓reduceIte, Nat.add_zero, Nat.zero_add, true_and, and_true, Nat.le_refl, reduceCtorEq, false_implies, true_implies, not_true_eq_false, not_false_eq_true, Int.reduceAdd, Int.reduceSub, Int.reduceMul, Int.reduceLE, Int.reduceLT, Int.reduceEq, Int.reduceNe, Int.reduceNeg, Int.reduceDiv, Int.reduceMod, Bool.false_eq_true, Int.le_refl, and_self, true_or, or_true, inR_l, fv0, fv1, fv2, fv3, nc2, nc4, nc6, nc16, nc25, nc60, nc65, nc80, nc130, nc384, nc390, fp_0_0, fp_0_1, fp_0_2, fp_1_0, fp_1_1, fp_1_2, fp_1_3, fp_1_4, fp_1_5, fp_1_6, fp_1_7, fp_1_8, fp_1_9, fp_1_10, fp_1_11, fp_1_12, fp_1_13, fp_1_14, fp_2_0, fp_2_1, fp_2_2, fp_2_3, fp_3_0, fp_3_1, fp_4_0, fp_4_1, fp_4_2, fp_4_3, fp_4_4, fp_4_5, fp_4_6, fp_4_7, fp_5_0, fp_5_1, fp_5_2, fp_5_3, fp_5_4, fp_5_5, fp_5_6, fp_5_7, fp_6_0, fp_6_1, fp_6_2, fp_6_3, fp_6_4, fp_6_5, fp_6_6, fp_6_7, fp_6_8, fp_6_9, fp_6_10, fp_6_11, fp_6_12, fp_6_13, fp_6_14, fp_6_15, fp_7_0, fp_7_1, fp_7_2, fp_7_3, fp_7_4, fp_7_5, fp_7_6, fp_7_7, fp_7_8, fp_7_9, fp_7_10, fp_7_11, fp_7_12, fp_7_13, fp_7_14, fp_7_15, fp_7_16, fp_7_17, fp_7_18, fp_7_19, fp_7_20, fp_7_21, fp_7_22, fp_7_23, fp_7_24, iz_0_1, iz_0_2, iz_1_8, iz_1_9, iz_1_11, iz_2_1, iz_2_2, iz_2_3, iz_3_1, iz_4_1, iz_4_2, iz_5_0, iz_6_8, iz_6_9, iz_6_13, iz_6_14, iz_6_15, iz_7_2, iz_7_6, iz_7_12, iz_7_20, iz_7_21, iz_7_23, iz_7_24, ak_8, ak_9, ak_10, ak_11, ak_12, ak_13, ak_14, ak_15, ak_16, ak_17, ak_18, ak_19, ak_20, ak_21, ak_22, ak_23, ak_24, ak_25, ak_26, ak_27, ak_28, ak_29, ak_30, ak_31, ak_32, ak_33, ak_34, ak_35, ak_36, ak_37, ak_38, ak_39, ak_40, ak_41, ak_42, ak_43, ak_44, ak_45, ak_46, ak_47, ak_48, ak_49, ak_50, ak_51, ak_52, ak_53, ak_54, ak_55, ak_56, el31, el33, el34, CX7_job, ca_X7_job, frX7, kcX7, klX7, T_X7_in2, T_X7_keep2, T_X7_addJob, xT_up, xL_20, xL_21]
      obtain ⟨⟨p, q⟩, h1, h2, h3⟩ := h
      have j0 := p.1.1.1
      have j4 := p.1.1.2
      refine ⟨fun a => ⟨fun b => ⟨fun c => ⟨q, fun σ1 hK => ?_⟩, fun c => h2 ⟨a, b⟩ (by omega)⟩, fun b => h1 (fun z => b z.2)⟩, fun a => h1 (fun z => a z.1)⟩
      have e : σ1 38 0 0 = σ 38 0 0 := by rw [KEE_w hK]
      rw [e]
      have e2 : up (up (up (up σ1 38 0 0 (σ 38 0 0 + 1)) 38 0 (1 + 3 * σ 38 0 0) r) 38 0 (1 + 3 * σ 38 0 0 + 1) d) 38 0 (1 + 3 * σ 38 0 0 + 2) 0 38 0 0 = σ 38 0 0 + 1 := by
        rw [up_ap, if_neg (by rintro ⟨-, -, z⟩; omega), up_ap, if_neg (by rintro ⟨-, -, z⟩; omega), up_ap, if_neg (by rintro ⟨-, -, z⟩; omega), up_ap, if_pos ⟨rfl, rfl, rfl⟩]
      rw [e2, show σ 38 0 0 + 1 - 1 = σ 38 0 0 by omega]
      exact ⟨by omega, by simp only [inR]; omega, h3 ⟨a, b⟩ (by omega) σ1 _ hK rfl⟩
    · exact h.elim
def ca_X7_operation : Nat → Option (Nat × Nat × Tr)
  | 65 => some (2, 7, T_X7_isJob2)
  | 87 => some (3, 99, T_X7_in2)
  | 80 => some (3, 7, T_X7_operationOn)
  | 91 => some (1, 7, T_X7_keep2)
  | 98 => some (4, 7, T_X7_addOperation)
  | _ => none
theorem cao_X7_operation (l : Launch) : ∀ k n' ci T', ca_X7_operation k = some (n', ci, T') → ∃ nn, nn + 1 ≤ 2 ∧ Site l yX7_operation.cls k n' ci nn T' := by
  intro k n' ci T' h
  unfold ca_X7_operation at h
  split at h
  · cases h; exact ⟨0, by decide, _, _, _, _, k_X7_isJob2 l, Or.inl ⟨_, rfl, FX7_isJob, KRX7_65⟩⟩
  · cases h; exact ⟨0, by decide, _, _, _, _, k_X7_in2 l, Or.inr ⟨rfl, FX7_in, Or.inl ⟨rfl, KRX7_87⟩⟩⟩
  · cases h; exact ⟨1, by decide, _, _, _, _, k_X7_operationOn l, Or.inl ⟨_, rfl, FX7_operationOn, KRX7_80⟩⟩
  · cases h; exact ⟨0, by decide, _, _, _, _, k_X7_keep2 l, Or.inl ⟨_, rfl, FX7_keep, KRX7_91⟩⟩
  · cases h; exact ⟨1, by decide, _, _, _, _, k_X7_addOperation l, Or.inl ⟨_, rfl, FX7_addOperation, KRX7_98⟩⟩
  · cases h
def T_X7_operation : Tr := fun a σ K => match a with
  | [.inr (.inl (7, 0)), .inl j, .inl m, .inl d] => (rWF σ ∧ pmB σ) ∧ (¬ (0 ≤ j ∧ j < σ 38 0 0) → K (some (-1)) σ) ∧ (0 ≤ j ∧ j < σ 38 0 0 → ¬ ((0 ≤ m ∧ m ≤ 3) ∧ (1 ≤ d ∧ d ≤ 20)) → K (some (-2)) σ) ∧ (0 ≤ j ∧ j < σ 38 0 0 → (0 ≤ m ∧ m ≤ 3) ∧ (1 ≤ d ∧ d ≤ 20) → (∃ s, 0 ≤ s ∧ s < rSt σ j ∧ rMc σ (4 * j + s) = m) → K (some (-5)) σ) ∧ (0 ≤ j ∧ j < σ 38 0 0 → (0 ≤ m ∧ m ≤ 3) ∧ (1 ≤ d ∧ d ≤ 20) → (∀ s, 0 ≤ s → s < rSt σ j → rMc σ (4 * j + s) ≠ m) → ∀ σ1 σ2, KEE σ σ1 → FrG (fun t a _ => t = 38 ∧ a = 0) σ1 σ2 → (∀ x, σ2 38 0 x = if x = 13 + 2 * (4 * j + rSt σ j) then m else if x = 14 + 2 * (4 * j + rSt σ j) then d else if x = 1 + 3 * j + 2 then rSt σ j + 1 else if x = 45 + m then rLn σ m + 1 else if x = 49 + 4 * m + rLn σ m then j else σ 38 0 x) → K (some (4 * j + rSt σ j)) σ2)
  | _ => False
set_option maxHeartbeats 4000000 in
set_option maxRecDepth 20000 in
theorem k_X7_operation (l : Launch) : Ct l yX7_operation cX7_operation 4 (some .int) 2 T_X7_operation := by
  refine mk_met (by decide +kernel) hCX7_operation lCX7_operation frX7_ok cstX7_ok (cao_X7_operation l) ?_ ?_
  · intro a σ K h
    unfold T_X7_operation at h
    split at h
    · simp [eL]
    · exact h.elim
  · intro a σ K ha hR h
    unfold T_X7_operation at h
    split at h
    · rename_i j m d
      refine ⟨fun _ => none, 200, fun pc I L S σ' k h => (by cases h), ?_⟩
      simp only [wp, stp, drp, entL, eL, lget, lset, okst, cnd, swt, rcv, Kr_int, Kr_bool, Kr_void, List.length_cons, List.length_nil, List.replicate, List.append_nil, List.cons_append, List.nil_append, List.take_succ_cons, List.take_zero, List.drop_succ_cons, List.drop_zero, List.reverse_cons, List.reverse_nil, Option.map_some, Option.map_none, Option.toList_some, Option.toList_none, Nat.reduceAdd, Nat.reduceSub, Nat.reduceLT, Nat.reduceLeDiff, Nat.reduceEqDiff, ↓reduceIte, Nat.add_zero, Nat.zero_add, true_and, and_true, Nat.le_refl, reduceCtorEq, false_implies, true_implies, not_true_eq_false, not_false_eq_true, Int.reduceAdd, Int.reduceSub, Int.reduceMul, Int.reduceLE, Int.reduceLT, Int.reduceEq, Int.reduceNe, Int.reduceNeg, Int.reduceDiv, Int.reduceMod, Bool.false_eq_true, Int.le_refl, and_self, true_or, or_true, inR_l, fv0, fv1, fv2, fv3, nc2, nc4, nc6, nc16, nc25, nc60, nc65, nc80, nc130, nc384, nc390, fp_0_0, fp_0_1, fp_0_2, fp_1_0, fp_1_1, fp_1_2, fp_1_3, fp_1_4, fp_1_5, fp_1_6, fp_1_7, fp_1_8, fp_1_9, fp_1_10, fp_1_11, fp_1_12, fp_1_13, fp_1_14, fp_2_0, fp_2_1, fp_2_2, fp_2_3, fp_3_0, fp_3_1, fp_4_0, fp_4_1, fp_4_2, fp_4_3, fp_4_4, fp_4_5, fp_4_6, fp_4_7, fp_5_0, fp_5_1, fp_5_2, fp_5_3, fp_5_4, fp_5_5, fp_5_6, fp_5_7, fp_6_0, fp_6_1, fp_6_2, fp_6_3, fp_6_4, fp_6_5, fp_6_6, fp_6_7, fp_6_8, fp_6_9, fp_6_10, fp_6_11, fp_6_12, fp_6_13, fp_6_14, fp_6_15, fp_7_0, fp_7_1, fp_7_2, fp_7_3, fp_7_4, fp_7_5, fp_7_6, fp_7_7, fp_7_8, fp_7_9, fp_7_10, fp_7_11, fp_7_12, fp_7_13, fp_7_14, fp_7_15, fp_7_16, fp_7_17, fp_7_18, fp_7_19, fp_7_20, fp_7_21, fp_7_22, fp_7_23, fp_7_24, iz_0_1, iz_0_2, iz_1_8, iz_1_9, iz_1_11, iz_2_1, iz_2_2, iz_2_3, iz_3_1, iz_4_1, iz_4_2, iz_5_0, iz_6_8, iz_6_9, iz_6_13, iz_6_14, iz_6_15, iz_7_2, iz_7_6, iz_7_12, iz_7_20, iz_7_21, iz_7_23, iz_7_24, ak_8, ak_9, ak_10, ak_11, ak_12, ak_13, ak_14, ak_15, ak_16, ak_17, ak_18, ak_19, ak_20, ak_21, ak_22, ak_23, ak_24, ak_25, ak_26, ak_27, ak_28, ak_29, ak_30, ak_31, ak_32, ak_33, ak_34, ak_35, ak_36, ak_37, ak_38, ak_39, ak_40, ak_41, ak_42, ak_43, ak_44, ak_45, ak_46, ak_47, ak_48, ak_49, ak_50, ak_51, ak_52, ak_53, ak_54, ak_55, ak_56, el31, el33, el34, CX7_operation, ca_X7_operation, frX7, kcX7, klX7, T_X7_isJob2, T_X7_in2, T_X7_operationOn, T_X7_keep2, T_X7_addOperation, xT_up, xL_20, xL_21]
      obtain ⟨⟨p, q⟩, h1, h2, h3, h4⟩ := h
      have j4 := p.1.1.2
      refine ⟨fun a => ⟨fun b => ⟨fun c => ?_, fun c => h2 a (fun z => c z.2)⟩, fun b => h2 a (fun z => b z.1)⟩, h1⟩
      have l := rSt_r p a.1 (by omega)
      have ne := opF_ne (f := fun k => σ 38 0 (13 + 2 * k)) (n := rSt σ j) (j := j) (m := m) a.1 l.2
      refine ⟨⟨a.1, by omega, l.2⟩, fun d => ⟨q, fun σ1 hK => ?_⟩, fun d => h3 a ⟨b, c⟩ (ne.1 (fun z => d ?_))⟩
      · have d' : opF (fun k => σ 38 0 (13 + 2 * k)) (rSt σ j) j m = -6 := Classical.byContradiction fun z => by
          obtain ⟨s, s0, s1, e⟩ := ne.1 z
          have := opF_is (f := fun k => σ 38 0 (13 + 2 * k)) s0 s1 l.2 e
          have d0 : opF (fun k => σ 38 0 (13 + 2 * k)) (rSt σ j) j m < 0 := d
          omega
        have hn := ne.2 d'
        have r := WF_room p.1 a.1 a.2 b.1 (by omega) hn
        have e := KEE_w hK
        have eS : σ1 38 0 (1 + 3 * j + 2) = rSt σ j := by rw [e]; rfl
        have eL : σ1 38 0 (45 + m) = rLn σ m := by rw [e]; rfl
        rw [eS, eL, e]
        exact ⟨⟨a.1, by omega, b.1, by omega, r.2.2.1, r.1, r.2.2.2.1, r.2.1⟩, fun σ2 f1 f2 => h4 a ⟨b, c⟩ hn σ1 σ2 hK f1 f2⟩
      · have : opF (fun k => σ 38 0 (13 + 2 * k)) (σ 38 0 (1 + 3 * j + 2)) j m = -6 := z
        omega
    · exact h.elim
def ca_X7_change : Nat → Option (Nat × Nat × Tr)
  | 102 => some (2, 7, T_X7_isOperation2)
  | 87 => some (3, 99, T_X7_in2)
  | 91 => some (1, 7, T_X7_keep2)
  | 105 => some (2, 7, T_X7_lasts)
  | _ => none
theorem cao_X7_change (l : Launch) : ∀ k n' ci T', ca_X7_change k = some (n', ci, T') → ∃ nn, nn + 1 ≤ 2 ∧ Site l yX7_change.cls k n' ci nn T' := by
  intro k n' ci T' h
  unfold ca_X7_change at h
  split at h
  · cases h; exact ⟨1, by decide, _, _, _, _, k_X7_isOperation2 l, Or.inl ⟨_, rfl, FX7_isOperation, KRX7_102⟩⟩
  · cases h; exact ⟨0, by decide, _, _, _, _, k_X7_in2 l, Or.inr ⟨rfl, FX7_in, Or.inl ⟨rfl, KRX7_87⟩⟩⟩
  · cases h; exact ⟨0, by decide, _, _, _, _, k_X7_keep2 l, Or.inl ⟨_, rfl, FX7_keep, KRX7_91⟩⟩
  · cases h; exact ⟨0, by decide, _, _, _, _, k_X7_lasts l, Or.inl ⟨_, rfl, FX7_lasts, KRX7_105⟩⟩
  · cases h
def T_X7_change : Tr := fun a σ K => match a with
  | [.inr (.inl (7, 0)), .inl x, .inl d] => (rWF σ ∧ pmB σ) ∧ (¬ rOp σ x → K (some (-1)) σ) ∧ (rOp σ x → ¬ (1 ≤ d ∧ d ≤ 20) → K (some (-2)) σ) ∧ (rOp σ x → 1 ≤ d ∧ d ≤ 20 → ∀ σ1, KEE σ σ1 → K (some (rDu σ x)) (up σ1 38 0 (14 + 2 * x) d))
  | _ => False
set_option maxHeartbeats 4000000 in
set_option maxRecDepth 20000 in
theorem k_X7_change (l : Launch) : Ct l yX7_change cX7_change 4 (some .int) 2 T_X7_change := by
  refine mk_met (by decide +kernel) hCX7_change lCX7_change frX7_ok cstX7_ok (cao_X7_change l) ?_ ?_
  · intro a σ K h
    unfold T_X7_change at h
    split at h
    · simp [eL]
    · exact h.elim
  · intro a σ K ha hR h
    unfold T_X7_change at h
    split at h
    · rename_i x d
      refine ⟨fun _ => none, 200, fun pc I L S σ' k h => (by cases h), ?_⟩
      simp only [wp, stp, drp, entL, eL, lget, lset, okst, cnd, swt, rcv, Kr_int, Kr_bool, Kr_void, List.length_cons, List.length_nil, List.replicate, List.append_nil, List.cons_append, List.nil_append, List.take_succ_cons, List.take_zero, List.drop_succ_cons, List.drop_zero, List.reverse_cons, List.reverse_nil, Option.map_some, Option.map_none, Option.toList_some, Option.toList_none, Nat.reduceAdd, Nat.reduceSub, Nat.reduceLT, Nat.reduceLeDiff, Nat.reduceEqDiff, ↓reduceIte, Nat.add_zero, Nat.zero_add, true_and, and_true, Nat.le_refl, reduceCtorEq, false_implies, true_implies, not_true_eq_false, not_false_eq_true, Int.reduceAdd, Int.reduceSub, Int.reduceMul, Int.reduceLE, Int.reduceLT, Int.reduceEq, Int.reduceNe, Int.reduceNeg, Int.reduceDiv, Int.reduceMod, Bool.false_eq_true, Int.le_refl, and_self, true_or, or_true, inR_l, fv0, fv1, fv2, fv3, nc2, nc4, nc6, nc16, nc25, nc60, nc65, nc80, nc130, nc384, nc390, fp_0_0, fp_0_1, fp_0_2, fp_1_0, fp_1_1, fp_1_2, fp_1_3, fp_1_4, fp_1_5, fp_1_6, fp_1_7, fp_1_8, fp_1_9, fp_1_10, fp_1_11, fp_1_12, fp_1_13, fp_1_14, fp_2_0, fp_2_1, fp_2_2, fp_2_3, fp_3_0, fp_3_1, fp_4_0, fp_4_1, fp_4_2, fp_4_3, fp_4_4, fp_4_5, fp_4_6, fp_4_7, fp_5_0, fp_5_1, fp_5_2, fp_5_3, fp_5_4, fp_5_5, fp_5_6, fp_5_7, fp_6_0, fp_6_1, fp_6_2, fp_6_3, fp_6_4, fp_6_5, fp_6_6, fp_6_7, fp_6_8, fp_6_9, fp_6_10, fp_6_11, fp_6_12, fp_6_13, fp_6_14, fp_6_15, fp_7_0, fp_7_1, fp_7_2, fp_7_3, fp_7_4, fp_7_5, fp_7_6, fp_7_7, fp_7_8, fp_7_9, fp_7_10, fp_7_11, fp_7_12, fp_7_13, fp_7_14, fp_7_15, fp_7_16, fp_7_17, fp_7_18, fp_7_19, fp_7_20, fp_7_21, fp_7_22, fp_7_23, fp_7_24, iz_0_1, iz_0_2, iz_1_8, iz_1_9, iz_1_11, iz_2_1, iz_2_2, iz_2_3, iz_3_1, iz_4_1, iz_4_2, iz_5_0, iz_6_8, iz_6_9, iz_6_13, iz_6_14, iz_6_15, iz_7_2, iz_7_6, iz_7_12, iz_7_20, iz_7_21, iz_7_23, iz_7_24, ak_8, ak_9, ak_10, ak_11, ak_12, ak_13, ak_14, ak_15, ak_16, ak_17, ak_18, ak_19, ak_20, ak_21, ak_22, ak_23, ak_24, ak_25, ak_26, ak_27, ak_28, ak_29, ak_30, ak_31, ak_32, ak_33, ak_34, ak_35, ak_36, ak_37, ak_38, ak_39, ak_40, ak_41, ak_42, ak_43, ak_44, ak_45, ak_46, ak_47, ak_48, ak_49, ak_50, ak_51, ak_52, ak_53, ak_54, ak_55, ak_56, el31, el33, el34, CX7_change, ca_X7_change, frX7, kcX7, klX7, T_X7_isOperation2, T_X7_in2, T_X7_keep2, T_X7_lasts, xT_up, xL_20, xL_21]
      obtain ⟨⟨p, q⟩, h1, h2, h3⟩ := h
      refine ⟨p, fun v => ⟨fun b => ⟨q, fun σ1 hK => ?_⟩, h2 v⟩, h1⟩
      have v0 := v.1
      have v1 := v.2.1
      have e : σ1 38 0 (14 + 2 * x) = rDu σ x := by rw [KEE_w hK]; rfl
      rw [e, show 13 + 2 * x + 1 = 14 + 2 * x by omega]
      exact ⟨⟨v0, v1⟩, by simp only [inR]; omega, by simp only [inR]; omega, by simp only [inR]; omega, by omega, h3 v b σ1 hK⟩
    · exact h.elim
def ca_X7_swap : Nat → Option (Nat × Nat × Tr)
  | 87 => some (3, 99, T_X7_in2)
  | 91 => some (1, 7, T_X7_keep2)
  | 162 => some (3, 7, T_X7_exchange)
  | 139 => some (1, 7, T_X7_find)
  | _ => none
theorem cao_X7_swap (l : Launch) : ∀ k n' ci T', ca_X7_swap k = some (n', ci, T') → ∃ nn, nn + 1 ≤ 5 ∧ Site l yX7_swap.cls k n' ci nn T' := by
  intro k n' ci T' h
  unfold ca_X7_swap at h
  split at h
  · cases h; exact ⟨0, by decide, _, _, _, _, k_X7_in2 l, Or.inr ⟨rfl, FX7_in, Or.inl ⟨rfl, KRX7_87⟩⟩⟩
  · cases h; exact ⟨0, by decide, _, _, _, _, k_X7_keep2 l, Or.inl ⟨_, rfl, FX7_keep, KRX7_91⟩⟩
  · cases h; exact ⟨0, by decide, _, _, _, _, k_X7_exchange l, Or.inl ⟨_, rfl, FX7_exchange, KRX7_162⟩⟩
  · cases h; exact ⟨4, by decide, _, _, _, _, k_X7_find l, Or.inl ⟨_, rfl, FX7_find, KRX7_139⟩⟩
  · cases h
def T_X7_swap : Tr := fun a σ K => match a with
  | [.inr (.inl (7, 0)), .inl m, .inl x] => (rWF σ ∧ pmB σ) ∧ (¬ (0 ≤ m ∧ m ≤ 3) → K (some (-2)) σ) ∧ (0 ≤ m ∧ m ≤ 3 → ¬ (0 ≤ x ∧ x < rLn σ m - 1) → K (some (-1)) σ) ∧ (0 ≤ m ∧ m ≤ 3 → 0 ≤ x ∧ x < rLn σ m - 1 → ∀ σ1 σ2, KEE σ σ1 → σ2 = up (up σ1 38 0 (49 + 4 * m + x) (σ1 38 0 (49 + 4 * m + x + 1))) 38 0 (49 + 4 * m + x + 1) (σ1 38 0 (49 + 4 * m + x)) → rWF σ2 → (∀ σ3, Fnd σ2 σ3 → K (some 1) σ3) ∧ (∀ σ3, FrG pFd σ2 σ3 → (∀ h, ¬ rH σ2 h) → K (some 0) σ3))
  | _ => False
set_option maxHeartbeats 4000000 in
set_option maxRecDepth 20000 in
theorem k_X7_swap (l : Launch) : Ct l yX7_swap cX7_swap 3 (some .int) 5 T_X7_swap := by
  refine mk_met (by decide +kernel) hCX7_swap lCX7_swap frX7_ok cstX7_ok (cao_X7_swap l) ?_ ?_
  · intro a σ K h
    unfold T_X7_swap at h
    split at h
    · simp [eL]
    · exact h.elim
  · intro a σ K ha hR h
    unfold T_X7_swap at h
    split at h
    · rename_i m x
      refine ⟨fun _ => none, 200, fun pc I L S σ' k h => (by cases h), ?_⟩
      simp only [wp, stp, drp, entL, eL, lget, lset, okst, cnd, swt, rcv, Kr_int, Kr_bool, Kr_void, List.length_cons, List.length_nil, List.replicate, List.append_nil, List.cons_append, List.nil_append, List.take_succ_cons, List.take_zero, List.drop_succ_cons, List.drop_zero, List.reverse_cons, List.reverse_nil, Option.map_some, Option.map_none, Option.toList_some, Option.toList_none, Nat.reduceAdd, Nat.reduceSub, Nat.reduceLT, Nat.reduceLeDiff, Nat.reduceEqDiff, ↓reduceIte, Nat.add_zero, Nat.zero_add, true_and, and_true, Nat.le_refl, reduceCtorEq, false_implies, true_implies, not_true_eq_false, not_false_eq_true, Int.reduceAdd, Int.reduceSub, Int.reduceMul, Int.reduceLE, Int.reduceLT, Int.reduceEq, Int.reduceNe, Int.reduceNeg, Int.reduceDiv, Int.reduceMod, Bool.false_eq_true, Int.le_refl, and_self, true_or, or_true, inR_l, fv0, fv1, fv2, fv3, nc2, nc4, nc6, nc16, nc25, nc60, nc65, nc80, nc130, nc384, nc390, fp_0_0, fp_0_1, fp_0_2, fp_1_0, fp_1_1, fp_1_2, fp_1_3, fp_1_4, fp_1_5, fp_1_6, fp_1_7, fp_1_8, fp_1_9, fp_1_10, fp_1_11, fp_1_12, fp_1_13, fp_1_14, fp_2_0, fp_2_1, fp_2_2, fp_2_3, fp_3_0, fp_3_1, fp_4_0, fp_4_1, fp_4_2, fp_4_3, fp_4_4, fp_4_5, fp_4_6, fp_4_7, fp_5_0, fp_5_1, fp_5_2, fp_5_3, fp_5_4, fp_5_5, fp_5_6, fp_5_7, fp_6_0, fp_6_1, fp_6_2, fp_6_3, fp_6_4, fp_6_5, fp_6_6, fp_6_7, fp_6_8, fp_6_9, fp_6_10, fp_6_11, fp_6_12, fp_6_13, fp_6_14, fp_6_15, fp_7_0, fp_7_1, fp_7_2, fp_7_3, fp_7_4, fp_7_5, fp_7_6, fp_7_7, fp_7_8, fp_7_9, fp_7_10, fp_7_11, fp_7_12, fp_7_13, fp_7_14, fp_7_15, fp_7_16, fp_7_17, fp_7_18, fp_7_19, fp_7_20, fp_7_21, fp_7_22, fp_7_23, fp_7_24, iz_0_1, iz_0_2, iz_1_8, iz_1_9, iz_1_11, iz_2_1, iz_2_2, iz_2_3, iz_3_1, iz_4_1, iz_4_2, iz_5_0, iz_6_8, iz_6_9, iz_6_13, iz_6_14, iz_6_15, iz_7_2, iz_7_6, iz_7_12, iz_7_20, iz_7_21, iz_7_23, iz_7_24, ak_8, ak_9, ak_10, ak_11, ak_12, ak_13, ak_14, ak_15, ak_16, ak_17, ak_18, ak_19, ak_20, ak_21, ak_22, ak_23, ak_24, ak_25, ak_26, ak_27, ak_28, ak_29, ak_30, ak_31, ak_32, ak_33, ak_34, ak_35, ak_36, ak_37, ak_38, ak_39, ak_40, ak_41, ak_42, ak_43, ak_44, ak_45, ak_46, ak_47, ak_48, ak_49, ak_50, ak_51, ak_52, ak_53, ak_54, ak_55, ak_56, el31, el33, el34, CX7_swap, ca_X7_swap, frX7, kcX7, klX7, T_X7_in2, T_X7_keep2, T_X7_exchange, T_X7_find, xT_up, xL_20, xL_21]
      obtain ⟨⟨p, q⟩, h1, h2, h3⟩ := h
      have eL : rLn σ m = σ 38 0 (45 + m) := rfl
      refine ⟨fun a => ⟨fun b => h2 a (by omega), fun b => ?_⟩, h1⟩
      have l := rW_l p m a.1 (by omega)
      refine ⟨by simp only [inR]; omega, by omega, by simp only [inR]; omega, fun c => ⟨q, fun σ1 hK => ?_⟩, fun c => h2 a (by omega)⟩
      have w1 := KEE_r p hK
      have e1 : rLn σ1 m = rLn σ m := by
        unfold rLn
        rw [KEE_w hK]
      have ex := rWF_ex w1 a.1 (show m < 4 by omega) (show 0 ≤ x by omega) (by rw [e1]; omega) rfl
      have r := h3 a ⟨by omega, by omega⟩ σ1 _ hK rfl ex.1
      exact ⟨by omega, ex.1, r.1, r.2⟩
    · exact h.elim
def ca_X7_undo : Nat → Option (Nat × Nat × Tr) := fun _ => none
theorem cao_X7_undo (l : Launch) : ∀ k n' ci T', ca_X7_undo k = some (n', ci, T') → ∃ nn, nn + 1 ≤ 0 ∧ Site l yX7_undo.cls k n' ci nn T' := by
  intro k n' ci T' h
  cases h
def T_X7_undo : Tr := fun a σ K => match a with
  | [.inr (.inl (7, 0))] => pmB σ ∧ (σ 7 0 2 = 0 → K (some (-5)) σ) ∧ (0 < σ 7 0 2 → ∀ σ1, CpR (up σ 7 0 2 (σ 7 0 2 - 1)) σ1 38 0 65 (fun x => σ 39 0 (65 * (σ 7 0 2 - 1) + x)) 65 → K (some (σ 7 0 2 - 1)) σ1)
  | _ => False
set_option maxHeartbeats 8000000 in
set_option maxRecDepth 20000 in
theorem k_X7_undo (l : Launch) : Ct l yX7_undo cX7_undo 2 (some .int) 0 T_X7_undo := by
  refine mk_met (by decide +kernel) hCX7_undo lCX7_undo frX7_ok cstX7_ok (cao_X7_undo l) ?_ ?_
  · intro a σ K h
    unfold T_X7_undo at h
    split at h
    · simp [eL]
    · exact h.elim
  · intro a σ K ha hR h
    unfold T_X7_undo at h
    split at h
    · refine ⟨fun pc => if pc = 22 then some (fun L S σ' k => match L, S with | [some (.inr (.inl c1)), some (.inl k')], [] => (c1 = (7, 0) ∧ 0 < σ 7 0 2 ∧ CpR (up σ 7 0 2 (σ 7 0 2 - 1)) σ' 38 0 65 (fun x => σ 39 0 (65 * (σ 7 0 2 - 1) + x)) k') ∧ k = (100 - k').toNat | _, _ => False) else none, 200, ?_, ?_⟩
      · intro pc I L S σ' k hcut hi
        dsimp only at hcut
        split at hcut
        · rename_i hpc
          subst hpc
          cases hcut
          try dsimp only at hi
          split at hi
          · rename_i c1 k'
            obtain ⟨hi, rfl⟩ := hi
            obtain ⟨rfl, h0, hI⟩ := hi
            obtain ⟨p, h1, h2⟩ := h
            simp only [wp, stp, drp, entL, eL, lget, lset, okst, cnd, swt, rcv, Kr_int, Kr_bool, Kr_void, List.length_cons, List.length_nil, List.replicate, List.append_nil, List.cons_append, List.nil_append, List.take_succ_cons, List.take_zero, List.drop_succ_cons, List.drop_zero, List.reverse_cons, List.reverse_nil, Option.map_some, Option.map_none, Option.toList_some, Option.toList_none, Nat.reduceAdd, Nat.reduceSub, Nat.reduceLT, Nat.reduceLeDiff, Nat.reduceEqDiff, ↓reduceIte, Nat.add_zero, Nat.zero_add, true_and, and_true, Nat.le_refl, reduceCtorEq, false_implies, true_implies, not_true_eq_false, not_false_eq_true, Int.reduceAdd, Int.reduceSub, Int.reduceMul, Int.reduceLE, Int.reduceLT, Int.reduceEq, Int.reduceNe, Int.reduceNeg, Int.reduceDiv, Int.reduceMod, Bool.false_eq_true, Int.le_refl, and_self, true_or, or_true, inR_l, fv0, fv1, fv2, fv3, nc2, nc4, nc6, nc16, nc25, nc60, nc65, nc80, nc130, nc384, nc390, fp_0_0, fp_0_1, fp_0_2, fp_1_0, fp_1_1, fp_1_2, fp_1_3, fp_1_4, fp_1_5, fp_1_6, fp_1_7, fp_1_8, fp_1_9, fp_1_10, fp_1_11, fp_1_12, fp_1_13, fp_1_14, fp_2_0, fp_2_1, fp_2_2, fp_2_3, fp_3_0, fp_3_1, fp_4_0, fp_4_1, fp_4_2, fp_4_3, fp_4_4, fp_4_5, fp_4_6, fp_4_7, fp_5_0, fp_5_1, fp_5_2, fp_5_3, fp_5_4, fp_5_5, fp_5_6, fp_5_7, fp_6_0, fp_6_1, fp_6_2, fp_6_3, fp_6_4, fp_6_5, fp_6_6, fp_6_7, fp_6_8, fp_6_9, fp_6_10, fp_6_11, fp_6_12, fp_6_13, fp_6_14, fp_6_15, fp_7_0, fp_7_1, fp_7_2, fp_7_3, fp_7_4, fp_7_5, fp_7_6, fp_7_7, fp_7_8, fp_7_9, fp_7_10, fp_7_11, fp_7_12, fp_7_13, fp_7_14, fp_7_15, fp_7_16, fp_7_17, fp_7_18, fp_7_19, fp_7_20, fp_7_21, fp_7_22, fp_7_23, fp_7_24, iz_0_1, iz_0_2, iz_1_8, iz_1_9, iz_1_11, iz_2_1, iz_2_2, iz_2_3, iz_3_1, iz_4_1, iz_4_2, iz_5_0, iz_6_8, iz_6_9, iz_6_13, iz_6_14, iz_6_15, iz_7_2, iz_7_6, iz_7_12, iz_7_20, iz_7_21, iz_7_23, iz_7_24, ak_8, ak_9, ak_10, ak_11, ak_12, ak_13, ak_14, ak_15, ak_16, ak_17, ak_18, ak_19, ak_20, ak_21, ak_22, ak_23, ak_24, ak_25, ak_26, ak_27, ak_28, ak_29, ak_30, ak_31, ak_32, ak_33, ak_34, ak_35, ak_36, ak_37, ak_38, ak_39, ak_40, ak_41, ak_42, ak_43, ak_44, ak_45, ak_46, ak_47, ak_48, ak_49, ak_50, ak_51, ak_52, ak_53, ak_54, ak_55, ak_56, el31, el33, el34, CX7_undo, ca_X7_undo, frX7, kcX7, klX7, xT_up, xL_20, xL_21, exists_eq_right_right, exists_eq_right, exists_eq_left, Nat.lt_irrefl, and_self, implies_true, forall_const]
            have e7 : σ' 7 0 2 = σ 7 0 2 - 1 := by
              rw [hI.1 7 0 2 (by rintro ⟨q, -⟩; omega), up_ap, if_pos ⟨rfl, rfl, rfl⟩]
            have k0 := hI.2.1
            have k1 := hI.2.2.1
            have p0 := p.1
            have p1 := p.2
            rw [e7]
            refine ⟨fun c => h2 h0 σ' (by rw [show (65 : Int) = k' by omega] at hI ⊢; exact hI), fun c => ⟨by simp only [inR]; omega, by simp only [inR]; omega, by omega, by omega, by simp only [inR]; omega, by omega, h0, CpR_s hI (by omega) (by omega) ?_⟩⟩
            rw [hI.1 39 0 _ (by rintro ⟨q, -⟩; omega), up_ap, if_neg (by rintro ⟨q, -⟩; omega)]
          · exact hi.elim
        · cases hcut
      · simp only [wp, stp, drp, entL, eL, lget, lset, okst, cnd, swt, rcv, Kr_int, Kr_bool, Kr_void, List.length_cons, List.length_nil, List.replicate, List.append_nil, List.cons_append, List.nil_append, List.take_succ_cons, List.take_zero, List.drop_succ_cons, List.drop_zero, List.reverse_cons, List.reverse_nil, Option.map_some, Option.map_none, Option.toList_some, Option.toList_none, Nat.reduceAdd, Nat.reduceSub, Nat.reduceLT, Nat.reduceLeDiff, Nat.reduceEqDiff, ↓reduceIte, Nat.add_zero, Nat.zero_add, true_and, and_true, Nat.le_refl, reduceCtorEq, false_implies, true_implies, not_true_eq_false, not_false_eq_true, Int.reduceAdd, Int.reduceSub, Int.reduceMul, Int.reduceLE, Int.reduceLT, Int.reduceEq, Int.reduceNe, Int.reduceNeg, Int.reduceDiv, Int.reduceMod, Bool.false_eq_true, Int.le_refl, and_self, true_or, or_true, inR_l, fv0, fv1, fv2, fv3, nc2, nc4, nc6, nc16, nc25, nc60, nc65, nc80, nc130, nc384, nc390, fp_0_0, fp_0_1, fp_0_2, fp_1_0, fp_1_1, fp_1_2, fp_1_3, fp_1_4, fp_1_5, fp_1_6, fp_1_7, fp_1_8, fp_1_9, fp_1_10, fp_1_11, fp_1_12, fp_1_13, fp_1_14, fp_2_0, fp_2_1, fp_2_2, fp_2_3, fp_3_0, fp_3_1, fp_4_0, fp_4_1, fp_4_2, fp_4_3, fp_4_4, fp_4_5, fp_4_6, fp_4_7, fp_5_0, fp_5_1, fp_5_2, fp_5_3, fp_5_4, fp_5_5, fp_5_6, fp_5_7, fp_6_0, fp_6_1, fp_6_2, fp_6_3, fp_6_4, fp_6_5, fp_6_6, fp_6_7, fp_6_8, fp_6_9, fp_6_10, fp_6_11, fp_6_12, fp_6_13, fp_6_14, fp_6_15, fp_7_0, fp_7_1, fp_7_2, fp_7_3, fp_7_4, fp_7_5, fp_7_6, fp_7_7, fp_7_8, fp_7_9, fp_7_10, fp_7_11, fp_7_12, fp_7_13, fp_7_14, fp_7_15, fp_7_16, fp_7_17, fp_7_18, fp_7_19, fp_7_20, fp_7_21, fp_7_22, fp_7_23, fp_7_24, iz_0_1, iz_0_2, iz_1_8, iz_1_9, iz_1_11, iz_2_1, iz_2_2, iz_2_3, iz_3_1, iz_4_1, iz_4_2, iz_5_0, iz_6_8, iz_6_9, iz_6_13, iz_6_14, iz_6_15, iz_7_2, iz_7_6, iz_7_12, iz_7_20, iz_7_21, iz_7_23, iz_7_24, ak_8, ak_9, ak_10, ak_11, ak_12, ak_13, ak_14, ak_15, ak_16, ak_17, ak_18, ak_19, ak_20, ak_21, ak_22, ak_23, ak_24, ak_25, ak_26, ak_27, ak_28, ak_29, ak_30, ak_31, ak_32, ak_33, ak_34, ak_35, ak_36, ak_37, ak_38, ak_39, ak_40, ak_41, ak_42, ak_43, ak_44, ak_45, ak_46, ak_47, ak_48, ak_49, ak_50, ak_51, ak_52, ak_53, ak_54, ak_55, ak_56, el31, el33, el34, CX7_undo, ca_X7_undo, frX7, kcX7, klX7, xT_up, xL_20, xL_21, exists_eq_right_right, exists_eq_right, exists_eq_left, Nat.lt_irrefl, and_self, implies_true, forall_const]
        obtain ⟨p, h1, h2⟩ := h
        have p0 := p.1
        have p1 := p.2
        exact ⟨fun a => ⟨by simp only [inR]; omega, by omega, CpR_0 (by omega)⟩, fun a => h1 (by omega)⟩
    · exact h.elim
def ca_X7_save : Nat → Option (Nat × Nat × Tr)
  | 87 => some (3, 99, T_X7_in2)
  | _ => none
theorem cao_X7_save (l : Launch) : ∀ k n' ci T', ca_X7_save k = some (n', ci, T') → ∃ nn, nn + 1 ≤ 1 ∧ Site l yX7_save.cls k n' ci nn T' := by
  intro k n' ci T' h
  unfold ca_X7_save at h
  split at h
  · cases h; exact ⟨0, by decide, _, _, _, _, k_X7_in2 l, Or.inr ⟨rfl, FX7_in, Or.inl ⟨rfl, KRX7_87⟩⟩⟩
  · cases h
def T_X7_save : Tr := fun a σ K => match a with
  | [.inr (.inl (7, 0)), .inl s] => rWF σ ∧ (¬ (0 ≤ s ∧ s ≤ 1) → K (some (-2)) σ) ∧ (0 ≤ s ∧ s ≤ 1 → ∀ σ1, CpR σ σ1 40 (65 * s) 65 (σ 38 0) 65 → K (some (σ 38 0 0)) (up σ1 41 0 s 1))
  | _ => False
set_option maxHeartbeats 8000000 in
set_option maxRecDepth 20000 in
theorem k_X7_save (l : Launch) : Ct l yX7_save cX7_save 3 (some .int) 1 T_X7_save := by
  refine mk_met (by decide +kernel) hCX7_save lCX7_save frX7_ok cstX7_ok (cao_X7_save l) ?_ ?_
  · intro a σ K h
    unfold T_X7_save at h
    split at h
    · simp [eL]
    · exact h.elim
  · intro a σ K ha hR h
    unfold T_X7_save at h
    split at h
    · rename_i s
      refine ⟨fun pc => if pc = 14 then some (fun L S σ' k => match L, S with | [some (.inr (.inl c1)), some (.inl s'), some (.inl k')], [] => (c1 = (7, 0) ∧ s' = s ∧ (0 ≤ s ∧ s ≤ 1) ∧ CpR σ σ' 40 (65 * s) 65 (σ 38 0) k') ∧ k = (100 - k').toNat | _, _ => False) else none, 200, ?_, ?_⟩
      · intro pc I L S σ' k hcut hi
        dsimp only at hcut
        split at hcut
        · rename_i hpc
          subst hpc
          cases hcut
          try dsimp only at hi
          split at hi
          · rename_i c1 s' k'
            obtain ⟨hi, rfl⟩ := hi
            obtain ⟨rfl, rfl, h0, hI⟩ := hi
            obtain ⟨p, h1, h2⟩ := h
            simp only [wp, stp, drp, entL, eL, lget, lset, okst, cnd, swt, rcv, Kr_int, Kr_bool, Kr_void, List.length_cons, List.length_nil, List.replicate, List.append_nil, List.cons_append, List.nil_append, List.take_succ_cons, List.take_zero, List.drop_succ_cons, List.drop_zero, List.reverse_cons, List.reverse_nil, Option.map_some, Option.map_none, Option.toList_some, Option.toList_none, Nat.reduceAdd, Nat.reduceSub, Nat.reduceLT, Nat.reduceLeDiff, Nat.reduceEqDiff, ↓reduceIte, Nat.add_zero, Nat.zero_add, true_and, and_true, Nat.le_refl, reduceCtorEq, false_implies, true_implies, not_true_eq_false, not_false_eq_true, Int.reduceAdd, Int.reduceSub, Int.reduceMul, Int.reduceLE, Int.reduceLT, Int.reduceEq, Int.reduceNe, Int.reduceNeg, Int.reduceDiv, Int.reduceMod, Bool.false_eq_true, Int.le_refl, and_self, true_or, or_true, inR_l, fv0, fv1, fv2, fv3, nc2, nc4, nc6, nc16, nc25, nc60, nc65, nc80, nc130, nc384, nc390, fp_0_0, fp_0_1, fp_0_2, fp_1_0, fp_1_1, fp_1_2, fp_1_3, fp_1_4, fp_1_5, fp_1_6, fp_1_7, fp_1_8, fp_1_9, fp_1_10, fp_1_11, fp_1_12, fp_1_13, fp_1_14, fp_2_0, fp_2_1, fp_2_2, fp_2_3, fp_3_0, fp_3_1, fp_4_0, fp_4_1, fp_4_2, fp_4_3, fp_4_4, fp_4_5, fp_4_6, fp_4_7, fp_5_0, fp_5_1, fp_5_2, fp_5_3, fp_5_4, fp_5_5, fp_5_6, fp_5_7, fp_6_0, fp_6_1, fp_6_2, fp_6_3, fp_6_4, fp_6_5, fp_6_6, fp_6_7, fp_6_8, fp_6_9, fp_6_10, fp_6_11, fp_6_12, fp_6_13, fp_6_14, fp_6_15, fp_7_0, fp_7_1, fp_7_2, fp_7_3, fp_7_4, fp_7_5, fp_7_6, fp_7_7, fp_7_8, fp_7_9, fp_7_10, fp_7_11, fp_7_12, fp_7_13, fp_7_14, fp_7_15, fp_7_16, fp_7_17, fp_7_18, fp_7_19, fp_7_20, fp_7_21, fp_7_22, fp_7_23, fp_7_24, iz_0_1, iz_0_2, iz_1_8, iz_1_9, iz_1_11, iz_2_1, iz_2_2, iz_2_3, iz_3_1, iz_4_1, iz_4_2, iz_5_0, iz_6_8, iz_6_9, iz_6_13, iz_6_14, iz_6_15, iz_7_2, iz_7_6, iz_7_12, iz_7_20, iz_7_21, iz_7_23, iz_7_24, ak_8, ak_9, ak_10, ak_11, ak_12, ak_13, ak_14, ak_15, ak_16, ak_17, ak_18, ak_19, ak_20, ak_21, ak_22, ak_23, ak_24, ak_25, ak_26, ak_27, ak_28, ak_29, ak_30, ak_31, ak_32, ak_33, ak_34, ak_35, ak_36, ak_37, ak_38, ak_39, ak_40, ak_41, ak_42, ak_43, ak_44, ak_45, ak_46, ak_47, ak_48, ak_49, ak_50, ak_51, ak_52, ak_53, ak_54, ak_55, ak_56, el31, el33, el34, CX7_save, ca_X7_save, frX7, kcX7, klX7, T_X7_in2, xT_up, xL_20, xL_21, exists_eq_right_right, exists_eq_right, exists_eq_left, Nat.lt_irrefl, and_self, implies_true, forall_const]
            have k0 := hI.2.1
            have k1 := hI.2.2.1
            refine ⟨fun c => ⟨by omega, ?_⟩, fun c => ⟨by simp only [inR]; omega, by simp only [inR]; omega, by omega, by omega, by simp only [inR]; omega, by omega, h0, CpR_s hI (by omega) rfl ?_⟩⟩
            · have e : up σ' 41 0 s' 1 38 0 0 = σ 38 0 0 := by
                rw [up_ap, if_neg (by rintro ⟨q, -⟩; omega), hI.1 38 0 0 (by rintro ⟨q, -⟩; omega)]
              rw [e]
              have ek : k' = 65 := by omega
              rw [ek] at hI
              exact h2 h0 σ' hI
            · rw [hI.1 38 0 _ (by rintro ⟨q, -⟩; omega)]
          · exact hi.elim
        · cases hcut
      · simp only [wp, stp, drp, entL, eL, lget, lset, okst, cnd, swt, rcv, Kr_int, Kr_bool, Kr_void, List.length_cons, List.length_nil, List.replicate, List.append_nil, List.cons_append, List.nil_append, List.take_succ_cons, List.take_zero, List.drop_succ_cons, List.drop_zero, List.reverse_cons, List.reverse_nil, Option.map_some, Option.map_none, Option.toList_some, Option.toList_none, Nat.reduceAdd, Nat.reduceSub, Nat.reduceLT, Nat.reduceLeDiff, Nat.reduceEqDiff, ↓reduceIte, Nat.add_zero, Nat.zero_add, true_and, and_true, Nat.le_refl, reduceCtorEq, false_implies, true_implies, not_true_eq_false, not_false_eq_true, Int.reduceAdd, Int.reduceSub, Int.reduceMul, Int.reduceLE, Int.reduceLT, Int.reduceEq, Int.reduceNe, Int.reduceNeg, Int.reduceDiv, Int.reduceMod, Bool.false_eq_true, Int.le_refl, and_self, true_or, or_true, inR_l, fv0, fv1, fv2, fv3, nc2, nc4, nc6, nc16, nc25, nc60, nc65, nc80, nc130, nc384, nc390, fp_0_0, fp_0_1, fp_0_2, fp_1_0, fp_1_1, fp_1_2, fp_1_3, fp_1_4, fp_1_5, fp_1_6, fp_1_7, fp_1_8, fp_1_9, fp_1_10, fp_1_11, fp_1_12, fp_1_13, fp_1_14, fp_2_0, fp_2_1, fp_2_2, fp_2_3, fp_3_0, fp_3_1, fp_4_0, fp_4_1, fp_4_2, fp_4_3, fp_4_4, fp_4_5, fp_4_6, fp_4_7, fp_5_0, fp_5_1, fp_5_2, fp_5_3, fp_5_4, fp_5_5, fp_5_6, fp_5_7, fp_6_0, fp_6_1, fp_6_2, fp_6_3, fp_6_4, fp_6_5, fp_6_6, fp_6_7, fp_6_8, fp_6_9, fp_6_10, fp_6_11, fp_6_12, fp_6_13, fp_6_14, fp_6_15, fp_7_0, fp_7_1, fp_7_2, fp_7_3, fp_7_4, fp_7_5, fp_7_6, fp_7_7, fp_7_8, fp_7_9, fp_7_10, fp_7_11, fp_7_12, fp_7_13, fp_7_14, fp_7_15, fp_7_16, fp_7_17, fp_7_18, fp_7_19, fp_7_20, fp_7_21, fp_7_22, fp_7_23, fp_7_24, iz_0_1, iz_0_2, iz_1_8, iz_1_9, iz_1_11, iz_2_1, iz_2_2, iz_2_3, iz_3_1, iz_4_1, iz_4_2, iz_5_0, iz_6_8, iz_6_9, iz_6_13, iz_6_14, iz_6_15, iz_7_2, iz_7_6, iz_7_12, iz_7_20, iz_7_21, iz_7_23, iz_7_24, ak_8, ak_9, ak_10, ak_11, ak_12, ak_13, ak_14, ak_15, ak_16, ak_17, ak_18, ak_19, ak_20, ak_21, ak_22, ak_23, ak_24, ak_25, ak_26, ak_27, ak_28, ak_29, ak_30, ak_31, ak_32, ak_33, ak_34, ak_35, ak_36, ak_37, ak_38, ak_39, ak_40, ak_41, ak_42, ak_43, ak_44, ak_45, ak_46, ak_47, ak_48, ak_49, ak_50, ak_51, ak_52, ak_53, ak_54, ak_55, ak_56, el31, el33, el34, CX7_save, ca_X7_save, frX7, kcX7, klX7, T_X7_in2, xT_up, xL_20, xL_21, exists_eq_right_right, exists_eq_right, exists_eq_left, Nat.lt_irrefl, and_self, implies_true, forall_const]
        obtain ⟨p, h1, h2⟩ := h
        exact ⟨fun a => ⟨a, CpR_0 (by omega)⟩, h1⟩
    · exact h.elim
def ca_X7_restore : Nat → Option (Nat × Nat × Tr)
  | 87 => some (3, 99, T_X7_in2)
  | 91 => some (1, 7, T_X7_keep2)
  | _ => none
theorem cao_X7_restore (l : Launch) : ∀ k n' ci T', ca_X7_restore k = some (n', ci, T') → ∃ nn, nn + 1 ≤ 1 ∧ Site l yX7_restore.cls k n' ci nn T' := by
  intro k n' ci T' h
  unfold ca_X7_restore at h
  split at h
  · cases h; exact ⟨0, by decide, _, _, _, _, k_X7_in2 l, Or.inr ⟨rfl, FX7_in, Or.inl ⟨rfl, KRX7_87⟩⟩⟩
  · cases h; exact ⟨0, by decide, _, _, _, _, k_X7_keep2 l, Or.inl ⟨_, rfl, FX7_keep, KRX7_91⟩⟩
  · cases h
def T_X7_restore : Tr := fun a σ K => match a with
  | [.inr (.inl (7, 0)), .inl s] => (rWF σ ∧ pmB σ) ∧ (¬ (0 ≤ s ∧ s ≤ 1) → K (some (-2)) σ) ∧ (0 ≤ s ∧ s ≤ 1 → σ 41 0 s = 0 → K (some (-5)) σ) ∧ (0 ≤ s ∧ s ≤ 1 → ¬ σ 41 0 s = 0 → ∀ σ1 σ2, KEE σ σ1 → CpR σ1 σ2 38 0 65 (fun x => σ 40 0 (65 * s + x)) 65 → K (some (σ2 38 0 0)) σ2)
  | _ => False
set_option maxHeartbeats 8000000 in
set_option maxRecDepth 20000 in
theorem k_X7_restore (l : Launch) : Ct l yX7_restore cX7_restore 3 (some .int) 1 T_X7_restore := by
  refine mk_met (by decide +kernel) hCX7_restore lCX7_restore frX7_ok cstX7_ok (cao_X7_restore l) ?_ ?_
  · intro a σ K h
    unfold T_X7_restore at h
    split at h
    · simp [eL]
    · exact h.elim
  · intro a σ K ha hR h
    unfold T_X7_restore at h
    split at h
    · rename_i s
      refine ⟨fun pc => if pc = 30 then some (fun L S σ' k => match L, S with | [some (.inr (.inl c1)), some (.inl s'), some (.inl k')], [] => (c1 = (7, 0) ∧ s' = s ∧ (0 ≤ s ∧ s ≤ 1) ∧ ¬ σ 41 0 s = 0 ∧ ∃ σ1, KEE σ σ1 ∧ CpR σ1 σ' 38 0 65 (fun x => σ 40 0 (65 * s + x)) k') ∧ k = (100 - k').toNat | _, _ => False) else none, 200, ?_, ?_⟩
      · intro pc I L S σ' k hcut hi
        dsimp only at hcut
        split at hcut
        · rename_i hpc
          subst hpc
          cases hcut
          try dsimp only at hi
          split at hi
          · rename_i c1 s' k'
            obtain ⟨hi, rfl⟩ := hi
            obtain ⟨rfl, rfl, h0, hs, σ1, hK, hI⟩ := hi
            obtain ⟨p, h1, h2, h3⟩ := h
            simp only [wp, stp, drp, entL, eL, lget, lset, okst, cnd, swt, rcv, Kr_int, Kr_bool, Kr_void, List.length_cons, List.length_nil, List.replicate, List.append_nil, List.cons_append, List.nil_append, List.take_succ_cons, List.take_zero, List.drop_succ_cons, List.drop_zero, List.reverse_cons, List.reverse_nil, Option.map_some, Option.map_none, Option.toList_some, Option.toList_none, Nat.reduceAdd, Nat.reduceSub, Nat.reduceLT, Nat.reduceLeDiff, Nat.reduceEqDiff, ↓reduceIte, Nat.add_zero, Nat.zero_add, true_and, and_true, Nat.le_refl, reduceCtorEq, false_implies, true_implies, not_true_eq_false, not_false_eq_true, Int.reduceAdd, Int.reduceSub, Int.reduceMul, Int.reduceLE, Int.reduceLT, Int.reduceEq, Int.reduceNe, Int.reduceNeg, Int.reduceDiv, Int.reduceMod, Bool.false_eq_true, Int.le_refl, and_self, true_or, or_true, inR_l, fv0, fv1, fv2, fv3, nc2, nc4, nc6, nc16, nc25, nc60, nc65, nc80, nc130, nc384, nc390, fp_0_0, fp_0_1, fp_0_2, fp_1_0, fp_1_1, fp_1_2, fp_1_3, fp_1_4, fp_1_5, fp_1_6, fp_1_7, fp_1_8, fp_1_9, fp_1_10, fp_1_11, fp_1_12, fp_1_13, fp_1_14, fp_2_0, fp_2_1, fp_2_2, fp_2_3, fp_3_0, fp_3_1, fp_4_0, fp_4_1, fp_4_2, fp_4_3, fp_4_4, fp_4_5, fp_4_6, fp_4_7, fp_5_0, fp_5_1, fp_5_2, fp_5_3, fp_5_4, fp_5_5, fp_5_6, fp_5_7, fp_6_0, fp_6_1, fp_6_2, fp_6_3, fp_6_4, fp_6_5, fp_6_6, fp_6_7, fp_6_8, fp_6_9, fp_6_10, fp_6_11, fp_6_12, fp_6_13, fp_6_14, fp_6_15, fp_7_0, fp_7_1, fp_7_2, fp_7_3, fp_7_4, fp_7_5, fp_7_6, fp_7_7, fp_7_8, fp_7_9, fp_7_10, fp_7_11, fp_7_12, fp_7_13, fp_7_14, fp_7_15, fp_7_16, fp_7_17, fp_7_18, fp_7_19, fp_7_20, fp_7_21, fp_7_22, fp_7_23, fp_7_24, iz_0_1, iz_0_2, iz_1_8, iz_1_9, iz_1_11, iz_2_1, iz_2_2, iz_2_3, iz_3_1, iz_4_1, iz_4_2, iz_5_0, iz_6_8, iz_6_9, iz_6_13, iz_6_14, iz_6_15, iz_7_2, iz_7_6, iz_7_12, iz_7_20, iz_7_21, iz_7_23, iz_7_24, ak_8, ak_9, ak_10, ak_11, ak_12, ak_13, ak_14, ak_15, ak_16, ak_17, ak_18, ak_19, ak_20, ak_21, ak_22, ak_23, ak_24, ak_25, ak_26, ak_27, ak_28, ak_29, ak_30, ak_31, ak_32, ak_33, ak_34, ak_35, ak_36, ak_37, ak_38, ak_39, ak_40, ak_41, ak_42, ak_43, ak_44, ak_45, ak_46, ak_47, ak_48, ak_49, ak_50, ak_51, ak_52, ak_53, ak_54, ak_55, ak_56, el31, el33, el34, CX7_restore, ca_X7_restore, frX7, kcX7, klX7, T_X7_in2, T_X7_keep2, xT_up, xL_20, xL_21, exists_eq_right_right, exists_eq_right, exists_eq_left, Nat.lt_irrefl, and_self, implies_true, forall_const]
            have k0 := hI.2.1
            have k1 := hI.2.2.1
            refine ⟨fun c => ?_, fun c => ⟨by simp only [inR]; omega, by simp only [inR]; omega, by omega, by omega, by simp only [inR]; omega, by omega, h0, hs, σ1, hK, CpR_s hI (by omega) (by omega) ?_⟩⟩
            · have ek : k' = 65 := by omega
              rw [ek] at hI
              exact h3 h0 hs σ1 σ' hK hI
            · rw [hI.1 40 0 _ (by rintro ⟨q, -⟩; omega), KEE_e hK 40 0 _ (by omega) (by omega)]
          · exact hi.elim
        · cases hcut
      · simp only [wp, stp, drp, entL, eL, lget, lset, okst, cnd, swt, rcv, Kr_int, Kr_bool, Kr_void, List.length_cons, List.length_nil, List.replicate, List.append_nil, List.cons_append, List.nil_append, List.take_succ_cons, List.take_zero, List.drop_succ_cons, List.drop_zero, List.reverse_cons, List.reverse_nil, Option.map_some, Option.map_none, Option.toList_some, Option.toList_none, Nat.reduceAdd, Nat.reduceSub, Nat.reduceLT, Nat.reduceLeDiff, Nat.reduceEqDiff, ↓reduceIte, Nat.add_zero, Nat.zero_add, true_and, and_true, Nat.le_refl, reduceCtorEq, false_implies, true_implies, not_true_eq_false, not_false_eq_true, Int.reduceAdd, Int.reduceSub, Int.reduceMul, Int.reduceLE, Int.reduceLT, Int.reduceEq, Int.reduceNe, Int.reduceNeg, Int.reduceDiv, Int.reduceMod, Bool.false_eq_true, Int.le_refl, and_self, true_or, or_true, inR_l, fv0, fv1, fv2, fv3, nc2, nc4, nc6, nc16, nc25, nc60, nc65, nc80, nc130, nc384, nc390, fp_0_0, fp_0_1, fp_0_2, fp_1_0, fp_1_1, fp_1_2, fp_1_3, fp_1_4, fp_1_5, fp_1_6, fp_1_7, fp_1_8, fp_1_9, fp_1_10, fp_1_11, fp_1_12, fp_1_13, fp_1_14, fp_2_0, fp_2_1, fp_2_2, fp_2_3, fp_3_0, fp_3_1, fp_4_0, fp_4_1, fp_4_2, fp_4_3, fp_4_4, fp_4_5, fp_4_6, fp_4_7, fp_5_0, fp_5_1, fp_5_2, fp_5_3, fp_5_4, fp_5_5, fp_5_6, fp_5_7, fp_6_0, fp_6_1, fp_6_2, fp_6_3, fp_6_4, fp_6_5, fp_6_6, fp_6_7, fp_6_8, fp_6_9, fp_6_10, fp_6_11, fp_6_12, fp_6_13, fp_6_14, fp_6_15, fp_7_0, fp_7_1, fp_7_2, fp_7_3, fp_7_4, fp_7_5, fp_7_6, fp_7_7, fp_7_8, fp_7_9, fp_7_10, fp_7_11, fp_7_12, fp_7_13, fp_7_14, fp_7_15, fp_7_16, fp_7_17, fp_7_18, fp_7_19, fp_7_20, fp_7_21, fp_7_22, fp_7_23, fp_7_24, iz_0_1, iz_0_2, iz_1_8, iz_1_9, iz_1_11, iz_2_1, iz_2_2, iz_2_3, iz_3_1, iz_4_1, iz_4_2, iz_5_0, iz_6_8, iz_6_9, iz_6_13, iz_6_14, iz_6_15, iz_7_2, iz_7_6, iz_7_12, iz_7_20, iz_7_21, iz_7_23, iz_7_24, ak_8, ak_9, ak_10, ak_11, ak_12, ak_13, ak_14, ak_15, ak_16, ak_17, ak_18, ak_19, ak_20, ak_21, ak_22, ak_23, ak_24, ak_25, ak_26, ak_27, ak_28, ak_29, ak_30, ak_31, ak_32, ak_33, ak_34, ak_35, ak_36, ak_37, ak_38, ak_39, ak_40, ak_41, ak_42, ak_43, ak_44, ak_45, ak_46, ak_47, ak_48, ak_49, ak_50, ak_51, ak_52, ak_53, ak_54, ak_55, ak_56, el31, el33, el34, CX7_restore, ca_X7_restore, frX7, kcX7, klX7, T_X7_in2, T_X7_keep2, xT_up, xL_20, xL_21, exists_eq_right_right, exists_eq_right, exists_eq_left, Nat.lt_irrefl, and_self, implies_true, forall_const]
        obtain ⟨p, h1, h2, h3⟩ := h
        exact ⟨fun a => ⟨by omega, fun b => ⟨p.2, fun σ1 hK => ⟨a, b, σ1, hK, CpR_0 (by omega)⟩⟩, fun b => h2 a (Classical.not_not.mp b)⟩, h1⟩
    · exact h.elim
