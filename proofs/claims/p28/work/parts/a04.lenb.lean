/-- what a net may change -/
def pNt (n : Nat) (t a : Nat) (x : Int) : Prop := a = n ∧ ((15 ≤ t ∧ t ≤ 25) ∨ (t = 1 ∧ (x = 8 ∨ x = 9 ∨ x = 11)))
/-- the length with the queue q2; none -/
def LenB (σ : Mem) (q2 : Int → Int) (r : Int) : Prop := (∃ h t, wH (σ 10 0) (σ 11 0) (σ 12 0) (σ 8 0) (σ 13 0) q2 h ∧ wTl (σ 10 0) (σ 11 0) (σ 12 0) (σ 13 0) q2 t ∧ IsMax (vOp (σ 10 0)) (fun o => h o + σ 12 0 o + t o) r ∧ r ≤ 1100) ∨ (r = -6 ∧ ∀ h, ¬ wH (σ 10 0) (σ 11 0) (σ 12 0) (σ 8 0) (σ 13 0) q2 h)
theorem pNt_x {n : Nat} {σ σ' : Mem} (h : FrG (pNt n) σ σ') (t a : Nat) (ht : (t < 15 ∧ t ≠ 1) ∨ 25 < t) : σ' t a = σ t a := h.f t a (by rintro x ⟨-, q | ⟨q, -⟩⟩ <;> omega)
theorem up_up_ex {σ : Mem} {y : Int} : (up (up σ 14 0 y (σ 14 0 (y + 1))) 14 0 (y + 1) (σ 14 0 y)) 14 0 = exQ (σ 14 0) y := by
  funext z
  simp only [up_ap, true_and]
  unfold exQ
  rfl
theorem exQ_exQ (q : Int → Int) (y : Int) : exQ (exQ q y) y = q := by
  funext z
  unfold exQ
  by_cases a : z = y + 1
  · subst a
    rw [if_pos rfl, if_neg (by omega), if_pos rfl]
  · rw [if_neg a]
    by_cases b : z = y
    · subst b
      rw [if_pos rfl, if_pos rfl]
    · rw [if_neg b, if_neg a, if_neg b]
def ca_X6_lengthBehindNext : Nat → Option (Nat × Nat × Tr)
  | 154 => some (2, 5, T_X5_placeOf)
  | 107 => some (3, 5, T_X5_exchange)
  | 118 => some (2, 1, T_X1_load)
  | 266 => some (2, 1, T_X1_followOrders)
  | 198 => some (1, 1, T_X1_measure)
  | _ => none
theorem cao_X6_lengthBehindNext (l : Launch) : ∀ k n' ci T', ca_X6_lengthBehindNext k = some (n', ci, T') → ∃ nn, nn + 1 ≤ 3 ∧ Site l yX6_lengthBehindNext.cls k n' ci nn T' := by
  intro k n' ci T' h
  unfold ca_X6_lengthBehindNext at h
  split at h
  · cases h; exact ⟨0, by decide, _, _, _, _, k_X5_placeOf l, Or.inl ⟨_, rfl, FX5_placeOf, KRX6_154⟩⟩
  · cases h; exact ⟨0, by decide, _, _, _, _, k_X5_exchange l, Or.inl ⟨_, rfl, FX5_exchange, KRX6_107⟩⟩
  · cases h; exact ⟨1, by decide, _, _, _, _, k_X1_load l, Or.inl ⟨_, rfl, FX1_load, KRX6_118⟩⟩
  · cases h; exact ⟨2, by decide, _, _, _, _, k_X1_followOrders l, Or.inl ⟨_, rfl, FX1_followOrders, KRX6_266⟩⟩
  · cases h; exact ⟨2, by decide, _, _, _, _, k_X1_measure l, Or.inl ⟨_, rfl, FX1_measure, KRX6_198⟩⟩
  · cases h
def T_X6_lengthBehindNext : Tr := fun a σ K => match a with
  | [.inr (.inl (6, 0)), .inl x] => (sWF σ 0 ∧ vOp (σ 10 0) x ∧ plo (σ 11 0) (σ 13 0) (σ 14 0) x + 1 < σ 13 0 (σ 11 0 x)) ∧ ∀ r σ', LenB σ (exQ (σ 14 0) (4 * σ 11 0 x + plo (σ 11 0) (σ 13 0) (σ 14 0) x)) r → FrG (pNt 1) σ σ' → K (some r) σ'
  | _ => False
set_option maxHeartbeats 4000000 in
set_option maxRecDepth 20000 in
theorem k_X6_lengthBehindNext (l : Launch) : Ct l yX6_lengthBehindNext cX6_lengthBehindNext 5 (some .int) 3 T_X6_lengthBehindNext := by
  refine mk_met (by decide +kernel) hCX6_lengthBehindNext lCX6_lengthBehindNext frX6_ok cstX6_ok (cao_X6_lengthBehindNext l) ?_ ?_
  · intro a σ K h
    unfold T_X6_lengthBehindNext at h
    split at h
    · simp [eL]
    · exact h.elim
  · intro a σ K ha hR h
    unfold T_X6_lengthBehindNext at h
    split at h
    · rename_i x
      refine ⟨fun _ => none, 200, fun pc I L S σ' k h => (by cases h), ?_⟩
      simp only [wp, stp, drp, entL, eL, lget, lset, okst, cnd, swt, rcv, Kr_int, Kr_bool, Kr_void, List.length_cons, List.length_nil, List.replicate, List.append_nil, List.cons_append, List.nil_append, List.take_succ_cons, List.take_zero, List.drop_succ_cons, List.drop_zero, List.reverse_cons, List.reverse_nil, Option.map_some, Option.map_none, Option.toList_some, Option.toList_none, Nat.reduceAdd, Nat.reduceSub, Nat.reduceLT, Nat.reduceLeDiff, Nat.reduceEqDiff, ↓reduceIte, Nat.add_zero, Nat.zero_add, true_and, and_true, Nat.le_refl, reduceCtorEq, false_implies, true_implies, not_true_eq_false, not_false_eq_true, Int.reduceAdd, Int.reduceSub, Int.reduceMul, Int.reduceLE, Int.reduceLT, Int.reduceEq, Int.reduceNe, Int.reduceNeg, Int.reduceDiv, Int.reduceMod, Bool.false_eq_true, Int.le_refl, and_self, true_or, or_true, inR_l, fv0, fv1, fv2, fv3, nc2, nc4, nc6, nc16, nc25, nc60, nc65, nc80, nc130, nc384, nc390, fp_0_0, fp_0_1, fp_0_2, fp_1_0, fp_1_1, fp_1_2, fp_1_3, fp_1_4, fp_1_5, fp_1_6, fp_1_7, fp_1_8, fp_1_9, fp_1_10, fp_1_11, fp_1_12, fp_1_13, fp_1_14, fp_2_0, fp_2_1, fp_2_2, fp_2_3, fp_3_0, fp_3_1, fp_4_0, fp_4_1, fp_4_2, fp_4_3, fp_4_4, fp_4_5, fp_4_6, fp_4_7, fp_5_0, fp_5_1, fp_5_2, fp_5_3, fp_5_4, fp_5_5, fp_5_6, fp_5_7, fp_6_0, fp_6_1, fp_6_2, fp_6_3, fp_6_4, fp_6_5, fp_6_6, fp_6_7, fp_6_8, fp_6_9, fp_6_10, fp_6_11, fp_6_12, fp_6_13, fp_6_14, fp_6_15, fp_7_0, fp_7_1, fp_7_2, fp_7_3, fp_7_4, fp_7_5, fp_7_6, fp_7_7, fp_7_8, fp_7_9, fp_7_10, fp_7_11, fp_7_12, fp_7_13, fp_7_14, fp_7_15, fp_7_16, fp_7_17, fp_7_18, fp_7_19, fp_7_20, fp_7_21, fp_7_22, fp_7_23, fp_7_24, iz_0_1, iz_0_2, iz_1_8, iz_1_9, iz_1_11, iz_2_1, iz_2_2, iz_2_3, iz_3_1, iz_4_1, iz_4_2, iz_5_0, iz_6_8, iz_6_9, iz_6_13, iz_6_14, iz_6_15, iz_7_2, iz_7_6, iz_7_12, iz_7_20, iz_7_21, iz_7_23, iz_7_24, ak_8, ak_9, ak_10, ak_11, ak_12, ak_13, ak_14, ak_15, ak_16, ak_17, ak_18, ak_19, ak_20, ak_21, ak_22, ak_23, ak_24, ak_25, ak_26, ak_27, ak_28, ak_29, ak_30, ak_31, ak_32, ak_33, ak_34, ak_35, ak_36, ak_37, ak_38, ak_39, ak_40, ak_41, ak_42, ak_43, ak_44, ak_45, ak_46, ak_47, ak_48, ak_49, ak_50, ak_51, ak_52, ak_53, ak_54, ak_55, ak_56, el31, el33, el34, CX6_lengthBehindNext, ca_X6_lengthBehindNext, frX6, kcX6, klX6, T_X5_placeOf, T_X5_exchange, T_X1_load, T_X1_followOrders, T_X1_measure]
      obtain ⟨⟨p1, v, p3⟩, h⟩ := h
      have hp := plo_of p1.1 v
      have ho := sWF_op p1 v
      have v0 := v.1
      have v1 := v.2.1
      have hpe : plF (σ 14 0) (4 * σ 11 0 x) (σ 13 0 (σ 11 0 x)) (x / 4) = plo (σ 11 0) (σ 13 0) (σ 14 0) x := rfl
      rw [hpe]
      have hp0 := hp.1
      have hl := (p1.1.2.2.2.2.1 _ ho.1 ho.2.1).2
      have w0 := WF_ex p1.1 ho.1 ho.2.1 hp0 p3
      generalize plo (σ 11 0) (σ 13 0) (σ 14 0) x = p at *
      generalize hy : 4 * σ 11 0 x + p = y at *
      have h14 := up_up_ex (σ := σ) (y := y)
      have hG : ∀ t a z, ¬ (t = 14 ∧ a = 0) → (up (up σ 14 0 y (σ 14 0 (y + 1))) 14 0 (y + 1) (σ 14 0 y)) t a z = σ t a z := fun t a z q => by
        rw [up_ap, if_neg (fun c => q ⟨c.1, c.2.1⟩), up_ap, if_neg (fun c => q ⟨c.1, c.2.1⟩)]
      have fin : ∀ σ4 : Mem, FrG (pNt 1) (up (up σ 14 0 y (σ 14 0 (y + 1))) 14 0 (y + 1) (σ 14 0 y)) σ4 → FrG (pNt 1) σ (up (up σ4 14 0 y (σ4 14 0 (y + 1))) 14 0 (y + 1) (σ4 14 0 y)) := fun σ4 hf t a z q => by
        by_cases c : t = 14 ∧ a = 0
        · obtain ⟨rfl, rfl⟩ := c
          rw [show (up (up σ4 14 0 y (σ4 14 0 (y + 1))) 14 0 (y + 1) (σ4 14 0 y)) 14 0 z = exQ (σ4 14 0) y z from congrFun up_up_ex z, pNt_x hf 14 0 (by omega), h14, exQ_exQ]
        · rw [up_ap, if_neg (fun d => c ⟨d.1, d.2.1⟩), up_ap, if_neg (fun d => c ⟨d.1, d.2.1⟩), hf t a z q, hG t a z c]
      generalize (up (up σ 14 0 y (σ 14 0 (y + 1))) 14 0 (y + 1) (σ 14 0 y)) = σ1 at *
      have hs : ∀ t, t ≠ 14 → σ1 t 0 = σ t 0 := fun t q => funext fun z => hG t 0 z (fun c => q c.1)
      have w1 : sWF σ1 0 := by
        unfold sWF
        rw [hs 5 (by omega), hs 8 (by omega), hs 9 (by omega), hs 10 (by omega), hs 11 (by omega), hs 12 (by omega), hs 13 (by omega), h14]
        exact ⟨w0, p1.2⟩
      refine ⟨⟨v0, v1⟩, ⟨v0, v1, ho.1, ho.2.1, hl⟩, ⟨ho.1, ho.2.1, hp0, by omega, hl⟩, sWF_B w1, fun σ2 hL => ⟨⟨hL.2.1, hL.2.2.1, Lod_qB w1 hL⟩, fun σ3 hF => ⟨FS_st hL.2.1 hL.2.2.2.1 hF, fun σ4 hR hM => ?_, fun σ4 hR hN => ?_⟩⟩⟩
      · have hFF : FrG (pNt 1) σ1 σ4 := ((hL.1.w (by rintro t a x ⟨q1, q2⟩; exact ⟨q1, by omega⟩)).t (hF.1.w (by rintro t a x ⟨q1, q2⟩; exact ⟨q2, by omega⟩))).t (fun t a x q => hR t a x (fun ⟨z1, z2⟩ => q ⟨z1, by omega⟩))
        have e13 : σ4 13 0 = σ 13 0 := by rw [pNt_x hFF 13 0 (by omega), hs 13 (by omega)]
        rw [e13]
        obtain ⟨-, -, m3, m4, m5, m6, -⟩ := plan_ok w1 hL hF hR hM
        unfold sH at m3
        unfold sT at m4
        rw [hs 8 (by omega), hs 10 (by omega), hs 11 (by omega), hs 12 (by omega), hs 13 (by omega), h14] at m3
        rw [hs 10 (by omega), hs 11 (by omega), hs 12 (by omega), hs 13 (by omega), h14] at m4
        rw [hs 10 (by omega), hs 12 (by omega)] at m5
        exact ⟨⟨ho.1, ho.2.1, hp0, by omega, hl⟩, h _ _ (Or.inl ⟨_, _, m3, m4, m5, m6⟩) (fin σ4 hFF)⟩
      · have hFF : FrG (pNt 1) σ1 σ4 := ((hL.1.w (by rintro t a x ⟨q1, q2⟩; exact ⟨q1, by omega⟩)).t (hF.1.w (by rintro t a x ⟨q1, q2⟩; exact ⟨q2, by omega⟩))).t (fun t a x q => hR t a x (fun ⟨z1, z2⟩ => q ⟨z1, by omega⟩))
        have e13 : σ4 13 0 = σ 13 0 := by rw [pNt_x hFF 13 0 (by omega), hs 13 (by omega)]
        rw [e13]
        have hno := plan_no w1 hL hF hN
        unfold sH at hno
        rw [hs 8 (by omega), hs 10 (by omega), hs 11 (by omega), hs 12 (by omega), hs 13 (by omega), h14] at hno
        exact ⟨⟨ho.1, ho.2.1, hp0, by omega, hl⟩, h _ _ (Or.inr ⟨rfl, hno⟩) (fin σ4 hFF)⟩
    · exact h.elim
