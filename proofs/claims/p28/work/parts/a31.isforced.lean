/-! forced and isForced of both sides -/
theorem Lod_pB {σ σ1 : Mem} (hL : Lod 1 0 σ σ1) : FrG pB1 σ σ1 := hL.1.w (by rintro t a x ⟨q1, q2⟩; exact Or.inl ⟨q1, by omega⟩)
theorem pK_pB {σ σ1 : Mem} (h : FrG (pK 1) σ σ1) : FrG pB1 σ σ1 := h.w (by rintro t a x ⟨q1, q2⟩; exact Or.inl ⟨q1, by omega⟩)
def T_X6_forced2 : Tr := fun a σ K => match a with
  | [.inr (.inl (6, 0)), .inl u] => sWF σ 0 ∧ (¬ (0 ≤ u ∧ u ≤ 500) → K (some (-2)) σ) ∧ (0 ≤ u ∧ u ≤ 500 → ∀ r σ', FrG pB1 σ σ' → frS (σ 10 0) (σ 11 0) (σ 12 0) (σ 8 0) u r → K (some r) σ')
  | _ => False
theorem m_X6_forced2 : ∀ a σ K, T_X6_forced2 a σ K → T_X6_forced a σ K := by
  intro a σ K h
  unfold T_X6_forced2 at h
  unfold T_X6_forced
  split at h
  · rename_i u
    obtain ⟨p, hn, h⟩ := h
    refine ⟨p, hn, fun b σ1 hL => ⟨fun σ2 hK => ?_, fun σ2 hF hK => ?_⟩⟩
    · have e := KT_LC hL hK
      exact h b _ σ2 ((Lod_pB hL).t (pK_pB hK.1)) (Or.inr ⟨_, e.1, e.2⟩)
    · exact h b _ σ2 ((Lod_pB hL).t (pK_pB hF)) (Or.inl ⟨rfl, KF_no hL hK⟩)
  · exact h.elim
def T_X5_hasOperation2 : Tr := fun a σ K => match a with
  | [.inr (.inl (5, i)), .inl x] => (vOp (σ 10 i) x → K (some 1) σ) ∧ (¬ vOp (σ 10 i) x → K (some 0) σ)
  | _ => False
theorem m_X5_hasOperation2 : ∀ a σ K, T_X5_hasOperation2 a σ K → T_X5_hasOperation a σ K := by
  intro a σ K h
  unfold T_X5_hasOperation2 at h
  unfold T_X5_hasOperation
  split at h
  · rename_i i x
    show K (some (if 0 ≤ x ∧ x < 16 ∧ x % 4 < σ 10 i (x / 4) then 1 else 0)) σ
    by_cases z : vOp (σ 10 i) x
    · rw [if_pos (show 0 ≤ x ∧ x < 16 ∧ x % 4 < σ 10 i (x / 4) from z)]
      exact h.1 z
    · rw [if_neg (show ¬ (0 ≤ x ∧ x < 16 ∧ x % 4 < σ 10 i (x / 4)) from z)]
      exact h.2 z
  · exact h.elim
def T_X1_goesAhead2 : Tr := fun a σ K => match a with
  | [.inr (.inl (1, i)), .inl x, .inl y] => (0 ≤ x ∧ x < 16 ∧ 0 ≤ y ∧ y < 16) ∧ (rA (σ 20 i) x y → K (some 1) σ) ∧ (¬ rA (σ 20 i) x y → K (some 0) σ)
  | _ => False
theorem m_X1_goesAhead2 : ∀ a σ K, T_X1_goesAhead2 a σ K → T_X1_goesAhead a σ K := by
  intro a σ K h
  unfold T_X1_goesAhead2 at h
  unfold T_X1_goesAhead
  split at h
  · rename_i i x y
    refine ⟨h.1, ?_⟩
    by_cases z : rA (σ 20 i) x y
    · rw [if_pos (show band (bshr (σ 20 i y) (x / 4)) 1 ≠ 0 from z)]
      exact h.2.1 z
    · rw [if_neg (show ¬ (band (bshr (σ 20 i y) (x / 4)) 1 ≠ 0) from z)]
      exact h.2.2 z
  · exact h.elim
theorem k_X6_forced2 (l : Launch) : Ct l yX6_forced cX6_forced 2 (some .int) 4 T_X6_forced2 := Ct_mono (k_X6_forced l) m_X6_forced2
theorem k_X5_hasOperation2 (l : Launch) : Ct l yX5_hasOperation cX5_hasOperation 2 (some .boolean) 0 T_X5_hasOperation2 := Ct_mono (k_X5_hasOperation l) m_X5_hasOperation2
theorem k_X1_goesAhead2 (l : Launch) : Ct l yX1_goesAhead cX1_goesAhead 3 (some .boolean) 0 T_X1_goesAhead2 := Ct_mono (k_X1_goesAhead l) m_X1_goesAhead2
def ca_X6_isForced : Nat → Option (Nat × Nat × Tr)
  | 97 => some (2, 5, T_X5_hasOperation2)
  | 68 => some (3, 99, T_X6_within2)
  | 118 => some (2, 1, T_X1_load)
  | 207 => some (2, 1, T_X1_keeps)
  | 213 => some (3, 1, T_X1_goesAhead2)
  | _ => none
theorem cao_X6_isForced (l : Launch) : ∀ k n' ci T', ca_X6_isForced k = some (n', ci, T') → ∃ nn, nn + 1 ≤ 4 ∧ Site l yX6_isForced.cls k n' ci nn T' := by
  intro k n' ci T' h
  unfold ca_X6_isForced at h
  split at h
  · cases h; exact ⟨0, by decide, _, _, _, _, k_X5_hasOperation2 l, Or.inl ⟨_, rfl, FX5_hasOperation, KRX6_97⟩⟩
  · cases h; exact ⟨0, by decide, _, _, _, _, k_X6_within2 l, Or.inr ⟨rfl, FX6_within, Or.inl ⟨rfl, KRX6_68⟩⟩⟩
  · cases h; exact ⟨1, by decide, _, _, _, _, k_X1_load l, Or.inl ⟨_, rfl, FX1_load, KRX6_118⟩⟩
  · cases h; exact ⟨3, by decide, _, _, _, _, k_X1_keeps l, Or.inl ⟨_, rfl, FX1_keeps, KRX6_207⟩⟩
  · cases h; exact ⟨0, by decide, _, _, _, _, k_X1_goesAhead2 l, Or.inl ⟨_, rfl, FX1_goesAhead, KRX6_213⟩⟩
  · cases h
def T_X6_isForced : Tr := fun a σ K => match a with
  | [.inr (.inl (6, 0)), .inl u, .inl x, .inl y] => sWF σ 0 ∧ (¬ (vOp (σ 10 0) x ∧ vOp (σ 10 0) y) → K (some (-1)) σ) ∧ (vOp (σ 10 0) x ∧ vOp (σ 10 0) y → ¬ ((0 ≤ u ∧ u ≤ 500) ∧ x ≠ y ∧ σ 11 0 x = σ 11 0 y) → K (some (-2)) σ) ∧ (vOp (σ 10 0) x ∧ vOp (σ 10 0) y → (0 ≤ u ∧ u ≤ 500) → x ≠ y → σ 11 0 x = σ 11 0 y → ∀ r σ', FrG pB1 σ σ' → ifS (σ 10 0) (σ 11 0) (σ 12 0) (σ 8 0) u x y r → K (some r) σ')
  | _ => False
set_option maxHeartbeats 4000000 in
set_option maxRecDepth 20000 in
theorem k_X6_isForced (l : Launch) : Ct l yX6_isForced cX6_isForced 4 (some .int) 4 T_X6_isForced := by
  refine mk_met (by decide +kernel) hCX6_isForced lCX6_isForced frX6_ok cstX6_ok (cao_X6_isForced l) ?_ ?_
  · intro a σ K h
    unfold T_X6_isForced at h
    split at h
    · simp [eL]
    · exact h.elim
  · intro a σ K ha hR h
    unfold T_X6_isForced at h
    split at h
    · rename_i u x y
      refine ⟨fun _ => none, 200, fun pc I L S σ' k h => (by cases h), ?_⟩
      simp only [wp, stp, drp, entL, eL, lget, lset, okst, cnd, swt, rcv, Kr_int, Kr_bool, Kr_void, List.length_cons, List.length_nil, List.replicate, List.append_nil, List.cons_append, List.nil_append, List.take_succ_cons, List.take_zero, List.drop_succ_cons, List.drop_zero, List.reverse_cons, List.reverse_nil, Option.map_some, Option.map_none, Option.toList_some, Option.toList_none, Nat.reduceAdd, Nat.reduceSub, Nat.reduceLT, Nat.reduceLeDiff, Nat.reduceEqDiff, ↓reduceIte, Nat.add_zero, Nat.zero_add, true_and, and_true, Nat.le_refl, reduceCtorEq, false_implies, true_implies, not_true_eq_false, not_false_eq_true, Int.reduceAdd, Int.reduceSub, Int.reduceMul, Int.reduceLE, Int.reduceLT, Int.reduceEq, Int.reduceNe, Int.reduceNeg, Int.reduceDiv, Int.reduceMod, Bool.false_eq_true, Int.le_refl, and_self, true_or, or_true, inR_l, fv0, fv1, fv2, fv3, nc2, nc4, nc6, nc16, nc25, nc60, nc65, nc80, nc130, nc384, nc390, fp_0_0, fp_0_1, fp_0_2, fp_1_0, fp_1_1, fp_1_2, fp_1_3, fp_1_4, fp_1_5, fp_1_6, fp_1_7, fp_1_8, fp_1_9, fp_1_10, fp_1_11, fp_1_12, fp_1_13, fp_1_14, fp_2_0, fp_2_1, fp_2_2, fp_2_3, fp_3_0, fp_3_1, fp_4_0, fp_4_1, fp_4_2, fp_4_3, fp_4_4, fp_4_5, fp_4_6, fp_4_7, fp_5_0, fp_5_1, fp_5_2, fp_5_3, fp_5_4, fp_5_5, fp_5_6, fp_5_7, fp_6_0, fp_6_1, fp_6_2, fp_6_3, fp_6_4, fp_6_5, fp_6_6, fp_6_7, fp_6_8, fp_6_9, fp_6_10, fp_6_11, fp_6_12, fp_6_13, fp_6_14, fp_6_15, fp_7_0, fp_7_1, fp_7_2, fp_7_3, fp_7_4, fp_7_5, fp_7_6, fp_7_7, fp_7_8, fp_7_9, fp_7_10, fp_7_11, fp_7_12, fp_7_13, fp_7_14, fp_7_15, fp_7_16, fp_7_17, fp_7_18, fp_7_19, fp_7_20, fp_7_21, fp_7_22, fp_7_23, fp_7_24, iz_0_1, iz_0_2, iz_1_8, iz_1_9, iz_1_11, iz_2_1, iz_2_2, iz_2_3, iz_3_1, iz_4_1, iz_4_2, iz_5_0, iz_6_8, iz_6_9, iz_6_13, iz_6_14, iz_6_15, iz_7_2, iz_7_6, iz_7_12, iz_7_20, iz_7_21, iz_7_23, iz_7_24, ak_8, ak_9, ak_10, ak_11, ak_12, ak_13, ak_14, ak_15, ak_16, ak_17, ak_18, ak_19, ak_20, ak_21, ak_22, ak_23, ak_24, ak_25, ak_26, ak_27, ak_28, ak_29, ak_30, ak_31, ak_32, ak_33, ak_34, ak_35, ak_36, ak_37, ak_38, ak_39, ak_40, ak_41, ak_42, ak_43, ak_44, ak_45, ak_46, ak_47, ak_48, ak_49, ak_50, ak_51, ak_52, ak_53, ak_54, ak_55, ak_56, el31, el33, el34, CX6_isForced, ca_X6_isForced, frX6, kcX6, klX6, T_X5_hasOperation2, T_X6_within2, T_X1_load, T_X1_keeps, T_X1_goesAhead2, up_ap, false_and, and_false, if_false, if_true, ite_true, ite_false]
      obtain ⟨p, h1, h2, h⟩ := h
      refine ⟨fun vx => ⟨fun vy => ⟨fun hu => ⟨fun e => h2 ⟨vx, vy⟩ (fun q => q.2.1 e), fun ne => ⟨⟨vx.1, vx.2.1⟩, ⟨vy.1, vy.2.1⟩, fun hm => ⟨sWF_B p, fun σ1 hL => ⟨⟨hL.2.1, hL.2.2.1, hL.2.2.2.1, hu.1⟩, fun σ2 hK => ?_, fun σ2 hF _ hK => h ⟨vx, vy⟩ hu ne hm _ σ2 ((Lod_pB hL).t (pK_pB hF)) (Or.inl ⟨rfl, KF_no hL hK⟩)⟩⟩, fun hm => h2 ⟨vx, vy⟩ (fun q => hm q.2.2)⟩⟩, fun hu => h2 ⟨vx, vy⟩ (fun q => hu q.1)⟩, fun vy => h1 (fun q => vy q.2)⟩, fun vx => h1 (fun q => vx q.1)⟩
      have e := KT_LC hL hK
      have hF := (Lod_pB hL).t (pK_pB hK.1)
      exact ⟨⟨vx.1, vx.2.1, vy.1, vy.2.1⟩, fun c => h ⟨vx, vy⟩ hu ne hm 1 σ2 hF (Or.inr ⟨_, e.1, Or.inl ⟨rfl, c⟩⟩), fun c => h ⟨vx, vy⟩ hu ne hm 0 σ2 hF (Or.inr ⟨_, e.1, Or.inr ⟨rfl, c⟩⟩)⟩
    · exact h.elim
