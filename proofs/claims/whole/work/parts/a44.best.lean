/-! best and takeBest -/
def RecE (σ σ' : Mem) : Prop := ∀ t k j, σ' t k j = if t = 0 ∧ k = 0 ∧ j = 2 then (σ 0 0 2 + 1) % 6 else if t = 0 ∧ k = 0 ∧ j = 1 then (if σ 0 0 1 < 6 then σ 0 0 1 + 1 else σ 0 0 1) else if (t = 6 ∧ k = 0 ∧ j = 8) ∨ (t = 4 ∧ (k = 0 ∨ k = 1) ∧ j = 1) then 0 else if k = 2 + ((σ 0 0 2 + 1) % 6).toNat ∧ ((t = 5 ∧ j = 0) ∨ (8 ≤ t ∧ t ≤ 14 ∧ 0 ≤ j ∧ j < (if t = 11 ∨ t = 12 ∨ t = 14 then 16 else 4))) then σ t 0 j else σ t k j
def hsB (σ : Mem) : Prop := 0 ≤ σ 0 0 2 ∧ σ 0 0 2 < 6 ∧ 0 ≤ σ 0 0 1 ∧ σ 0 0 1 ≤ 6
def T_X6_beginChange2 : Tr := fun a σ K => match a with
  | [.inr (.inl (6, 0))] => hsB σ ∧ ∀ σ', RecE σ σ' → K none σ'
  | _ => False
theorem m_X6_beginChange2 : ∀ a σ K, T_X6_beginChange2 a σ K → T_X6_beginChange a σ K := by
  intro a σ K h
  unfold T_X6_beginChange2 at h
  unfold T_X6_beginChange
  split at h
  · exact ⟨h.1, fun σ' hE => h.2 σ' hE⟩
  · exact h.elim
def KEE (σ σ2 : Mem) : Prop := ∃ σ', K2 σ σ' 65 ∧ σ2 = up σ' 7 0 2 (kB σ + 1)
def T_X7_keep2 : Tr := fun a σ K => match a with
  | [.inr (.inl (7, 0))] => (0 ≤ σ 7 0 2 ∧ σ 7 0 2 ≤ 6) ∧ ∀ σ', KEE σ σ' → K none σ'
  | _ => False
theorem m_X7_keep2 : ∀ a σ K, T_X7_keep2 a σ K → T_X7_keep a σ K := by
  intro a σ K h
  unfold T_X7_keep2 at h
  unfold T_X7_keep
  split at h
  · exact ⟨h.1, fun σ' hE => h.2 _ ⟨σ', hE, rfl⟩⟩
  · exact h.elim
def T_X5_hasPlace2 : Tr := fun a σ K => match a with
  | [.inr (.inl (5, i)), .inl m, .inl x] => (0 ≤ m ∧ m < 4) ∧ (0 ≤ x ∧ x < σ 13 i m → K (some 1) σ) ∧ (¬ (0 ≤ x ∧ x < σ 13 i m) → K (some 0) σ)
  | _ => False
theorem m_X5_hasPlace2 : ∀ a σ K, T_X5_hasPlace2 a σ K → T_X5_hasPlace a σ K := by
  intro a σ K h
  unfold T_X5_hasPlace2 at h
  unfold T_X5_hasPlace
  split at h
  · rename_i i m x
    refine ⟨h.1, ?_⟩
    by_cases c : 0 ≤ x ∧ x < σ 13 i m
    · rw [if_pos c]
      exact h.2.1 c
    · rw [if_neg c]
      exact h.2.2 c
  · exact h.elim
def T_X7_foundAt2 : Tr := fun a σ K => match a with
  | [.inr (.inl (7, 0)), .inl m, .inl x] => (0 ≤ m ∧ m < 4 ∧ σ 38 0 (45 + m) ≤ 4) ∧ (0 ≤ x ∧ x < rLn σ m → K (some (σ 51 0 (4 * m + x))) σ) ∧ (¬ (0 ≤ x ∧ x < rLn σ m) → K (some (-6)) σ)
  | _ => False
theorem m_X7_foundAt2 : ∀ a σ K, T_X7_foundAt2 a σ K → T_X7_foundAt a σ K := by
  intro a σ K h
  unfold T_X7_foundAt2 at h
  unfold T_X7_foundAt
  split at h
  · rename_i m x
    refine ⟨h.1, ?_⟩
    by_cases c : 0 ≤ x ∧ x < σ 38 0 (45 + m)
    · rw [if_pos c]
      exact h.2.1 c
    · rw [if_neg c]
      exact h.2.2 c
  · exact h.elim
theorem pBe_f {σ σ' : Mem} (h : FrG pBe σ σ') (t a : Nat) (ht : (t ≤ 14 ∧ t ≠ 1 ∧ t ≠ 4) ∨ 32 < t ∨ t = 31) : σ' t a = σ t a := h.f t a (by
  rintro x (q | q)
  · unfold pL at q
    omega
  · unfold pF pS pC pK p26 at q
    omega)
theorem sBst_cg {σ σ' : Mem} {le : Int} {f : Int → Int} (h : ∀ t, t = 8 ∨ t = 10 ∨ t = 11 ∨ t = 12 ∨ t = 13 ∨ t = 14 → σ' t 0 = σ t 0) : sBst σ' le f ↔ sBst σ le f := by
  unfold sBst
  rw [h 10 (by omega), h 11 (by omega), h 12 (by omega), h 8 (by omega), h 13 (by omega), h 14 (by omega)]
/-- leastPlan behind its find -/
theorem find_k {σ σ1 : Mem} (hw : sWF σ 0) (hk : KSc σ) (hL : Lod 2 0 σ σ1) : (σ1 4 0 1 ≠ 0 → FrG pBe σ σ1 ∧ KSc σ1 ∧ sBst σ (σ1 4 0 2) (σ1 27 0) ∧ σ1 4 0 2 ≠ 1000000) ∧ (∀ σ2, FdR σ1 σ2 0 → FrG pBe σ σ2 ∧ KSc σ2 ∧ sBst σ (σ2 4 0 2) (σ2 27 0) ∧ σ2 4 0 2 ≠ 1000000) := by
  have h1 : FrG pBe σ σ1 := hL.1.w (fun _ _ _ q => Or.inl q)
  have e : ∀ t, t ≠ 1 → (t < 15 ∨ 20 < t) → σ1 t 0 = σ t 0 := fun t a b => hL.1.f t 0 (by rintro x ⟨q, -⟩; omega)
  refine ⟨fun hn => ?_, fun σ2 hF => ?_⟩
  · have b : sBst σ (σ1 4 0 2) (σ1 27 0) ∧ σ1 4 0 2 ≠ 1000000 := by
      rw [e 4 (by omega) (by omega), e 27 (by omega) (by omega)]
      rw [e 4 (by omega) (by omega)] at hn
      rcases hk with z | z
      · exact absurd z hn
      · exact z
    exact ⟨h1, Or.inr ⟨(sBst_cg (fun t ht => pBe_f h1 t 0 (by omega))).mpr b.1, b.2⟩, b⟩
  · have h2 : FrG pBe σ σ2 := h1.t (hF.1.w (fun _ _ _ q => Or.inr q))
    have b := FdR_bst hw hL hF
    exact ⟨h2, Or.inr ⟨(sBst_cg (fun t ht => pBe_f h2 t 0 (by omega))).mpr b.1, b.2⟩, b⟩
/-- record leaves what isn't of the history or known -/
theorem RecE_e {σ σ' : Mem} (h : RecE σ σ') (t a : Nat) (x : Int) (ht : (t ≠ 0 ∧ t ≠ 6 ∧ t ≠ 4 ∧ t ≠ 5 ∧ (t < 8 ∨ 14 < t)) ∨ (t = 4 ∧ x ≠ 1) ∨ (a < 2 ∧ t ≠ 0 ∧ ¬ (t = 6 ∧ a = 0 ∧ x = 8) ∧ ¬ (t = 4 ∧ x = 1))) : σ' t a x = σ t a x := by
  rw [h t a x, if_neg (by rintro ⟨p, q, r⟩; omega), if_neg (by rintro ⟨p, q, r⟩; omega), if_neg (by rintro (⟨p, q, r⟩ | ⟨p, q, r⟩) <;> omega), if_neg (by rintro ⟨p, q⟩; omega)]
theorem KEE_e {σ σ' : Mem} (h : KEE σ σ') (t a : Nat) (x : Int) (ht : t ≠ 39 ∨ a ≠ 0) (ht2 : ¬ (t = 7 ∧ a = 0 ∧ x = 2)) : σ' t a x = σ t a x := by
  obtain ⟨σ1, h1, h2⟩ := h
  rw [h2, up_ap, if_neg ht2]
  exact h1.1 t a x ht ht2
theorem KEE_w {σ σ' : Mem} (h : KEE σ σ') : σ' 38 0 = σ 38 0 := funext fun x => KEE_e h 38 0 x (Or.inl (by omega)) (by omega)
theorem find_pre {σ σ1 : Mem} (hw : sWF σ 0) (hL : Lod 2 0 σ σ1) : (0 : Nat) < 2 ∧ nB σ1 2 ∧ nA σ1 2 ∧ nO σ1 2 ∧ ∃ v C, 0 ≤ v ∧ v < 1000 ∧ sSol σ1 0 v C := ⟨by omega, hL.2.1, hL.2.2.1, hL.2.2.2.1, 370, _, by omega, by omega, Lod_sol hw hL⟩
theorem k_X6_beginChange2 (l : Launch) : Ct l yX6_beginChange cX6_beginChange 1 none 3 T_X6_beginChange2 := Ct_mono (k_X6_beginChange l) m_X6_beginChange2
theorem k_X7_keep2 (l : Launch) : Ct l yX7_keep cX7_keep 2 none 0 T_X7_keep2 := Ct_mono (k_X7_keep l) m_X7_keep2
theorem k_X5_hasPlace2 (l : Launch) : Ct l yX5_hasPlace cX5_hasPlace 3 (some .boolean) 0 T_X5_hasPlace2 := Ct_mono (k_X5_hasPlace l) m_X5_hasPlace2
theorem k_X7_foundAt2 (l : Launch) : Ct l yX7_foundAt cX7_foundAt 3 (some .int) 0 T_X7_foundAt2 := Ct_mono (k_X7_foundAt l) m_X7_foundAt2
def ca_X6_best : Nat → Option (Nat × Nat × Tr)
  | 68 => some (3, 99, T_X6_within2)
  | 160 => some (3, 5, T_X5_hasPlace2)
  | 118 => some (2, 1, T_X1_load)
  | 122 => some (1, 4, T_X4_find)
  | _ => none
theorem cao_X6_best (l : Launch) : ∀ k n' ci T', ca_X6_best k = some (n', ci, T') → ∃ nn, nn + 1 ≤ 37 ∧ Site l yX6_best.cls k n' ci nn T' := by
  intro k n' ci T' h
  unfold ca_X6_best at h
  split at h
  · cases h; exact ⟨0, by decide, _, _, _, _, k_X6_within2 l, Or.inr ⟨rfl, FX6_within, Or.inl ⟨rfl, KRX6_68⟩⟩⟩
  · cases h; exact ⟨0, by decide, _, _, _, _, k_X5_hasPlace2 l, Or.inl ⟨_, rfl, FX5_hasPlace, KRX6_160⟩⟩
  · cases h; exact ⟨1, by decide, _, _, _, _, k_X1_load l, Or.inl ⟨_, rfl, FX1_load, KRX6_118⟩⟩
  · cases h; exact ⟨36, by decide, _, _, _, _, k_X4_find l, Or.inl ⟨_, rfl, FX4_find, KRX6_122⟩⟩
  · cases h
def T_X6_best : Tr := fun a σ K => match a with
  | [.inr (.inl (6, 0)), .inl m, .inl x] => (sWF σ 0 ∧ KSc σ) ∧ (¬ (-1 ≤ m ∧ m ≤ 3) → K (some (-2)) σ) ∧ (0 ≤ m → m ≤ 3 → ¬ (0 ≤ x ∧ x < σ 13 0 m) → K (some (-6)) σ) ∧ (-1 ≤ m → m ≤ 3 → (0 ≤ m → 0 ≤ x ∧ x < σ 13 0 m) → ∀ σ' le f, FrG pBe σ σ' → KSc σ' → sBst σ le f → le ≠ 1000000 → (m < 0 → K (some le) σ') ∧ (0 ≤ m → K (some (f (4 * m + x))) σ'))
  | _ => False
set_option maxHeartbeats 4000000 in
set_option maxRecDepth 20000 in
theorem k_X6_best (l : Launch) : Ct l yX6_best cX6_best 3 (some .int) 37 T_X6_best := by
  refine mk_met (by decide +kernel) hCX6_best lCX6_best frX6_ok cstX6_ok (cao_X6_best l) ?_ ?_
  · intro a σ K h
    unfold T_X6_best at h
    split at h
    · simp [eL]
    · exact h.elim
  · intro a σ K ha hR h
    unfold T_X6_best at h
    split at h
    · rename_i m x
      refine ⟨fun _ => none, 200, fun pc I L S σ' k h => (by cases h), ?_⟩
      simp only [wp, stp, drp, entL, eL, lget, lset, okst, cnd, swt, rcv, Kr_int, Kr_bool, Kr_void, List.length_cons, List.length_nil, List.replicate, List.append_nil, List.cons_append, List.nil_append, List.take_succ_cons, List.take_zero, List.drop_succ_cons, List.drop_zero, List.reverse_cons, List.reverse_nil, Option.map_some, Option.map_none, Option.toList_some, Option.toList_none, Nat.reduceAdd, Nat.reduceSub, Nat.reduceLT, Nat.reduceLeDiff, Nat.reduceEqDiff, ↓reduceIte, Nat.add_zero, Nat.zero_add, true_and, and_true, Nat.le_refl, reduceCtorEq, false_implies, true_implies, not_true_eq_false, not_false_eq_true, Int.reduceAdd, Int.reduceSub, Int.reduceMul, Int.reduceLE, Int.reduceLT, Int.reduceEq, Int.reduceNe, Int.reduceNeg, Int.reduceDiv, Int.reduceMod, Bool.false_eq_true, Int.le_refl, and_self, true_or, or_true, inR_l, fv0, fv1, fv2, fv3, nc2, nc4, nc6, nc16, nc25, nc60, nc65, nc80, nc130, nc384, nc390, fp_0_0, fp_0_1, fp_0_2, fp_1_0, fp_1_1, fp_1_2, fp_1_3, fp_1_4, fp_1_5, fp_1_6, fp_1_7, fp_1_8, fp_1_9, fp_1_10, fp_1_11, fp_1_12, fp_1_13, fp_1_14, fp_2_0, fp_2_1, fp_2_2, fp_2_3, fp_3_0, fp_3_1, fp_4_0, fp_4_1, fp_4_2, fp_4_3, fp_4_4, fp_4_5, fp_4_6, fp_4_7, fp_5_0, fp_5_1, fp_5_2, fp_5_3, fp_5_4, fp_5_5, fp_5_6, fp_5_7, fp_6_0, fp_6_1, fp_6_2, fp_6_3, fp_6_4, fp_6_5, fp_6_6, fp_6_7, fp_6_8, fp_6_9, fp_6_10, fp_6_11, fp_6_12, fp_6_13, fp_6_14, fp_6_15, fp_7_0, fp_7_1, fp_7_2, fp_7_3, fp_7_4, fp_7_5, fp_7_6, fp_7_7, fp_7_8, fp_7_9, fp_7_10, fp_7_11, fp_7_12, fp_7_13, fp_7_14, fp_7_15, fp_7_16, fp_7_17, fp_7_18, fp_7_19, fp_7_20, fp_7_21, fp_7_22, fp_7_23, fp_7_24, iz_0_1, iz_0_2, iz_1_8, iz_1_9, iz_1_11, iz_2_1, iz_2_2, iz_2_3, iz_3_1, iz_4_1, iz_4_2, iz_5_0, iz_6_8, iz_6_9, iz_6_13, iz_6_14, iz_6_15, iz_7_2, iz_7_6, iz_7_12, iz_7_20, iz_7_21, iz_7_23, iz_7_24, ak_8, ak_9, ak_10, ak_11, ak_12, ak_13, ak_14, ak_15, ak_16, ak_17, ak_18, ak_19, ak_20, ak_21, ak_22, ak_23, ak_24, ak_25, ak_26, ak_27, ak_28, ak_29, ak_30, ak_31, ak_32, ak_33, ak_34, ak_35, ak_36, ak_37, ak_38, ak_39, ak_40, ak_41, ak_42, ak_43, ak_44, ak_45, ak_46, ak_47, ak_48, ak_49, ak_50, ak_51, ak_52, ak_53, ak_54, ak_55, ak_56, el31, el33, el34, CX6_best, ca_X6_best, frX6, kcX6, klX6, T_X6_within2, T_X5_hasPlace2, T_X1_load, T_X4_find, xT_up, xL_20, xL_21]
      obtain ⟨⟨p, hk⟩, h1, h2, h⟩ := h
      have main : -1 ≤ m → m ≤ 3 → (0 ≤ m → 0 ≤ x ∧ x < σ 13 0 m) → ∀ σ1, Lod 2 0 σ σ1 → (nB σ1 2 ∧ nA σ1 2 ∧ nO σ1 2 ∧ ∃ v C, 0 ≤ v ∧ v < 1000 ∧ sSol σ1 0 v C) ∧ (σ1 4 0 1 ≠ 0 → (0 ≤ m → inR (4 * m) ∧ inR (4 * m + x) ∧ (0 ≤ 4 * m + x ∧ 4 * m + x < 16) ∧ K (some (σ1 27 0 (4 * m + x))) σ1) ∧ (¬ 0 ≤ m → K (some (σ1 4 0 2)) σ1)) ∧ (σ1 4 0 1 = 0 → ∀ σ2, FdR σ1 σ2 0 → (0 ≤ m → inR (4 * m) ∧ inR (4 * m + x) ∧ (0 ≤ 4 * m + x ∧ 4 * m + x < 16) ∧ K (some (σ2 27 0 (4 * m + x))) σ2) ∧ (¬ 0 ≤ m → K (some (σ2 4 0 2)) σ2)) := fun a b c σ1 hL => by
        have hf := find_k p hk hL
        have fin : ∀ σ2, FrG pBe σ σ2 ∧ KSc σ2 ∧ sBst σ (σ2 4 0 2) (σ2 27 0) ∧ σ2 4 0 2 ≠ 1000000 → (0 ≤ m → inR (4 * m) ∧ inR (4 * m + x) ∧ (0 ≤ 4 * m + x ∧ 4 * m + x < 16) ∧ K (some (σ2 27 0 (4 * m + x))) σ2) ∧ (¬ 0 ≤ m → K (some (σ2 4 0 2)) σ2) := fun σ2 hh => by
          have r := h a b c σ2 _ _ hh.1 hh.2.1 hh.2.2.1 hh.2.2.2
          refine ⟨fun m0 => ?_, fun m0 => r.1 (by omega)⟩
          have c' := c m0
          have l4 := (p.1.2.2.2.2.1 m m0 (by omega)).2
          exact ⟨by simp only [inR]; omega, by simp only [inR]; omega, by omega, r.2 m0⟩
        exact ⟨(find_pre p hL).2, fun hn => fin σ1 (hf.1 hn), fun _ σ2 hF => fin σ2 (hf.2 σ2 hF)⟩
      exact ⟨fun a => ⟨fun b => ⟨sWF_B p, fun σ1 hL => main a.1 a.2 (fun q => by omega) σ1 hL⟩, fun b => ⟨by omega, fun c => ⟨sWF_B p, fun σ1 hL => main a.1 a.2 (fun _ => c) σ1 hL⟩, fun c => h2 (by omega) a.2 c⟩⟩, h1⟩
    · exact h.elim
def ca_X6_takeBest : Nat → Option (Nat × Nat × Tr)
  | 118 => some (2, 1, T_X1_load)
  | 122 => some (1, 4, T_X4_find)
  | 76 => some (1, 6, T_X6_beginChange2)
  | 131 => some (2, 99, T_X6_copyRow)
  | _ => none
theorem cao_X6_takeBest (l : Launch) : ∀ k n' ci T', ca_X6_takeBest k = some (n', ci, T') → ∃ nn, nn + 1 ≤ 37 ∧ Site l yX6_takeBest.cls k n' ci nn T' := by
  intro k n' ci T' h
  unfold ca_X6_takeBest at h
  split at h
  · cases h; exact ⟨1, by decide, _, _, _, _, k_X1_load l, Or.inl ⟨_, rfl, FX1_load, KRX6_118⟩⟩
  · cases h; exact ⟨36, by decide, _, _, _, _, k_X4_find l, Or.inl ⟨_, rfl, FX4_find, KRX6_122⟩⟩
  · cases h; exact ⟨3, by decide, _, _, _, _, k_X6_beginChange2 l, Or.inl ⟨_, rfl, FX6_beginChange, KRX6_76⟩⟩
  · cases h; exact ⟨0, by decide, _, _, _, _, k_X6_copyRow l, Or.inr ⟨rfl, FX6_copyRow, Or.inl ⟨rfl, KRX6_131⟩⟩⟩
  · cases h
def T_X6_takeBest : Tr := fun a σ K => match a with
  | [.inr (.inl (6, 0))] => (sWF σ 0 ∧ KSc σ ∧ hsB σ) ∧ ∀ σ1 σ2 σ3 le f, FrG pBe σ σ1 → sBst σ le f → le ≠ 1000000 → RecE σ1 σ2 → (∀ t i j, (t ≠ 14 ∨ i ≠ 0) → σ3 t i j = σ2 t i j) → (∀ j, 0 ≤ j → j < 16 → σ3 14 0 j = f j) → K (some le) σ3
  | _ => False
set_option maxHeartbeats 4000000 in
set_option maxRecDepth 20000 in
theorem k_X6_takeBest (l : Launch) : Ct l yX6_takeBest cX6_takeBest 1 (some .int) 37 T_X6_takeBest := by
  refine mk_met (by decide +kernel) hCX6_takeBest lCX6_takeBest frX6_ok cstX6_ok (cao_X6_takeBest l) ?_ ?_
  · intro a σ K h
    unfold T_X6_takeBest at h
    split at h
    · simp [eL]
    · exact h.elim
  · intro a σ K ha hR h
    unfold T_X6_takeBest at h
    split at h
    · refine ⟨fun _ => none, 200, fun pc I L S σ' k h => (by cases h), ?_⟩
      simp only [wp, stp, drp, entL, eL, lget, lset, okst, cnd, swt, rcv, Kr_int, Kr_bool, Kr_void, List.length_cons, List.length_nil, List.replicate, List.append_nil, List.cons_append, List.nil_append, List.take_succ_cons, List.take_zero, List.drop_succ_cons, List.drop_zero, List.reverse_cons, List.reverse_nil, Option.map_some, Option.map_none, Option.toList_some, Option.toList_none, Nat.reduceAdd, Nat.reduceSub, Nat.reduceLT, Nat.reduceLeDiff, Nat.reduceEqDiff, ↓reduceIte, Nat.add_zero, Nat.zero_add, true_and, and_true, Nat.le_refl, reduceCtorEq, false_implies, true_implies, not_true_eq_false, not_false_eq_true, Int.reduceAdd, Int.reduceSub, Int.reduceMul, Int.reduceLE, Int.reduceLT, Int.reduceEq, Int.reduceNe, Int.reduceNeg, Int.reduceDiv, Int.reduceMod, Bool.false_eq_true, Int.le_refl, and_self, true_or, or_true, inR_l, fv0, fv1, fv2, fv3, nc2, nc4, nc6, nc16, nc25, nc60, nc65, nc80, nc130, nc384, nc390, fp_0_0, fp_0_1, fp_0_2, fp_1_0, fp_1_1, fp_1_2, fp_1_3, fp_1_4, fp_1_5, fp_1_6, fp_1_7, fp_1_8, fp_1_9, fp_1_10, fp_1_11, fp_1_12, fp_1_13, fp_1_14, fp_2_0, fp_2_1, fp_2_2, fp_2_3, fp_3_0, fp_3_1, fp_4_0, fp_4_1, fp_4_2, fp_4_3, fp_4_4, fp_4_5, fp_4_6, fp_4_7, fp_5_0, fp_5_1, fp_5_2, fp_5_3, fp_5_4, fp_5_5, fp_5_6, fp_5_7, fp_6_0, fp_6_1, fp_6_2, fp_6_3, fp_6_4, fp_6_5, fp_6_6, fp_6_7, fp_6_8, fp_6_9, fp_6_10, fp_6_11, fp_6_12, fp_6_13, fp_6_14, fp_6_15, fp_7_0, fp_7_1, fp_7_2, fp_7_3, fp_7_4, fp_7_5, fp_7_6, fp_7_7, fp_7_8, fp_7_9, fp_7_10, fp_7_11, fp_7_12, fp_7_13, fp_7_14, fp_7_15, fp_7_16, fp_7_17, fp_7_18, fp_7_19, fp_7_20, fp_7_21, fp_7_22, fp_7_23, fp_7_24, iz_0_1, iz_0_2, iz_1_8, iz_1_9, iz_1_11, iz_2_1, iz_2_2, iz_2_3, iz_3_1, iz_4_1, iz_4_2, iz_5_0, iz_6_8, iz_6_9, iz_6_13, iz_6_14, iz_6_15, iz_7_2, iz_7_6, iz_7_12, iz_7_20, iz_7_21, iz_7_23, iz_7_24, ak_8, ak_9, ak_10, ak_11, ak_12, ak_13, ak_14, ak_15, ak_16, ak_17, ak_18, ak_19, ak_20, ak_21, ak_22, ak_23, ak_24, ak_25, ak_26, ak_27, ak_28, ak_29, ak_30, ak_31, ak_32, ak_33, ak_34, ak_35, ak_36, ak_37, ak_38, ak_39, ak_40, ak_41, ak_42, ak_43, ak_44, ak_45, ak_46, ak_47, ak_48, ak_49, ak_50, ak_51, ak_52, ak_53, ak_54, ak_55, ak_56, el31, el33, el34, CX6_takeBest, ca_X6_takeBest, frX6, kcX6, klX6, T_X1_load, T_X4_find, T_X6_beginChange2, T_X6_copyRow, xT_up, xL_20, xL_21]
      obtain ⟨⟨p, hk, hh⟩, h⟩ := h
      refine ⟨sWF_B p, fun σ1 hL => ⟨(find_pre p hL).2, ?_⟩⟩
      have hf := find_k p hk hL
      have fin : ∀ σ2, FrG pBe σ σ2 ∧ KSc σ2 ∧ sBst σ (σ2 4 0 2) (σ2 27 0) ∧ σ2 4 0 2 ≠ 1000000 → hsB σ2 ∧ ∀ σ3, RecE σ2 σ3 → ∀ σ4 : Mem, (∀ (t i : Nat) (j : Int), t ≠ 14 ∨ i ≠ 0 → σ4 t i j = σ3 t i j) → (∀ j, 0 ≤ j → j < 16 → σ4 14 0 j = σ3 27 0 j) → (∀ j, j < 0 ∨ 16 ≤ j → σ4 14 0 j = σ3 14 0 j) → K (some (σ4 4 0 2)) σ4 := fun σ2 q => by
        refine ⟨?_, fun σ3 hR σ4 e1 e2 e3 => ?_⟩
        · unfold hsB
          rw [pBe_f q.1 0 0 (by omega)]
          exact hh
        · have e : σ4 4 0 2 = σ2 4 0 2 := by
            rw [e1 4 0 2 (by omega), RecE_e hR 4 0 2 (by omega)]
          rw [e]
          exact h σ2 σ3 σ4 _ (σ2 27 0) q.1 q.2.2.1 q.2.2.2 hR e1 (fun j a b => by rw [e2 j a b, RecE_e hR 27 0 j (by omega)])
      exact ⟨fun hn => fin σ1 (hf.1 hn), fun _ σ2 hF => fin σ2 (hf.2 σ2 hF)⟩
    · exact h.elim
def ca_X7_best : Nat → Option (Nat × Nat × Tr)
  | 87 => some (3, 99, T_X7_in2)
  | 192 => some (1, 7, T_X7_findBest)
  | 195 => some (3, 7, T_X7_foundAt2)
  | _ => none
theorem cao_X7_best (l : Launch) : ∀ k n' ci T', ca_X7_best k = some (n', ci, T') → ∃ nn, nn + 1 ≤ 6 ∧ Site l yX7_best.cls k n' ci nn T' := by
  intro k n' ci T' h
  unfold ca_X7_best at h
  split at h
  · cases h; exact ⟨0, by decide, _, _, _, _, k_X7_in2 l, Or.inr ⟨rfl, FX7_in, Or.inl ⟨rfl, KRX7_87⟩⟩⟩
  · cases h; exact ⟨5, by decide, _, _, _, _, k_X7_findBest l, Or.inl ⟨_, rfl, FX7_findBest, KRX7_192⟩⟩
  · cases h; exact ⟨0, by decide, _, _, _, _, k_X7_foundAt2 l, Or.inl ⟨_, rfl, FX7_foundAt, KRX7_195⟩⟩
  · cases h
def T_X7_best : Tr := fun a σ K => match a with
  | [.inr (.inl (7, 0)), .inl m, .inl x] => rWF σ ∧ (¬ (-1 ≤ m ∧ m ≤ 3) → K (some (-2)) σ) ∧ (-1 ≤ m → m ≤ 3 → ∀ σ' le, FrG pFB σ σ' → bstS (rSt σ) (rMc σ) (rDu σ) (rRe σ) (rLn σ) (rQ σ) le (σ' 51 0) → (m < 0 → K (some le) σ') ∧ (0 ≤ m → ¬ (0 ≤ x ∧ x < rLn σ m) → K (some (-6)) σ') ∧ (0 ≤ m → 0 ≤ x ∧ x < rLn σ m → K (some (σ' 51 0 (4 * m + x))) σ'))
  | _ => False
set_option maxHeartbeats 4000000 in
set_option maxRecDepth 20000 in
theorem k_X7_best (l : Launch) : Ct l yX7_best cX7_best 4 (some .int) 6 T_X7_best := by
  refine mk_met (by decide +kernel) hCX7_best lCX7_best frX7_ok cstX7_ok (cao_X7_best l) ?_ ?_
  · intro a σ K h
    unfold T_X7_best at h
    split at h
    · simp [eL]
    · exact h.elim
  · intro a σ K ha hR h
    unfold T_X7_best at h
    split at h
    · rename_i m x
      refine ⟨fun _ => none, 200, fun pc I L S σ' k h => (by cases h), ?_⟩
      simp only [wp, stp, drp, entL, eL, lget, lset, okst, cnd, swt, rcv, Kr_int, Kr_bool, Kr_void, List.length_cons, List.length_nil, List.replicate, List.append_nil, List.cons_append, List.nil_append, List.take_succ_cons, List.take_zero, List.drop_succ_cons, List.drop_zero, List.reverse_cons, List.reverse_nil, Option.map_some, Option.map_none, Option.toList_some, Option.toList_none, Nat.reduceAdd, Nat.reduceSub, Nat.reduceLT, Nat.reduceLeDiff, Nat.reduceEqDiff, ↓reduceIte, Nat.add_zero, Nat.zero_add, true_and, and_true, Nat.le_refl, reduceCtorEq, false_implies, true_implies, not_true_eq_false, not_false_eq_true, Int.reduceAdd, Int.reduceSub, Int.reduceMul, Int.reduceLE, Int.reduceLT, Int.reduceEq, Int.reduceNe, Int.reduceNeg, Int.reduceDiv, Int.reduceMod, Bool.false_eq_true, Int.le_refl, and_self, true_or, or_true, inR_l, fv0, fv1, fv2, fv3, nc2, nc4, nc6, nc16, nc25, nc60, nc65, nc80, nc130, nc384, nc390, fp_0_0, fp_0_1, fp_0_2, fp_1_0, fp_1_1, fp_1_2, fp_1_3, fp_1_4, fp_1_5, fp_1_6, fp_1_7, fp_1_8, fp_1_9, fp_1_10, fp_1_11, fp_1_12, fp_1_13, fp_1_14, fp_2_0, fp_2_1, fp_2_2, fp_2_3, fp_3_0, fp_3_1, fp_4_0, fp_4_1, fp_4_2, fp_4_3, fp_4_4, fp_4_5, fp_4_6, fp_4_7, fp_5_0, fp_5_1, fp_5_2, fp_5_3, fp_5_4, fp_5_5, fp_5_6, fp_5_7, fp_6_0, fp_6_1, fp_6_2, fp_6_3, fp_6_4, fp_6_5, fp_6_6, fp_6_7, fp_6_8, fp_6_9, fp_6_10, fp_6_11, fp_6_12, fp_6_13, fp_6_14, fp_6_15, fp_7_0, fp_7_1, fp_7_2, fp_7_3, fp_7_4, fp_7_5, fp_7_6, fp_7_7, fp_7_8, fp_7_9, fp_7_10, fp_7_11, fp_7_12, fp_7_13, fp_7_14, fp_7_15, fp_7_16, fp_7_17, fp_7_18, fp_7_19, fp_7_20, fp_7_21, fp_7_22, fp_7_23, fp_7_24, iz_0_1, iz_0_2, iz_1_8, iz_1_9, iz_1_11, iz_2_1, iz_2_2, iz_2_3, iz_3_1, iz_4_1, iz_4_2, iz_5_0, iz_6_8, iz_6_9, iz_6_13, iz_6_14, iz_6_15, iz_7_2, iz_7_6, iz_7_12, iz_7_20, iz_7_21, iz_7_23, iz_7_24, ak_8, ak_9, ak_10, ak_11, ak_12, ak_13, ak_14, ak_15, ak_16, ak_17, ak_18, ak_19, ak_20, ak_21, ak_22, ak_23, ak_24, ak_25, ak_26, ak_27, ak_28, ak_29, ak_30, ak_31, ak_32, ak_33, ak_34, ak_35, ak_36, ak_37, ak_38, ak_39, ak_40, ak_41, ak_42, ak_43, ak_44, ak_45, ak_46, ak_47, ak_48, ak_49, ak_50, ak_51, ak_52, ak_53, ak_54, ak_55, ak_56, el31, el33, el34, CX7_best, ca_X7_best, frX7, kcX7, klX7, T_X7_in2, T_X7_findBest, T_X7_foundAt2, xT_up, xL_20, xL_21]
      obtain ⟨p, h1, h⟩ := h
      refine ⟨fun a => ⟨p, fun σ' le hF hB => ?_⟩, h1⟩
      have e : σ' 38 0 = σ 38 0 := hF.f 38 0 (by rintro x ⟨-, q⟩; omega)
      have eL : rLn σ' m = rLn σ m := by unfold rLn; rw [e]
      obtain ⟨r1, r2, r3⟩ := h a.1 a.2 σ' le hF hB
      refine ⟨fun b => ⟨⟨by omega, by omega, ?_⟩, ?_⟩, fun b => r1 (by omega)⟩
      · have := (rW_l p m (by omega) (by omega)).2
        rw [← eL] at this
        exact this
      · rw [eL]
        exact ⟨r3 (by omega), r2 (by omega)⟩
    · exact h.elim
def ca_X7_takeBest : Nat → Option (Nat × Nat × Tr)
  | 91 => some (1, 7, T_X7_keep2)
  | 192 => some (1, 7, T_X7_findBest)
  | 188 => some (2, 7, T_X7_putOrders)
  | _ => none
theorem cao_X7_takeBest (l : Launch) : ∀ k n' ci T', ca_X7_takeBest k = some (n', ci, T') → ∃ nn, nn + 1 ≤ 6 ∧ Site l yX7_takeBest.cls k n' ci nn T' := by
  intro k n' ci T' h
  unfold ca_X7_takeBest at h
  split at h
  · cases h; exact ⟨0, by decide, _, _, _, _, k_X7_keep2 l, Or.inl ⟨_, rfl, FX7_keep, KRX7_91⟩⟩
  · cases h; exact ⟨5, by decide, _, _, _, _, k_X7_findBest l, Or.inl ⟨_, rfl, FX7_findBest, KRX7_192⟩⟩
  · cases h; exact ⟨0, by decide, _, _, _, _, k_X7_putOrders l, Or.inl ⟨_, rfl, FX7_putOrders, KRX7_188⟩⟩
  · cases h
def T_X7_takeBest : Tr := fun a σ K => match a with
  | [.inr (.inl (7, 0))] => (rWF σ ∧ 0 ≤ σ 7 0 2 ∧ σ 7 0 2 ≤ 6) ∧ ∀ σ1 σ2 σ3 le, KEE σ σ1 → FrG pFB σ1 σ2 → bstS (rSt σ1) (rMc σ1) (rDu σ1) (rRe σ1) (rLn σ1) (rQ σ1) le (σ2 51 0) → CpR σ2 σ3 38 49 16 (σ2 51 0) 16 → K (some le) σ3
  | _ => False
set_option maxHeartbeats 4000000 in
set_option maxRecDepth 20000 in
theorem k_X7_takeBest (l : Launch) : Ct l yX7_takeBest cX7_takeBest 2 (some .int) 6 T_X7_takeBest := by
  refine mk_met (by decide +kernel) hCX7_takeBest lCX7_takeBest frX7_ok cstX7_ok (cao_X7_takeBest l) ?_ ?_
  · intro a σ K h
    unfold T_X7_takeBest at h
    split at h
    · simp [eL]
    · exact h.elim
  · intro a σ K ha hR h
    unfold T_X7_takeBest at h
    split at h
    · refine ⟨fun _ => none, 200, fun pc I L S σ' k h => (by cases h), ?_⟩
      simp only [wp, stp, drp, entL, eL, lget, lset, okst, cnd, swt, rcv, Kr_int, Kr_bool, Kr_void, List.length_cons, List.length_nil, List.replicate, List.append_nil, List.cons_append, List.nil_append, List.take_succ_cons, List.take_zero, List.drop_succ_cons, List.drop_zero, List.reverse_cons, List.reverse_nil, Option.map_some, Option.map_none, Option.toList_some, Option.toList_none, Nat.reduceAdd, Nat.reduceSub, Nat.reduceLT, Nat.reduceLeDiff, Nat.reduceEqDiff, ↓reduceIte, Nat.add_zero, Nat.zero_add, true_and, and_true, Nat.le_refl, reduceCtorEq, false_implies, true_implies, not_true_eq_false, not_false_eq_true, Int.reduceAdd, Int.reduceSub, Int.reduceMul, Int.reduceLE, Int.reduceLT, Int.reduceEq, Int.reduceNe, Int.reduceNeg, Int.reduceDiv, Int.reduceMod, Bool.false_eq_true, Int.le_refl, and_self, true_or, or_true, inR_l, fv0, fv1, fv2, fv3, nc2, nc4, nc6, nc16, nc25, nc60, nc65, nc80, nc130, nc384, nc390, fp_0_0, fp_0_1, fp_0_2, fp_1_0, fp_1_1, fp_1_2, fp_1_3, fp_1_4, fp_1_5, fp_1_6, fp_1_7, fp_1_8, fp_1_9, fp_1_10, fp_1_11, fp_1_12, fp_1_13, fp_1_14, fp_2_0, fp_2_1, fp_2_2, fp_2_3, fp_3_0, fp_3_1, fp_4_0, fp_4_1, fp_4_2, fp_4_3, fp_4_4, fp_4_5, fp_4_6, fp_4_7, fp_5_0, fp_5_1, fp_5_2, fp_5_3, fp_5_4, fp_5_5, fp_5_6, fp_5_7, fp_6_0, fp_6_1, fp_6_2, fp_6_3, fp_6_4, fp_6_5, fp_6_6, fp_6_7, fp_6_8, fp_6_9, fp_6_10, fp_6_11, fp_6_12, fp_6_13, fp_6_14, fp_6_15, fp_7_0, fp_7_1, fp_7_2, fp_7_3, fp_7_4, fp_7_5, fp_7_6, fp_7_7, fp_7_8, fp_7_9, fp_7_10, fp_7_11, fp_7_12, fp_7_13, fp_7_14, fp_7_15, fp_7_16, fp_7_17, fp_7_18, fp_7_19, fp_7_20, fp_7_21, fp_7_22, fp_7_23, fp_7_24, iz_0_1, iz_0_2, iz_1_8, iz_1_9, iz_1_11, iz_2_1, iz_2_2, iz_2_3, iz_3_1, iz_4_1, iz_4_2, iz_5_0, iz_6_8, iz_6_9, iz_6_13, iz_6_14, iz_6_15, iz_7_2, iz_7_6, iz_7_12, iz_7_20, iz_7_21, iz_7_23, iz_7_24, ak_8, ak_9, ak_10, ak_11, ak_12, ak_13, ak_14, ak_15, ak_16, ak_17, ak_18, ak_19, ak_20, ak_21, ak_22, ak_23, ak_24, ak_25, ak_26, ak_27, ak_28, ak_29, ak_30, ak_31, ak_32, ak_33, ak_34, ak_35, ak_36, ak_37, ak_38, ak_39, ak_40, ak_41, ak_42, ak_43, ak_44, ak_45, ak_46, ak_47, ak_48, ak_49, ak_50, ak_51, ak_52, ak_53, ak_54, ak_55, ak_56, el31, el33, el34, CX7_takeBest, ca_X7_takeBest, frX7, kcX7, klX7, T_X7_keep2, T_X7_findBest, T_X7_putOrders, xT_up, xL_20, xL_21]
      obtain ⟨⟨p, q⟩, h⟩ := h
      refine ⟨q, fun σ1 hK => ⟨(r38 (KEE_w hK)).2.2.2.2.2.2.2.1.mpr p, fun σ2 le hF hB => ⟨by omega, fun σ3 hc => h σ1 σ2 σ3 le hK hF hB hc⟩⟩⟩
    · exact h.elim
