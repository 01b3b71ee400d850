/-! the reference's findBest -/
theorem LAY_w {σ σ' : Mem} {fs : Int → Int} {m : Int} (hw : rWF σ) (h : LAY σ fs σ' m) : rWF σ' := by
  obtain ⟨h1, h2, h3⟩ := h
  obtain ⟨e0, e1, e2, e3, e4⟩ := rts_e h1
  have hq : ∀ m', 0 ≤ m' → m' < 4 → PRM (rLn σ m') (fun k => rQ σ' (4 * m' + k)) (fun k => rQ σ (4 * m' + k)) := fun m' a b => by
    by_cases c : m' < m
    · exact (h3 m' a c).1.1
    · exact PRM_cg (PRM_r (fun k k' p q r s t => hw.1.2.2.2.2.2.2.1 m' k k' a b p q r s t)) (fun k k0 k1 => h2 m' (by omega) b k k0 k1)
  have ag : AG (σ 38 0 0) (σ' 38 0 0) (rSt σ) (rSt σ') (rMc σ) (rMc σ') (rDu σ) (rDu σ') (rRe σ) (rRe σ') (rLn σ) (rLn σ') (rQ σ') (rQ σ') := ⟨e0.symm, fun j a b => (e1 j a b).1.symm, fun o v => ⟨(e2 o v.1 v.2.1).1.symm, (e2 o v.1 v.2.1).2.symm, (e1 _ (vOp_j v).1 (vOp_j v).2.1).2.1.symm⟩, fun m a b => (e3 m a b).symm, fun _ _ _ _ _ _ => rfl⟩
  refine ⟨ag.wf (WF_arr hw.1 hq), fun j a b => ?_⟩
  rw [e0] at b
  have j4 : j < 4 := by
    have := hw.1.1
    omega
  rw [(e1 j a j4).2.1, (e1 j a j4).2.2]
  exact hw.2 j a b
def pFB (t a : Nat) (_x : Int) : Prop := a = 0 ∧ (t = 43 ∨ t = 44 ∨ t = 45 ∨ t = 48 ∨ t = 49 ∨ t = 50 ∨ t = 51 ∨ t = 52)
def pF2 (t a : Nat) (x : Int) : Prop := pFB t a x ∨ (a = 0 ∧ t = 38 ∧ 49 ≤ x ∧ x < 65)
def FBi (σ σ' : Mem) (m : Int) : Prop := FrG pF2 σ σ' ∧ LAY σ (fun _ => 0) σ' m ∧ ∀ x, 0 ≤ x → x < 16 → σ' 52 0 x = rQ σ x ∧ σ' 43 0 x = 0 ∧ σ' 44 0 x = 0
theorem FBi_0 {σ σ1 σ2 : Mem} (h1 : CpR σ σ1 52 0 16 (rQ σ) 16) (h2 : NS σ1 σ2 16) : FBi σ σ2 0 := by
  obtain ⟨c1, -, -, c4⟩ := h1
  have hF : FrG pF2 σ σ2 := (c1.w (by rintro t a x ⟨q1, q2, -⟩; exact Or.inl ⟨q2, by omega⟩)).t (h2.1.w (by rintro t a x ⟨q1, q2⟩; exact Or.inl ⟨q2, by omega⟩))
  refine ⟨hF, LAY_0 ?_, fun x x0 x1 => ⟨?_, h2.2 x x0 x1⟩⟩
  · rw [h2.1.f 38 0 (by rintro x ⟨q, -⟩; omega), c1.f 38 0 (by rintro x ⟨q, -⟩; omega)]
  · rw [h2.1 52 0 x (by rintro ⟨q, -⟩; omega)]
    have := c4 x x0 x1
    rw [Int.zero_add] at this
    exact this
theorem rW_l {σ : Mem} (hw : rWF σ) : ∀ m, 0 ≤ m → m < 4 → 0 ≤ rLn σ m ∧ rLn σ m ≤ 4 := fun m a b => hw.1.2.2.2.2.1 m a b
theorem FBi_s {σ σ' σ2 : Mem} {m : Int} (hw : rWF σ) (m0 : 0 ≤ m) (m1 : m < 4) (h : FBi σ σ' m) (hE : LPE σ' σ2 m 0) : FBi σ σ2 (m + 1) := by
  obtain ⟨h1, h2, h3⟩ := h
  have f := hE.1.1
  have l := rW_l (LAY_w hw h2) m m0 m1
  refine ⟨h1.t (f.w (by
    rintro t a x ⟨q1, q | q | q⟩
    · exact Or.inr ⟨q1, by omega⟩
    · exact Or.inl ⟨q1, by omega⟩
    · exact Or.inl ⟨q1, by omega⟩)), LAY_s (fs := fun _ => 0) (fun m a b => (rW_l hw m a b).1) (fun m a b => (rW_l hw m a b).2) m0 m1 h2 hE, fun x x0 x1 => ?_⟩
  rw [f 52 0 x (by rintro ⟨-, q | q | q⟩ <;> omega), f 43 0 x (by rintro ⟨-, q | q | q⟩ <;> omega), f 44 0 x (by rintro ⟨-, q | q | q⟩ <;> omega)]
  exact h3 x x0 x1
theorem FBi_sp {σ σ' : Mem} {m : Int} (hw : rWF σ) (h : FBi σ σ' m) (hm : m = 4) : SPr σ' (rQ σ) (fun _ => 0) := by
  subst hm
  exact LAY_sp hw (fun m a b => ⟨Int.le_refl _, (rW_l hw m a b).1⟩) (fun o v => by
    have := h.2.2 o v.1 v.2.1
    rw [this.2.1, this.2.2]
    exact ⟨by omega, by omega, fun q => absurd rfl q⟩) h.2.1
theorem FBi_end {σ σ' σ3 σ4 : Mem} {m le : Int} (hw : rWF σ) (h : FBi σ σ' m) (hm : m = 4) (hS : SRe σ' (rQ σ) (fun _ => 0) σ3 le) (hc : CpR σ3 σ4 38 49 16 (σ3 52 0) 16) : FrG pFB σ σ4 ∧ bstS (rSt σ) (rMc σ) (rDu σ) (rRe σ) (rLn σ) (rQ σ) le (σ4 51 0) := by
  have hp := FBi_sp hw h hm
  subst hm
  obtain ⟨h1, h2, h3⟩ := h
  obtain ⟨c1, -, -, c4⟩ := hc
  have s1 := hS.1.1
  have e51 : σ4 51 0 = σ3 51 0 := c1.f 51 0 (by rintro x ⟨q, -⟩; omega)
  refine ⟨fun t a x q => ?_, ?_⟩
  · by_cases c : t = 38 ∧ a = 0 ∧ 49 ≤ x ∧ x < 65
    · obtain ⟨rfl, rfl, x0, x1⟩ := c
      have := c4 (x - 49) (by omega) (by omega)
      rw [show 49 + (x - 49) = x by omega] at this
      rw [this, s1 52 0 _ (by rintro ⟨-, q | q | q | q⟩ <;> omega), (h3 (x - 49) (by omega) (by omega)).1]
      unfold rQ
      rw [show 49 + (x - 49) = x by omega]
    · rw [c1 t a x (fun ⟨q1, q2, q3, q4⟩ => c ⟨q1, q2, q3, q4⟩), s1 t a x (by
        rintro ⟨rfl, z | z | z | z⟩
        · exact c ⟨z.1, rfl, z.2⟩
        · exact q ⟨rfl, by omega⟩
        · exact q ⟨rfl, by omega⟩
        · exact q ⟨rfl, by omega⟩), h1 t a x (by
        rintro (z | ⟨z1, z2, z3⟩)
        · exact q z
        · exact c ⟨z2, z1, z3⟩)]
  · rw [e51]
    exact SRe_best hw h2.1 hp (fun o v => (h3 o v.1 v.2.1).2) hS
def ca_X7_findBest : Nat → Option (Nat × Nat × Tr)
  | 179 => some (1, 7, T_X7_keepOrders)
  | 130 => some (1, 7, T_X7_nothingStays)
  | 182 => some (3, 7, T_X7_layPlans)
  | 185 => some (1, 7, T_X7_search)
  | 188 => some (2, 7, T_X7_putOrders)
  | _ => none
theorem cao_X7_findBest (l : Launch) : ∀ k n' ci T', ca_X7_findBest k = some (n', ci, T') → ∃ nn, nn + 1 ≤ 5 ∧ Site l yX7_findBest.cls k n' ci nn T' := by
  intro k n' ci T' h
  unfold ca_X7_findBest at h
  split at h
  · cases h; exact ⟨0, by decide, _, _, _, _, k_X7_keepOrders l, Or.inl ⟨_, rfl, FX7_keepOrders, KRX7_179⟩⟩
  · cases h; exact ⟨0, by decide, _, _, _, _, k_X7_nothingStays l, Or.inl ⟨_, rfl, FX7_nothingStays, KRX7_130⟩⟩
  · cases h; exact ⟨1, by decide, _, _, _, _, k_X7_layPlans l, Or.inl ⟨_, rfl, FX7_layPlans, KRX7_182⟩⟩
  · cases h; exact ⟨4, by decide, _, _, _, _, k_X7_search l, Or.inl ⟨_, rfl, FX7_search, KRX7_185⟩⟩
  · cases h; exact ⟨0, by decide, _, _, _, _, k_X7_putOrders l, Or.inl ⟨_, rfl, FX7_putOrders, KRX7_188⟩⟩
  · cases h
def T_X7_findBest : Tr := fun a σ K => match a with
  | [.inr (.inl (7, 0))] => rWF σ ∧ ∀ σ' le, FrG pFB σ σ' → bstS (rSt σ) (rMc σ) (rDu σ) (rRe σ) (rLn σ) (rQ σ) le (σ' 51 0) → K (some le) σ'
  | _ => False
set_option maxHeartbeats 8000000 in
set_option maxRecDepth 20000 in
theorem k_X7_findBest (l : Launch) : Ct l yX7_findBest cX7_findBest 2 (some .int) 5 T_X7_findBest := by
  refine mk_met (by decide +kernel) hCX7_findBest lCX7_findBest frX7_ok cstX7_ok (cao_X7_findBest l) ?_ ?_
  · intro a σ K h
    unfold T_X7_findBest at h
    split at h
    · simp [eL]
    · exact h.elim
  · intro a σ K ha hR h
    unfold T_X7_findBest at h
    split at h
    · refine ⟨fun pc => if pc = 10 then some (fun L S σ' k => match L, S with | [some (.inr (.inl c1)), some (.inl m)], [] => (c1 = (7, 0) ∧ 0 ≤ m ∧ m ≤ 4 ∧ FBi σ σ' m) ∧ k = (10 - m).toNat | _, _ => False) else none, 200, ?_, ?_⟩
      · intro pc I L S σ' k hcut hi
        dsimp only at hcut
        split at hcut
        · rename_i hpc
          subst hpc
          cases hcut
          try dsimp only at hi
          split at hi
          · rename_i c1 m
            obtain ⟨hi, rfl⟩ := hi
            obtain ⟨rfl, m0, m4, hI⟩ := hi
            obtain ⟨p, h⟩ := h
            simp only [wp, stp, drp, entL, eL, lget, lset, okst, cnd, swt, rcv, Kr_int, Kr_bool, Kr_void, List.length_cons, List.length_nil, List.replicate, List.append_nil, List.cons_append, List.nil_append, List.take_succ_cons, List.take_zero, List.drop_succ_cons, List.drop_zero, List.reverse_cons, List.reverse_nil, Option.map_some, Option.map_none, Option.toList_some, Option.toList_none, Nat.reduceAdd, Nat.reduceSub, Nat.reduceLT, Nat.reduceLeDiff, Nat.reduceEqDiff, ↓reduceIte, Nat.add_zero, Nat.zero_add, true_and, and_true, Nat.le_refl, reduceCtorEq, false_implies, true_implies, not_true_eq_false, not_false_eq_true, Int.reduceAdd, Int.reduceSub, Int.reduceMul, Int.reduceLE, Int.reduceLT, Int.reduceEq, Int.reduceNe, Int.reduceNeg, Int.reduceDiv, Int.reduceMod, Bool.false_eq_true, Int.le_refl, and_self, true_or, or_true, inR_l, fv0, fv1, fv2, fv3, nc2, nc4, nc6, nc16, nc25, nc60, nc65, nc80, nc130, nc384, nc390, fp_0_0, fp_0_1, fp_0_2, fp_1_0, fp_1_1, fp_1_2, fp_1_3, fp_1_4, fp_1_5, fp_1_6, fp_1_7, fp_1_8, fp_1_9, fp_1_10, fp_1_11, fp_1_12, fp_1_13, fp_1_14, fp_2_0, fp_2_1, fp_2_2, fp_2_3, fp_3_0, fp_3_1, fp_4_0, fp_4_1, fp_4_2, fp_4_3, fp_4_4, fp_4_5, fp_4_6, fp_4_7, fp_5_0, fp_5_1, fp_5_2, fp_5_3, fp_5_4, fp_5_5, fp_5_6, fp_5_7, fp_6_0, fp_6_1, fp_6_2, fp_6_3, fp_6_4, fp_6_5, fp_6_6, fp_6_7, fp_6_8, fp_6_9, fp_6_10, fp_6_11, fp_6_12, fp_6_13, fp_6_14, fp_6_15, fp_7_0, fp_7_1, fp_7_2, fp_7_3, fp_7_4, fp_7_5, fp_7_6, fp_7_7, fp_7_8, fp_7_9, fp_7_10, fp_7_11, fp_7_12, fp_7_13, fp_7_14, fp_7_15, fp_7_16, fp_7_17, fp_7_18, fp_7_19, fp_7_20, fp_7_21, fp_7_22, fp_7_23, fp_7_24, iz_0_1, iz_0_2, iz_1_8, iz_1_9, iz_1_11, iz_2_1, iz_2_2, iz_2_3, iz_3_1, iz_4_1, iz_4_2, iz_5_0, iz_6_8, iz_6_9, iz_6_13, iz_6_14, iz_6_15, iz_7_2, iz_7_6, iz_7_12, iz_7_20, iz_7_21, iz_7_23, iz_7_24, ak_8, ak_9, ak_10, ak_11, ak_12, ak_13, ak_14, ak_15, ak_16, ak_17, ak_18, ak_19, ak_20, ak_21, ak_22, ak_23, ak_24, ak_25, ak_26, ak_27, ak_28, ak_29, ak_30, ak_31, ak_32, ak_33, ak_34, ak_35, ak_36, ak_37, ak_38, ak_39, ak_40, ak_41, ak_42, ak_43, ak_44, ak_45, ak_46, ak_47, ak_48, ak_49, ak_50, ak_51, ak_52, ak_53, ak_54, ak_55, ak_56, el31, el33, el34, CX7_findBest, ca_X7_findBest, frX7, kcX7, klX7, T_X7_keepOrders, T_X7_nothingStays, T_X7_layPlans, T_X7_search, T_X7_putOrders, xT_up, xL_20, xL_21, exists_eq_right_right, exists_eq_right, exists_eq_left, Nat.lt_irrefl, and_self, implies_true, forall_const]
            refine ⟨fun c => ⟨rQ σ, fun _ => 0, FBi_sp p hI (by omega), fun σ3 le hS => ⟨by omega, fun σ4 hc => ?_⟩⟩, fun c => ⟨⟨LAY_w p hI.2.1, m0, by omega, (rW_l (LAY_w p hI.2.1) m m0 (by omega)).1⟩, fun σ2 hE => ⟨by simp only [inR]; omega, by omega, by omega, by omega, FBi_s p m0 (by omega) hI hE⟩⟩⟩
            have e := FBi_end p hI (by omega) hS hc
            exact h σ4 le e.1 e.2
          · exact hi.elim
        · cases hcut
      · simp only [wp, stp, drp, entL, eL, lget, lset, okst, cnd, swt, rcv, Kr_int, Kr_bool, Kr_void, List.length_cons, List.length_nil, List.replicate, List.append_nil, List.cons_append, List.nil_append, List.take_succ_cons, List.take_zero, List.drop_succ_cons, List.drop_zero, List.reverse_cons, List.reverse_nil, Option.map_some, Option.map_none, Option.toList_some, Option.toList_none, Nat.reduceAdd, Nat.reduceSub, Nat.reduceLT, Nat.reduceLeDiff, Nat.reduceEqDiff, ↓reduceIte, Nat.add_zero, Nat.zero_add, true_and, and_true, Nat.le_refl, reduceCtorEq, false_implies, true_implies, not_true_eq_false, not_false_eq_true, Int.reduceAdd, Int.reduceSub, Int.reduceMul, Int.reduceLE, Int.reduceLT, Int.reduceEq, Int.reduceNe, Int.reduceNeg, Int.reduceDiv, Int.reduceMod, Bool.false_eq_true, Int.le_refl, and_self, true_or, or_true, inR_l, fv0, fv1, fv2, fv3, nc2, nc4, nc6, nc16, nc25, nc60, nc65, nc80, nc130, nc384, nc390, fp_0_0, fp_0_1, fp_0_2, fp_1_0, fp_1_1, fp_1_2, fp_1_3, fp_1_4, fp_1_5, fp_1_6, fp_1_7, fp_1_8, fp_1_9, fp_1_10, fp_1_11, fp_1_12, fp_1_13, fp_1_14, fp_2_0, fp_2_1, fp_2_2, fp_2_3, fp_3_0, fp_3_1, fp_4_0, fp_4_1, fp_4_2, fp_4_3, fp_4_4, fp_4_5, fp_4_6, fp_4_7, fp_5_0, fp_5_1, fp_5_2, fp_5_3, fp_5_4, fp_5_5, fp_5_6, fp_5_7, fp_6_0, fp_6_1, fp_6_2, fp_6_3, fp_6_4, fp_6_5, fp_6_6, fp_6_7, fp_6_8, fp_6_9, fp_6_10, fp_6_11, fp_6_12, fp_6_13, fp_6_14, fp_6_15, fp_7_0, fp_7_1, fp_7_2, fp_7_3, fp_7_4, fp_7_5, fp_7_6, fp_7_7, fp_7_8, fp_7_9, fp_7_10, fp_7_11, fp_7_12, fp_7_13, fp_7_14, fp_7_15, fp_7_16, fp_7_17, fp_7_18, fp_7_19, fp_7_20, fp_7_21, fp_7_22, fp_7_23, fp_7_24, iz_0_1, iz_0_2, iz_1_8, iz_1_9, iz_1_11, iz_2_1, iz_2_2, iz_2_3, iz_3_1, iz_4_1, iz_4_2, iz_5_0, iz_6_8, iz_6_9, iz_6_13, iz_6_14, iz_6_15, iz_7_2, iz_7_6, iz_7_12, iz_7_20, iz_7_21, iz_7_23, iz_7_24, ak_8, ak_9, ak_10, ak_11, ak_12, ak_13, ak_14, ak_15, ak_16, ak_17, ak_18, ak_19, ak_20, ak_21, ak_22, ak_23, ak_24, ak_25, ak_26, ak_27, ak_28, ak_29, ak_30, ak_31, ak_32, ak_33, ak_34, ak_35, ak_36, ak_37, ak_38, ak_39, ak_40, ak_41, ak_42, ak_43, ak_44, ak_45, ak_46, ak_47, ak_48, ak_49, ak_50, ak_51, ak_52, ak_53, ak_54, ak_55, ak_56, el31, el33, el34, CX7_findBest, ca_X7_findBest, frX7, kcX7, klX7, T_X7_keepOrders, T_X7_nothingStays, T_X7_layPlans, T_X7_search, T_X7_putOrders, xT_up, xL_20, xL_21, exists_eq_right_right, exists_eq_right, exists_eq_left, Nat.lt_irrefl, and_self, implies_true, forall_const]
        exact fun σ1 h1 σ2 h2 => FBi_0 h1 h2
    · exact h.elim
