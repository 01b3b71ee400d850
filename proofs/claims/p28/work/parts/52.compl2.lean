theorem Ct_le {l : Launch} {y : MethodName} {cc : ByteArray} {maxL : Nat} {ret : Option FieldType} {n n' : Nat} {T : Tr} (h : Ct l y cc maxL ret n T) (hn : n ≤ n') : Ct l y cc maxL ret n' T := fun xx D cy ad d hd => h xx D cy ad d (Nat.le_trans hn hd)
def T_X4_completeD (d : Nat) : Tr := fun a σ K => match a with
  | [.inr (.inl (4, s)), .inl p, .inl u] => (s < 2 ∧ nB σ (s + 2) ∧ nA σ (s + 2) ∧ nO σ (s + 2) ∧ 0 ≤ u ∧ 0 ≤ p ∧ p ≤ dc (σ 19 (s + 2)) (σ 20 (s + 2)) ∧ 25 ≤ p + d) ∧ (∀ σ', CmT σ σ' s p u → K (some 1) σ') ∧ (∀ σ', CmF σ σ' s p u → K (some 0) σ')
  | _ => False
def ca_X4_completeD (d : Nat) : Nat → Option (Nat × Nat × Tr)
  | 63 => some (2, 1, T_X1_keeps)
  | 84 => some (1, 1, T_X1_longestPair)
  | 43 => some (2, 99, T_X6_copyRow)
  | 87 => some (3, 1, T_X1_decide)
  | 59 => some (3, 99, (T_X4_completeD d))
  | _ => none
theorem cao_X4_completeD (l : Launch) (d : Nat) (hd : Ct l yX4_complete cX4_complete 7 (some .boolean) (4 + d) (T_X4_completeD d)) : ∀ k n' ci T', ca_X4_completeD d k = some (n', ci, T') → ∃ nn, nn + 1 ≤ 4 + (d + 1) ∧ Site l yX4_complete.cls k n' ci nn T' := by
  intro k n' ci T' h
  unfold ca_X4_completeD at h
  split at h
  · cases h; exact ⟨3, by omega, _, _, _, _, k_X1_keeps l, Or.inl ⟨_, rfl, FX1_keeps, KRX4_63⟩⟩
  · cases h; exact ⟨2, by omega, _, _, _, _, k_X1_longestPair l, Or.inl ⟨_, rfl, FX1_longestPair, KRX4_84⟩⟩
  · cases h; exact ⟨0, by omega, _, _, _, _, k_X6_copyRow l, Or.inr ⟨rfl, FX6_copyRow, Or.inr ⟨_, KRX4_43⟩⟩⟩
  · cases h; exact ⟨0, by omega, _, _, _, _, k_X1_decide l, Or.inl ⟨_, rfl, FX1_decide, KRX4_87⟩⟩
  · cases h; exact ⟨4 + d, by omega, _, _, _, _, hd, Or.inr ⟨rfl, FX4_complete, Or.inl ⟨rfl, KRX4_59⟩⟩⟩
  · cases h
set_option maxHeartbeats 8000000 in
set_option maxRecDepth 20000 in
theorem k_X4_completeD (l : Launch) : ∀ d : Nat, Ct l yX4_complete cX4_complete 7 (some .boolean) (4 + d) (T_X4_completeD d) := by
  intro d
  induction d with
  | zero =>
    intro xx D cy ad d' hd' a σ K ha hT
    exfalso
    unfold T_X4_completeD at hT
    split at hT
    · obtain ⟨⟨-, h1, -, -, -, h2, h3, h4⟩, -⟩ := hT
      have := Int.le_trans h3 (dc_r _ _).2
      omega
    · exact hT.elim
  | succ d ih =>
    refine mk_met (by decide +kernel) hCX4_complete lCX4_complete frX4_ok cstX4_ok (cao_X4_completeD l d ih) ?_ ?_
    · intro a σ K h
      unfold T_X4_completeD at h
      split at h
      · simp [eL]
      · exact h.elim
    · intro a σ K ha hR h
      unfold T_X4_completeD at h
      split at h
      · rename_i s p u
        refine ⟨fun _ => none, 200, fun pc I L S σ' k h => (by cases h), ?_⟩
        simp only [wp, stp, drp, entL, eL, lget, lset, okst, cnd, swt, rcv, Kr_int, Kr_bool, Kr_void, List.length_cons, List.length_nil, List.replicate, List.append_nil, List.cons_append, List.nil_append, List.take_succ_cons, List.take_zero, List.drop_succ_cons, List.drop_zero, List.reverse_cons, List.reverse_nil, Option.map_some, Option.map_none, Option.toList_some, Option.toList_none, Nat.reduceAdd, Nat.reduceSub, Nat.reduceLT, Nat.reduceLeDiff, Nat.reduceEqDiff, ↓reduceIte, Nat.add_zero, Nat.zero_add, true_and, and_true, Nat.le_refl, reduceCtorEq, false_implies, true_implies, not_true_eq_false, not_false_eq_true, Int.reduceAdd, Int.reduceSub, Int.reduceMul, Int.reduceLE, Int.reduceLT, Int.reduceEq, Int.reduceNe, Int.reduceNeg, Int.reduceDiv, Int.reduceMod, Bool.false_eq_true, Int.le_refl, and_self, true_or, or_true, inR_l, fv0, fv1, fv2, fv3, nc2, nc4, nc6, nc16, nc25, nc60, nc65, nc80, nc130, nc384, nc390, fp_0_0, fp_0_1, fp_0_2, fp_1_0, fp_1_1, fp_1_2, fp_1_3, fp_1_4, fp_1_5, fp_1_6, fp_1_7, fp_1_8, fp_1_9, fp_1_10, fp_1_11, fp_1_12, fp_1_13, fp_1_14, fp_2_0, fp_2_1, fp_2_2, fp_2_3, fp_3_0, fp_3_1, fp_4_0, fp_4_1, fp_4_2, fp_4_3, fp_4_4, fp_4_5, fp_4_6, fp_4_7, fp_5_0, fp_5_1, fp_5_2, fp_5_3, fp_5_4, fp_5_5, fp_5_6, fp_5_7, fp_6_0, fp_6_1, fp_6_2, fp_6_3, fp_6_4, fp_6_5, fp_6_6, fp_6_7, fp_6_8, fp_6_9, fp_6_10, fp_6_11, fp_6_12, fp_6_13, fp_6_14, fp_6_15, fp_7_0, fp_7_1, fp_7_2, fp_7_3, fp_7_4, fp_7_5, fp_7_6, fp_7_7, fp_7_8, fp_7_9, fp_7_10, fp_7_11, fp_7_12, fp_7_13, fp_7_14, fp_7_15, fp_7_16, fp_7_17, fp_7_18, fp_7_19, fp_7_20, fp_7_21, fp_7_22, fp_7_23, fp_7_24, iz_0_1, iz_0_2, iz_1_8, iz_1_9, iz_1_11, iz_2_1, iz_2_2, iz_2_3, iz_3_1, iz_4_1, iz_4_2, iz_5_0, iz_6_8, iz_6_9, iz_6_13, iz_6_14, iz_6_15, iz_7_2, iz_7_6, iz_7_12, iz_7_20, iz_7_21, iz_7_23, iz_7_24, ak_8, ak_9, ak_10, ak_11, ak_12, ak_13, ak_14, ak_15, ak_16, ak_17, ak_18, ak_19, ak_20, ak_21, ak_22, ak_23, ak_24, ak_25, ak_26, ak_27, ak_28, ak_29, ak_30, ak_31, ak_32, ak_33, ak_34, ak_35, ak_36, ak_37, ak_38, ak_39, ak_40, ak_41, ak_42, ak_43, ak_44, ak_45, ak_46, ak_47, ak_48, ak_49, ak_50, ak_51, ak_52, ak_53, ak_54, ak_55, ak_56, el31, el33, el34, CX4_complete, ca_X4_completeD, frX4, kcX4, klX4, T_X1_keeps, T_X1_longestPair, T_X6_copyRow, T_X1_decide, T_X4_completeD, up_ap, false_and, and_false, if_false, if_true, ite_true, ite_false, exists_eq_right_right, exists_eq_right, exists_eq_left, Nat.lt_irrefl, and_self, implies_true, forall_const]
        obtain ⟨⟨p1, p2, p3, p4, p5, p6, p7, p8⟩, hT0, hF0⟩ := h
        have hdc := dc_r (σ 19 (s + 2)) (σ 20 (s + 2))
        refine ⟨fun a => absurd a (by omega), fun _ => ⟨fun a => absurd a (by omega), fun _ => ⟨⟨p2, p3, p4, p5⟩, fun σ1 hK => ⟨⟨pK.B hK.1 p2, nM_H hK.2.2.2.2.1⟩, fun r hr => ⟨fun hr6 => ?_, fun hr6 => ?_⟩⟩, fun σ1 hF1 hA1 hN => hF0 _ ⟨pK.C hF1, hA1, hF1.f 30 s (by rintro x ⟨-, q⟩; omega), noS_kf hN⟩⟩⟩⟩
        · rcases hr with ⟨e, -⟩ | ⟨x, y, rfl, vx, vy, hne, hm, hu⟩
          · exact absurd e hr6
          have vx0 := vx.1
          have vx1 := vx.2.1
          have vy0 := vy.1
          have vy1 := vy.2.1
          have ex : (16 * x + y) / 16 = x := by omega
          have ey : (16 * x + y) % 16 = y := by omega
          simp only [ex, ey]
          refine ⟨by omega, by omega, ⟨p6, by omega⟩, fun σ2 c1 c2 _ => ?_⟩
          have hc1 : Cpy σ1 σ2 32 (25 * s + p.toNat) 20 (s + 2) 16 := ⟨c1, c2⟩
          have hF12 : FrG (pC s p) σ1 σ2 := hc1.Fr (fun x => Or.inr (Or.inr ⟨rfl, p.toNat, by omega, by omega, rfl⟩))
          have e2 : ∀ o, σ2 20 (s + 2) o = σ1 20 (s + 2) o := fun o => c1 20 (s + 2) o (Or.inl (by omega))
          have hF13 : FrG (pC s p) σ1 (up σ2 20 (s + 2) y (bor (σ2 20 (s + 2) y) (bshl 1 (x / 4)))) := hF12.u (Or.inl ⟨rfl, Or.inl rfl⟩)
          have one := Cm_one p2 p4 p7 p6 hK vx vy hne hm hu hF13 (fun o _ _ => by simp [up_ap, e2])
          refine ⟨⟨vx0, vx1, vy0, vy1⟩, ⟨by omega, by omega⟩, ⟨p1, one.1, one.2.1, one.2.2.1, p5, by omega, one.2.2.2.1, by omega⟩, fun σ4 hT => hT0 _ (Cm_T hK.1 hF13 one.2.2.2.2.1 hT), fun σ4 hFl => ⟨⟨p6, by omega⟩, fun σ5 d1 d2 _ => ?_⟩⟩
          have e5 : ∀ o, 0 ≤ o → o < 16 → σ5 20 (s + 2) o = σ1 20 (s + 2) o := by
            intro o o0 o1
            rw [d2 o o0 o1, pC.R hFl.1 p.toNat (by omega), up_ap, if_neg (by rintro ⟨q, -⟩; omega), c2 o o0 o1]
          have hF14 := hF13.t (hFl.1.w (pC.w (show p ≤ p + 1 by omega)))
          have hF15 : FrG (pC s p) σ1 σ5 := hF14.t (Cpy.Fr (t := 20) (a := s + 2) (t' := 32) (a' := 25 * s + p.toNat) (n := 16) ⟨d1, d2⟩ (fun x => Or.inl ⟨rfl, Or.inl rfl⟩))
          have hF16 : FrG (pC s p) σ1 (up σ5 20 (s + 2) x (bor (σ5 20 (s + 2) x) (bshl 1 (y / 4)))) := hF15.u (Or.inl ⟨rfl, Or.inl rfl⟩)
          have two := Cm_one p2 p4 p7 p6 hK vy vx (Ne.symm hne) hm.symm ⟨hu.2.1, hu.1, hu.2.2.2, hu.2.2.1⟩ hF16 (fun o o0 o1 => by
            rw [up_ap, e5 x vx0 vx1]
            by_cases c : o = x
            · simp [c]
            · rw [if_neg (fun q => c q.2.2), if_neg c]
              exact e5 o o0 o1)
          refine ⟨⟨vy0, vy1, vx0, vx1⟩, ⟨by omega, by omega⟩, ⟨p1, two.1, two.2.1, two.2.2.1, p5, by omega, two.2.2.2.1, by omega⟩, fun σ7 hT => hT0 _ (Cm_T hK.1 hF16 two.2.2.2.2.1 hT), fun σ7 hF7 => hF0 _ ⟨(pK.C hK.1).t (hF16.t (hF7.1.w (pC.w (by omega)))), hF7.2.1, ?_, fun C hC hs => ?_⟩⟩
          · rw [hF7.2.2.1]
            have f1 : (up σ5 20 (s + 2) x (bor (σ5 20 (s + 2) x) (bshl 1 (y / 4)))) 30 s = σ5 30 s := by
              funext z
              rw [up_ap, if_neg (by rintro ⟨q, -⟩; omega)]
            have f2 : σ5 30 s = σ4 30 s := funext fun z => d1 30 s z (Or.inl (by omega))
            have f3 : (up σ2 20 (s + 2) y (bor (σ2 20 (s + 2) y) (bshl 1 (x / 4)))) 30 s = σ2 30 s := by
              funext z
              rw [up_ap, if_neg (by rintro ⟨q, -⟩; omega)]
            have f4 : σ2 30 s = σ1 30 s := funext fun z => c1 30 s z (Or.inl (by omega))
            rw [f1, f2, hFl.2.2.1, f3, f4]
            exact hK.1.f 30 s (by rintro x ⟨-, q⟩; omega)
          · have g := pK.f hK.1
            rw [g 15 (by omega)] at vx vy
            rw [g 16 (by omega)] at hm
            rcases hC.1 x y vx vy hne hm with c | c
            · exact noS_cg ((pK.C hK.1).t hF13) hFl.2.2.2 C hC (one.2.2.2.2.2 C hC hs c)
            · exact noS_cg ((pK.C hK.1).t hF16) hF7.2.2.2 C hC (two.2.2.2.2.2 C hC hs c)
        · intro σ2 c1 c2 _
          rcases hr with ⟨-, hr⟩ | ⟨x, y, hr, vx, vy, -⟩
          · exact hT0 _ (Cm_all p2 hK hr ⟨c1, c2⟩)
          · have vx0 := vx.1
            have vy0 := vy.1
            exact absurd hr (by omega)
      · exact h.elim
def T_X4_complete : Tr := T_X4_completeD 25
theorem k_X4_complete (l : Launch) : Ct l yX4_complete cX4_complete 7 (some .boolean) 34 T_X4_complete := Ct_le (k_X4_completeD l 25) (by decide)
