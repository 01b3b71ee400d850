/-! the law's small methods -/
def frL : Nat → Option (Nat × Nat × Int) := fun _ => none
theorem frL_ok : FldOK RL frL := fun k t j z h => by cases h
theorem band_nn (a : Int) : 0 ≤ band a 2147483647 := by
  rw [band_eq]
  have h : (Int32.ofInt a &&& Int32.ofInt 2147483647).toBitVec.msb = false := by
    rw [Int32.toBitVec_and, BitVec.msb_and]
    have : (Int32.ofInt 2147483647).toBitVec.msb = false := by decide
    rw [this, Bool.and_false]
  show 0 ≤ (Int32.ofInt a &&& Int32.ofInt 2147483647).toBitVec.toInt
  rw [BitVec.toInt_eq_msb_cond, h]
  simp
noncomputable def upA (v m : Int) : Int := band v 2147483647 % m
theorem upA_r {v m : Int} (h : 0 < m) : 0 ≤ upA v m ∧ upA v m < m := ⟨Int.emod_nonneg _ (by omega), Int.emod_lt_of_pos _ h⟩
theorem hV_b {v : Vw} (hw : wWF v) (hp : pos v) : (∀ o, vOp (v 10) o → 0 ≤ hV v o ∧ hV v o ≤ 370 ∧ 0 ≤ tV v o ∧ tV v o ≤ 390) ∧ 0 ≤ LV v ∧ LV v ≤ 390 := by
  have f := pos_f hw hp
  have hd : ∀ o, vOp (v 10) o → 1 ≤ v 12 o ∧ v 12 o ≤ 20 ∧ v 8 (o / 4) ≤ 50 := fun o q => by
    have := wWF_op hw q
    omega
  have h0 : ∀ o, vOp (v 10) o → 0 ≤ hV v o := fun o q => by
    have := (f.1 o q).1
    have := wWF_op hw q
    dsimp only at *
    omega
  have hb := head_bd (b := 50) vOp_16 hd f.1 h0
  have e := (end_max (fun o q => (hd o q).1) f.1 f.2.1).mp f.2.2.1
  have L : LV v ≤ 390 := by
    rcases e.2.2 with q | ⟨o, q, z⟩
    · omega
    · have := hb o q
      have := hd o q
      omega
  refine ⟨fun o q => ⟨h0 o q, hb o q, (f.2.1 o q).1, ?_⟩, e.1, L⟩
  have := f.2.2.1.2.1 o q
  have := h0 o q
  have := hd o q
  dsimp only at *
  omega
theorem GS_w {g : Gh} {σ : Mem} (h : GS g σ) : wWF g.1 := by
  rw [← h.1.2]
  exact cv_wf h.1.1
noncomputable def endA (v : Vw) (o : Int) : Int := cif (vOp (v 10) o) (hV v o + v 12 o) 0
noncomputable def rstA (v : Vw) (o : Int) : Int := cif (vOp (v 10) o) (tV v o + v 12 o) 0
theorem endA_r {v : Vw} (hw : wWF v) (hp : pos v) (o : Int) : 0 ≤ endA v o ∧ endA v o ≤ 390 ∧ 0 ≤ rstA v o ∧ rstA v o ≤ 410 := by
  unfold endA rstA
  by_cases c : vOp (v 10) o
  · rw [cif_1 c, cif_1 c]
    have := (hV_b hw hp).1 o c
    have := wWF_op hw c
    omega
  · rw [cif_0 c, cif_0 c]
    omega
theorem vOp_nn {st : Int → Int} {o : Int} (h : o < 0) : ¬ vOp st o := fun q => by have := q.1; omega
def ca_L_up : Nat → Option (Nat × Nat × Tr) := fun _ => none
theorem cao_L_up (l : Launch) : ∀ k n' ci T', ca_L_up k = some (n', ci, T') → ∃ nn, nn + 1 ≤ 0 ∧ Site l yL_up.cls k n' ci nn T' := by
  intro k n' ci T' h
  cases h
def T_L_up : Tr := fun a σ K => match a with
  | [.inl v, .inl m] => 0 < m ∧ K (some (upA v m)) σ
  | _ => False
set_option maxHeartbeats 8000000 in
set_option maxRecDepth 20000 in
theorem k_L_up (l : Launch) : Ct l yL_up cL_up 2 (some .int) 0 T_L_up := by
  refine mk_met (by decide +kernel) hCL_up lCL_up frL_ok cstL_ok (cao_L_up l) ?_ ?_
  · intro a σ K h
    unfold T_L_up at h
    split at h
    · simp [eL]
    · exact h.elim
  · intro a σ K ha hR h
    unfold T_L_up at h
    split at h
    · rename_i v m
      refine ⟨fun pc => none, 60, ?_, ?_⟩
      · intro pc I L S σ' k hcut hi
        cases hcut
      · simp only [wp, stp, drp, entL, eL, lget, lset, okst, cnd, swt, rcv, Kr_int, Kr_bool, Kr_void, List.length_cons, List.length_nil, List.replicate, List.append_nil, List.cons_append, List.nil_append, List.take_succ_cons, List.take_zero, List.drop_succ_cons, List.drop_zero, List.reverse_cons, List.reverse_nil, Option.map_some, Option.map_none, Option.toList_some, Option.toList_none, Nat.reduceAdd, Nat.reduceSub, Nat.reduceLT, Nat.reduceLeDiff, Nat.reduceEqDiff, ↓reduceIte, Nat.add_zero, Nat.zero_add, true_and, and_true, Nat.le_refl, reduceCtorEq, false_implies, true_implies, not_true_eq_false, not_false_eq_true, Int.reduceAdd, Int.reduceSub, Int.reduceMul, Int.reduceLE, Int.reduceLT, Int.reduceEq, Int.reduceNe, Int.reduceNeg, Int.reduceDiv, Int.reduceMod, Bool.false_eq_true, Int.le_refl, and_self, true_or, or_true, inR_l, fv0, fv1, fv2, fv3, nc2, nc4, nc6, nc16, nc25, nc60, nc65, nc80, nc130, nc384, nc390, fp_0_0, fp_0_1, fp_0_2, fp_1_0, fp_1_1, fp_1_2, fp_1_3, fp_1_4, fp_1_5, fp_1_6, fp_1_7, fp_1_8, fp_1_9, fp_1_10, fp_1_11, fp_1_12, fp_1_13, fp_1_14, fp_2_0, fp_2_1, fp_2_2, fp_2_3, fp_3_0, fp_3_1, fp_4_0, fp_4_1, fp_4_2, fp_4_3, fp_4_4, fp_4_5, fp_4_6, fp_4_7, fp_5_0, fp_5_1, fp_5_2, fp_5_3, fp_5_4, fp_5_5, fp_5_6, fp_5_7, fp_6_0, fp_6_1, fp_6_2, fp_6_3, fp_6_4, fp_6_5, fp_6_6, fp_6_7, fp_6_8, fp_6_9, fp_6_10, fp_6_11, fp_6_12, fp_6_13, fp_6_14, fp_6_15, fp_7_0, fp_7_1, fp_7_2, fp_7_3, fp_7_4, fp_7_5, fp_7_6, fp_7_7, fp_7_8, fp_7_9, fp_7_10, fp_7_11, fp_7_12, fp_7_13, fp_7_14, fp_7_15, fp_7_16, fp_7_17, fp_7_18, fp_7_19, fp_7_20, fp_7_21, fp_7_22, fp_7_23, fp_7_24, iz_0_1, iz_0_2, iz_1_8, iz_1_9, iz_1_11, iz_2_1, iz_2_2, iz_2_3, iz_3_1, iz_4_1, iz_4_2, iz_5_0, iz_6_8, iz_6_9, iz_6_13, iz_6_14, iz_6_15, iz_7_2, iz_7_6, iz_7_12, iz_7_20, iz_7_21, iz_7_23, iz_7_24, ak_8, ak_9, ak_10, ak_11, ak_12, ak_13, ak_14, ak_15, ak_16, ak_17, ak_18, ak_19, ak_20, ak_21, ak_22, ak_23, ak_24, ak_25, ak_26, ak_27, ak_28, ak_29, ak_30, ak_31, ak_32, ak_33, ak_34, ak_35, ak_36, ak_37, ak_38, ak_39, ak_40, ak_41, ak_42, ak_43, ak_44, ak_45, ak_46, ak_47, ak_48, ak_49, ak_50, ak_51, ak_52, ak_53, ak_54, ak_55, ak_56, el31, el33, el34, CL_up, ca_L_up, frL, kcL, klL, exists_eq_right_right, exists_eq_right, exists_eq_left, Nat.lt_irrefl, and_self, implies_true, forall_const]
        exact ⟨band_nn v, h.1, h.2⟩
    · exact h.elim
def ca_L_end : Nat → Option (Nat × Nat × Tr)
  | 76 => some (3, 6, T_X6_aboutG)
  | _ => none
theorem cao_L_end (l : Launch) : ∀ k n' ci T', ca_L_end k = some (n', ci, T') → ∃ nn, nn + 1 ≤ 7 ∧ Site l yL_end.cls k n' ci nn T' := by
  intro k n' ci T' h
  unfold ca_L_end at h
  split at h
  · cases h; exact ⟨6, by decide, _, _, _, _, k_X6_aboutG l, Or.inl ⟨_, rfl, FX6_about, KRL_76⟩⟩
  · cases h
def T_L_end : Tr := fun a σ K => match a with
  | [.inr (.inl (6, 0)), .inl o] => ∃ g, GS g σ ∧ pos g.1 ∧ ∀ σ', GS g σ' → K (some (endA g.1 o)) σ'
  | _ => False
set_option maxHeartbeats 8000000 in
set_option maxRecDepth 20000 in
theorem k_L_end (l : Launch) : Ct l yL_end cL_end 2 (some .int) 7 T_L_end := by
  refine mk_met (by decide +kernel) hCL_end lCL_end frL_ok cstL_ok (cao_L_end l) ?_ ?_
  · intro a σ K h
    unfold T_L_end at h
    split at h
    · simp [eL]
    · exact h.elim
  · intro a σ K ha hR h
    unfold T_L_end at h
    split at h
    · rename_i o
      refine ⟨fun pc => none, 60, ?_, ?_⟩
      · intro pc I L S σ' k hcut hi
        cases hcut
      · simp only [wp, stp, drp, entL, eL, lget, lset, okst, cnd, swt, rcv, Kr_int, Kr_bool, Kr_void, List.length_cons, List.length_nil, List.replicate, List.append_nil, List.cons_append, List.nil_append, List.take_succ_cons, List.take_zero, List.drop_succ_cons, List.drop_zero, List.reverse_cons, List.reverse_nil, Option.map_some, Option.map_none, Option.toList_some, Option.toList_none, Nat.reduceAdd, Nat.reduceSub, Nat.reduceLT, Nat.reduceLeDiff, Nat.reduceEqDiff, ↓reduceIte, Nat.add_zero, Nat.zero_add, true_and, and_true, Nat.le_refl, reduceCtorEq, false_implies, true_implies, not_true_eq_false, not_false_eq_true, Int.reduceAdd, Int.reduceSub, Int.reduceMul, Int.reduceLE, Int.reduceLT, Int.reduceEq, Int.reduceNe, Int.reduceNeg, Int.reduceDiv, Int.reduceMod, Bool.false_eq_true, Int.le_refl, and_self, true_or, or_true, inR_l, fv0, fv1, fv2, fv3, nc2, nc4, nc6, nc16, nc25, nc60, nc65, nc80, nc130, nc384, nc390, fp_0_0, fp_0_1, fp_0_2, fp_1_0, fp_1_1, fp_1_2, fp_1_3, fp_1_4, fp_1_5, fp_1_6, fp_1_7, fp_1_8, fp_1_9, fp_1_10, fp_1_11, fp_1_12, fp_1_13, fp_1_14, fp_2_0, fp_2_1, fp_2_2, fp_2_3, fp_3_0, fp_3_1, fp_4_0, fp_4_1, fp_4_2, fp_4_3, fp_4_4, fp_4_5, fp_4_6, fp_4_7, fp_5_0, fp_5_1, fp_5_2, fp_5_3, fp_5_4, fp_5_5, fp_5_6, fp_5_7, fp_6_0, fp_6_1, fp_6_2, fp_6_3, fp_6_4, fp_6_5, fp_6_6, fp_6_7, fp_6_8, fp_6_9, fp_6_10, fp_6_11, fp_6_12, fp_6_13, fp_6_14, fp_6_15, fp_7_0, fp_7_1, fp_7_2, fp_7_3, fp_7_4, fp_7_5, fp_7_6, fp_7_7, fp_7_8, fp_7_9, fp_7_10, fp_7_11, fp_7_12, fp_7_13, fp_7_14, fp_7_15, fp_7_16, fp_7_17, fp_7_18, fp_7_19, fp_7_20, fp_7_21, fp_7_22, fp_7_23, fp_7_24, iz_0_1, iz_0_2, iz_1_8, iz_1_9, iz_1_11, iz_2_1, iz_2_2, iz_2_3, iz_3_1, iz_4_1, iz_4_2, iz_5_0, iz_6_8, iz_6_9, iz_6_13, iz_6_14, iz_6_15, iz_7_2, iz_7_6, iz_7_12, iz_7_20, iz_7_21, iz_7_23, iz_7_24, ak_8, ak_9, ak_10, ak_11, ak_12, ak_13, ak_14, ak_15, ak_16, ak_17, ak_18, ak_19, ak_20, ak_21, ak_22, ak_23, ak_24, ak_25, ak_26, ak_27, ak_28, ak_29, ak_30, ak_31, ak_32, ak_33, ak_34, ak_35, ak_36, ak_37, ak_38, ak_39, ak_40, ak_41, ak_42, ak_43, ak_44, ak_45, ak_46, ak_47, ak_48, ak_49, ak_50, ak_51, ak_52, ak_53, ak_54, ak_55, ak_56, el31, el33, el34, CL_end, ca_L_end, frL, kcL, klL, T_X6_aboutG, exists_eq_right_right, exists_eq_right, exists_eq_left, Nat.lt_irrefl, and_self, implies_true, forall_const]
        obtain ⟨g, hg, hp, hk⟩ := h
        have hw := GS_w hg
        refine ⟨fun a => ?_, fun a => ⟨g, hg, fun σ1 h1 => ⟨fun b => ⟨g, h1, fun σ2 h2 => ⟨g, h2, fun σ3 h3 => ?_⟩⟩, fun b => ?_⟩⟩⟩
        · have := hk σ hg
          rw [show endA g.1 o = 0 from cif_0 (vOp_nn a)] at this
          exact this
        · have v : vOp (g.1 10) o := Classical.byContradiction (fun q => by rw [ab_n q] at b; omega)
          have e : endA g.1 o = abA g.1 o 3 + abA g.1 o 1 := by
            rw [ab3 v hp, ab1 v]
            exact cif_1 v
          have := hk σ3 h3
          rw [e] at this
          refine ⟨?_, this⟩
          have r := endA_r hw hp o
          rw [← e]
          constructor <;> omega
        · have v : ¬ vOp (g.1 10) o := fun q => by
            rw [ab1 q] at b
            have := wWF_op hw q
            omega
          have := hk σ1 h1
          rw [show endA g.1 o = 0 from cif_0 v] at this
          exact this
    · exact h.elim
def ca_L_rest : Nat → Option (Nat × Nat × Tr)
  | 76 => some (3, 6, T_X6_aboutG)
  | _ => none
theorem cao_L_rest (l : Launch) : ∀ k n' ci T', ca_L_rest k = some (n', ci, T') → ∃ nn, nn + 1 ≤ 7 ∧ Site l yL_rest.cls k n' ci nn T' := by
  intro k n' ci T' h
  unfold ca_L_rest at h
  split at h
  · cases h; exact ⟨6, by decide, _, _, _, _, k_X6_aboutG l, Or.inl ⟨_, rfl, FX6_about, KRL_76⟩⟩
  · cases h
def T_L_rest : Tr := fun a σ K => match a with
  | [.inr (.inl (6, 0)), .inl o] => ∃ g, GS g σ ∧ pos g.1 ∧ ∀ σ', GS g σ' → K (some (rstA g.1 o)) σ'
  | _ => False
set_option maxHeartbeats 8000000 in
set_option maxRecDepth 20000 in
theorem k_L_rest (l : Launch) : Ct l yL_rest cL_rest 2 (some .int) 7 T_L_rest := by
  refine mk_met (by decide +kernel) hCL_rest lCL_rest frL_ok cstL_ok (cao_L_rest l) ?_ ?_
  · intro a σ K h
    unfold T_L_rest at h
    split at h
    · simp [eL]
    · exact h.elim
  · intro a σ K ha hR h
    unfold T_L_rest at h
    split at h
    · rename_i o
      refine ⟨fun pc => none, 60, ?_, ?_⟩
      · intro pc I L S σ' k hcut hi
        cases hcut
      · simp only [wp, stp, drp, entL, eL, lget, lset, okst, cnd, swt, rcv, Kr_int, Kr_bool, Kr_void, List.length_cons, List.length_nil, List.replicate, List.append_nil, List.cons_append, List.nil_append, List.take_succ_cons, List.take_zero, List.drop_succ_cons, List.drop_zero, List.reverse_cons, List.reverse_nil, Option.map_some, Option.map_none, Option.toList_some, Option.toList_none, Nat.reduceAdd, Nat.reduceSub, Nat.reduceLT, Nat.reduceLeDiff, Nat.reduceEqDiff, ↓reduceIte, Nat.add_zero, Nat.zero_add, true_and, and_true, Nat.le_refl, reduceCtorEq, false_implies, true_implies, not_true_eq_false, not_false_eq_true, Int.reduceAdd, Int.reduceSub, Int.reduceMul, Int.reduceLE, Int.reduceLT, Int.reduceEq, Int.reduceNe, Int.reduceNeg, Int.reduceDiv, Int.reduceMod, Bool.false_eq_true, Int.le_refl, and_self, true_or, or_true, inR_l, fv0, fv1, fv2, fv3, nc2, nc4, nc6, nc16, nc25, nc60, nc65, nc80, nc130, nc384, nc390, fp_0_0, fp_0_1, fp_0_2, fp_1_0, fp_1_1, fp_1_2, fp_1_3, fp_1_4, fp_1_5, fp_1_6, fp_1_7, fp_1_8, fp_1_9, fp_1_10, fp_1_11, fp_1_12, fp_1_13, fp_1_14, fp_2_0, fp_2_1, fp_2_2, fp_2_3, fp_3_0, fp_3_1, fp_4_0, fp_4_1, fp_4_2, fp_4_3, fp_4_4, fp_4_5, fp_4_6, fp_4_7, fp_5_0, fp_5_1, fp_5_2, fp_5_3, fp_5_4, fp_5_5, fp_5_6, fp_5_7, fp_6_0, fp_6_1, fp_6_2, fp_6_3, fp_6_4, fp_6_5, fp_6_6, fp_6_7, fp_6_8, fp_6_9, fp_6_10, fp_6_11, fp_6_12, fp_6_13, fp_6_14, fp_6_15, fp_7_0, fp_7_1, fp_7_2, fp_7_3, fp_7_4, fp_7_5, fp_7_6, fp_7_7, fp_7_8, fp_7_9, fp_7_10, fp_7_11, fp_7_12, fp_7_13, fp_7_14, fp_7_15, fp_7_16, fp_7_17, fp_7_18, fp_7_19, fp_7_20, fp_7_21, fp_7_22, fp_7_23, fp_7_24, iz_0_1, iz_0_2, iz_1_8, iz_1_9, iz_1_11, iz_2_1, iz_2_2, iz_2_3, iz_3_1, iz_4_1, iz_4_2, iz_5_0, iz_6_8, iz_6_9, iz_6_13, iz_6_14, iz_6_15, iz_7_2, iz_7_6, iz_7_12, iz_7_20, iz_7_21, iz_7_23, iz_7_24, ak_8, ak_9, ak_10, ak_11, ak_12, ak_13, ak_14, ak_15, ak_16, ak_17, ak_18, ak_19, ak_20, ak_21, ak_22, ak_23, ak_24, ak_25, ak_26, ak_27, ak_28, ak_29, ak_30, ak_31, ak_32, ak_33, ak_34, ak_35, ak_36, ak_37, ak_38, ak_39, ak_40, ak_41, ak_42, ak_43, ak_44, ak_45, ak_46, ak_47, ak_48, ak_49, ak_50, ak_51, ak_52, ak_53, ak_54, ak_55, ak_56, el31, el33, el34, CL_rest, ca_L_rest, frL, kcL, klL, T_X6_aboutG, exists_eq_right_right, exists_eq_right, exists_eq_left, Nat.lt_irrefl, and_self, implies_true, forall_const]
        obtain ⟨g, hg, hp, hk⟩ := h
        have hw := GS_w hg
        refine ⟨fun a => ?_, fun a => ⟨g, hg, fun σ1 h1 => ⟨fun b => ⟨g, h1, fun σ2 h2 => ⟨g, h2, fun σ3 h3 => ?_⟩⟩, fun b => ?_⟩⟩⟩
        · have := hk σ hg
          rw [show rstA g.1 o = 0 from cif_0 (vOp_nn a)] at this
          exact this
        · have v : vOp (g.1 10) o := Classical.byContradiction (fun q => by rw [ab_n q] at b; omega)
          have e : rstA g.1 o = abA g.1 o 4 + abA g.1 o 1 := by
            rw [ab4 v hp, ab1 v]
            exact cif_1 v
          have := hk σ3 h3
          rw [e] at this
          refine ⟨?_, this⟩
          have r := endA_r hw hp o
          rw [← e]
          constructor <;> omega
        · have v : ¬ vOp (g.1 10) o := fun q => by
            rw [ab1 q] at b
            have := wWF_op hw q
            omega
          have := hk σ1 h1
          rw [show rstA g.1 o = 0 from cif_0 v] at this
          exact this
    · exact h.elim
def ca_L_on : Nat → Option (Nat × Nat × Tr)
  | 33 => some (3, 6, T_X6_ofJobG)
  | 76 => some (3, 6, T_X6_aboutG)
  | _ => none
theorem cao_L_on (l : Launch) : ∀ k n' ci T', ca_L_on k = some (n', ci, T') → ∃ nn, nn + 1 ≤ 7 ∧ Site l yL_on.cls k n' ci nn T' := by
  intro k n' ci T' h
  unfold ca_L_on at h
  split at h
  · cases h; exact ⟨6, by decide, _, _, _, _, k_X6_ofJobG l, Or.inl ⟨_, rfl, FX6_ofJob, KRL_33⟩⟩
  · cases h; exact ⟨6, by decide, _, _, _, _, k_X6_aboutG l, Or.inl ⟨_, rfl, FX6_about, KRL_76⟩⟩
  · cases h
def T_L_on : Tr := fun a σ K => match a with
  | [.inr (.inl (6, 0)), .inl j, .inl m] => ∃ g, GS g σ ∧ (0 ≤ j ∧ j < g.1 5 0) ∧ ∀ r σ', GS g σ' → ((vOp (g.1 10) r ∧ r / 4 = j ∧ g.1 11 r = m) ∨ (r = -1 ∧ ∀ o, vOp (g.1 10) o → o / 4 = j → g.1 11 o ≠ m)) → K (some r) σ'
  | _ => False
set_option maxHeartbeats 8000000 in
set_option maxRecDepth 20000 in
theorem k_L_on (l : Launch) : Ct l yL_on cL_on 4 (some .int) 7 T_L_on := by
  refine mk_met (by decide +kernel) hCL_on lCL_on frL_ok cstL_ok (cao_L_on l) ?_ ?_
  · intro a σ K h
    unfold T_L_on at h
    split at h
    · simp [eL]
    · exact h.elim
  · intro a σ K ha hR h
    unfold T_L_on at h
    split at h
    · rename_i j m
      obtain ⟨g, hg, hj, hk⟩ := h
      have hw := GS_w hg
      refine ⟨fun pc => if pc = 2 then some (fun L S σ' k => match L, S with | [some (.inr (.inl c1)), some (.inl j'), some (.inl m'), some (.inl i)], [] => (c1 = (6, 0) ∧ j' = j ∧ m' = m ∧ GS g σ' ∧ (0 ≤ i ∧ i ≤ 4) ∧ ∀ s, 0 ≤ s → s < i → s < g.1 10 j → g.1 11 (4 * j + s) ≠ m) ∧ k = (5 - i).toNat | _, _ => False) else none, 60, ?_, ?_⟩
      · intro pc I L S σ' k hcut hi
        dsimp only at hcut
        split at hcut
        · rename_i hpc
          subst hpc
          cases hcut
          try dsimp only at hi
          split at hi
          · rename_i c1 j' m' i
            obtain ⟨hi, rfl⟩ := hi
            obtain ⟨rfl, rfl, rfl, hg', hi0, hn⟩ := hi
            simp only [wp, stp, drp, entL, eL, lget, lset, okst, cnd, swt, rcv, Kr_int, Kr_bool, Kr_void, List.length_cons, List.length_nil, List.replicate, List.append_nil, List.cons_append, List.nil_append, List.take_succ_cons, List.take_zero, List.drop_succ_cons, List.drop_zero, List.reverse_cons, List.reverse_nil, Option.map_some, Option.map_none, Option.toList_some, Option.toList_none, Nat.reduceAdd, Nat.reduceSub, Nat.reduceLT, Nat.reduceLeDiff, Nat.reduceEqDiff, ↓reduceIte, Nat.add_zero, Nat.zero_add, true_and, and_true, Nat.le_refl, reduceCtorEq, false_implies, true_implies, not_true_eq_false, not_false_eq_true, Int.reduceAdd, Int.reduceSub, Int.reduceMul, Int.reduceLE, Int.reduceLT, Int.reduceEq, Int.reduceNe, Int.reduceNeg, Int.reduceDiv, Int.reduceMod, Bool.false_eq_true, Int.le_refl, and_self, true_or, or_true, inR_l, fv0, fv1, fv2, fv3, nc2, nc4, nc6, nc16, nc25, nc60, nc65, nc80, nc130, nc384, nc390, fp_0_0, fp_0_1, fp_0_2, fp_1_0, fp_1_1, fp_1_2, fp_1_3, fp_1_4, fp_1_5, fp_1_6, fp_1_7, fp_1_8, fp_1_9, fp_1_10, fp_1_11, fp_1_12, fp_1_13, fp_1_14, fp_2_0, fp_2_1, fp_2_2, fp_2_3, fp_3_0, fp_3_1, fp_4_0, fp_4_1, fp_4_2, fp_4_3, fp_4_4, fp_4_5, fp_4_6, fp_4_7, fp_5_0, fp_5_1, fp_5_2, fp_5_3, fp_5_4, fp_5_5, fp_5_6, fp_5_7, fp_6_0, fp_6_1, fp_6_2, fp_6_3, fp_6_4, fp_6_5, fp_6_6, fp_6_7, fp_6_8, fp_6_9, fp_6_10, fp_6_11, fp_6_12, fp_6_13, fp_6_14, fp_6_15, fp_7_0, fp_7_1, fp_7_2, fp_7_3, fp_7_4, fp_7_5, fp_7_6, fp_7_7, fp_7_8, fp_7_9, fp_7_10, fp_7_11, fp_7_12, fp_7_13, fp_7_14, fp_7_15, fp_7_16, fp_7_17, fp_7_18, fp_7_19, fp_7_20, fp_7_21, fp_7_22, fp_7_23, fp_7_24, iz_0_1, iz_0_2, iz_1_8, iz_1_9, iz_1_11, iz_2_1, iz_2_2, iz_2_3, iz_3_1, iz_4_1, iz_4_2, iz_5_0, iz_6_8, iz_6_9, iz_6_13, iz_6_14, iz_6_15, iz_7_2, iz_7_6, iz_7_12, iz_7_20, iz_7_21, iz_7_23, iz_7_24, ak_8, ak_9, ak_10, ak_11, ak_12, ak_13, ak_14, ak_15, ak_16, ak_17, ak_18, ak_19, ak_20, ak_21, ak_22, ak_23, ak_24, ak_25, ak_26, ak_27, ak_28, ak_29, ak_30, ak_31, ak_32, ak_33, ak_34, ak_35, ak_36, ak_37, ak_38, ak_39, ak_40, ak_41, ak_42, ak_43, ak_44, ak_45, ak_46, ak_47, ak_48, ak_49, ak_50, ak_51, ak_52, ak_53, ak_54, ak_55, ak_56, el31, el33, el34, CL_on, ca_L_on, frL, kcL, klL, T_X6_ofJobG, T_X6_aboutG, exists_eq_right_right, exists_eq_right, exists_eq_left, Nat.lt_irrefl, and_self, implies_true, forall_const]
            have j4 := hw.1.1.2
            have s4 := st_w hw hj.1 (show j' < 4 by omega)
            refine ⟨g, hg', fun σ1 h1 => ?_⟩
            rw [of2 hj]
            refine ⟨fun a => hk _ _ h1 (Or.inr ⟨rfl, fun o v e => ?_⟩), fun a => ?_⟩
            · have vj := vOp_j v
              have := hn (o % 4) vj.2.2.1 (by have := v.2.2; rw [e] at this; omega) (by have := v.2.2; rw [e] at this; exact this)
              rw [show 4 * j' + o % 4 = o by omega] at this
              exact this
            · have v := vOp_i (st := g.1 10) hj.1 (show j' < 4 by omega) hi0.1 (show i < g.1 10 j' by omega) s4.2.1
              refine ⟨by constructor <;> omega, by constructor <;> omega, g, h1, fun σ2 h2 => ?_⟩
              rw [ab0 v]
              refine ⟨fun b => ⟨by constructor <;> omega, by omega, h2, by omega, fun s s0 s1 s2 => ?_⟩, fun b => ⟨by constructor <;> omega, by constructor <;> omega, hk _ _ h2 (Or.inl ⟨v, by omega, Classical.not_not.mp b⟩)⟩⟩
              by_cases z : s = i
              · rw [z]
                exact b
              · exact hn s s0 (by omega) s2
          · exact hi.elim
        · cases hcut
      · simp only [wp, stp, drp, entL, eL, lget, lset, okst, cnd, swt, rcv, Kr_int, Kr_bool, Kr_void, List.length_cons, List.length_nil, List.replicate, List.append_nil, List.cons_append, List.nil_append, List.take_succ_cons, List.take_zero, List.drop_succ_cons, List.drop_zero, List.reverse_cons, List.reverse_nil, Option.map_some, Option.map_none, Option.toList_some, Option.toList_none, Nat.reduceAdd, Nat.reduceSub, Nat.reduceLT, Nat.reduceLeDiff, Nat.reduceEqDiff, ↓reduceIte, Nat.add_zero, Nat.zero_add, true_and, and_true, Nat.le_refl, reduceCtorEq, false_implies, true_implies, not_true_eq_false, not_false_eq_true, Int.reduceAdd, Int.reduceSub, Int.reduceMul, Int.reduceLE, Int.reduceLT, Int.reduceEq, Int.reduceNe, Int.reduceNeg, Int.reduceDiv, Int.reduceMod, Bool.false_eq_true, Int.le_refl, and_self, true_or, or_true, inR_l, fv0, fv1, fv2, fv3, nc2, nc4, nc6, nc16, nc25, nc60, nc65, nc80, nc130, nc384, nc390, fp_0_0, fp_0_1, fp_0_2, fp_1_0, fp_1_1, fp_1_2, fp_1_3, fp_1_4, fp_1_5, fp_1_6, fp_1_7, fp_1_8, fp_1_9, fp_1_10, fp_1_11, fp_1_12, fp_1_13, fp_1_14, fp_2_0, fp_2_1, fp_2_2, fp_2_3, fp_3_0, fp_3_1, fp_4_0, fp_4_1, fp_4_2, fp_4_3, fp_4_4, fp_4_5, fp_4_6, fp_4_7, fp_5_0, fp_5_1, fp_5_2, fp_5_3, fp_5_4, fp_5_5, fp_5_6, fp_5_7, fp_6_0, fp_6_1, fp_6_2, fp_6_3, fp_6_4, fp_6_5, fp_6_6, fp_6_7, fp_6_8, fp_6_9, fp_6_10, fp_6_11, fp_6_12, fp_6_13, fp_6_14, fp_6_15, fp_7_0, fp_7_1, fp_7_2, fp_7_3, fp_7_4, fp_7_5, fp_7_6, fp_7_7, fp_7_8, fp_7_9, fp_7_10, fp_7_11, fp_7_12, fp_7_13, fp_7_14, fp_7_15, fp_7_16, fp_7_17, fp_7_18, fp_7_19, fp_7_20, fp_7_21, fp_7_22, fp_7_23, fp_7_24, iz_0_1, iz_0_2, iz_1_8, iz_1_9, iz_1_11, iz_2_1, iz_2_2, iz_2_3, iz_3_1, iz_4_1, iz_4_2, iz_5_0, iz_6_8, iz_6_9, iz_6_13, iz_6_14, iz_6_15, iz_7_2, iz_7_6, iz_7_12, iz_7_20, iz_7_21, iz_7_23, iz_7_24, ak_8, ak_9, ak_10, ak_11, ak_12, ak_13, ak_14, ak_15, ak_16, ak_17, ak_18, ak_19, ak_20, ak_21, ak_22, ak_23, ak_24, ak_25, ak_26, ak_27, ak_28, ak_29, ak_30, ak_31, ak_32, ak_33, ak_34, ak_35, ak_36, ak_37, ak_38, ak_39, ak_40, ak_41, ak_42, ak_43, ak_44, ak_45, ak_46, ak_47, ak_48, ak_49, ak_50, ak_51, ak_52, ak_53, ak_54, ak_55, ak_56, el31, el33, el34, CL_on, ca_L_on, frL, kcL, klL, T_X6_ofJobG, T_X6_aboutG, exists_eq_right_right, exists_eq_right, exists_eq_left, Nat.lt_irrefl, and_self, implies_true, forall_const]
        exact ⟨hg, fun s a b => by omega⟩
    · exact h.elim
