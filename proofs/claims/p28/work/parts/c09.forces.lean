/-! what the law sees of limits -/
theorem if_2 {v : Vw} {u x y : Int} (vx : vOp (v 10) x) (vy : vOp (v 10) y) (h : ¬ (x ≠ y ∧ v 11 x = v 11 y)) : ifA v u x y = -2 := (cif_0 (fun q => q ⟨vx, vy⟩)).trans (cif_1 (fun q => h q.2))
theorem if_L {v : Vw} (hw : wWF v) (hp : pos v) {u x y : Int} (hu : LV v ≤ u) (hu5 : u ≤ 500) (vx : vOp (v 10) x) (vy : vOp (v 10) y) (ne : x ≠ y) (hm : v 11 x = v 11 y) (h : vOp (v 10) x ∧ vOp (v 10) y → (0 ≤ u ∧ u ≤ 500) ∧ x ≠ y ∧ v 11 x = v 11 y → ifS (v 10) (v 11) (v 12) (v 8) u x y (ifA v u x y)) : ∃ C, LC (v 10) (v 11) (v 12) (v 8) u C ∧ ifA v u x y = fX v C x y := by
  have b := (hV_b hw hp).2
  have q := h ⟨vx, vy⟩ ⟨⟨by omega, hu5⟩, ne, hm⟩
  rcases q with ⟨-, z⟩ | ⟨C, h1, h2⟩
  · exact absurd (Sol_v hw hp hu).2 (z _)
  · exact ⟨C, h1, if_s hw hp hu h1 vx vy ne hm (h ⟨vx, vy⟩ ⟨⟨by omega, hu5⟩, ne, hm⟩)⟩
theorem fX_up {v : Vw} {u u' : Int} {C C' : Int → Int → Prop} (h : LC (v 10) (v 11) (v 12) (v 8) u C) (h' : LC (v 10) (v 11) (v 12) (v 8) u' C') (hu : u ≤ u') (x y : Int) : fX v C' x y ≤ fX v C x y := b2i_le (LC_up h h' hu x y)
theorem fX_un {v : Vw} {u : Int} {C C' : Int → Int → Prop} (h : LC (v 10) (v 11) (v 12) (v 8) u C) (h' : LC (v 10) (v 11) (v 12) (v 8) u C') (x y : Int) : fX v C x y = fX v C' x y := by
  have a := fX_up h h' (Int.le_refl _) x y
  have b := fX_up h' h (Int.le_refl _) x y
  omega
theorem fX_as {v : Vw} (hw : wWF v) (hp : pos v) {u x y : Int} {C : Int → Int → Prop} (hu : LV v ≤ u) (hC : LC (v 10) (v 11) (v 12) (v 8) u C) (h : fX v C x y = 1) : plo (v 11) (v 13) (v 14) x < plo (v 11) (v 13) (v 14) y ∧ fX v C y x = 0 := by
  have p : prF (v 10) (v 11) C x y := Classical.byContradiction (fun z => by
    have := b2i_0 z
    unfold fX at h
    omega)
  have a := if_pl hw hp hu hC p
  exact ⟨a, b2i_0 (fun z => by
    have := if_pl hw hp hu hC z
    omega)⟩
def ca_L_forces : Nat → Option (Nat × Nat × Tr)
  | 62 => some (1, 6, T_X6_lengthG)
  | 69 => some (2, 6, T_X6_countG)
  | 107 => some (2, 6, T_X6_forcedG)
  | 22 => some (2, 99, T_L_up)
  | 76 => some (3, 6, T_X6_aboutG)
  | 110 => some (4, 6, T_X6_isForcedG)
  | _ => none
theorem cao_L_forces (l : Launch) : ∀ k n' ci T', ca_L_forces k = some (n', ci, T') → ∃ nn, nn + 1 ≤ 7 ∧ Site l yL_forces.cls k n' ci nn T' := by
  intro k n' ci T' h
  unfold ca_L_forces at h
  split at h
  · cases h; exact ⟨6, by decide, _, _, _, _, k_X6_lengthG l, Or.inl ⟨_, rfl, FX6_length, KRL_62⟩⟩
  · cases h; exact ⟨6, by decide, _, _, _, _, k_X6_countG l, Or.inl ⟨_, rfl, FX6_count, KRL_69⟩⟩
  · cases h; exact ⟨4, by decide, _, _, _, _, k_X6_forcedG l, Or.inl ⟨_, rfl, FX6_forced, KRL_107⟩⟩
  · cases h; exact ⟨0, by decide, _, _, _, _, k_L_up l, Or.inr ⟨rfl, FL_up, Or.inl ⟨rfl, KRL_22⟩⟩⟩
  · cases h; exact ⟨6, by decide, _, _, _, _, k_X6_aboutG l, Or.inl ⟨_, rfl, FX6_about, KRL_76⟩⟩
  · cases h; exact ⟨4, by decide, _, _, _, _, k_X6_isForcedG l, Or.inl ⟨_, rfl, FX6_isForced, KRL_110⟩⟩
  · cases h
def T_L_forces : Tr := fun a σ K => match a with
  | [.inr (.inl (6, 0)), .inl v] => ∃ g, GS g σ ∧ pos g.1 ∧ ∀ σ', GS g σ' → K (some 1) σ'
  | _ => False
set_option maxHeartbeats 8000000 in
set_option maxRecDepth 20000 in
theorem k_L_forces (l : Launch) : Ct l yL_forces cL_forces 10 (some .boolean) 7 T_L_forces := by
  refine mk_met (by decide +kernel) hCL_forces lCL_forces frL_ok cstL_ok (cao_L_forces l) ?_ ?_
  · intro a σ K h
    unfold T_L_forces at h
    split at h
    · simp [eL]
    · exact h.elim
  · intro a σ K ha hR h
    unfold T_L_forces at h
    split at h
    · rename_i v
      obtain ⟨g, hg, hp, hk⟩ := h
      have hw := GS_w hg
      have J4 := hw.1.1
      have hLb := (hV_b hw hp).2
      have hLen : lenA g.1 = LV g.1 := cif_1 hp
      have r30 := upA_r (v := v) (m := 30) (by omega)
      obtain ⟨C, hC0⟩ : ∃ C, ∀ r, frS (g.1 10) (g.1 11) (g.1 12) (g.1 8) (LV g.1) r → LC (g.1 10) (g.1 11) (g.1 12) (g.1 8) (LV g.1) C ∧ r = cntP (g.1 10) (g.1 11) C := by
        by_cases z : ∃ r, frS (g.1 10) (g.1 11) (g.1 12) (g.1 8) (LV g.1) r
        · obtain ⟨r, hr⟩ := z
          obtain ⟨C, hC, e⟩ := fr_ex hw hp (Int.le_refl _) hr
          exact ⟨C, fun r' hr' => ⟨hC, (frS_un hr' hr).trans e⟩⟩
        · exact ⟨fun _ _ => False, fun r hr => absurd ⟨r, hr⟩ z⟩
      refine ⟨fun pc => if pc = 71 then some (fun L S σ' kz => match L, S with | [some (.inr (.inl c1)), some (.inl v'), some (.inl L), some (.inl J), some (.inl f), some (.inl p), some (.inl n), some (.inl x), _, _], [] => (c1 = (6, 0) ∧ v' = v ∧ L = LV g.1 ∧ J = g.1 5 0 ∧ f = cntP (g.1 10) (g.1 11) C ∧ GS g σ' ∧ LC (g.1 10) (g.1 11) (g.1 12) (g.1 8) (LV g.1) C ∧ (0 ≤ x ∧ x ≤ 4 * g.1 5 0) ∧ n = sm (fR g.1 C) x.toNat ∧ (0 ≤ n ∧ n ≤ 16 * x)) ∧ kz = (20 - x).toNat * 1000 + 900 | _, _ => False) else if pc = 82 then some (fun L S σ' kz => match L, S with | [some (.inr (.inl c1)), some (.inl v'), some (.inl L), some (.inl J), some (.inl f), some (.inl p), some (.inl n), some (.inl x), some (.inl y), _], [] => (c1 = (6, 0) ∧ v' = v ∧ L = LV g.1 ∧ J = g.1 5 0 ∧ f = cntP (g.1 10) (g.1 11) C ∧ GS g σ' ∧ LC (g.1 10) (g.1 11) (g.1 12) (g.1 8) (LV g.1) C ∧ (0 ≤ x ∧ x < 4 * g.1 5 0) ∧ (0 ≤ y ∧ y ≤ 4 * g.1 5 0) ∧ n = sm (fR g.1 C) x.toNat + sm (fX g.1 C x) y.toNat ∧ (0 ≤ n ∧ n ≤ 16 * x + y)) ∧ kz = (20 - x).toNat * 1000 + (20 - y).toNat * 10 + 9 | _, _ => False) else if pc = 153 then some (fun L S σ' kz => match L, S with | [some (.inr (.inl c1)), some (.inl v'), some (.inl L), some (.inl J), some (.inl f), some (.inl p), some (.inl n), some (.inl x), some (.inl y), _], [] => (c1 = (6, 0) ∧ v' = v ∧ L = LV g.1 ∧ J = g.1 5 0 ∧ f = cntP (g.1 10) (g.1 11) C ∧ GS g σ' ∧ LC (g.1 10) (g.1 11) (g.1 12) (g.1 8) (LV g.1) C ∧ (0 ≤ x ∧ x < 4 * g.1 5 0) ∧ (0 ≤ y ∧ y < 4 * g.1 5 0) ∧ n = sm (fR g.1 C) x.toNat + sm (fX g.1 C x) y.toNat ∧ (0 ≤ n ∧ n ≤ 16 * x + y) ∧ vOp (g.1 10) x ∧ vOp (g.1 10) y ∧ x ≠ y ∧ g.1 11 x = g.1 11 y) ∧ kz = (20 - x).toNat * 1000 + (20 - y).toNat * 10 + 5 | _, _ => False) else none, 300, ?_, ?_⟩
      · intro pc I L S σ' kz hcut hi
        dsimp only at hcut
        by_cases hpc0 : pc = 71
        · rw [if_pos hpc0] at hcut
          subst hpc0
          cases hcut
          try dsimp only at hi
          split at hi
          · rename_i c1 v' L J f p n x y8 y9
            obtain ⟨hi, rfl⟩ := hi
            obtain ⟨rfl, rfl, hL, hJ, hf, hg', hC, hx, hn, hnb⟩ := hi
            simp only [wp, stp, drp, entL, eL, lget, lset, okst, cnd, swt, rcv, Kr_int, Kr_bool, Kr_void, List.length_cons, List.length_nil, List.replicate, List.append_nil, List.cons_append, List.nil_append, List.take_succ_cons, List.take_zero, List.drop_succ_cons, List.drop_zero, List.reverse_cons, List.reverse_nil, Option.map_some, Option.map_none, Option.toList_some, Option.toList_none, Nat.reduceAdd, Nat.reduceSub, Nat.reduceLT, Nat.reduceLeDiff, Nat.reduceEqDiff, ↓reduceIte, Nat.add_zero, Nat.zero_add, true_and, and_true, Nat.le_refl, reduceCtorEq, false_implies, true_implies, not_true_eq_false, not_false_eq_true, Int.reduceAdd, Int.reduceSub, Int.reduceMul, Int.reduceLE, Int.reduceLT, Int.reduceEq, Int.reduceNe, Int.reduceNeg, Int.reduceDiv, Int.reduceMod, Bool.false_eq_true, Int.le_refl, and_self, true_or, or_true, inR_l, fv0, fv1, fv2, fv3, nc2, nc4, nc6, nc16, nc25, nc60, nc65, nc80, nc130, nc384, nc390, fp_0_0, fp_0_1, fp_0_2, fp_1_0, fp_1_1, fp_1_2, fp_1_3, fp_1_4, fp_1_5, fp_1_6, fp_1_7, fp_1_8, fp_1_9, fp_1_10, fp_1_11, fp_1_12, fp_1_13, fp_1_14, fp_2_0, fp_2_1, fp_2_2, fp_2_3, fp_3_0, fp_3_1, fp_4_0, fp_4_1, fp_4_2, fp_4_3, fp_4_4, fp_4_5, fp_4_6, fp_4_7, fp_5_0, fp_5_1, fp_5_2, fp_5_3, fp_5_4, fp_5_5, fp_5_6, fp_5_7, fp_6_0, fp_6_1, fp_6_2, fp_6_3, fp_6_4, fp_6_5, fp_6_6, fp_6_7, fp_6_8, fp_6_9, fp_6_10, fp_6_11, fp_6_12, fp_6_13, fp_6_14, fp_6_15, fp_7_0, fp_7_1, fp_7_2, fp_7_3, fp_7_4, fp_7_5, fp_7_6, fp_7_7, fp_7_8, fp_7_9, fp_7_10, fp_7_11, fp_7_12, fp_7_13, fp_7_14, fp_7_15, fp_7_16, fp_7_17, fp_7_18, fp_7_19, fp_7_20, fp_7_21, fp_7_22, fp_7_23, fp_7_24, iz_0_1, iz_0_2, iz_1_8, iz_1_9, iz_1_11, iz_2_1, iz_2_2, iz_2_3, iz_3_1, iz_4_1, iz_4_2, iz_5_0, iz_6_8, iz_6_9, iz_6_13, iz_6_14, iz_6_15, iz_7_2, iz_7_6, iz_7_12, iz_7_20, iz_7_21, iz_7_23, iz_7_24, ak_8, ak_9, ak_10, ak_11, ak_12, ak_13, ak_14, ak_15, ak_16, ak_17, ak_18, ak_19, ak_20, ak_21, ak_22, ak_23, ak_24, ak_25, ak_26, ak_27, ak_28, ak_29, ak_30, ak_31, ak_32, ak_33, ak_34, ak_35, ak_36, ak_37, ak_38, ak_39, ak_40, ak_41, ak_42, ak_43, ak_44, ak_45, ak_46, ak_47, ak_48, ak_49, ak_50, ak_51, ak_52, ak_53, ak_54, ak_55, ak_56, el31, el33, el34, CL_forces, ca_L_forces, frL, kcL, klL, T_X6_lengthG, T_X6_countG, T_X6_forcedG, T_L_up, T_X6_aboutG, T_X6_isForcedG, exists_eq_right_right, exists_eq_right, exists_eq_left, Nat.lt_irrefl, and_self, implies_true, forall_const]
            have hs := fR_JJ hw C
            refine ⟨by constructor <;> omega, fun q => ?_, fun q => ⟨by omega, hL, hJ, hf, hg', hC, ⟨hx.1, by omega⟩, by omega, by rw [hn]; exact (Int.add_zero _).symm, by omega, by omega⟩⟩
            have e : x = 4 * g.1 5 0 := by omega
            have en : n = f := by rw [hn, e, hf]; exact hs
            exact ⟨fun z => absurd en z, fun _ => hk _ hg'⟩
          · exact hi.elim
        rw [if_neg hpc0] at hcut
        by_cases hpc1 : pc = 82
        · rw [if_pos hpc1] at hcut
          subst hpc1
          cases hcut
          try dsimp only at hi
          split at hi
          · rename_i c1 v' L J f p n x y y9
            obtain ⟨hi, rfl⟩ := hi
            obtain ⟨rfl, rfl, hL, hJ, hf, hg', hC, hx, hy, hn, hnb⟩ := hi
            simp only [wp, stp, drp, entL, eL, lget, lset, okst, cnd, swt, rcv, Kr_int, Kr_bool, Kr_void, List.length_cons, List.length_nil, List.replicate, List.append_nil, List.cons_append, List.nil_append, List.take_succ_cons, List.take_zero, List.drop_succ_cons, List.drop_zero, List.reverse_cons, List.reverse_nil, Option.map_some, Option.map_none, Option.toList_some, Option.toList_none, Nat.reduceAdd, Nat.reduceSub, Nat.reduceLT, Nat.reduceLeDiff, Nat.reduceEqDiff, ↓reduceIte, Nat.add_zero, Nat.zero_add, true_and, and_true, Nat.le_refl, reduceCtorEq, false_implies, true_implies, not_true_eq_false, not_false_eq_true, Int.reduceAdd, Int.reduceSub, Int.reduceMul, Int.reduceLE, Int.reduceLT, Int.reduceEq, Int.reduceNe, Int.reduceNeg, Int.reduceDiv, Int.reduceMod, Bool.false_eq_true, Int.le_refl, and_self, true_or, or_true, inR_l, fv0, fv1, fv2, fv3, nc2, nc4, nc6, nc16, nc25, nc60, nc65, nc80, nc130, nc384, nc390, fp_0_0, fp_0_1, fp_0_2, fp_1_0, fp_1_1, fp_1_2, fp_1_3, fp_1_4, fp_1_5, fp_1_6, fp_1_7, fp_1_8, fp_1_9, fp_1_10, fp_1_11, fp_1_12, fp_1_13, fp_1_14, fp_2_0, fp_2_1, fp_2_2, fp_2_3, fp_3_0, fp_3_1, fp_4_0, fp_4_1, fp_4_2, fp_4_3, fp_4_4, fp_4_5, fp_4_6, fp_4_7, fp_5_0, fp_5_1, fp_5_2, fp_5_3, fp_5_4, fp_5_5, fp_5_6, fp_5_7, fp_6_0, fp_6_1, fp_6_2, fp_6_3, fp_6_4, fp_6_5, fp_6_6, fp_6_7, fp_6_8, fp_6_9, fp_6_10, fp_6_11, fp_6_12, fp_6_13, fp_6_14, fp_6_15, fp_7_0, fp_7_1, fp_7_2, fp_7_3, fp_7_4, fp_7_5, fp_7_6, fp_7_7, fp_7_8, fp_7_9, fp_7_10, fp_7_11, fp_7_12, fp_7_13, fp_7_14, fp_7_15, fp_7_16, fp_7_17, fp_7_18, fp_7_19, fp_7_20, fp_7_21, fp_7_22, fp_7_23, fp_7_24, iz_0_1, iz_0_2, iz_1_8, iz_1_9, iz_1_11, iz_2_1, iz_2_2, iz_2_3, iz_3_1, iz_4_1, iz_4_2, iz_5_0, iz_6_8, iz_6_9, iz_6_13, iz_6_14, iz_6_15, iz_7_2, iz_7_6, iz_7_12, iz_7_20, iz_7_21, iz_7_23, iz_7_24, ak_8, ak_9, ak_10, ak_11, ak_12, ak_13, ak_14, ak_15, ak_16, ak_17, ak_18, ak_19, ak_20, ak_21, ak_22, ak_23, ak_24, ak_25, ak_26, ak_27, ak_28, ak_29, ak_30, ak_31, ak_32, ak_33, ak_34, ak_35, ak_36, ak_37, ak_38, ak_39, ak_40, ak_41, ak_42, ak_43, ak_44, ak_45, ak_46, ak_47, ak_48, ak_49, ak_50, ak_51, ak_52, ak_53, ak_54, ak_55, ak_56, el31, el33, el34, CL_forces, ca_L_forces, frL, kcL, klL, T_X6_lengthG, T_X6_countG, T_X6_forcedG, T_L_up, T_X6_aboutG, T_X6_isForcedG, exists_eq_right_right, exists_eq_right, exists_eq_left, Nat.lt_irrefl, and_self, implies_true, forall_const]
            have s := sm_s (fX g.1 C x) hy.1
            have skip : ∀ σ1, GS g σ1 → y < 4 * g.1 5 0 → ¬ (vOp (g.1 10) x ∧ vOp (g.1 10) y ∧ x ≠ y ∧ g.1 11 x = g.1 11 y) → inR (y + 1) ∧ (20 - x).toNat * 1000 + (20 - (y + 1)).toNat * 10 + 9 < (20 - x).toNat * 1000 + (20 - y).toNat * 10 + 9 ∧ L = LV g.1 ∧ J = g.1 5 0 ∧ f = cntP (g.1 10) (g.1 11) C ∧ GS g σ1 ∧ LC (g.1 10) (g.1 11) (g.1 12) (g.1 8) (LV g.1) C ∧ (0 ≤ x ∧ x < 4 * g.1 5 0) ∧ (0 ≤ y + 1 ∧ y + 1 ≤ 4 * g.1 5 0) ∧ n = sm (fR g.1 C) x.toNat + sm (fX g.1 C x) (y + 1).toNat ∧ 0 ≤ n ∧ n ≤ 16 * x + (y + 1) := fun σ1 h1 hy1 z => by
              have e := fX_n (C := C) z
              exact ⟨by constructor <;> omega, by omega, hL, hJ, hf, h1, hC, hx, by omega, by omega, by omega, by omega⟩
            refine ⟨by constructor <;> omega, fun q => ?_, fun q => ⟨g, hg', fun σ1 h1 => ⟨fun q1 => skip σ1 h1 (by omega) (fun z => ?_), fun q1 => ⟨g, h1, fun σ2 h2 => ⟨fun q2 => ?_, fun q2 => skip σ2 h2 (by omega) (fun z => ?_)⟩⟩⟩⟩⟩
            · have e : y = 4 * g.1 5 0 := by omega
              have s2 := sm_s (fR g.1 C) hx.1
              have r := fR_J hw C x
              have r2 := fR_r g.1 C x
              rw [e, r] at hn
              exact ⟨by constructor <;> omega, by omega, hL, hJ, hf, hg', hC, by omega, by omega, by omega, by omega⟩
            · rw [ab1 z.1] at q1
              have := wWF_op hw z.1
              omega
            · have vx : vOp (g.1 10) x := Classical.byContradiction (fun z => q1 (by rw [ab_n z]; omega))
              have vy : vOp (g.1 10) y := Classical.byContradiction (fun z => by rw [ab_n z] at q2; omega)
              refine ⟨fun e => ⟨g, h2, fun σ3 h3 _ => ⟨fun _ => skip σ3 h3 (by omega) (fun z => z.2.2.1 e), fun z => absurd (if_2 vx vy (fun w => w.1 e)) z⟩⟩, fun ne => ⟨g, h2, fun σ3 h3 => ⟨g, h3, fun σ4 h4 => ?_⟩⟩⟩
              rw [ab0 vx, ab0 vy]
              exact ⟨fun em => ⟨by omega, hL, hJ, hf, h4, hC, hx, by omega, hn, hnb, vx, vy, ne, em⟩, fun em => ⟨g, h4, fun σ5 h5 _ => ⟨fun _ => skip σ5 h5 (by omega) (fun z => em z.2.2.2), fun z => absurd (if_2 vx vy (fun w => em w.2)) z⟩⟩⟩
            · rw [ab1 z.2.1] at q2
              have := wWF_op hw z.2.1
              omega
          · exact hi.elim
        rw [if_neg hpc1] at hcut
        by_cases hpc2 : pc = 153
        · rw [if_pos hpc2] at hcut
          subst hpc2
          cases hcut
          try dsimp only at hi
          split at hi
          · rename_i c1 v' L J f p n x y y9
            obtain ⟨hi, rfl⟩ := hi
            obtain ⟨rfl, rfl, hL, hJ, hf, hg', hC, hx, hy, hn, hnb, vx, vy, ne, hm⟩ := hi
            simp only [wp, stp, drp, entL, eL, lget, lset, okst, cnd, swt, rcv, Kr_int, Kr_bool, Kr_void, List.length_cons, List.length_nil, List.replicate, List.append_nil, List.cons_append, List.nil_append, List.take_succ_cons, List.take_zero, List.drop_succ_cons, List.drop_zero, List.reverse_cons, List.reverse_nil, Option.map_some, Option.map_none, Option.toList_some, Option.toList_none, Nat.reduceAdd, Nat.reduceSub, Nat.reduceLT, Nat.reduceLeDiff, Nat.reduceEqDiff, ↓reduceIte, Nat.add_zero, Nat.zero_add, true_and, and_true, Nat.le_refl, reduceCtorEq, false_implies, true_implies, not_true_eq_false, not_false_eq_true, Int.reduceAdd, Int.reduceSub, Int.reduceMul, Int.reduceLE, Int.reduceLT, Int.reduceEq, Int.reduceNe, Int.reduceNeg, Int.reduceDiv, Int.reduceMod, Bool.false_eq_true, Int.le_refl, and_self, true_or, or_true, inR_l, fv0, fv1, fv2, fv3, nc2, nc4, nc6, nc16, nc25, nc60, nc65, nc80, nc130, nc384, nc390, fp_0_0, fp_0_1, fp_0_2, fp_1_0, fp_1_1, fp_1_2, fp_1_3, fp_1_4, fp_1_5, fp_1_6, fp_1_7, fp_1_8, fp_1_9, fp_1_10, fp_1_11, fp_1_12, fp_1_13, fp_1_14, fp_2_0, fp_2_1, fp_2_2, fp_2_3, fp_3_0, fp_3_1, fp_4_0, fp_4_1, fp_4_2, fp_4_3, fp_4_4, fp_4_5, fp_4_6, fp_4_7, fp_5_0, fp_5_1, fp_5_2, fp_5_3, fp_5_4, fp_5_5, fp_5_6, fp_5_7, fp_6_0, fp_6_1, fp_6_2, fp_6_3, fp_6_4, fp_6_5, fp_6_6, fp_6_7, fp_6_8, fp_6_9, fp_6_10, fp_6_11, fp_6_12, fp_6_13, fp_6_14, fp_6_15, fp_7_0, fp_7_1, fp_7_2, fp_7_3, fp_7_4, fp_7_5, fp_7_6, fp_7_7, fp_7_8, fp_7_9, fp_7_10, fp_7_11, fp_7_12, fp_7_13, fp_7_14, fp_7_15, fp_7_16, fp_7_17, fp_7_18, fp_7_19, fp_7_20, fp_7_21, fp_7_22, fp_7_23, fp_7_24, iz_0_1, iz_0_2, iz_1_8, iz_1_9, iz_1_11, iz_2_1, iz_2_2, iz_2_3, iz_3_1, iz_4_1, iz_4_2, iz_5_0, iz_6_8, iz_6_9, iz_6_13, iz_6_14, iz_6_15, iz_7_2, iz_7_6, iz_7_12, iz_7_20, iz_7_21, iz_7_23, iz_7_24, ak_8, ak_9, ak_10, ak_11, ak_12, ak_13, ak_14, ak_15, ak_16, ak_17, ak_18, ak_19, ak_20, ak_21, ak_22, ak_23, ak_24, ak_25, ak_26, ak_27, ak_28, ak_29, ak_30, ak_31, ak_32, ak_33, ak_34, ak_35, ak_36, ak_37, ak_38, ak_39, ak_40, ak_41, ak_42, ak_43, ak_44, ak_45, ak_46, ak_47, ak_48, ak_49, ak_50, ak_51, ak_52, ak_53, ak_54, ak_55, ak_56, el31, el33, el34, CL_forces, ca_L_forces, frL, kcL, klL, T_X6_lengthG, T_X6_countG, T_X6_forcedG, T_L_up, T_X6_aboutG, T_X6_isForcedG, exists_eq_right_right, exists_eq_right, exists_eq_left, Nat.lt_irrefl, and_self, implies_true, forall_const]
            have s := sm_s (fX g.1 C x) hy.1
            have fr := fX_r g.1 C x y
            refine ⟨g, hg', fun σ1 h1 hif => ?_⟩
            obtain ⟨C1, hC1, e1⟩ := if_L hw hp (by omega) (by omega) vx vy ne hm hif
            rw [hL] at hC1
            have e1' := e1.trans (fX_un hC1 hC x y)
            have nxt : ∀ σ1, GS g σ1 → inR (y + 1) ∧ (20 - x).toNat * 1000 + (20 - (y + 1)).toNat * 10 + 9 < (20 - x).toNat * 1000 + (20 - y).toNat * 10 + 5 ∧ L = LV g.1 ∧ J = g.1 5 0 ∧ f = cntP (g.1 10) (g.1 11) C ∧ GS g σ1 ∧ LC (g.1 10) (g.1 11) (g.1 12) (g.1 8) (LV g.1) C ∧ (0 ≤ x ∧ x < 4 * g.1 5 0) ∧ (0 ≤ y + 1 ∧ y + 1 ≤ 4 * g.1 5 0) ∧ n + ifA g.1 L x y = sm (fR g.1 C) x.toNat + sm (fX g.1 C x) (y + 1).toNat ∧ 0 ≤ n + ifA g.1 L x y ∧ n + ifA g.1 L x y ≤ 16 * x + (y + 1) := fun σ1 h1 => ⟨by constructor <;> omega, by omega, hL, hJ, hf, h1, hC, hx, by omega, by omega, by omega, by omega⟩
            have two : ∀ {P : Prop}, (vOp (g.1 10) x ∧ vOp (g.1 10) y → (0 ≤ L + 1 + upA v' 30 ∧ L + 1 + upA v' 30 ≤ 500) ∧ x ≠ y ∧ g.1 11 x = g.1 11 y → ifS (g.1 10) (g.1 11) (g.1 12) (g.1 8) (L + 1 + upA v' 30) x y (ifA g.1 (L + 1 + upA v' 30) x y)) → ¬ ifA g.1 (L + 1 + upA v' 30) x y ≤ ifA g.1 L x y → P := fun h2 z => by
              obtain ⟨C2, hC2, e2⟩ := if_L hw hp (by omega) (by omega) vx vy ne hm h2
              have := fX_up hC hC2 (by omega) x y
              omega
            refine ⟨by constructor <;> omega, fun q => ⟨by constructor <;> omega, by constructor <;> omega, g, h1, fun σ2 h2 hif2 => ⟨fun _ => nxt σ2 h2, fun z => two hif2 z⟩⟩, fun q => ?_⟩
            · have eq1 : fX g.1 C x y = 1 := by omega
              obtain ⟨pl, rv⟩ := fX_as hw hp (Int.le_refl _) hC eq1
              refine ⟨g, h1, fun σ2 h2 => ⟨g, h2, fun σ3 h3 => ⟨fun z => ?_, fun _ => ⟨g, h3, fun σ4 h4 hif4 => ⟨fun _ => ⟨by constructor <;> omega, by constructor <;> omega, g, h4, fun σ5 h5 hif5 => ⟨fun _ => nxt σ5 h5, fun z => two hif5 z⟩⟩, fun z => ?_⟩⟩⟩⟩⟩
              · rw [ab2 vx, ab2 vy] at z
                omega
              · obtain ⟨C4, hC4, e4⟩ := if_L hw hp (by omega) (by omega) vy vx (fun w => ne w.symm) hm.symm hif4
                rw [hL] at hC4
                exact absurd (e4.trans ((fX_un hC4 hC y x).trans rv)) z
          · exact hi.elim
        rw [if_neg hpc2] at hcut
        cases hcut
      · simp only [wp, stp, drp, entL, eL, lget, lset, okst, cnd, swt, rcv, Kr_int, Kr_bool, Kr_void, List.length_cons, List.length_nil, List.replicate, List.append_nil, List.cons_append, List.nil_append, List.take_succ_cons, List.take_zero, List.drop_succ_cons, List.drop_zero, List.reverse_cons, List.reverse_nil, Option.map_some, Option.map_none, Option.toList_some, Option.toList_none, Nat.reduceAdd, Nat.reduceSub, Nat.reduceLT, Nat.reduceLeDiff, Nat.reduceEqDiff, ↓reduceIte, Nat.add_zero, Nat.zero_add, true_and, and_true, Nat.le_refl, reduceCtorEq, false_implies, true_implies, not_true_eq_false, not_false_eq_true, Int.reduceAdd, Int.reduceSub, Int.reduceMul, Int.reduceLE, Int.reduceLT, Int.reduceEq, Int.reduceNe, Int.reduceNeg, Int.reduceDiv, Int.reduceMod, Bool.false_eq_true, Int.le_refl, and_self, true_or, or_true, inR_l, fv0, fv1, fv2, fv3, nc2, nc4, nc6, nc16, nc25, nc60, nc65, nc80, nc130, nc384, nc390, fp_0_0, fp_0_1, fp_0_2, fp_1_0, fp_1_1, fp_1_2, fp_1_3, fp_1_4, fp_1_5, fp_1_6, fp_1_7, fp_1_8, fp_1_9, fp_1_10, fp_1_11, fp_1_12, fp_1_13, fp_1_14, fp_2_0, fp_2_1, fp_2_2, fp_2_3, fp_3_0, fp_3_1, fp_4_0, fp_4_1, fp_4_2, fp_4_3, fp_4_4, fp_4_5, fp_4_6, fp_4_7, fp_5_0, fp_5_1, fp_5_2, fp_5_3, fp_5_4, fp_5_5, fp_5_6, fp_5_7, fp_6_0, fp_6_1, fp_6_2, fp_6_3, fp_6_4, fp_6_5, fp_6_6, fp_6_7, fp_6_8, fp_6_9, fp_6_10, fp_6_11, fp_6_12, fp_6_13, fp_6_14, fp_6_15, fp_7_0, fp_7_1, fp_7_2, fp_7_3, fp_7_4, fp_7_5, fp_7_6, fp_7_7, fp_7_8, fp_7_9, fp_7_10, fp_7_11, fp_7_12, fp_7_13, fp_7_14, fp_7_15, fp_7_16, fp_7_17, fp_7_18, fp_7_19, fp_7_20, fp_7_21, fp_7_22, fp_7_23, fp_7_24, iz_0_1, iz_0_2, iz_1_8, iz_1_9, iz_1_11, iz_2_1, iz_2_2, iz_2_3, iz_3_1, iz_4_1, iz_4_2, iz_5_0, iz_6_8, iz_6_9, iz_6_13, iz_6_14, iz_6_15, iz_7_2, iz_7_6, iz_7_12, iz_7_20, iz_7_21, iz_7_23, iz_7_24, ak_8, ak_9, ak_10, ak_11, ak_12, ak_13, ak_14, ak_15, ak_16, ak_17, ak_18, ak_19, ak_20, ak_21, ak_22, ak_23, ak_24, ak_25, ak_26, ak_27, ak_28, ak_29, ak_30, ak_31, ak_32, ak_33, ak_34, ak_35, ak_36, ak_37, ak_38, ak_39, ak_40, ak_41, ak_42, ak_43, ak_44, ak_45, ak_46, ak_47, ak_48, ak_49, ak_50, ak_51, ak_52, ak_53, ak_54, ak_55, ak_56, el31, el33, el34, CL_forces, ca_L_forces, frL, kcL, klL, T_X6_lengthG, T_X6_countG, T_X6_forcedG, T_L_up, T_X6_aboutG, T_X6_isForcedG, exists_eq_right_right, exists_eq_right, exists_eq_left, Nat.lt_irrefl, and_self, implies_true, forall_const]
        refine ⟨g, hg, fun σ1 h1 => ⟨g, h1, fun σ2 h2 => ⟨g, h2, fun σ3 h3 hf => ?_⟩⟩⟩
        rw [hLen] at hf ⊢
        obtain ⟨hC, e1⟩ := hC0 _ (hf (by omega))
        refine ⟨by constructor <;> omega, by constructor <;> omega, g, h3, fun σ4 h4 hf2 => ?_⟩
        obtain ⟨C2, hC2, e2⟩ := fr_ex hw hp (by omega) (hf2 (by omega))
        have r1 := cntP_r (g.1 10) (g.1 11) C
        have r2 := cntP_r (g.1 10) (g.1 11) C2
        have up := cnt_up hC hC2 (by omega)
        refine ⟨fun z => by omega, fun _ => ⟨fun z => by omega, fun _ => ⟨fun _ => ⟨g, h4, fun σ5 h5 hf5 => ?_⟩, fun z => by omega⟩⟩⟩
        obtain ⟨C5, hC5, e5⟩ := fr_ex hw hp (by omega) hf5
        rw [fr_500 hw hC5] at e5
        exact ⟨fun _ => ⟨rfl, ct0, e1, h5, hC, by omega, rfl⟩, fun z => absurd e5 z⟩
    · exact h.elim
