def ca_L_critical : Nat → Option (Nat × Nat × Tr)
  | 69 => some (2, 6, T_X6_countG)
  | 98 => some (2, 6, T_X6_pathG)
  | 76 => some (3, 6, T_X6_aboutG)
  | 33 => some (3, 6, T_X6_ofJobG)
  | _ => none
theorem cao_L_critical (l : Launch) : ∀ k n' ci T', ca_L_critical k = some (n', ci, T') → ∃ nn, nn + 1 ≤ 7 ∧ Site l yL_critical.cls k n' ci nn T' := by
  intro k n' ci T' h
  unfold ca_L_critical at h
  split at h
  · cases h; exact ⟨6, by decide, _, _, _, _, k_X6_countG l, Or.inl ⟨_, rfl, FX6_count, KRL_69⟩⟩
  · cases h; exact ⟨6, by decide, _, _, _, _, k_X6_pathG l, Or.inl ⟨_, rfl, FX6_path, KRL_98⟩⟩
  · cases h; exact ⟨6, by decide, _, _, _, _, k_X6_aboutG l, Or.inl ⟨_, rfl, FX6_about, KRL_76⟩⟩
  · cases h; exact ⟨6, by decide, _, _, _, _, k_X6_ofJobG l, Or.inl ⟨_, rfl, FX6_ofJob, KRL_33⟩⟩
  · cases h
def T_L_critical : Tr := fun a σ K => match a with
  | [.inr (.inl (6, 0)), .inl len] => ∃ g, GS g σ ∧ pos g.1 ∧ len = LV g.1 ∧ ∀ σ', GS g σ' → K (some 1) σ'
  | _ => False
set_option maxHeartbeats 8000000 in
set_option maxRecDepth 20000 in
theorem k_L_critical (l : Launch) : Ct l yL_critical cL_critical 8 (some .boolean) 7 T_L_critical := by
  refine mk_met (by decide +kernel) hCL_critical lCL_critical frL_ok cstL_ok (cao_L_critical l) ?_ ?_
  · intro a σ K h
    unfold T_L_critical at h
    split at h
    · simp [eL]
    · exact h.elim
  · intro a σ K ha hR h
    unfold T_L_critical at h
    split at h
    · rename_i len
      obtain ⟨g, hg, hp, rfl, hk⟩ := h
      have hw := GS_w hg
      have hnb := nV_b hw hp
      have hLb := (hV_b hw hp).2
      refine ⟨fun pc => if pc = 14 then some (fun L S σ' kz => match L, S with | [some (.inr (.inl c1)), some (.inl L), some (.inl n), some (.inl b), some (.inl t), some (.inl k), _, _], [] => (c1 = (6, 0) ∧ L = LV g.1 ∧ n = nV g.1 ∧ b = sm (blk (g.1 11) (pV g.1)) k.toNat ∧ (0 ≤ b ∧ b ≤ k) ∧ (0 ≤ k ∧ k ≤ nV g.1) ∧ ((k = 0 ∧ t = 0) ∨ (0 < k ∧ t = hV g.1 (pV g.1 (k - 1)) + g.1 12 (pV g.1 (k - 1)))) ∧ GS g σ') ∧ kz = (20 - k).toNat * 10 + 9 | _, _ => False) else if pc = 71 then some (fun L S σ' kz => match L, S with | [some (.inr (.inl c1)), some (.inl L), some (.inl n), some (.inl b), some (.inl t), some (.inl k), some (.inl o), _], [] => (c1 = (6, 0) ∧ L = LV g.1 ∧ n = nV g.1 ∧ b = sm (blk (g.1 11) (pV g.1)) k.toNat ∧ (0 ≤ b ∧ b ≤ k) ∧ (0 ≤ k ∧ k < nV g.1) ∧ o = pV g.1 k ∧ t = hV g.1 o ∧ GS g σ') ∧ kz = (20 - k).toNat * 10 + 8 | _, _ => False) else if pc = 130 then some (fun L S σ' kz => match L, S with | [some (.inr (.inl c1)), some (.inl L), some (.inl n), some (.inl b), some (.inl t), some (.inl k), some (.inl o), _], [.inl s] => (c1 = (6, 0) ∧ L = LV g.1 ∧ n = nV g.1 ∧ b = sm (blk (g.1 11) (pV g.1)) k.toNat ∧ (0 ≤ b ∧ b ≤ k) ∧ (0 ≤ k ∧ k < nV g.1) ∧ o = pV g.1 k ∧ t = hV g.1 o + g.1 12 o ∧ ((s = 1 ∧ ¬ (k = 0 ∨ g.1 11 (pV g.1 k) ≠ g.1 11 (pV g.1 (k - 1)))) ∨ (s = 0 ∧ (k = 0 ∨ g.1 11 (pV g.1 k) ≠ g.1 11 (pV g.1 (k - 1))))) ∧ GS g σ') ∧ kz = (20 - k).toNat * 10 + 7 | _, _ => False) else none, 200, ?_, ?_⟩
      · intro pc I L S σ' kz hcut hi
        dsimp only at hcut
        split at hcut
        · rename_i hpc
          subst hpc
          cases hcut
          try dsimp only at hi
          split at hi
          · rename_i c1 L n b t k x1 x2
            obtain ⟨hi, rfl⟩ := hi
            obtain ⟨rfl, rfl, rfl, hb, hb2, hk0, ht, hg'⟩ := hi
            simp only [wp, stp, drp, entL, eL, lget, lset, okst, cnd, swt, rcv, Kr_int, Kr_bool, Kr_void, List.length_cons, List.length_nil, List.replicate, List.append_nil, List.cons_append, List.nil_append, List.take_succ_cons, List.take_zero, List.drop_succ_cons, List.drop_zero, List.reverse_cons, List.reverse_nil, Option.map_some, Option.map_none, Option.toList_some, Option.toList_none, Nat.reduceAdd, Nat.reduceSub, Nat.reduceLT, Nat.reduceLeDiff, Nat.reduceEqDiff, ↓reduceIte, Nat.add_zero, Nat.zero_add, true_and, and_true, Nat.le_refl, reduceCtorEq, false_implies, true_implies, not_true_eq_false, not_false_eq_true, Int.reduceAdd, Int.reduceSub, Int.reduceMul, Int.reduceLE, Int.reduceLT, Int.reduceEq, Int.reduceNe, Int.reduceNeg, Int.reduceDiv, Int.reduceMod, Bool.false_eq_true, Int.le_refl, and_self, true_or, or_true, inR_l, fv0, fv1, fv2, fv3, nc2, nc4, nc6, nc16, nc25, nc60, nc65, nc80, nc130, nc384, nc390, fp_0_0, fp_0_1, fp_0_2, fp_1_0, fp_1_1, fp_1_2, fp_1_3, fp_1_4, fp_1_5, fp_1_6, fp_1_7, fp_1_8, fp_1_9, fp_1_10, fp_1_11, fp_1_12, fp_1_13, fp_1_14, fp_2_0, fp_2_1, fp_2_2, fp_2_3, fp_3_0, fp_3_1, fp_4_0, fp_4_1, fp_4_2, fp_4_3, fp_4_4, fp_4_5, fp_4_6, fp_4_7, fp_5_0, fp_5_1, fp_5_2, fp_5_3, fp_5_4, fp_5_5, fp_5_6, fp_5_7, fp_6_0, fp_6_1, fp_6_2, fp_6_3, fp_6_4, fp_6_5, fp_6_6, fp_6_7, fp_6_8, fp_6_9, fp_6_10, fp_6_11, fp_6_12, fp_6_13, fp_6_14, fp_6_15, fp_7_0, fp_7_1, fp_7_2, fp_7_3, fp_7_4, fp_7_5, fp_7_6, fp_7_7, fp_7_8, fp_7_9, fp_7_10, fp_7_11, fp_7_12, fp_7_13, fp_7_14, fp_7_15, fp_7_16, fp_7_17, fp_7_18, fp_7_19, fp_7_20, fp_7_21, fp_7_22, fp_7_23, fp_7_24, iz_0_1, iz_0_2, iz_1_8, iz_1_9, iz_1_11, iz_2_1, iz_2_2, iz_2_3, iz_3_1, iz_4_1, iz_4_2, iz_5_0, iz_6_8, iz_6_9, iz_6_13, iz_6_14, iz_6_15, iz_7_2, iz_7_6, iz_7_12, iz_7_20, iz_7_21, iz_7_23, iz_7_24, ak_8, ak_9, ak_10, ak_11, ak_12, ak_13, ak_14, ak_15, ak_16, ak_17, ak_18, ak_19, ak_20, ak_21, ak_22, ak_23, ak_24, ak_25, ak_26, ak_27, ak_28, ak_29, ak_30, ak_31, ak_32, ak_33, ak_34, ak_35, ak_36, ak_37, ak_38, ak_39, ak_40, ak_41, ak_42, ak_43, ak_44, ak_45, ak_46, ak_47, ak_48, ak_49, ak_50, ak_51, ak_52, ak_53, ak_54, ak_55, ak_56, el31, el33, el34, CL_critical, ca_L_critical, frL, kcL, klL, T_X6_countG, T_X6_pathG, T_X6_aboutG, T_X6_ofJobG, exists_eq_right_right, exists_eq_right, exists_eq_left, Nat.lt_irrefl, and_self, implies_true, forall_const]
            refine ⟨fun a => ?_, fun a => ?_⟩
            · obtain rfl : k = nV g.1 := by omega
              have ep : pathA g.1 (nV g.1) = -6 := cif_0 (fun z => by have := z.2.2; omega)
              have eb : cntA g 4 = b := (ct4 hp).trans hb.symm
              refine ⟨fun z => ⟨fun w => absurd ?_ w, fun _ => ⟨g, hg', fun σ1 h1 => ⟨fun w => absurd eb w, fun _ => ⟨g, h1, fun σ2 h2 => ⟨fun w => absurd ep w, fun _ => ⟨fun _ => hk _ h2, fun w => absurd (by omega) w⟩⟩⟩⟩⟩⟩, fun z => ?_⟩
              · have e := nV_end hw hp (by omega)
                rcases ht with q | q
                · omega
                · rw [q.2]
                  exact e
              · have n0 := nV_0 hw hp (by omega)
                refine ⟨fun w => absurd n0.2 w, fun _ => ⟨g, hg', fun σ1 h1 => ⟨fun w => absurd eb w, fun _ => ⟨g, h1, fun σ2 h2 => ⟨fun w => absurd ep w, fun _ => ⟨fun _ => hk _ h2, fun _ => ⟨g, h2, fun σ3 h3 => ⟨fun w => absurd ?_ w, fun _ => hk _ h3⟩⟩⟩⟩⟩⟩⟩⟩
                rw [ct1]
                exact wF_no hw n0.1
            · have s := pV_s hw hp hk0.1 (show k < nV g.1 by omega)
              have ep : pathA g.1 k = pV g.1 k := cif_1 ⟨hp, hk0.1, by omega⟩
              have e6 : abA g.1 (pV g.1 k) 6 = 1 := (ab6 s.1 hp).trans (if_pos (by unfold slkA; omega))
              have e7 : abA g.1 (pV g.1 k) 7 = k := (ab7 s.1 hp).trans (popA_k hw hp hk0.1 (by omega))
              refine ⟨g, hg', fun σ1 h1 => ?_⟩
              rw [ep]
              refine ⟨g, h1, fun σ2 h2 => ⟨fun w => absurd e6 w, fun _ => ⟨g, h2, fun σ3 h3 => ⟨fun _ => ⟨fun z => ⟨by omega, hb, hb2, by omega, rfl, ?_, h3⟩, fun z => ⟨s.1.1, g, h3, fun σ4 h4 => ⟨by omega, hb, hb2, by omega, rfl, ?_, h4⟩⟩⟩, fun w => absurd e7 w⟩⟩⟩⟩
              · rw [(s.2.2.2 (by omega)).1]
                rcases ht with q | q
                · omega
                · exact q.2
              · have o := wWF_op hw s.1
                rw [of0 ⟨o.2.2.2.2.1, o.2.2.2.2.2.1⟩]
                exact (s.2.2.1 (by omega)).symm
          · exact hi.elim
        · split at hcut
          · rename_i hpc
            subst hpc
            cases hcut
            try dsimp only at hi
            split at hi
            · rename_i c1 L n b t k o x2
              obtain ⟨hi, rfl⟩ := hi
              obtain ⟨rfl, rfl, rfl, hb, hb2, hk0, ho, ht, hg'⟩ := hi
              simp only [wp, stp, drp, entL, eL, lget, lset, okst, cnd, swt, rcv, Kr_int, Kr_bool, Kr_void, List.length_cons, List.length_nil, List.replicate, List.append_nil, List.cons_append, List.nil_append, List.take_succ_cons, List.take_zero, List.drop_succ_cons, List.drop_zero, List.reverse_cons, List.reverse_nil, Option.map_some, Option.map_none, Option.toList_some, Option.toList_none, Nat.reduceAdd, Nat.reduceSub, Nat.reduceLT, Nat.reduceLeDiff, Nat.reduceEqDiff, ↓reduceIte, Nat.add_zero, Nat.zero_add, true_and, and_true, Nat.le_refl, reduceCtorEq, false_implies, true_implies, not_true_eq_false, not_false_eq_true, Int.reduceAdd, Int.reduceSub, Int.reduceMul, Int.reduceLE, Int.reduceLT, Int.reduceEq, Int.reduceNe, Int.reduceNeg, Int.reduceDiv, Int.reduceMod, Bool.false_eq_true, Int.le_refl, and_self, true_or, or_true, inR_l, fv0, fv1, fv2, fv3, nc2, nc4, nc6, nc16, nc25, nc60, nc65, nc80, nc130, nc384, nc390, fp_0_0, fp_0_1, fp_0_2, fp_1_0, fp_1_1, fp_1_2, fp_1_3, fp_1_4, fp_1_5, fp_1_6, fp_1_7, fp_1_8, fp_1_9, fp_1_10, fp_1_11, fp_1_12, fp_1_13, fp_1_14, fp_2_0, fp_2_1, fp_2_2, fp_2_3, fp_3_0, fp_3_1, fp_4_0, fp_4_1, fp_4_2, fp_4_3, fp_4_4, fp_4_5, fp_4_6, fp_4_7, fp_5_0, fp_5_1, fp_5_2, fp_5_3, fp_5_4, fp_5_5, fp_5_6, fp_5_7, fp_6_0, fp_6_1, fp_6_2, fp_6_3, fp_6_4, fp_6_5, fp_6_6, fp_6_7, fp_6_8, fp_6_9, fp_6_10, fp_6_11, fp_6_12, fp_6_13, fp_6_14, fp_6_15, fp_7_0, fp_7_1, fp_7_2, fp_7_3, fp_7_4, fp_7_5, fp_7_6, fp_7_7, fp_7_8, fp_7_9, fp_7_10, fp_7_11, fp_7_12, fp_7_13, fp_7_14, fp_7_15, fp_7_16, fp_7_17, fp_7_18, fp_7_19, fp_7_20, fp_7_21, fp_7_22, fp_7_23, fp_7_24, iz_0_1, iz_0_2, iz_1_8, iz_1_9, iz_1_11, iz_2_1, iz_2_2, iz_2_3, iz_3_1, iz_4_1, iz_4_2, iz_5_0, iz_6_8, iz_6_9, iz_6_13, iz_6_14, iz_6_15, iz_7_2, iz_7_6, iz_7_12, iz_7_20, iz_7_21, iz_7_23, iz_7_24, ak_8, ak_9, ak_10, ak_11, ak_12, ak_13, ak_14, ak_15, ak_16, ak_17, ak_18, ak_19, ak_20, ak_21, ak_22, ak_23, ak_24, ak_25, ak_26, ak_27, ak_28, ak_29, ak_30, ak_31, ak_32, ak_33, ak_34, ak_35, ak_36, ak_37, ak_38, ak_39, ak_40, ak_41, ak_42, ak_43, ak_44, ak_45, ak_46, ak_47, ak_48, ak_49, ak_50, ak_51, ak_52, ak_53, ak_54, ak_55, ak_56, el31, el33, el34, CL_critical, ca_L_critical, frL, kcL, klL, T_X6_countG, T_X6_pathG, T_X6_aboutG, T_X6_ofJobG, exists_eq_right_right, exists_eq_right, exists_eq_left, Nat.lt_irrefl, and_self, implies_true, forall_const]
              subst ho
              have s := pV_s hw hp hk0.1 hk0.2
              have hB := (hV_b hw hp).1 _ s.1
              have o := wWF_op hw s.1
              have e3 : abA g.1 (pV g.1 k) 3 = t := (ab3 s.1 hp).trans ht.symm
              have e1 : abA g.1 (pV g.1 k) 1 = g.1 12 (pV g.1 k) := ab1 s.1
              refine ⟨g, hg', fun σ1 h1 => ⟨fun _ => ⟨g, h1, fun σ2 h2 => ?_⟩, fun w => absurd e3 w⟩⟩
              rw [e1]
              refine ⟨by constructor <;> omega, fun z => ⟨by omega, hb, hb2, hk0, rfl, by omega, Or.inr (Or.inl (by omega)), h2⟩, fun z => ⟨by constructor <;> omega, g, h2, fun σ3 h3 => ?_⟩⟩
              have s' := pV_s hw hp (show 0 ≤ k - 1 by omega) (show k - 1 < nV g.1 by omega)
              have ep : pathA g.1 (k - 1) = pV g.1 (k - 1) := cif_1 ⟨hp, by omega, by omega⟩
              rw [ep]
              refine ⟨g, h3, fun σ4 h4 => ?_⟩
              rw [ab0 s'.1]
              refine ⟨g, h4, fun σ5 h5 => ?_⟩
              rw [ab0 s.1]
              exact ⟨fun w => ⟨by omega, hb, hb2, hk0, rfl, by omega, Or.inr (Or.inr (fun q => w q.symm)), h5⟩, fun w => ⟨by omega, hb, hb2, hk0, rfl, by omega, Or.inl (fun q => q.elim (fun q => by omega) (fun q => w (fun r => q r.symm))), h5⟩⟩
            · exact hi.elim
          · split at hcut
            · rename_i hpc
              subst hpc
              cases hcut
              try dsimp only at hi
              split at hi
              · rename_i c1 L n b t k o x2 s
                obtain ⟨hi, rfl⟩ := hi
                obtain ⟨rfl, rfl, rfl, hb, hb2, hk0, ho, ht, hs, hg'⟩ := hi
                simp only [wp, stp, drp, entL, eL, lget, lset, okst, cnd, swt, rcv, Kr_int, Kr_bool, Kr_void, List.length_cons, List.length_nil, List.replicate, List.append_nil, List.cons_append, List.nil_append, List.take_succ_cons, List.take_zero, List.drop_succ_cons, List.drop_zero, List.reverse_cons, List.reverse_nil, Option.map_some, Option.map_none, Option.toList_some, Option.toList_none, Nat.reduceAdd, Nat.reduceSub, Nat.reduceLT, Nat.reduceLeDiff, Nat.reduceEqDiff, ↓reduceIte, Nat.add_zero, Nat.zero_add, true_and, and_true, Nat.le_refl, reduceCtorEq, false_implies, true_implies, not_true_eq_false, not_false_eq_true, Int.reduceAdd, Int.reduceSub, Int.reduceMul, Int.reduceLE, Int.reduceLT, Int.reduceEq, Int.reduceNe, Int.reduceNeg, Int.reduceDiv, Int.reduceMod, Bool.false_eq_true, Int.le_refl, and_self, true_or, or_true, inR_l, fv0, fv1, fv2, fv3, nc2, nc4, nc6, nc16, nc25, nc60, nc65, nc80, nc130, nc384, nc390, fp_0_0, fp_0_1, fp_0_2, fp_1_0, fp_1_1, fp_1_2, fp_1_3, fp_1_4, fp_1_5, fp_1_6, fp_1_7, fp_1_8, fp_1_9, fp_1_10, fp_1_11, fp_1_12, fp_1_13, fp_1_14, fp_2_0, fp_2_1, fp_2_2, fp_2_3, fp_3_0, fp_3_1, fp_4_0, fp_4_1, fp_4_2, fp_4_3, fp_4_4, fp_4_5, fp_4_6, fp_4_7, fp_5_0, fp_5_1, fp_5_2, fp_5_3, fp_5_4, fp_5_5, fp_5_6, fp_5_7, fp_6_0, fp_6_1, fp_6_2, fp_6_3, fp_6_4, fp_6_5, fp_6_6, fp_6_7, fp_6_8, fp_6_9, fp_6_10, fp_6_11, fp_6_12, fp_6_13, fp_6_14, fp_6_15, fp_7_0, fp_7_1, fp_7_2, fp_7_3, fp_7_4, fp_7_5, fp_7_6, fp_7_7, fp_7_8, fp_7_9, fp_7_10, fp_7_11, fp_7_12, fp_7_13, fp_7_14, fp_7_15, fp_7_16, fp_7_17, fp_7_18, fp_7_19, fp_7_20, fp_7_21, fp_7_22, fp_7_23, fp_7_24, iz_0_1, iz_0_2, iz_1_8, iz_1_9, iz_1_11, iz_2_1, iz_2_2, iz_2_3, iz_3_1, iz_4_1, iz_4_2, iz_5_0, iz_6_8, iz_6_9, iz_6_13, iz_6_14, iz_6_15, iz_7_2, iz_7_6, iz_7_12, iz_7_20, iz_7_21, iz_7_23, iz_7_24, ak_8, ak_9, ak_10, ak_11, ak_12, ak_13, ak_14, ak_15, ak_16, ak_17, ak_18, ak_19, ak_20, ak_21, ak_22, ak_23, ak_24, ak_25, ak_26, ak_27, ak_28, ak_29, ak_30, ak_31, ak_32, ak_33, ak_34, ak_35, ak_36, ak_37, ak_38, ak_39, ak_40, ak_41, ak_42, ak_43, ak_44, ak_45, ak_46, ak_47, ak_48, ak_49, ak_50, ak_51, ak_52, ak_53, ak_54, ak_55, ak_56, el31, el33, el34, CL_critical, ca_L_critical, frL, kcL, klL, T_X6_countG, T_X6_pathG, T_X6_aboutG, T_X6_ofJobG, exists_eq_right_right, exists_eq_right, exists_eq_left, Nat.lt_irrefl, and_self, implies_true, forall_const]
                subst ho
                have s := pV_s hw hp hk0.1 hk0.2
                have es := sm_s (blk (g.1 11) (pV g.1)) hk0.1
                have bb := blk_01 (g.1 11) (pV g.1) k
                have ek : pV g.1 (k + 1 - 1) = pV g.1 k := by rw [Int.add_sub_cancel]
                rw [ek]
                refine ⟨fun a => ?_, fun a => ?_⟩
                · have hs' : k = 0 ∨ g.1 11 (pV g.1 k) ≠ g.1 11 (pV g.1 (k - 1)) := by
                    rcases hs with q | q
                    · omega
                    · exact q.2
                  rw [bb.1 hs', ← hb] at es
                  have fin : ∀ σ1, GS g σ1 → inR (k + 1) ∧ (20 - (k + 1)).toNat * 10 + 9 < (20 - k).toNat * 10 + 7 ∧ b + 1 = sm (blk (g.1 11) (pV g.1)) (k + 1).toNat ∧ (0 ≤ b + 1 ∧ b + 1 ≤ k + 1) ∧ (0 ≤ k + 1 ∧ k + 1 ≤ nV g.1) ∧ (k + 1 = 0 ∧ t = 0 ∨ 0 < k + 1 ∧ t = hV g.1 (pV g.1 k) + g.1 12 (pV g.1 k)) ∧ GS g σ1 := fun σ1 h1 => ⟨by constructor <;> omega, by omega, es.symm, by omega, by omega, Or.inr ⟨by omega, ht⟩, h1⟩
                  refine ⟨by constructor <;> omega, fun _ => fin _ hg', fun z => ⟨fun w => absurd a w, fun _ => ⟨by constructor <;> omega, g, hg', fun σ1 h1 => ?_⟩⟩⟩
                  have s' := pV_s hw hp (show 0 ≤ k - 1 by omega) (show k - 1 < nV g.1 by omega)
                  have ep : pathA g.1 (k - 1) = pV g.1 (k - 1) := cif_1 ⟨hp, by omega, by omega⟩
                  have v0 := s'.1.1
                  have v1 := s'.1.2.1
                  rw [ep]
                  refine ⟨by constructor <;> omega, fun _ => fin _ h1, fun w => absurd ?_ w⟩
                  exact (s.2.2.2 (by omega)).2 (fun q => (hs'.resolve_left (by omega)) q.symm)
                · have hs' : ¬ (k = 0 ∨ g.1 11 (pV g.1 k) ≠ g.1 11 (pV g.1 (k - 1))) := by
                    rcases hs with q | q
                    · exact q.2
                    · exact absurd q.1 a
                  rw [bb.2 hs', ← hb] at es
                  have fin : ∀ σ1, GS g σ1 → inR (k + 1) ∧ (20 - (k + 1)).toNat * 10 + 9 < (20 - k).toNat * 10 + 7 ∧ b + 0 = sm (blk (g.1 11) (pV g.1)) (k + 1).toNat ∧ (0 ≤ b + 0 ∧ b + 0 ≤ k + 1) ∧ (0 ≤ k + 1 ∧ k + 1 ≤ nV g.1) ∧ (k + 1 = 0 ∧ t = 0 ∨ 0 < k + 1 ∧ t = hV g.1 (pV g.1 k) + g.1 12 (pV g.1 k)) ∧ GS g σ1 := fun σ1 h1 => ⟨by constructor <;> omega, by omega, es.symm, by omega, by omega, Or.inr ⟨by omega, ht⟩, h1⟩
                  exact ⟨by constructor <;> omega, fun _ => fin _ hg', fun z => ⟨fun _ => fin _ hg', fun w => absurd a w⟩⟩
              · exact hi.elim
            · cases hcut
      · simp only [wp, stp, drp, entL, eL, lget, lset, okst, cnd, swt, rcv, Kr_int, Kr_bool, Kr_void, List.length_cons, List.length_nil, List.replicate, List.append_nil, List.cons_append, List.nil_append, List.take_succ_cons, List.take_zero, List.drop_succ_cons, List.drop_zero, List.reverse_cons, List.reverse_nil, Option.map_some, Option.map_none, Option.toList_some, Option.toList_none, Nat.reduceAdd, Nat.reduceSub, Nat.reduceLT, Nat.reduceLeDiff, Nat.reduceEqDiff, ↓reduceIte, Nat.add_zero, Nat.zero_add, true_and, and_true, Nat.le_refl, reduceCtorEq, false_implies, true_implies, not_true_eq_false, not_false_eq_true, Int.reduceAdd, Int.reduceSub, Int.reduceMul, Int.reduceLE, Int.reduceLT, Int.reduceEq, Int.reduceNe, Int.reduceNeg, Int.reduceDiv, Int.reduceMod, Bool.false_eq_true, Int.le_refl, and_self, true_or, or_true, inR_l, fv0, fv1, fv2, fv3, nc2, nc4, nc6, nc16, nc25, nc60, nc65, nc80, nc130, nc384, nc390, fp_0_0, fp_0_1, fp_0_2, fp_1_0, fp_1_1, fp_1_2, fp_1_3, fp_1_4, fp_1_5, fp_1_6, fp_1_7, fp_1_8, fp_1_9, fp_1_10, fp_1_11, fp_1_12, fp_1_13, fp_1_14, fp_2_0, fp_2_1, fp_2_2, fp_2_3, fp_3_0, fp_3_1, fp_4_0, fp_4_1, fp_4_2, fp_4_3, fp_4_4, fp_4_5, fp_4_6, fp_4_7, fp_5_0, fp_5_1, fp_5_2, fp_5_3, fp_5_4, fp_5_5, fp_5_6, fp_5_7, fp_6_0, fp_6_1, fp_6_2, fp_6_3, fp_6_4, fp_6_5, fp_6_6, fp_6_7, fp_6_8, fp_6_9, fp_6_10, fp_6_11, fp_6_12, fp_6_13, fp_6_14, fp_6_15, fp_7_0, fp_7_1, fp_7_2, fp_7_3, fp_7_4, fp_7_5, fp_7_6, fp_7_7, fp_7_8, fp_7_9, fp_7_10, fp_7_11, fp_7_12, fp_7_13, fp_7_14, fp_7_15, fp_7_16, fp_7_17, fp_7_18, fp_7_19, fp_7_20, fp_7_21, fp_7_22, fp_7_23, fp_7_24, iz_0_1, iz_0_2, iz_1_8, iz_1_9, iz_1_11, iz_2_1, iz_2_2, iz_2_3, iz_3_1, iz_4_1, iz_4_2, iz_5_0, iz_6_8, iz_6_9, iz_6_13, iz_6_14, iz_6_15, iz_7_2, iz_7_6, iz_7_12, iz_7_20, iz_7_21, iz_7_23, iz_7_24, ak_8, ak_9, ak_10, ak_11, ak_12, ak_13, ak_14, ak_15, ak_16, ak_17, ak_18, ak_19, ak_20, ak_21, ak_22, ak_23, ak_24, ak_25, ak_26, ak_27, ak_28, ak_29, ak_30, ak_31, ak_32, ak_33, ak_34, ak_35, ak_36, ak_37, ak_38, ak_39, ak_40, ak_41, ak_42, ak_43, ak_44, ak_45, ak_46, ak_47, ak_48, ak_49, ak_50, ak_51, ak_52, ak_53, ak_54, ak_55, ak_56, el31, el33, el34, CL_critical, ca_L_critical, frL, kcL, klL, T_X6_countG, T_X6_pathG, T_X6_aboutG, T_X6_ofJobG, exists_eq_right_right, exists_eq_right, exists_eq_left, Nat.lt_irrefl, and_self, implies_true, forall_const]
        refine ⟨g, hg, fun σ1 h1 => ?_⟩
        rw [ct3 hp]
        exact ⟨rfl, rfl, hnb.1, h1⟩
    · exact h.elim
