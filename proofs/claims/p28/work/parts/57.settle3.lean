def ca_X4_settle : Nat → Option (Nat × Nat × Tr)
  | 71 => some (2, 4, T_X4_jobsLeft)
  | 43 => some (2, 99, T_X6_copyRow)
  | 77 => some (4, 1, T_X1_letFirst)
  | 59 => some (3, 99, T_X4_complete)
  | _ => none
theorem cao_X4_settle (l : Launch) : ∀ k n' ci T', ca_X4_settle k = some (n', ci, T') → ∃ nn, nn + 1 ≤ 35 ∧ Site l yX4_settle.cls k n' ci nn T' := by
  intro k n' ci T' h
  unfold ca_X4_settle at h
  split at h
  · cases h; exact ⟨1, by decide, _, _, _, _, k_X4_jobsLeft l, Or.inl ⟨_, rfl, FX4_jobsLeft, KRX4_71⟩⟩
  · cases h; exact ⟨0, by decide, _, _, _, _, k_X6_copyRow l, Or.inr ⟨rfl, FX6_copyRow, Or.inr ⟨_, KRX4_43⟩⟩⟩
  · cases h; exact ⟨0, by decide, _, _, _, _, k_X1_letFirst l, Or.inl ⟨_, rfl, FX1_letFirst, KRX4_77⟩⟩
  · cases h; exact ⟨34, by decide, _, _, _, _, k_X4_complete l, Or.inr ⟨rfl, FX4_complete, Or.inl ⟨rfl, KRX4_59⟩⟩⟩
  · cases h
def T_X4_settle : Tr := fun a σ K => match a with
  | [.inr (.inl (4, s)), .inl p] => ∃ a0, (s < 2 ∧ 0 ≤ p ∧ p < 16 ∧ nO σ (s + 2) ∧ 0 ≤ σ 4 s 2 ∧ sSQ σ s a0 (σ 28 s) (σ 30 s) (σ 27 s) (σ 4 s 2) p) ∧ ∀ r σ', FrG (pS s) σ σ' → nA σ' (s + 2) → (r = -6 ∨ (0 ≤ r ∧ r < 4)) → sSQ σ' s a0 (σ' 28 s) (σ' 30 s) (fun x => if x = p then r else σ' 27 s x) (σ' 4 s 2) (p + 1) → K (some r) σ'
  | _ => False
set_option maxHeartbeats 8000000 in
set_option maxRecDepth 20000 in
theorem k_X4_settle (l : Launch) : Ct l yX4_settle cX4_settle 6 (some .int) 35 T_X4_settle := by
  refine mk_met (by decide +kernel) hCX4_settle lCX4_settle frX4_ok cstX4_ok (cao_X4_settle l) ?_ ?_
  · intro a σ K h
    unfold T_X4_settle at h
    split at h
    · simp [eL]
    · exact h.elim
  · intro a σ K ha hR h
    unfold T_X4_settle at h
    split at h
    · rename_i s p
      refine ⟨fun pc => if pc = 27 then some (fun L S σ' k => match L, S with | [some (.inr (.inl c1)), some (.inl p'), some (.inl m), some (.inl r), some (.inl j), _], [] => (c1 = (4, s) ∧ p' = p ∧ m = p / 4 ∧ 0 ≤ j ∧ j ≤ 4 ∧ SLi σ σ' s p j r) ∧ k = (20 - j).toNat | _, _ => False) else none, 200, ?_, ?_⟩
      · intro pc I L S σ' k hcut hi
        dsimp only at hcut
        split at hcut
        · rename_i hpc
          subst hpc
          cases hcut
          try dsimp only at hi
          split at hi
          · rename_i c1 p' m r j x1
            obtain ⟨hi, rfl⟩ := hi
            obtain ⟨rfl, rfl, rfl, h0, h1, hI⟩ := hi
            obtain ⟨a0, ⟨p1, p2, p3, p4, p5, p6⟩, h⟩ := h
            simp only [wp, stp, drp, entL, eL, lget, lset, okst, cnd, swt, rcv, Kr_int, Kr_bool, Kr_void, List.length_cons, List.length_nil, List.replicate, List.append_nil, List.cons_append, List.nil_append, List.take_succ_cons, List.take_zero, List.drop_succ_cons, List.drop_zero, List.reverse_cons, List.reverse_nil, Option.map_some, Option.map_none, Option.toList_some, Option.toList_none, Nat.reduceAdd, Nat.reduceSub, Nat.reduceLT, Nat.reduceLeDiff, Nat.reduceEqDiff, ↓reduceIte, Nat.add_zero, Nat.zero_add, true_and, and_true, Nat.le_refl, reduceCtorEq, false_implies, true_implies, not_true_eq_false, not_false_eq_true, Int.reduceAdd, Int.reduceSub, Int.reduceMul, Int.reduceLE, Int.reduceLT, Int.reduceEq, Int.reduceNe, Int.reduceNeg, Int.reduceDiv, Int.reduceMod, Bool.false_eq_true, Int.le_refl, and_self, true_or, or_true, inR_l, fv0, fv1, fv2, fv3, nc2, nc4, nc6, nc16, nc25, nc60, nc65, nc80, nc130, nc384, nc390, fp_0_0, fp_0_1, fp_0_2, fp_1_0, fp_1_1, fp_1_2, fp_1_3, fp_1_4, fp_1_5, fp_1_6, fp_1_7, fp_1_8, fp_1_9, fp_1_10, fp_1_11, fp_1_12, fp_1_13, fp_1_14, fp_2_0, fp_2_1, fp_2_2, fp_2_3, fp_3_0, fp_3_1, fp_4_0, fp_4_1, fp_4_2, fp_4_3, fp_4_4, fp_4_5, fp_4_6, fp_4_7, fp_5_0, fp_5_1, fp_5_2, fp_5_3, fp_5_4, fp_5_5, fp_5_6, fp_5_7, fp_6_0, fp_6_1, fp_6_2, fp_6_3, fp_6_4, fp_6_5, fp_6_6, fp_6_7, fp_6_8, fp_6_9, fp_6_10, fp_6_11, fp_6_12, fp_6_13, fp_6_14, fp_6_15, fp_7_0, fp_7_1, fp_7_2, fp_7_3, fp_7_4, fp_7_5, fp_7_6, fp_7_7, fp_7_8, fp_7_9, fp_7_10, fp_7_11, fp_7_12, fp_7_13, fp_7_14, fp_7_15, fp_7_16, fp_7_17, fp_7_18, fp_7_19, fp_7_20, fp_7_21, fp_7_22, fp_7_23, fp_7_24, iz_0_1, iz_0_2, iz_1_8, iz_1_9, iz_1_11, iz_2_1, iz_2_2, iz_2_3, iz_3_1, iz_4_1, iz_4_2, iz_5_0, iz_6_8, iz_6_9, iz_6_13, iz_6_14, iz_6_15, iz_7_2, iz_7_6, iz_7_12, iz_7_20, iz_7_21, iz_7_23, iz_7_24, ak_8, ak_9, ak_10, ak_11, ak_12, ak_13, ak_14, ak_15, ak_16, ak_17, ak_18, ak_19, ak_20, ak_21, ak_22, ak_23, ak_24, ak_25, ak_26, ak_27, ak_28, ak_29, ak_30, ak_31, ak_32, ak_33, ak_34, ak_35, ak_36, ak_37, ak_38, ak_39, ak_40, ak_41, ak_42, ak_43, ak_44, ak_45, ak_46, ak_47, ak_48, ak_49, ak_50, ak_51, ak_52, ak_53, ak_54, ak_55, ak_56, el31, el33, el34, CX4_settle, ca_X4_settle, frX4, kcX4, klX4, T_X4_jobsLeft, T_X6_copyRow, T_X1_letFirst, T_X4_complete, up_ap, false_and, and_false, if_false, if_true, ite_true, ite_false, hasB_def, T_X4_completeD, exists_eq_right_right, exists_eq_right, exists_eq_left, Nat.lt_irrefl, and_self, implies_true, forall_const]
            have e19 : ∀ x, σ' 19 (s + 2) x = σ 19 (s + 2) x := fun x => by rw [pS.f hI.1 19 (by omega)]
            have e28 : ∀ x, σ' 28 s x = σ 28 s x := fun x => by rw [hI.2.2.2.1]
            simp only [e19, e28]
            refine ⟨fun a => ?_, fun a => ?_⟩
            · refine h (-6) σ' hI.1 hI.2.1 (Or.inl rfl) ?_
              rw [sSQ_cg hI.1, hI.2.2.2.1, hI.2.2.2.2.1, pS.f hI.1 27 (by omega), pS.f hI.1 4 (by omega)]
              exact SQ_none p6 p2 p3 (fun j' q0 q1 hl => hI.2.2.2.2.2.2 j' q0 (by omega) hl)
            · have hon2 := NB_16 p6.1 (m := p' / 4) (k := j) (by omega) (by omega) h0 (by omega)
              refine ⟨⟨by omega, by omega⟩, ⟨by omega, by omega⟩, ⟨by omega, by omega⟩, fun hn => ⟨⟨by omega, by omega⟩, by omega, by omega, by omega, SLi_out hI h0 (by omega) (Or.inr hn)⟩, fun hn => ⟨fun hb => ⟨⟨by omega, by omega⟩, by omega, by omega, by omega, SLi_out hI h0 (by omega) (Or.inl hb)⟩, fun hb => ⟨⟨by omega, hon2⟩, fun hz => ⟨⟨by omega, by omega, fun k a b => NB_16 p6.1 (by omega) (by omega) a b, NB_inj p6.1 (by omega) (by omega)⟩, fun σ1 hL => ?_⟩, fun hnz => ⟨⟨by omega, by omega⟩, by omega, by omega, by omega, SLi_behind p6 p2 p3 hI h0 (by omega) hnz⟩⟩⟩⟩
              have hbj := Classical.not_not.mp hb
              have hlf := (hI.2.2.2.2.2.1.2.2 j h0 (by omega)).mp hbj
              obtain ⟨r1, r2, r3, r4, r5, r6, r7⟩ := SLi_row p6 p2 p3 hI h0 (by omega) hbj hL
              intro σ2 c1 c2 _
              have hc : Cpy σ1 σ2 29 s 20 (s + 2) 16 := ⟨c1, c2⟩
              have hF2 : FrG (pS s) σ σ2 := r1.t (hc.Fr (fun x => Or.inr (Or.inr ⟨rfl, rfl⟩)))
              have g := fun t (ht : t ≠ 29) a => hc.row (t1 := t) (a1 := a) (Or.inl ht)
              have g1 : ∀ t a, t ≠ 20 → σ1 t a = σ' t a := fun t a ht => funext fun x => hL.1 t a x (Or.inl ht)
              have g30 : σ2 30 s = σ 30 s := by rw [g 30 (by omega), g1 30 s (by omega), hI.2.2.2.2.1]
              have g28 : σ2 28 s = σ 28 s := by rw [g 28 (by omega), g1 28 s (by omega), hI.2.2.2.1]
              have g4 : σ2 4 s = σ 4 s := pS.f hF2 4 (by omega) s
              have hA2 : nA σ2 (s + 2) := by
                unfold nA
                rw [g 15 (by omega), g 16 (by omega), g 19 (by omega), g 20 (by omega)]
                exact r3
              rw [g30]
              refine ⟨⟨by omega, hon2⟩, fun hw σ3 d1 d2 _ => ?_, fun hw => ⟨⟨p1, pS.B hF2 p6.1, hA2, pS.O hF2 p4, by rw [g4]; exact p5, (dc_r _ _).1⟩, fun σ3 hT σ4 d1 d2 _ => ?_, fun σ3 hFl σ4 d1 d2 _ => ?_⟩⟩
              · have f := fun t (ht : t ≠ 28) a => Cpy.row (t := 28) (a := s) (t' := 29) (a' := s) (n := 16) ⟨d1, d2⟩ (t1 := t) (a1 := a) (Or.inl ht)
                have hF3 : FrG (pS s) σ σ3 := hF2.t (Cpy.Fr (t := 28) (a := s) (t' := 29) (a' := s) (n := 16) ⟨d1, d2⟩ (fun x => Or.inr (Or.inl ⟨rfl, rfl⟩)))
                have f30 : σ3 30 s = σ 30 s := by rw [f 30 (by omega), g30]
                have hA3 : nA σ3 (s + 2) := by
                  unfold nA
                  rw [f 15 (by omega), f 16 (by omega), f 19 (by omega), f 20 (by omega)]
                  exact hA2
                refine h j σ3 hF3 hA3 (Or.inr ⟨h0, by omega⟩) (SLi_done p6 p2 p3 h0 (by omega) hlf r4 r5 r6 r7 hF3 (fun x a b => by rw [d2 x a b, c2 x a b]) ?_ ?_ ?_ hI.2.2.2.2.2.2)
                · rw [f30]
                  exact p6.2.2.2.1
                · rw [f30]
                  exact SLi_wit p6 p2 p3 hI.2.2.2.2.2.1 h0 (by omega) hbj r4 hw r7
                · rw [f30]
                  exact p6.2.2.2.2.2.1
              · have f := fun t (ht : t ≠ 28) a => Cpy.row (t := 28) (a := s) (t' := 29) (a' := s) (n := 16) ⟨d1, d2⟩ (t1 := t) (a1 := a) (Or.inl ht)
                have hF3 : FrG (pS s) σ σ3 := hF2.t (pC.S hT.1)
                have hF4 : FrG (pS s) σ σ4 := hF3.t (Cpy.Fr (t := 28) (a := s) (t' := 29) (a' := s) (n := 16) ⟨d1, d2⟩ (fun x => Or.inr (Or.inl ⟨rfl, rfl⟩)))
                have q29 : σ3 29 s = σ2 29 s := pC.f hT.1 29 (by omega) s
                have hw := hT.2.2
                unfold Wit at hw
                rw [pS.f hF3 15 (by omega), pS.f hF3 16 (by omega), pS.f hF3 17 (by omega), pS.f hF3 18 (by omega), pS.f hF3 19 (by omega), g 20 (by omega), g4] at hw
                have hA4 : nA σ4 (s + 2) := by
                  unfold nA
                  rw [f 15 (by omega), f 16 (by omega), f 19 (by omega), f 20 (by omega)]
                  exact hT.2.1
                refine h j σ4 hF4 hA4 (Or.inr ⟨h0, by omega⟩) (SLi_done p6 p2 p3 h0 (by omega) hlf r4 r5 r6 r7 hF4 (fun x a b => by rw [d2 x a b, q29, c2 x a b]) ?_ ?_ ?_ hI.2.2.2.2.2.2)
                · rw [f 30 (by omega)]
                  exact hw.1
                · rw [f 30 (by omega)]
                  exact hw.2.1
                · rw [f 30 (by omega)]
                  exact hw.2.2
              · have f := fun t (ht : t ≠ 20) a => Cpy.row (t := 20) (a := s + 2) (t' := 28) (a' := s) (n := 16) ⟨d1, d2⟩ (t1 := t) (a1 := a) (Or.inl ht)
                have hF3 : FrG (pS s) σ σ3 := hF2.t (pC.S hFl.1)
                have hF4 : FrG (pS s) σ σ4 := hF3.t (Cpy.Fr (t := 20) (a := s + 2) (t' := 28) (a' := s) (n := 16) ⟨d1, d2⟩ (fun x => Or.inl (Or.inl ⟨rfl, Or.inl rfl⟩)))
                have q28 : σ3 28 s = σ 28 s := by rw [pC.f hFl.1 28 (by omega) s, g28]
                have e20 : ∀ x, 0 ≤ x → x < 16 → σ4 20 (s + 2) x = σ 28 s x := fun x a b => by rw [d2 x a b, q28]
                have hns := noS_cgS hF2 hFl.2.2.2
                rw [g 20 (by omega), g4] at hns
                refine ⟨⟨by omega, by omega⟩, by omega, by omega, by omega, hF4, ?_, e20, by rw [f 28 (by omega), q28], by rw [f 30 (by omega), hFl.2.2.1, g30], hI.2.2.2.2.2.1, noF_s hI.2.2.2.2.2.2 (SLi_fail p6 p2 p3 h0 (by omega) r7 hns)⟩
                unfold nA
                rw [pS.f hF4 15 (by omega), pS.f hF4 16 (by omega), pS.f hF4 19 (by omega)]
                exact NA_cg e20 p6.2.1
          · exact hi.elim
        · cases hcut
      · simp only [wp, stp, drp, entL, eL, lget, lset, okst, cnd, swt, rcv, Kr_int, Kr_bool, Kr_void, List.length_cons, List.length_nil, List.replicate, List.append_nil, List.cons_append, List.nil_append, List.take_succ_cons, List.take_zero, List.drop_succ_cons, List.drop_zero, List.reverse_cons, List.reverse_nil, Option.map_some, Option.map_none, Option.toList_some, Option.toList_none, Nat.reduceAdd, Nat.reduceSub, Nat.reduceLT, Nat.reduceLeDiff, Nat.reduceEqDiff, ↓reduceIte, Nat.add_zero, Nat.zero_add, true_and, and_true, Nat.le_refl, reduceCtorEq, false_implies, true_implies, not_true_eq_false, not_false_eq_true, Int.reduceAdd, Int.reduceSub, Int.reduceMul, Int.reduceLE, Int.reduceLT, Int.reduceEq, Int.reduceNe, Int.reduceNeg, Int.reduceDiv, Int.reduceMod, Bool.false_eq_true, Int.le_refl, and_self, true_or, or_true, inR_l, fv0, fv1, fv2, fv3, nc2, nc4, nc6, nc16, nc25, nc60, nc65, nc80, nc130, nc384, nc390, fp_0_0, fp_0_1, fp_0_2, fp_1_0, fp_1_1, fp_1_2, fp_1_3, fp_1_4, fp_1_5, fp_1_6, fp_1_7, fp_1_8, fp_1_9, fp_1_10, fp_1_11, fp_1_12, fp_1_13, fp_1_14, fp_2_0, fp_2_1, fp_2_2, fp_2_3, fp_3_0, fp_3_1, fp_4_0, fp_4_1, fp_4_2, fp_4_3, fp_4_4, fp_4_5, fp_4_6, fp_4_7, fp_5_0, fp_5_1, fp_5_2, fp_5_3, fp_5_4, fp_5_5, fp_5_6, fp_5_7, fp_6_0, fp_6_1, fp_6_2, fp_6_3, fp_6_4, fp_6_5, fp_6_6, fp_6_7, fp_6_8, fp_6_9, fp_6_10, fp_6_11, fp_6_12, fp_6_13, fp_6_14, fp_6_15, fp_7_0, fp_7_1, fp_7_2, fp_7_3, fp_7_4, fp_7_5, fp_7_6, fp_7_7, fp_7_8, fp_7_9, fp_7_10, fp_7_11, fp_7_12, fp_7_13, fp_7_14, fp_7_15, fp_7_16, fp_7_17, fp_7_18, fp_7_19, fp_7_20, fp_7_21, fp_7_22, fp_7_23, fp_7_24, iz_0_1, iz_0_2, iz_1_8, iz_1_9, iz_1_11, iz_2_1, iz_2_2, iz_2_3, iz_3_1, iz_4_1, iz_4_2, iz_5_0, iz_6_8, iz_6_9, iz_6_13, iz_6_14, iz_6_15, iz_7_2, iz_7_6, iz_7_12, iz_7_20, iz_7_21, iz_7_23, iz_7_24, ak_8, ak_9, ak_10, ak_11, ak_12, ak_13, ak_14, ak_15, ak_16, ak_17, ak_18, ak_19, ak_20, ak_21, ak_22, ak_23, ak_24, ak_25, ak_26, ak_27, ak_28, ak_29, ak_30, ak_31, ak_32, ak_33, ak_34, ak_35, ak_36, ak_37, ak_38, ak_39, ak_40, ak_41, ak_42, ak_43, ak_44, ak_45, ak_46, ak_47, ak_48, ak_49, ak_50, ak_51, ak_52, ak_53, ak_54, ak_55, ak_56, el31, el33, el34, CX4_settle, ca_X4_settle, frX4, kcX4, klX4, T_X4_jobsLeft, T_X6_copyRow, T_X1_letFirst, T_X4_complete, up_ap, false_and, and_false, if_false, if_true, ite_true, ite_false, hasB_def, T_X4_completeD, exists_eq_right_right, exists_eq_right, exists_eq_left, Nat.lt_irrefl, and_self, implies_true, forall_const]
        obtain ⟨a0, ⟨p1, p2, p3, p4, p5, p6⟩, h⟩ := h
        refine ⟨p2, ⟨p1, p2, p3, fun e e0 e1 => ?_⟩, fun r hr σ2 c1 c2 _ => SLi_0 p6.2.1 hr ⟨c1, c2⟩⟩
        rcases p6.2.2.2.2.2.2.1 e (by omega) e1 with q | q <;> omega
    · exact h.elim
