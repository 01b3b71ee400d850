/-! breakdowns, in the law -/
theorem kA_n {v : Vw} {b t u : Int} (ok : okB b t u (-1)) (hp : pos v) : kA v b t u (-1) = klA v b t u := (cif_0 (fun q => q ok)).trans ((cif_0 (fun q => q hp)).trans ((if_neg (by omega)).trans (if_pos (by omega))))
theorem kA_np {v : Vw} {b t u w : Int} (ok : okB b t u w) (np : ¬ pos v) : kA v b t u w = -5 := (cif_0 (fun q => q ok)).trans (cif_1 np)
theorem kA_p {v : Vw} {b t u m k : Int} (ok : okB b t u (4 * m + k)) (hp : pos v) (m0 : 0 ≤ m) (k0 : 0 ≤ k) (k1 : k < 4) : kA v b t u (4 * m + k) = if k < v 13 m then kfA v b t u (4 * m + k) else -6 := by
  unfold kA
  rw [cif_0 (fun q => q ok), cif_0 (fun q => q hp), show (4 * m + k) % 4 = k by omega, show (4 * m + k) / 4 = m by omega]
  by_cases z : k < v 13 m
  · rw [if_pos z, if_neg (fun q => q.2 z), if_neg (by omega)]
  · rw [if_neg z, if_pos ⟨by omega, z⟩]
theorem bA_p {v : Vw} {m k : Int} (m0 : 0 ≤ m) (m1 : m ≤ 3) (k0 : 0 ≤ k) : bA v m k = if k < v 13 m then bfA v (4 * m + k) else -6 := by
  unfold bA
  rw [if_neg (fun q => q ⟨by omega, m1⟩), if_neg (show ¬ m < 0 by omega)]
  by_cases z : k < v 13 m
  · rw [if_pos z, if_neg (fun q => q ⟨k0, z⟩)]
  · rw [if_neg z, if_pos (fun q => z q.2)]
theorem ord_p {v : Vw} {m k : Int} (m0 : 0 ≤ m) (m1 : m ≤ 3) (k0 : 0 ≤ k) : ordA v m k = if k < v 13 m then v 14 (4 * m + k) else -6 := by
  by_cases z : k < v 13 m
  · rw [if_pos z, ord_i m0 m1 k0 z]
  · rw [if_neg z, ord_o m0 m1 (fun q => z q.2)]
def T_X6_breakdownW : Tr := fun a σ K => match a with
  | [.inr (.inl (6, 0)), .inl b, .inl t, .inl u, .inl w] => ∃ g, GS g σ ∧ ∀ σ', GS g σ' → (okB b t u w → pos g.1 → (w < 0 ∨ w % 4 < g.1 13 (w / 4)) → BrkF g.1 b t u) → K (some (kA g.1 b t u w)) σ'
  | _ => False
theorem m_X6_breakdownW : ∀ a σ K, T_X6_breakdownW a σ K → T_X6_breakdown a σ K := by
  intro a σ K h
  unfold T_X6_breakdownW at h
  split at h
  · rename_i b t u w
    obtain ⟨g, hg, hk⟩ := h
    have ag := cv_ag hg.1.1
    rw [hg.1.2] at ag
    have wg : wWF g.1 := by rw [← hg.1.2]; exact cv_wf hg.1.1
    have P : (∃ h, sH σ 0 h) ↔ pos g.1 := ⟨fun ⟨h, H⟩ => ⟨h, (ag.H hg.1.1.1).mp H⟩, fun ⟨h, H⟩ => ⟨h, (ag.H hg.1.1.1).mpr H⟩⟩
    unfold T_X6_breakdown
    refine ⟨⟨hg.1.1, hg.2.2.2.2.1, hg.2.2.2.2.2.2⟩, fun a => ?_, fun a => ?_⟩
    · have := hk _ hg (fun q => absurd q a)
      rw [show kA g.1 b t u w = -2 from cif_1 a] at this
      exact this
    · have a' : okB b t u w := a
      unfold kA at hk
      rw [cif_0 (fun q => q a')] at hk
      refine ⟨fun σ1 hF k1 k2 hn => ?_, fun σ1 hF k1 k2 hp c d => ?_, fun σ1 le f hF k1 k2 hB hn c => ?_⟩
      · have np : ¬ pos g.1 := fun q => by
          obtain ⟨h, H⟩ := P.mpr q
          exact hn h H
        have := hk _ (GS_KB hg hF k1 k2) (fun _ q => absurd q np)
        rw [cif_1 np] at this
        exact this
      · have e := ag.2.2.2.1 (w / 4) (by omega) (by omega)
        rw [e] at d
        have := hk _ (GS_KB hg hF k1 k2) (fun _ _ q => by omega)
        rw [cif_0 (fun q => q (P.mp hp)), if_pos ⟨c, d⟩] at this
        exact this
      · have hB' : brkS (g.1 10) (g.1 11) (g.1 12) (g.1 8) (g.1 13) (g.1 14) b t u le f := ag.brkS hg.1.1.1 hB
        have q := brk_v wg hB' hn
        have hp : pos g.1 := by
          obtain ⟨h0, H, -⟩ := hB'
          exact ⟨h0, H⟩
        have := hk _ (GS_KB hg hF k1 k2) (fun _ _ _ => q.1)
        rw [cif_0 (fun q => q hp)] at this
        refine ⟨fun d => ?_, fun d => ?_⟩
        · rw [if_neg (by omega), if_pos d, q.2.1] at this
          exact this
        · have c' := c.resolve_left (by omega)
          have e := ag.2.2.2.1 (w / 4) (by omega) (by omega)
          rw [e] at c'
          have ek := q.2.2 (w / 4) (w % 4) (by omega) (by omega) (by omega) c'
          rw [show 4 * (w / 4) + w % 4 = w by omega] at ek
          rw [if_neg (by omega), if_neg (by omega), ek] at this
          exact this
  · exact h.elim
theorem k_X6_breakdownW (l : Launch) : Ct l yX6_breakdown cX6_breakdown 5 (some .int) 37 T_X6_breakdownW := Ct_mono (k_X6_breakdown l) m_X6_breakdownW
def ca_L_breaks : Nat → Option (Nat × Nat × Tr)
  | 82 => some (3, 6, T_X6_bestG)
  | 22 => some (2, 99, T_L_up)
  | 113 => some (5, 6, T_X6_breakdownW)
  | 59 => some (3, 6, T_X6_orderG)
  | 66 => some (3, 6, T_X6_swapS)
  | 62 => some (1, 6, T_X6_lengthG)
  | 117 => some (1, 6, T_X6_undoG)
  | 87 => some (3, 99, T_L_on)
  | 76 => some (3, 6, T_X6_aboutG)
  | _ => none
theorem cao_L_breaks (l : Launch) : ∀ k n' ci T', ca_L_breaks k = some (n', ci, T') → ∃ nn, nn + 1 ≤ 38 ∧ Site l yL_breaks.cls k n' ci nn T' := by
  intro k n' ci T' h
  unfold ca_L_breaks at h
  split at h
  · cases h; exact ⟨37, by decide, _, _, _, _, k_X6_bestG l, Or.inl ⟨_, rfl, FX6_best, KRL_82⟩⟩
  · cases h; exact ⟨0, by decide, _, _, _, _, k_L_up l, Or.inr ⟨rfl, FL_up, Or.inl ⟨rfl, KRL_22⟩⟩⟩
  · cases h; exact ⟨37, by decide, _, _, _, _, k_X6_breakdownW l, Or.inl ⟨_, rfl, FX6_breakdown, KRL_113⟩⟩
  · cases h; exact ⟨2, by decide, _, _, _, _, k_X6_orderG l, Or.inl ⟨_, rfl, FX6_order, KRL_59⟩⟩
  · cases h; exact ⟨6, by decide, _, _, _, _, k_X6_swapS l, Or.inl ⟨_, rfl, FX6_swap, KRL_66⟩⟩
  · cases h; exact ⟨6, by decide, _, _, _, _, k_X6_lengthG l, Or.inl ⟨_, rfl, FX6_length, KRL_62⟩⟩
  · cases h; exact ⟨3, by decide, _, _, _, _, k_X6_undoG l, Or.inl ⟨_, rfl, FX6_undo, KRL_117⟩⟩
  · cases h; exact ⟨7, by decide, _, _, _, _, k_L_on l, Or.inr ⟨rfl, FL_on, Or.inl ⟨rfl, KRL_87⟩⟩⟩
  · cases h; exact ⟨6, by decide, _, _, _, _, k_X6_aboutG l, Or.inl ⟨_, rfl, FX6_about, KRL_76⟩⟩
  · cases h
def T_L_breaks : Tr := fun a σ K => match a with
  | [.inr (.inl (6, 0)), .inl v] => ∃ g, GS g σ ∧ pos g.1 ∧ ∀ g' σ', GS g' σ' → (g'.1 5 0 = g.1 5 0 ∧ ∀ m, 0 ≤ m → m < 4 → g'.1 13 m = g.1 13 m) → K (some 1) σ'
  | _ => False
set_option maxHeartbeats 8000000 in
set_option maxRecDepth 20000 in
theorem k_L_breaks (l : Launch) : Ct l yL_breaks cL_breaks 11 (some .boolean) 38 T_L_breaks := by
  refine mk_met (by decide +kernel) hCL_breaks lCL_breaks frL_ok cstL_ok (cao_L_breaks l) ?_ ?_
  · intro a σ K h
    unfold T_L_breaks at h
    split at h
    · simp [eL]
    · exact h.elim
  · intro a σ K ha hR h
    unfold T_L_breaks at h
    split at h
    · rename_i v
      obtain ⟨g, hg, hp, hk⟩ := h
      have hw := GS_w hg
      have J4 := hw.1.1
      refine ⟨fun pc => if pc = 30 then some (fun L S σ' kz => match L, S with | [some (.inr (.inl c1)), some (.inl v'), some (.inl a), some (.inl m), some (.inl i), _, _, _, _, _, _], [] => (c1 = (6, 0) ∧ v' = v ∧ a = leA g.1 ∧ (0 ≤ m ∧ m ≤ 3) ∧ GS g σ' ∧ (leA g.1 = klA g.1 m 0 0 ∧ (0 ≤ leA g.1 ∧ leA g.1 ≤ 400) ∧ ∀ m' k, 0 ≤ m' → m' < 4 → 0 ≤ k → k < g.1 13 m' → bfA g.1 (4 * m' + k) = kfA g.1 m 0 0 (4 * m' + k)) ∧ (0 ≤ i ∧ i ≤ 16)) ∧ kz = 9000 + (20 - i).toNat | _, _ => False) else if pc = 85 then some (fun L S σ' kz => match L, S with | [some (.inr (.inl c1)), some (.inl v'), some (.inl a), some (.inl m), some (.inl i), _, _, _, _, _, _], [] => (c1 = (6, 0) ∧ v' = v ∧ (0 ≤ a ∧ a ≤ 400) ∧ (0 ≤ m ∧ m ≤ 3) ∧ ((g.1 13 m ≤ 1 ∧ GS g σ') ∨ (1 < g.1 13 m ∧ GS (bumpG g (cnV (swV g.1 m 0))) σ'))) ∧ kz = 8000 | _, _ => False) else if pc = 177 then some (fun L S σ' kz => match L, S with | [some (.inr (.inl c1)), some (.inl v'), some (.inl a), some (.inl m), some (.inl L), some (.inl t), some (.inl i), _, _, _, _], [] => (c1 = (6, 0) ∧ v' = v ∧ (0 ≤ a ∧ a ≤ 400) ∧ (0 ≤ m ∧ m ≤ 3) ∧ ∃ g' : Gh, GS g' σ' ∧ pos g'.1 ∧ L = LV g'.1 ∧ (g'.1 5 0 = g.1 5 0 ∧ ∀ m, 0 ≤ m → m < 4 → g'.1 13 m = g.1 13 m) ∧ t = L ∧ t ≤ 200 ∧ (0 ≤ i ∧ i ≤ 16)) ∧ kz = 7000 + (20 - i).toNat | _, _ => False) else if pc = 218 then some (fun L S σ' kz => match L, S with | [some (.inr (.inl c1)), some (.inl v'), some (.inl a), some (.inl m), some (.inl L), some (.inl t), _, _, _, _, _], [] => (c1 = (6, 0) ∧ v' = v ∧ (0 ≤ a ∧ a ≤ 400) ∧ (0 ≤ m ∧ m ≤ 3) ∧ ∃ g' : Gh, GS g' σ' ∧ pos g'.1 ∧ L = LV g'.1 ∧ (g'.1 5 0 = g.1 5 0 ∧ ∀ m, 0 ≤ m → m < 4 → g'.1 13 m = g.1 13 m) ∧ (0 ≤ t ∧ t ≤ 200)) ∧ kz = 6000 | _, _ => False) else if pc = 236 then some (fun L S σ' kz => match L, S with | [some (.inr (.inl c1)), some (.inl v'), some (.inl a), some (.inl m), some (.inl L), some (.inl t), some (.inl fr), some (.inl la), some (.inl i), _, _], [] => (c1 = (6, 0) ∧ v' = v ∧ (0 ≤ a ∧ a ≤ 400) ∧ (0 ≤ m ∧ m ≤ 3) ∧ ∃ g' : Gh, GS g' σ' ∧ pos g'.1 ∧ L = LV g'.1 ∧ (g'.1 5 0 = g.1 5 0 ∧ ∀ m, 0 ≤ m → m < 4 → g'.1 13 m = g.1 13 m) ∧ (0 ≤ fr ∧ fr ≤ 200) ∧ (0 ≤ i ∧ i ≤ 4) ∧ ((i = 0 ∧ la = 0) ∨ (1 ≤ i ∧ la = klA g'.1 m fr (fr + 7 * (i - 1)) ∧ BrkF g'.1 m fr (fr + 7 * (i - 1))))) ∧ kz = 5000 + (20 - i).toNat | _, _ => False) else if pc = 297 then some (fun L S σ' kz => match L, S with | [some (.inr (.inl c1)), some (.inl v'), some (.inl a), some (.inl m), some (.inl L), some (.inl t), some (.inl fr), some (.inl la), some (.inl i), _, _], [] => (c1 = (6, 0) ∧ v' = v ∧ (0 ≤ a ∧ a ≤ 400) ∧ (0 ≤ m ∧ m ≤ 3) ∧ ∃ g' : Gh, GS g' σ' ∧ pos g'.1 ∧ L = LV g'.1 ∧ (g'.1 5 0 = g.1 5 0 ∧ ∀ m, 0 ≤ m → m < 4 → g'.1 13 m = g.1 13 m) ∧ (0 ≤ fr ∧ fr ≤ 200) ∧ (0 ≤ i ∧ i ≤ 4)) ∧ kz = 100 + (20 - i).toNat | _, _ => False) else none, 300, ?_, ?_⟩
      · intro pc I L S σ' kz hcut hi
        dsimp only at hcut
        by_cases hpc0 : pc = 30
        · rw [if_pos hpc0] at hcut
          subst hpc0
          cases hcut
          try dsimp only at hi
          split at hi
          · rename_i c1 v' a m i y5 y6 y7 y8 y9 y10
            obtain ⟨hi, rfl⟩ := hi
            obtain ⟨rfl, rfl, ha, hm, hg', hk0, hi0⟩ := hi
            simp only [wp, stp, drp, entL, eL, lget, lset, okst, cnd, swt, rcv, Kr_int, Kr_bool, Kr_void, List.length_cons, List.length_nil, List.replicate, List.append_nil, List.cons_append, List.nil_append, List.take_succ_cons, List.take_zero, List.drop_succ_cons, List.drop_zero, List.reverse_cons, List.reverse_nil, Option.map_some, Option.map_none, Option.toList_some, Option.toList_none, Nat.reduceAdd, Nat.reduceSub, Nat.reduceLT, Nat.reduceLeDiff, Nat.reduceEqDiff, ↓reduceIte, Nat.add_zero, Nat.zero_add, true_and, and_true, Nat.le_refl, reduceCtorEq, false_implies, true_implies, not_true_eq_false, not_false_eq_true, Int.reduceAdd, Int.reduceSub, Int.reduceMul, Int.reduceLE, Int.reduceLT, Int.reduceEq, Int.reduceNe, Int.reduceNeg, Int.reduceDiv, Int.reduceMod, Bool.false_eq_true, Int.le_refl, and_self, true_or, or_true, inR_l, fv0, fv1, fv2, fv3, nc2, nc4, nc6, nc16, nc25, nc60, nc65, nc80, nc130, nc384, nc390, fp_0_0, fp_0_1, fp_0_2, fp_1_0, fp_1_1, fp_1_2, fp_1_3, fp_1_4, fp_1_5, fp_1_6, fp_1_7, fp_1_8, fp_1_9, fp_1_10, fp_1_11, fp_1_12, fp_1_13, fp_1_14, fp_2_0, fp_2_1, fp_2_2, fp_2_3, fp_3_0, fp_3_1, fp_4_0, fp_4_1, fp_4_2, fp_4_3, fp_4_4, fp_4_5, fp_4_6, fp_4_7, fp_5_0, fp_5_1, fp_5_2, fp_5_3, fp_5_4, fp_5_5, fp_5_6, fp_5_7, fp_6_0, fp_6_1, fp_6_2, fp_6_3, fp_6_4, fp_6_5, fp_6_6, fp_6_7, fp_6_8, fp_6_9, fp_6_10, fp_6_11, fp_6_12, fp_6_13, fp_6_14, fp_6_15, fp_7_0, fp_7_1, fp_7_2, fp_7_3, fp_7_4, fp_7_5, fp_7_6, fp_7_7, fp_7_8, fp_7_9, fp_7_10, fp_7_11, fp_7_12, fp_7_13, fp_7_14, fp_7_15, fp_7_16, fp_7_17, fp_7_18, fp_7_19, fp_7_20, fp_7_21, fp_7_22, fp_7_23, fp_7_24, iz_0_1, iz_0_2, iz_1_8, iz_1_9, iz_1_11, iz_2_1, iz_2_2, iz_2_3, iz_3_1, iz_4_1, iz_4_2, iz_5_0, iz_6_8, iz_6_9, iz_6_13, iz_6_14, iz_6_15, iz_7_2, iz_7_6, iz_7_12, iz_7_20, iz_7_21, iz_7_23, iz_7_24, ak_8, ak_9, ak_10, ak_11, ak_12, ak_13, ak_14, ak_15, ak_16, ak_17, ak_18, ak_19, ak_20, ak_21, ak_22, ak_23, ak_24, ak_25, ak_26, ak_27, ak_28, ak_29, ak_30, ak_31, ak_32, ak_33, ak_34, ak_35, ak_36, ak_37, ak_38, ak_39, ak_40, ak_41, ak_42, ak_43, ak_44, ak_45, ak_46, ak_47, ak_48, ak_49, ak_50, ak_51, ak_52, ak_53, ak_54, ak_55, ak_56, el31, el33, el34, CL_breaks, ca_L_breaks, frL, kcL, klL, T_X6_bestG, T_L_up, T_X6_breakdownW, T_X6_orderG, T_X6_swapS, T_X6_lengthG, T_X6_undoG, T_L_on, T_X6_aboutG, exists_eq_right_right, exists_eq_right, exists_eq_left, Nat.lt_irrefl, and_self, implies_true, forall_const]
            refine ⟨fun q => ⟨g, hg', fun σ1 h1 => ⟨fun z => ⟨by omega, by omega, hm, Or.inl ⟨?_, h1⟩⟩, fun z => ⟨g, h1, hm, fun r σ2 hr => ⟨by omega, by omega, hm, ?_⟩⟩⟩⟩, fun q => ⟨g, hg', fun σ1 h1 _ => ⟨hi0.1, hi0.1, g, h1, fun σ2 h2 _ => ⟨fun _ => ⟨by constructor <;> omega, by omega, ha, hm, h2, hk0, by omega⟩, fun z => absurd ?_ z⟩⟩⟩⟩
            · by_cases c : 0 < g.1 13 m
              · rw [ord_i hm.1 hm.2 (Int.le_refl 0) c] at z
                have := oq_j hw hm.1 (show m < 4 by omega) (Int.le_refl 0) c
                omega
              · omega
            · rcases hr with ⟨x, -, y⟩ | ⟨x, -, y⟩
              · exact Or.inr ⟨x, y⟩
              · exact Or.inl ⟨by omega, y⟩
            · have ok : okB m 0 0 i := ⟨hm, by omega, by omega, by omega⟩
              have e : 4 * (i / 4) + i % 4 = i := by omega
              have q1 := kA_p (v := g.1) (b := m) (t := 0) (u := 0) (m := i / 4) (k := i % 4) (by rw [e]; exact ok) hp (by omega) (by omega) (by omega)
              have q2 := bA_p (v := g.1) (m := i / 4) (k := i % 4) (by omega) (by omega) (by omega)
              rw [e] at q1 q2
              rw [q1, q2]
              by_cases c : i % 4 < g.1 13 (i / 4)
              · rw [if_pos c, if_pos c]
                have r := hk0.2.2 (i / 4) (i % 4) (by omega) (by omega) (by omega) c
                rw [e] at r
                exact r.symm
              · rw [if_neg c, if_neg c]
          · exact hi.elim
        rw [if_neg hpc0] at hcut
        by_cases hpc1 : pc = 85
        · rw [if_pos hpc1] at hcut
          subst hpc1
          cases hcut
          try dsimp only at hi
          split at hi
          · rename_i c1 v' a m i y5 y6 y7 y8 y9 y10
            obtain ⟨hi, rfl⟩ := hi
            obtain ⟨rfl, rfl, ha, hm, hs⟩ := hi
            simp only [wp, stp, drp, entL, eL, lget, lset, okst, cnd, swt, rcv, Kr_int, Kr_bool, Kr_void, List.length_cons, List.length_nil, List.replicate, List.append_nil, List.cons_append, List.nil_append, List.take_succ_cons, List.take_zero, List.drop_succ_cons, List.drop_zero, List.reverse_cons, List.reverse_nil, Option.map_some, Option.map_none, Option.toList_some, Option.toList_none, Nat.reduceAdd, Nat.reduceSub, Nat.reduceLT, Nat.reduceLeDiff, Nat.reduceEqDiff, ↓reduceIte, Nat.add_zero, Nat.zero_add, true_and, and_true, Nat.le_refl, reduceCtorEq, false_implies, true_implies, not_true_eq_false, not_false_eq_true, Int.reduceAdd, Int.reduceSub, Int.reduceMul, Int.reduceLE, Int.reduceLT, Int.reduceEq, Int.reduceNe, Int.reduceNeg, Int.reduceDiv, Int.reduceMod, Bool.false_eq_true, Int.le_refl, and_self, true_or, or_true, inR_l, fv0, fv1, fv2, fv3, nc2, nc4, nc6, nc16, nc25, nc60, nc65, nc80, nc130, nc384, nc390, fp_0_0, fp_0_1, fp_0_2, fp_1_0, fp_1_1, fp_1_2, fp_1_3, fp_1_4, fp_1_5, fp_1_6, fp_1_7, fp_1_8, fp_1_9, fp_1_10, fp_1_11, fp_1_12, fp_1_13, fp_1_14, fp_2_0, fp_2_1, fp_2_2, fp_2_3, fp_3_0, fp_3_1, fp_4_0, fp_4_1, fp_4_2, fp_4_3, fp_4_4, fp_4_5, fp_4_6, fp_4_7, fp_5_0, fp_5_1, fp_5_2, fp_5_3, fp_5_4, fp_5_5, fp_5_6, fp_5_7, fp_6_0, fp_6_1, fp_6_2, fp_6_3, fp_6_4, fp_6_5, fp_6_6, fp_6_7, fp_6_8, fp_6_9, fp_6_10, fp_6_11, fp_6_12, fp_6_13, fp_6_14, fp_6_15, fp_7_0, fp_7_1, fp_7_2, fp_7_3, fp_7_4, fp_7_5, fp_7_6, fp_7_7, fp_7_8, fp_7_9, fp_7_10, fp_7_11, fp_7_12, fp_7_13, fp_7_14, fp_7_15, fp_7_16, fp_7_17, fp_7_18, fp_7_19, fp_7_20, fp_7_21, fp_7_22, fp_7_23, fp_7_24, iz_0_1, iz_0_2, iz_1_8, iz_1_9, iz_1_11, iz_2_1, iz_2_2, iz_2_3, iz_3_1, iz_4_1, iz_4_2, iz_5_0, iz_6_8, iz_6_9, iz_6_13, iz_6_14, iz_6_15, iz_7_2, iz_7_6, iz_7_12, iz_7_20, iz_7_21, iz_7_23, iz_7_24, ak_8, ak_9, ak_10, ak_11, ak_12, ak_13, ak_14, ak_15, ak_16, ak_17, ak_18, ak_19, ak_20, ak_21, ak_22, ak_23, ak_24, ak_25, ak_26, ak_27, ak_28, ak_29, ak_30, ak_31, ak_32, ak_33, ak_34, ak_35, ak_36, ak_37, ak_38, ak_39, ak_40, ak_41, ak_42, ak_43, ak_44, ak_45, ak_46, ak_47, ak_48, ak_49, ak_50, ak_51, ak_52, ak_53, ak_54, ak_55, ak_56, el31, el33, el34, CL_breaks, ca_L_breaks, frL, kcL, klL, T_X6_bestG, T_L_up, T_X6_breakdownW, T_X6_orderG, T_X6_swapS, T_X6_lengthG, T_X6_undoG, T_L_on, T_X6_aboutG, exists_eq_right_right, exists_eq_right, exists_eq_left, Nat.lt_irrefl, and_self, implies_true, forall_const]
            obtain ⟨g2, hg2, hsm, hor⟩ : ∃ g2 : Gh, GS g2 σ' ∧ (g2.1 5 0 = g.1 5 0 ∧ ∀ m, 0 ≤ m → m < 4 → g2.1 13 m = g.1 13 m) ∧ (pos g2.1 ∨ ∃ hs, g2.2.1 = g.1 :: hs) := by
              rcases hs with ⟨-, h⟩ | ⟨-, h⟩
              · exact ⟨g, h, ⟨rfl, fun _ _ _ => rfl⟩, Or.inl hp⟩
              · exact ⟨_, h, ⟨sw_13.1, fun m' a b => sw_13.2 m' a b⟩, Or.inr ⟨_, rfl⟩⟩
            have hw2 := GS_w hg2
            have r100 := upA_r (v := bshr v' 2) (m := 100) (by omega)
            refine ⟨g2, hg2, fun σ1 h1 => ?_⟩
            rcases lenA_s hw2 with ⟨hp2, el, l0, l1⟩ | ⟨np, el⟩
            · rw [el]
              refine ⟨fun _ => ⟨fun q => ⟨fun z => by omega, fun _ => ⟨by constructor <;> omega, g2, h1, fun σ2 h2 hb => ?_⟩⟩, fun q => ⟨fun _ => ⟨ha, hm, g2, h1, hp2, rfl, hsm⟩, fun z => by omega⟩⟩, fun q => by omega⟩
              have ok : okB m (LV g2.1) (LV g2.1 + upA (bshr v' 2) 100) (-1) := ⟨hm, by omega, by omega, by omega⟩
              have B := hb ok hp2
              have e := (kf_end hw2 hp2 (Int.le_refl _) B).1
              exact ⟨fun _ => ⟨by omega, ha, hm, g2, h2, hp2, rfl, hsm, by omega⟩, fun z => absurd ((kA_n ok hp2).trans e) z⟩
            · rw [el]
              refine ⟨fun q => by omega, fun _ => ⟨g2, h1, fun σ2 h2 _ => ⟨fun z => absurd (kA_np ⟨hm, by omega, by omega, by omega⟩ np) z, fun _ => ⟨g2, h2, fun e => ?_, fun w hs e σ3 h3 => ⟨fun z => by omega, fun _ => hk _ _ h3 ?_⟩⟩⟩⟩⟩
              · rcases hor with z | ⟨hs, z⟩
                · exact absurd z np
                · rw [z] at e
                  cases e
              · rcases hor with z | ⟨hs', z⟩
                · exact absurd z np
                · rw [z] at e
                  cases e
                  exact ⟨rfl, fun _ _ _ => rfl⟩
          · exact hi.elim
        rw [if_neg hpc1] at hcut
        by_cases hpc2 : pc = 177
        · rw [if_pos hpc2] at hcut
          subst hpc2
          cases hcut
          try dsimp only at hi
          split at hi
          · rename_i c1 v' a m L t i y7 y8 y9 y10
            obtain ⟨hi, rfl⟩ := hi
            obtain ⟨rfl, rfl, ha, hm, g', hg', hp', hL, hsm, ht, ht2, hi0⟩ := hi
            simp only [wp, stp, drp, entL, eL, lget, lset, okst, cnd, swt, rcv, Kr_int, Kr_bool, Kr_void, List.length_cons, List.length_nil, List.replicate, List.append_nil, List.cons_append, List.nil_append, List.take_succ_cons, List.take_zero, List.drop_succ_cons, List.drop_zero, List.reverse_cons, List.reverse_nil, Option.map_some, Option.map_none, Option.toList_some, Option.toList_none, Nat.reduceAdd, Nat.reduceSub, Nat.reduceLT, Nat.reduceLeDiff, Nat.reduceEqDiff, ↓reduceIte, Nat.add_zero, Nat.zero_add, true_and, and_true, Nat.le_refl, reduceCtorEq, false_implies, true_implies, not_true_eq_false, not_false_eq_true, Int.reduceAdd, Int.reduceSub, Int.reduceMul, Int.reduceLE, Int.reduceLT, Int.reduceEq, Int.reduceNe, Int.reduceNeg, Int.reduceDiv, Int.reduceMod, Bool.false_eq_true, Int.le_refl, and_self, true_or, or_true, inR_l, fv0, fv1, fv2, fv3, nc2, nc4, nc6, nc16, nc25, nc60, nc65, nc80, nc130, nc384, nc390, fp_0_0, fp_0_1, fp_0_2, fp_1_0, fp_1_1, fp_1_2, fp_1_3, fp_1_4, fp_1_5, fp_1_6, fp_1_7, fp_1_8, fp_1_9, fp_1_10, fp_1_11, fp_1_12, fp_1_13, fp_1_14, fp_2_0, fp_2_1, fp_2_2, fp_2_3, fp_3_0, fp_3_1, fp_4_0, fp_4_1, fp_4_2, fp_4_3, fp_4_4, fp_4_5, fp_4_6, fp_4_7, fp_5_0, fp_5_1, fp_5_2, fp_5_3, fp_5_4, fp_5_5, fp_5_6, fp_5_7, fp_6_0, fp_6_1, fp_6_2, fp_6_3, fp_6_4, fp_6_5, fp_6_6, fp_6_7, fp_6_8, fp_6_9, fp_6_10, fp_6_11, fp_6_12, fp_6_13, fp_6_14, fp_6_15, fp_7_0, fp_7_1, fp_7_2, fp_7_3, fp_7_4, fp_7_5, fp_7_6, fp_7_7, fp_7_8, fp_7_9, fp_7_10, fp_7_11, fp_7_12, fp_7_13, fp_7_14, fp_7_15, fp_7_16, fp_7_17, fp_7_18, fp_7_19, fp_7_20, fp_7_21, fp_7_22, fp_7_23, fp_7_24, iz_0_1, iz_0_2, iz_1_8, iz_1_9, iz_1_11, iz_2_1, iz_2_2, iz_2_3, iz_3_1, iz_4_1, iz_4_2, iz_5_0, iz_6_8, iz_6_9, iz_6_13, iz_6_14, iz_6_15, iz_7_2, iz_7_6, iz_7_12, iz_7_20, iz_7_21, iz_7_23, iz_7_24, ak_8, ak_9, ak_10, ak_11, ak_12, ak_13, ak_14, ak_15, ak_16, ak_17, ak_18, ak_19, ak_20, ak_21, ak_22, ak_23, ak_24, ak_25, ak_26, ak_27, ak_28, ak_29, ak_30, ak_31, ak_32, ak_33, ak_34, ak_35, ak_36, ak_37, ak_38, ak_39, ak_40, ak_41, ak_42, ak_43, ak_44, ak_45, ak_46, ak_47, ak_48, ak_49, ak_50, ak_51, ak_52, ak_53, ak_54, ak_55, ak_56, el31, el33, el34, CL_breaks, ca_L_breaks, frL, kcL, klL, T_X6_bestG, T_L_up, T_X6_breakdownW, T_X6_orderG, T_X6_swapS, T_X6_lengthG, T_X6_undoG, T_L_on, T_X6_aboutG, exists_eq_right_right, exists_eq_right, exists_eq_left, Nat.lt_irrefl, and_self, implies_true, forall_const]
            have hw2 := GS_w hg'
            have l := (hV_b hw2 hp').2
            refine ⟨fun q => ⟨by omega, ha, hm, g', hg', hp', hL, hsm, by omega⟩, fun q => ⟨g', hg', fun σ1 h1 hb => ⟨hi0.1, hi0.1, g', h1, fun σ2 h2 => ⟨fun _ => ⟨by constructor <;> omega, by omega, ha, hm, g', h2, hp', hL, hsm, ht, ht2, by omega⟩, fun z => absurd ?_ z⟩⟩⟩⟩
            have ok : okB m t t i := ⟨hm, by omega, by omega, by omega⟩
            have e : 4 * (i / 4) + i % 4 = i := by omega
            have q1 := kA_p (v := g'.1) (b := m) (t := t) (u := t) (m := i / 4) (k := i % 4) (by rw [e]; exact ok) hp' (by omega) (by omega) (by omega)
            have q2 := ord_p (v := g'.1) (m := i / 4) (k := i % 4) (by omega) (by omega) (by omega)
            rw [e] at q1 q2
            rw [q1, q2]
            by_cases c : i % 4 < g'.1 13 (i / 4)
            · rw [if_pos c, if_pos c]
              have B := hb ok hp' (Or.inr c)
              have r := (kf_end hw2 hp' (by omega) B).2 (i / 4) (i % 4) (by omega) (by omega) (by omega) c
              rw [e] at r
              exact r
            · rw [if_neg c, if_neg c]
          · exact hi.elim
        rw [if_neg hpc2] at hcut
        by_cases hpc3 : pc = 218
        · rw [if_pos hpc3] at hcut
          subst hpc3
          cases hcut
          try dsimp only at hi
          split at hi
          · rename_i c1 v' a m L t y6 y7 y8 y9 y10
            obtain ⟨hi, rfl⟩ := hi
            obtain ⟨rfl, rfl, ha, hm, g', hg', hp', hL, hsm, ht⟩ := hi
            simp only [wp, stp, drp, entL, eL, lget, lset, okst, cnd, swt, rcv, Kr_int, Kr_bool, Kr_void, List.length_cons, List.length_nil, List.replicate, List.append_nil, List.cons_append, List.nil_append, List.take_succ_cons, List.take_zero, List.drop_succ_cons, List.drop_zero, List.reverse_cons, List.reverse_nil, Option.map_some, Option.map_none, Option.toList_some, Option.toList_none, Nat.reduceAdd, Nat.reduceSub, Nat.reduceLT, Nat.reduceLeDiff, Nat.reduceEqDiff, ↓reduceIte, Nat.add_zero, Nat.zero_add, true_and, and_true, Nat.le_refl, reduceCtorEq, false_implies, true_implies, not_true_eq_false, not_false_eq_true, Int.reduceAdd, Int.reduceSub, Int.reduceMul, Int.reduceLE, Int.reduceLT, Int.reduceEq, Int.reduceNe, Int.reduceNeg, Int.reduceDiv, Int.reduceMod, Bool.false_eq_true, Int.le_refl, and_self, true_or, or_true, inR_l, fv0, fv1, fv2, fv3, nc2, nc4, nc6, nc16, nc25, nc60, nc65, nc80, nc130, nc384, nc390, fp_0_0, fp_0_1, fp_0_2, fp_1_0, fp_1_1, fp_1_2, fp_1_3, fp_1_4, fp_1_5, fp_1_6, fp_1_7, fp_1_8, fp_1_9, fp_1_10, fp_1_11, fp_1_12, fp_1_13, fp_1_14, fp_2_0, fp_2_1, fp_2_2, fp_2_3, fp_3_0, fp_3_1, fp_4_0, fp_4_1, fp_4_2, fp_4_3, fp_4_4, fp_4_5, fp_4_6, fp_4_7, fp_5_0, fp_5_1, fp_5_2, fp_5_3, fp_5_4, fp_5_5, fp_5_6, fp_5_7, fp_6_0, fp_6_1, fp_6_2, fp_6_3, fp_6_4, fp_6_5, fp_6_6, fp_6_7, fp_6_8, fp_6_9, fp_6_10, fp_6_11, fp_6_12, fp_6_13, fp_6_14, fp_6_15, fp_7_0, fp_7_1, fp_7_2, fp_7_3, fp_7_4, fp_7_5, fp_7_6, fp_7_7, fp_7_8, fp_7_9, fp_7_10, fp_7_11, fp_7_12, fp_7_13, fp_7_14, fp_7_15, fp_7_16, fp_7_17, fp_7_18, fp_7_19, fp_7_20, fp_7_21, fp_7_22, fp_7_23, fp_7_24, iz_0_1, iz_0_2, iz_1_8, iz_1_9, iz_1_11, iz_2_1, iz_2_2, iz_2_3, iz_3_1, iz_4_1, iz_4_2, iz_5_0, iz_6_8, iz_6_9, iz_6_13, iz_6_14, iz_6_15, iz_7_2, iz_7_6, iz_7_12, iz_7_20, iz_7_21, iz_7_23, iz_7_24, ak_8, ak_9, ak_10, ak_11, ak_12, ak_13, ak_14, ak_15, ak_16, ak_17, ak_18, ak_19, ak_20, ak_21, ak_22, ak_23, ak_24, ak_25, ak_26, ak_27, ak_28, ak_29, ak_30, ak_31, ak_32, ak_33, ak_34, ak_35, ak_36, ak_37, ak_38, ak_39, ak_40, ak_41, ak_42, ak_43, ak_44, ak_45, ak_46, ak_47, ak_48, ak_49, ak_50, ak_51, ak_52, ak_53, ak_54, ak_55, ak_56, el31, el33, el34, CL_breaks, ca_L_breaks, frL, kcL, klL, T_X6_bestG, T_L_up, T_X6_breakdownW, T_X6_orderG, T_X6_swapS, T_X6_lengthG, T_X6_undoG, T_L_on, T_X6_aboutG, exists_eq_right_right, exists_eq_right, exists_eq_left, Nat.lt_irrefl, and_self, implies_true, forall_const]
            have r := upA_r (v := bshr v' 4) (m := t + 1) (by omega)
            exact ⟨by constructor <;> omega, by omega, by omega, ha, hm, g', hg', hp', hL, hsm, by omega⟩
          · exact hi.elim
        rw [if_neg hpc3] at hcut
        by_cases hpc4 : pc = 236
        · rw [if_pos hpc4] at hcut
          subst hpc4
          cases hcut
          try dsimp only at hi
          split at hi
          · rename_i c1 v' a m L t fr la i y9 y10
            obtain ⟨hi, rfl⟩ := hi
            obtain ⟨rfl, rfl, ha, hm, g', hg', hp', hL, hsm, hf, hi0, hla⟩ := hi
            simp only [wp, stp, drp, entL, eL, lget, lset, okst, cnd, swt, rcv, Kr_int, Kr_bool, Kr_void, List.length_cons, List.length_nil, List.replicate, List.append_nil, List.cons_append, List.nil_append, List.take_succ_cons, List.take_zero, List.drop_succ_cons, List.drop_zero, List.reverse_cons, List.reverse_nil, Option.map_some, Option.map_none, Option.toList_some, Option.toList_none, Nat.reduceAdd, Nat.reduceSub, Nat.reduceLT, Nat.reduceLeDiff, Nat.reduceEqDiff, ↓reduceIte, Nat.add_zero, Nat.zero_add, true_and, and_true, Nat.le_refl, reduceCtorEq, false_implies, true_implies, not_true_eq_false, not_false_eq_true, Int.reduceAdd, Int.reduceSub, Int.reduceMul, Int.reduceLE, Int.reduceLT, Int.reduceEq, Int.reduceNe, Int.reduceNeg, Int.reduceDiv, Int.reduceMod, Bool.false_eq_true, Int.le_refl, and_self, true_or, or_true, inR_l, fv0, fv1, fv2, fv3, nc2, nc4, nc6, nc16, nc25, nc60, nc65, nc80, nc130, nc384, nc390, fp_0_0, fp_0_1, fp_0_2, fp_1_0, fp_1_1, fp_1_2, fp_1_3, fp_1_4, fp_1_5, fp_1_6, fp_1_7, fp_1_8, fp_1_9, fp_1_10, fp_1_11, fp_1_12, fp_1_13, fp_1_14, fp_2_0, fp_2_1, fp_2_2, fp_2_3, fp_3_0, fp_3_1, fp_4_0, fp_4_1, fp_4_2, fp_4_3, fp_4_4, fp_4_5, fp_4_6, fp_4_7, fp_5_0, fp_5_1, fp_5_2, fp_5_3, fp_5_4, fp_5_5, fp_5_6, fp_5_7, fp_6_0, fp_6_1, fp_6_2, fp_6_3, fp_6_4, fp_6_5, fp_6_6, fp_6_7, fp_6_8, fp_6_9, fp_6_10, fp_6_11, fp_6_12, fp_6_13, fp_6_14, fp_6_15, fp_7_0, fp_7_1, fp_7_2, fp_7_3, fp_7_4, fp_7_5, fp_7_6, fp_7_7, fp_7_8, fp_7_9, fp_7_10, fp_7_11, fp_7_12, fp_7_13, fp_7_14, fp_7_15, fp_7_16, fp_7_17, fp_7_18, fp_7_19, fp_7_20, fp_7_21, fp_7_22, fp_7_23, fp_7_24, iz_0_1, iz_0_2, iz_1_8, iz_1_9, iz_1_11, iz_2_1, iz_2_2, iz_2_3, iz_3_1, iz_4_1, iz_4_2, iz_5_0, iz_6_8, iz_6_9, iz_6_13, iz_6_14, iz_6_15, iz_7_2, iz_7_6, iz_7_12, iz_7_20, iz_7_21, iz_7_23, iz_7_24, ak_8, ak_9, ak_10, ak_11, ak_12, ak_13, ak_14, ak_15, ak_16, ak_17, ak_18, ak_19, ak_20, ak_21, ak_22, ak_23, ak_24, ak_25, ak_26, ak_27, ak_28, ak_29, ak_30, ak_31, ak_32, ak_33, ak_34, ak_35, ak_36, ak_37, ak_38, ak_39, ak_40, ak_41, ak_42, ak_43, ak_44, ak_45, ak_46, ak_47, ak_48, ak_49, ak_50, ak_51, ak_52, ak_53, ak_54, ak_55, ak_56, el31, el33, el34, CL_breaks, ca_L_breaks, frL, kcL, klL, T_X6_bestG, T_L_up, T_X6_breakdownW, T_X6_orderG, T_X6_swapS, T_X6_lengthG, T_X6_undoG, T_L_on, T_X6_aboutG, exists_eq_right_right, exists_eq_right, exists_eq_left, Nat.lt_irrefl, and_self, implies_true, forall_const]
            have hw2 := GS_w hg'
            have l := (hV_b hw2 hp').2
            refine ⟨fun q => ⟨by omega, ha, hm, g', hg', hp', hL, hsm, hf⟩, fun q => ⟨by constructor <;> omega, by constructor <;> omega, g', hg', fun σ1 h1 hb => ?_⟩⟩
            have ok : okB m fr (fr + 7 * i) (-1) := ⟨hm, hf, by omega, by omega⟩
            have B := hb ok hp'
            have e := kA_n ok hp'
            have u := kl_up hw2 hp' hf.1 (by omega) B
            rw [e]
            refine ⟨fun z => ?_, fun z => ⟨by constructor <;> omega, by constructor <;> omega, by constructor <;> omega, fun _ => ⟨by constructor <;> omega, by omega, ha, hm, g', h1, hp', hL, hsm, hf, by omega, Or.inr ⟨by omega, by rw [show i + 1 - 1 = i by omega], by rw [show i + 1 - 1 = i by omega]; exact B⟩⟩, fun z2 => by omega⟩⟩
            rcases hla with ⟨-, e0⟩ | ⟨i1, e1, B0⟩
            · omega
            · have := kl_mono hw2 hf.1 (by omega) (by omega) B0 B
              omega
          · exact hi.elim
        rw [if_neg hpc4] at hcut
        by_cases hpc5 : pc = 297
        · rw [if_pos hpc5] at hcut
          subst hpc5
          cases hcut
          try dsimp only at hi
          split at hi
          · rename_i c1 v' a m L t fr la i y9 y10
            obtain ⟨hi, rfl⟩ := hi
            obtain ⟨rfl, rfl, ha, hm, g', hg', hp', hL, hsm, hf, hi0⟩ := hi
            simp only [wp, stp, drp, entL, eL, lget, lset, okst, cnd, swt, rcv, Kr_int, Kr_bool, Kr_void, List.length_cons, List.length_nil, List.replicate, List.append_nil, List.cons_append, List.nil_append, List.take_succ_cons, List.take_zero, List.drop_succ_cons, List.drop_zero, List.reverse_cons, List.reverse_nil, Option.map_some, Option.map_none, Option.toList_some, Option.toList_none, Nat.reduceAdd, Nat.reduceSub, Nat.reduceLT, Nat.reduceLeDiff, Nat.reduceEqDiff, ↓reduceIte, Nat.add_zero, Nat.zero_add, true_and, and_true, Nat.le_refl, reduceCtorEq, false_implies, true_implies, not_true_eq_false, not_false_eq_true, Int.reduceAdd, Int.reduceSub, Int.reduceMul, Int.reduceLE, Int.reduceLT, Int.reduceEq, Int.reduceNe, Int.reduceNeg, Int.reduceDiv, Int.reduceMod, Bool.false_eq_true, Int.le_refl, and_self, true_or, or_true, inR_l, fv0, fv1, fv2, fv3, nc2, nc4, nc6, nc16, nc25, nc60, nc65, nc80, nc130, nc384, nc390, fp_0_0, fp_0_1, fp_0_2, fp_1_0, fp_1_1, fp_1_2, fp_1_3, fp_1_4, fp_1_5, fp_1_6, fp_1_7, fp_1_8, fp_1_9, fp_1_10, fp_1_11, fp_1_12, fp_1_13, fp_1_14, fp_2_0, fp_2_1, fp_2_2, fp_2_3, fp_3_0, fp_3_1, fp_4_0, fp_4_1, fp_4_2, fp_4_3, fp_4_4, fp_4_5, fp_4_6, fp_4_7, fp_5_0, fp_5_1, fp_5_2, fp_5_3, fp_5_4, fp_5_5, fp_5_6, fp_5_7, fp_6_0, fp_6_1, fp_6_2, fp_6_3, fp_6_4, fp_6_5, fp_6_6, fp_6_7, fp_6_8, fp_6_9, fp_6_10, fp_6_11, fp_6_12, fp_6_13, fp_6_14, fp_6_15, fp_7_0, fp_7_1, fp_7_2, fp_7_3, fp_7_4, fp_7_5, fp_7_6, fp_7_7, fp_7_8, fp_7_9, fp_7_10, fp_7_11, fp_7_12, fp_7_13, fp_7_14, fp_7_15, fp_7_16, fp_7_17, fp_7_18, fp_7_19, fp_7_20, fp_7_21, fp_7_22, fp_7_23, fp_7_24, iz_0_1, iz_0_2, iz_1_8, iz_1_9, iz_1_11, iz_2_1, iz_2_2, iz_2_3, iz_3_1, iz_4_1, iz_4_2, iz_5_0, iz_6_8, iz_6_9, iz_6_13, iz_6_14, iz_6_15, iz_7_2, iz_7_6, iz_7_12, iz_7_20, iz_7_21, iz_7_23, iz_7_24, ak_8, ak_9, ak_10, ak_11, ak_12, ak_13, ak_14, ak_15, ak_16, ak_17, ak_18, ak_19, ak_20, ak_21, ak_22, ak_23, ak_24, ak_25, ak_26, ak_27, ak_28, ak_29, ak_30, ak_31, ak_32, ak_33, ak_34, ak_35, ak_36, ak_37, ak_38, ak_39, ak_40, ak_41, ak_42, ak_43, ak_44, ak_45, ak_46, ak_47, ak_48, ak_49, ak_50, ak_51, ak_52, ak_53, ak_54, ak_55, ak_56, el31, el33, el34, CL_breaks, ca_L_breaks, frL, kcL, klL, T_X6_bestG, T_L_up, T_X6_breakdownW, T_X6_orderG, T_X6_swapS, T_X6_lengthG, T_X6_undoG, T_L_on, T_X6_aboutG, exists_eq_right_right, exists_eq_right, exists_eq_left, Nat.lt_irrefl, and_self, implies_true, forall_const]
            have hw2 := GS_w hg'
            have l := (hV_b hw2 hp').2
            have fin : ∀ σ1, GS g' σ1 → (∃ g_1 : Gh, GS g_1 σ1 ∧ ∀ σ', GS g_1 σ' → (lenA g_1.1 ≠ L → K (some 0) σ') ∧ (¬ lenA g_1.1 ≠ L → K (some 1) σ')) := fun σ1 h1 => ⟨g', h1, fun σ2 h2 => ⟨fun z => absurd ((cif_1 hp').trans hL.symm) z, fun _ => hk _ _ h2 hsm⟩⟩
            refine ⟨fun _ => fin _ hg', fun q => ⟨g', hg', fun σ1 h1 => ⟨fun z => ?_, fun _ => fin _ h1⟩⟩⟩
            have q0 := ord_p (v := g'.1) (m := m) (k := i) hm.1 hm.2 hi0.1
            have c : i < g'.1 13 m := Classical.byContradiction (fun c => by
              rw [if_neg c] at q0
              omega)
            rw [if_pos c] at q0
            have hm4 : m < 4 := by omega
            obtain ⟨x1, x2, x3⟩ := oq_v hw2.1 hm.1 hm4 hi0.1 c
            have J := wWF_j hw2 x1
            refine ⟨g', h1, by rw [q0]; omega, fun r σ2 h2 hr => ?_⟩
            rcases hr with ⟨r1, r2, r3⟩ | ⟨-, r2⟩
            rotate_left
            · exact absurd x2 (r2 _ x1 (by rw [x3, q0]))
            refine ⟨g', h2, fun σ3 h3 => ⟨g', h3, fun σ4 h4 => ?_⟩⟩
            rw [ab3 r1 hp', ab1 r1]
            have hb1 := (hV_b hw2 hp').1 r r1
            have d := wWF_op hw2 r1
            refine ⟨by constructor <;> omega, fun ze => ⟨by constructor <;> omega, by constructor <;> omega, by constructor <;> omega, g', h4, fun σ5 h5 hb => ?_⟩, fun _ => fin _ h4⟩
            have ok : okB m fr (fr + 9) (4 * m + i) := ⟨hm, hf, by omega, by omega⟩
            have c' : (4 * m + i) % 4 < g'.1 13 ((4 * m + i) / 4) := by
              rw [show (4 * m + i) % 4 = i by omega, show (4 * m + i) / 4 = m by omega]
              exact c
            have B := hb ok hp' (Or.inr c')
            have e := (kA_p ok hp' hm.1 hi0.1 (by omega)).trans (if_pos c)
            have s := kf_st hw2 hp' B hm.1 hm4 hi0.1 c r1 r3 (r2.trans q0) ze
            exact ⟨fun _ => ⟨by constructor <;> omega, by omega, ha, hm, g', h5, hp', hL, hsm, hf, by omega⟩, fun z => absurd (e.trans (s.trans q0.symm)) z⟩
          · exact hi.elim
        rw [if_neg hpc5] at hcut
        cases hcut
      · simp only [wp, stp, drp, entL, eL, lget, lset, okst, cnd, swt, rcv, Kr_int, Kr_bool, Kr_void, List.length_cons, List.length_nil, List.replicate, List.append_nil, List.cons_append, List.nil_append, List.take_succ_cons, List.take_zero, List.drop_succ_cons, List.drop_zero, List.reverse_cons, List.reverse_nil, Option.map_some, Option.map_none, Option.toList_some, Option.toList_none, Nat.reduceAdd, Nat.reduceSub, Nat.reduceLT, Nat.reduceLeDiff, Nat.reduceEqDiff, ↓reduceIte, Nat.add_zero, Nat.zero_add, true_and, and_true, Nat.le_refl, reduceCtorEq, false_implies, true_implies, not_true_eq_false, not_false_eq_true, Int.reduceAdd, Int.reduceSub, Int.reduceMul, Int.reduceLE, Int.reduceLT, Int.reduceEq, Int.reduceNe, Int.reduceNeg, Int.reduceDiv, Int.reduceMod, Bool.false_eq_true, Int.le_refl, and_self, true_or, or_true, inR_l, fv0, fv1, fv2, fv3, nc2, nc4, nc6, nc16, nc25, nc60, nc65, nc80, nc130, nc384, nc390, fp_0_0, fp_0_1, fp_0_2, fp_1_0, fp_1_1, fp_1_2, fp_1_3, fp_1_4, fp_1_5, fp_1_6, fp_1_7, fp_1_8, fp_1_9, fp_1_10, fp_1_11, fp_1_12, fp_1_13, fp_1_14, fp_2_0, fp_2_1, fp_2_2, fp_2_3, fp_3_0, fp_3_1, fp_4_0, fp_4_1, fp_4_2, fp_4_3, fp_4_4, fp_4_5, fp_4_6, fp_4_7, fp_5_0, fp_5_1, fp_5_2, fp_5_3, fp_5_4, fp_5_5, fp_5_6, fp_5_7, fp_6_0, fp_6_1, fp_6_2, fp_6_3, fp_6_4, fp_6_5, fp_6_6, fp_6_7, fp_6_8, fp_6_9, fp_6_10, fp_6_11, fp_6_12, fp_6_13, fp_6_14, fp_6_15, fp_7_0, fp_7_1, fp_7_2, fp_7_3, fp_7_4, fp_7_5, fp_7_6, fp_7_7, fp_7_8, fp_7_9, fp_7_10, fp_7_11, fp_7_12, fp_7_13, fp_7_14, fp_7_15, fp_7_16, fp_7_17, fp_7_18, fp_7_19, fp_7_20, fp_7_21, fp_7_22, fp_7_23, fp_7_24, iz_0_1, iz_0_2, iz_1_8, iz_1_9, iz_1_11, iz_2_1, iz_2_2, iz_2_3, iz_3_1, iz_4_1, iz_4_2, iz_5_0, iz_6_8, iz_6_9, iz_6_13, iz_6_14, iz_6_15, iz_7_2, iz_7_6, iz_7_12, iz_7_20, iz_7_21, iz_7_23, iz_7_24, ak_8, ak_9, ak_10, ak_11, ak_12, ak_13, ak_14, ak_15, ak_16, ak_17, ak_18, ak_19, ak_20, ak_21, ak_22, ak_23, ak_24, ak_25, ak_26, ak_27, ak_28, ak_29, ak_30, ak_31, ak_32, ak_33, ak_34, ak_35, ak_36, ak_37, ak_38, ak_39, ak_40, ak_41, ak_42, ak_43, ak_44, ak_45, ak_46, ak_47, ak_48, ak_49, ak_50, ak_51, ak_52, ak_53, ak_54, ak_55, ak_56, el31, el33, el34, CL_breaks, ca_L_breaks, frL, kcL, klL, T_X6_bestG, T_L_up, T_X6_breakdownW, T_X6_orderG, T_X6_swapS, T_X6_lengthG, T_X6_undoG, T_L_on, T_X6_aboutG, exists_eq_right_right, exists_eq_right, exists_eq_left, Nat.lt_irrefl, and_self, implies_true, forall_const]
        refine ⟨g, hg, fun σ1 h1 hB => ⟨g, h1, fun σ2 h2 hb => ?_⟩⟩
        have r4 := upA_r (v := v) (m := 4) (by omega)
        have ok : okB (upA v 4) 0 0 (-1) := ⟨by omega, by omega, by omega, by omega⟩
        have B := hb ok hp
        have k0 := kf_0 hw hp B
        have u := kl_up hw hp (Int.le_refl 0) (Int.le_refl 0) B
        have lb := (hV_b hw hp).2
        have eb : bA g.1 (-1) 0 = leA g.1 := (if_neg (by omega)).trans (if_pos (by omega))
        exact ⟨fun _ => ⟨eb, by omega, h2, k0.1, by omega, k0.2⟩, fun z => absurd ((kA_n ok hp).trans (k0.1.symm.trans eb.symm)) z⟩
    · exact h.elim
