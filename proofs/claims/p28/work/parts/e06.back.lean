/-! calls that change, the good road alone -/
def T_X6_jobQ : Tr := fun a σ K => match a with
  | [.inr (.inl (6, 0)), .inl r, .inl d] => ∃ g, GS g σ ∧ ((0 ≤ r ∧ r ≤ 50) ∧ (0 ≤ d ∧ d ≤ 200)) ∧ g.1 5 0 < 4 ∧ ∀ σ', GS (bumpG g (cnV (jobV g.1 r d))) σ' → K (some (g.1 5 0)) σ'
  | _ => False
theorem m_X6_jobQ : ∀ a σ K, T_X6_jobQ a σ K → T_X6_jobG a σ K := by
  intro a σ K h
  unfold T_X6_jobQ at h
  split at h
  · obtain ⟨g, hg, hc, h4, hk⟩ := h
    unfold T_X6_jobG
    exact ⟨g, hg, fun q => absurd hc q, fun _ => ⟨h4, hk⟩⟩
  · exact h.elim
theorem k_X6_jobQ (l : Launch) : Ct l yX6_job cX6_job 3 (some .int) 4 T_X6_jobQ := Ct_mono (k_X6_jobG l) m_X6_jobQ
def T_X6_operationQ : Tr := fun a σ K => match a with
  | [.inr (.inl (6, 0)), .inl j, .inl m, .inl d] => ∃ g, GS g σ ∧ fitV g.1 j m d ∧ ∀ σ', GS (bumpG g (cnV (opV g.1 j m d))) σ' → K (some (4 * j + g.1 10 j)) σ'
  | _ => False
theorem m_X6_operationQ : ∀ a σ K, T_X6_operationQ a σ K → T_X6_operationG a σ K := by
  intro a σ K h
  unfold T_X6_operationQ at h
  split at h
  · obtain ⟨g, hg, hf, hk⟩ := h
    unfold T_X6_operationG
    exact ⟨g, hg, fun q => absurd hf.1 q, fun _ => ⟨hf.2.1, fun ⟨s, s0, s1, s2⟩ => absurd s2 (hf.2.2 s s0 s1), fun _ => hk⟩⟩
  · exact h.elim
theorem k_X6_operationQ (l : Launch) : Ct l yX6_operation cX6_operation 4 (some .int) 4 T_X6_operationQ := Ct_mono (k_X6_operationG l) m_X6_operationQ
def T_X6_undoQ : Tr := fun a σ K => match a with
  | [.inr (.inl (6, 0))] => ∃ g, GS g σ ∧ ∃ w hs, g.2.1 = w :: hs ∧ ∀ σ', GS (w, hs, g.2.2.1, g.2.2.2) σ' → K (some hs.length) σ'
  | _ => False
theorem m_X6_undoQ : ∀ a σ K, T_X6_undoQ a σ K → T_X6_undoG a σ K := by
  intro a σ K h
  unfold T_X6_undoQ at h
  split at h
  · obtain ⟨g, hg, w, hs, e, hk⟩ := h
    unfold T_X6_undoG
    refine ⟨g, hg, fun q => ?_, fun w' hs' q => ?_⟩
    · rw [e] at q
      cases q
    · rw [e] at q
      cases q
      exact hk
  · exact h.elim
theorem k_X6_undoQ (l : Launch) : Ct l yX6_undo cX6_undo 1 (some .int) 3 T_X6_undoQ := Ct_mono (k_X6_undoG l) m_X6_undoQ
def T_X6_saveQ : Tr := fun a σ K => match a with
  | [.inr (.inl (6, 0)), .inl s] => ∃ g, GS g σ ∧ s = 0 ∧ ∀ σ', GS (g.1, g.2.1, some g.1, g.2.2.2) σ' → K (some (g.1 5 0)) σ'
  | _ => False
theorem m_X6_saveQ : ∀ a σ K, T_X6_saveQ a σ K → T_X6_saveG a σ K := by
  intro a σ K h
  unfold T_X6_saveQ at h
  split at h
  · obtain ⟨g, hg, e, hk⟩ := h
    unfold T_X6_saveG
    exact ⟨g, hg, fun q => absurd ⟨by omega, by omega⟩ q, fun _ => ⟨e, hk⟩⟩
  · exact h.elim
theorem k_X6_saveQ (l : Launch) : Ct l yX6_save cX6_save 2 (some .int) 2 T_X6_saveQ := Ct_mono (k_X6_saveG l) m_X6_saveQ
def T_X6_restoreQ : Tr := fun a σ K => match a with
  | [.inr (.inl (6, 0)), .inl s] => ∃ g, GS g σ ∧ s = 0 ∧ ∃ w, g.2.2.1 = some w ∧ ∀ σ', GS (bumpG g w) σ' → K (some (w 5 0)) σ'
  | _ => False
theorem m_X6_restoreQ : ∀ a σ K, T_X6_restoreQ a σ K → T_X6_restoreG a σ K := by
  intro a σ K h
  unfold T_X6_restoreQ at h
  split at h
  · obtain ⟨g, hg, e, w, ew, hk⟩ := h
    unfold T_X6_restoreG
    exact ⟨g, hg, fun q => absurd ⟨by omega, by omega⟩ q, fun _ => ⟨e, w, ew, hk⟩⟩
  · exact h.elim
theorem k_X6_restoreQ (l : Launch) : Ct l yX6_restore cX6_restore 2 (some .int) 4 T_X6_restoreQ := Ct_mono (k_X6_restoreG l) m_X6_restoreQ
theorem jobV_5 (w : Vw) (r d : Int) : jobV w r d 5 0 = w 5 0 + 1 := by
  unfold jobV
  rw [if_pos ⟨rfl, rfl⟩]
theorem jobV_10 (w : Vw) (r d : Int) : jobV w r d 10 (w 5 0) = 0 := by
  unfold jobV
  rw [if_neg (by omega), if_pos ⟨rfl, rfl⟩]
/-- the views of a history, down to the best plan and the one that it came from -/
def Chn (J : Int) (w1 v0 : Vw) : Nat → Vw → List Vw → Prop
  | 0, w, h => w = w1 ∧ ∃ t, h = v0 :: t
  | n + 1, w, h => (w = w1 ∧ ∃ t, h = v0 :: t) ∨ (w 5 0 = J + 1 ∧ ∃ a t, h = a :: t ∧ Chn J w1 v0 n a t)
theorem Chn_at {J : Int} {w1 v0 w : Vw} {h : List Vw} : ∀ {n : Nat}, Chn J w1 v0 n w h → w 5 0 ≤ J → w = w1 ∧ ∃ t, h = v0 :: t
  | 0, q, _ => q
  | n + 1, q, z => q.elim id (fun q => by omega)
theorem Chn_up {J : Int} {w1 v0 w : Vw} {h : List Vw} (e : w1 5 0 = J) : ∀ {n : Nat}, Chn J w1 v0 n w h → ¬ w 5 0 ≤ J → ∃ n' a t, n = n' + 1 ∧ h = a :: t ∧ Chn J w1 v0 n' a t
  | 0, q, z => absurd (show w 5 0 ≤ J by rw [q.1, e]; exact Int.le_refl _) z
  | n + 1, q, z => q.elim (fun q => absurd (show w 5 0 ≤ J by rw [q.1, e]; exact Int.le_refl _) z) (fun ⟨_, a, t, x, y⟩ => ⟨n, a, t, rfl, x, y⟩)
def ca_L_back : Nat → Option (Nat × Nat × Tr)
  | 62 => some (1, 6, T_X6_lengthG)
  | 69 => some (2, 6, T_X6_countG)
  | 59 => some (3, 6, T_X6_orderG)
  | 137 => some (2, 6, T_X6_saveQ)
  | 84 => some (1, 6, T_X6_takeBestG)
  | 22 => some (2, 99, T_L_up)
  | 26 => some (3, 6, T_X6_jobQ)
  | 29 => some (4, 6, T_X6_operationQ)
  | 66 => some (3, 6, T_X6_swapS)
  | 117 => some (1, 6, T_X6_undoQ)
  | 140 => some (2, 6, T_X6_restoreQ)
  | _ => none
theorem cao_L_back (l : Launch) : ∀ k n' ci T', ca_L_back k = some (n', ci, T') → ∃ nn, nn + 1 ≤ 38 ∧ Site l yL_back.cls k n' ci nn T' := by
  intro k n' ci T' h
  unfold ca_L_back at h
  split at h
  · cases h; exact ⟨6, by decide, _, _, _, _, k_X6_lengthG l, Or.inl ⟨_, rfl, FX6_length, KRL_62⟩⟩
  · cases h; exact ⟨6, by decide, _, _, _, _, k_X6_countG l, Or.inl ⟨_, rfl, FX6_count, KRL_69⟩⟩
  · cases h; exact ⟨2, by decide, _, _, _, _, k_X6_orderG l, Or.inl ⟨_, rfl, FX6_order, KRL_59⟩⟩
  · cases h; exact ⟨2, by decide, _, _, _, _, k_X6_saveQ l, Or.inl ⟨_, rfl, FX6_save, KRL_137⟩⟩
  · cases h; exact ⟨37, by decide, _, _, _, _, k_X6_takeBestG l, Or.inl ⟨_, rfl, FX6_takeBest, KRL_84⟩⟩
  · cases h; exact ⟨0, by decide, _, _, _, _, k_L_up l, Or.inr ⟨rfl, FL_up, Or.inl ⟨rfl, KRL_22⟩⟩⟩
  · cases h; exact ⟨4, by decide, _, _, _, _, k_X6_jobQ l, Or.inl ⟨_, rfl, FX6_job, KRL_26⟩⟩
  · cases h; exact ⟨4, by decide, _, _, _, _, k_X6_operationQ l, Or.inl ⟨_, rfl, FX6_operation, KRL_29⟩⟩
  · cases h; exact ⟨6, by decide, _, _, _, _, k_X6_swapS l, Or.inl ⟨_, rfl, FX6_swap, KRL_66⟩⟩
  · cases h; exact ⟨3, by decide, _, _, _, _, k_X6_undoQ l, Or.inl ⟨_, rfl, FX6_undo, KRL_117⟩⟩
  · cases h; exact ⟨4, by decide, _, _, _, _, k_X6_restoreQ l, Or.inl ⟨_, rfl, FX6_restore, KRL_140⟩⟩
  · cases h
def T_L_back : Tr := fun a σ K => match a with
  | [.inr (.inl (6, 0)), .inl v] => ∃ g, GS g σ ∧ g.1 5 0 < 4 ∧ ∀ g' σ', GS g' σ' → K (some 1) σ'
  | _ => False
set_option maxHeartbeats 8000000 in
set_option maxRecDepth 20000 in
theorem k_L_back (l : Launch) : Ct l yL_back cL_back 9 (some .boolean) 38 T_L_back := by
  refine mk_met (by decide +kernel) hCL_back lCL_back frL_ok cstL_ok (cao_L_back l) ?_ ?_
  · intro a σ K h
    unfold T_L_back at h
    split at h
    · simp [eL]
    · exact h.elim
  · intro a σ K ha hR h
    unfold T_L_back at h
    split at h
    · rename_i v
      obtain ⟨g, hg, hJ4, hk⟩ := h
      have hw := GS_w hg
      have J4 := hw.1.1
      refine ⟨fun pc => if pc = 103 then some (fun L S σ' kz => match L, S with | [some (.inr (.inl c1)), some (.inl v'), some (.inl L), some (.inl J), some (.inl p), some (.inl q), some (.inl o), some (.inl n), some (.inl u)], [] => (c1 = (6, 0) ∧ L = lenA g.1 ∧ J = g.1 5 0 ∧ p = cntA g 1 ∧ q = cntA g 2 ∧ o = ordA g.1 0 0 ∧ (0 ≤ u ∧ u ≤ 10 ∧ 0 ≤ n ∧ n ≤ 6) ∧ BstF g.1 ∧ ∃ d w h tx, GS (w, h, some g.1, tx) σ' ∧ (h.length : Int) = n - u ∧ Chn (g.1 5 0) (cnV (orV g.1 (bfA g.1))) g.1 d w h) ∧ kz = (20 - u).toNat | _, _ => False) else none, 300, ?_, ?_⟩
      · intro pc I L S σ' kz hcut hi
        dsimp only at hcut
        by_cases hpc0 : pc = 103
        · rw [if_pos hpc0] at hcut
          subst hpc0
          cases hcut
          try dsimp only at hi
          split at hi
          · rename_i c1 v' L J p q o n u
            obtain ⟨hi, rfl⟩ := hi
            obtain ⟨rfl, hL, hJ, hpp, hq, ho, hb, hB, d, w, h, tx, hg', hlen, hch⟩ := hi
            simp only [wp, stp, drp, entL, eL, lget, lset, okst, cnd, swt, rcv, Kr_int, Kr_bool, Kr_void, List.length_cons, List.length_nil, List.replicate, List.append_nil, List.cons_append, List.nil_append, List.take_succ_cons, List.take_zero, List.drop_succ_cons, List.drop_zero, List.reverse_cons, List.reverse_nil, Option.map_some, Option.map_none, Option.toList_some, Option.toList_none, Nat.reduceAdd, Nat.reduceSub, Nat.reduceLT, Nat.reduceLeDiff, Nat.reduceEqDiff, ↓reduceIte, Nat.add_zero, Nat.zero_add, true_and, and_true, Nat.le_refl, reduceCtorEq, false_implies, true_implies, not_true_eq_false, not_false_eq_true, Int.reduceAdd, Int.reduceSub, Int.reduceMul, Int.reduceLE, Int.reduceLT, Int.reduceEq, Int.reduceNe, Int.reduceNeg, Int.reduceDiv, Int.reduceMod, Bool.false_eq_true, Int.le_refl, and_self, true_or, or_true, inR_l, fv0, fv1, fv2, fv3, nc2, nc4, nc6, nc16, nc25, nc60, nc65, nc80, nc130, nc384, nc390, fp_0_0, fp_0_1, fp_0_2, fp_1_0, fp_1_1, fp_1_2, fp_1_3, fp_1_4, fp_1_5, fp_1_6, fp_1_7, fp_1_8, fp_1_9, fp_1_10, fp_1_11, fp_1_12, fp_1_13, fp_1_14, fp_2_0, fp_2_1, fp_2_2, fp_2_3, fp_3_0, fp_3_1, fp_4_0, fp_4_1, fp_4_2, fp_4_3, fp_4_4, fp_4_5, fp_4_6, fp_4_7, fp_5_0, fp_5_1, fp_5_2, fp_5_3, fp_5_4, fp_5_5, fp_5_6, fp_5_7, fp_6_0, fp_6_1, fp_6_2, fp_6_3, fp_6_4, fp_6_5, fp_6_6, fp_6_7, fp_6_8, fp_6_9, fp_6_10, fp_6_11, fp_6_12, fp_6_13, fp_6_14, fp_6_15, fp_7_0, fp_7_1, fp_7_2, fp_7_3, fp_7_4, fp_7_5, fp_7_6, fp_7_7, fp_7_8, fp_7_9, fp_7_10, fp_7_11, fp_7_12, fp_7_13, fp_7_14, fp_7_15, fp_7_16, fp_7_17, fp_7_18, fp_7_19, fp_7_20, fp_7_21, fp_7_22, fp_7_23, fp_7_24, iz_0_1, iz_0_2, iz_1_8, iz_1_9, iz_1_11, iz_2_1, iz_2_2, iz_2_3, iz_3_1, iz_4_1, iz_4_2, iz_5_0, iz_6_8, iz_6_9, iz_6_13, iz_6_14, iz_6_15, iz_7_2, iz_7_6, iz_7_12, iz_7_20, iz_7_21, iz_7_23, iz_7_24, ak_8, ak_9, ak_10, ak_11, ak_12, ak_13, ak_14, ak_15, ak_16, ak_17, ak_18, ak_19, ak_20, ak_21, ak_22, ak_23, ak_24, ak_25, ak_26, ak_27, ak_28, ak_29, ak_30, ak_31, ak_32, ak_33, ak_34, ak_35, ak_36, ak_37, ak_38, ak_39, ak_40, ak_41, ak_42, ak_43, ak_44, ak_45, ak_46, ak_47, ak_48, ak_49, ak_50, ak_51, ak_52, ak_53, ak_54, ak_55, ak_56, el31, el33, el34, CL_back, ca_L_back, frL, kcL, klL, T_X6_lengthG, T_X6_countG, T_X6_orderG, T_X6_saveQ, T_X6_takeBestG, T_L_up, T_X6_jobQ, T_X6_operationQ, T_X6_swapS, T_X6_undoQ, T_X6_restoreQ, exists_eq_right_right, exists_eq_right, exists_eq_left, Nat.lt_irrefl, and_self, implies_true, forall_const]
            refine ⟨(w, h, some g.1, tx), hg', fun σ1 h1 => ?_⟩
            have e0 : cntA (w, h, some g.1, tx) 0 = w 5 0 := ct0
            rw [e0]
            have e1 : (cnV (orV g.1 (bfA g.1))) 5 0 = g.1 5 0 := by rw [cn5, orV_o g.1 _ (by omega)]
            refine ⟨fun z => ?_, fun z => ?_⟩
            · obtain ⟨rfl, t, rfl⟩ := Chn_at hch (by omega)
              rw [List.length_cons] at hlen
              refine ⟨_, h1, g.1, t, rfl, fun σ2 h2 => ⟨by constructor <;> omega, by constructor <;> omega, fun _ => ?_, fun z => by omega⟩⟩
              refine ⟨(g.1, t, some g.1, tx), h2, fun σ3 h3 => ⟨fun z => absurd hL.symm z, fun _ => ⟨_, h3, fun σ4 h4 => ⟨fun z => absurd (ct0.trans hJ.symm) z, fun _ => ⟨_, h4, fun σ5 h5 => ⟨fun z => absurd (ct1.trans (ct1.symm.trans hpp.symm)) z, fun _ => ⟨_, h5, fun σ6 h6 => ⟨fun z => absurd (ct2.trans (ct2.symm.trans hq.symm)) z, fun _ => ⟨_, h6, fun σ7 h7 => ⟨fun _ => ?_, fun z => absurd ho.symm z⟩⟩⟩⟩⟩⟩⟩⟩⟩⟩
              exact ⟨_, h7, fun _ σ8 h8 => ⟨_, h8, g.1, rfl, fun σ9 h9 => ⟨fun z => absurd hJ.symm z, fun _ => ⟨_, h9, fun σ10 h10 => ⟨fun z => absurd hL.symm z, fun _ => ⟨_, h10, fun σ11 h11 => ⟨fun z => absurd ho.symm z, fun _ => ⟨_, h11, fun σ12 h12 => ⟨fun z => absurd (ct2.trans (ct2.symm.trans hq.symm)) z, fun _ => hk _ _ h12⟩⟩⟩⟩⟩⟩⟩⟩⟩
            · obtain ⟨d', a, t, rfl, rfl, hch'⟩ := Chn_up e1 hch (by omega)
              rw [List.length_cons] at hlen
              exact ⟨_, h1, a, t, rfl, fun σ2 h2 => ⟨by constructor <;> omega, by constructor <;> omega, fun _ => ⟨by omega, hL, hJ, hpp, hq, ho, by omega, hB, d', a, t, tx, h2, by omega, hch'⟩, fun z => by omega⟩⟩
          · exact hi.elim
        rw [if_neg hpc0] at hcut
        cases hcut
      · simp only [wp, stp, drp, entL, eL, lget, lset, okst, cnd, swt, rcv, Kr_int, Kr_bool, Kr_void, List.length_cons, List.length_nil, List.replicate, List.append_nil, List.cons_append, List.nil_append, List.take_succ_cons, List.take_zero, List.drop_succ_cons, List.drop_zero, List.reverse_cons, List.reverse_nil, Option.map_some, Option.map_none, Option.toList_some, Option.toList_none, Nat.reduceAdd, Nat.reduceSub, Nat.reduceLT, Nat.reduceLeDiff, Nat.reduceEqDiff, ↓reduceIte, Nat.add_zero, Nat.zero_add, true_and, and_true, Nat.le_refl, reduceCtorEq, false_implies, true_implies, not_true_eq_false, not_false_eq_true, Int.reduceAdd, Int.reduceSub, Int.reduceMul, Int.reduceLE, Int.reduceLT, Int.reduceEq, Int.reduceNe, Int.reduceNeg, Int.reduceDiv, Int.reduceMod, Bool.false_eq_true, Int.le_refl, and_self, true_or, or_true, inR_l, fv0, fv1, fv2, fv3, nc2, nc4, nc6, nc16, nc25, nc60, nc65, nc80, nc130, nc384, nc390, fp_0_0, fp_0_1, fp_0_2, fp_1_0, fp_1_1, fp_1_2, fp_1_3, fp_1_4, fp_1_5, fp_1_6, fp_1_7, fp_1_8, fp_1_9, fp_1_10, fp_1_11, fp_1_12, fp_1_13, fp_1_14, fp_2_0, fp_2_1, fp_2_2, fp_2_3, fp_3_0, fp_3_1, fp_4_0, fp_4_1, fp_4_2, fp_4_3, fp_4_4, fp_4_5, fp_4_6, fp_4_7, fp_5_0, fp_5_1, fp_5_2, fp_5_3, fp_5_4, fp_5_5, fp_5_6, fp_5_7, fp_6_0, fp_6_1, fp_6_2, fp_6_3, fp_6_4, fp_6_5, fp_6_6, fp_6_7, fp_6_8, fp_6_9, fp_6_10, fp_6_11, fp_6_12, fp_6_13, fp_6_14, fp_6_15, fp_7_0, fp_7_1, fp_7_2, fp_7_3, fp_7_4, fp_7_5, fp_7_6, fp_7_7, fp_7_8, fp_7_9, fp_7_10, fp_7_11, fp_7_12, fp_7_13, fp_7_14, fp_7_15, fp_7_16, fp_7_17, fp_7_18, fp_7_19, fp_7_20, fp_7_21, fp_7_22, fp_7_23, fp_7_24, iz_0_1, iz_0_2, iz_1_8, iz_1_9, iz_1_11, iz_2_1, iz_2_2, iz_2_3, iz_3_1, iz_4_1, iz_4_2, iz_5_0, iz_6_8, iz_6_9, iz_6_13, iz_6_14, iz_6_15, iz_7_2, iz_7_6, iz_7_12, iz_7_20, iz_7_21, iz_7_23, iz_7_24, ak_8, ak_9, ak_10, ak_11, ak_12, ak_13, ak_14, ak_15, ak_16, ak_17, ak_18, ak_19, ak_20, ak_21, ak_22, ak_23, ak_24, ak_25, ak_26, ak_27, ak_28, ak_29, ak_30, ak_31, ak_32, ak_33, ak_34, ak_35, ak_36, ak_37, ak_38, ak_39, ak_40, ak_41, ak_42, ak_43, ak_44, ak_45, ak_46, ak_47, ak_48, ak_49, ak_50, ak_51, ak_52, ak_53, ak_54, ak_55, ak_56, el31, el33, el34, CL_back, ca_L_back, frL, kcL, klL, T_X6_lengthG, T_X6_countG, T_X6_orderG, T_X6_saveQ, T_X6_takeBestG, T_L_up, T_X6_jobQ, T_X6_operationQ, T_X6_swapS, T_X6_undoQ, T_X6_restoreQ, exists_eq_right_right, exists_eq_right, exists_eq_left, Nat.lt_irrefl, and_self, implies_true, forall_const]
        have r51 := upA_r (v := v) (m := 51) (by omega)
        have r4 := upA_r (v := bshr v 3) (m := 4) (by omega)
        have r20 := upA_r (v := bshr v 5) (m := 20) (by omega)
        have e1 : (cnV (orV g.1 (bfA g.1))) 5 0 = g.1 5 0 := by rw [cn5, orV_o g.1 _ (by omega)]
        have a2 : (cnV (jobV (cnV (orV g.1 (bfA g.1))) (upA v 51) 5)) 5 0 = g.1 5 0 + 1 := (cn5 _).trans ((jobV_5 _ _ _).trans (by rw [e1]))
        have b2 : (cnV (jobV (cnV (orV g.1 (bfA g.1))) (upA v 51) 5)) 10 (g.1 5 0) = 0 := by
          rw [cn10 (by omega) hJ4, ← e1]
          exact jobV_10 _ _ _
        refine ⟨g, hg, fun σ1 h1 => ⟨g, h1, fun σ2 h2 => ⟨g, h2, fun σ3 h3 => ⟨g, h3, fun σ4 h4 => ⟨g, h4, fun σ5 h5 => ⟨g, h5, fun σ6 h6 => ⟨_, h6, fun hB σ7 h7 => ⟨_, h7, by omega, ?_, fun σ8 h8 => ⟨by constructor <;> omega, _, h8, ?_, fun σ9 h9 => ⟨_, h9, by omega, fun r σ10 hr => ?_⟩⟩⟩⟩⟩⟩⟩⟩⟩⟩
        · exact Int.lt_of_le_of_lt (Int.le_of_eq e1) hJ4
        · refine ⟨⟨by rw [ct0]; omega, ?_⟩, ⟨by omega, by omega⟩, fun s s0 s1 => ?_⟩
          · rw [ct0]
            exact Int.lt_of_lt_of_le (Int.lt_succ _) (Int.le_of_eq a2.symm)
          · rw [ct0] at s1
            have s1' : s < 0 := Int.lt_of_lt_of_le s1 (Int.le_of_eq b2)
            omega
        · have a3 : (cnV (opV (cnV (jobV (cnV (orV g.1 (bfA g.1))) (upA v 51) 5)) (cntA g 0) (upA (bshr v 3) 4) (1 + upA (bshr v 5) 20))) 5 0 = g.1 5 0 + 1 := (cn5 _).trans ((opV_9 _ _ _ _ (by omega) 0).trans a2)
          rcases hr with ⟨-, -, h⟩ | ⟨-, -, h⟩
          · refine ⟨_, h, fun σ11 h1 => ⟨rfl, ct0, rfl, rfl, rfl, ?_, hB, 3, _, _, _, h1, ?_, ?_⟩⟩
            · rw [ct9]
              have := List.length_take_le 6 ((cnV (opV (cnV (jobV (cnV (orV g.1 (bfA g.1))) (upA v 51) 5)) (cntA g 0) (upA (bshr v 3) 4) (1 + upA (bshr v 5) 20))) :: (bumpG (bumpG (bumpG (g.1, g.2.1, some g.1, g.2.2.2) (cnV (orV g.1 (bfA g.1)))) (cnV (jobV (cnV (orV g.1 (bfA g.1))) (upA v 51) 5))) (cnV (opV (cnV (jobV (cnV (orV g.1 (bfA g.1))) (upA v 51) 5)) (cntA g 0) (upA (bshr v 3) 4) (1 + upA (bshr v 5) 20)))).2.1)
              exact ⟨Int.natCast_nonneg _, Int.ofNat_le.mpr this⟩
            · rw [ct9, Int.sub_zero]
              rfl
            · exact Or.inr ⟨sw_13.1.trans a3, _, _, rfl, Or.inr ⟨a3, _, _, rfl, Or.inr ⟨a2, _, _, rfl, rfl, _, rfl⟩⟩⟩
          · refine ⟨_, h, fun σ11 h1 => ⟨rfl, ct0, rfl, rfl, rfl, ?_, hB, 2, _, _, _, h1, ?_, ?_⟩⟩
            · rw [ct9]
              have := List.length_take_le 6 ((cnV (jobV (cnV (orV g.1 (bfA g.1))) (upA v 51) 5)) :: (bumpG (bumpG (g.1, g.2.1, some g.1, g.2.2.2) (cnV (orV g.1 (bfA g.1)))) (cnV (jobV (cnV (orV g.1 (bfA g.1))) (upA v 51) 5))).2.1)
              exact ⟨Int.natCast_nonneg _, Int.ofNat_le.mpr this⟩
            · rw [ct9, Int.sub_zero]
              rfl
            · exact Or.inr ⟨a3, _, _, rfl, Or.inr ⟨a2, _, _, rfl, rfl, _, rfl⟩⟩
    · exact h.elim
