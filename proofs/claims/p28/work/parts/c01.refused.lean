/-! the law: what is refused -/
theorem noV {v : Vw} (hw : wWF v) (h : v 5 0 = 0) : ∀ o, ¬ vOp (v 10) o := fun o q => by
  have := wWF_j hw q
  omega
theorem noL {v : Vw} (hw : wWF v) (h : v 5 0 = 0) : ∀ m, 0 ≤ m → m < 4 → v 13 m = 0 := fun m a b => by
  have l := ln_w hw a b
  rcases (show v 13 m = 0 ∨ 0 < v 13 m by omega) with q | q
  · exact q
  · exact absurd (oq_v hw.1 a b (Int.le_refl 0) q).1 (noV hw h _)
theorem nV_b {v : Vw} (hw : wWF v) (hp : pos v) : 0 ≤ nV v ∧ nV v ≤ 16 := by
  have f := pos_f hw hp
  exact ⟨f.2.2.2.1, (PTi_v hw.1 f.2.2.2).2.2⟩
def T_X6_jobR : Tr := fun a σ K => match a with
  | [.inr (.inl (6, 0)), .inl r, .inl d] => ∃ g, GS g σ ∧ ¬ ((0 ≤ r ∧ r ≤ 50) ∧ (0 ≤ d ∧ d ≤ 200)) ∧ ∀ σ', GS g σ' → K (some (-2)) σ'
  | _ => False
theorem m_X6_jobR : ∀ a σ K, T_X6_jobR a σ K → T_X6_jobG a σ K := by
  intro a σ K h
  unfold T_X6_jobR at h
  split at h
  · obtain ⟨g, hg, hn, hk⟩ := h
    unfold T_X6_jobG
    exact ⟨g, hg, fun _ => hk, fun q => absurd q hn⟩
  · exact h.elim
theorem k_X6_jobR (l : Launch) : Ct l yX6_job cX6_job 3 (some .int) 4 T_X6_jobR := Ct_mono (k_X6_jobG l) m_X6_jobR
def T_X6_operationR : Tr := fun a σ K => match a with
  | [.inr (.inl (6, 0)), .inl j, .inl m, .inl d] => ∃ g, GS g σ ∧ ¬ (0 ≤ j ∧ j < g.1 5 0) ∧ ∀ σ', GS g σ' → K (some (-1)) σ'
  | _ => False
theorem m_X6_operationR : ∀ a σ K, T_X6_operationR a σ K → T_X6_operationG a σ K := by
  intro a σ K h
  unfold T_X6_operationR at h
  split at h
  · obtain ⟨g, hg, hn, hk⟩ := h
    unfold T_X6_operationG
    exact ⟨g, hg, fun _ => hk, fun q => absurd q hn⟩
  · exact h.elim
theorem k_X6_operationR (l : Launch) : Ct l yX6_operation cX6_operation 4 (some .int) 4 T_X6_operationR := Ct_mono (k_X6_operationG l) m_X6_operationR
def T_X6_changeR : Tr := fun a σ K => match a with
  | [.inr (.inl (6, 0)), .inl x, .inl d] => ∃ g, GS g σ ∧ ¬ vOp (g.1 10) x ∧ ∀ σ', GS g σ' → K (some (-1)) σ'
  | _ => False
theorem m_X6_changeR : ∀ a σ K, T_X6_changeR a σ K → T_X6_changeG a σ K := by
  intro a σ K h
  unfold T_X6_changeR at h
  split at h
  · obtain ⟨g, hg, hn, hk⟩ := h
    unfold T_X6_changeG
    exact ⟨g, hg, fun _ => hk, fun q => absurd q hn⟩
  · exact h.elim
theorem k_X6_changeR (l : Launch) : Ct l yX6_change cX6_change 4 (some .int) 4 T_X6_changeR := Ct_mono (k_X6_changeG l) m_X6_changeR
def T_X6_swapR : Tr := fun a σ K => match a with
  | [.inr (.inl (6, 0)), .inl m, .inl x] => ∃ g, ∃ r, GS g σ ∧ ((¬ (0 ≤ m ∧ m ≤ 3) ∧ r = -2) ∨ ((0 ≤ m ∧ m ≤ 3) ∧ ¬ (0 ≤ x ∧ x < g.1 13 m - 1) ∧ r = -1)) ∧ ∀ σ', GS g σ' → K (some r) σ'
  | _ => False
theorem m_X6_swapR : ∀ a σ K, T_X6_swapR a σ K → T_X6_swapG a σ K := by
  intro a σ K h
  unfold T_X6_swapR at h
  split at h
  · obtain ⟨g, r, hg, hn, hk⟩ := h
    unfold T_X6_swapG
    rcases hn with ⟨a, rfl⟩ | ⟨a, b, rfl⟩
    · exact ⟨g, hg, fun _ => hk, fun q => absurd q a⟩
    · exact ⟨g, hg, fun q => absurd a q, fun _ => ⟨fun _ => hk, fun q => absurd q b⟩⟩
  · exact h.elim
theorem k_X6_swapR (l : Launch) : Ct l yX6_swap cX6_swap 3 (some .int) 6 T_X6_swapR := Ct_mono (k_X6_swapG l) m_X6_swapR
def T_X6_improveR : Tr := fun a σ K => match a with
  | [.inr (.inl (6, 0))] => ∃ g, GS g σ ∧ (pos g.1 → ∀ m x le, 0 ≤ m → m < 4 → 0 ≤ x → x + 1 < g.1 13 m → lenQ (g.1 10) (g.1 11) (g.1 12) (g.1 8) (g.1 13) (exQ (g.1 14) (4 * m + x)) le → ¬ le < LV g.1) ∧ ∀ σ', GS g σ' → K (some (-5)) σ'
  | _ => False
theorem m_X6_improveR : ∀ a σ K, T_X6_improveR a σ K → T_X6_improveG a σ K := by
  intro a σ K h
  unfold T_X6_improveR at h
  split at h
  · obtain ⟨g, hg, hn, hk⟩ := h
    unfold T_X6_improveG
    exact ⟨g, hg, hk, fun p m x le σ' a b c d e f => absurd f (hn p m x le a b c d e)⟩
  · exact h.elim
theorem k_X6_improveR (l : Launch) : Ct l yX6_improve cX6_improve 6 (some .int) 6 T_X6_improveR := Ct_mono (k_X6_improveG l) m_X6_improveR
def T_X6_undoR : Tr := fun a σ K => match a with
  | [.inr (.inl (6, 0))] => ∃ g, GS g σ ∧ g.2.1 = [] ∧ ∀ σ', GS g σ' → K (some (-5)) σ'
  | _ => False
theorem m_X6_undoR : ∀ a σ K, T_X6_undoR a σ K → T_X6_undoG a σ K := by
  intro a σ K h
  unfold T_X6_undoR at h
  split at h
  · obtain ⟨g, hg, hn, hk⟩ := h
    unfold T_X6_undoG
    exact ⟨g, hg, fun _ => hk, fun w hs q => by rw [hn] at q; cases q⟩
  · exact h.elim
theorem k_X6_undoR (l : Launch) : Ct l yX6_undo cX6_undo 1 (some .int) 3 T_X6_undoR := Ct_mono (k_X6_undoG l) m_X6_undoR
def T_X6_saveR : Tr := fun a σ K => match a with
  | [.inr (.inl (6, 0)), .inl s] => ∃ g, GS g σ ∧ ¬ (0 ≤ s ∧ s ≤ 1) ∧ ∀ σ', GS g σ' → K (some (-2)) σ'
  | _ => False
theorem m_X6_saveR : ∀ a σ K, T_X6_saveR a σ K → T_X6_saveG a σ K := by
  intro a σ K h
  unfold T_X6_saveR at h
  split at h
  · obtain ⟨g, hg, hn, hk⟩ := h
    unfold T_X6_saveG
    exact ⟨g, hg, fun _ => hk, fun q => absurd q hn⟩
  · exact h.elim
theorem k_X6_saveR (l : Launch) : Ct l yX6_save cX6_save 2 (some .int) 2 T_X6_saveR := Ct_mono (k_X6_saveG l) m_X6_saveR
def T_X6_restoreR : Tr := fun a σ K => match a with
  | [.inr (.inl (6, 0)), .inl s] => ∃ g, GS g σ ∧ ¬ (0 ≤ s ∧ s ≤ 1) ∧ ∀ σ', GS g σ' → K (some (-2)) σ'
  | _ => False
theorem m_X6_restoreR : ∀ a σ K, T_X6_restoreR a σ K → T_X6_restoreG a σ K := by
  intro a σ K h
  unfold T_X6_restoreR at h
  split at h
  · obtain ⟨g, hg, hn, hk⟩ := h
    unfold T_X6_restoreG
    exact ⟨g, hg, fun _ => hk, fun q => absurd q hn⟩
  · exact h.elim
theorem k_X6_restoreR (l : Launch) : Ct l yX6_restore cX6_restore 2 (some .int) 4 T_X6_restoreR := Ct_mono (k_X6_restoreG l) m_X6_restoreR
def T_X6_loadPlanR : Tr := fun a σ K => match a with
  | [.inr (.inl (6, 0))] => ∃ g, GS g σ ∧ plnF g.2.2.2.1 g.2.2.2.2 ≠ -6 ∧ ∀ σ', GS g σ' → K (some (-3)) σ'
  | _ => False
theorem m_X6_loadPlanR : ∀ a σ K, T_X6_loadPlanR a σ K → T_X6_loadPlanG a σ K := by
  intro a σ K h
  unfold T_X6_loadPlanR at h
  split at h
  · obtain ⟨g, hg, hn, hk⟩ := h
    unfold T_X6_loadPlanG
    exact ⟨g, hg, fun _ => hk, fun q => absurd q hn⟩
  · exact h.elim
theorem k_X6_loadPlanR (l : Launch) : Ct l yX6_loadPlan cX6_loadPlan 2 (some .int) 6 T_X6_loadPlanR := Ct_mono (k_X6_loadPlanG l) m_X6_loadPlanR
def ca_L_refused : Nat → Option (Nat × Nat × Tr)
  | 22 => some (2, 99, T_L_up)
  | 26 => some (3, 6, T_X6_jobR)
  | 29 => some (4, 6, T_X6_operationR)
  | 79 => some (3, 6, T_X6_changeR)
  | 66 => some (3, 6, T_X6_swapR)
  | 73 => some (1, 6, T_X6_improveR)
  | 76 => some (3, 6, T_X6_aboutG)
  | 98 => some (2, 6, T_X6_pathG)
  | 59 => some (3, 6, T_X6_orderG)
  | 33 => some (3, 6, T_X6_ofJobG)
  | 69 => some (2, 6, T_X6_countG)
  | 104 => some (2, 6, T_X6_boundG)
  | 107 => some (2, 6, T_X6_forcedG)
  | 110 => some (4, 6, T_X6_isForcedG)
  | 82 => some (3, 6, T_X6_bestG)
  | 113 => some (5, 6, T_X6_breakdownG)
  | 131 => some (2, 6, T_X6_faultG)
  | 144 => some (1, 6, T_X6_loadRoutesG)
  | 134 => some (1, 6, T_X6_loadPlanR)
  | 117 => some (1, 6, T_X6_undoR)
  | 137 => some (2, 6, T_X6_saveR)
  | 140 => some (2, 6, T_X6_restoreR)
  | _ => none
theorem cao_L_refused (l : Launch) : ∀ k n' ci T', ca_L_refused k = some (n', ci, T') → ∃ nn, nn + 1 ≤ 38 ∧ Site l yL_refused.cls k n' ci nn T' := by
  intro k n' ci T' h
  unfold ca_L_refused at h
  split at h
  · cases h; exact ⟨0, by decide, _, _, _, _, k_L_up l, Or.inr ⟨rfl, FL_up, Or.inl ⟨rfl, KRL_22⟩⟩⟩
  · cases h; exact ⟨4, by decide, _, _, _, _, k_X6_jobR l, Or.inl ⟨_, rfl, FX6_job, KRL_26⟩⟩
  · cases h; exact ⟨4, by decide, _, _, _, _, k_X6_operationR l, Or.inl ⟨_, rfl, FX6_operation, KRL_29⟩⟩
  · cases h; exact ⟨4, by decide, _, _, _, _, k_X6_changeR l, Or.inl ⟨_, rfl, FX6_change, KRL_79⟩⟩
  · cases h; exact ⟨6, by decide, _, _, _, _, k_X6_swapR l, Or.inl ⟨_, rfl, FX6_swap, KRL_66⟩⟩
  · cases h; exact ⟨6, by decide, _, _, _, _, k_X6_improveR l, Or.inl ⟨_, rfl, FX6_improve, KRL_73⟩⟩
  · cases h; exact ⟨6, by decide, _, _, _, _, k_X6_aboutG l, Or.inl ⟨_, rfl, FX6_about, KRL_76⟩⟩
  · cases h; exact ⟨6, by decide, _, _, _, _, k_X6_pathG l, Or.inl ⟨_, rfl, FX6_path, KRL_98⟩⟩
  · cases h; exact ⟨2, by decide, _, _, _, _, k_X6_orderG l, Or.inl ⟨_, rfl, FX6_order, KRL_59⟩⟩
  · cases h; exact ⟨6, by decide, _, _, _, _, k_X6_ofJobG l, Or.inl ⟨_, rfl, FX6_ofJob, KRL_33⟩⟩
  · cases h; exact ⟨6, by decide, _, _, _, _, k_X6_countG l, Or.inl ⟨_, rfl, FX6_count, KRL_69⟩⟩
  · cases h; exact ⟨3, by decide, _, _, _, _, k_X6_boundG l, Or.inl ⟨_, rfl, FX6_bound, KRL_104⟩⟩
  · cases h; exact ⟨4, by decide, _, _, _, _, k_X6_forcedG l, Or.inl ⟨_, rfl, FX6_forced, KRL_107⟩⟩
  · cases h; exact ⟨4, by decide, _, _, _, _, k_X6_isForcedG l, Or.inl ⟨_, rfl, FX6_isForced, KRL_110⟩⟩
  · cases h; exact ⟨37, by decide, _, _, _, _, k_X6_bestG l, Or.inl ⟨_, rfl, FX6_best, KRL_82⟩⟩
  · cases h; exact ⟨37, by decide, _, _, _, _, k_X6_breakdownG l, Or.inl ⟨_, rfl, FX6_breakdown, KRL_113⟩⟩
  · cases h; exact ⟨5, by decide, _, _, _, _, k_X6_faultG l, Or.inl ⟨_, rfl, FX6_fault, KRL_131⟩⟩
  · cases h; exact ⟨5, by decide, _, _, _, _, k_X6_loadRoutesG l, Or.inl ⟨_, rfl, FX6_loadRoutes, KRL_144⟩⟩
  · cases h; exact ⟨6, by decide, _, _, _, _, k_X6_loadPlanR l, Or.inl ⟨_, rfl, FX6_loadPlan, KRL_134⟩⟩
  · cases h; exact ⟨3, by decide, _, _, _, _, k_X6_undoR l, Or.inl ⟨_, rfl, FX6_undo, KRL_117⟩⟩
  · cases h; exact ⟨2, by decide, _, _, _, _, k_X6_saveR l, Or.inl ⟨_, rfl, FX6_save, KRL_137⟩⟩
  · cases h; exact ⟨4, by decide, _, _, _, _, k_X6_restoreR l, Or.inl ⟨_, rfl, FX6_restore, KRL_140⟩⟩
  · cases h
def T_L_refused : Tr := fun a σ K => match a with
  | [.inr (.inl (6, 0)), .inl v] => ∃ g, GS g σ ∧ (g.1 5 0 = 0 ∧ g.2.1 = [] ∧ g.2.2.2.2 = 0) ∧ ∀ σ', GS g σ' → K (some 1) σ'
  | _ => False
set_option maxHeartbeats 8000000 in
set_option maxRecDepth 20000 in
theorem k_L_refused (l : Launch) : Ct l yL_refused cL_refused 3 (some .boolean) 38 T_L_refused := by
  refine mk_met (by decide +kernel) hCL_refused lCL_refused frL_ok cstL_ok (cao_L_refused l) ?_ ?_
  · intro a σ K h
    unfold T_L_refused at h
    split at h
    · simp [eL]
    · exact h.elim
  · intro a σ K ha hR h
    unfold T_L_refused at h
    split at h
    · rename_i v
      obtain ⟨g, hg, ⟨e5, eh, et⟩, hk⟩ := h
      have hw := GS_w hg
      have hv := noV hw e5
      have hl := noL hw e5
      refine ⟨fun pc => if pc = 25 then some (fun L S σ' k => match L, S with | [some (.inr (.inl c1)), x1, some (.inl x)], [] => (c1 = (6, 0) ∧ (x ≤ -2 ∨ 501 ≤ x) ∧ (-2000000 ≤ x ∧ x ≤ 2000000) ∧ GS g σ') ∧ k = 1 | _, _ => False) else none, 400, ?_, ?_⟩
      · intro pc I L S σ' k hcut hi
        dsimp only at hcut
        split at hcut
        · rename_i hpc
          subst hpc
          cases hcut
          try dsimp only at hi
          split at hi
          · rename_i c1 x1 x
            obtain ⟨hi, rfl⟩ := hi
            obtain ⟨rfl, hx, hb, hg'⟩ := hi
            simp only [wp, stp, drp, entL, eL, lget, lset, okst, cnd, swt, rcv, Kr_int, Kr_bool, Kr_void, List.length_cons, List.length_nil, List.replicate, List.append_nil, List.cons_append, List.nil_append, List.take_succ_cons, List.take_zero, List.drop_succ_cons, List.drop_zero, List.reverse_cons, List.reverse_nil, Option.map_some, Option.map_none, Option.toList_some, Option.toList_none, Nat.reduceAdd, Nat.reduceSub, Nat.reduceLT, Nat.reduceLeDiff, Nat.reduceEqDiff, ↓reduceIte, Nat.add_zero, Nat.zero_add, true_and, and_true, Nat.le_refl, reduceCtorEq, false_implies, true_implies, not_true_eq_false, not_false_eq_true, Int.reduceAdd, Int.reduceSub, Int.reduceMul, Int.reduceLE, Int.reduceLT, Int.reduceEq, Int.reduceNe, Int.reduceNeg, Int.reduceDiv, Int.reduceMod, Bool.false_eq_true, Int.le_refl, and_self, true_or, or_true, inR_l, fv0, fv1, fv2, fv3, nc2, nc4, nc6, nc16, nc25, nc60, nc65, nc80, nc130, nc384, nc390, fp_0_0, fp_0_1, fp_0_2, fp_1_0, fp_1_1, fp_1_2, fp_1_3, fp_1_4, fp_1_5, fp_1_6, fp_1_7, fp_1_8, fp_1_9, fp_1_10, fp_1_11, fp_1_12, fp_1_13, fp_1_14, fp_2_0, fp_2_1, fp_2_2, fp_2_3, fp_3_0, fp_3_1, fp_4_0, fp_4_1, fp_4_2, fp_4_3, fp_4_4, fp_4_5, fp_4_6, fp_4_7, fp_5_0, fp_5_1, fp_5_2, fp_5_3, fp_5_4, fp_5_5, fp_5_6, fp_5_7, fp_6_0, fp_6_1, fp_6_2, fp_6_3, fp_6_4, fp_6_5, fp_6_6, fp_6_7, fp_6_8, fp_6_9, fp_6_10, fp_6_11, fp_6_12, fp_6_13, fp_6_14, fp_6_15, fp_7_0, fp_7_1, fp_7_2, fp_7_3, fp_7_4, fp_7_5, fp_7_6, fp_7_7, fp_7_8, fp_7_9, fp_7_10, fp_7_11, fp_7_12, fp_7_13, fp_7_14, fp_7_15, fp_7_16, fp_7_17, fp_7_18, fp_7_19, fp_7_20, fp_7_21, fp_7_22, fp_7_23, fp_7_24, iz_0_1, iz_0_2, iz_1_8, iz_1_9, iz_1_11, iz_2_1, iz_2_2, iz_2_3, iz_3_1, iz_4_1, iz_4_2, iz_5_0, iz_6_8, iz_6_9, iz_6_13, iz_6_14, iz_6_15, iz_7_2, iz_7_6, iz_7_12, iz_7_20, iz_7_21, iz_7_23, iz_7_24, ak_8, ak_9, ak_10, ak_11, ak_12, ak_13, ak_14, ak_15, ak_16, ak_17, ak_18, ak_19, ak_20, ak_21, ak_22, ak_23, ak_24, ak_25, ak_26, ak_27, ak_28, ak_29, ak_30, ak_31, ak_32, ak_33, ak_34, ak_35, ak_36, ak_37, ak_38, ak_39, ak_40, ak_41, ak_42, ak_43, ak_44, ak_45, ak_46, ak_47, ak_48, ak_49, ak_50, ak_51, ak_52, ak_53, ak_54, ak_55, ak_56, el31, el33, el34, CL_refused, ca_L_refused, frL, kcL, klL, T_L_up, T_X6_jobR, T_X6_operationR, T_X6_changeR, T_X6_swapR, T_X6_improveR, T_X6_aboutG, T_X6_pathG, T_X6_orderG, T_X6_ofJobG, T_X6_countG, T_X6_boundG, T_X6_forcedG, T_X6_isForcedG, T_X6_bestG, T_X6_breakdownG, T_X6_faultG, T_X6_loadRoutesG, T_X6_loadPlanR, T_X6_undoR, T_X6_saveR, T_X6_restoreR, exists_eq_right_right, exists_eq_right, exists_eq_left, Nat.lt_irrefl, and_self, implies_true, forall_const]
            have vx : ¬ vOp (g.1 10) x := hv x
            have l0 := hl 0 (by omega) (by omega)
            refine ⟨g, hg', by omega, fun σ1 h1 => ⟨g, h1, by omega, fun σ2 h2 => ⟨g, h2, by omega, fun σ3 h3 => ⟨g, h3, vx, fun σ4 h4 => ?_⟩⟩⟩⟩
            refine ⟨g, -2, h4, Or.inl ⟨by omega, rfl⟩, fun σ5 h5 => ⟨fun q => absurd rfl q, fun _ => ⟨g, -1, h5, Or.inr ⟨by omega, rfl⟩, fun σ6 h6 => ⟨fun q => absurd rfl q, fun _ => ?_⟩⟩⟩⟩
            refine ⟨g, h6, fun _ m k le a b c d => by have := hl m a b; omega, fun σ7 h7 => ⟨g, h7, fun σ8 h8 => ⟨fun q => absurd (ab_n vx 0) q, fun _ => ?_⟩⟩⟩
            refine ⟨g, h8, fun σ9 h9 => ⟨fun q => absurd (cif_0 (fun z => by have := nV_b hw z.1; omega)) q, fun _ => ?_⟩⟩
            refine ⟨g, h9, fun σ10 h10 => ⟨fun q => absurd (if_pos (by omega)) q, fun _ => ?_⟩⟩
            refine ⟨g, h10, fun σ11 h11 => ⟨fun q => absurd ((if_neg (by omega)).trans (if_neg (by omega))) q, fun _ => ?_⟩⟩
            refine ⟨g, h11, fun σ12 h12 => ⟨fun q => absurd (of_n (by omega) 0) q, fun _ => ?_⟩⟩
            refine ⟨g, h12, fun σ13 h13 => ⟨fun q => absurd (ct_o (by omega)) q, fun _ => ?_⟩⟩
            refine ⟨g, h13, fun σ14 h14 _ => ⟨fun q => absurd (if_pos (by omega)) q, fun _ => ?_⟩⟩
            refine ⟨g, h14, fun σ15 h15 _ => ⟨fun q => absurd (if_pos (by omega)) q, fun _ => ?_⟩⟩
            refine ⟨g, h15, fun σ16 h16 _ => ⟨fun q => absurd (cif_1 (fun z => hv _ z.1)) q, fun _ => ?_⟩⟩
            refine ⟨g, h16, fun σ17 h17 _ => ⟨fun q => absurd (if_pos (by omega)) q, fun _ => ?_⟩⟩
            refine ⟨g, h17, fun σ18 h18 => ⟨fun q => absurd ((if_neg (by omega)).trans ((if_neg (by omega)).trans (if_pos (by omega)))) q, fun _ => ?_⟩⟩
            refine ⟨g, h18, fun σ19 h19 _ => ⟨fun q => absurd (cif_1 (fun z => by unfold okB at z; omega)) q, fun _ => ?_⟩⟩
            refine ⟨g, h19, fun σ20 h20 _ => ⟨fun q => absurd (cif_1 (fun z => by unfold okB at z; omega)) q, fun _ => ?_⟩⟩
            refine ⟨g, h20, fun σ21 h21 _ => ⟨fun q => absurd (cif_1 (fun z => by unfold okB at z; omega)) q, fun _ => ?_⟩⟩
            refine ⟨g, h21, fun σ22 h22 _ => ⟨fun q => absurd (cif_1 (fun z => by unfold okB at z; omega)) q, fun _ => ?_⟩⟩
            refine ⟨by omega, g, h22, fun σ23 h23 => ⟨fun q => absurd (if_neg (by omega)) q, fun _ => ?_⟩⟩
            refine ⟨g, h23, et, fun σ24 h24 => ⟨g, h24, by rw [et]; exact pln_00 _, fun σ25 h25 => ⟨g, h25, eh, fun σ26 h26 => ⟨g, h26, by omega, fun σ27 h27 => ⟨g, h27, by omega, fun σ28 h28 => ?_⟩⟩⟩⟩⟩
            refine ⟨g, h28, fun σ29 h29 => ?_⟩
            rw [ct0, e5]
            exact ⟨fun q => absurd rfl q, fun _ => hk _ h29⟩
          · exact hi.elim
        · cases hcut
      · simp only [wp, stp, drp, entL, eL, lget, lset, okst, cnd, swt, rcv, Kr_int, Kr_bool, Kr_void, List.length_cons, List.length_nil, List.replicate, List.append_nil, List.cons_append, List.nil_append, List.take_succ_cons, List.take_zero, List.drop_succ_cons, List.drop_zero, List.reverse_cons, List.reverse_nil, Option.map_some, Option.map_none, Option.toList_some, Option.toList_none, Nat.reduceAdd, Nat.reduceSub, Nat.reduceLT, Nat.reduceLeDiff, Nat.reduceEqDiff, ↓reduceIte, Nat.add_zero, Nat.zero_add, true_and, and_true, Nat.le_refl, reduceCtorEq, false_implies, true_implies, not_true_eq_false, not_false_eq_true, Int.reduceAdd, Int.reduceSub, Int.reduceMul, Int.reduceLE, Int.reduceLT, Int.reduceEq, Int.reduceNe, Int.reduceNeg, Int.reduceDiv, Int.reduceMod, Bool.false_eq_true, Int.le_refl, and_self, true_or, or_true, inR_l, fv0, fv1, fv2, fv3, nc2, nc4, nc6, nc16, nc25, nc60, nc65, nc80, nc130, nc384, nc390, fp_0_0, fp_0_1, fp_0_2, fp_1_0, fp_1_1, fp_1_2, fp_1_3, fp_1_4, fp_1_5, fp_1_6, fp_1_7, fp_1_8, fp_1_9, fp_1_10, fp_1_11, fp_1_12, fp_1_13, fp_1_14, fp_2_0, fp_2_1, fp_2_2, fp_2_3, fp_3_0, fp_3_1, fp_4_0, fp_4_1, fp_4_2, fp_4_3, fp_4_4, fp_4_5, fp_4_6, fp_4_7, fp_5_0, fp_5_1, fp_5_2, fp_5_3, fp_5_4, fp_5_5, fp_5_6, fp_5_7, fp_6_0, fp_6_1, fp_6_2, fp_6_3, fp_6_4, fp_6_5, fp_6_6, fp_6_7, fp_6_8, fp_6_9, fp_6_10, fp_6_11, fp_6_12, fp_6_13, fp_6_14, fp_6_15, fp_7_0, fp_7_1, fp_7_2, fp_7_3, fp_7_4, fp_7_5, fp_7_6, fp_7_7, fp_7_8, fp_7_9, fp_7_10, fp_7_11, fp_7_12, fp_7_13, fp_7_14, fp_7_15, fp_7_16, fp_7_17, fp_7_18, fp_7_19, fp_7_20, fp_7_21, fp_7_22, fp_7_23, fp_7_24, iz_0_1, iz_0_2, iz_1_8, iz_1_9, iz_1_11, iz_2_1, iz_2_2, iz_2_3, iz_3_1, iz_4_1, iz_4_2, iz_5_0, iz_6_8, iz_6_9, iz_6_13, iz_6_14, iz_6_15, iz_7_2, iz_7_6, iz_7_12, iz_7_20, iz_7_21, iz_7_23, iz_7_24, ak_8, ak_9, ak_10, ak_11, ak_12, ak_13, ak_14, ak_15, ak_16, ak_17, ak_18, ak_19, ak_20, ak_21, ak_22, ak_23, ak_24, ak_25, ak_26, ak_27, ak_28, ak_29, ak_30, ak_31, ak_32, ak_33, ak_34, ak_35, ak_36, ak_37, ak_38, ak_39, ak_40, ak_41, ak_42, ak_43, ak_44, ak_45, ak_46, ak_47, ak_48, ak_49, ak_50, ak_51, ak_52, ak_53, ak_54, ak_55, ak_56, el31, el33, el34, CL_refused, ca_L_refused, frL, kcL, klL, T_L_up, T_X6_jobR, T_X6_operationR, T_X6_changeR, T_X6_swapR, T_X6_improveR, T_X6_aboutG, T_X6_pathG, T_X6_orderG, T_X6_ofJobG, T_X6_countG, T_X6_boundG, T_X6_forcedG, T_X6_isForcedG, T_X6_bestG, T_X6_breakdownG, T_X6_faultG, T_X6_loadRoutesG, T_X6_loadPlanR, T_X6_undoR, T_X6_saveR, T_X6_restoreR, exists_eq_right_right, exists_eq_right, exists_eq_left, Nat.lt_irrefl, and_self, implies_true, forall_const]
        refine ⟨fun a => ?_, fun a => ?_⟩
        · have r := Int.emod_lt_of_pos v (show (0 : Int) < 1000000 by omega)
          have r2 := Int.emod_nonneg v (show (1000000 : Int) ≠ 0 by omega)
          exact ⟨by omega, by constructor <;> omega, by omega, by omega, hg⟩
        · have r := upA_r (v := v) (m := 1000000) (by omega)
          exact ⟨by constructor <;> omega, by omega, by omega, hg⟩
    · exact h.elim
