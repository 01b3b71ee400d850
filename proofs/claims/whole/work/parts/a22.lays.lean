/-- the reference's: an operation stays -/
def rsty (σ : Mem) (b t o : Int) : Prop := σ 45 0 o + rDu σ o ≤ t ∨ (rMc σ o ≠ b ∧ σ 45 0 o < t)
noncomputable def rct (σ : Mem) (b t m n : Int) : Int := sm (fun k => b2i (rsty σ b t (oA σ m k))) n.toNat
def p434 (t a : Nat) (_x : Int) : Prop := (t = 43 ∨ t = 44) ∧ a = 0
def LSi (σ σ' : Mem) (m b t u k n : Int) : Prop := FrG p434 σ σ' ∧ 0 ≤ k ∧ k ≤ rLn σ m ∧ n = rct σ b t m k ∧ 0 ≤ n ∧ n ≤ k ∧ ∀ o, rOp σ o → ((rMc σ o = m ∧ rPl σ o < k) → σ' 43 0 o = blim b t u m ∧ (rsty σ b t o → σ' 44 0 o = 1) ∧ (¬ rsty σ b t o → σ' 44 0 o = 0)) ∧ (¬ (rMc σ o = m ∧ rPl σ o < k) → σ' 43 0 o = σ 43 0 o ∧ σ' 44 0 o = σ 44 0 o)
theorem LSi_0 {σ : Mem} (hw : rWF σ) {m b t u : Int} (m0 : 0 ≤ m) (m1 : m < 4) : LSi σ σ m b t u 0 0 := ⟨FrG.r, by omega, (hw.1.2.2.2.2.1 m m0 m1).1, rfl, by omega, by omega, fun o v => ⟨fun z => by
  have := (plo_of hw.1 v).1
  have := z.2
  unfold rPl at this
  omega, fun _ => ⟨rfl, rfl⟩⟩⟩
theorem LSi_s {σ σ' σ2 : Mem} (hw : rWF σ) {m b t u k n s l n' : Int} (m0 : 0 ≤ m) (m1 : m < 4) (h : LSi σ σ' m b t u k n) (hk : k < rLn σ m) (hl : l = blim b t u m) (hs : (rsty σ b t (oA σ m k) ∧ s = 1 ∧ n' = n + 1) ∨ (¬ rsty σ b t (oA σ m k) ∧ s = 0 ∧ n' = n)) (h2 : σ2 = up (up σ' 44 0 (oA σ m k) s) 43 0 (oA σ m k) l) : LSi σ σ2 m b t u (k + 1) n' := by
  obtain ⟨h1, k0, k1, hn, n0, n1, ho⟩ := h
  obtain ⟨v, vm, vp⟩ := oA_v hw m0 m1 k0 hk
  have e43 : ∀ o, σ2 43 0 o = if o = oA σ m k then l else σ' 43 0 o := fun o => by rw [h2]; simp [up_ap]
  have e44 : ∀ o, σ2 44 0 o = if o = oA σ m k then s else σ' 44 0 o := fun o => by rw [h2]; simp [up_ap]
  have hc : rct σ b t m (k + 1) = rct σ b t m k + b2i (rsty σ b t (oA σ m k)) := by
    unfold rct
    rw [sm_s _ k0]
  refine ⟨by rw [h2]; exact (h1.u ⟨Or.inr rfl, rfl⟩).u ⟨Or.inl rfl, rfl⟩, by omega, by omega, ?_, ?_, ?_, fun o vo => ?_⟩
  · rcases hs with ⟨a, -, c⟩ | ⟨a, -, c⟩
    · rw [hc, b2i_1 a]; omega
    · rw [hc, b2i_0 a]; omega
  · rcases hs with ⟨a, -, c⟩ | ⟨a, -, c⟩ <;> omega
  · rcases hs with ⟨a, -, c⟩ | ⟨a, -, c⟩ <;> omega
  · rw [e43, e44]
    by_cases z : o = oA σ m k
    · rw [if_pos z, if_pos z]
      have hp : rPl σ o = k := by rw [z]; exact vp
      refine ⟨fun _ => ⟨hl, fun y => ?_, fun y => ?_⟩, fun y => absurd ⟨by rw [z]; exact vm, by omega⟩ y⟩
      · rw [z] at y
        rcases hs with ⟨-, c, -⟩ | ⟨a, -, -⟩
        · exact c
        · exact absurd y a
      · rw [z] at y
        rcases hs with ⟨a, -, -⟩ | ⟨-, c, -⟩
        · exact absurd a y
        · exact c
    · rw [if_neg z, if_neg z]
      have hne : ¬ (rMc σ o = m ∧ rPl σ o = k) := by
        rintro ⟨a, d⟩
        have := (plo_of hw.1 vo).2.2
        have e : oA σ m k = o := by
          unfold oA
          rw [if_pos ⟨k0, hk⟩, ← a, ← d]
          exact this
        exact z e.symm
      have := ho o vo
      refine ⟨fun y => this.1 ⟨y.1, ?_⟩, fun y => this.2 (fun x => y ⟨x.1, by omega⟩)⟩
      have hh := y.2
      rcases (show rPl σ o < k ∨ rPl σ o = k by omega) with q | q
      · exact q
      · exact absurd ⟨y.1, q⟩ hne
def T_X7_operationAt2 : Tr := fun a σ K => match a with
  | [.inr (.inl (7, 0)), .inl m, .inl x] => (rWF σ ∧ 0 ≤ m ∧ m < 4) ∧ K (some (oA σ m x)) σ
  | _ => False
theorem m_X7_operationAt2 : ∀ a σ K, T_X7_operationAt2 a σ K → T_X7_operationAt a σ K := by
  intro a σ K h
  unfold T_X7_operationAt2 at h
  unfold T_X7_operationAt
  split at h
  · rename_i m x
    obtain ⟨⟨p, m0, m1⟩, h⟩ := h
    have hp := oA_pre p m0 m1
    refine ⟨⟨m0, m1, hp.1, hp.2.2 x⟩, ?_⟩
    rw [oA_eq]
    exact h
  · exact h.elim
def T_X7_endOf2 : Tr := fun a σ K => match a with
  | [.inr (.inl (7, 0)), .inl x] => (rHb σ ∧ rOp σ x) ∧ K (some (σ 45 0 x + rDu σ x)) σ
  | _ => False
theorem m_X7_endOf2 : ∀ a σ K, T_X7_endOf2 a σ K → T_X7_endOf a σ K := by
  intro a σ K h
  unfold T_X7_endOf2 at h
  unfold T_X7_endOf
  split at h
  · obtain ⟨⟨p, v⟩, h⟩ := h
    have b := rWF_op p.1 v
    have c := p.2 _ v
    have v0 := v.1
    refine ⟨⟨v.2.1, fun _ => ?_⟩, ?_⟩
    · unfold rDu at b
      simp only [inR]
      omega
    · rw [if_neg (by omega)]
      exact h
  · exact h.elim
theorem p434_b {σ σ' : Mem} (h : FrG p434 σ σ') (hw : rHb σ) : rHb σ' := by
  have e : σ' 38 0 = σ 38 0 := h.f 38 0 (by rintro x ⟨q, -⟩; omega)
  have e2 : σ' 45 0 = σ 45 0 := h.f 45 0 (by rintro x ⟨q, -⟩; omega)
  unfold rHb rWF rOp rSt rMc rDu rLn rQ rRe rDd at hw ⊢
  rw [e, e2]
  exact hw
theorem k_X7_operationAt2 (l : Launch) : Ct l yX7_operationAt cX7_operationAt 3 (some .int) 2 T_X7_operationAt2 := Ct_mono (k_X7_operationAt l) m_X7_operationAt2
theorem k_X7_endOf2 (l : Launch) : Ct l yX7_endOf cX7_endOf 2 (some .int) 1 T_X7_endOf2 := Ct_mono (k_X7_endOf l) m_X7_endOf2
def ca_X7_layStays : Nat → Option (Nat × Nat × Tr)
  | 117 => some (3, 7, T_X7_operationAt2)
  | 114 => some (2, 7, T_X7_endOf2)
  | _ => none
theorem cao_X7_layStays (l : Launch) : ∀ k n' ci T', ca_X7_layStays k = some (n', ci, T') → ∃ nn, nn + 1 ≤ 3 ∧ Site l yX7_layStays.cls k n' ci nn T' := by
  intro k n' ci T' h
  unfold ca_X7_layStays at h
  split at h
  · cases h; exact ⟨2, by decide, _, _, _, _, k_X7_operationAt2 l, Or.inl ⟨_, rfl, FX7_operationAt, KRX7_117⟩⟩
  · cases h; exact ⟨1, by decide, _, _, _, _, k_X7_endOf2 l, Or.inl ⟨_, rfl, FX7_endOf, KRX7_114⟩⟩
  · cases h
def T_X7_layStays : Tr := fun a σ K => match a with
  | [.inr (.inl (7, 0)), .inl m, .inl b, .inl t, .inl u] => (rHb σ ∧ 0 ≤ m ∧ m < 4) ∧ ∀ σ' n, LSi σ σ' m b t u (rLn σ m) n → K (some n) σ'
  | _ => False
set_option maxHeartbeats 8000000 in
set_option maxRecDepth 20000 in
theorem k_X7_layStays (l : Launch) : Ct l yX7_layStays cX7_layStays 9 (some .int) 3 T_X7_layStays := by
  refine mk_met (by decide +kernel) hCX7_layStays lCX7_layStays frX7_ok cstX7_ok (cao_X7_layStays l) ?_ ?_
  · intro a σ K h
    unfold T_X7_layStays at h
    split at h
    · simp [eL]
    · exact h.elim
  · intro a σ K ha hR h
    unfold T_X7_layStays at h
    split at h
    · rename_i m b t u
      refine ⟨fun pc => if pc = 6 then some (fun L S σ' k => match L, S with | [some (.inr (.inl c1)), some (.inl m'), some (.inl b'), some (.inl t'), some (.inl u'), some (.inl n), some (.inl k1), _, _], [] => (c1 = (7, 0) ∧ m' = m ∧ b' = b ∧ t' = t ∧ u' = u ∧ LSi σ σ' m b t u k1 n) ∧ k = (10 - k1).toNat | _, _ => False) else none, 200, ?_, ?_⟩
      · intro pc I L S σ' k hcut hi
        dsimp only at hcut
        split at hcut
        · rename_i hpc
          subst hpc
          cases hcut
          try dsimp only at hi
          split at hi
          · rename_i c1 m' b' t' u' n k1 x1 x2
            obtain ⟨hi, rfl⟩ := hi
            obtain ⟨rfl, rfl, rfl, rfl, rfl, hI⟩ := hi
            obtain ⟨⟨p0, p1, p2⟩, h⟩ := h
            simp only [wp, stp, drp, entL, eL, lget, lset, okst, cnd, swt, rcv, Kr_int, Kr_bool, Kr_void, List.length_cons, List.length_nil, List.replicate, List.append_nil, List.cons_append, List.nil_append, List.take_succ_cons, List.take_zero, List.drop_succ_cons, List.drop_zero, List.reverse_cons, List.reverse_nil, Option.map_some, Option.map_none, Option.toList_some, Option.toList_none, Nat.reduceAdd, Nat.reduceSub, Nat.reduceLT, Nat.reduceLeDiff, Nat.reduceEqDiff, ↓reduceIte, Nat.add_zero, Nat.zero_add, true_and, and_true, Nat.le_refl, reduceCtorEq, false_implies, true_implies, not_true_eq_false, not_false_eq_true, Int.reduceAdd, Int.reduceSub, Int.reduceMul, Int.reduceLE, Int.reduceLT, Int.reduceEq, Int.reduceNe, Int.reduceNeg, Int.reduceDiv, Int.reduceMod, Bool.false_eq_true, Int.le_refl, and_self, true_or, or_true, inR_l, fv0, fv1, fv2, fv3, nc2, nc4, nc6, nc16, nc25, nc60, nc65, nc80, nc130, nc384, nc390, fp_0_0, fp_0_1, fp_0_2, fp_1_0, fp_1_1, fp_1_2, fp_1_3, fp_1_4, fp_1_5, fp_1_6, fp_1_7, fp_1_8, fp_1_9, fp_1_10, fp_1_11, fp_1_12, fp_1_13, fp_1_14, fp_2_0, fp_2_1, fp_2_2, fp_2_3, fp_3_0, fp_3_1, fp_4_0, fp_4_1, fp_4_2, fp_4_3, fp_4_4, fp_4_5, fp_4_6, fp_4_7, fp_5_0, fp_5_1, fp_5_2, fp_5_3, fp_5_4, fp_5_5, fp_5_6, fp_5_7, fp_6_0, fp_6_1, fp_6_2, fp_6_3, fp_6_4, fp_6_5, fp_6_6, fp_6_7, fp_6_8, fp_6_9, fp_6_10, fp_6_11, fp_6_12, fp_6_13, fp_6_14, fp_6_15, fp_7_0, fp_7_1, fp_7_2, fp_7_3, fp_7_4, fp_7_5, fp_7_6, fp_7_7, fp_7_8, fp_7_9, fp_7_10, fp_7_11, fp_7_12, fp_7_13, fp_7_14, fp_7_15, fp_7_16, fp_7_17, fp_7_18, fp_7_19, fp_7_20, fp_7_21, fp_7_22, fp_7_23, fp_7_24, iz_0_1, iz_0_2, iz_1_8, iz_1_9, iz_1_11, iz_2_1, iz_2_2, iz_2_3, iz_3_1, iz_4_1, iz_4_2, iz_5_0, iz_6_8, iz_6_9, iz_6_13, iz_6_14, iz_6_15, iz_7_2, iz_7_6, iz_7_12, iz_7_20, iz_7_21, iz_7_23, iz_7_24, ak_8, ak_9, ak_10, ak_11, ak_12, ak_13, ak_14, ak_15, ak_16, ak_17, ak_18, ak_19, ak_20, ak_21, ak_22, ak_23, ak_24, ak_25, ak_26, ak_27, ak_28, ak_29, ak_30, ak_31, ak_32, ak_33, ak_34, ak_35, ak_36, ak_37, ak_38, ak_39, ak_40, ak_41, ak_42, ak_43, ak_44, ak_45, ak_46, ak_47, ak_48, ak_49, ak_50, ak_51, ak_52, ak_53, ak_54, ak_55, ak_56, el31, el33, el34, CX7_layStays, ca_X7_layStays, frX7, kcX7, klX7, T_X7_operationAt2, T_X7_endOf2, up_ap, false_and, and_false, if_false, if_true, ite_true, ite_false, exists_eq_right_right, exists_eq_right, exists_eq_left, Nat.lt_irrefl, and_self, implies_true, forall_const]
            have e38 : σ' 38 0 = σ 38 0 := hI.1.f 38 0 (by rintro x ⟨q, -⟩; omega)
            have e45 : σ' 45 0 = σ 45 0 := hI.1.f 45 0 (by rintro x ⟨q, -⟩; omega)
            have eo : oA σ' m' k1 = oA σ m' k1 := by unfold oA oq rLn rSt rMc rQ; rw [e38]
            have ed : ∀ x, rDu σ' x = rDu σ x := fun x => by unfold rDu; rw [e38]
            have eL : σ' 38 0 (45 + m') = rLn σ m' := by rw [e38]; rfl
            have ev : ∀ x, rOp σ' x ↔ rOp σ x := fun x => by unfold rOp rSt; rw [e38]
            have hb := p434_b hI.1 p0
            rw [eo, eL, ed, e45]
            obtain ⟨-, k0, k2, hn, n0, n2, -⟩ := id hI
            have hl4 := (p0.1.1.2.2.2.2.1 m' p1 p2).2
            have KE : rLn σ m' ≤ k1 → K (some n) σ' := fun a => by
              have ek : k1 = rLn σ m' := by omega
              rw [ek] at hI
              exact h σ' n hI
            refine ⟨by simp only [inR]; omega, ⟨by omega, by omega⟩, KE, fun a => ?_⟩
            obtain ⟨v, vm, vp⟩ := oA_v p0.1 p1 p2 k0 (show k1 < rLn σ m' by omega)
            have xr : 0 ≤ oA σ m' k1 ∧ oA σ m' k1 < 16 := ⟨v.1, v.2.1⟩
            have T : ∀ s l n', ((rsty σ b' t' (oA σ m' k1) ∧ s = 1 ∧ n' = n + 1) ∨ (¬ rsty σ b' t' (oA σ m' k1) ∧ s = 0 ∧ n' = n)) → l = blim b' t' u' m' → (0 ≤ oA σ m' k1 ∧ oA σ m' k1 < 16) ∧ (0 ≤ oA σ m' k1 ∧ oA σ m' k1 < 16) ∧ inR n' ∧ inR (k1 + 1) ∧ (10 - (k1 + 1)).toNat < (10 - k1).toNat ∧ LSi σ (up (up σ' 44 0 (oA σ m' k1) s) 43 0 (oA σ m' k1) l) m' b' t' u' (k1 + 1) n' := fun s l n' hs hl => ⟨xr, xr, by simp only [inR]; omega, by simp only [inR]; omega, by omega, LSi_s p0.1 p1 p2 hI (by omega) hl hs rfl⟩
            have lt : m' ≠ b' → t' = blim b' t' u' m' := fun z => (if_neg z).symm
            have lu : ¬ m' ≠ b' → u' = blim b' t' u' m' := fun z => (if_pos (Classical.not_not.mp z)).symm
            have ny : ∀ c : t' < σ 45 0 (oA σ m' k1) + rDu σ (oA σ m' k1), (m' = b' ∨ t' ≤ σ 45 0 (oA σ m' k1)) → ¬ rsty σ b' t' (oA σ m' k1) := fun c d y => by
              rcases y with y | ⟨y1, y2⟩
              · omega
              · rw [vm] at y1
                rcases d with d | d
                · exact y1 d
                · omega
            exact ⟨⟨hb.1, p1, p2⟩, ⟨hb, (ev _).mpr v⟩, fun c => ⟨fun d => ⟨xr, fun e => T _ _ _ (Or.inr ⟨ny c (Or.inl d), rfl, by omega⟩) (lt e), fun e => T _ _ _ (Or.inr ⟨ny c (Or.inl d), rfl, by omega⟩) (lu e)⟩, fun d => ⟨xr, fun f => ⟨xr, fun e => T _ _ _ (Or.inr ⟨ny c (Or.inr f), rfl, by omega⟩) (lt e), fun e => T _ _ _ (Or.inr ⟨ny c (Or.inr f), rfl, by omega⟩) (lu e)⟩, fun f => ⟨xr, fun e => T _ _ _ (Or.inl ⟨Or.inr ⟨by rw [vm]; exact d, by omega⟩, rfl, rfl⟩) (lt e), fun e => T _ _ _ (Or.inl ⟨Or.inr ⟨by rw [vm]; exact d, by omega⟩, rfl, rfl⟩) (lu e)⟩⟩⟩, fun c => ⟨xr, fun e => T _ _ _ (Or.inl ⟨Or.inl (by omega), rfl, rfl⟩) (lt e), fun e => T _ _ _ (Or.inl ⟨Or.inl (by omega), rfl, rfl⟩) (lu e)⟩⟩
          · exact hi.elim
        · cases hcut
      · simp only [wp, stp, drp, entL, eL, lget, lset, okst, cnd, swt, rcv, Kr_int, Kr_bool, Kr_void, List.length_cons, List.length_nil, List.replicate, List.append_nil, List.cons_append, List.nil_append, List.take_succ_cons, List.take_zero, List.drop_succ_cons, List.drop_zero, List.reverse_cons, List.reverse_nil, Option.map_some, Option.map_none, Option.toList_some, Option.toList_none, Nat.reduceAdd, Nat.reduceSub, Nat.reduceLT, Nat.reduceLeDiff, Nat.reduceEqDiff, ↓reduceIte, Nat.add_zero, Nat.zero_add, true_and, and_true, Nat.le_refl, reduceCtorEq, false_implies, true_implies, not_true_eq_false, not_false_eq_true, Int.reduceAdd, Int.reduceSub, Int.reduceMul, Int.reduceLE, Int.reduceLT, Int.reduceEq, Int.reduceNe, Int.reduceNeg, Int.reduceDiv, Int.reduceMod, Bool.false_eq_true, Int.le_refl, and_self, true_or, or_true, inR_l, fv0, fv1, fv2, fv3, nc2, nc4, nc6, nc16, nc25, nc60, nc65, nc80, nc130, nc384, nc390, fp_0_0, fp_0_1, fp_0_2, fp_1_0, fp_1_1, fp_1_2, fp_1_3, fp_1_4, fp_1_5, fp_1_6, fp_1_7, fp_1_8, fp_1_9, fp_1_10, fp_1_11, fp_1_12, fp_1_13, fp_1_14, fp_2_0, fp_2_1, fp_2_2, fp_2_3, fp_3_0, fp_3_1, fp_4_0, fp_4_1, fp_4_2, fp_4_3, fp_4_4, fp_4_5, fp_4_6, fp_4_7, fp_5_0, fp_5_1, fp_5_2, fp_5_3, fp_5_4, fp_5_5, fp_5_6, fp_5_7, fp_6_0, fp_6_1, fp_6_2, fp_6_3, fp_6_4, fp_6_5, fp_6_6, fp_6_7, fp_6_8, fp_6_9, fp_6_10, fp_6_11, fp_6_12, fp_6_13, fp_6_14, fp_6_15, fp_7_0, fp_7_1, fp_7_2, fp_7_3, fp_7_4, fp_7_5, fp_7_6, fp_7_7, fp_7_8, fp_7_9, fp_7_10, fp_7_11, fp_7_12, fp_7_13, fp_7_14, fp_7_15, fp_7_16, fp_7_17, fp_7_18, fp_7_19, fp_7_20, fp_7_21, fp_7_22, fp_7_23, fp_7_24, iz_0_1, iz_0_2, iz_1_8, iz_1_9, iz_1_11, iz_2_1, iz_2_2, iz_2_3, iz_3_1, iz_4_1, iz_4_2, iz_5_0, iz_6_8, iz_6_9, iz_6_13, iz_6_14, iz_6_15, iz_7_2, iz_7_6, iz_7_12, iz_7_20, iz_7_21, iz_7_23, iz_7_24, ak_8, ak_9, ak_10, ak_11, ak_12, ak_13, ak_14, ak_15, ak_16, ak_17, ak_18, ak_19, ak_20, ak_21, ak_22, ak_23, ak_24, ak_25, ak_26, ak_27, ak_28, ak_29, ak_30, ak_31, ak_32, ak_33, ak_34, ak_35, ak_36, ak_37, ak_38, ak_39, ak_40, ak_41, ak_42, ak_43, ak_44, ak_45, ak_46, ak_47, ak_48, ak_49, ak_50, ak_51, ak_52, ak_53, ak_54, ak_55, ak_56, el31, el33, el34, CX7_layStays, ca_X7_layStays, frX7, kcX7, klX7, T_X7_operationAt2, T_X7_endOf2, up_ap, false_and, and_false, if_false, if_true, ite_true, ite_false, exists_eq_right_right, exists_eq_right, exists_eq_left, Nat.lt_irrefl, and_self, implies_true, forall_const]
        obtain ⟨⟨p0, p1, p2⟩, h⟩ := h
        exact LSi_0 p0.1 p1 p2
    · exact h.elim
