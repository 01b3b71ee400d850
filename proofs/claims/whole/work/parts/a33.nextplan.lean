/-! the reference's nextPlan -/
def pRw (r n : Int) (t a : Nat) (x : Int) : Prop := t = 38 ∧ a = 0 ∧ r ≤ x ∧ x < r + n
def vR (σ : Mem) (r k : Int) : Int := σ 38 0 (r + k)
def NXa (n : Int) (v : Int → Int) (a b : Int) : Prop := 0 ≤ a ∧ a < n - 1 ∧ v a ≤ v (a + 1) ∧ (∀ k, a + 1 ≤ k → k < n - 1 → v (k + 1) < v k) ∧ a < b ∧ b < n ∧ v a ≤ v b ∧ (∀ k, b < k → k < n → v k < v a)
/-- the last b places of it are less -/
def NXb (n : Int) (v : Int → Int) (a b : Int) : Prop := 0 ≤ a ∧ a < n - 1 ∧ v a ≤ v (a + 1) ∧ (∀ k, a + 1 ≤ k → k < n - 1 → v (k + 1) < v k) ∧ a < b ∧ b < n ∧ (∀ k, b < k → k < n → v k < v a)
def NXi (σ σ' : Mem) (r n a b lo hi : Int) : Prop := FrG (pRw r n) σ σ' ∧ NXa n (vR σ r) a b ∧ ((lo = a + 1 ∧ hi = n - 1 ∧ ∀ k, 0 ≤ k → k < n → vR σ' r k = if k = a then vR σ r b else if k = b then vR σ r a else vR σ r k) ∨ (lo = a + 2 ∧ hi = n - 2 ∧ NXr n (vR σ r) (vR σ' r) a b))
theorem vR_u {σ : Mem} {r x v k : Int} : vR (up σ 38 0 (r + x) v) r k = if k = x then v else vR σ r k := by
  unfold vR
  rw [up_ap]
  by_cases c : k = x
  · rw [if_pos c, if_pos ⟨rfl, rfl, by omega⟩]
  · rw [if_neg c, if_neg (fun q => c (by omega))]
theorem NXi_0 {σ σ2 : Mem} {r n a b : Int} (h : NXa n (vR σ r) a b) (h2 : σ2 = up (up σ 38 0 (r + a) (σ 38 0 (r + b))) 38 0 (r + b) (σ 38 0 (r + a))) : NXi σ σ2 r n a b (a + 1) (n - 1) := by
  have a0 := h.1
  have a1 := h.2.1
  have b0 := h.2.2.2.2.1
  have b1 := h.2.2.2.2.2.1
  subst h2
  refine ⟨(FrG.r.u ⟨rfl, rfl, by omega, by omega⟩).u ⟨rfl, rfl, by omega, by omega⟩, h, Or.inl ⟨rfl, rfl, fun k k0 k1 => ?_⟩⟩
  rw [vR_u, vR_u]
  by_cases c : k = a
  · rw [if_neg (show ¬ k = b by omega), if_pos c, if_pos c]
    rfl
  · rw [if_neg c, if_neg c]
    by_cases d : k = b
    · rw [if_pos d, if_pos d]
      rfl
    · rw [if_neg d, if_neg d]
theorem NXi_s {σ σ' σ2 : Mem} {r n a b lo hi : Int} (n4 : n ≤ 4) (h : NXi σ σ' r n a b lo hi) (hl : lo < hi) (h2 : σ2 = up (up σ' 38 0 (r + lo) (σ' 38 0 (r + hi))) 38 0 (r + hi) (σ' 38 0 (r + lo))) : NXi σ σ2 r n a b (lo + 1) (hi - 1) := by
  obtain ⟨h1, hx, h3⟩ := h
  have a0 := hx.1
  have a1 := hx.2.1
  rcases h3 with ⟨e1, e2, hw⟩ | ⟨e1, e2, -⟩
  · subst e1; subst e2; subst h2
    have hl := hw (n - 1) (by omega) (by omega)
    have hh := hw (a + 1) (by omega) (by omega)
    refine ⟨(h1.u ⟨rfl, rfl, by omega, by omega⟩).u ⟨rfl, rfl, by omega, by omega⟩, hx, Or.inr ⟨by omega, by omega, hx, fun k k0 k1 => ?_⟩⟩
    rw [vR_u, vR_u]
    by_cases c : k < a
    · rw [if_pos c, if_neg (by omega), if_neg (by omega), hw k k0 k1, if_neg (by omega), if_neg (by have := hx.2.2.2.2.1; omega)]
    · rw [if_neg c]
      by_cases d : k = a
      · rw [if_pos d, if_neg (by omega), if_neg (by omega), hw k k0 k1, if_pos d]
      · rw [if_neg d]
        by_cases e : k = n - 1
        · rw [if_pos e]
          have : σ' 38 0 (r + (a + 1)) = vR σ' r (a + 1) := rfl
          rw [this, hh, if_neg (by omega), show a + n - k = a + 1 by omega]
        · rw [if_neg e]
          by_cases g : k = a + 1
          · rw [if_pos g]
            have : σ' 38 0 (r + (n - 1)) = vR σ' r (n - 1) := rfl
            rw [this, hl, if_neg (by omega), show a + n - k = n - 1 by omega]
          · rw [if_neg g, hw k k0 k1, if_neg d, show a + n - k = k by omega]
  · omega
theorem NXi_end {σ σ' : Mem} {r n a b lo hi : Int} (h : NXi σ σ' r n a b lo hi) (hl : hi ≤ lo) : FrG (pRw r n) σ σ' ∧ NXr n (vR σ r) (vR σ' r) a b := by
  obtain ⟨h1, hx, h3⟩ := h
  refine ⟨h1, ?_⟩
  have a0 := hx.1
  have a1 := hx.2.1
  rcases h3 with ⟨e1, e2, hw⟩ | ⟨e1, e2, h⟩
  · refine ⟨hx, fun k k0 k1 => ?_⟩
    rw [hw k k0 k1]
    by_cases c : k < a
    · rw [if_pos c, if_neg (by omega), if_neg (by have := hx.2.2.2.2.1; omega)]
    · rw [if_neg c]
      by_cases d : k = a
      · rw [if_pos d, if_pos d]
      · rw [if_neg d, if_neg d, show a + n - k = k by omega]
  · exact h
def ca_X7_nextPlan : Nat → Option (Nat × Nat × Tr) := fun _ => none
theorem cao_X7_nextPlan (l : Launch) : ∀ k n' ci T', ca_X7_nextPlan k = some (n', ci, T') → ∃ nn, nn + 1 ≤ 0 ∧ Site l yX7_nextPlan.cls k n' ci nn T' := by
  intro k n' ci T' h
  cases h
def T_X7_nextPlan : Tr := fun a σ K => match a with
  | [.inr (.inl (7, 0)), .inl r, .inl f, .inl n] => (49 ≤ r ∧ r ≤ 61 ∧ 0 ≤ f ∧ f ≤ n ∧ n ≤ 4) ∧ ((∀ k, f ≤ k → k < n - 1 → vR σ r (k + 1) < vR σ r k) → K (some 0) σ) ∧ (∀ σ' a b, f ≤ a → FrG (pRw r n) σ σ' → NXr n (vR σ r) (vR σ' r) a b → K (some 1) σ')
  | _ => False
set_option maxHeartbeats 8000000 in
set_option maxRecDepth 20000 in
theorem k_X7_nextPlan (l : Launch) : Ct l yX7_nextPlan cX7_nextPlan 9 (some .boolean) 0 T_X7_nextPlan := by
  refine mk_met (by decide +kernel) hCX7_nextPlan lCX7_nextPlan frX7_ok cstX7_ok (cao_X7_nextPlan l) ?_ ?_
  · intro a σ K h
    unfold T_X7_nextPlan at h
    split at h
    · simp [eL]
    · exact h.elim
  · intro a σ K ha hR h
    unfold T_X7_nextPlan at h
    split at h
    · rename_i r f n
      refine ⟨fun pc => if pc = 5 then some (fun L S σ' k => match L, S with | [some (.inr (.inl c1)), some (.inl r'), some (.inl f'), some (.inl n'), some (.inl a), _, _, _, _], [] => (c1 = (7, 0) ∧ r' = r ∧ f' = f ∧ n' = n ∧ f - 2 ≤ a ∧ a ≤ n - 2 ∧ (∀ k, a + 1 ≤ k → k < n - 1 → vR σ r (k + 1) < vR σ r k) ∧ σ' = σ) ∧ k = (1000 + a).toNat | _, _ => False) else if pc = 53 then some (fun L S σ' k => match L, S with | [some (.inr (.inl c1)), some (.inl r'), some (.inl f'), some (.inl n'), some (.inl a), some (.inl b), _, _, _], [] => (c1 = (7, 0) ∧ r' = r ∧ f' = f ∧ n' = n ∧ f ≤ a ∧ NXb n (vR σ r) a b ∧ σ' = σ) ∧ k = (500 + b).toNat | _, _ => False) else if pc = 131 then some (fun L S σ' k => match L, S with | [some (.inr (.inl c1)), some (.inl r'), some (.inl f'), some (.inl n'), some (.inl a), some (.inl b), _, some (.inl lo), some (.inl hi')], [] => (c1 = (7, 0) ∧ r' = r ∧ f' = f ∧ n' = n ∧ f ≤ a ∧ NXi σ σ' r n a b lo hi') ∧ k = (100 - lo).toNat | _, _ => False) else none, 200, ?_, ?_⟩
      · intro pc I L S σ' k hcut hi
        dsimp only at hcut
        split at hcut
        · rename_i hpc
          subst hpc
          cases hcut
          try dsimp only at hi
          split at hi
          · rename_i c1 r' f' n' a x1 x2 x3 x4
            obtain ⟨hi, rfl⟩ := hi
            obtain ⟨rfl, rfl, rfl, rfl, h0, h1, hI, rfl⟩ := hi
            obtain ⟨⟨p1, p2, p3, p4, p5⟩, hN, hT⟩ := h
            simp only [wp, stp, drp, entL, eL, lget, lset, okst, cnd, swt, rcv, Kr_int, Kr_bool, Kr_void, List.length_cons, List.length_nil, List.replicate, List.append_nil, List.cons_append, List.nil_append, List.take_succ_cons, List.take_zero, List.drop_succ_cons, List.drop_zero, List.reverse_cons, List.reverse_nil, Option.map_some, Option.map_none, Option.toList_some, Option.toList_none, Nat.reduceAdd, Nat.reduceSub, Nat.reduceLT, Nat.reduceLeDiff, Nat.reduceEqDiff, ↓reduceIte, Nat.add_zero, Nat.zero_add, true_and, and_true, Nat.le_refl, reduceCtorEq, false_implies, true_implies, not_true_eq_false, not_false_eq_true, Int.reduceAdd, Int.reduceSub, Int.reduceMul, Int.reduceLE, Int.reduceLT, Int.reduceEq, Int.reduceNe, Int.reduceNeg, Int.reduceDiv, Int.reduceMod, Bool.false_eq_true, Int.le_refl, and_self, true_or, or_true, inR_l, fv0, fv1, fv2, fv3, nc2, nc4, nc6, nc16, nc25, nc60, nc65, nc80, nc130, nc384, nc390, fp_0_0, fp_0_1, fp_0_2, fp_1_0, fp_1_1, fp_1_2, fp_1_3, fp_1_4, fp_1_5, fp_1_6, fp_1_7, fp_1_8, fp_1_9, fp_1_10, fp_1_11, fp_1_12, fp_1_13, fp_1_14, fp_2_0, fp_2_1, fp_2_2, fp_2_3, fp_3_0, fp_3_1, fp_4_0, fp_4_1, fp_4_2, fp_4_3, fp_4_4, fp_4_5, fp_4_6, fp_4_7, fp_5_0, fp_5_1, fp_5_2, fp_5_3, fp_5_4, fp_5_5, fp_5_6, fp_5_7, fp_6_0, fp_6_1, fp_6_2, fp_6_3, fp_6_4, fp_6_5, fp_6_6, fp_6_7, fp_6_8, fp_6_9, fp_6_10, fp_6_11, fp_6_12, fp_6_13, fp_6_14, fp_6_15, fp_7_0, fp_7_1, fp_7_2, fp_7_3, fp_7_4, fp_7_5, fp_7_6, fp_7_7, fp_7_8, fp_7_9, fp_7_10, fp_7_11, fp_7_12, fp_7_13, fp_7_14, fp_7_15, fp_7_16, fp_7_17, fp_7_18, fp_7_19, fp_7_20, fp_7_21, fp_7_22, fp_7_23, fp_7_24, iz_0_1, iz_0_2, iz_1_8, iz_1_9, iz_1_11, iz_2_1, iz_2_2, iz_2_3, iz_3_1, iz_4_1, iz_4_2, iz_5_0, iz_6_8, iz_6_9, iz_6_13, iz_6_14, iz_6_15, iz_7_2, iz_7_6, iz_7_12, iz_7_20, iz_7_21, iz_7_23, iz_7_24, ak_8, ak_9, ak_10, ak_11, ak_12, ak_13, ak_14, ak_15, ak_16, ak_17, ak_18, ak_19, ak_20, ak_21, ak_22, ak_23, ak_24, ak_25, ak_26, ak_27, ak_28, ak_29, ak_30, ak_31, ak_32, ak_33, ak_34, ak_35, ak_36, ak_37, ak_38, ak_39, ak_40, ak_41, ak_42, ak_43, ak_44, ak_45, ak_46, ak_47, ak_48, ak_49, ak_50, ak_51, ak_52, ak_53, ak_54, ak_55, ak_56, el31, el33, el34, CX7_nextPlan, ca_X7_nextPlan, frX7, kcX7, klX7, xT_up, xL_20, xL_21, exists_eq_right_right, exists_eq_right, exists_eq_left, Nat.lt_irrefl, and_self, implies_true, forall_const]
            refine ⟨fun c => ⟨fun d => by omega, fun _ => hN (fun k k0 k1 => hI k (by omega) k1)⟩, fun c => ⟨by simp only [inR]; omega, by omega, by simp only [inR]; omega, by simp only [inR]; omega, by omega, fun d => ⟨fun e => ⟨by simp only [inR]; omega, by omega, e, by omega, by omega, ?_, hI, by omega, by omega, fun k k0 k1 => by omega⟩, fun e => by omega⟩, fun d => ⟨by simp only [inR]; omega, by omega, by omega, by omega, fun k k0 k1 => ?_⟩⟩⟩
            · unfold vR
              rw [show r' + (a + 1) = r' + a + 1 by omega]
              exact d
            · by_cases e : k = a
              · subst e
                unfold vR
                rw [show r' + (k + 1) = r' + k + 1 by omega]
                omega
              · exact hI k (by omega) k1
          · exact hi.elim
        · split at hcut
          · rename_i hpc
            subst hpc
            cases hcut
            try dsimp only at hi
            split at hi
            · rename_i c1 r' f' n' a b x2 x3 x4
              obtain ⟨hi, rfl⟩ := hi
              obtain ⟨rfl, rfl, rfl, rfl, h0, hI, rfl⟩ := hi
              obtain ⟨⟨p1, p2, p3, p4, p5⟩, hN, hT⟩ := h
              simp only [wp, stp, drp, entL, eL, lget, lset, okst, cnd, swt, rcv, Kr_int, Kr_bool, Kr_void, List.length_cons, List.length_nil, List.replicate, List.append_nil, List.cons_append, List.nil_append, List.take_succ_cons, List.take_zero, List.drop_succ_cons, List.drop_zero, List.reverse_cons, List.reverse_nil, Option.map_some, Option.map_none, Option.toList_some, Option.toList_none, Nat.reduceAdd, Nat.reduceSub, Nat.reduceLT, Nat.reduceLeDiff, Nat.reduceEqDiff, ↓reduceIte, Nat.add_zero, Nat.zero_add, true_and, and_true, Nat.le_refl, reduceCtorEq, false_implies, true_implies, not_true_eq_false, not_false_eq_true, Int.reduceAdd, Int.reduceSub, Int.reduceMul, Int.reduceLE, Int.reduceLT, Int.reduceEq, Int.reduceNe, Int.reduceNeg, Int.reduceDiv, Int.reduceMod, Bool.false_eq_true, Int.le_refl, and_self, true_or, or_true, inR_l, fv0, fv1, fv2, fv3, nc2, nc4, nc6, nc16, nc25, nc60, nc65, nc80, nc130, nc384, nc390, fp_0_0, fp_0_1, fp_0_2, fp_1_0, fp_1_1, fp_1_2, fp_1_3, fp_1_4, fp_1_5, fp_1_6, fp_1_7, fp_1_8, fp_1_9, fp_1_10, fp_1_11, fp_1_12, fp_1_13, fp_1_14, fp_2_0, fp_2_1, fp_2_2, fp_2_3, fp_3_0, fp_3_1, fp_4_0, fp_4_1, fp_4_2, fp_4_3, fp_4_4, fp_4_5, fp_4_6, fp_4_7, fp_5_0, fp_5_1, fp_5_2, fp_5_3, fp_5_4, fp_5_5, fp_5_6, fp_5_7, fp_6_0, fp_6_1, fp_6_2, fp_6_3, fp_6_4, fp_6_5, fp_6_6, fp_6_7, fp_6_8, fp_6_9, fp_6_10, fp_6_11, fp_6_12, fp_6_13, fp_6_14, fp_6_15, fp_7_0, fp_7_1, fp_7_2, fp_7_3, fp_7_4, fp_7_5, fp_7_6, fp_7_7, fp_7_8, fp_7_9, fp_7_10, fp_7_11, fp_7_12, fp_7_13, fp_7_14, fp_7_15, fp_7_16, fp_7_17, fp_7_18, fp_7_19, fp_7_20, fp_7_21, fp_7_22, fp_7_23, fp_7_24, iz_0_1, iz_0_2, iz_1_8, iz_1_9, iz_1_11, iz_2_1, iz_2_2, iz_2_3, iz_3_1, iz_4_1, iz_4_2, iz_5_0, iz_6_8, iz_6_9, iz_6_13, iz_6_14, iz_6_15, iz_7_2, iz_7_6, iz_7_12, iz_7_20, iz_7_21, iz_7_23, iz_7_24, ak_8, ak_9, ak_10, ak_11, ak_12, ak_13, ak_14, ak_15, ak_16, ak_17, ak_18, ak_19, ak_20, ak_21, ak_22, ak_23, ak_24, ak_25, ak_26, ak_27, ak_28, ak_29, ak_30, ak_31, ak_32, ak_33, ak_34, ak_35, ak_36, ak_37, ak_38, ak_39, ak_40, ak_41, ak_42, ak_43, ak_44, ak_45, ak_46, ak_47, ak_48, ak_49, ak_50, ak_51, ak_52, ak_53, ak_54, ak_55, ak_56, el31, el33, el34, CX7_nextPlan, ca_X7_nextPlan, frX7, kcX7, klX7, xT_up, xL_20, xL_21, exists_eq_right_right, exists_eq_right, exists_eq_left, Nat.lt_irrefl, and_self, implies_true, forall_const]
              have V : ∀ k, vR σ' r' k = σ' 38 0 (r' + k) := fun _ => rfl
              obtain ⟨a0, a1, a2, a3, b0, b1, b2⟩ := hI
              rw [← V, ← V]
              refine ⟨by simp only [inR]; omega, by omega, by simp only [inR]; omega, by omega, fun d => ⟨by simp only [inR]; omega, by omega, by simp only [inR]; omega, by simp only [inR]; omega, by omega, by omega, by simp only [inR]; omega, by omega, by simp only [inR]; omega, by simp only [inR]; omega, by omega, h0, NXi_0 ⟨a0, a1, a2, a3, b0, b1, d, b2⟩ rfl⟩, fun d => ⟨by simp only [inR]; omega, by omega, h0, a0, a1, a2, a3, ?_, by omega, fun k k0 k1 => ?_⟩⟩
              · rcases (show b = a + 1 ∨ a + 1 < b by omega) with e | e
                · rw [e] at d
                  omega
                · omega
              · by_cases e : k = b
                · rw [e]
                  omega
                · exact b2 k (by omega) k1
            · exact hi.elim
          · split at hcut
            · rename_i hpc
              subst hpc
              cases hcut
              try dsimp only at hi
              split at hi
              · rename_i c1 r' f' n' a b x2 lo hi'
                obtain ⟨hi, rfl⟩ := hi
                obtain ⟨rfl, rfl, rfl, rfl, h0, hI⟩ := hi
                obtain ⟨⟨p1, p2, p3, p4, p5⟩, hN, hT⟩ := h
                simp only [wp, stp, drp, entL, eL, lget, lset, okst, cnd, swt, rcv, Kr_int, Kr_bool, Kr_void, List.length_cons, List.length_nil, List.replicate, List.append_nil, List.cons_append, List.nil_append, List.take_succ_cons, List.take_zero, List.drop_succ_cons, List.drop_zero, List.reverse_cons, List.reverse_nil, Option.map_some, Option.map_none, Option.toList_some, Option.toList_none, Nat.reduceAdd, Nat.reduceSub, Nat.reduceLT, Nat.reduceLeDiff, Nat.reduceEqDiff, ↓reduceIte, Nat.add_zero, Nat.zero_add, true_and, and_true, Nat.le_refl, reduceCtorEq, false_implies, true_implies, not_true_eq_false, not_false_eq_true, Int.reduceAdd, Int.reduceSub, Int.reduceMul, Int.reduceLE, Int.reduceLT, Int.reduceEq, Int.reduceNe, Int.reduceNeg, Int.reduceDiv, Int.reduceMod, Bool.false_eq_true, Int.le_refl, and_self, true_or, or_true, inR_l, fv0, fv1, fv2, fv3, nc2, nc4, nc6, nc16, nc25, nc60, nc65, nc80, nc130, nc384, nc390, fp_0_0, fp_0_1, fp_0_2, fp_1_0, fp_1_1, fp_1_2, fp_1_3, fp_1_4, fp_1_5, fp_1_6, fp_1_7, fp_1_8, fp_1_9, fp_1_10, fp_1_11, fp_1_12, fp_1_13, fp_1_14, fp_2_0, fp_2_1, fp_2_2, fp_2_3, fp_3_0, fp_3_1, fp_4_0, fp_4_1, fp_4_2, fp_4_3, fp_4_4, fp_4_5, fp_4_6, fp_4_7, fp_5_0, fp_5_1, fp_5_2, fp_5_3, fp_5_4, fp_5_5, fp_5_6, fp_5_7, fp_6_0, fp_6_1, fp_6_2, fp_6_3, fp_6_4, fp_6_5, fp_6_6, fp_6_7, fp_6_8, fp_6_9, fp_6_10, fp_6_11, fp_6_12, fp_6_13, fp_6_14, fp_6_15, fp_7_0, fp_7_1, fp_7_2, fp_7_3, fp_7_4, fp_7_5, fp_7_6, fp_7_7, fp_7_8, fp_7_9, fp_7_10, fp_7_11, fp_7_12, fp_7_13, fp_7_14, fp_7_15, fp_7_16, fp_7_17, fp_7_18, fp_7_19, fp_7_20, fp_7_21, fp_7_22, fp_7_23, fp_7_24, iz_0_1, iz_0_2, iz_1_8, iz_1_9, iz_1_11, iz_2_1, iz_2_2, iz_2_3, iz_3_1, iz_4_1, iz_4_2, iz_5_0, iz_6_8, iz_6_9, iz_6_13, iz_6_14, iz_6_15, iz_7_2, iz_7_6, iz_7_12, iz_7_20, iz_7_21, iz_7_23, iz_7_24, ak_8, ak_9, ak_10, ak_11, ak_12, ak_13, ak_14, ak_15, ak_16, ak_17, ak_18, ak_19, ak_20, ak_21, ak_22, ak_23, ak_24, ak_25, ak_26, ak_27, ak_28, ak_29, ak_30, ak_31, ak_32, ak_33, ak_34, ak_35, ak_36, ak_37, ak_38, ak_39, ak_40, ak_41, ak_42, ak_43, ak_44, ak_45, ak_46, ak_47, ak_48, ak_49, ak_50, ak_51, ak_52, ak_53, ak_54, ak_55, ak_56, el31, el33, el34, CX7_nextPlan, ca_X7_nextPlan, frX7, kcX7, klX7, xT_up, xL_20, xL_21, exists_eq_right_right, exists_eq_right, exists_eq_left, Nat.lt_irrefl, and_self, implies_true, forall_const]
                have hx := hI.2.1
                have a0 := hx.1
                have a1 := hx.2.1
                refine ⟨fun c => hT σ' a b h0 (NXi_end hI c).1 (NXi_end hI c).2, fun c => ?_⟩
                have hl : lo = a + 1 ∧ hi' = n' - 1 := by
                  rcases hI.2.2 with q | q
                  · exact ⟨q.1, q.2.1⟩
                  · omega
                exact ⟨by simp only [inR]; omega, by omega, by simp only [inR]; omega, by simp only [inR]; omega, by omega, by omega, by simp only [inR]; omega, by omega, by simp only [inR]; omega, by simp only [inR]; omega, by omega, h0, NXi_s p5 hI (by omega) rfl⟩
              · exact hi.elim
            · cases hcut
      · simp only [wp, stp, drp, entL, eL, lget, lset, okst, cnd, swt, rcv, Kr_int, Kr_bool, Kr_void, List.length_cons, List.length_nil, List.replicate, List.append_nil, List.cons_append, List.nil_append, List.take_succ_cons, List.take_zero, List.drop_succ_cons, List.drop_zero, List.reverse_cons, List.reverse_nil, Option.map_some, Option.map_none, Option.toList_some, Option.toList_none, Nat.reduceAdd, Nat.reduceSub, Nat.reduceLT, Nat.reduceLeDiff, Nat.reduceEqDiff, ↓reduceIte, Nat.add_zero, Nat.zero_add, true_and, and_true, Nat.le_refl, reduceCtorEq, false_implies, true_implies, not_true_eq_false, not_false_eq_true, Int.reduceAdd, Int.reduceSub, Int.reduceMul, Int.reduceLE, Int.reduceLT, Int.reduceEq, Int.reduceNe, Int.reduceNeg, Int.reduceDiv, Int.reduceMod, Bool.false_eq_true, Int.le_refl, and_self, true_or, or_true, inR_l, fv0, fv1, fv2, fv3, nc2, nc4, nc6, nc16, nc25, nc60, nc65, nc80, nc130, nc384, nc390, fp_0_0, fp_0_1, fp_0_2, fp_1_0, fp_1_1, fp_1_2, fp_1_3, fp_1_4, fp_1_5, fp_1_6, fp_1_7, fp_1_8, fp_1_9, fp_1_10, fp_1_11, fp_1_12, fp_1_13, fp_1_14, fp_2_0, fp_2_1, fp_2_2, fp_2_3, fp_3_0, fp_3_1, fp_4_0, fp_4_1, fp_4_2, fp_4_3, fp_4_4, fp_4_5, fp_4_6, fp_4_7, fp_5_0, fp_5_1, fp_5_2, fp_5_3, fp_5_4, fp_5_5, fp_5_6, fp_5_7, fp_6_0, fp_6_1, fp_6_2, fp_6_3, fp_6_4, fp_6_5, fp_6_6, fp_6_7, fp_6_8, fp_6_9, fp_6_10, fp_6_11, fp_6_12, fp_6_13, fp_6_14, fp_6_15, fp_7_0, fp_7_1, fp_7_2, fp_7_3, fp_7_4, fp_7_5, fp_7_6, fp_7_7, fp_7_8, fp_7_9, fp_7_10, fp_7_11, fp_7_12, fp_7_13, fp_7_14, fp_7_15, fp_7_16, fp_7_17, fp_7_18, fp_7_19, fp_7_20, fp_7_21, fp_7_22, fp_7_23, fp_7_24, iz_0_1, iz_0_2, iz_1_8, iz_1_9, iz_1_11, iz_2_1, iz_2_2, iz_2_3, iz_3_1, iz_4_1, iz_4_2, iz_5_0, iz_6_8, iz_6_9, iz_6_13, iz_6_14, iz_6_15, iz_7_2, iz_7_6, iz_7_12, iz_7_20, iz_7_21, iz_7_23, iz_7_24, ak_8, ak_9, ak_10, ak_11, ak_12, ak_13, ak_14, ak_15, ak_16, ak_17, ak_18, ak_19, ak_20, ak_21, ak_22, ak_23, ak_24, ak_25, ak_26, ak_27, ak_28, ak_29, ak_30, ak_31, ak_32, ak_33, ak_34, ak_35, ak_36, ak_37, ak_38, ak_39, ak_40, ak_41, ak_42, ak_43, ak_44, ak_45, ak_46, ak_47, ak_48, ak_49, ak_50, ak_51, ak_52, ak_53, ak_54, ak_55, ak_56, el31, el33, el34, CX7_nextPlan, ca_X7_nextPlan, frX7, kcX7, klX7, xT_up, xL_20, xL_21, exists_eq_right_right, exists_eq_right, exists_eq_left, Nat.lt_irrefl, and_self, implies_true, forall_const]
        obtain ⟨⟨p1, p2, p3, p4, p5⟩, hN, hT⟩ := h
        exact ⟨by simp only [inR]; omega, by omega, fun k k0 k1 => by omega⟩
    · exact h.elim
