/-- the set u of operations has x -/
def fst1 (u x : Int) : Prop := band (bshr u x) 1 = 1
def T_X7_isSet2 : Tr := fun a σ K => match a with
  | [.inr (.inl (7, 0)), .inl u, .inl x] => (fst1 u x → K (some 1) σ) ∧ (¬ fst1 u x → K (some 0) σ)
  | _ => False
theorem m_X7_isSet2 : ∀ a σ K, T_X7_isSet2 a σ K → T_X7_isSet a σ K := by
  intro a σ K h
  unfold T_X7_isSet2 at h
  unfold T_X7_isSet
  split at h
  · rename_i u x
    show K (some (if band (bshr u x) 1 = 1 then 1 else 0)) σ
    by_cases z : fst1 u x
    · rw [if_pos (show band (bshr u x) 1 = 1 from z)]
      exact h.1 z
    · rw [if_neg (show ¬ band (bshr u x) 1 = 1 from z)]
      exact h.2 z
  · exact h.elim
/-- the greatest of a, b and of f over those below x with P -/
def MxO (a b : Int) (P : Int → Prop) (f : Int → Int) (x r : Int) : Prop := a ≤ r ∧ b ≤ r ∧ (∀ k, 0 ≤ k → k < x → P k → f k ≤ r) ∧ (r = a ∨ r = b ∨ ∃ k, 0 ≤ k ∧ k < x ∧ P k ∧ r = f k)
theorem MxO_0 {a b : Int} {P : Int → Prop} {f : Int → Int} : MxO a b P f 0 (if b < a then a else b) := by
  by_cases c : b < a
  · rw [if_pos c]
    exact ⟨by omega, by omega, fun k x y => by omega, Or.inl rfl⟩
  · rw [if_neg c]
    exact ⟨by omega, by omega, fun k x y => by omega, Or.inr (Or.inl rfl)⟩
theorem MxO_y {a b : Int} {P : Int → Prop} {f : Int → Int} {x r : Int} (h : MxO a b P f x r) (x0 : 0 ≤ x) (hp : P x) : MxO a b P f (x + 1) (if f x < r then r else f x) := by
  obtain ⟨h1, h2, h3, h4⟩ := h
  have hg : r ≤ (if f x < r then r else f x) ∧ f x ≤ (if f x < r then r else f x) ∧ ((if f x < r then r else f x) = r ∨ (if f x < r then r else f x) = f x) := by
    split
    · exact ⟨Int.le_refl _, by omega, Or.inl rfl⟩
    · exact ⟨by omega, Int.le_refl _, Or.inr rfl⟩
  generalize (if f x < r then r else f x) = r' at *
  refine ⟨by omega, by omega, fun k k0 k1 kp => ?_, ?_⟩
  · by_cases z : k = x
    · rw [z]; exact hg.2.1
    · have := h3 k k0 (by omega) kp
      omega
  · rcases hg.2.2 with z | z
    · rcases h4 with q | q | ⟨k, k0, k1, k2, k3⟩
      · exact Or.inl (by omega)
      · exact Or.inr (Or.inl (by omega))
      · exact Or.inr (Or.inr ⟨k, k0, by omega, k2, by omega⟩)
    · exact Or.inr (Or.inr ⟨x, x0, by omega, hp, z⟩)
theorem MxO_n {a b : Int} {P : Int → Prop} {f : Int → Int} {x r : Int} (h : MxO a b P f x r) (hp : ¬ P x) : MxO a b P f (x + 1) r := by
  obtain ⟨h1, h2, h3, h4⟩ := h
  refine ⟨h1, h2, fun k k0 k1 kp => ?_, ?_⟩
  · by_cases z : k = x
    · rw [z] at kp; exact absurd kp hp
    · exact h3 k k0 (by omega) kp
  · rcases h4 with q | q | ⟨k, k0, k1, k2, k3⟩
    · exact Or.inl q
    · exact Or.inr (Or.inl q)
    · exact Or.inr (Or.inr ⟨k, k0, by omega, k2, k3⟩)
/-- what forced says is well: only operations are in the sets, heads and tails keep their bounds -/
def fOK (σ : Mem) : Prop := rBd σ ∧ ∀ o k, 0 ≤ o → o < 16 → 0 ≤ k → k < 16 → fst1 (σ 54 0 o) k → rOp σ o ∧ rOp σ k
def eF (σ : Mem) (k : Int) : Int := σ 45 0 k + rDu σ k
def wTF (σ : Mem) (k : Int) : Int := rDu σ k + σ 46 0 k
def bRt (σ : Mem) (o : Int) : Int := if o % 4 = 0 then 0 else eF σ (o - 1)
def aRt (σ : Mem) (o : Int) : Int := if o % 4 + 1 < rSt σ (o / 4) then wTF σ (o + 1) else 0
theorem eF_r {σ : Mem} (h : fOK σ) {k : Int} (v : rOp σ k) : 0 ≤ eF σ k ∧ eF σ k ≤ 10020 ∧ 0 ≤ wTF σ k ∧ wTF σ k ≤ 12020 := by
  have a := h.1.2 k v
  have b := rWF_op h.1.1 v
  unfold eF wTF
  omega
theorem k_X7_isSet2 (l : Launch) : Ct l yX7_isSet cX7_isSet 3 (some .boolean) 0 T_X7_isSet2 := Ct_mono (k_X7_isSet l) m_X7_isSet2
def ca_X7_headBy : Nat → Option (Nat × Nat × Tr)
  | 69 => some (3, 7, T_X7_ofAJob)
  | 111 => some (2, 7, T_X7_beforeOnRoute)
  | 114 => some (2, 7, T_X7_endOf)
  | 108 => some (2, 99, T_X7_greater)
  | 239 => some (3, 7, T_X7_isSet2)
  | _ => none
theorem cao_X7_headBy (l : Launch) : ∀ k n' ci T', ca_X7_headBy k = some (n', ci, T') → ∃ nn, nn + 1 ≤ 2 ∧ Site l yX7_headBy.cls k n' ci nn T' := by
  intro k n' ci T' h
  unfold ca_X7_headBy at h
  split at h
  · cases h; exact ⟨0, by decide, _, _, _, _, k_X7_ofAJob l, Or.inl ⟨_, rfl, FX7_ofAJob, KRX7_69⟩⟩
  · cases h; exact ⟨0, by decide, _, _, _, _, k_X7_beforeOnRoute l, Or.inl ⟨_, rfl, FX7_beforeOnRoute, KRX7_111⟩⟩
  · cases h; exact ⟨1, by decide, _, _, _, _, k_X7_endOf l, Or.inl ⟨_, rfl, FX7_endOf, KRX7_114⟩⟩
  · cases h; exact ⟨0, by decide, _, _, _, _, k_X7_greater l, Or.inr ⟨rfl, FX7_greater, Or.inl ⟨rfl, KRX7_108⟩⟩⟩
  · cases h; exact ⟨0, by decide, _, _, _, _, k_X7_isSet2 l, Or.inl ⟨_, rfl, FX7_isSet, KRX7_239⟩⟩
  · cases h
def T_X7_headBy : Tr := fun a σ K => match a with
  | [.inr (.inl (7, 0)), .inl o] => (fOK σ ∧ rOp σ o) ∧ ∀ r, MxO (rRe σ (o / 4)) (bRt σ o) (fst1 (σ 54 0 o)) (eF σ) 16 r → K (some r) σ
  | _ => False
set_option maxHeartbeats 8000000 in
set_option maxRecDepth 20000 in
theorem k_X7_headBy (l : Launch) : Ct l yX7_headBy cX7_headBy 4 (some .int) 2 T_X7_headBy := by
  refine mk_met (by decide +kernel) hCX7_headBy lCX7_headBy frX7_ok cstX7_ok (cao_X7_headBy l) ?_ ?_
  · intro a σ K h
    unfold T_X7_headBy at h
    split at h
    · simp [eL]
    · exact h.elim
  · intro a σ K ha hR h
    unfold T_X7_headBy at h
    split at h
    · rename_i o
      refine ⟨fun pc => if pc = 23 then some (fun L S σ' k => match L, S with | [some (.inr (.inl c1)), some (.inl o'), some (.inl r), some (.inl x)], [] => (c1 = (7, 0) ∧ o' = o ∧ 0 ≤ x ∧ x ≤ 16 ∧ MxO (rRe σ (o / 4)) (bRt σ o) (fst1 (σ 54 0 o)) (eF σ) x r ∧ σ' = σ) ∧ k = (20 - x).toNat | _, _ => False) else none, 200, ?_, ?_⟩
      · intro pc I L S σ' k hcut hi
        dsimp only at hcut
        split at hcut
        · rename_i hpc
          subst hpc
          cases hcut
          try dsimp only at hi
          split at hi
          · rename_i c1 o' r x
            obtain ⟨hi, rfl⟩ := hi
            obtain ⟨rfl, rfl, h0, h1, hI, rfl⟩ := hi
            obtain ⟨⟨p0, p1⟩, h⟩ := h
            simp only [wp, stp, drp, entL, eL, lget, lset, okst, cnd, swt, rcv, Kr_int, Kr_bool, Kr_void, List.length_cons, List.length_nil, List.replicate, List.append_nil, List.cons_append, List.nil_append, List.take_succ_cons, List.take_zero, List.drop_succ_cons, List.drop_zero, List.reverse_cons, List.reverse_nil, Option.map_some, Option.map_none, Option.toList_some, Option.toList_none, Nat.reduceAdd, Nat.reduceSub, Nat.reduceLT, Nat.reduceLeDiff, Nat.reduceEqDiff, ↓reduceIte, Nat.add_zero, Nat.zero_add, true_and, and_true, Nat.le_refl, reduceCtorEq, false_implies, true_implies, not_true_eq_false, not_false_eq_true, Int.reduceAdd, Int.reduceSub, Int.reduceMul, Int.reduceLE, Int.reduceLT, Int.reduceEq, Int.reduceNe, Int.reduceNeg, Int.reduceDiv, Int.reduceMod, Bool.false_eq_true, Int.le_refl, and_self, true_or, or_true, inR_l, fv0, fv1, fv2, fv3, nc2, nc4, nc6, nc16, nc25, nc60, nc65, nc80, nc130, nc384, nc390, fp_0_0, fp_0_1, fp_0_2, fp_1_0, fp_1_1, fp_1_2, fp_1_3, fp_1_4, fp_1_5, fp_1_6, fp_1_7, fp_1_8, fp_1_9, fp_1_10, fp_1_11, fp_1_12, fp_1_13, fp_1_14, fp_2_0, fp_2_1, fp_2_2, fp_2_3, fp_3_0, fp_3_1, fp_4_0, fp_4_1, fp_4_2, fp_4_3, fp_4_4, fp_4_5, fp_4_6, fp_4_7, fp_5_0, fp_5_1, fp_5_2, fp_5_3, fp_5_4, fp_5_5, fp_5_6, fp_5_7, fp_6_0, fp_6_1, fp_6_2, fp_6_3, fp_6_4, fp_6_5, fp_6_6, fp_6_7, fp_6_8, fp_6_9, fp_6_10, fp_6_11, fp_6_12, fp_6_13, fp_6_14, fp_6_15, fp_7_0, fp_7_1, fp_7_2, fp_7_3, fp_7_4, fp_7_5, fp_7_6, fp_7_7, fp_7_8, fp_7_9, fp_7_10, fp_7_11, fp_7_12, fp_7_13, fp_7_14, fp_7_15, fp_7_16, fp_7_17, fp_7_18, fp_7_19, fp_7_20, fp_7_21, fp_7_22, fp_7_23, fp_7_24, iz_0_1, iz_0_2, iz_1_8, iz_1_9, iz_1_11, iz_2_1, iz_2_2, iz_2_3, iz_3_1, iz_4_1, iz_4_2, iz_5_0, iz_6_8, iz_6_9, iz_6_13, iz_6_14, iz_6_15, iz_7_2, iz_7_6, iz_7_12, iz_7_20, iz_7_21, iz_7_23, iz_7_24, ak_8, ak_9, ak_10, ak_11, ak_12, ak_13, ak_14, ak_15, ak_16, ak_17, ak_18, ak_19, ak_20, ak_21, ak_22, ak_23, ak_24, ak_25, ak_26, ak_27, ak_28, ak_29, ak_30, ak_31, ak_32, ak_33, ak_34, ak_35, ak_36, ak_37, ak_38, ak_39, ak_40, ak_41, ak_42, ak_43, ak_44, ak_45, ak_46, ak_47, ak_48, ak_49, ak_50, ak_51, ak_52, ak_53, ak_54, ak_55, ak_56, el31, el33, el34, CX7_headBy, ca_X7_headBy, frX7, kcX7, klX7, T_X7_ofAJob, T_X7_beforeOnRoute, T_X7_endOf, T_X7_greater, T_X7_isSet2, up_ap, false_and, and_false, if_false, if_true, ite_true, ite_false, exists_eq_right_right, exists_eq_right, exists_eq_left, Nat.lt_irrefl, and_self, implies_true, forall_const]
            have ee : σ' 45 0 x + σ' 38 0 (14 + 2 * x) = eF σ' x := rfl
            rw [if_neg (show ¬ x < 0 by omega), ee]
            refine ⟨fun a => h _ (by rw [show (16 : Int) = x by omega]; exact hI), fun a => ⟨⟨p1.1, p1.2.1⟩, fun b => ?_, fun b => ⟨by simp only [inR]; omega, by omega, by omega, by omega, MxO_n hI b⟩⟩⟩
            have v := (p0.2 o' x p1.1 p1.2.1 h0 (by omega) b).2
            have hr := eF_r p0 v
            exact ⟨⟨by omega, fun _ => by simp only [inR]; omega⟩, by simp only [inR]; omega, by omega, by omega, by omega, MxO_y hI h0 b⟩
          · exact hi.elim
        · cases hcut
      · simp only [wp, stp, drp, entL, eL, lget, lset, okst, cnd, swt, rcv, Kr_int, Kr_bool, Kr_void, List.length_cons, List.length_nil, List.replicate, List.append_nil, List.cons_append, List.nil_append, List.take_succ_cons, List.take_zero, List.drop_succ_cons, List.drop_zero, List.reverse_cons, List.reverse_nil, Option.map_some, Option.map_none, Option.toList_some, Option.toList_none, Nat.reduceAdd, Nat.reduceSub, Nat.reduceLT, Nat.reduceLeDiff, Nat.reduceEqDiff, ↓reduceIte, Nat.add_zero, Nat.zero_add, true_and, and_true, Nat.le_refl, reduceCtorEq, false_implies, true_implies, not_true_eq_false, not_false_eq_true, Int.reduceAdd, Int.reduceSub, Int.reduceMul, Int.reduceLE, Int.reduceLT, Int.reduceEq, Int.reduceNe, Int.reduceNeg, Int.reduceDiv, Int.reduceMod, Bool.false_eq_true, Int.le_refl, and_self, true_or, or_true, inR_l, fv0, fv1, fv2, fv3, nc2, nc4, nc6, nc16, nc25, nc60, nc65, nc80, nc130, nc384, nc390, fp_0_0, fp_0_1, fp_0_2, fp_1_0, fp_1_1, fp_1_2, fp_1_3, fp_1_4, fp_1_5, fp_1_6, fp_1_7, fp_1_8, fp_1_9, fp_1_10, fp_1_11, fp_1_12, fp_1_13, fp_1_14, fp_2_0, fp_2_1, fp_2_2, fp_2_3, fp_3_0, fp_3_1, fp_4_0, fp_4_1, fp_4_2, fp_4_3, fp_4_4, fp_4_5, fp_4_6, fp_4_7, fp_5_0, fp_5_1, fp_5_2, fp_5_3, fp_5_4, fp_5_5, fp_5_6, fp_5_7, fp_6_0, fp_6_1, fp_6_2, fp_6_3, fp_6_4, fp_6_5, fp_6_6, fp_6_7, fp_6_8, fp_6_9, fp_6_10, fp_6_11, fp_6_12, fp_6_13, fp_6_14, fp_6_15, fp_7_0, fp_7_1, fp_7_2, fp_7_3, fp_7_4, fp_7_5, fp_7_6, fp_7_7, fp_7_8, fp_7_9, fp_7_10, fp_7_11, fp_7_12, fp_7_13, fp_7_14, fp_7_15, fp_7_16, fp_7_17, fp_7_18, fp_7_19, fp_7_20, fp_7_21, fp_7_22, fp_7_23, fp_7_24, iz_0_1, iz_0_2, iz_1_8, iz_1_9, iz_1_11, iz_2_1, iz_2_2, iz_2_3, iz_3_1, iz_4_1, iz_4_2, iz_5_0, iz_6_8, iz_6_9, iz_6_13, iz_6_14, iz_6_15, iz_7_2, iz_7_6, iz_7_12, iz_7_20, iz_7_21, iz_7_23, iz_7_24, ak_8, ak_9, ak_10, ak_11, ak_12, ak_13, ak_14, ak_15, ak_16, ak_17, ak_18, ak_19, ak_20, ak_21, ak_22, ak_23, ak_24, ak_25, ak_26, ak_27, ak_28, ak_29, ak_30, ak_31, ak_32, ak_33, ak_34, ak_35, ak_36, ak_37, ak_38, ak_39, ak_40, ak_41, ak_42, ak_43, ak_44, ak_45, ak_46, ak_47, ak_48, ak_49, ak_50, ak_51, ak_52, ak_53, ak_54, ak_55, ak_56, el31, el33, el34, CX7_headBy, ca_X7_headBy, frX7, kcX7, klX7, T_X7_ofAJob, T_X7_beforeOnRoute, T_X7_endOf, T_X7_greater, T_X7_isSet2, up_ap, false_and, and_false, if_false, if_true, ite_true, ite_false, exists_eq_right_right, exists_eq_right, exists_eq_left, Nat.lt_irrefl, and_self, implies_true, forall_const]
        obtain ⟨⟨p0, p1⟩, h⟩ := h
        have s0 := rOp_s p0.1.1 p1
        have er : σ 38 0 (1 + 3 * (o / 4) + 0) = rRe σ (o / 4) := by rw [Int.add_zero]; rfl
        have eb : (if (if o % 4 = 0 then -6 else o - 1) < 0 then 0 else σ 45 0 (if o % 4 = 0 then -6 else o - 1) + σ 38 0 (14 + 2 * if o % 4 = 0 then -6 else o - 1)) = bRt σ o := by
          unfold bRt
          by_cases c : o % 4 = 0
          · rw [if_pos c, if_pos c, if_pos (by omega)]
          · rw [if_neg c, if_neg c, if_neg (by omega)]
            rfl
        rw [er, eb]
        refine ⟨by omega, ⟨by omega, by omega⟩, ⟨by omega, by omega⟩, ⟨?_, fun z => ?_⟩, MxO_0⟩
        · split <;> omega
        · by_cases c : o % 4 = 0
          · rw [if_pos c] at z
            omega
          · rw [if_neg c]
            have v : rOp σ (o - 1) := ⟨by omega, by omega, by rw [show (o - 1) / 4 = o / 4 by omega]; omega⟩
            have hr := eF_r p0 v
            unfold eF rDu at hr
            simp only [inR]
            omega
    · exact h.elim
