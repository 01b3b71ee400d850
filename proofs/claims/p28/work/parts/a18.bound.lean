def T_X6_within2 : Tr := fun a σ K => match a with
  | [.inl v, .inl lo, .inl hi] => (lo ≤ v ∧ v ≤ hi → K (some 1) σ) ∧ (¬ (lo ≤ v ∧ v ≤ hi) → K (some 0) σ)
  | _ => False
theorem m_X6_within2 : ∀ a σ K, T_X6_within2 a σ K → T_X6_within a σ K := by
  intro a σ K h
  unfold T_X6_within2 at h
  unfold T_X6_within
  split at h
  · rename_i v lo hi
    show K (some (if lo ≤ v ∧ v ≤ hi then 1 else 0)) σ
    by_cases z : lo ≤ v ∧ v ≤ hi
    · rw [if_pos z]
      exact h.1 z
    · rw [if_neg z]
      exact h.2 z
  · exact h.elim
/-- what a call of bound answers -/
def bndS (st mc du re : Int → Int) (m B : Int) : Prop := (0 ≤ m ∧ mbd st mc du re m B) ∨ (m < 0 ∧ 0 ≤ B ∧ (∀ m', 0 ≤ m' → m' < 4 → ∃ B', mbd st mc du re m' B' ∧ B' ≤ B) ∧ (B = 0 ∨ ∃ m', 0 ≤ m' ∧ m' < 4 ∧ mbd st mc du re m' B))
theorem bndS_un {st mc du re : Int → Int} {m B B' : Int} (h : bndS st mc du re m B) (h' : bndS st mc du re m B') : B = B' := by
  rcases h with ⟨a, b⟩ | ⟨a, b, c, d⟩ <;> rcases h' with ⟨a', b'⟩ | ⟨a', b', c', d'⟩
  · exact JB_un b b'
  · omega
  · omega
  · have x : B ≤ B' := by
      rcases d with d | ⟨m', m0, m1, d⟩
      · omega
      · obtain ⟨z, z1, z2⟩ := c' m' m0 m1
        have := JB_un d z1
        omega
    have y : B' ≤ B := by
      rcases d' with d | ⟨m', m0, m1, d⟩
      · omega
      · obtain ⟨z, z1, z2⟩ := c m' m0 m1
        have := JB_un d z1
        omega
    omega
theorem noN {st mc ah : Int → Int} (h0 : ∀ o, vOp st o → ∀ k, 0 ≤ k → k < 4 → ¬ hasB (ah o) k) : ¬ NoSol st mc ah := by
  rintro ⟨U, ⟨o, u⟩, hv, hp⟩
  have key : ∀ n : Nat, ∀ o : Int, o < n → ¬ U o := by
    intro n
    induction n with
    | zero => intro o q u; have := (hv o u).1; omega
    | succ n ih =>
      intro o q u
      obtain ⟨o', u', p⟩ := hp o u
      rcases p with ⟨-, p⟩ | ⟨-, p⟩
      · exact ih o' (by omega) u'
      · exact h0 o (hv o u) _ (by have := (hv o' u').1; omega) (by have := (hv o' u').2.1; omega) p
  exact key 16 o (hv o u).2.1 u
def pB1 (t a : Nat) (x : Int) : Prop := pNt 1 t a x ∨ p26 1 t a x
/-- the reference's greatest bound of the first e machines -/
def RGB (σ σ' : Mem) (e g : Int) : Prop := FrG p53 σ σ' ∧ 0 ≤ e ∧ e ≤ 4 ∧ 0 ≤ g ∧ g ≤ 400 ∧ (∀ m, 0 ≤ m → m < e → ∃ B, mbd (rSt σ) (rMc σ) (rDu σ) (rRe σ) m B ∧ B ≤ g) ∧ (g = 0 ∨ ∃ m, 0 ≤ m ∧ m < 4 ∧ mbd (rSt σ) (rMc σ) (rDu σ) (rRe σ) m g)
theorem k_X6_within2 (l : Launch) : Ct l yX6_within cX6_within 3 (some .boolean) 0 T_X6_within2 := Ct_mono (k_X6_within l) m_X6_within2
def ca_X6_bound : Nat → Option (Nat × Nat × Tr)
  | 68 => some (3, 99, T_X6_within2)
  | 118 => some (2, 1, T_X1_load)
  | 198 => some (1, 1, T_X1_measure)
  | 201 => some (1, 1, T_X1_greatestBound)
  | 204 => some (2, 1, T_X1_boundOf)
  | _ => none
theorem cao_X6_bound (l : Launch) : ∀ k n' ci T', ca_X6_bound k = some (n', ci, T') → ∃ nn, nn + 1 ≤ 3 ∧ Site l yX6_bound.cls k n' ci nn T' := by
  intro k n' ci T' h
  unfold ca_X6_bound at h
  split at h
  · cases h; exact ⟨0, by decide, _, _, _, _, k_X6_within2 l, Or.inr ⟨rfl, FX6_within, Or.inl ⟨rfl, KRX6_68⟩⟩⟩
  · cases h; exact ⟨1, by decide, _, _, _, _, k_X1_load l, Or.inl ⟨_, rfl, FX1_load, KRX6_118⟩⟩
  · cases h; exact ⟨2, by decide, _, _, _, _, k_X1_measure l, Or.inl ⟨_, rfl, FX1_measure, KRX6_198⟩⟩
  · cases h; exact ⟨2, by decide, _, _, _, _, k_X1_greatestBound l, Or.inl ⟨_, rfl, FX1_greatestBound, KRX6_201⟩⟩
  · cases h; exact ⟨1, by decide, _, _, _, _, k_X1_boundOf l, Or.inl ⟨_, rfl, FX1_boundOf, KRX6_204⟩⟩
  · cases h
def T_X6_bound : Tr := fun a σ K => match a with
  | [.inr (.inl (6, 0)), .inl m] => sWF σ 0 ∧ (¬ (-1 ≤ m ∧ m ≤ 3) → K (some (-2)) σ) ∧ (-1 ≤ m ∧ m ≤ 3 → ∀ B σ', FrG pB1 σ σ' → bndS (σ 10 0) (σ 11 0) (σ 12 0) (σ 8 0) m B → 0 ≤ B → B ≤ 1100 → K (some B) σ')
  | _ => False
set_option maxHeartbeats 4000000 in
set_option maxRecDepth 20000 in
theorem k_X6_bound (l : Launch) : Ct l yX6_bound cX6_bound 2 (some .int) 3 T_X6_bound := by
  refine mk_met (by decide +kernel) hCX6_bound lCX6_bound frX6_ok cstX6_ok (cao_X6_bound l) ?_ ?_
  · intro a σ K h
    unfold T_X6_bound at h
    split at h
    · simp [eL]
    · exact h.elim
  · intro a σ K ha hR h
    unfold T_X6_bound at h
    split at h
    · rename_i m
      refine ⟨fun _ => none, 200, fun pc I L S σ' k h => (by cases h), ?_⟩
      simp only [wp, stp, drp, entL, eL, lget, lset, okst, cnd, swt, rcv, Kr_int, Kr_bool, Kr_void, List.length_cons, List.length_nil, List.replicate, List.append_nil, List.cons_append, List.nil_append, List.take_succ_cons, List.take_zero, List.drop_succ_cons, List.drop_zero, List.reverse_cons, List.reverse_nil, Option.map_some, Option.map_none, Option.toList_some, Option.toList_none, Nat.reduceAdd, Nat.reduceSub, Nat.reduceLT, Nat.reduceLeDiff, Nat.reduceEqDiff, ↓reduceIte, Nat.add_zero, Nat.zero_add, true_and, and_true, Nat.le_refl, reduceCtorEq, false_implies, true_implies, not_true_eq_false, not_false_eq_true, Int.reduceAdd, Int.reduceSub, Int.reduceMul, Int.reduceLE, Int.reduceLT, Int.reduceEq, Int.reduceNe, Int.reduceNeg, Int.reduceDiv, Int.reduceMod, Bool.false_eq_true, Int.le_refl, and_self, true_or, or_true, inR_l, fv0, fv1, fv2, fv3, nc2, nc4, nc6, nc16, nc25, nc60, nc65, nc80, nc130, nc384, nc390, fp_0_0, fp_0_1, fp_0_2, fp_1_0, fp_1_1, fp_1_2, fp_1_3, fp_1_4, fp_1_5, fp_1_6, fp_1_7, fp_1_8, fp_1_9, fp_1_10, fp_1_11, fp_1_12, fp_1_13, fp_1_14, fp_2_0, fp_2_1, fp_2_2, fp_2_3, fp_3_0, fp_3_1, fp_4_0, fp_4_1, fp_4_2, fp_4_3, fp_4_4, fp_4_5, fp_4_6, fp_4_7, fp_5_0, fp_5_1, fp_5_2, fp_5_3, fp_5_4, fp_5_5, fp_5_6, fp_5_7, fp_6_0, fp_6_1, fp_6_2, fp_6_3, fp_6_4, fp_6_5, fp_6_6, fp_6_7, fp_6_8, fp_6_9, fp_6_10, fp_6_11, fp_6_12, fp_6_13, fp_6_14, fp_6_15, fp_7_0, fp_7_1, fp_7_2, fp_7_3, fp_7_4, fp_7_5, fp_7_6, fp_7_7, fp_7_8, fp_7_9, fp_7_10, fp_7_11, fp_7_12, fp_7_13, fp_7_14, fp_7_15, fp_7_16, fp_7_17, fp_7_18, fp_7_19, fp_7_20, fp_7_21, fp_7_22, fp_7_23, fp_7_24, iz_0_1, iz_0_2, iz_1_8, iz_1_9, iz_1_11, iz_2_1, iz_2_2, iz_2_3, iz_3_1, iz_4_1, iz_4_2, iz_5_0, iz_6_8, iz_6_9, iz_6_13, iz_6_14, iz_6_15, iz_7_2, iz_7_6, iz_7_12, iz_7_20, iz_7_21, iz_7_23, iz_7_24, ak_8, ak_9, ak_10, ak_11, ak_12, ak_13, ak_14, ak_15, ak_16, ak_17, ak_18, ak_19, ak_20, ak_21, ak_22, ak_23, ak_24, ak_25, ak_26, ak_27, ak_28, ak_29, ak_30, ak_31, ak_32, ak_33, ak_34, ak_35, ak_36, ak_37, ak_38, ak_39, ak_40, ak_41, ak_42, ak_43, ak_44, ak_45, ak_46, ak_47, ak_48, ak_49, ak_50, ak_51, ak_52, ak_53, ak_54, ak_55, ak_56, el31, el33, el34, CX6_bound, ca_X6_bound, frX6, kcX6, klX6, T_X6_within2, T_X1_load, T_X1_measure, T_X1_greatestBound, T_X1_boundOf, up_ap, false_and, and_false, if_false, if_true, ite_true, ite_false]
      obtain ⟨p, hn, h⟩ := h
      refine ⟨fun a => ⟨sWF_B p, fun σ1 hL => ⟨⟨hL.2.1, hL.2.2.1, hL.2.2.2.1⟩, fun σ3 hR hM => ?_, fun σ3 hR hN => ?_⟩⟩, hn⟩
      · have hF : FrG pB1 σ σ3 := (hL.1.w (by rintro t a x ⟨q1, q2⟩; exact Or.inl ⟨q1, by omega⟩)).t (fun t a x q => hR t a x (fun ⟨z1, z2⟩ => q (Or.inl ⟨z1, by omega⟩)))
        have hH : nH σ3 1 := hM.2.2.2.2
        have hB3 : nB σ3 1 := hR.B hL.2.1
        have hm := fun m' B m0 m1 => mB_mbd (m := m') (B := B) p hL hR hM m0 m1
        refine ⟨fun b => ⟨⟨b, by omega, hB3, hH⟩, fun B σ4 hE => h a B σ4 (hF.t (hE.1.w (fun _ _ _ q => Or.inr q))) (Or.inl ⟨b, (hm _ _ b (by omega)).mp hE.2.1⟩) hE.2.2.1 hE.2.2.2⟩, fun b => ⟨⟨hB3, hH⟩, fun B σ4 hE => h a B σ4 (hF.t (hE.1.w (fun _ _ _ q => Or.inr q))) (Or.inr ⟨by omega, hE.2.1, fun m' m0 m1 => ?_, ?_⟩) hE.2.1 hE.2.2.1⟩⟩
        · obtain ⟨x, x1, x2⟩ := hE.2.2.2.1 m' m0 m1
          exact ⟨x, (hm _ _ m0 m1).mp x1, x2⟩
        · rcases hE.2.2.2.2 with z | ⟨m', m0, m1, z⟩
          · exact Or.inl z
          · exact Or.inr ⟨m', m0, m1, (hm _ _ m0 m1).mp z⟩
      · exact absurd hN (noN (fun o v k k0 k1 => by rw [hL.2.2.2.2.2.2 o v.1 v.2.1]; exact bit_0 k0 k1))
    · exact h.elim
