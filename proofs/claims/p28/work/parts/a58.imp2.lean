/-! the class's improve -/
def sEx (σ : Mem) (o r : Int) : Prop := exL (σ 10 0) (σ 11 0) (σ 12 0) (σ 8 0) (σ 13 0) (σ 14 0) o r
def prC (σ : Mem) (k : Int) : Prop := σ 11 0 (σ 37 0 k) = σ 11 0 (σ 37 0 (k + 1))
def impC (σ : Mem) (k le ch : Int) : Prop := impI (sEx σ) (prC σ) (σ 37 0) (σ 1 0 8) k le ch
def pKI (t a : Nat) (x : Int) : Prop := pKn t a x ∨ pNt 1 t a x
theorem LenB_ex {σ : Mem} (hw : sWF σ 0) {o r : Int} (h : LenB σ (exQ (σ 14 0) (4 * σ 11 0 o + plo (σ 11 0) (σ 13 0) (σ 14 0) o)) r) : (r ≠ -6 → sEx σ o r) ∧ (r = -6 → ∀ r', ¬ sEx σ o r') := by
  rcases h with ⟨g, t, H, T, M, b⟩ | ⟨e, hn⟩
  · have m := (end_max (fun o v => (sWF_op hw v).2.2.1) H T).mp M
    refine ⟨fun _ => ⟨g, H, m⟩, fun e => ?_⟩
    have := m.1
    omega
  · exact ⟨fun z => absurd e z, fun _ r' ⟨g, H, _⟩ => hn g H⟩
theorem sEx_un {σ : Mem} (hw : sWF σ 0) {o r r' : Int} (v : vOp (σ 10 0) o) (hl : plo (σ 11 0) (σ 13 0) (σ 14 0) o + 1 < σ 13 0 (σ 11 0 o)) (a : sEx σ o r) (b : sEx σ o r') : r = r' := by
  have w := sWF_op hw v
  exact lenQ_un (WF_ex hw.1 w.1 w.2.1 (plo_of hw.1 v).1 hl) (fun o v => (sWF_op hw v).2.2.2.2.2.1) a b
/-- at the head of the loop, behind knowPlan σ1 -/
def IC (σ1 σ' : Mem) (k le ch : Int) : Prop := FrG (pNt 1) σ1 σ' ∧ sWF σ1 0 ∧ PK σ1 ∧ 0 ≤ k ∧ (k ≤ σ1 3 0 1 - 1 ∨ k = 0) ∧ impC σ1 k le ch ∧ (ch = -6 ∨ vOp (σ1 10 0) ch) ∧ (ch ≠ -6 → plo (σ1 11 0) (σ1 13 0) (σ1 14 0) ch + 1 < σ1 13 0 (σ1 11 0 ch)) ∧ 0 ≤ le ∧ le ≤ 1100
theorem IC_e {σ1 σ' : Mem} {k le ch : Int} (h : IC σ1 σ' k le ch) : (∀ t a, (t < 15 ∧ t ≠ 1) ∨ 25 < t → σ' t a = σ1 t a) ∧ sWF σ' 0 ∧ PK σ' ∧ σ' 1 0 8 = σ1 1 0 8 := by
  have f := fun t a q => pNt_x h.1 t a q
  have e8 : σ' 1 0 8 = σ1 1 0 8 := h.1 1 0 8 (by unfold pNt; omega)
  refine ⟨f, (sWF_cg (fun t q => f t 0 (by omega))).mpr h.2.1, PK_cg (fun t q => h.1.f t 0 (by rintro x q'; unfold pNt at q'; omega)) e8 (by rw [f 3 0 (by omega)]) h.2.2.1, e8⟩
theorem IC_p {σ1 σ' : Mem} {k le ch : Int} (h : IC σ1 σ' k le ch) (hk : k < σ1 3 0 1 - 1) : vOp (σ1 10 0) (σ1 37 0 k) ∧ vOp (σ1 10 0) (σ1 37 0 (k + 1)) ∧ (prC σ1 k → plo (σ1 11 0) (σ1 13 0) (σ1 14 0) (σ1 37 0 k) + 1 < σ1 13 0 (σ1 11 0 (σ1 37 0 k))) ∧ σ1 3 0 1 ≤ 16 := by
  have hv := PTi_v h.2.1.1 h.2.2.1.2
  have k0 := h.2.2.2.1
  exact ⟨hv.1 k k0 (by omega), hv.1 (k + 1) (by omega) (by omega), fun pr => (path_nx h.2.1.1 h.2.2.1.2 k0 (by omega) pr).2, hv.2.2⟩
theorem IC_0 {σ1 : Mem} (hw : sWF σ1 0) (hP : PK σ1) : IC σ1 σ1 0 (σ1 1 0 8) (-6) := by
  have n := PK_n hw hP
  have m := hP.1.2.2.2.2.1.1
  exact ⟨FrG.r, hw, hP, by omega, Or.inr rfl, impI_0, Or.inl rfl, fun z => absurd rfl z, m, hP.1.2.2.2.2.2.1⟩
theorem IC_n {σ1 σ' : Mem} {k le ch : Int} (h : IC σ1 σ' k le ch) (hk : k < σ1 3 0 1 - 1) (hn : ¬ prC σ1 k) : IC σ1 σ' (k + 1) le ch := by
  obtain ⟨a, b, c, d, e, f, g⟩ := h
  exact ⟨a, b, c, by omega, by omega, impI_no f (fun z => absurd z hn), g⟩
theorem IC_s {σ1 σ' σ2 : Mem} {k le ch r : Int} (h : IC σ1 σ' k le ch) (hk : k < σ1 3 0 1 - 1) (hp : prC σ1 k) (hL : LenB σ' (exQ (σ' 14 0) (4 * σ' 11 0 (σ' 37 0 k) + plo (σ' 11 0) (σ' 13 0) (σ' 14 0) (σ' 37 0 k))) r) (hF : FrG (pNt 1) σ' σ2) : (r ≠ -6 ∧ r < le → IC σ1 σ2 (k + 1) r (σ1 37 0 k)) ∧ (¬ (r ≠ -6 ∧ r < le) → IC σ1 σ2 (k + 1) le ch) := by
  have E := IC_e h
  have P := IC_p h hk
  have f := E.1
  obtain ⟨a, b, c, d, e, i, g, l, m0, m1⟩ := h
  rw [f 14 0 (by omega), f 11 0 (by omega), f 13 0 (by omega), f 37 0 (by omega)] at hL
  have hL1 : LenB σ1 (exQ (σ1 14 0) (4 * σ1 11 0 (σ1 37 0 k) + plo (σ1 11 0) (σ1 13 0) (σ1 14 0) (σ1 37 0 k))) r := by
    unfold LenB at hL ⊢
    rw [f 10 0 (by omega), f 11 0 (by omega), f 12 0 (by omega), f 8 0 (by omega), f 13 0 (by omega)] at hL
    exact hL
  have X := LenB_ex b hL1
  have un : ∀ r', sEx σ1 (σ1 37 0 k) r → sEx σ1 (σ1 37 0 k) r' → r = r' := fun r' x y => sEx_un b P.1 (P.2.2.1 hp) x y
  refine ⟨fun q => ?_, fun q => ?_⟩
  · have x := X.1 q.1
    have r0 := x.choose_spec.2.1
    obtain ⟨h1, h2⟩ := i
    have le0 : le ≤ σ1 1 0 8 := by
      rcases h2 with z | ⟨k', a', b', c', d', e', f', g'⟩ <;> omega
    refine ⟨a.t hF, b, c, by omega, by omega, ⟨fun k' a' b' c' r' e' => ?_, Or.inr ⟨k, d, by omega, hp, rfl, x, by omega, fun k' a' b' c' r' e' => ?_⟩⟩, Or.inr P.1, fun _ => P.2.2.1 hp, r0, by omega⟩
    · by_cases z : k' = k
      · rw [z] at e'
        have := un _ x e'
        omega
      · have := h1 k' a' (by omega) c' r' e'
        omega
    · have := h1 k' a' b' c' r' e'
      omega
  · refine ⟨a.t hF, b, c, by omega, by omega, impI_no i (fun _ r' e' => ?_), g, l, m0, m1⟩
    by_cases z : r = -6
    · exact absurd e' (X.2 z r')
    · have := un _ (X.1 z) e'
      omega
def ca_X6_improve : Nat → Option (Nat × Nat × Tr)
  | 111 => some (1, 6, T_X6_knowPlan2)
  | 150 => some (2, 6, T_X6_lengthBehindNext)
  | 76 => some (1, 6, T_X6_beginChange2)
  | 154 => some (2, 5, T_X5_placeOf)
  | 107 => some (3, 5, T_X5_exchange)
  | _ => none
theorem cao_X6_improve (l : Launch) : ∀ k n' ci T', ca_X6_improve k = some (n', ci, T') → ∃ nn, nn + 1 ≤ 6 ∧ Site l yX6_improve.cls k n' ci nn T' := by
  intro k n' ci T' h
  unfold ca_X6_improve at h
  split at h
  · cases h; exact ⟨5, by decide, _, _, _, _, k_X6_knowPlan2 l, Or.inl ⟨_, rfl, FX6_knowPlan, KRX6_111⟩⟩
  · cases h; exact ⟨3, by decide, _, _, _, _, k_X6_lengthBehindNext l, Or.inl ⟨_, rfl, FX6_lengthBehindNext, KRX6_150⟩⟩
  · cases h; exact ⟨3, by decide, _, _, _, _, k_X6_beginChange2 l, Or.inl ⟨_, rfl, FX6_beginChange, KRX6_76⟩⟩
  · cases h; exact ⟨0, by decide, _, _, _, _, k_X5_placeOf l, Or.inl ⟨_, rfl, FX5_placeOf, KRX6_154⟩⟩
  · cases h; exact ⟨0, by decide, _, _, _, _, k_X5_exchange l, Or.inl ⟨_, rfl, FX5_exchange, KRX6_107⟩⟩
  · cases h
def T_X6_improve : Tr := fun a σ K => match a with
  | [.inr (.inl (6, 0))] => (sWF σ 0 ∧ KPc σ ∧ hsB σ) ∧ (∀ σ1, FrG pKn σ σ1 → KPc σ1 → (∀ h, ¬ sH σ 0 h) → K (some (-5)) σ1) ∧ (∀ σ1 σ2 k' le ch, FrG pKn σ σ1 → PK σ1 → KPc σ2 → IC σ1 σ2 k' le ch → σ1 3 0 1 - 1 ≤ k' → (ch = -6 → K (some (-5)) σ2) ∧ (ch ≠ -6 → ∀ σ3 σ4, RecE σ2 σ3 → σ4 = up (up σ3 14 0 (4 * σ1 11 0 ch + plo (σ1 11 0) (σ1 13 0) (σ1 14 0) ch) (σ3 14 0 (4 * σ1 11 0 ch + plo (σ1 11 0) (σ1 13 0) (σ1 14 0) ch + 1))) 14 0 (4 * σ1 11 0 ch + plo (σ1 11 0) (σ1 13 0) (σ1 14 0) ch + 1) (σ3 14 0 (4 * σ1 11 0 ch + plo (σ1 11 0) (σ1 13 0) (σ1 14 0) ch)) → K (some le) σ4))
  | _ => False
set_option maxHeartbeats 8000000 in
set_option maxRecDepth 20000 in
theorem k_X6_improve (l : Launch) : Ct l yX6_improve cX6_improve 6 (some .int) 6 T_X6_improve := by
  refine mk_met (by decide +kernel) hCX6_improve lCX6_improve frX6_ok cstX6_ok (cao_X6_improve l) ?_ ?_
  · intro a σ K h
    unfold T_X6_improve at h
    split at h
    · simp [eL]
    · exact h.elim
  · intro a σ K ha hR h
    unfold T_X6_improve at h
    split at h
    · refine ⟨fun pc => if pc = 23 then some (fun L S σ' k => match L, S with | [some (.inr (.inl c1)), some (.inl le), some (.inl ch), some (.inl k'), _, _], [] => (c1 = (6, 0) ∧ ∃ σ1, FrG pKn σ σ1 ∧ KPc σ1 ∧ IC σ1 σ' k' le ch) ∧ k = (100 - k').toNat | _, _ => False) else none, 200, ?_, ?_⟩
      · intro pc I L S σ' k hcut hi
        dsimp only at hcut
        split at hcut
        · rename_i hpc
          subst hpc
          cases hcut
          try dsimp only at hi
          split at hi
          · rename_i c1 le ch k' x1 x2
            obtain ⟨hi, rfl⟩ := hi
            obtain ⟨rfl, σ1, hF, hK, hI⟩ := hi
            obtain ⟨⟨p, p2, p3⟩, h1, h2⟩ := h
            simp only [wp, stp, drp, entL, eL, lget, lset, okst, cnd, swt, rcv, Kr_int, Kr_bool, Kr_void, List.length_cons, List.length_nil, List.replicate, List.append_nil, List.cons_append, List.nil_append, List.take_succ_cons, List.take_zero, List.drop_succ_cons, List.drop_zero, List.reverse_cons, List.reverse_nil, Option.map_some, Option.map_none, Option.toList_some, Option.toList_none, Nat.reduceAdd, Nat.reduceSub, Nat.reduceLT, Nat.reduceLeDiff, Nat.reduceEqDiff, ↓reduceIte, Nat.add_zero, Nat.zero_add, true_and, and_true, Nat.le_refl, reduceCtorEq, false_implies, true_implies, not_true_eq_false, not_false_eq_true, Int.reduceAdd, Int.reduceSub, Int.reduceMul, Int.reduceLE, Int.reduceLT, Int.reduceEq, Int.reduceNe, Int.reduceNeg, Int.reduceDiv, Int.reduceMod, Bool.false_eq_true, Int.le_refl, and_self, true_or, or_true, inR_l, fv0, fv1, fv2, fv3, nc2, nc4, nc6, nc16, nc25, nc60, nc65, nc80, nc130, nc384, nc390, fp_0_0, fp_0_1, fp_0_2, fp_1_0, fp_1_1, fp_1_2, fp_1_3, fp_1_4, fp_1_5, fp_1_6, fp_1_7, fp_1_8, fp_1_9, fp_1_10, fp_1_11, fp_1_12, fp_1_13, fp_1_14, fp_2_0, fp_2_1, fp_2_2, fp_2_3, fp_3_0, fp_3_1, fp_4_0, fp_4_1, fp_4_2, fp_4_3, fp_4_4, fp_4_5, fp_4_6, fp_4_7, fp_5_0, fp_5_1, fp_5_2, fp_5_3, fp_5_4, fp_5_5, fp_5_6, fp_5_7, fp_6_0, fp_6_1, fp_6_2, fp_6_3, fp_6_4, fp_6_5, fp_6_6, fp_6_7, fp_6_8, fp_6_9, fp_6_10, fp_6_11, fp_6_12, fp_6_13, fp_6_14, fp_6_15, fp_7_0, fp_7_1, fp_7_2, fp_7_3, fp_7_4, fp_7_5, fp_7_6, fp_7_7, fp_7_8, fp_7_9, fp_7_10, fp_7_11, fp_7_12, fp_7_13, fp_7_14, fp_7_15, fp_7_16, fp_7_17, fp_7_18, fp_7_19, fp_7_20, fp_7_21, fp_7_22, fp_7_23, fp_7_24, iz_0_1, iz_0_2, iz_1_8, iz_1_9, iz_1_11, iz_2_1, iz_2_2, iz_2_3, iz_3_1, iz_4_1, iz_4_2, iz_5_0, iz_6_8, iz_6_9, iz_6_13, iz_6_14, iz_6_15, iz_7_2, iz_7_6, iz_7_12, iz_7_20, iz_7_21, iz_7_23, iz_7_24, ak_8, ak_9, ak_10, ak_11, ak_12, ak_13, ak_14, ak_15, ak_16, ak_17, ak_18, ak_19, ak_20, ak_21, ak_22, ak_23, ak_24, ak_25, ak_26, ak_27, ak_28, ak_29, ak_30, ak_31, ak_32, ak_33, ak_34, ak_35, ak_36, ak_37, ak_38, ak_39, ak_40, ak_41, ak_42, ak_43, ak_44, ak_45, ak_46, ak_47, ak_48, ak_49, ak_50, ak_51, ak_52, ak_53, ak_54, ak_55, ak_56, el31, el33, el34, CX6_improve, ca_X6_improve, frX6, kcX6, klX6, T_X6_knowPlan2, T_X6_lengthBehindNext, T_X6_beginChange2, T_X5_placeOf, T_X5_exchange, up_ap, exists_eq_right_right, exists_eq_right, exists_eq_left, Nat.lt_irrefl, and_self, implies_true, forall_const]
            have E := IC_e hI
            have f := E.1
            have P := fun z => IC_p hI z
            have n := PK_n hI.2.1 hI.2.2.1
            have k0 := hI.2.2.2.1
            have KP : KPc σ' := by
              rcases hK with q | ⟨q, r⟩
              · exact Or.inl (by rw [f 6 0 (by omega)]; exact q)
              · refine Or.inr ⟨by rw [f 6 0 (by omega)]; exact q, ?_⟩
                rcases r with ⟨r, s⟩ | ⟨r, s⟩
                · exact Or.inl ⟨by rw [f 6 0 (by omega)]; exact r, E.2.2.1⟩
                · exact Or.inr ⟨by rw [f 6 0 (by omega)]; exact r, fun h z => s h ((sH_cg (fun t q => f t 0 (by omega))).mp z)⟩
            have hB : hsB σ' := by
              unfold hsB
              rw [f 0 0 (by omega), pKn_f hF 0 0 (by omega)]
              exact p3
            have e3 : σ' 3 0 1 = σ1 3 0 1 := by rw [f 3 0 (by omega)]
            have e37 : σ' 37 0 = σ1 37 0 := f 37 0 (by omega)
            have e11 : σ' 11 0 = σ1 11 0 := f 11 0 (by omega)
            have inc : k' < 16 → inR (k' + 1) := fun z => by simp only [inR]; omega
            refine ⟨by simp only [inR]; omega, fun a => ⟨fun b => ⟨hB, fun σ3 hR => ?_⟩, fun b => ?_⟩, fun a => ?_⟩
            · have v : vOp (σ1 10 0) ch := by
                rcases hI.2.2.2.2.2.2.1 with z | z
                · exact absurd z b
                · exact z
              have l := hI.2.2.2.2.2.2.2.1 b
              have w := sWF_op hI.2.1 v
              have q := (plo_of hI.2.1.1 v).1
              have l4 := (sW_j hI.2.1).2.2.2.1 (σ1 11 0 ch) w.1 w.2.1
              have R := Rec_w hR
              have r11 : σ3 11 0 = σ1 11 0 := (R 11 (by omega)).trans e11
              have r13 : σ3 13 0 = σ1 13 0 := (R 13 (by omega)).trans (f 13 0 (by omega))
              have r14 : σ3 14 0 = σ1 14 0 := (R 14 (by omega)).trans (f 14 0 (by omega))
              have epl : plF (σ1 14 0) (4 * σ1 11 0 ch) (σ1 13 0 (σ1 11 0 ch)) (ch / 4) = plo (σ1 11 0) (σ1 13 0) (σ1 14 0) ch := rfl
              have fin := (h2 σ1 σ' k' le ch hF hI.2.2.1 KP hI (by omega)).2 b σ3 _ hR rfl
              rw [r14] at fin ⊢
              rw [r11, r13, epl]
              exact ⟨⟨v.1, v.2.1⟩, ⟨v.1, v.2.1, w.1, w.2.1, l4.2⟩, ⟨w.1, w.2.1, q, by omega, l4.2⟩, fin⟩
            · exact (h2 σ1 σ' k' le ch hF hI.2.2.1 KP hI (by omega)).1 (by omega)
            · have p := P (by omega)
              rw [e37]
              refine ⟨⟨k0, by omega⟩, ⟨p.1.1, p.1.2.1⟩, inc (by omega), ⟨by omega, by omega⟩, ⟨p.2.1.1, p.2.1.2.1⟩, fun c => ⟨inc (by omega), by omega, σ1, hF, hK, IC_n hI (by omega) (by rw [e11] at c; exact c)⟩, fun c => ?_⟩
              have pr : prC σ1 k' := by
                rw [e11] at c
                exact Classical.not_not.mp c
              refine ⟨⟨E.2.1, by rw [f 10 0 (by omega)]; exact p.1, by rw [e11, f 13 0 (by omega), f 14 0 (by omega)]; exact p.2.2.1 pr⟩, fun r σ2 hL hF2 => ?_⟩
              rw [← e37] at hL
              have S := IC_s hI (by omega) pr hL hF2
              exact ⟨fun z => ⟨inc (by omega), by omega, σ1, hF, hK, S.2 (by omega)⟩, fun z => ⟨fun y => ⟨inc (by omega), by omega, σ1, hF, hK, S.2 (by omega)⟩, fun y => ⟨inc (by omega), by omega, σ1, hF, hK, S.1 ⟨z, by omega⟩⟩⟩⟩
          · exact hi.elim
        · cases hcut
      · simp only [wp, stp, drp, entL, eL, lget, lset, okst, cnd, swt, rcv, Kr_int, Kr_bool, Kr_void, List.length_cons, List.length_nil, List.replicate, List.append_nil, List.cons_append, List.nil_append, List.take_succ_cons, List.take_zero, List.drop_succ_cons, List.drop_zero, List.reverse_cons, List.reverse_nil, Option.map_some, Option.map_none, Option.toList_some, Option.toList_none, Nat.reduceAdd, Nat.reduceSub, Nat.reduceLT, Nat.reduceLeDiff, Nat.reduceEqDiff, ↓reduceIte, Nat.add_zero, Nat.zero_add, true_and, and_true, Nat.le_refl, reduceCtorEq, false_implies, true_implies, not_true_eq_false, not_false_eq_true, Int.reduceAdd, Int.reduceSub, Int.reduceMul, Int.reduceLE, Int.reduceLT, Int.reduceEq, Int.reduceNe, Int.reduceNeg, Int.reduceDiv, Int.reduceMod, Bool.false_eq_true, Int.le_refl, and_self, true_or, or_true, inR_l, fv0, fv1, fv2, fv3, nc2, nc4, nc6, nc16, nc25, nc60, nc65, nc80, nc130, nc384, nc390, fp_0_0, fp_0_1, fp_0_2, fp_1_0, fp_1_1, fp_1_2, fp_1_3, fp_1_4, fp_1_5, fp_1_6, fp_1_7, fp_1_8, fp_1_9, fp_1_10, fp_1_11, fp_1_12, fp_1_13, fp_1_14, fp_2_0, fp_2_1, fp_2_2, fp_2_3, fp_3_0, fp_3_1, fp_4_0, fp_4_1, fp_4_2, fp_4_3, fp_4_4, fp_4_5, fp_4_6, fp_4_7, fp_5_0, fp_5_1, fp_5_2, fp_5_3, fp_5_4, fp_5_5, fp_5_6, fp_5_7, fp_6_0, fp_6_1, fp_6_2, fp_6_3, fp_6_4, fp_6_5, fp_6_6, fp_6_7, fp_6_8, fp_6_9, fp_6_10, fp_6_11, fp_6_12, fp_6_13, fp_6_14, fp_6_15, fp_7_0, fp_7_1, fp_7_2, fp_7_3, fp_7_4, fp_7_5, fp_7_6, fp_7_7, fp_7_8, fp_7_9, fp_7_10, fp_7_11, fp_7_12, fp_7_13, fp_7_14, fp_7_15, fp_7_16, fp_7_17, fp_7_18, fp_7_19, fp_7_20, fp_7_21, fp_7_22, fp_7_23, fp_7_24, iz_0_1, iz_0_2, iz_1_8, iz_1_9, iz_1_11, iz_2_1, iz_2_2, iz_2_3, iz_3_1, iz_4_1, iz_4_2, iz_5_0, iz_6_8, iz_6_9, iz_6_13, iz_6_14, iz_6_15, iz_7_2, iz_7_6, iz_7_12, iz_7_20, iz_7_21, iz_7_23, iz_7_24, ak_8, ak_9, ak_10, ak_11, ak_12, ak_13, ak_14, ak_15, ak_16, ak_17, ak_18, ak_19, ak_20, ak_21, ak_22, ak_23, ak_24, ak_25, ak_26, ak_27, ak_28, ak_29, ak_30, ak_31, ak_32, ak_33, ak_34, ak_35, ak_36, ak_37, ak_38, ak_39, ak_40, ak_41, ak_42, ak_43, ak_44, ak_45, ak_46, ak_47, ak_48, ak_49, ak_50, ak_51, ak_52, ak_53, ak_54, ak_55, ak_56, el31, el33, el34, CX6_improve, ca_X6_improve, frX6, kcX6, klX6, T_X6_knowPlan2, T_X6_lengthBehindNext, T_X6_beginChange2, T_X5_placeOf, T_X5_exchange, up_ap, exists_eq_right_right, exists_eq_right, exists_eq_left, Nat.lt_irrefl, and_self, implies_true, forall_const]
        obtain ⟨⟨p, p2, p3⟩, h1, h2⟩ := h
        exact ⟨⟨p, p2⟩, fun σ1 hF hK hP => ⟨σ1, hF, hK, IC_0 (kn_w p hF) hP⟩, h1⟩
    · exact h.elim
