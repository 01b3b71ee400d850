/-! texts: the reference -/
theorem je_q {σ : Mem} (hw : rWF σ) {m k : Int} (m0 : 0 ≤ m) (m1 : m < 4) (k0 : 0 ≤ k) (k1 : k < 4) : je σ m k ↔ inq (rQ σ) (4 * m) (rLn σ m) k := by
  have l4 := (hw.1.2.1 k k0 k1).2.1
  constructor
  · intro h
    unfold je oj at h
    obtain ⟨s, s0, s1, e⟩ := (opF_ne (f := rMc σ) (n := rSt σ k) (j := k) (m := m) k0 l4).1 (by omega)
    have v : rOp σ (4 * k + s) := ⟨by omega, by omega, by show (4 * k + s) % 4 < rSt σ ((4 * k + s) / 4); rw [show (4 * k + s) / 4 = k by omega]; omega⟩
    obtain ⟨x, x0, x1, ee⟩ := hw.1.2.2.2.2.2.2.2 _ v
    rw [e] at x1 ee
    exact ⟨x, x0, x1, by rw [ee]; omega⟩
  · rintro ⟨x, x0, x1, e⟩
    obtain ⟨a, b, c⟩ := oq_v hw.1 m0 m1 x0 x1
    rw [e] at c
    unfold oq at a
    rw [e] at a
    exact a.1
/-- the named orders are of the same jobs, for the first k -/
def fitR (σ : Mem) (k : Int) : Prop := ∀ k', 0 ≤ k' → k' < k → fitP σ (11 * k') (σ 55 0 (11 * k' + 1))
theorem fitR_s {σ : Mem} {k : Int} (k0 : 0 ≤ k) : fitR σ (k + 1) ↔ fitR σ k ∧ fitP σ (11 * k) (σ 55 0 (11 * k + 1)) := by
  constructor
  · intro h
    exact ⟨fun m' a b => h m' a (by omega), h k k0 (by omega)⟩
  · rintro ⟨h, h2⟩ m' a b
    by_cases z : m' = k
    · rw [z]
      exact h2
    · exact h m' a (by omega)
/-- what was read -/
def OOk (σ : Mem) (ln q : Int → Int) : Prop := 1 ≤ σ 7 0 23 ∧ σ 7 0 23 ≤ 4 ∧ PO σ ln q ∧ OO (σ 55 0) (σ 7 0 23) ln q
theorem OOk_p {σ : Mem} {ln q : Int → Int} (h : OOk σ ln q) {k : Int} (k0 : 0 ≤ k) (k1 : k < σ 7 0 23) : 0 ≤ σ 55 0 (11 * k) ∧ σ 55 0 (11 * k) < 4 ∧ 0 ≤ σ 55 0 (11 * k + 1) ∧ σ 55 0 (11 * k + 1) ≤ 4 ∧ ln (σ 55 0 (11 * k)) = σ 55 0 (11 * k + 1) ∧ oOK q (4 * σ 55 0 (11 * k)) (σ 55 0 (11 * k + 1)) ∧ (∀ i, 0 ≤ i → i < σ 55 0 (11 * k + 1) → σ 55 0 (11 * k + 2 + i) = q (4 * σ 55 0 (11 * k) + i) ∧ 0 ≤ σ 55 0 (11 * k + 2 + i) ∧ σ 55 0 (11 * k + 2 + i) < 4) := by
  obtain ⟨a1, a2, a3, a4⟩ := h
  obtain ⟨b1, b2, b3, b4, b5, b6⟩ := a4.1 k k0 k1
  have o := (a3.2.2 _ b1 b2).2 (by omega)
  rw [b3] at o
  refine ⟨b1, b2, b4, b5, b3, o, fun i i0 i1 => ?_⟩
  rw [b6 i i0 i1]
  exact ⟨rfl, o.2.2.1 i i0 i1⟩
theorem OOk_i {σ : Mem} {ln q : Int → Int} (h : OOk σ ln q) {k k' : Int} (k0 : 0 ≤ k) (k1 : k < σ 7 0 23) (k2 : 0 ≤ k') (k3 : k' < σ 7 0 23) (e : σ 55 0 (11 * k) = σ 55 0 (11 * k')) : k = k' := by
  rcases (show k < k' ∨ k = k' ∨ k' < k by omega) with z | z | z
  · exact absurd e (h.2.2.2.2.2 k k' k0 z k3)
  · exact z
  · exact absurd e.symm (h.2.2.2.2.2 k' k k2 z k1)
/-- the first k orders are laid, of the order k the first i places -/
def LPr (σ σ' : Mem) (k i : Int) : Prop := FrG (fun t a x => t = 38 ∧ a = 0 ∧ 49 ≤ x ∧ x < 65) σ σ' ∧ (∀ k' x, 0 ≤ k' → k' < σ 7 0 23 → 0 ≤ x → x < σ 55 0 (11 * k' + 1) → (k' < k ∨ (k' = k ∧ x < i)) → rQ σ' (4 * σ 55 0 (11 * k') + x) = σ 55 0 (11 * k' + 2 + x)) ∧ ∀ m x, 0 ≤ m → m < 4 → 0 ≤ x → x < 4 → (∀ k', 0 ≤ k' → k' < σ 7 0 23 → σ 55 0 (11 * k') ≠ m) → rQ σ' (4 * m + x) = rQ σ (4 * m + x)
theorem LPr_0 {σ : Mem} : LPr σ σ 0 0 := ⟨FrG.r, fun k' x a b c d e => by omega, fun _ _ _ _ _ _ _ => rfl⟩
theorem LPr_k {σ σ' : Mem} {k i : Int} (h : LPr σ σ' k i) (hi : σ 55 0 (11 * k + 1) ≤ i) : LPr σ σ' (k + 1) 0 := ⟨h.1, fun k' x a b c d e => by
  by_cases z : k' = k
  · subst z
    exact h.2.1 k' x a b c d (Or.inr ⟨rfl, by omega⟩)
  · exact h.2.1 k' x a b c d (by omega), h.2.2⟩
theorem LPr_s {σ σ' σ2 : Mem} {ln q : Int → Int} {k i : Int} (hO : OOk σ ln q) (k0 : 0 ≤ k) (k1 : k < σ 7 0 23) (i0 : 0 ≤ i) (i1 : i < σ 55 0 (11 * k + 1)) (h : LPr σ σ' k i) (h2 : σ2 = up σ' 38 0 (49 + 4 * σ 55 0 (11 * k) + i) (σ 55 0 (11 * k + 2 + i))) : LPr σ σ2 k (i + 1) := by
  have P := OOk_p hO k0 k1
  have e : ∀ y, rQ σ2 y = if y = 4 * σ 55 0 (11 * k) + i then σ 55 0 (11 * k + 2 + i) else rQ σ' y := fun y => by
    unfold rQ
    rw [h2, up_ap]
    by_cases c : y = 4 * σ 55 0 (11 * k) + i
    · rw [if_pos c, if_pos ⟨rfl, rfl, by omega⟩]
    · rw [if_neg c, if_neg (fun z => c (by omega))]
  refine ⟨by rw [h2]; exact h.1.u ⟨rfl, rfl, by omega, by omega⟩, fun k' x a b c d f => ?_, fun m x m0 m1 x0 x1 hn => ?_⟩
  · have P' := OOk_p hO a b
    rw [e]
    by_cases z : 4 * σ 55 0 (11 * k') + x = 4 * σ 55 0 (11 * k) + i
    · rw [if_pos z]
      have ek : k' = k := OOk_i hO a b k0 k1 (by omega)
      rw [ek] at z ⊢
      rw [show x = i by omega]
    · rw [if_neg z]
      refine h.2.1 k' x a b c d ?_
      rcases f with f | ⟨f, g⟩
      · exact Or.inl f
      · refine Or.inr ⟨f, ?_⟩
        rw [f] at z
        omega
  · rw [e, if_neg]
    · exact h.2.2 m x m0 m1 x0 x1 hn
    · intro z
      exact hn k k0 k1 (by omega)
theorem LPr_w {σ σ' : Mem} {ln q : Int → Int} (hw : rWF σ) (hO : OOk σ ln q) (hf : fitR σ (σ 7 0 23)) (h : LPr σ σ' (σ 7 0 23) 0) : rWF σ' ∧ rts σ' σ := by
  have hr : rts σ' σ := fun x x0 x1 => h.1 38 0 x (by rintro ⟨-, -, q, -⟩; omega)
  obtain ⟨e0, e1, e2, e3, e4⟩ := rts_e hr
  have w : WF (σ 38 0 0) (rSt σ) (rMc σ) (rDu σ) (rLn σ) (rQ σ') := WF_arr hw.1 (fun m m0 m1 => by
    have o0 := WF_oOK hw.1 m0 m1
    by_cases c : ∃ k, 0 ≤ k ∧ k < σ 7 0 23 ∧ σ 55 0 (11 * k) = m
    · obtain ⟨k, k0, k1, e⟩ := c
      have P := OOk_p hO k0 k1
      obtain ⟨g1, g2⟩ := hf k k0 k1
      rw [e] at P g1 g2
      have ro : ∀ x, 0 ≤ x → x < rLn σ m → rQ σ' (4 * m + x) = q (4 * m + x) := fun x x0 x1 => by
        have := h.2.1 k x k0 k1 x0 (by omega) (Or.inl k1)
        rw [e] at this
        rw [this, (P.2.2.2.2.2.2 x x0 (by omega)).1]
      have o1 : oOK q (4 * m) (rLn σ m) := by
        have := P.2.2.2.2.2.1
        rw [g1] at this
        exact this
      have sub : ∀ x, 0 ≤ x → x < rLn σ m → inq (rQ σ) (4 * m) (rLn σ m) (q (4 * m + x)) := fun x x0 x1 => by
        have d := P.2.2.2.2.2.2 x x0 (by omega)
        have := g2 x x0 (by omega)
        rw [d.1] at this d
        exact (je_q hw m0 m1 d.2.1 d.2.2).mp this
      have ex : ∀ x, ∃ y, 0 ≤ x → x < rLn σ m → 0 ≤ y ∧ y < rLn σ m ∧ rQ σ (4 * m + y) = q (4 * m + x) := fun x => by
        by_cases d : 0 ≤ x ∧ x < rLn σ m
        · obtain ⟨y, y0, y1, z⟩ := sub x d.1 d.2
          exact ⟨y, fun _ _ => ⟨y0, y1, z⟩⟩
        · exact ⟨0, fun a b => absurd ⟨a, b⟩ d⟩
      obtain ⟨p, hp⟩ := Classical.skolem.mp ex
      have inj : ∀ x x', 0 ≤ x → x < rLn σ m → 0 ≤ x' → x' < rLn σ m → q (4 * m + x) = q (4 * m + x') → x = x' := fun x x' a b c d z => by
        rcases (show x < x' ∨ x = x' ∨ x' < x by omega) with y | y | y
        · exact absurd z (o1.2.2.2 x x' a y d)
        · exact y
        · exact absurd z.symm (o1.2.2.2 x' x c y b)
      refine PRM_cg (v := fun x => q (4 * m + x)) ⟨fun x x0 x1 => ⟨p x, (hp x x0 x1).1, (hp x x0 x1).2.1, (hp x x0 x1).2.2.symm⟩, fun y y0 y1 => ?_, inj⟩ ro
      obtain ⟨x, x0, x1, z⟩ := PHs p o0.1 (fun x a b => ⟨(hp x a b).1, (hp x a b).2.1⟩) (fun x x' a b c d z => inj x x' a b c d (by rw [← (hp x a b).2.2, ← (hp x' c d).2.2, z])) y0 y1
      exact ⟨x, x0, x1, by show q (4 * m + x) = rQ σ (4 * m + y); rw [← (hp x x0 x1).2.2, z]⟩
    · refine PRM_cg (PRM_r (fun k k' a b c d z => hw.1.2.2.2.2.2.2.1 m k k' m0 m1 a b c d z)) (fun x x0 x1 => h.2.2 m x m0 m1 x0 (by have := o0.2.1; omega) (fun k' a b z => c ⟨k', a, b, z⟩)))
  have ag : AG (σ 38 0 0) (σ' 38 0 0) (rSt σ) (rSt σ') (rMc σ) (rMc σ') (rDu σ) (rDu σ') (rRe σ) (rRe σ') (rLn σ) (rLn σ') (rQ σ') (rQ σ') := ⟨e0.symm, fun j a b => (e1 j a b).1.symm, fun o v => ⟨(e2 o v.1 v.2.1).1.symm, (e2 o v.1 v.2.1).2.symm, (e1 _ (vOp_j v).1 (vOp_j v).2.1).2.1.symm⟩, fun m a b => (e3 m a b).symm, fun _ _ _ _ _ _ => rfl⟩
  refine ⟨⟨ag.wf w, fun j a b => ?_⟩, hr⟩
  rw [e0] at b
  have j4 : j < 4 := by
    have := hw.1.1
    omega
  rw [(e1 j a j4).2.1, (e1 j a j4).2.2]
  exact hw.2 j a b
theorem pRt_38 {σ σ' : Mem} (h : FrG pRt σ σ') : σ' 38 0 = σ 38 0 := h.f 38 0 (by rintro x (⟨q, -⟩ | ⟨q, -⟩) <;> omega)
theorem KEE_k {σ σ' : Mem} (h : KEE σ σ') : σ' 55 0 = σ 55 0 ∧ σ' 7 0 23 = σ 7 0 23 ∧ σ' 7 0 24 = σ 7 0 24 := ⟨funext fun x => KEE_e h 55 0 x (by omega) (by omega), KEE_e h 7 0 23 (by omega) (by omega), KEE_e h 7 0 24 (by omega) (by omega)⟩
theorem KEE_OO {σ σ' : Mem} {ln q : Int → Int} (h : KEE σ σ') (hO : OOk σ ln q) : OOk σ' ln q := by
  obtain ⟨a, b, c⟩ := KEE_k h
  unfold OOk PO at hO ⊢
  rw [a, b, c]
  exact hO
theorem KEE_fit {σ σ' : Mem} {k : Int} (h : KEE σ σ') : fitR σ' k ↔ fitR σ k := by
  obtain ⟨a, b, c⟩ := KEE_k h
  have R := r38 (KEE_w h)
  unfold fitR fitP je oj
  rw [a, R.1, R.2.1, R.2.2.2.2.2.1]
def ca_X7_fault : Nat → Option (Nat × Nat × Tr)
  | 87 => some (3, 99, T_X7_in2)
  | 296 => some (2, 7, T_X7_faultOf)
  | _ => none
theorem cao_X7_fault (l : Launch) : ∀ k n' ci T', ca_X7_fault k = some (n', ci, T') → ∃ nn, nn + 1 ≤ 5 ∧ Site l yX7_fault.cls k n' ci nn T' := by
  intro k n' ci T' h
  unfold ca_X7_fault at h
  split at h
  · cases h; exact ⟨0, by decide, _, _, _, _, k_X7_in2 l, Or.inr ⟨rfl, FX7_in, Or.inl ⟨rfl, KRX7_87⟩⟩⟩
  · cases h; exact ⟨4, by decide, _, _, _, _, k_X7_faultOf l, Or.inl ⟨_, rfl, FX7_faultOf, KRX7_296⟩⟩
  · cases h
def T_X7_fault : Tr := fun a σ K => match a with
  | [.inr (.inl (7, 0)), .inl w] => (0 ≤ xL σ ∧ xL σ ≤ 80) ∧ (w = 0 → ∀ σ1, RFe σ σ1 → K (some (rtsF (xT σ) (xL σ))) σ1) ∧ (w = 1 → ∀ σ1, OFe σ σ1 → K (some (plnF (xT σ) (xL σ))) σ1) ∧ (w ≠ 0 → w ≠ 1 → K (some (-2)) σ)
  | _ => False
set_option maxHeartbeats 4000000 in
set_option maxRecDepth 20000 in
theorem k_X7_fault (l : Launch) : Ct l yX7_fault cX7_fault 2 (some .int) 5 T_X7_fault := by
  refine mk_met (by decide +kernel) hCX7_fault lCX7_fault frX7_ok cstX7_ok (cao_X7_fault l) ?_ ?_
  · intro a σ K h
    unfold T_X7_fault at h
    split at h
    · simp [eL]
    · exact h.elim
  · intro a σ K ha hR h
    unfold T_X7_fault at h
    split at h
    · rename_i w
      refine ⟨fun _ => none, 200, fun pc I L S σ' k h => (by cases h), ?_⟩
      simp only [wp, stp, drp, entL, eL, lget, lset, okst, cnd, swt, rcv, Kr_int, Kr_bool, Kr_void, List.length_cons, List.length_nil, List.replicate, List.append_nil, List.cons_append, List.nil_append, List.take_succ_cons, List.take_zero, List.drop_succ_cons, List.drop_zero, List.reverse_cons, List.reverse_nil, Option.map_some, Option.map_none, Option.toList_some, Option.toList_none, Nat.reduceAdd, Nat.reduceSub, Nat.reduceLT, Nat.reduceLeDiff, Nat.reduceEqDiff, ↓reduceIte, Nat.add_zero, Nat.zero_add, true_and, and_true, Nat.le_refl, reduceCtorEq, false_implies, true_implies, not_true_eq_false, not_false_eq_true, Int.reduceAdd, Int.reduceSub, Int.reduceMul, Int.reduceLE, Int.reduceLT, Int.reduceEq, Int.reduceNe, Int.reduceNeg, Int.reduceDiv, Int.reduceMod, Bool.false_eq_true, Int.le_refl, and_self, true_or, or_true, inR_l, fv0, fv1, fv2, fv3, nc2, nc4, nc6, nc16, nc25, nc60, nc65, nc80, nc130, nc384, nc390, fp_0_0, fp_0_1, fp_0_2, fp_1_0, fp_1_1, fp_1_2, fp_1_3, fp_1_4, fp_1_5, fp_1_6, fp_1_7, fp_1_8, fp_1_9, fp_1_10, fp_1_11, fp_1_12, fp_1_13, fp_1_14, fp_2_0, fp_2_1, fp_2_2, fp_2_3, fp_3_0, fp_3_1, fp_4_0, fp_4_1, fp_4_2, fp_4_3, fp_4_4, fp_4_5, fp_4_6, fp_4_7, fp_5_0, fp_5_1, fp_5_2, fp_5_3, fp_5_4, fp_5_5, fp_5_6, fp_5_7, fp_6_0, fp_6_1, fp_6_2, fp_6_3, fp_6_4, fp_6_5, fp_6_6, fp_6_7, fp_6_8, fp_6_9, fp_6_10, fp_6_11, fp_6_12, fp_6_13, fp_6_14, fp_6_15, fp_7_0, fp_7_1, fp_7_2, fp_7_3, fp_7_4, fp_7_5, fp_7_6, fp_7_7, fp_7_8, fp_7_9, fp_7_10, fp_7_11, fp_7_12, fp_7_13, fp_7_14, fp_7_15, fp_7_16, fp_7_17, fp_7_18, fp_7_19, fp_7_20, fp_7_21, fp_7_22, fp_7_23, fp_7_24, iz_0_1, iz_0_2, iz_1_8, iz_1_9, iz_1_11, iz_2_1, iz_2_2, iz_2_3, iz_3_1, iz_4_1, iz_4_2, iz_5_0, iz_6_8, iz_6_9, iz_6_13, iz_6_14, iz_6_15, iz_7_2, iz_7_6, iz_7_12, iz_7_20, iz_7_21, iz_7_23, iz_7_24, ak_8, ak_9, ak_10, ak_11, ak_12, ak_13, ak_14, ak_15, ak_16, ak_17, ak_18, ak_19, ak_20, ak_21, ak_22, ak_23, ak_24, ak_25, ak_26, ak_27, ak_28, ak_29, ak_30, ak_31, ak_32, ak_33, ak_34, ak_35, ak_36, ak_37, ak_38, ak_39, ak_40, ak_41, ak_42, ak_43, ak_44, ak_45, ak_46, ak_47, ak_48, ak_49, ak_50, ak_51, ak_52, ak_53, ak_54, ak_55, ak_56, el31, el33, el34, CX7_fault, ca_X7_fault, frX7, kcX7, klX7, T_X7_in2, T_X7_faultOf, up_ap]
      obtain ⟨p, h1, h2, h3⟩ := h
      refine ⟨fun a => ⟨⟨p.1, p.2, by omega⟩, fun σ1 hE => ?_⟩, fun a => h3 (by omega) (by omega)⟩
      rcases hE with ⟨e, hE⟩ | ⟨e, hE⟩
      · subst e
        have : fltF (xT σ) (xL σ) 0 = rtsF (xT σ) (xL σ) := if_pos rfl
        rw [this]
        exact h1 rfl σ1 hE
      · subst e
        have : fltF (xT σ) (xL σ) 1 = plnF (xT σ) (xL σ) := if_neg (by omega)
        rw [this]
        exact h2 rfl σ1 hE
    · exact h.elim
def ca_X7_loadPlan : Nat → Option (Nat × Nat × Tr)
  | 296 => some (2, 7, T_X7_faultOf)
  | 299 => some (2, 7, T_X7_fitsOrder)
  | 91 => some (1, 7, T_X7_keep2)
  | 139 => some (1, 7, T_X7_find)
  | _ => none
theorem cao_X7_loadPlan (l : Launch) : ∀ k n' ci T', ca_X7_loadPlan k = some (n', ci, T') → ∃ nn, nn + 1 ≤ 5 ∧ Site l yX7_loadPlan.cls k n' ci nn T' := by
  intro k n' ci T' h
  unfold ca_X7_loadPlan at h
  split at h
  · cases h; exact ⟨4, by decide, _, _, _, _, k_X7_faultOf l, Or.inl ⟨_, rfl, FX7_faultOf, KRX7_296⟩⟩
  · cases h; exact ⟨2, by decide, _, _, _, _, k_X7_fitsOrder l, Or.inl ⟨_, rfl, FX7_fitsOrder, KRX7_299⟩⟩
  · cases h; exact ⟨0, by decide, _, _, _, _, k_X7_keep2 l, Or.inl ⟨_, rfl, FX7_keep, KRX7_91⟩⟩
  · cases h; exact ⟨4, by decide, _, _, _, _, k_X7_find l, Or.inl ⟨_, rfl, FX7_find, KRX7_139⟩⟩
  · cases h
def T_X7_loadPlan : Tr := fun a σ K => match a with
  | [.inr (.inl (7, 0))] => (rWF σ ∧ pmB σ ∧ 0 ≤ xL σ ∧ xL σ ≤ 80) ∧ (∀ σ1, OFe σ σ1 → plnF (xT σ) (xL σ) ≠ -6 → K (some (-3)) σ1) ∧ (∀ σ1, OFe σ σ1 → plnF (xT σ) (xL σ) = -6 → ¬ fitR σ1 (σ1 7 0 23) → K (some (-5)) σ1) ∧ (∀ σ1 σ2 σ3 σ4, OFe σ σ1 → plnF (xT σ) (xL σ) = -6 → fitR σ1 (σ1 7 0 23) → KEE σ1 σ2 → LPr σ2 σ3 (σ2 7 0 23) 0 → σ4 = up σ3 7 0 6 0 → rWF σ4 → (∀ σ5, Fnd σ4 σ5 → K (some 1) σ5) ∧ (∀ σ5, FrG pFd σ4 σ5 → (∀ h, ¬ rH σ4 h) → K (some 0) σ5))
  | _ => False
set_option maxHeartbeats 8000000 in
set_option maxRecDepth 20000 in
theorem k_X7_loadPlan (l : Launch) : Ct l yX7_loadPlan cX7_loadPlan 3 (some .int) 5 T_X7_loadPlan := by
  refine mk_met (by decide +kernel) hCX7_loadPlan lCX7_loadPlan frX7_ok cstX7_ok (cao_X7_loadPlan l) ?_ ?_
  · intro a σ K h
    unfold T_X7_loadPlan at h
    split at h
    · simp [eL]
    · exact h.elim
  · intro a σ K ha hR h
    unfold T_X7_loadPlan at h
    split at h
    · refine ⟨fun pc => if pc = 15 then some (fun L S σ' k => match L, S with | [some (.inr (.inl c1)), some (.inl k'), _], [] => (c1 = (7, 0) ∧ 0 ≤ k' ∧ OFe σ σ' ∧ plnF (xT σ) (xL σ) = -6 ∧ k' ≤ σ' 7 0 23 ∧ fitR σ' k') ∧ k = (1000 - k').toNat | _, _ => False) else if pc = 49 then some (fun L S σ' k => match L, S with | [some (.inr (.inl c1)), some (.inl k'), _], [] => (c1 = (7, 0) ∧ 0 ≤ k' ∧ ∃ σ1 σ2, OFe σ σ1 ∧ plnF (xT σ) (xL σ) = -6 ∧ fitR σ1 (σ1 7 0 23) ∧ KEE σ1 σ2 ∧ k' ≤ σ2 7 0 23 ∧ LPr σ2 σ' k' 0) ∧ k = ((10 - k') * 20).toNat | _, _ => False) else if pc = 59 then some (fun L S σ' k => match L, S with | [some (.inr (.inl c1)), some (.inl k'), some (.inl i')], [] => (c1 = (7, 0) ∧ 0 ≤ k' ∧ 0 ≤ i' ∧ ∃ σ1 σ2, OFe σ σ1 ∧ plnF (xT σ) (xL σ) = -6 ∧ fitR σ1 (σ1 7 0 23) ∧ KEE σ1 σ2 ∧ k' < σ2 7 0 23 ∧ i' ≤ σ2 55 0 (11 * k' + 1) ∧ LPr σ2 σ' k' i') ∧ k = ((10 - k') * 20 - 1 - i').toNat | _, _ => False) else none, 200, ?_, ?_⟩
      · intro pc I L S σ' k hcut hi
        dsimp only at hcut
        split at hcut
        · rename_i hpc
          subst hpc
          cases hcut
          try dsimp only at hi
          split at hi
          · rename_i c1 k' x1
            obtain ⟨hi, rfl⟩ := hi
            obtain ⟨rfl, k0, hE, hp, k4, hI⟩ := hi
            obtain ⟨⟨p, p2, p3⟩, h1, h2, h3⟩ := h
            simp only [wp, stp, drp, entL, eL, lget, lset, okst, cnd, swt, rcv, Kr_int, Kr_bool, Kr_void, List.length_cons, List.length_nil, List.replicate, List.append_nil, List.cons_append, List.nil_append, List.take_succ_cons, List.take_zero, List.drop_succ_cons, List.drop_zero, List.reverse_cons, List.reverse_nil, Option.map_some, Option.map_none, Option.toList_some, Option.toList_none, Nat.reduceAdd, Nat.reduceSub, Nat.reduceLT, Nat.reduceLeDiff, Nat.reduceEqDiff, ↓reduceIte, Nat.add_zero, Nat.zero_add, true_and, and_true, Nat.le_refl, reduceCtorEq, false_implies, true_implies, not_true_eq_false, not_false_eq_true, Int.reduceAdd, Int.reduceSub, Int.reduceMul, Int.reduceLE, Int.reduceLT, Int.reduceEq, Int.reduceNe, Int.reduceNeg, Int.reduceDiv, Int.reduceMod, Bool.false_eq_true, Int.le_refl, and_self, true_or, or_true, inR_l, fv0, fv1, fv2, fv3, nc2, nc4, nc6, nc16, nc25, nc60, nc65, nc80, nc130, nc384, nc390, fp_0_0, fp_0_1, fp_0_2, fp_1_0, fp_1_1, fp_1_2, fp_1_3, fp_1_4, fp_1_5, fp_1_6, fp_1_7, fp_1_8, fp_1_9, fp_1_10, fp_1_11, fp_1_12, fp_1_13, fp_1_14, fp_2_0, fp_2_1, fp_2_2, fp_2_3, fp_3_0, fp_3_1, fp_4_0, fp_4_1, fp_4_2, fp_4_3, fp_4_4, fp_4_5, fp_4_6, fp_4_7, fp_5_0, fp_5_1, fp_5_2, fp_5_3, fp_5_4, fp_5_5, fp_5_6, fp_5_7, fp_6_0, fp_6_1, fp_6_2, fp_6_3, fp_6_4, fp_6_5, fp_6_6, fp_6_7, fp_6_8, fp_6_9, fp_6_10, fp_6_11, fp_6_12, fp_6_13, fp_6_14, fp_6_15, fp_7_0, fp_7_1, fp_7_2, fp_7_3, fp_7_4, fp_7_5, fp_7_6, fp_7_7, fp_7_8, fp_7_9, fp_7_10, fp_7_11, fp_7_12, fp_7_13, fp_7_14, fp_7_15, fp_7_16, fp_7_17, fp_7_18, fp_7_19, fp_7_20, fp_7_21, fp_7_22, fp_7_23, fp_7_24, iz_0_1, iz_0_2, iz_1_8, iz_1_9, iz_1_11, iz_2_1, iz_2_2, iz_2_3, iz_3_1, iz_4_1, iz_4_2, iz_5_0, iz_6_8, iz_6_9, iz_6_13, iz_6_14, iz_6_15, iz_7_2, iz_7_6, iz_7_12, iz_7_20, iz_7_21, iz_7_23, iz_7_24, ak_8, ak_9, ak_10, ak_11, ak_12, ak_13, ak_14, ak_15, ak_16, ak_17, ak_18, ak_19, ak_20, ak_21, ak_22, ak_23, ak_24, ak_25, ak_26, ak_27, ak_28, ak_29, ak_30, ak_31, ak_32, ak_33, ak_34, ak_35, ak_36, ak_37, ak_38, ak_39, ak_40, ak_41, ak_42, ak_43, ak_44, ak_45, ak_46, ak_47, ak_48, ak_49, ak_50, ak_51, ak_52, ak_53, ak_54, ak_55, ak_56, el31, el33, el34, CX7_loadPlan, ca_X7_loadPlan, frX7, kcX7, klX7, T_X7_faultOf, T_X7_fitsOrder, T_X7_keep2, T_X7_find, up_ap, exists_eq_right_right, exists_eq_right, exists_eq_left, Nat.lt_irrefl, and_self, implies_true, forall_const]
            have hO : OOk σ' _ _ := hE.2 hp
            have e38 := pRt_38 hE.1
            have w1 : rWF σ' := (r38 e38).2.2.2.2.2.2.2.1.mpr p
            have e7 : σ' 7 0 2 = σ 7 0 2 := hE.1 7 0 2 (by unfold pRt; omega)
            have pm : 0 ≤ σ' 7 0 2 ∧ σ' 7 0 2 ≤ 6 := by rw [e7]; exact p2
            have h23 := hO.2.1
            refine ⟨fun c => ⟨pm, fun σ2 hK => ⟨by have t2 : Int.toNat 200 = 200 := rfl; omega, σ', σ2, hE, hp, ?_, hK, ?_, LPr_0⟩⟩, fun c => ?_⟩
            · rw [show σ' 7 0 23 = k' by omega]
              exact hI
            · rw [(KEE_k hK).2.1]
              have := hO.1
              omega
            · have P := OOk_p hO k0 (by omega)
              refine ⟨by simp only [inR]; omega, ⟨w1, by omega, by omega, P.1, P.2.1, P.2.2.1, P.2.2.2.1, fun i i1 i2 => (P.2.2.2.2.2.2 i i1 i2).2⟩, fun f => ⟨by simp only [inR]; omega, by omega, by omega, hE, hp, by omega, (fitR_s k0).mpr ⟨hI, f⟩⟩, fun f => h2 σ' hE hp (fun z => f (z k' k0 (by omega)))⟩
          · exact hi.elim
        · split at hcut
          · rename_i hpc
            subst hpc
            cases hcut
            try dsimp only at hi
            split at hi
            · rename_i c1 k' x1
              obtain ⟨hi, rfl⟩ := hi
              obtain ⟨rfl, k0, σ1, σ2, hE, hp, hf, hK, k4, hI⟩ := hi
              obtain ⟨⟨p, p2, p3⟩, h1, h2, h3⟩ := h
              simp only [wp, stp, drp, entL, eL, lget, lset, okst, cnd, swt, rcv, Kr_int, Kr_bool, Kr_void, List.length_cons, List.length_nil, List.replicate, List.append_nil, List.cons_append, List.nil_append, List.take_succ_cons, List.take_zero, List.drop_succ_cons, List.drop_zero, List.reverse_cons, List.reverse_nil, Option.map_some, Option.map_none, Option.toList_some, Option.toList_none, Nat.reduceAdd, Nat.reduceSub, Nat.reduceLT, Nat.reduceLeDiff, Nat.reduceEqDiff, ↓reduceIte, Nat.add_zero, Nat.zero_add, true_and, and_true, Nat.le_refl, reduceCtorEq, false_implies, true_implies, not_true_eq_false, not_false_eq_true, Int.reduceAdd, Int.reduceSub, Int.reduceMul, Int.reduceLE, Int.reduceLT, Int.reduceEq, Int.reduceNe, Int.reduceNeg, Int.reduceDiv, Int.reduceMod, Bool.false_eq_true, Int.le_refl, and_self, true_or, or_true, inR_l, fv0, fv1, fv2, fv3, nc2, nc4, nc6, nc16, nc25, nc60, nc65, nc80, nc130, nc384, nc390, fp_0_0, fp_0_1, fp_0_2, fp_1_0, fp_1_1, fp_1_2, fp_1_3, fp_1_4, fp_1_5, fp_1_6, fp_1_7, fp_1_8, fp_1_9, fp_1_10, fp_1_11, fp_1_12, fp_1_13, fp_1_14, fp_2_0, fp_2_1, fp_2_2, fp_2_3, fp_3_0, fp_3_1, fp_4_0, fp_4_1, fp_4_2, fp_4_3, fp_4_4, fp_4_5, fp_4_6, fp_4_7, fp_5_0, fp_5_1, fp_5_2, fp_5_3, fp_5_4, fp_5_5, fp_5_6, fp_5_7, fp_6_0, fp_6_1, fp_6_2, fp_6_3, fp_6_4, fp_6_5, fp_6_6, fp_6_7, fp_6_8, fp_6_9, fp_6_10, fp_6_11, fp_6_12, fp_6_13, fp_6_14, fp_6_15, fp_7_0, fp_7_1, fp_7_2, fp_7_3, fp_7_4, fp_7_5, fp_7_6, fp_7_7, fp_7_8, fp_7_9, fp_7_10, fp_7_11, fp_7_12, fp_7_13, fp_7_14, fp_7_15, fp_7_16, fp_7_17, fp_7_18, fp_7_19, fp_7_20, fp_7_21, fp_7_22, fp_7_23, fp_7_24, iz_0_1, iz_0_2, iz_1_8, iz_1_9, iz_1_11, iz_2_1, iz_2_2, iz_2_3, iz_3_1, iz_4_1, iz_4_2, iz_5_0, iz_6_8, iz_6_9, iz_6_13, iz_6_14, iz_6_15, iz_7_2, iz_7_6, iz_7_12, iz_7_20, iz_7_21, iz_7_23, iz_7_24, ak_8, ak_9, ak_10, ak_11, ak_12, ak_13, ak_14, ak_15, ak_16, ak_17, ak_18, ak_19, ak_20, ak_21, ak_22, ak_23, ak_24, ak_25, ak_26, ak_27, ak_28, ak_29, ak_30, ak_31, ak_32, ak_33, ak_34, ak_35, ak_36, ak_37, ak_38, ak_39, ak_40, ak_41, ak_42, ak_43, ak_44, ak_45, ak_46, ak_47, ak_48, ak_49, ak_50, ak_51, ak_52, ak_53, ak_54, ak_55, ak_56, el31, el33, el34, CX7_loadPlan, ca_X7_loadPlan, frX7, kcX7, klX7, T_X7_faultOf, T_X7_fitsOrder, T_X7_keep2, T_X7_find, up_ap, exists_eq_right_right, exists_eq_right, exists_eq_left, Nat.lt_irrefl, and_self, implies_true, forall_const]
              have hO2 := KEE_OO hK (hE.2 hp)
              have e23 : σ' 7 0 23 = σ2 7 0 23 := hI.1 7 0 23 (by omega)
              have w2 : rWF σ2 := KEE_r ((r38 (pRt_38 hE.1)).2.2.2.2.2.2.2.1.mpr p) hK
              have l4 := hO2.2.1
              refine ⟨fun c => ?_, fun c => ⟨by omega, k0, σ1, σ2, hE, hp, hf, hK, by omega, (OOk_p hO2 k0 (by omega)).2.2.1, hI⟩⟩
              have ek : k' = σ2 7 0 23 := by omega
              rw [ek] at hI
              have hf2 := (KEE_fit (k := σ2 7 0 23) hK).mpr (by rw [(KEE_k hK).2.1]; exact hf)
              have w3 := LPr_w w2 hO2 hf2 hI
              have e38 : up σ' 7 0 6 0 38 0 = σ' 38 0 := funext fun x => by rw [up_ap, if_neg (by rintro ⟨z, -⟩; omega)]
              have w4 : rWF (up σ' 7 0 6 0) := (r38 e38).2.2.2.2.2.2.2.1.mpr w3.1
              have r := h3 σ1 σ2 σ' _ hE hp hf hK hI rfl w4
              exact ⟨w4, r.1, r.2⟩
            · exact hi.elim
          · split at hcut
            · rename_i hpc
              subst hpc
              cases hcut
              try dsimp only at hi
              split at hi
              · rename_i c1 k' i'
                obtain ⟨hi, rfl⟩ := hi
                obtain ⟨rfl, k0, i0, σ1, σ2, hE, hp, hf, hK, k4, i4, hI⟩ := hi
                obtain ⟨⟨p, p2, p3⟩, h1, h2, h3⟩ := h
                simp only [wp, stp, drp, entL, eL, lget, lset, okst, cnd, swt, rcv, Kr_int, Kr_bool, Kr_void, List.length_cons, List.length_nil, List.replicate, List.append_nil, List.cons_append, List.nil_append, List.take_succ_cons, List.take_zero, List.drop_succ_cons, List.drop_zero, List.reverse_cons, List.reverse_nil, Option.map_some, Option.map_none, Option.toList_some, Option.toList_none, Nat.reduceAdd, Nat.reduceSub, Nat.reduceLT, Nat.reduceLeDiff, Nat.reduceEqDiff, ↓reduceIte, Nat.add_zero, Nat.zero_add, true_and, and_true, Nat.le_refl, reduceCtorEq, false_implies, true_implies, not_true_eq_false, not_false_eq_true, Int.reduceAdd, Int.reduceSub, Int.reduceMul, Int.reduceLE, Int.reduceLT, Int.reduceEq, Int.reduceNe, Int.reduceNeg, Int.reduceDiv, Int.reduceMod, Bool.false_eq_true, Int.le_refl, and_self, true_or, or_true, inR_l, fv0, fv1, fv2, fv3, nc2, nc4, nc6, nc16, nc25, nc60, nc65, nc80, nc130, nc384, nc390, fp_0_0, fp_0_1, fp_0_2, fp_1_0, fp_1_1, fp_1_2, fp_1_3, fp_1_4, fp_1_5, fp_1_6, fp_1_7, fp_1_8, fp_1_9, fp_1_10, fp_1_11, fp_1_12, fp_1_13, fp_1_14, fp_2_0, fp_2_1, fp_2_2, fp_2_3, fp_3_0, fp_3_1, fp_4_0, fp_4_1, fp_4_2, fp_4_3, fp_4_4, fp_4_5, fp_4_6, fp_4_7, fp_5_0, fp_5_1, fp_5_2, fp_5_3, fp_5_4, fp_5_5, fp_5_6, fp_5_7, fp_6_0, fp_6_1, fp_6_2, fp_6_3, fp_6_4, fp_6_5, fp_6_6, fp_6_7, fp_6_8, fp_6_9, fp_6_10, fp_6_11, fp_6_12, fp_6_13, fp_6_14, fp_6_15, fp_7_0, fp_7_1, fp_7_2, fp_7_3, fp_7_4, fp_7_5, fp_7_6, fp_7_7, fp_7_8, fp_7_9, fp_7_10, fp_7_11, fp_7_12, fp_7_13, fp_7_14, fp_7_15, fp_7_16, fp_7_17, fp_7_18, fp_7_19, fp_7_20, fp_7_21, fp_7_22, fp_7_23, fp_7_24, iz_0_1, iz_0_2, iz_1_8, iz_1_9, iz_1_11, iz_2_1, iz_2_2, iz_2_3, iz_3_1, iz_4_1, iz_4_2, iz_5_0, iz_6_8, iz_6_9, iz_6_13, iz_6_14, iz_6_15, iz_7_2, iz_7_6, iz_7_12, iz_7_20, iz_7_21, iz_7_23, iz_7_24, ak_8, ak_9, ak_10, ak_11, ak_12, ak_13, ak_14, ak_15, ak_16, ak_17, ak_18, ak_19, ak_20, ak_21, ak_22, ak_23, ak_24, ak_25, ak_26, ak_27, ak_28, ak_29, ak_30, ak_31, ak_32, ak_33, ak_34, ak_35, ak_36, ak_37, ak_38, ak_39, ak_40, ak_41, ak_42, ak_43, ak_44, ak_45, ak_46, ak_47, ak_48, ak_49, ak_50, ak_51, ak_52, ak_53, ak_54, ak_55, ak_56, el31, el33, el34, CX7_loadPlan, ca_X7_loadPlan, frX7, kcX7, klX7, T_X7_faultOf, T_X7_fitsOrder, T_X7_keep2, T_X7_find, up_ap, exists_eq_right_right, exists_eq_right, exists_eq_left, Nat.lt_irrefl, and_self, implies_true, forall_const]
                have hO2 := KEE_OO hK (hE.2 hp)
                have e23 : σ' 7 0 23 = σ2 7 0 23 := hI.1 7 0 23 (by omega)
                have e55 : σ' 55 0 = σ2 55 0 := hI.1.f 55 0 (by rintro x ⟨q, -⟩; omega)
                have P := OOk_p hO2 k0 k4
                have l4 := hO2.2.1
                rw [e55]
                exact ⟨by simp only [inR]; omega, by simp only [inR]; omega, by omega, fun c => ⟨by simp only [inR]; omega, by omega, by omega, σ1, σ2, hE, hp, hf, hK, by omega, LPr_k hI (by omega)⟩, fun c => ⟨by simp only [inR]; omega, by omega, by simp only [inR]; omega, by simp only [inR]; omega, by simp only [inR]; omega, by simp only [inR]; omega, by simp only [inR]; omega, by simp only [inR]; omega, by omega, by omega, by simp only [inR]; omega, by omega, k0, by omega, σ1, σ2, hE, hp, hf, hK, k4, by omega, LPr_s hO2 k0 k4 i0 (by omega) hI rfl⟩⟩
              · exact hi.elim
            · cases hcut
      · simp only [wp, stp, drp, entL, eL, lget, lset, okst, cnd, swt, rcv, Kr_int, Kr_bool, Kr_void, List.length_cons, List.length_nil, List.replicate, List.append_nil, List.cons_append, List.nil_append, List.take_succ_cons, List.take_zero, List.drop_succ_cons, List.drop_zero, List.reverse_cons, List.reverse_nil, Option.map_some, Option.map_none, Option.toList_some, Option.toList_none, Nat.reduceAdd, Nat.reduceSub, Nat.reduceLT, Nat.reduceLeDiff, Nat.reduceEqDiff, ↓reduceIte, Nat.add_zero, Nat.zero_add, true_and, and_true, Nat.le_refl, reduceCtorEq, false_implies, true_implies, not_true_eq_false, not_false_eq_true, Int.reduceAdd, Int.reduceSub, Int.reduceMul, Int.reduceLE, Int.reduceLT, Int.reduceEq, Int.reduceNe, Int.reduceNeg, Int.reduceDiv, Int.reduceMod, Bool.false_eq_true, Int.le_refl, and_self, true_or, or_true, inR_l, fv0, fv1, fv2, fv3, nc2, nc4, nc6, nc16, nc25, nc60, nc65, nc80, nc130, nc384, nc390, fp_0_0, fp_0_1, fp_0_2, fp_1_0, fp_1_1, fp_1_2, fp_1_3, fp_1_4, fp_1_5, fp_1_6, fp_1_7, fp_1_8, fp_1_9, fp_1_10, fp_1_11, fp_1_12, fp_1_13, fp_1_14, fp_2_0, fp_2_1, fp_2_2, fp_2_3, fp_3_0, fp_3_1, fp_4_0, fp_4_1, fp_4_2, fp_4_3, fp_4_4, fp_4_5, fp_4_6, fp_4_7, fp_5_0, fp_5_1, fp_5_2, fp_5_3, fp_5_4, fp_5_5, fp_5_6, fp_5_7, fp_6_0, fp_6_1, fp_6_2, fp_6_3, fp_6_4, fp_6_5, fp_6_6, fp_6_7, fp_6_8, fp_6_9, fp_6_10, fp_6_11, fp_6_12, fp_6_13, fp_6_14, fp_6_15, fp_7_0, fp_7_1, fp_7_2, fp_7_3, fp_7_4, fp_7_5, fp_7_6, fp_7_7, fp_7_8, fp_7_9, fp_7_10, fp_7_11, fp_7_12, fp_7_13, fp_7_14, fp_7_15, fp_7_16, fp_7_17, fp_7_18, fp_7_19, fp_7_20, fp_7_21, fp_7_22, fp_7_23, fp_7_24, iz_0_1, iz_0_2, iz_1_8, iz_1_9, iz_1_11, iz_2_1, iz_2_2, iz_2_3, iz_3_1, iz_4_1, iz_4_2, iz_5_0, iz_6_8, iz_6_9, iz_6_13, iz_6_14, iz_6_15, iz_7_2, iz_7_6, iz_7_12, iz_7_20, iz_7_21, iz_7_23, iz_7_24, ak_8, ak_9, ak_10, ak_11, ak_12, ak_13, ak_14, ak_15, ak_16, ak_17, ak_18, ak_19, ak_20, ak_21, ak_22, ak_23, ak_24, ak_25, ak_26, ak_27, ak_28, ak_29, ak_30, ak_31, ak_32, ak_33, ak_34, ak_35, ak_36, ak_37, ak_38, ak_39, ak_40, ak_41, ak_42, ak_43, ak_44, ak_45, ak_46, ak_47, ak_48, ak_49, ak_50, ak_51, ak_52, ak_53, ak_54, ak_55, ak_56, el31, el33, el34, CX7_loadPlan, ca_X7_loadPlan, frX7, kcX7, klX7, T_X7_faultOf, T_X7_fitsOrder, T_X7_keep2, T_X7_find, up_ap, exists_eq_right_right, exists_eq_right, exists_eq_left, Nat.lt_irrefl, and_self, implies_true, forall_const]
        obtain ⟨⟨p, p2, p3⟩, h1, h2, h3⟩ := h
        refine ⟨p3, fun σ1 hE => ?_⟩
        have ef : fltF (xT σ) (xL σ) 1 = plnF (xT σ) (xL σ) := if_neg (by omega)
        rw [ef]
        rcases hE with ⟨e, -⟩ | ⟨-, hE⟩
        · omega
        · exact ⟨fun a => ⟨hE, a, by have := (hE.2 a).1; omega, fun m a b => by omega⟩, fun a => h1 σ1 hE a⟩
    · exact h.elim
