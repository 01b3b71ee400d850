/-! texts: the class -/
def LPo (σ σ' : Mem) (m : Int) : Prop := (∀ t a x, ¬ (a = 0 ∧ (t = 13 ∨ t = 14)) → σ' t a x = σ t a x) ∧ ∀ m', 0 ≤ m' → m' < 4 → σ' 13 0 m' = σ 13 0 m' ∧ ∀ k, 0 ≤ k → k < σ 13 0 m' → σ' 14 0 (4 * m' + k) = cif (m' < m ∧ hasB (σ 2 0 3) m') (σ 14 1 (4 * m' + k)) (σ 14 0 (4 * m' + k))
/-- the named orders are of the same jobs, for the machines below m -/
def fitC (σ : Mem) (m : Int) : Prop := ∀ m', 0 ≤ m' → m' < m → hasB (σ 2 0 3) m' → sF (σ 14 1) (4 * m') (σ 13 1 m') = sF (σ 14 0) (4 * m') (σ 13 0 m')
theorem bit16 : ∀ s t : Fin 16, (∀ k : Fin 4, (band (bshr (s.val : Int) (k.val : Int)) 1 ≠ 0) ↔ (band (bshr (t.val : Int) (k.val : Int)) 1 ≠ 0)) → s = t := by
  simp only [band_eq, bshr_eq]
  decide
theorem hasB_ext {s t : Int} (s0 : 0 ≤ s) (s1 : s < 16) (t0 : 0 ≤ t) (t1 : t < 16) (h : ∀ k, 0 ≤ k → k < 4 → (hasB s k ↔ hasB t k)) : s = t := by
  have := bit16 ⟨s.toNat, by omega⟩ ⟨t.toNat, by omega⟩ (fun k => by
    have := h k.val (by omega) (by have := k.isLt; omega)
    unfold hasB at this
    simp only [Int.toNat_of_nonneg s0, Int.toNat_of_nonneg t0]
    exact this)
  have e : s.toNat = t.toNat := congrArg Fin.val this
  omega
/-- orders of the same jobs -/
theorem inq_perm {f g : Int → Int} {b n n' : Int} (hf : oOK f b n) (hg : oOK g b n') (h : ∀ x, 0 ≤ x → x < 4 → (inq f b n x ↔ inq g b n' x)) : n = n' ∧ PRM n (fun k => f (b + k)) (fun k => g (b + k)) := by
  have half : ∀ {f g : Int → Int} {n n' : Int}, oOK f b n → oOK g b n' → (∀ x, 0 ≤ x → x < 4 → (inq f b n x ↔ inq g b n' x)) → ∃ p : Int → Int, ∀ k, 0 ≤ k → k < n → 0 ≤ p k ∧ p k < n' ∧ g (b + p k) = f (b + k) := by
    intro f g n n' hf hg h
    have ex : ∀ k, ∃ x, 0 ≤ k → k < n → 0 ≤ x ∧ x < n' ∧ g (b + x) = f (b + k) := fun k => by
      by_cases c : 0 ≤ k ∧ k < n
      · have d := hf.2.2.1 k c.1 c.2
        obtain ⟨i, i0, i1, e⟩ := (h (f (b + k)) d.1 d.2).mp ⟨k, c.1, c.2, rfl⟩
        exact ⟨i, fun _ _ => ⟨i0, i1, e⟩⟩
      · exact ⟨0, fun a d => absurd ⟨a, d⟩ c⟩
    exact Classical.skolem.mp ex
  have inj : ∀ {f : Int → Int} {n : Int}, oOK f b n → ∀ k k', 0 ≤ k → k < n → 0 ≤ k' → k' < n → f (b + k) = f (b + k') → k = k' := fun hf k k' a c d e q => by
    rcases (show k < k' ∨ k = k' ∨ k' < k by omega) with z | z | z
    · exact absurd q (hf.2.2.2 k k' a z e)
    · exact z
    · exact absurd q.symm (hf.2.2.2 k' k d z c)
  obtain ⟨p, hp⟩ := half hf hg h
  obtain ⟨p', hp'⟩ := half hg hf (fun x a c => (h x a c).symm)
  have le1 := PHq p hf.1 hg.1 (fun x a c => ⟨(hp x a c).1, (hp x a c).2.1⟩) (fun x x' a c d e q => inj hf x x' a c d e (by rw [← (hp x a c).2.2, ← (hp x' d e).2.2, q]))
  have le2 := PHq p' hg.1 hf.1 (fun x a c => ⟨(hp' x a c).1, (hp' x a c).2.1⟩) (fun x x' a c d e q => inj hg x x' a c d e (by rw [← (hp' x a c).2.2, ← (hp' x' d e).2.2, q]))
  have e : n = n' := by omega
  subst e
  exact ⟨rfl, fun k a c => ⟨p k, (hp k a c).1, (hp k a c).2.1, (hp k a c).2.2.symm⟩, fun k a c => ⟨p' k, (hp' k a c).1, (hp' k a c).2.1, (hp' k a c).2.2⟩, fun k k' a c d e q => inj hf k k' a c d e q⟩
theorem sF_perm {f g : Int → Int} {b n n' : Int} (hf : oOK f b n) (hg : oOK g b n') : sF f b n = sF g b n' ↔ ∀ x, 0 ≤ x → x < 4 → (inq f b n x ↔ inq g b n' x) := by
  obtain ⟨a1, a2, a3⟩ := sF_B hf.1 hf.2.1 hf.2.2.1
  obtain ⟨b1, b2, b3⟩ := sF_B hg.1 hg.2.1 hg.2.2.1
  constructor
  · intro e x x0 x1
    rw [← a3 x x0 x1, ← b3 x x0 x1, e]
  · intro h
    exact hasB_ext a1 a2 b1 b2 (fun k k0 k1 => by rw [a3 k k0 k1, b3 k k0 k1]; exact h k k0 k1)
theorem WF_oOK {J : Int} {st mc du ln q : Int → Int} (h : WF J st mc du ln q) {m : Int} (m0 : 0 ≤ m) (m1 : m < 4) : oOK q (4 * m) (ln m) := ⟨(h.2.2.2.2.1 m m0 m1).1, (h.2.2.2.2.1 m m0 m1).2, fun k a b => ⟨(h.2.2.2.2.2.1 m k m0 m1 a b).1, (h.2.2.2.2.2.1 m k m0 m1 a b).2.1⟩, fun k k' a b c e => by
  have := h.2.2.2.2.2.2.1 m k k' m0 m1 a (by omega) (by omega) c e
  omega⟩
/-- what was read, behind record -/
def lpR (σ σ1 : Mem) : Prop := plE σ σ1 1 ∧ plnF (cT σ) (cL σ) = -6
theorem lpR_e {σ σ1 : Mem} (h : FrG (pPl 1) σ σ1) (t a : Nat) (ht : a = 0 ∧ t ≠ 2) : σ1 t a = σ t a := h.f t a (by rintro x (⟨q, -⟩ | ⟨q, -⟩) <;> omega)
theorem oOK_l {σ1 : Mem} {ln q : Int → Int} (h : PL σ1 1 ln q) {m : Int} (m0 : 0 ≤ m) (m1 : m < 4) : oOK (σ1 14 1) (4 * m) (σ1 13 1 m) := by
  obtain ⟨-, -, h3⟩ := h
  obtain ⟨-, -, a, b⟩ := h3 m m0 m1
  refine ⟨a.1, a.2.1, fun k k0 k1 => ?_, fun k k' k0 kk k1 => ?_⟩
  · rw [b k k0 k1]
    exact a.2.2.1 k k0 k1
  · rw [b k k0 (by omega), b k' (by omega) k1]
    exact a.2.2.2 k k' k0 kk k1
theorem plE_w {σ σ1 : Mem} (hw : sWF σ 0) (h : FrG (pPl 1) σ σ1) : sWF σ1 0 := (sWF_cg (fun t q => lpR_e h t 0 (by omega))).mpr hw
theorem plE_h {σ σ1 : Mem} (hh : hsB σ) (h : FrG (pPl 1) σ σ1) : hsB σ1 := by
  unfold hsB
  rw [lpR_e h 0 0 (by omega)]
  exact hh
theorem fitC_s {σ : Mem} {m : Int} (m0 : 0 ≤ m) : fitC σ (m + 1) ↔ fitC σ m ∧ (hasB (σ 2 0 3) m → sF (σ 14 1) (4 * m) (σ 13 1 m) = sF (σ 14 0) (4 * m) (σ 13 0 m)) := by
  constructor
  · intro h
    exact ⟨fun m' a b => h m' a (by omega), fun b => h m m0 (by omega) b⟩
  · rintro ⟨h, h2⟩ m' a b c
    by_cases z : m' = m
    · rw [z] at c ⊢
      exact h2 c
    · exact h m' a (by omega) c
theorem Rec_1 {σ σ' : Mem} (h : RecE σ σ') (t a : Nat) (x : Int) (ht : t ≠ 0 ∧ t ≠ 6 ∧ t ≠ 4 ∧ a < 2) : σ' t a x = σ t a x := RecE_e h t a x (by omega)
theorem Rec_PL {σ σ' : Mem} {ln q : Int → Int} (h : RecE σ σ') (hP : PL σ 1 ln q) : PL σ' 1 ln q := by
  unfold PL at hP ⊢
  have e13 : σ' 13 1 = σ 13 1 := funext fun x => Rec_1 h 13 1 x (by omega)
  have e14 : σ' 14 1 = σ 14 1 := funext fun x => Rec_1 h 14 1 x (by omega)
  rw [e13, e14, Rec_1 h 2 0 3 (by omega)]
  exact hP
theorem Rec_fit {σ σ' : Mem} {m : Int} (h : RecE σ σ') : fitC σ' m ↔ fitC σ m := by
  have e13 : σ' 13 1 = σ 13 1 := funext fun x => Rec_1 h 13 1 x (by omega)
  have e14 : σ' 14 1 = σ 14 1 := funext fun x => Rec_1 h 14 1 x (by omega)
  unfold fitC
  rw [e13, e14, Rec_1 h 2 0 3 (by omega), Rec_w h 13 (by omega), Rec_w h 14 (by omega)]
theorem LPo_0 {σ : Mem} : LPo σ σ 0 := ⟨fun _ _ _ _ => rfl, fun m' a b => ⟨rfl, fun k _ _ => by rw [cif_0 (by omega)]⟩⟩
theorem LPo_n {σ σ' : Mem} {m : Int} (h : LPo σ σ' m) (hn : ¬ hasB (σ 2 0 3) m) : LPo σ σ' (m + 1) := ⟨h.1, fun m' a b => ⟨(h.2 m' a b).1, fun k k0 k1 => by
  rw [(h.2 m' a b).2 k k0 k1]
  by_cases c : m' = m
  · rw [cif_0 (by omega), cif_0 (by rw [c]; exact fun z => hn z.2)]
  · exact cif_cg ⟨fun z => ⟨by omega, z.2⟩, fun z => ⟨by omega, z.2⟩⟩ _ _⟩⟩
theorem LPo_s {σ σ' σ2 : Mem} {m : Int} (h : LPo σ σ' m) (m0 : 0 ≤ m) (m1 : m < 4) (hb : hasB (σ 2 0 3) m) (he : σ 13 1 m = σ 13 0 m) (h4 : σ 13 0 m ≤ 4) (hl : ∀ m', 0 ≤ m' → m' < 4 → σ 13 0 m' ≤ 4) (hT : TO σ' σ2 0 1 m (σ' 13 1 m)) : LPo σ σ2 (m + 1) := by
  obtain ⟨h1, h2⟩ := h
  obtain ⟨t1, t2, t3⟩ := hT
  have e13 : σ' 13 1 m = σ 13 1 m := h1 13 1 m (by omega)
  rw [e13, he] at t1 t2 t3
  refine ⟨fun t a x q => ?_, fun m' a b => ⟨?_, fun k k0 k1 => ?_⟩⟩
  · rw [t1 t a x (fun z => q ⟨z.2.1, Or.inl z.1⟩) (fun z => q ⟨z.2.1, Or.inr z.1⟩)]
    exact h1 t a x q
  · by_cases c : m' = m
    · rw [c]
      exact t2
    · rw [t1 13 0 m' (fun z => c z.2.2) (fun z => by omega)]
      exact (h2 m' a b).1
  · have l := hl m' a b
    by_cases c : m' = m
    · subst c
      rw [t3 k k0 k1, cif_1 ⟨by omega, hb⟩]
      exact h1 14 1 _ (by omega)
    · rw [t1 14 0 _ (fun z => by omega) (fun z => by omega), (h2 m' a b).2 k k0 k1]
      exact cif_cg ⟨fun z => ⟨by omega, z.2⟩, fun z => ⟨by omega, z.2⟩⟩ _ _
theorem LPo_w {σ σ' : Mem} {ln q : Int → Int} (hw : sWF σ 0) (hP : PL σ 1 ln q) (hf : fitC σ 4) (h : LPo σ σ' 4) : sWF σ' 0 := by
  obtain ⟨h1, h2⟩ := h
  have e : ∀ t, t ≠ 13 → t ≠ 14 → σ' t 0 = σ t 0 := fun t a b => funext fun x => h1 t 0 x (by omega)
  have w : WF (σ 5 0 0) (σ 10 0) (σ 11 0) (σ 12 0) (σ 13 0) (σ' 14 0) := WF_arr hw.1 (fun m m0 m1 => by
    have o0 := WF_oOK hw.1 m0 m1
    have o1 := oOK_l hP m0 m1
    have r0 : PRM (σ 13 0 m) (fun k => σ 14 0 (4 * m + k)) (fun k => σ 14 0 (4 * m + k)) := PRM_r (fun k k' a b c d z => hw.1.2.2.2.2.2.2.1 m k k' m0 m1 a b c d z)
    by_cases c : hasB (σ 2 0 3) m
    · have p := inq_perm o1 o0 ((sF_perm o1 o0).mp (hf m m0 m1 c))
      rw [p.1] at p
      exact PRM_cg p.2 (fun k k0 k1 => by rw [(h2 m m0 m1).2 k k0 k1, cif_1 ⟨m1, c⟩])
    · exact PRM_cg r0 (fun k k0 k1 => by rw [(h2 m m0 m1).2 k k0 k1, cif_0 (fun z => c z.2)]))
  have ag : AG (σ 5 0 0) (σ' 5 0 0) (σ 10 0) (σ' 10 0) (σ 11 0) (σ' 11 0) (σ 12 0) (σ' 12 0) (σ 8 0) (σ' 8 0) (σ 13 0) (σ' 13 0) (σ' 14 0) (σ' 14 0) := by
    rw [e 5 (by omega) (by omega), e 10 (by omega) (by omega), e 11 (by omega) (by omega), e 12 (by omega) (by omega), e 8 (by omega) (by omega)]
    exact ⟨rfl, fun _ _ _ => rfl, fun _ _ => ⟨rfl, rfl, rfl⟩, fun m a b => ((h2 m a b).1).symm, fun _ _ _ _ _ _ => rfl⟩
  refine ⟨ag.wf w, ?_⟩
  rw [e 5 (by omega) (by omega), e 8 (by omega) (by omega), e 9 (by omega) (by omega)]
  exact hw.2
def ca_X6_wipe : Nat → Option (Nat × Nat × Tr) := fun _ => none
theorem cao_X6_wipe (l : Launch) : ∀ k n' ci T', ca_X6_wipe k = some (n', ci, T') → ∃ nn, nn + 1 ≤ 0 ∧ Site l yX6_wipe.cls k n' ci nn T' := by
  intro k n' ci T' h
  cases h
def T_X6_wipe : Tr := fun a σ K => match a with
  | [.inr (.inl (6, 0))] => K (some (σ 2 0 1)) (up σ 2 0 1 0)
  | _ => False
set_option maxHeartbeats 4000000 in
set_option maxRecDepth 20000 in
theorem k_X6_wipe (l : Launch) : Ct l yX6_wipe cX6_wipe 2 (some .int) 0 T_X6_wipe := by
  refine mk_met (by decide +kernel) hCX6_wipe lCX6_wipe frX6_ok cstX6_ok (cao_X6_wipe l) ?_ ?_
  · intro a σ K h
    unfold T_X6_wipe at h
    split at h
    · simp [eL]
    · exact h.elim
  · intro a σ K ha hR h
    unfold T_X6_wipe at h
    split at h
    · refine ⟨fun _ => none, 200, fun pc I L S σ' k h => (by cases h), ?_⟩
      simp only [wp, stp, drp, entL, eL, lget, lset, okst, cnd, swt, rcv, Kr_int, Kr_bool, Kr_void, List.length_cons, List.length_nil, List.replicate, List.append_nil, List.cons_append, List.nil_append, List.take_succ_cons, List.take_zero, List.drop_succ_cons, List.drop_zero, List.reverse_cons, List.reverse_nil, Option.map_some, Option.map_none, Option.toList_some, Option.toList_none, Nat.reduceAdd, Nat.reduceSub, Nat.reduceLT, Nat.reduceLeDiff, Nat.reduceEqDiff, ↓reduceIte, Nat.add_zero, Nat.zero_add, true_and, and_true, Nat.le_refl, reduceCtorEq, false_implies, true_implies, not_true_eq_false, not_false_eq_true, Int.reduceAdd, Int.reduceSub, Int.reduceMul, Int.reduceLE, Int.reduceLT, Int.reduceEq, Int.reduceNe, Int.reduceNeg, Int.reduceDiv, Int.reduceMod, Bool.false_eq_true, Int.le_refl, and_self, true_or, or_true, inR_l, fv0, fv1, fv2, fv3, nc2, nc4, nc6, nc16, nc25, nc60, nc65, nc80, nc130, nc384, nc390, fp_0_0, fp_0_1, fp_0_2, fp_1_0, fp_1_1, fp_1_2, fp_1_3, fp_1_4, fp_1_5, fp_1_6, fp_1_7, fp_1_8, fp_1_9, fp_1_10, fp_1_11, fp_1_12, fp_1_13, fp_1_14, fp_2_0, fp_2_1, fp_2_2, fp_2_3, fp_3_0, fp_3_1, fp_4_0, fp_4_1, fp_4_2, fp_4_3, fp_4_4, fp_4_5, fp_4_6, fp_4_7, fp_5_0, fp_5_1, fp_5_2, fp_5_3, fp_5_4, fp_5_5, fp_5_6, fp_5_7, fp_6_0, fp_6_1, fp_6_2, fp_6_3, fp_6_4, fp_6_5, fp_6_6, fp_6_7, fp_6_8, fp_6_9, fp_6_10, fp_6_11, fp_6_12, fp_6_13, fp_6_14, fp_6_15, fp_7_0, fp_7_1, fp_7_2, fp_7_3, fp_7_4, fp_7_5, fp_7_6, fp_7_7, fp_7_8, fp_7_9, fp_7_10, fp_7_11, fp_7_12, fp_7_13, fp_7_14, fp_7_15, fp_7_16, fp_7_17, fp_7_18, fp_7_19, fp_7_20, fp_7_21, fp_7_22, fp_7_23, fp_7_24, iz_0_1, iz_0_2, iz_1_8, iz_1_9, iz_1_11, iz_2_1, iz_2_2, iz_2_3, iz_3_1, iz_4_1, iz_4_2, iz_5_0, iz_6_8, iz_6_9, iz_6_13, iz_6_14, iz_6_15, iz_7_2, iz_7_6, iz_7_12, iz_7_20, iz_7_21, iz_7_23, iz_7_24, ak_8, ak_9, ak_10, ak_11, ak_12, ak_13, ak_14, ak_15, ak_16, ak_17, ak_18, ak_19, ak_20, ak_21, ak_22, ak_23, ak_24, ak_25, ak_26, ak_27, ak_28, ak_29, ak_30, ak_31, ak_32, ak_33, ak_34, ak_35, ak_36, ak_37, ak_38, ak_39, ak_40, ak_41, ak_42, ak_43, ak_44, ak_45, ak_46, ak_47, ak_48, ak_49, ak_50, ak_51, ak_52, ak_53, ak_54, ak_55, ak_56, el31, el33, el34, CX6_wipe, ca_X6_wipe, frX6, kcX6, klX6, xT_up, xL_20, xL_21]
      exact h
    · exact h.elim
def ca_X6_fault : Nat → Option (Nat × Nat × Tr)
  | 230 => some (2, 2, T_X2_readRoutes)
  | 234 => some (2, 2, T_X2_readPlan)
  | _ => none
theorem cao_X6_fault (l : Launch) : ∀ k n' ci T', ca_X6_fault k = some (n', ci, T') → ∃ nn, nn + 1 ≤ 5 ∧ Site l yX6_fault.cls k n' ci nn T' := by
  intro k n' ci T' h
  unfold ca_X6_fault at h
  split at h
  · cases h; exact ⟨4, by decide, _, _, _, _, k_X2_readRoutes l, Or.inl ⟨_, rfl, FX2_readRoutes, KRX6_230⟩⟩
  · cases h; exact ⟨3, by decide, _, _, _, _, k_X2_readPlan l, Or.inl ⟨_, rfl, FX2_readPlan, KRX6_234⟩⟩
  · cases h
def T_X6_fault : Tr := fun a σ K => match a with
  | [.inr (.inl (6, 0)), .inl w] => (0 ≤ cL σ ∧ cL σ ≤ 80) ∧ (w = 0 → ∀ σ1, rtE σ σ1 1 → K (some (rtsF (cT σ) (cL σ))) σ1) ∧ (w = 1 → ∀ σ1, plE σ σ1 1 → K (some (plnF (cT σ) (cL σ))) σ1) ∧ (w ≠ 0 → w ≠ 1 → K (some (-2)) σ)
  | _ => False
set_option maxHeartbeats 4000000 in
set_option maxRecDepth 20000 in
theorem k_X6_fault (l : Launch) : Ct l yX6_fault cX6_fault 2 (some .int) 5 T_X6_fault := by
  refine mk_met (by decide +kernel) hCX6_fault lCX6_fault frX6_ok cstX6_ok (cao_X6_fault l) ?_ ?_
  · intro a σ K h
    unfold T_X6_fault at h
    split at h
    · simp [eL]
    · exact h.elim
  · intro a σ K ha hR h
    unfold T_X6_fault at h
    split at h
    · rename_i w
      refine ⟨fun _ => none, 200, fun pc I L S σ' k h => (by cases h), ?_⟩
      simp only [wp, stp, drp, entL, eL, lget, lset, okst, cnd, swt, rcv, Kr_int, Kr_bool, Kr_void, List.length_cons, List.length_nil, List.replicate, List.append_nil, List.cons_append, List.nil_append, List.take_succ_cons, List.take_zero, List.drop_succ_cons, List.drop_zero, List.reverse_cons, List.reverse_nil, Option.map_some, Option.map_none, Option.toList_some, Option.toList_none, Nat.reduceAdd, Nat.reduceSub, Nat.reduceLT, Nat.reduceLeDiff, Nat.reduceEqDiff, ↓reduceIte, Nat.add_zero, Nat.zero_add, true_and, and_true, Nat.le_refl, reduceCtorEq, false_implies, true_implies, not_true_eq_false, not_false_eq_true, Int.reduceAdd, Int.reduceSub, Int.reduceMul, Int.reduceLE, Int.reduceLT, Int.reduceEq, Int.reduceNe, Int.reduceNeg, Int.reduceDiv, Int.reduceMod, Bool.false_eq_true, Int.le_refl, and_self, true_or, or_true, inR_l, fv0, fv1, fv2, fv3, nc2, nc4, nc6, nc16, nc25, nc60, nc65, nc80, nc130, nc384, nc390, fp_0_0, fp_0_1, fp_0_2, fp_1_0, fp_1_1, fp_1_2, fp_1_3, fp_1_4, fp_1_5, fp_1_6, fp_1_7, fp_1_8, fp_1_9, fp_1_10, fp_1_11, fp_1_12, fp_1_13, fp_1_14, fp_2_0, fp_2_1, fp_2_2, fp_2_3, fp_3_0, fp_3_1, fp_4_0, fp_4_1, fp_4_2, fp_4_3, fp_4_4, fp_4_5, fp_4_6, fp_4_7, fp_5_0, fp_5_1, fp_5_2, fp_5_3, fp_5_4, fp_5_5, fp_5_6, fp_5_7, fp_6_0, fp_6_1, fp_6_2, fp_6_3, fp_6_4, fp_6_5, fp_6_6, fp_6_7, fp_6_8, fp_6_9, fp_6_10, fp_6_11, fp_6_12, fp_6_13, fp_6_14, fp_6_15, fp_7_0, fp_7_1, fp_7_2, fp_7_3, fp_7_4, fp_7_5, fp_7_6, fp_7_7, fp_7_8, fp_7_9, fp_7_10, fp_7_11, fp_7_12, fp_7_13, fp_7_14, fp_7_15, fp_7_16, fp_7_17, fp_7_18, fp_7_19, fp_7_20, fp_7_21, fp_7_22, fp_7_23, fp_7_24, iz_0_1, iz_0_2, iz_1_8, iz_1_9, iz_1_11, iz_2_1, iz_2_2, iz_2_3, iz_3_1, iz_4_1, iz_4_2, iz_5_0, iz_6_8, iz_6_9, iz_6_13, iz_6_14, iz_6_15, iz_7_2, iz_7_6, iz_7_12, iz_7_20, iz_7_21, iz_7_23, iz_7_24, ak_8, ak_9, ak_10, ak_11, ak_12, ak_13, ak_14, ak_15, ak_16, ak_17, ak_18, ak_19, ak_20, ak_21, ak_22, ak_23, ak_24, ak_25, ak_26, ak_27, ak_28, ak_29, ak_30, ak_31, ak_32, ak_33, ak_34, ak_35, ak_36, ak_37, ak_38, ak_39, ak_40, ak_41, ak_42, ak_43, ak_44, ak_45, ak_46, ak_47, ak_48, ak_49, ak_50, ak_51, ak_52, ak_53, ak_54, ak_55, ak_56, el31, el33, el34, CX6_fault, ca_X6_fault, frX6, kcX6, klX6, T_X2_readRoutes, T_X2_readPlan, xT_up, xL_20, xL_21]
      obtain ⟨p, h1, h2, h3⟩ := h
      exact ⟨fun a => ⟨fun b => h3 a b, fun b => ⟨p, fun σ1 hE => h2 (Classical.not_not.mp b) σ1 hE⟩⟩, fun a => ⟨p, fun σ1 hE => h1 (Classical.not_not.mp a) σ1 hE⟩⟩
    · exact h.elim
def ca_X6_loadRoutes : Nat → Option (Nat × Nat × Tr)
  | 230 => some (2, 2, T_X2_readRoutes)
  | 76 => some (1, 6, T_X6_beginChange2)
  | 237 => some (2, 5, T_X5_become)
  | _ => none
theorem cao_X6_loadRoutes (l : Launch) : ∀ k n' ci T', ca_X6_loadRoutes k = some (n', ci, T') → ∃ nn, nn + 1 ≤ 5 ∧ Site l yX6_loadRoutes.cls k n' ci nn T' := by
  intro k n' ci T' h
  unfold ca_X6_loadRoutes at h
  split at h
  · cases h; exact ⟨4, by decide, _, _, _, _, k_X2_readRoutes l, Or.inl ⟨_, rfl, FX2_readRoutes, KRX6_230⟩⟩
  · cases h; exact ⟨3, by decide, _, _, _, _, k_X6_beginChange2 l, Or.inl ⟨_, rfl, FX6_beginChange, KRX6_76⟩⟩
  · cases h; exact ⟨1, by decide, _, _, _, _, k_X5_become l, Or.inl ⟨_, rfl, FX5_become, KRX6_237⟩⟩
  · cases h
def T_X6_loadRoutes : Tr := fun a σ K => match a with
  | [.inr (.inl (6, 0))] => (hsB σ ∧ 0 ≤ cL σ ∧ cL σ ≤ 80) ∧ (∀ σ1, rtE σ σ1 1 → rtsF (cT σ) (cL σ) ≠ -6 → K (some (-3)) σ1) ∧ (∀ σ1 σ2 σ3, rtE σ σ1 1 → rtsF (cT σ) (cL σ) = -6 → RecE σ1 σ2 → BecE σ2 σ3 0 1 → K (some (σ3 5 0 0)) (up σ3 2 0 1 0))
  | _ => False
set_option maxHeartbeats 4000000 in
set_option maxRecDepth 20000 in
theorem k_X6_loadRoutes (l : Launch) : Ct l yX6_loadRoutes cX6_loadRoutes 1 (some .int) 5 T_X6_loadRoutes := by
  refine mk_met (by decide +kernel) hCX6_loadRoutes lCX6_loadRoutes frX6_ok cstX6_ok (cao_X6_loadRoutes l) ?_ ?_
  · intro a σ K h
    unfold T_X6_loadRoutes at h
    split at h
    · simp [eL]
    · exact h.elim
  · intro a σ K ha hR h
    unfold T_X6_loadRoutes at h
    split at h
    · refine ⟨fun _ => none, 200, fun pc I L S σ' k h => (by cases h), ?_⟩
      simp only [wp, stp, drp, entL, eL, lget, lset, okst, cnd, swt, rcv, Kr_int, Kr_bool, Kr_void, List.length_cons, List.length_nil, List.replicate, List.append_nil, List.cons_append, List.nil_append, List.take_succ_cons, List.take_zero, List.drop_succ_cons, List.drop_zero, List.reverse_cons, List.reverse_nil, Option.map_some, Option.map_none, Option.toList_some, Option.toList_none, Nat.reduceAdd, Nat.reduceSub, Nat.reduceLT, Nat.reduceLeDiff, Nat.reduceEqDiff, ↓reduceIte, Nat.add_zero, Nat.zero_add, true_and, and_true, Nat.le_refl, reduceCtorEq, false_implies, true_implies, not_true_eq_false, not_false_eq_true, Int.reduceAdd, Int.reduceSub, Int.reduceMul, Int.reduceLE, Int.reduceLT, Int.reduceEq, Int.reduceNe, Int.reduceNeg, Int.reduceDiv, Int.reduceMod, Bool.false_eq_true, Int.le_refl, and_self, true_or, or_true, inR_l, fv0, fv1, fv2, fv3, nc2, nc4, nc6, nc16, nc25, nc60, nc65, nc80, nc130, nc384, nc390, fp_0_0, fp_0_1, fp_0_2, fp_1_0, fp_1_1, fp_1_2, fp_1_3, fp_1_4, fp_1_5, fp_1_6, fp_1_7, fp_1_8, fp_1_9, fp_1_10, fp_1_11, fp_1_12, fp_1_13, fp_1_14, fp_2_0, fp_2_1, fp_2_2, fp_2_3, fp_3_0, fp_3_1, fp_4_0, fp_4_1, fp_4_2, fp_4_3, fp_4_4, fp_4_5, fp_4_6, fp_4_7, fp_5_0, fp_5_1, fp_5_2, fp_5_3, fp_5_4, fp_5_5, fp_5_6, fp_5_7, fp_6_0, fp_6_1, fp_6_2, fp_6_3, fp_6_4, fp_6_5, fp_6_6, fp_6_7, fp_6_8, fp_6_9, fp_6_10, fp_6_11, fp_6_12, fp_6_13, fp_6_14, fp_6_15, fp_7_0, fp_7_1, fp_7_2, fp_7_3, fp_7_4, fp_7_5, fp_7_6, fp_7_7, fp_7_8, fp_7_9, fp_7_10, fp_7_11, fp_7_12, fp_7_13, fp_7_14, fp_7_15, fp_7_16, fp_7_17, fp_7_18, fp_7_19, fp_7_20, fp_7_21, fp_7_22, fp_7_23, fp_7_24, iz_0_1, iz_0_2, iz_1_8, iz_1_9, iz_1_11, iz_2_1, iz_2_2, iz_2_3, iz_3_1, iz_4_1, iz_4_2, iz_5_0, iz_6_8, iz_6_9, iz_6_13, iz_6_14, iz_6_15, iz_7_2, iz_7_6, iz_7_12, iz_7_20, iz_7_21, iz_7_23, iz_7_24, ak_8, ak_9, ak_10, ak_11, ak_12, ak_13, ak_14, ak_15, ak_16, ak_17, ak_18, ak_19, ak_20, ak_21, ak_22, ak_23, ak_24, ak_25, ak_26, ak_27, ak_28, ak_29, ak_30, ak_31, ak_32, ak_33, ak_34, ak_35, ak_36, ak_37, ak_38, ak_39, ak_40, ak_41, ak_42, ak_43, ak_44, ak_45, ak_46, ak_47, ak_48, ak_49, ak_50, ak_51, ak_52, ak_53, ak_54, ak_55, ak_56, el31, el33, el34, CX6_loadRoutes, ca_X6_loadRoutes, frX6, kcX6, klX6, T_X2_readRoutes, T_X6_beginChange2, T_X5_become, xT_up, xL_20, xL_21]
      obtain ⟨⟨p, q⟩, h1, h2⟩ := h
      refine ⟨q, fun σ1 hE => ⟨fun a => ⟨?_, fun σ2 hR σ3 hB => ?_⟩, fun a => h1 σ1 hE a⟩⟩
      · unfold hsB
        rw [hE.1.f 0 0 (by rintro x (⟨q, -⟩ | ⟨q, -⟩) <;> omega)]
        exact p
      · have e : up σ3 2 0 1 0 5 0 0 = σ3 5 0 0 := by rw [up_ap, if_neg (by rintro ⟨z, -⟩; omega)]
        rw [e]
        exact h2 σ1 σ2 σ3 hE a hR hB
    · exact h.elim
def ca_X6_loadPlan : Nat → Option (Nat × Nat × Tr)
  | 234 => some (2, 2, T_X2_readPlan)
  | 240 => some (2, 2, T_X2_names2)
  | 243 => some (2, 5, T_X5_jobsInOrder)
  | 76 => some (1, 6, T_X6_beginChange2)
  | 246 => some (3, 5, T_X5_takeOrder)
  | 111 => some (1, 6, T_X6_knowPlan2)
  | _ => none
theorem cao_X6_loadPlan (l : Launch) : ∀ k n' ci T', ca_X6_loadPlan k = some (n', ci, T') → ∃ nn, nn + 1 ≤ 6 ∧ Site l yX6_loadPlan.cls k n' ci nn T' := by
  intro k n' ci T' h
  unfold ca_X6_loadPlan at h
  split at h
  · cases h; exact ⟨3, by decide, _, _, _, _, k_X2_readPlan l, Or.inl ⟨_, rfl, FX2_readPlan, KRX6_234⟩⟩
  · cases h; exact ⟨0, by decide, _, _, _, _, k_X2_names2 l, Or.inl ⟨_, rfl, FX2_names, KRX6_240⟩⟩
  · cases h; exact ⟨0, by decide, _, _, _, _, k_X5_jobsInOrder l, Or.inl ⟨_, rfl, FX5_jobsInOrder, KRX6_243⟩⟩
  · cases h; exact ⟨3, by decide, _, _, _, _, k_X6_beginChange2 l, Or.inl ⟨_, rfl, FX6_beginChange, KRX6_76⟩⟩
  · cases h; exact ⟨1, by decide, _, _, _, _, k_X5_takeOrder l, Or.inl ⟨_, rfl, FX5_takeOrder, KRX6_246⟩⟩
  · cases h; exact ⟨5, by decide, _, _, _, _, k_X6_knowPlan2 l, Or.inl ⟨_, rfl, FX6_knowPlan, KRX6_111⟩⟩
  · cases h
def T_X6_loadPlan : Tr := fun a σ K => match a with
  | [.inr (.inl (6, 0))] => (sWF σ 0 ∧ hsB σ ∧ 0 ≤ cL σ ∧ cL σ ≤ 80) ∧ (∀ σ1, plE σ σ1 1 → plnF (cT σ) (cL σ) ≠ -6 → K (some (-3)) σ1) ∧ (∀ σ1, plE σ σ1 1 → plnF (cT σ) (cL σ) = -6 → ¬ fitC σ1 4 → K (some (-5)) σ1) ∧ (∀ σ1 σ2 σ3 σ4, plE σ σ1 1 → plnF (cT σ) (cL σ) = -6 → fitC σ1 4 → RecE σ1 σ2 → LPo σ2 σ3 4 → σ4 = up σ3 2 0 1 0 → sWF σ4 0 → (∀ σ5, FrG pKn σ4 σ5 → KPc σ5 → PK σ5 → K (some 1) σ5) ∧ (∀ σ5, FrG pKn σ4 σ5 → KPc σ5 → (∀ h, ¬ sH σ4 0 h) → K (some 0) σ5))
  | _ => False
set_option maxHeartbeats 8000000 in
set_option maxRecDepth 20000 in
theorem k_X6_loadPlan (l : Launch) : Ct l yX6_loadPlan cX6_loadPlan 2 (some .int) 6 T_X6_loadPlan := by
  refine mk_met (by decide +kernel) hCX6_loadPlan lCX6_loadPlan frX6_ok cstX6_ok (cao_X6_loadPlan l) ?_ ?_
  · intro a σ K h
    unfold T_X6_loadPlan at h
    split at h
    · simp [eL]
    · exact h.elim
  · intro a σ K ha hR h
    unfold T_X6_loadPlan at h
    split at h
    · refine ⟨fun pc => if pc = 21 then some (fun L S σ' k => match L, S with | [some (.inr (.inl c1)), some (.inl m)], [] => (c1 = (6, 0) ∧ 0 ≤ m ∧ m ≤ 4 ∧ plE σ σ' 1 ∧ plnF (cT σ) (cL σ) = -6 ∧ fitC σ' m) ∧ k = (100 - m).toNat | _, _ => False) else if pc = 71 then some (fun L S σ' k => match L, S with | [some (.inr (.inl c1)), some (.inl m)], [] => (c1 = (6, 0) ∧ 0 ≤ m ∧ m ≤ 4 ∧ ∃ σ1 σ2, plE σ σ1 1 ∧ plnF (cT σ) (cL σ) = -6 ∧ fitC σ1 4 ∧ RecE σ1 σ2 ∧ LPo σ2 σ' m) ∧ k = (50 - m).toNat | _, _ => False) else none, 200, ?_, ?_⟩
      · intro pc I L S σ' k hcut hi
        dsimp only at hcut
        split at hcut
        · rename_i hpc
          subst hpc
          cases hcut
          try dsimp only at hi
          split at hi
          · rename_i c1 m
            obtain ⟨hi, rfl⟩ := hi
            obtain ⟨rfl, m0, m4, hE, hp, hI⟩ := hi
            obtain ⟨⟨p, p2, p3⟩, h1, h2, h3⟩ := h
            simp only [wp, stp, drp, entL, eL, lget, lset, okst, cnd, swt, rcv, Kr_int, Kr_bool, Kr_void, List.length_cons, List.length_nil, List.replicate, List.append_nil, List.cons_append, List.nil_append, List.take_succ_cons, List.take_zero, List.drop_succ_cons, List.drop_zero, List.reverse_cons, List.reverse_nil, Option.map_some, Option.map_none, Option.toList_some, Option.toList_none, Nat.reduceAdd, Nat.reduceSub, Nat.reduceLT, Nat.reduceLeDiff, Nat.reduceEqDiff, ↓reduceIte, Nat.add_zero, Nat.zero_add, true_and, and_true, Nat.le_refl, reduceCtorEq, false_implies, true_implies, not_true_eq_false, not_false_eq_true, Int.reduceAdd, Int.reduceSub, Int.reduceMul, Int.reduceLE, Int.reduceLT, Int.reduceEq, Int.reduceNe, Int.reduceNeg, Int.reduceDiv, Int.reduceMod, Bool.false_eq_true, Int.le_refl, and_self, true_or, or_true, inR_l, fv0, fv1, fv2, fv3, nc2, nc4, nc6, nc16, nc25, nc60, nc65, nc80, nc130, nc384, nc390, fp_0_0, fp_0_1, fp_0_2, fp_1_0, fp_1_1, fp_1_2, fp_1_3, fp_1_4, fp_1_5, fp_1_6, fp_1_7, fp_1_8, fp_1_9, fp_1_10, fp_1_11, fp_1_12, fp_1_13, fp_1_14, fp_2_0, fp_2_1, fp_2_2, fp_2_3, fp_3_0, fp_3_1, fp_4_0, fp_4_1, fp_4_2, fp_4_3, fp_4_4, fp_4_5, fp_4_6, fp_4_7, fp_5_0, fp_5_1, fp_5_2, fp_5_3, fp_5_4, fp_5_5, fp_5_6, fp_5_7, fp_6_0, fp_6_1, fp_6_2, fp_6_3, fp_6_4, fp_6_5, fp_6_6, fp_6_7, fp_6_8, fp_6_9, fp_6_10, fp_6_11, fp_6_12, fp_6_13, fp_6_14, fp_6_15, fp_7_0, fp_7_1, fp_7_2, fp_7_3, fp_7_4, fp_7_5, fp_7_6, fp_7_7, fp_7_8, fp_7_9, fp_7_10, fp_7_11, fp_7_12, fp_7_13, fp_7_14, fp_7_15, fp_7_16, fp_7_17, fp_7_18, fp_7_19, fp_7_20, fp_7_21, fp_7_22, fp_7_23, fp_7_24, iz_0_1, iz_0_2, iz_1_8, iz_1_9, iz_1_11, iz_2_1, iz_2_2, iz_2_3, iz_3_1, iz_4_1, iz_4_2, iz_5_0, iz_6_8, iz_6_9, iz_6_13, iz_6_14, iz_6_15, iz_7_2, iz_7_6, iz_7_12, iz_7_20, iz_7_21, iz_7_23, iz_7_24, ak_8, ak_9, ak_10, ak_11, ak_12, ak_13, ak_14, ak_15, ak_16, ak_17, ak_18, ak_19, ak_20, ak_21, ak_22, ak_23, ak_24, ak_25, ak_26, ak_27, ak_28, ak_29, ak_30, ak_31, ak_32, ak_33, ak_34, ak_35, ak_36, ak_37, ak_38, ak_39, ak_40, ak_41, ak_42, ak_43, ak_44, ak_45, ak_46, ak_47, ak_48, ak_49, ak_50, ak_51, ak_52, ak_53, ak_54, ak_55, ak_56, el31, el33, el34, CX6_loadPlan, ca_X6_loadPlan, frX6, kcX6, klX6, T_X2_readPlan, T_X2_names2, T_X5_jobsInOrder, T_X6_beginChange2, T_X5_takeOrder, T_X6_knowPlan2, xT_up, xL_20, xL_21, exists_eq_right_right, exists_eq_right, exists_eq_left, Nat.lt_irrefl, and_self, implies_true, forall_const]
            have hPL := hE.2 hp
            have w1 := plE_w p hE.1
            refine ⟨fun c => ⟨plE_h p2 hE.1, fun σ2 hR => ⟨by have t50 : Int.toNat 50 = 50 := rfl; omega, σ', σ2, hE, hp, by rw [show (4 : Int) = m by omega]; exact hI, hR, LPo_0⟩⟩, fun c => ⟨fun hb => ⟨⟨m0, by omega, (oOK_l hPL m0 (by omega)).2.1⟩, ⟨m0, by omega, ((sW_j w1).2.2.2.1 m m0 (by omega)).2⟩, fun e => ⟨by simp only [inR]; omega, by omega, by omega, by omega, hE, hp, (fitC_s m0).mpr ⟨hI, fun _ => e⟩⟩, fun e => h2 σ' hE hp (fun z => e (z m m0 (by omega) hb))⟩, fun hb => ⟨by simp only [inR]; omega, by omega, by omega, by omega, hE, hp, (fitC_s m0).mpr ⟨hI, fun z => absurd z hb⟩⟩⟩⟩
          · exact hi.elim
        · split at hcut
          · rename_i hpc
            subst hpc
            cases hcut
            try dsimp only at hi
            split at hi
            · rename_i c1 m
              obtain ⟨hi, rfl⟩ := hi
              obtain ⟨rfl, m0, m4, σ1, σ2, hE, hp, hf, hR, hI⟩ := hi
              obtain ⟨⟨p, p2, p3⟩, h1, h2, h3⟩ := h
              simp only [wp, stp, drp, entL, eL, lget, lset, okst, cnd, swt, rcv, Kr_int, Kr_bool, Kr_void, List.length_cons, List.length_nil, List.replicate, List.append_nil, List.cons_append, List.nil_append, List.take_succ_cons, List.take_zero, List.drop_succ_cons, List.drop_zero, List.reverse_cons, List.reverse_nil, Option.map_some, Option.map_none, Option.toList_some, Option.toList_none, Nat.reduceAdd, Nat.reduceSub, Nat.reduceLT, Nat.reduceLeDiff, Nat.reduceEqDiff, ↓reduceIte, Nat.add_zero, Nat.zero_add, true_and, and_true, Nat.le_refl, reduceCtorEq, false_implies, true_implies, not_true_eq_false, not_false_eq_true, Int.reduceAdd, Int.reduceSub, Int.reduceMul, Int.reduceLE, Int.reduceLT, Int.reduceEq, Int.reduceNe, Int.reduceNeg, Int.reduceDiv, Int.reduceMod, Bool.false_eq_true, Int.le_refl, and_self, true_or, or_true, inR_l, fv0, fv1, fv2, fv3, nc2, nc4, nc6, nc16, nc25, nc60, nc65, nc80, nc130, nc384, nc390, fp_0_0, fp_0_1, fp_0_2, fp_1_0, fp_1_1, fp_1_2, fp_1_3, fp_1_4, fp_1_5, fp_1_6, fp_1_7, fp_1_8, fp_1_9, fp_1_10, fp_1_11, fp_1_12, fp_1_13, fp_1_14, fp_2_0, fp_2_1, fp_2_2, fp_2_3, fp_3_0, fp_3_1, fp_4_0, fp_4_1, fp_4_2, fp_4_3, fp_4_4, fp_4_5, fp_4_6, fp_4_7, fp_5_0, fp_5_1, fp_5_2, fp_5_3, fp_5_4, fp_5_5, fp_5_6, fp_5_7, fp_6_0, fp_6_1, fp_6_2, fp_6_3, fp_6_4, fp_6_5, fp_6_6, fp_6_7, fp_6_8, fp_6_9, fp_6_10, fp_6_11, fp_6_12, fp_6_13, fp_6_14, fp_6_15, fp_7_0, fp_7_1, fp_7_2, fp_7_3, fp_7_4, fp_7_5, fp_7_6, fp_7_7, fp_7_8, fp_7_9, fp_7_10, fp_7_11, fp_7_12, fp_7_13, fp_7_14, fp_7_15, fp_7_16, fp_7_17, fp_7_18, fp_7_19, fp_7_20, fp_7_21, fp_7_22, fp_7_23, fp_7_24, iz_0_1, iz_0_2, iz_1_8, iz_1_9, iz_1_11, iz_2_1, iz_2_2, iz_2_3, iz_3_1, iz_4_1, iz_4_2, iz_5_0, iz_6_8, iz_6_9, iz_6_13, iz_6_14, iz_6_15, iz_7_2, iz_7_6, iz_7_12, iz_7_20, iz_7_21, iz_7_23, iz_7_24, ak_8, ak_9, ak_10, ak_11, ak_12, ak_13, ak_14, ak_15, ak_16, ak_17, ak_18, ak_19, ak_20, ak_21, ak_22, ak_23, ak_24, ak_25, ak_26, ak_27, ak_28, ak_29, ak_30, ak_31, ak_32, ak_33, ak_34, ak_35, ak_36, ak_37, ak_38, ak_39, ak_40, ak_41, ak_42, ak_43, ak_44, ak_45, ak_46, ak_47, ak_48, ak_49, ak_50, ak_51, ak_52, ak_53, ak_54, ak_55, ak_56, el31, el33, el34, CX6_loadPlan, ca_X6_loadPlan, frX6, kcX6, klX6, T_X2_readPlan, T_X2_names2, T_X5_jobsInOrder, T_X6_beginChange2, T_X5_takeOrder, T_X6_knowPlan2, xT_up, xL_20, xL_21, exists_eq_right_right, exists_eq_right, exists_eq_left, Nat.lt_irrefl, and_self, implies_true, forall_const]
              have hPL := Rec_PL hR (hE.2 hp)
              have w2 := (Rec_s (plE_w p hE.1) hR).1
              have hf2 := (Rec_fit hR).mpr hf
              have e23 : σ' 2 0 3 = σ2 2 0 3 := hI.1 2 0 3 (by omega)
              have e13 : σ' 13 1 = σ2 13 1 := funext fun x => hI.1 13 1 x (by omega)
              have l2 := sW_j w2
              refine ⟨fun c => ?_, fun c => ⟨fun hb => ?_, fun hb => ?_⟩⟩
              · have e4 : m = 4 := by omega
                rw [e4] at hI
                have w3 := LPo_w w2 hPL hf2 hI
                have w4 : sWF (up σ' 2 0 1 0) 0 := (sWF_cg (fun t q => by funext x; rw [up_ap, if_neg (by rintro ⟨z, -⟩; omega)])).mpr w3
                have r := h3 σ1 σ2 σ' _ hE hp hf hR hI rfl w4
                refine ⟨⟨w4, Or.inl ?_⟩, r.1, r.2⟩
                rw [up_ap, if_neg (by rintro ⟨z, -⟩; omega), hI.1 6 0 8 (by omega), hR 6 0 8, if_neg (by rintro ⟨q, -⟩; omega), if_neg (by rintro ⟨q, -⟩; omega), if_pos (Or.inl ⟨rfl, rfl, rfl⟩)]
              · rw [e23] at hb
                rw [e13]
                have o1 := oOK_l hPL m0 (show m < 4 by omega)
                have o0 := WF_oOK w2.1 m0 (show m < 4 by omega)
                have pm := inq_perm o1 o0 ((sF_perm o1 o0).mp (hf2 m m0 (by omega) hb))
                refine ⟨⟨m0, by omega, by omega, o1.1, o1.2.1⟩, fun σ3 hT => ⟨by simp only [inR]; omega, by omega, by omega, by omega, σ1, σ2, hE, hp, hf, hR, ?_⟩⟩
                refine LPo_s hI m0 (by omega) hb pm.1 (l2.2.2.2.1 m m0 (by omega)).2 (fun m' a b => (l2.2.2.2.1 m' a b).2) ?_
                rw [e13]
                exact hT
              · rw [e23] at hb
                exact ⟨by simp only [inR]; omega, by omega, by omega, by omega, σ1, σ2, hE, hp, hf, hR, LPo_n hI hb⟩
            · exact hi.elim
          · cases hcut
      · simp only [wp, stp, drp, entL, eL, lget, lset, okst, cnd, swt, rcv, Kr_int, Kr_bool, Kr_void, List.length_cons, List.length_nil, List.replicate, List.append_nil, List.cons_append, List.nil_append, List.take_succ_cons, List.take_zero, List.drop_succ_cons, List.drop_zero, List.reverse_cons, List.reverse_nil, Option.map_some, Option.map_none, Option.toList_some, Option.toList_none, Nat.reduceAdd, Nat.reduceSub, Nat.reduceLT, Nat.reduceLeDiff, Nat.reduceEqDiff, ↓reduceIte, Nat.add_zero, Nat.zero_add, true_and, and_true, Nat.le_refl, reduceCtorEq, false_implies, true_implies, not_true_eq_false, not_false_eq_true, Int.reduceAdd, Int.reduceSub, Int.reduceMul, Int.reduceLE, Int.reduceLT, Int.reduceEq, Int.reduceNe, Int.reduceNeg, Int.reduceDiv, Int.reduceMod, Bool.false_eq_true, Int.le_refl, and_self, true_or, or_true, inR_l, fv0, fv1, fv2, fv3, nc2, nc4, nc6, nc16, nc25, nc60, nc65, nc80, nc130, nc384, nc390, fp_0_0, fp_0_1, fp_0_2, fp_1_0, fp_1_1, fp_1_2, fp_1_3, fp_1_4, fp_1_5, fp_1_6, fp_1_7, fp_1_8, fp_1_9, fp_1_10, fp_1_11, fp_1_12, fp_1_13, fp_1_14, fp_2_0, fp_2_1, fp_2_2, fp_2_3, fp_3_0, fp_3_1, fp_4_0, fp_4_1, fp_4_2, fp_4_3, fp_4_4, fp_4_5, fp_4_6, fp_4_7, fp_5_0, fp_5_1, fp_5_2, fp_5_3, fp_5_4, fp_5_5, fp_5_6, fp_5_7, fp_6_0, fp_6_1, fp_6_2, fp_6_3, fp_6_4, fp_6_5, fp_6_6, fp_6_7, fp_6_8, fp_6_9, fp_6_10, fp_6_11, fp_6_12, fp_6_13, fp_6_14, fp_6_15, fp_7_0, fp_7_1, fp_7_2, fp_7_3, fp_7_4, fp_7_5, fp_7_6, fp_7_7, fp_7_8, fp_7_9, fp_7_10, fp_7_11, fp_7_12, fp_7_13, fp_7_14, fp_7_15, fp_7_16, fp_7_17, fp_7_18, fp_7_19, fp_7_20, fp_7_21, fp_7_22, fp_7_23, fp_7_24, iz_0_1, iz_0_2, iz_1_8, iz_1_9, iz_1_11, iz_2_1, iz_2_2, iz_2_3, iz_3_1, iz_4_1, iz_4_2, iz_5_0, iz_6_8, iz_6_9, iz_6_13, iz_6_14, iz_6_15, iz_7_2, iz_7_6, iz_7_12, iz_7_20, iz_7_21, iz_7_23, iz_7_24, ak_8, ak_9, ak_10, ak_11, ak_12, ak_13, ak_14, ak_15, ak_16, ak_17, ak_18, ak_19, ak_20, ak_21, ak_22, ak_23, ak_24, ak_25, ak_26, ak_27, ak_28, ak_29, ak_30, ak_31, ak_32, ak_33, ak_34, ak_35, ak_36, ak_37, ak_38, ak_39, ak_40, ak_41, ak_42, ak_43, ak_44, ak_45, ak_46, ak_47, ak_48, ak_49, ak_50, ak_51, ak_52, ak_53, ak_54, ak_55, ak_56, el31, el33, el34, CX6_loadPlan, ca_X6_loadPlan, frX6, kcX6, klX6, T_X2_readPlan, T_X2_names2, T_X5_jobsInOrder, T_X6_beginChange2, T_X5_takeOrder, T_X6_knowPlan2, xT_up, xL_20, xL_21, exists_eq_right_right, exists_eq_right, exists_eq_left, Nat.lt_irrefl, and_self, implies_true, forall_const]
        obtain ⟨⟨p, p2, p3⟩, h1, h2, h3⟩ := h
        exact ⟨p3, fun σ1 hE => ⟨fun a => ⟨hE, a, fun m a b => by omega⟩, fun a => h1 σ1 hE a⟩⟩
    · exact h.elim
