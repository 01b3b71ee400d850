/-! the walk of search -/
def mSr (t : Int → Int) (l : Int) : Int := if l < 0 then 0 else if l = 0 then 8 * (456976 - (t 0 + 1) * 17576) + 3 else if l = 1 then 8 * (456976 - t 0 * 17576 - (t 1 + 1) * 676) + 2 else if l = 2 then 8 * (456976 - t 0 * 17576 - t 1 * 676 - (t 2 + 1) * 26) + 1 else 8 * (456976 - t 0 * 17576 - t 1 * 676 - t 2 * 26 - (t 3 + 1))
theorem mSn (t : Int → Int) : mSr t (-1) = 0 := by simp [mSr]
theorem mS0 (t : Int → Int) : mSr t 0 = 8 * (456976 - (t 0 + 1) * 17576) + 3 := by simp [mSr]
theorem mS1 (t : Int → Int) : mSr t 1 = 8 * (456976 - t 0 * 17576 - (t 1 + 1) * 676) + 2 := by simp [mSr]
theorem mS2 (t : Int → Int) : mSr t 2 = 8 * (456976 - t 0 * 17576 - t 1 * 676 - (t 2 + 1) * 26) + 1 := by simp [mSr]
theorem mS3 (t : Int → Int) : mSr t 3 = 8 * (456976 - t 0 * 17576 - t 1 * 676 - t 2 * 26 - (t 3 + 1)) := by simp [mSr]
theorem mSr_s {t t2 : Int → Int} {l : Int} (l0 : 0 ≤ l) (l3 : l ≤ 3) (hb : ∀ m, 0 ≤ m → m < l → 0 ≤ t m ∧ t m ≤ 23) (hl : -1 ≤ t l ∧ t l ≤ 23) (he : ∀ m, 0 ≤ m → m < l → t2 m = t m) : (mSr t2 (l - 1)).toNat < (mSr t l).toNat ∧ (t2 l = t l + 1 → t l ≤ 22 → (mSr t2 l).toNat < (mSr t l).toNat) ∧ (l < 3 → t2 l = t l + 1 → t l ≤ 22 → t2 (l + 1) = -1 → (mSr t2 (l + 1)).toNat < (mSr t l).toNat) := by
  have b0 := hb 0 (by omega)
  have b1 := hb 1 (by omega)
  have b2 := hb 2 (by omega)
  have e0 := he 0 (by omega)
  have e1 := he 1 (by omega)
  have e2 := he 2 (by omega)
  rcases (show l = 0 ∨ l = 1 ∨ l = 2 ∨ l = 3 by omega) with rfl | rfl | rfl | rfl
  · rw [show (0 : Int) - 1 = -1 from rfl, mSn, mS0, mS0, show (0 : Int) + 1 = 1 from rfl, mS1]
    exact ⟨by omega, fun a b => by omega, fun a b c d => by omega⟩
  · have b0 := b0 (by omega)
    have e0 := e0 (by omega)
    rw [show (1 : Int) - 1 = 0 from rfl, mS0, mS1, mS1, show (1 : Int) + 1 = 2 from rfl, mS2]
    exact ⟨by omega, fun a b => by omega, fun a b c d => by omega⟩
  · have b0 := b0 (by omega)
    have e0 := e0 (by omega)
    have b1 := b1 (by omega)
    have e1 := e1 (by omega)
    rw [show (2 : Int) - 1 = 1 from rfl, mS1, mS2, mS2, show (2 : Int) + 1 = 3 from rfl, mS3]
    exact ⟨by omega, fun a b => by omega, fun a b c d => by omega⟩
  · have b0 := b0 (by omega)
    have e0 := e0 (by omega)
    have b1 := b1 (by omega)
    have e1 := e1 (by omega)
    have b2 := b2 (by omega)
    have e2 := e2 (by omega)
    rw [show (3 : Int) - 1 = 2 from rfl, mS2, mS3, mS3]
    exact ⟨by omega, fun a b => by omega, fun a => by omega⟩
theorem Se_sol {σ σ2 σ3 : Mem} {q0 fs : Int → Int} {l le M : Int} (hp : SPr σ q0 fs) (h2 : Se1 σ q0 fs σ2 l le) (h3 : Se1 σ q0 fs σ3 l le) (hR : FrG p45 σ2 σ3) : rOp σ3 = rOp σ2 ∧ ∀ g, SolF (rOp σ3) (hF σ3 M) g ↔ SolF (rOp σ2) (hF σ2 M) g := by
  have hs : smO σ3 σ2 M := KND_sm (SeB_k h3.1) (SeB_k h2.1) (fun m k _ _ _ _ _ => hR 38 0 _ (by rintro ⟨q, -⟩; omega))
  have k2 := KND_ok hp (SeB_k h2.1)
  have k3 := KND_ok hp (SeB_k h3.1)
  have e := smO_op hs
  refine ⟨e, fun g => ⟨fun H o v => ?_, fun H o v => ?_⟩⟩
  · rw [← hF_sm hs k2.1.1 k3.1.1 v]
    rw [← e] at v
    exact H o v
  · rw [e] at v
    rw [hF_sm hs k2.1.1 k3.1.1 v]
    exact H o v
theorem LE_M {σ : Mem} {r : Int} (h : LE σ 16 r) : MxE σ (σ 45 0) r ∧ r ≤ 20000 := ⟨⟨h.1, fun o v => h.2.2.1 o v v.2.1, h.2.2.2.elim Or.inl (fun ⟨o, v, _, e⟩ => Or.inr ⟨o, v, e⟩)⟩, h.2.1⟩
theorem SeI_0 {σ : Mem} {q0 fs : Int → Int} (hp : SPr σ q0 fs) : SeI σ q0 fs (up σ 50 0 0 (-1)) 0 1000000 := by
  have hB : SeB σ q0 fs σ := ⟨FrG.r, fun _ _ _ => rfl, hp.2.2.2.1⟩
  refine ⟨SeB_up hB, by omega, fun m m0 m1 ml => by omega, fun _ => ?_, ⟨fun t v hH => ?_, Or.inl rfl⟩⟩
  · rw [up50, if_pos rfl]
    have := (hp.2.2.2.2 0 (by omega) (by omega)).1
    omega
  · exfalso
    rcases hH with c | ⟨i, i0, i1, -, hi⟩
    · omega
    · have ei : i = 0 := by omega
      have := v 0 (by omega) (by omega)
      rw [ei, up50, if_pos rfl] at hi
      omega
/-- what the walk needs at the head of its loop -/
theorem SeI_b {σ σ' : Mem} {q0 fs : Int → Int} {l le : Int} (hp : SPr σ q0 fs) (h : SeI σ q0 fs σ' l le) (l0 : 0 ≤ l) : (∀ m, 0 ≤ m → m < l → 0 ≤ σ' 50 0 m ∧ σ' 50 0 m ≤ 23) ∧ (-1 ≤ σ' 50 0 l ∧ σ' 50 0 l ≤ 23) ∧ σ' 49 0 l = σ 49 0 l ∧ σ 49 0 l ≤ 24 ∧ σ' 50 0 l < σ 49 0 l ∧ 0 ≤ rLn σ' l ∧ rLn σ' l ≤ 4 := by
  obtain ⟨hB, hl, hr, ht, -⟩ := h
  have M := fun m (a : 0 ≤ m) (b : m < 4) => (hp.2.2.2.2 m a b).1
  have ml := M l l0 (by omega)
  have htl := ht l0
  have eL : rLn σ' l = rLn σ l := (rts_e (SeB_k hB).1).2.2.2.1 l l0 (by omega)
  have hL := hp.1.1.1.2.2.2.2.1 l l0 (by omega)
  refine ⟨fun m m0 m1 => ?_, by omega, hB.1 49 0 l (by rintro ⟨-, q | q | q | q⟩ <;> omega), ml.2, htl.2, by rw [eL]; exact hL.1, by rw [eL]; exact hL.2⟩
  have := (hr m m0 (by omega) m1).1
  have := M m m0 (by omega)
  omega
def ca_X7_search : Nat → Option (Nat × Nat × Tr)
  | 172 => some (2, 7, T_X7_layTried)
  | 133 => some (2, 7, T_X7_findHeads2)
  | 143 => some (1, 7, T_X7_lastEnd)
  | 176 => some (1, 7, T_X7_keepFound)
  | _ => none
theorem cao_X7_search (l : Launch) : ∀ k n' ci T', ca_X7_search k = some (n', ci, T') → ∃ nn, nn + 1 ≤ 4 ∧ Site l yX7_search.cls k n' ci nn T' := by
  intro k n' ci T' h
  unfold ca_X7_search at h
  split at h
  · cases h; exact ⟨0, by decide, _, _, _, _, k_X7_layTried l, Or.inl ⟨_, rfl, FX7_layTried, KRX7_172⟩⟩
  · cases h; exact ⟨3, by decide, _, _, _, _, k_X7_findHeads2 l, Or.inl ⟨_, rfl, FX7_findHeads, KRX7_133⟩⟩
  · cases h; exact ⟨2, by decide, _, _, _, _, k_X7_lastEnd l, Or.inl ⟨_, rfl, FX7_lastEnd, KRX7_143⟩⟩
  · cases h; exact ⟨0, by decide, _, _, _, _, k_X7_keepFound l, Or.inl ⟨_, rfl, FX7_keepFound, KRX7_176⟩⟩
  · cases h
def T_X7_search : Tr := fun a σ K => match a with
  | [.inr (.inl (7, 0))] => ∃ q0 fs, SPr σ q0 fs ∧ ∀ σ' le, SRe σ q0 fs σ' le → K (some le) σ'
  | _ => False
set_option maxHeartbeats 8000000 in
set_option maxRecDepth 20000 in
theorem k_X7_search (l : Launch) : Ct l yX7_search cX7_search 3 (some .int) 4 T_X7_search := by
  refine mk_met (by decide +kernel) hCX7_search lCX7_search frX7_ok cstX7_ok (cao_X7_search l) ?_ ?_
  · intro a σ K h
    unfold T_X7_search at h
    split at h
    · simp [eL]
    · exact h.elim
  · intro a σ K ha hR h
    unfold T_X7_search at h
    split at h
    · refine ⟨fun pc => if pc = 12 then some (fun L S σ' k => match L, S with | [some (.inr (.inl c1)), some (.inl le), some (.inl l)], [] => (c1 = (7, 0) ∧ ∃ q0 fs, SPr σ q0 fs ∧ (∀ σ' le, SRe σ q0 fs σ' le → K (some le) σ') ∧ SeI σ q0 fs σ' l le) ∧ k = (mSr (σ' 50 0) l).toNat | _, _ => False) else none, 200, ?_, ?_⟩
      · intro pc I L S σ' k hcut hi
        dsimp only at hcut
        split at hcut
        · rename_i hpc
          subst hpc
          cases hcut
          try dsimp only at hi
          split at hi
          · rename_i c1 le l
            obtain ⟨hi, rfl⟩ := hi
            obtain ⟨rfl, q0, fs, p, h, hI⟩ := hi
            have hl := hI.2.1
            have hB := fun l0 => SeI_b p hI l0
            simp only [wp, stp, drp, entL, eL, lget, lset, okst, cnd, swt, rcv, Kr_int, Kr_bool, Kr_void, List.length_cons, List.length_nil, List.replicate, List.append_nil, List.cons_append, List.nil_append, List.take_succ_cons, List.take_zero, List.drop_succ_cons, List.drop_zero, List.reverse_cons, List.reverse_nil, Option.map_some, Option.map_none, Option.toList_some, Option.toList_none, Nat.reduceAdd, Nat.reduceSub, Nat.reduceLT, Nat.reduceLeDiff, Nat.reduceEqDiff, ↓reduceIte, Nat.add_zero, Nat.zero_add, true_and, and_true, Nat.le_refl, reduceCtorEq, false_implies, true_implies, not_true_eq_false, not_false_eq_true, Int.reduceAdd, Int.reduceSub, Int.reduceMul, Int.reduceLE, Int.reduceLT, Int.reduceEq, Int.reduceNe, Int.reduceNeg, Int.reduceDiv, Int.reduceMod, Bool.false_eq_true, Int.le_refl, and_self, true_or, or_true, inR_l, fv0, fv1, fv2, fv3, nc2, nc4, nc6, nc16, nc25, nc60, nc65, nc80, nc130, nc384, nc390, fp_0_0, fp_0_1, fp_0_2, fp_1_0, fp_1_1, fp_1_2, fp_1_3, fp_1_4, fp_1_5, fp_1_6, fp_1_7, fp_1_8, fp_1_9, fp_1_10, fp_1_11, fp_1_12, fp_1_13, fp_1_14, fp_2_0, fp_2_1, fp_2_2, fp_2_3, fp_3_0, fp_3_1, fp_4_0, fp_4_1, fp_4_2, fp_4_3, fp_4_4, fp_4_5, fp_4_6, fp_4_7, fp_5_0, fp_5_1, fp_5_2, fp_5_3, fp_5_4, fp_5_5, fp_5_6, fp_5_7, fp_6_0, fp_6_1, fp_6_2, fp_6_3, fp_6_4, fp_6_5, fp_6_6, fp_6_7, fp_6_8, fp_6_9, fp_6_10, fp_6_11, fp_6_12, fp_6_13, fp_6_14, fp_6_15, fp_7_0, fp_7_1, fp_7_2, fp_7_3, fp_7_4, fp_7_5, fp_7_6, fp_7_7, fp_7_8, fp_7_9, fp_7_10, fp_7_11, fp_7_12, fp_7_13, fp_7_14, fp_7_15, fp_7_16, fp_7_17, fp_7_18, fp_7_19, fp_7_20, fp_7_21, fp_7_22, fp_7_23, fp_7_24, iz_0_1, iz_0_2, iz_1_8, iz_1_9, iz_1_11, iz_2_1, iz_2_2, iz_2_3, iz_3_1, iz_4_1, iz_4_2, iz_5_0, iz_6_8, iz_6_9, iz_6_13, iz_6_14, iz_6_15, iz_7_2, iz_7_6, iz_7_12, iz_7_20, iz_7_21, iz_7_23, iz_7_24, ak_8, ak_9, ak_10, ak_11, ak_12, ak_13, ak_14, ak_15, ak_16, ak_17, ak_18, ak_19, ak_20, ak_21, ak_22, ak_23, ak_24, ak_25, ak_26, ak_27, ak_28, ak_29, ak_30, ak_31, ak_32, ak_33, ak_34, ak_35, ak_36, ak_37, ak_38, ak_39, ak_40, ak_41, ak_42, ak_43, ak_44, ak_45, ak_46, ak_47, ak_48, ak_49, ak_50, ak_51, ak_52, ak_53, ak_54, ak_55, ak_56, el31, el33, el34, CX7_search, ca_X7_search, frX7, kcX7, klX7, T_X7_layTried, T_X7_findHeads2, T_X7_lastEnd, T_X7_keepFound, xT_up, xL_20, xL_21, exists_eq_right_right, exists_eq_right, exists_eq_left, Nat.lt_irrefl, and_self, implies_true, forall_const]
            refine ⟨fun c => h σ' le (Se_end p hI c), fun c => ?_⟩
            have l0 : 0 ≤ l := by omega
            obtain ⟨B1, B2, B3, B4, B5, B6, B7⟩ := hB l0
            have W : ∀ σ2 l2 le2, SeI σ q0 fs σ2 l2 le2 → ∃ q0 fs, SPr σ q0 fs ∧ (∀ σ' le, SRe σ q0 fs σ' le → K (some le) σ') ∧ SeI σ q0 fs σ2 l2 le2 := fun σ2 l2 le2 hS => ⟨q0, fs, p, h, hS⟩
            generalize hs1 : up σ' 50 0 l (σ' 50 0 l + 1) = σ1
            have f50 : ∀ m, σ1 50 0 m = if m = l then σ' 50 0 l + 1 else σ' 50 0 m := fun m => by rw [← hs1, up50]
            have f50l : σ1 50 0 l = σ' 50 0 l + 1 := by rw [f50, if_pos rfl]
            have f49 : σ1 49 0 l = σ' 49 0 l := by rw [← hs1, up_ap, if_neg (by rintro ⟨q, -⟩; omega)]
            have fL : rLn σ1 l = rLn σ' l := by
              unfold rLn
              rw [← hs1, up_ap, if_neg (by rintro ⟨q, -⟩; omega)]
            have mS := fun t2 e => mSr_s (t2 := t2) l0 hl.2 B1 B2 e
            refine ⟨by omega, by simp only [inR]; omega, by omega, by omega, by omega, fun ne => ⟨by rw [fL, f50l]; rw [f50l, f49] at ne; omega, fun σ2 hc => ?_⟩, fun eq => ⟨by simp only [inR]; omega, ?_, ?_⟩⟩
            · rw [f50l, f49, B3] at ne
              have S2 := Se_lay p hI l0 ne hs1.symm hc
              have k2 := KND_ok p (SeB_k S2.1)
              have g50 : ∀ m, σ2 50 0 m = σ1 50 0 m := fun m => hc.1 50 0 m (by rintro ⟨q, -⟩; omega)
              have meas : ∀ σ3 : Mem, (∀ m, σ3 50 0 m = σ2 50 0 m) → (mSr (σ3 50 0) l).toNat < (mSr (σ' 50 0) l).toNat := fun σ3 e => (mS (σ3 50 0) (fun m m0 m1 => by rw [e, g50, f50, if_neg (by omega)])).2.1 (by rw [e, g50, f50l]) (by omega)
              refine ⟨by simp only [inR]; omega, ⟨k2.1, by omega, by omega⟩, fun σ3 hF hS hb => ?_, fun σ3 hF hs hn => ?_⟩
              · have S3 := Se_fr S2 hF (fun o v z => by rw [hS o v, hF_st k2.1 v z])
                have k3 := KND_ok p (SeB_k S3.1)
                have e3 := Se_sol (M := l + 1) p S2 S3 hF
                have sol := (e3.2 _).mpr hS
                have h50 : ∀ m, σ3 50 0 m = σ2 50 0 m := fun m => hF 50 0 m (by rintro ⟨q, -⟩; omega)
                have pre : rWF σ3 ∧ ∀ o, rOp σ3 o → 0 ≤ σ3 45 0 o ∧ σ3 45 0 o ≤ 10000 := ⟨k3.1.1, fun o v => hb o (by rw [← e3.1]; exact v)⟩
                refine ⟨pre, fun r hr => ⟨fun d => ⟨meas σ3 h50, W _ _ _ (Se_skip S3 (fun t v a L hL => Int.le_trans d ((Se_part p S3 v a hL).2 _ r sol (LE_M hr).1)))⟩, fun d => ⟨fun l3 => ⟨by simp only [inR]; omega, by omega, ?_, W _ _ _ (Se_up p S3 (by omega) rfl)⟩, fun l3 => ⟨pre, fun r' hr' σ4 hc4 => ?_⟩⟩⟩⟩
                · refine (mS _ (fun m m0 m1 => ?_)).2.2 (by omega) ?_ (by omega) ?_
                  · rw [up50, if_neg (by omega), h50, g50, f50, if_neg (by omega)]
                  · rw [up50, if_neg (by omega), h50, g50, f50l]
                  · rw [up50, if_pos rfl]
                · have el : l = 3 := by omega
                  subst el
                  rw [LE_un hr' hr]
                  refine ⟨meas σ4 (fun m => by rw [hc4.1 50 0 m (by rintro ⟨q, -⟩; omega), h50]), W _ _ _ (Se_take p S3 sol (LE_M hr).1 (LE_M hr).2 (by omega) hc4)⟩
              · have S3 := Se_fr S2 hF hs
                have e3 := Se_sol (M := l + 1) p S2 S3 hF
                have h50 : ∀ m, σ3 50 0 m = σ2 50 0 m := fun m => hF 50 0 m (by rintro ⟨q, -⟩; omega)
                exact ⟨meas σ3 h50, W _ _ _ (Se_skip S3 (fun t v a L hL => by
                  obtain ⟨g, hg⟩ := (Se_part p S3 v a hL).1
                  exact absurd ((e3.2 g).mp hg) (hn g)))⟩
            · rw [show l + -1 = l - 1 by omega]
              exact (mS _ (fun m m0 m1 => by rw [f50, if_neg (by omega)])).1
            · rw [show l + -1 = l - 1 by omega]
              rw [f50l, f49, B3] at eq
              exact W _ _ _ (Se_down hI l0 (Classical.not_not.mp eq) hs1.symm)
          · exact hi.elim
        · cases hcut
      · simp only [wp, stp, drp, entL, eL, lget, lset, okst, cnd, swt, rcv, Kr_int, Kr_bool, Kr_void, List.length_cons, List.length_nil, List.replicate, List.append_nil, List.cons_append, List.nil_append, List.take_succ_cons, List.take_zero, List.drop_succ_cons, List.drop_zero, List.reverse_cons, List.reverse_nil, Option.map_some, Option.map_none, Option.toList_some, Option.toList_none, Nat.reduceAdd, Nat.reduceSub, Nat.reduceLT, Nat.reduceLeDiff, Nat.reduceEqDiff, ↓reduceIte, Nat.add_zero, Nat.zero_add, true_and, and_true, Nat.le_refl, reduceCtorEq, false_implies, true_implies, not_true_eq_false, not_false_eq_true, Int.reduceAdd, Int.reduceSub, Int.reduceMul, Int.reduceLE, Int.reduceLT, Int.reduceEq, Int.reduceNe, Int.reduceNeg, Int.reduceDiv, Int.reduceMod, Bool.false_eq_true, Int.le_refl, and_self, true_or, or_true, inR_l, fv0, fv1, fv2, fv3, nc2, nc4, nc6, nc16, nc25, nc60, nc65, nc80, nc130, nc384, nc390, fp_0_0, fp_0_1, fp_0_2, fp_1_0, fp_1_1, fp_1_2, fp_1_3, fp_1_4, fp_1_5, fp_1_6, fp_1_7, fp_1_8, fp_1_9, fp_1_10, fp_1_11, fp_1_12, fp_1_13, fp_1_14, fp_2_0, fp_2_1, fp_2_2, fp_2_3, fp_3_0, fp_3_1, fp_4_0, fp_4_1, fp_4_2, fp_4_3, fp_4_4, fp_4_5, fp_4_6, fp_4_7, fp_5_0, fp_5_1, fp_5_2, fp_5_3, fp_5_4, fp_5_5, fp_5_6, fp_5_7, fp_6_0, fp_6_1, fp_6_2, fp_6_3, fp_6_4, fp_6_5, fp_6_6, fp_6_7, fp_6_8, fp_6_9, fp_6_10, fp_6_11, fp_6_12, fp_6_13, fp_6_14, fp_6_15, fp_7_0, fp_7_1, fp_7_2, fp_7_3, fp_7_4, fp_7_5, fp_7_6, fp_7_7, fp_7_8, fp_7_9, fp_7_10, fp_7_11, fp_7_12, fp_7_13, fp_7_14, fp_7_15, fp_7_16, fp_7_17, fp_7_18, fp_7_19, fp_7_20, fp_7_21, fp_7_22, fp_7_23, fp_7_24, iz_0_1, iz_0_2, iz_1_8, iz_1_9, iz_1_11, iz_2_1, iz_2_2, iz_2_3, iz_3_1, iz_4_1, iz_4_2, iz_5_0, iz_6_8, iz_6_9, iz_6_13, iz_6_14, iz_6_15, iz_7_2, iz_7_6, iz_7_12, iz_7_20, iz_7_21, iz_7_23, iz_7_24, ak_8, ak_9, ak_10, ak_11, ak_12, ak_13, ak_14, ak_15, ak_16, ak_17, ak_18, ak_19, ak_20, ak_21, ak_22, ak_23, ak_24, ak_25, ak_26, ak_27, ak_28, ak_29, ak_30, ak_31, ak_32, ak_33, ak_34, ak_35, ak_36, ak_37, ak_38, ak_39, ak_40, ak_41, ak_42, ak_43, ak_44, ak_45, ak_46, ak_47, ak_48, ak_49, ak_50, ak_51, ak_52, ak_53, ak_54, ak_55, ak_56, el31, el33, el34, CX7_search, ca_X7_search, frX7, kcX7, klX7, T_X7_layTried, T_X7_findHeads2, T_X7_lastEnd, T_X7_keepFound, xT_up, xL_20, xL_21, exists_eq_right_right, exists_eq_right, exists_eq_left, Nat.lt_irrefl, and_self, implies_true, forall_const]
        obtain ⟨q0, fs, p, h⟩ := h
        exact ⟨q0, fs, p, h, SeI_0 p⟩
    · exact h.elim
