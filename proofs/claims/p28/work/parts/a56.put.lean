/-! put -/
theorem sgS_r : ∀ (f : Nat) (x : Int64) (c : Int), 0 ≤ c → sgS f x c = -2 ∨ (c ≤ sgS f x c ∧ sgS f x c ≤ c + f ∧ 1 ≤ sgS f x c) := by
  intro f
  induction f with
  | zero =>
    intro x c h
    show cif (c = 0 ∨ ¬ q64 x) (-2) c = -2 ∨ (c ≤ cif (c = 0 ∨ ¬ q64 x) (-2) c ∧ cif (c = 0 ∨ ¬ q64 x) (-2) c ≤ c + (0 : Nat) ∧ 1 ≤ cif (c = 0 ∨ ¬ q64 x) (-2) c)
    by_cases z : c = 0 ∨ ¬ q64 x
    · rw [cif_1 z]
      exact Or.inl rfl
    · rw [cif_0 z]
      refine Or.inr ⟨by omega, by omega, ?_⟩
      have : ¬ c = 0 := fun q => z (Or.inl q)
      omega
  | succ f ih =>
    intro x c h
    rw [sgS_1]
    by_cases a : q64 (x &&& 255)
    · rw [cif_1 a]
      by_cases z : c = 0 ∨ ¬ q64 x
      · rw [cif_1 z]
        exact Or.inl rfl
      · rw [cif_0 z]
        refine Or.inr ⟨by omega, by omega, ?_⟩
        have : ¬ c = 0 := fun q => z (Or.inl q)
        omega
    · rw [cif_0 a]
      by_cases z : 33 ≤ lo64 x ∧ lo64 x ≤ 126
      · rw [cif_1 z]
        have := ih (sh64 x) (c + 1) (by omega)
        omega
      · rw [cif_0 z]
        exact Or.inl rfl
def byU (x : Int64) (s : Int) : Int64 := (x.toUInt64 >>> ((Int32.ofInt s).toInt64.toUInt64 &&& Int64.toUInt64 63)).toInt64 &&& 255
def byS (x : Int64) (s : Int) : Int64 := (x >>> ((Int32.ofInt s).toInt64 &&& 63)) &&& 255
theorem by_b : ∀ b : Fin 8, ((Int32.ofInt (8 * (b.val : Int))).toInt64.toUInt64 &&& Int64.toUInt64 63).toBitVec.toNat % 64 = 8 * b.val ∧ ((Int32.ofInt (8 * (b.val : Int))).toInt64 &&& 63).toBitVec.smod 64 = BitVec.ofNat 64 (8 * b.val) := by decide
theorem by_e (x : Int64) (b : Fin 8) : byU x (8 * (b.val : Int)) = byS x (8 * (b.val : Int)) := by
  obtain ⟨h1, h2⟩ := by_b b
  apply Int64.toBitVec_inj.mp
  unfold byU byS
  rw [Int64.toBitVec_and, Int64.toBitVec_and, Int64.toBitVec_shiftRight, h2]
  have e3 : (x.toUInt64 >>> ((Int32.ofInt (8 * (b.val : Int))).toInt64.toUInt64 &&& Int64.toUInt64 63)).toInt64.toBitVec = x.toBitVec >>> (8 * b.val) := by
    show (x.toUInt64 >>> ((Int32.ofInt (8 * (b.val : Int))).toInt64.toUInt64 &&& Int64.toUInt64 63)).toBitVec = _
    rw [UInt64.toBitVec_shiftRight]
    show x.toBitVec >>> _ = _
    apply BitVec.eq_of_toNat_eq
    rw [BitVec.toNat_ushiftRight, BitVec.ushiftRight_eq', BitVec.toNat_ushiftRight, BitVec.toNat_umod]
    congr 1
  rw [e3]
  apply BitVec.eq_of_getLsbD_eq
  intro i hi
  rw [BitVec.getLsbD_and, BitVec.getLsbD_and, BitVec.getLsbD_ushiftRight]
  show _ = ((x.toBitVec.sshiftRight (BitVec.ofNat 64 (8 * b.val)).toNat).getLsbD i && _)
  have hb := b.isLt
  rw [show (BitVec.ofNat 64 (8 * b.val)).toNat = 8 * b.val by rw [BitVec.toNat_ofNat]; omega, BitVec.getLsbD_sshiftRight]
  by_cases c : i < 8
  · have : ¬ 64 ≤ i := by omega
    have l : 8 * b.val + i < 64 := by omega
    simp [this, l]
  · have z : (Int64.toBitVec 255).getLsbD i = false := by
      have : (Int64.toBitVec 255) = BitVec.ofNat 64 255 := rfl
      rw [this, BitVec.getLsbD_ofNat]
      have : Nat.testBit 255 i = false := by
        rw [show (255 : Nat) = 2 ^ 8 - 1 from rfl, Nat.testBit_two_pow_sub_one]
        simp
        omega
      rw [this]
      simp
    rw [z]
    simp
theorem by_v0 : ∀ n : Fin 256, (BitVec.ofNat 64 n.val).toInt = n.val ∧ ((BitVec.ofNat 64 n.val).signExtend 32).toInt = n.val := by decide +kernel
theorem by_v (y : Int64) : 0 ≤ (y &&& 255).toInt32.toInt ∧ (y &&& 255).toInt32.toInt ≤ 255 := by
  have h : (y &&& 255).toBitVec = BitVec.ofNat 64 (y.toBitVec.toNat % 256) := by
    rw [Int64.toBitVec_and]
    apply BitVec.eq_of_toNat_eq
    rw [BitVec.toNat_and, BitVec.toNat_ofNat]
    have : (Int64.toBitVec 255).toNat = 2 ^ 8 - 1 := rfl
    rw [this, Nat.and_two_pow_sub_one_eq_mod]
    omega
  have e : (y &&& 255).toInt32.toInt = ((BitVec.ofNat 64 (y.toBitVec.toNat % 256)).signExtend 32).toInt := by
    rw [← h]
    rfl
  rw [e, (by_v0 ⟨y.toBitVec.toNat % 256, by omega⟩).2]
  have := Nat.mod_lt y.toBitVec.toNat (show 0 < 256 by omega)
  show 0 ≤ ((y.toBitVec.toNat % 256 : Nat) : Int) ∧ ((y.toBitVec.toNat % 256 : Nat) : Int) ≤ 255
  omega
def byV (x : Int64) (s : Int) : Int := (byU x s).toInt32.toInt
theorem byV_r (x : Int64) (s : Int) : 0 ≤ byV x s ∧ byV x s ≤ 255 := by_v _
theorem byV_e (x : Int64) {b : Int} (b0 : 0 ≤ b) (b1 : b < 8) : (byS x (8 * b)).toInt32.toInt = byV x (8 * b) := by
  have := by_e x ⟨b.toNat, by omega⟩
  simp only [Int.toNat_of_nonneg b0] at this
  unfold byV
  rw [this]
theorem bchr_v0 : ∀ n : Fin 256, ((Int32.ofInt (n.val : Int)).toUInt32 % 65536).toInt32.toInt = n.val := by decide +kernel
theorem bchr_v {v : Int} (v0 : 0 ≤ v) (v1 : v ≤ 255) : bchr v = v := by
  have := bchr_v0 ⟨v.toNat, by omega⟩
  simp only [Int.toNat_of_nonneg v0] at this
  rw [bchr_eq]
  exact this
/-- the first i characters are put, of s -/
def PtC (σ σ' : Mem) (x : Int64) (s i : Int) : Prop := FrG (fun t a y => (t = 36 ∧ a = 0 ∧ σ 2 0 1 ≤ y ∧ y < σ 2 0 1 + s) ∨ (t = 2 ∧ a = 0 ∧ y = 1)) σ σ' ∧ σ' 2 0 1 = σ 2 0 1 + i ∧ ∀ k, 0 ≤ k → k < i → σ' 36 0 (σ 2 0 1 + k) = byV x (8 * (s - 1 - k))
def PtR (σ σ' : Mem) (x : Int64) (s i : Int) : Prop := FrG (fun t a y => t = 42 ∧ a = 0 ∧ σ 7 0 6 ≤ y ∧ y < σ 7 0 6 + s) σ σ' ∧ ∀ k, 0 ≤ k → k < i → σ' 42 0 (σ 7 0 6 + k) = byV x (8 * (s - 1 - k))
theorem PtC_s {σ σ' σ2 : Mem} {x : Int64} {s i b : Int} (h : PtC σ σ' x s i) (i0 : 0 ≤ i) (i1 : i < s) (hb : b = s - 1 - i) (h2 : σ2 = up (up σ' 36 0 (σ' 2 0 1) (byV x (8 * b))) 2 0 1 (σ' 2 0 1 + 1)) : PtC σ σ2 x s (i + 1) := by
  obtain ⟨h1, h3, h4⟩ := h
  subst h2
  refine ⟨(h1.u (Or.inl ⟨rfl, rfl, by omega, by omega⟩)).u (Or.inr ⟨rfl, rfl, rfl⟩), ?_, fun k k0 k1 => ?_⟩
  · rw [up_ap, if_pos ⟨rfl, rfl, rfl⟩]
    omega
  · rw [up_ap, if_neg (by rintro ⟨q, -⟩; omega), up_ap]
    by_cases z : k = i
    · rw [if_pos ⟨rfl, rfl, by omega⟩, hb, z]
    · rw [if_neg (fun q => z (by omega))]
      exact h4 k k0 (by omega)
theorem PtR_s {σ σ' σ2 : Mem} {x : Int64} {s i : Int} (h : PtR σ σ' x s i) (i0 : 0 ≤ i) (i1 : i < s) (h2 : σ2 = up σ' 42 0 (σ 7 0 6 + i) (byV x (8 * (s - 1 - i)))) : PtR σ σ2 x s (i + 1) := by
  obtain ⟨h1, h4⟩ := h
  subst h2
  refine ⟨h1.u ⟨rfl, rfl, by omega, by omega⟩, fun k k0 k1 => ?_⟩
  rw [up_ap]
  by_cases z : k = i
  · rw [if_pos ⟨rfl, rfl, by omega⟩, z]
  · rw [if_neg (fun q => z (by omega))]
    exact h4 k k0 (by omega)
def ca_X6_put : Nat → Option (Nat × Nat × Tr)
  | 220 => some (1, 99, T_X6_signsIn)
  | 226 => some (2, 2, T_X2_append)
  | _ => none
theorem cao_X6_put (l : Launch) : ∀ k n' ci T', ca_X6_put k = some (n', ci, T') → ∃ nn, nn + 1 ≤ 2 ∧ Site l yX6_put.cls k n' ci nn T' := by
  intro k n' ci T' h
  unfold ca_X6_put at h
  split at h
  · cases h; exact ⟨1, by decide, _, _, _, _, k_X6_signsIn l, Or.inr ⟨rfl, FX6_signsIn, Or.inl ⟨rfl, KRX6_220⟩⟩⟩
  · cases h; exact ⟨0, by decide, _, _, _, _, k_X2_append l, Or.inl ⟨_, rfl, FX2_append, KRX6_226⟩⟩
  · cases h
def T_X6_put : Tr := fun a σ K => match a with
  | [.inr (.inl (6, 0)), .inr (.inr x)] => (0 ≤ σ 2 0 1 ∧ σ 2 0 1 ≤ 80) ∧ (sgS 8 x 0 = -2 → K (some (-2)) σ) ∧ (80 < σ 2 0 1 + sgS 8 x 0 → sgS 8 x 0 ≠ -2 → K (some (-4)) σ) ∧ (sgS 8 x 0 ≠ -2 → σ 2 0 1 + sgS 8 x 0 ≤ 80 → ∀ σ1, PtC σ σ1 x (sgS 8 x 0) (sgS 8 x 0) → K (some (σ 2 0 1 + sgS 8 x 0)) σ1)
  | _ => False
set_option maxHeartbeats 8000000 in
set_option maxRecDepth 20000 in
theorem k_X6_put (l : Launch) : Ct l yX6_put cX6_put 5 (some .int) 2 T_X6_put := by
  refine mk_met (by decide +kernel) hCX6_put lCX6_put frX6_ok cstX6_ok (cao_X6_put l) ?_ ?_
  · intro a σ K h
    unfold T_X6_put at h
    split at h
    · simp [eL]
    · exact h.elim
  · intro a σ K ha hR h
    unfold T_X6_put at h
    split at h
    · rename_i x
      refine ⟨fun pc => if pc = 36 then some (fun L S σ' k => match L, S with | [some (.inr (.inl c1)), some (.inr (.inr x')), none, some (.inl s), some (.inl b)], [] => (c1 = (6, 0) ∧ x' = x ∧ s = sgS 8 x 0 ∧ 1 ≤ s ∧ σ 2 0 1 + s ≤ 80 ∧ -1 ≤ b ∧ b ≤ s - 1 ∧ PtC σ σ' x s (s - 1 - b)) ∧ k = (10 + b).toNat | _, _ => False) else none, 200, ?_, ?_⟩
      · intro pc I L S σ' k hcut hi
        dsimp only at hcut
        split at hcut
        · rename_i hpc
          subst hpc
          cases hcut
          try dsimp only at hi
          split at hi
          · rename_i c1 x' s b
            obtain ⟨hi, rfl⟩ := hi
            obtain ⟨rfl, rfl, hs, s1, s2, b0, b1, hI⟩ := hi
            obtain ⟨p, h1, h2, h3⟩ := h
            simp only [wp, stp, drp, entL, eL, lget, lset, okst, cnd, swt, rcv, Kr_int, Kr_bool, Kr_void, List.length_cons, List.length_nil, List.replicate, List.append_nil, List.cons_append, List.nil_append, List.take_succ_cons, List.take_zero, List.drop_succ_cons, List.drop_zero, List.reverse_cons, List.reverse_nil, Option.map_some, Option.map_none, Option.toList_some, Option.toList_none, Nat.reduceAdd, Nat.reduceSub, Nat.reduceLT, Nat.reduceLeDiff, Nat.reduceEqDiff, ↓reduceIte, Nat.add_zero, Nat.zero_add, true_and, and_true, Nat.le_refl, reduceCtorEq, false_implies, true_implies, not_true_eq_false, not_false_eq_true, Int.reduceAdd, Int.reduceSub, Int.reduceMul, Int.reduceLE, Int.reduceLT, Int.reduceEq, Int.reduceNe, Int.reduceNeg, Int.reduceDiv, Int.reduceMod, Bool.false_eq_true, Int.le_refl, and_self, true_or, or_true, inR_l, fv0, fv1, fv2, fv3, nc2, nc4, nc6, nc16, nc25, nc60, nc65, nc80, nc130, nc384, nc390, fp_0_0, fp_0_1, fp_0_2, fp_1_0, fp_1_1, fp_1_2, fp_1_3, fp_1_4, fp_1_5, fp_1_6, fp_1_7, fp_1_8, fp_1_9, fp_1_10, fp_1_11, fp_1_12, fp_1_13, fp_1_14, fp_2_0, fp_2_1, fp_2_2, fp_2_3, fp_3_0, fp_3_1, fp_4_0, fp_4_1, fp_4_2, fp_4_3, fp_4_4, fp_4_5, fp_4_6, fp_4_7, fp_5_0, fp_5_1, fp_5_2, fp_5_3, fp_5_4, fp_5_5, fp_5_6, fp_5_7, fp_6_0, fp_6_1, fp_6_2, fp_6_3, fp_6_4, fp_6_5, fp_6_6, fp_6_7, fp_6_8, fp_6_9, fp_6_10, fp_6_11, fp_6_12, fp_6_13, fp_6_14, fp_6_15, fp_7_0, fp_7_1, fp_7_2, fp_7_3, fp_7_4, fp_7_5, fp_7_6, fp_7_7, fp_7_8, fp_7_9, fp_7_10, fp_7_11, fp_7_12, fp_7_13, fp_7_14, fp_7_15, fp_7_16, fp_7_17, fp_7_18, fp_7_19, fp_7_20, fp_7_21, fp_7_22, fp_7_23, fp_7_24, iz_0_1, iz_0_2, iz_1_8, iz_1_9, iz_1_11, iz_2_1, iz_2_2, iz_2_3, iz_3_1, iz_4_1, iz_4_2, iz_5_0, iz_6_8, iz_6_9, iz_6_13, iz_6_14, iz_6_15, iz_7_2, iz_7_6, iz_7_12, iz_7_20, iz_7_21, iz_7_23, iz_7_24, ak_8, ak_9, ak_10, ak_11, ak_12, ak_13, ak_14, ak_15, ak_16, ak_17, ak_18, ak_19, ak_20, ak_21, ak_22, ak_23, ak_24, ak_25, ak_26, ak_27, ak_28, ak_29, ak_30, ak_31, ak_32, ak_33, ak_34, ak_35, ak_36, ak_37, ak_38, ak_39, ak_40, ak_41, ak_42, ak_43, ak_44, ak_45, ak_46, ak_47, ak_48, ak_49, ak_50, ak_51, ak_52, ak_53, ak_54, ak_55, ak_56, el31, el33, el34, CX6_put, ca_X6_put, frX6, kcX6, klX6, T_X6_signsIn, T_X2_append, xT_up, xL_20, xL_21, exists_eq_right_right, exists_eq_right, exists_eq_left, Nat.lt_irrefl, and_self, implies_true, forall_const]
            have e : ((x'.toUInt64 >>> ((Int32.ofInt (8 * b)).toInt64.toUInt64 &&& Int64.toUInt64 63)).toInt64 &&& 255).toInt32.toInt = byV x' (8 * b) := rfl
            rw [e, bchr_v (byV_r _ _).1 (byV_r _ _).2]
            have r := byV_r x' (8 * b)
            have e2 := hI.2.1
            refine ⟨fun c => ?_, fun c => ⟨by simp only [inR]; omega, by omega, by simp only [inR]; omega, by omega, hs, s1, s2, by omega, by omega, ?_⟩⟩
            · have eb : b = -1 := by omega
              rw [eb, show s - 1 - -1 = s by omega] at hI
              rw [hI.2.1, hs]
              rw [hs] at hI s1 s2
              exact h3 (by omega) s2 σ' hI
            · rw [show s - 1 - (b + -1) = s - 1 - b + 1 by omega, if_pos (by omega)]
              exact PtC_s hI (by omega) (by omega) (by omega) rfl
          · exact hi.elim
        · cases hcut
      · simp only [wp, stp, drp, entL, eL, lget, lset, okst, cnd, swt, rcv, Kr_int, Kr_bool, Kr_void, List.length_cons, List.length_nil, List.replicate, List.append_nil, List.cons_append, List.nil_append, List.take_succ_cons, List.take_zero, List.drop_succ_cons, List.drop_zero, List.reverse_cons, List.reverse_nil, Option.map_some, Option.map_none, Option.toList_some, Option.toList_none, Nat.reduceAdd, Nat.reduceSub, Nat.reduceLT, Nat.reduceLeDiff, Nat.reduceEqDiff, ↓reduceIte, Nat.add_zero, Nat.zero_add, true_and, and_true, Nat.le_refl, reduceCtorEq, false_implies, true_implies, not_true_eq_false, not_false_eq_true, Int.reduceAdd, Int.reduceSub, Int.reduceMul, Int.reduceLE, Int.reduceLT, Int.reduceEq, Int.reduceNe, Int.reduceNeg, Int.reduceDiv, Int.reduceMod, Bool.false_eq_true, Int.le_refl, and_self, true_or, or_true, inR_l, fv0, fv1, fv2, fv3, nc2, nc4, nc6, nc16, nc25, nc60, nc65, nc80, nc130, nc384, nc390, fp_0_0, fp_0_1, fp_0_2, fp_1_0, fp_1_1, fp_1_2, fp_1_3, fp_1_4, fp_1_5, fp_1_6, fp_1_7, fp_1_8, fp_1_9, fp_1_10, fp_1_11, fp_1_12, fp_1_13, fp_1_14, fp_2_0, fp_2_1, fp_2_2, fp_2_3, fp_3_0, fp_3_1, fp_4_0, fp_4_1, fp_4_2, fp_4_3, fp_4_4, fp_4_5, fp_4_6, fp_4_7, fp_5_0, fp_5_1, fp_5_2, fp_5_3, fp_5_4, fp_5_5, fp_5_6, fp_5_7, fp_6_0, fp_6_1, fp_6_2, fp_6_3, fp_6_4, fp_6_5, fp_6_6, fp_6_7, fp_6_8, fp_6_9, fp_6_10, fp_6_11, fp_6_12, fp_6_13, fp_6_14, fp_6_15, fp_7_0, fp_7_1, fp_7_2, fp_7_3, fp_7_4, fp_7_5, fp_7_6, fp_7_7, fp_7_8, fp_7_9, fp_7_10, fp_7_11, fp_7_12, fp_7_13, fp_7_14, fp_7_15, fp_7_16, fp_7_17, fp_7_18, fp_7_19, fp_7_20, fp_7_21, fp_7_22, fp_7_23, fp_7_24, iz_0_1, iz_0_2, iz_1_8, iz_1_9, iz_1_11, iz_2_1, iz_2_2, iz_2_3, iz_3_1, iz_4_1, iz_4_2, iz_5_0, iz_6_8, iz_6_9, iz_6_13, iz_6_14, iz_6_15, iz_7_2, iz_7_6, iz_7_12, iz_7_20, iz_7_21, iz_7_23, iz_7_24, ak_8, ak_9, ak_10, ak_11, ak_12, ak_13, ak_14, ak_15, ak_16, ak_17, ak_18, ak_19, ak_20, ak_21, ak_22, ak_23, ak_24, ak_25, ak_26, ak_27, ak_28, ak_29, ak_30, ak_31, ak_32, ak_33, ak_34, ak_35, ak_36, ak_37, ak_38, ak_39, ak_40, ak_41, ak_42, ak_43, ak_44, ak_45, ak_46, ak_47, ak_48, ak_49, ak_50, ak_51, ak_52, ak_53, ak_54, ak_55, ak_56, el31, el33, el34, CX6_put, ca_X6_put, frX6, kcX6, klX6, T_X6_signsIn, T_X2_append, xT_up, xL_20, xL_21, exists_eq_right_right, exists_eq_right, exists_eq_left, Nat.lt_irrefl, and_self, implies_true, forall_const]
        obtain ⟨p, h1, h2, h3⟩ := h
        have r := sgS_r 8 x 0 (by omega)
        refine ⟨fun a => ⟨by simp only [inR]; omega, fun c => ⟨by simp only [inR]; omega, by omega, c, by omega, FrG.r, by omega, fun k k0 k1 => by omega⟩, fun c => h2 (by omega) a⟩, fun a => h1 (Classical.not_not.mp a)⟩
    · exact h.elim
