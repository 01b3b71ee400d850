/-! the reference's force -/
theorem fst_t1 : ∀ n : Fin 16, ((Int32.ofInt (n.val : Int) &&& 31).toBitVec.smod 32#32).toNat = n.val := by decide
theorem fst_t2 : ∀ n k : Fin 16, ((1 : Int32) <<< (Int32.ofInt (n.val : Int) &&& 31)).toBitVec.getLsbD k.val = decide (k = n) := by decide
theorem fst_t3 (X : Int32) : (X &&& 1).toInt = 1 ↔ X.toBitVec.getLsbD 0 = true := by
  have h : (X &&& 1).toBitVec = BitVec.setWidth 32 (BitVec.ofBool (X.toBitVec.getLsbD 0)) := by
    rw [Int32.toBitVec_and]
    exact BitVec.and_one_eq_setWidth_ofBool_getLsbD
  show (X &&& 1).toBitVec.toInt = 1 ↔ _
  rw [h]
  cases X.toBitVec.getLsbD 0 <;> decide
theorem fst_t4 (U : Int32) (n : Fin 16) : ((U >>> (Int32.ofInt (n.val : Int) &&& 31)) &&& 1).toInt = 1 ↔ U.toBitVec.getLsbD n.val = true := by
  rw [fst_t3, Int32.toBitVec_shiftRight]
  have h := fst_t1 n
  show (U.toBitVec.sshiftRight ((Int32.ofInt (n.val : Int) &&& 31).toBitVec.smod 32#32).toNat).getLsbD 0 = true ↔ _
  rw [h, BitVec.getLsbD_sshiftRight]
  have := n.isLt
  simp
  omega
theorem fst1_bit {u k : Int} (k0 : 0 ≤ k) (k1 : k < 16) : fst1 u k ↔ (Int32.ofInt u).toBitVec.getLsbD k.toNat = true := by
  obtain ⟨n, rfl⟩ := Int.eq_ofNat_of_zero_le k0
  have hn : n < 16 := by omega
  have := fst_t4 (Int32.ofInt u) ⟨n, hn⟩
  unfold fst1
  rw [band_eq, bshr_eq, Int32.ofInt_toInt]
  exact this
theorem fst1_0 {k : Int} (k0 : 0 ≤ k) (k1 : k < 16) : ¬ fst1 0 k := by
  rw [fst1_bit k0 k1]
  intro h
  have : (Int32.ofInt 0).toBitVec = 0#32 := rfl
  rw [this, BitVec.getLsbD_zero] at h
  cases h
theorem fst1_or {u y k : Int} (y0 : 0 ≤ y) (y1 : y < 16) (k0 : 0 ≤ k) (k1 : k < 16) : fst1 (bor u (bshl 1 y)) k ↔ fst1 u k ∨ k = y := by
  rw [fst1_bit k0 k1, fst1_bit k0 k1]
  obtain ⟨n, rfl⟩ := Int.eq_ofNat_of_zero_le y0
  obtain ⟨m, rfl⟩ := Int.eq_ofNat_of_zero_le k0
  have t := fst_t2 ⟨n, by omega⟩ ⟨m, by omega⟩
  rw [bor_eq, bshl_eq, Int32.ofInt_toInt, Int32.ofInt_toInt, Int32.toBitVec_or, BitVec.getLsbD_or]
  have e1 : Int32.ofInt 1 = 1 := rfl
  rw [e1]
  have e2 : ((m : Int)).toNat = m := Int.toNat_natCast m
  rw [e2]
  have t' : ((1 : Int32) <<< (Int32.ofInt (n : Int) &&& 31)).toBitVec.getLsbD m = decide (m = n) := by
    rw [show decide (m = n) = decide ((⟨m, by omega⟩ : Fin 16) = ⟨n, by omega⟩) by simp]
    exact t
  rw [t', Bool.or_eq_true, decide_eq_true_eq]
  exact ⟨fun q => q.elim Or.inl (fun q => Or.inr (by omega)), fun q => q.elim Or.inl (fun q => Or.inr (by omega))⟩
def p4556 (t a : Nat) (_x : Int) : Prop := (t = 45 ∨ t = 46 ∨ t = 54) ∧ a = 0
def p54 (t a : Nat) (_x : Int) : Prop := t = 54 ∧ a = 0
def ar2 (σ : Mem) (x y : Int) : Prop := x ≠ y ∧ rOp σ x ∧ rOp σ y ∧ rMc σ x = rMc σ y
/-- k is forced ahead of o -/
def rFA (σ : Mem) (k o : Int) : Prop := fst1 (σ 54 0 o) k
def rClo (σ : Mem) (u : Int) (C : Int → Int → Prop) : Prop := Clo (rSt σ) (rMc σ) (rDu σ) (fun o => rRe σ (o / 4)) u C
def FPs (σ σ' : Mem) : Prop := ∀ o k, 0 ≤ o → o < 16 → 0 ≤ k → k < 16 → rFA σ' k o → ar2 σ o k
def FLs (σ σ' : Mem) (u : Int) : Prop := ∀ C, rClo σ u C → ∀ o k, 0 ≤ o → o < 16 → 0 ≤ k → k < 16 → rFA σ' k o → C k o
noncomputable def cfA (σ : Mem) : Int := sm (fun o => sm (fun k => b2i (rFA σ k o)) 16) 16
theorem cfA_r (σ : Mem) : 0 ≤ cfA σ ∧ cfA σ ≤ 256 := by
  have h := sm_r (f := fun o => sm (fun k => b2i (rFA σ k o)) 16) (b := 16) (fun i => by
    have := sm_r (f := fun k => b2i (rFA σ k i)) (b := 1) (fun k => b2i_r _) 16
    omega) 16
  unfold cfA
  omega
theorem cfA_s {σ σ' : Mem} (h : ∀ o k, 0 ≤ o → o < 16 → 0 ≤ k → k < 16 → rFA σ k o → rFA σ' k o) {x y : Int} (x0 : 0 ≤ x) (x1 : x < 16) (y0 : 0 ≤ y) (y1 : y < 16) (hn : ¬ rFA σ y x) (hy : rFA σ' y x) : cfA σ + 1 ≤ cfA σ' := by
  unfold cfA
  have hle : ∀ o : Nat, o < 16 → ∀ k : Nat, k < 16 → b2i (rFA σ k o) ≤ b2i (rFA σ' k o) := fun o ho k hk => b2i_le (h o k (by omega) (by omega) (by omega) (by omega))
  refine sm_lt 16 (fun o ho => sm_le 16 (hle o ho)) ⟨x.toNat, by omega, ?_⟩
  refine sm_lt 16 (hle x.toNat (by omega)) ⟨y.toNat, by omega, ?_⟩
  rw [Int.toNat_of_nonneg x0, Int.toNat_of_nonneg y0, b2i_0 hn, b2i_1 hy]
  omega
theorem p4556_e {σ σ' : Mem} (h : FrG p4556 σ σ') : σ' 38 0 = σ 38 0 := h.f 38 0 (by rintro x ⟨q, -⟩; omega)
/-- rounds -/
def FOr (σ σ' : Mem) (u : Int) : Prop := FrG p4556 σ σ' ∧ FPs σ σ' ∧ FLs σ σ' u
def FO0 (σ σ' : Mem) (x : Int) : Prop := FrG p4556 σ σ' ∧ ∀ y, 0 ≤ y → y < x → σ' 54 0 y = 0
theorem FO0_0 {σ : Mem} : FO0 σ σ 0 := ⟨FrG.r, fun y a b => by omega⟩
theorem FO0_s {σ σ' : Mem} {x : Int} (h : FO0 σ σ' x) : FO0 σ (up σ' 54 0 x 0) (x + 1) := by
  refine ⟨h.1.u ⟨Or.inr (Or.inr rfl), rfl⟩, fun y a b => ?_⟩
  by_cases c : y = x
  · simp [up_ap, c]
  · simp [up_ap, c]
    exact h.2 y a (by omega)
theorem FOr_0 {σ σ' : Mem} {u x : Int} (h : FO0 σ σ' x) (hx : 16 ≤ x) : FOr σ σ' u := by
  have z : ∀ o k, 0 ≤ o → o < 16 → 0 ≤ k → k < 16 → ¬ rFA σ' k o := fun o k a b c d q => by
    unfold rFA at q
    rw [h.2 o a (by omega)] at q
    exact fst1_0 c d q
  exact ⟨h.1, fun o k a b c d q => absurd q (z o k a b c d), fun C hC o k a b c d q => absurd q (z o k a b c d)⟩
theorem FOr_g {σ σ' : Mem} {u : Int} (hw : rWF σ) (h : FOr σ σ' u) : gOK σ' ∧ rWF σ' ∧ rOp σ' = rOp σ := by
  have R := r38 (p4556_e h.1)
  have eV : rOp σ' = rOp σ := by
    unfold rOp
    rw [R.1]
  have w := R.2.2.2.2.2.2.2.1.mpr hw
  refine ⟨⟨w, fun o k a b c d q => ?_⟩, w, eV⟩
  rw [eV]
  have := h.2.1 o k a b c d q
  exact ⟨this.2.1, this.2.2.1⟩
/-- the relation of a closed one has the forced ones -/
theorem FOr_sub {σ σ' : Mem} {u : Int} (h : FOr σ σ' u) {C : Int → Int → Prop} (hC : rClo σ u C) : ∀ o' o, rOp σ o' → rOp σ o → pFc σ' o' o → pA (rMc σ) C o' o := by
  intro o' o v' v p
  rcases p with p | p
  · exact Or.inl p
  · have a := h.2.1 o o' v.1 v.2.1 v'.1 v'.2.1 p
    exact Or.inr ⟨a.2.2.2.symm, h.2.2 C hC o o' v.1 v.2.1 v'.1 v'.2.1 p⟩
theorem fHd_e {σ σ' : Mem} (hF : σ' 38 0 = σ 38 0) {g : Int → Int} : fHd σ' g ↔ IsHead (rOp σ) (pFc σ') (rDu σ) (fun o => rRe σ (o / 4)) g := by
  have R := r38 hF
  unfold fHd rOp
  rw [R.1, R.2.2.1, R.2.2.2.1]
theorem fTl_e {σ σ' : Mem} (hF : σ' 38 0 = σ 38 0) {g : Int → Int} : fTl σ' g ↔ IsTail (rOp σ) (pFc σ') (rDu σ) g := by
  have R := r38 hF
  unfold fTl rOp
  rw [R.1, R.2.2.1]
theorem FOr_no {σ σ' : Mem} {u : Int} (hw : rWF σ) (h : FOr σ σ' u) (hn : (∀ g, ¬ fHd σ' g) ∨ ∀ t, ¬ fTl σ' t) : ∀ C, ¬ rClo σ u C := by
  intro C hC
  have hs := FOr_sub h hC
  have e := p4556_e h.1
  obtain ⟨g, t, H, T, -, -⟩ := hC
  rcases hn with q | q
  · obtain ⟨g', H'⟩ := head_ex gOK_V (fun o v => (rWF_op hw v).2.2.2.2.2.1) hs H
    exact q g' ((fHd_e e).mpr H')
  · obtain ⟨t', T'⟩ := tail_ex gOK_V hs T
    exact q t' ((fTl_e e).mpr T')
/-- in a round; heads and tails are those of its start σ1 -/
def FOx (σ σ' : Mem) (u X x y mo : Int) : Prop := ∃ σ1, FOr σ σ1 u ∧ rBd σ1 ∧ fHd σ1 (σ1 45 0) ∧ fTl σ1 (σ1 46 0) ∧ FrG p54 σ1 σ' ∧ FOr σ σ' u ∧ (∀ o, rOp σ o → o < X → σ1 45 0 o + rDu σ o + σ1 46 0 o ≤ u) ∧ (∀ a b, ar2 σ a b → (a < x ∨ (a = x ∧ b < y)) → u < σ1 45 0 a + rDu σ a + (rDu σ b + σ1 46 0 b) → rFA σ' b a) ∧ ((mo = 0 ∧ σ' 54 0 = σ1 54 0) ∨ mo = 1)
theorem FOx_0 {σ σ' σ1 : Mem} {u : Int} (h : FOr σ σ' u) (hF : FrG p456 σ' σ1) (hb : rBd σ1) (hh : fHd σ' (σ1 45 0)) (ht : fTl σ' (σ1 46 0)) : FOx σ σ1 u 0 0 0 0 := by
  obtain ⟨e38, e54⟩ := p456_e hF
  have eA : rFA σ1 = rFA σ' := by
    funext k o
    unfold rFA
    rw [e54]
  have eP : pFc σ1 = pFc σ' := by
    funext k o
    unfold pFc
    rw [e54]
  have h1 : FOr σ σ1 u := by
    refine ⟨h.1.t (hF.w (by rintro t a x ⟨q, r⟩; exact ⟨by omega, r⟩)), ?_, ?_⟩
    · unfold FPs
      rw [eA]
      exact h.2.1
    · unfold FLs
      rw [eA]
      exact h.2.2
  refine ⟨σ1, h1, hb, ?_, ?_, FrG.r, h1, fun o v q => by have := v.1; omega, fun a b q => ?_, Or.inl ⟨rfl, rfl⟩⟩
  · rw [fHd_e e38, eP]
    exact hh
  · rw [fTl_e e38, eP]
    exact ht
  · have := q.2.1.1
    have := q.2.2.1.1
    omega
theorem FOx_v {σ σ' : Mem} {u X x y mo : Int} (hw : rWF σ) (h : FOx σ σ' u X x y mo) : rBd σ' ∧ rWF σ' ∧ rOp σ' = rOp σ ∧ (∀ x, eF σ' x = σ' 45 0 x + rDu σ x) ∧ (∀ x, wTF σ' x = rDu σ x + σ' 46 0 x) ∧ (∀ x y, ar2 σ' x y ↔ ar2 σ x y) ∧ FrG p4556 σ σ' ∧ (mo = 0 ∨ mo = 1) ∧ ∃ σ1, σ1 45 0 = σ' 45 0 ∧ σ1 46 0 = σ' 46 0 ∧ FOr σ σ1 u ∧ fHd σ1 (σ1 45 0) ∧ fTl σ1 (σ1 46 0) := by
  obtain ⟨σ1, a1, a2, a3, a4, a5, a6, a7, a8, a9⟩ := h
  have e45 : σ' 45 0 = σ1 45 0 := a5.f 45 0 (by rintro x ⟨q, -⟩; omega)
  have e46 : σ' 46 0 = σ1 46 0 := a5.f 46 0 (by rintro x ⟨q, -⟩; omega)
  have e1 : σ' 38 0 = σ1 38 0 := a5.f 38 0 (by rintro x ⟨q, -⟩; omega)
  have R1 := r38 e1
  have R := r38 (p4556_e a6.1)
  obtain ⟨g1, g2, g3⟩ := FOr_g hw a6
  refine ⟨⟨g2, ?_⟩, g2, g3, fun x => ?_, fun x => ?_, fun x y => ?_, a6.1, by omega, σ1, e45.symm, e46.symm, a1, a3, a4⟩
  · rw [e45, e46]
    unfold rOp
    rw [R1.1]
    exact a2.2
  · unfold eF
    rw [R.2.2.1]
  · unfold wTF
    rw [R.2.2.1]
  · unfold ar2
    rw [g3, R.2.1]
theorem FO_ge {σ σ1 : Mem} {u : Int} (hw : rWF σ) (h : FOr σ σ1 u) (hh : fHd σ1 (σ1 45 0)) (ht : fTl σ1 (σ1 46 0)) {C : Int → Int → Prop} (hC : rClo σ u C) {h' t' : Int → Int} (H : IsHead (rOp σ) (pA (rMc σ) C) (rDu σ) (fun o => rRe σ (o / 4)) h') (T : IsTail (rOp σ) (pA (rMc σ) C) (rDu σ) t') {o : Int} (v : rOp σ o) : σ1 45 0 o ≤ h' o ∧ σ1 46 0 o ≤ t' o := by
  have hs := FOr_sub h hC
  have e := p4556_e h.1
  exact ⟨head_mono (fun o v => (rWF_op hw v).2.2.1) (fun o v => (rWF_op hw v).2.2.2.2.2.1) hs ((fHd_e e).mp hh) H v, tail_mono (fun o v => (rWF_op hw v).2.2.1) hs ((fTl_e e).mp ht) T v⟩
theorem FOx_long {σ σ' : Mem} {u X x y mo : Int} (hw : rWF σ) (h : FOx σ σ' u X x y mo) {o : Int} (v : rOp σ o) (hl : u < eF σ' o + σ' 46 0 o) : ∀ C, ¬ rClo σ u C := by
  intro C hC
  obtain ⟨-, -, -, e1, -, -, -, -, σ1, f1, f2, a1, a3, a4⟩ := FOx_v hw h
  have hC' := hC
  obtain ⟨g, t, H, T, hu, -⟩ := hC
  have := FO_ge hw a1 a3 a4 hC' H T v
  rw [f1, f2] at this
  rw [e1] at hl
  have h3 := hu o v
  have : rDu σ o = rDu σ o := rfl
  omega
theorem FOx_x {σ σ' : Mem} {u x mo : Int} (h : FOx σ σ' u x x 0 mo) (hx : rOp σ x → σ' 45 0 x + rDu σ x + σ' 46 0 x ≤ u) : FOx σ σ' u (x + 1) x 0 mo := by
  obtain ⟨σ1, a1, a2, a3, a4, a5, a6, a7, a8, a9⟩ := h
  have e45 : σ' 45 0 = σ1 45 0 := a5.f 45 0 (by rintro x ⟨q, -⟩; omega)
  have e46 : σ' 46 0 = σ1 46 0 := a5.f 46 0 (by rintro x ⟨q, -⟩; omega)
  refine ⟨σ1, a1, a2, a3, a4, a5, a6, fun o v q => ?_, a8, a9⟩
  rcases (show o < x ∨ o = x by omega) with c | rfl
  · exact a7 o v c
  · rw [e45, e46] at hx
    exact hx v
theorem FOx_row {σ σ' : Mem} {u x y mo : Int} (h : FOx σ σ' u (x + 1) x y mo) (hy : 16 ≤ y) : FOx σ σ' u (x + 1) (x + 1) 0 mo := by
  obtain ⟨σ1, a1, a2, a3, a4, a5, a6, a7, a8, a9⟩ := h
  refine ⟨σ1, a1, a2, a3, a4, a5, a6, a7, fun a b q d => a8 a b q ?_, a9⟩
  have := q.2.2.1.2.1
  have := q.2.2.1.1
  omega
theorem FOx_no {σ σ' : Mem} {u x y mo : Int} (h : FOx σ σ' u (x + 1) x y mo) (hn : ar2 σ x y → u < σ' 45 0 x + rDu σ x + (rDu σ y + σ' 46 0 y) → rFA σ' y x) : FOx σ σ' u (x + 1) x (y + 1) mo := by
  obtain ⟨σ1, a1, a2, a3, a4, a5, a6, a7, a8, a9⟩ := h
  have e45 : σ' 45 0 = σ1 45 0 := a5.f 45 0 (by rintro x ⟨q, -⟩; omega)
  have e46 : σ' 46 0 = σ1 46 0 := a5.f 46 0 (by rintro x ⟨q, -⟩; omega)
  refine ⟨σ1, a1, a2, a3, a4, a5, a6, a7, fun a b q d w => ?_, a9⟩
  by_cases c : a = x ∧ b = y
  · obtain ⟨rfl, rfl⟩ := c
    rw [← e45, ← e46] at w
    exact hn q w
  · exact a8 a b q (by omega) w
theorem FOx_add {σ σ' σ2 : Mem} {u x y mo : Int} (hw : rWF σ) (h : FOx σ σ' u (x + 1) x y mo) (hp : ar2 σ x y) (hl : u < σ' 45 0 x + rDu σ x + (rDu σ y + σ' 46 0 y)) (hn : ¬ rFA σ' y x) (h2 : σ2 = up σ' 54 0 x (bor (σ' 54 0 x) (bshl 1 y))) : FOx σ σ2 u (x + 1) x (y + 1) 1 ∧ cfA σ' + 1 ≤ cfA σ2 := by
  obtain ⟨σ1, a1, a2, a3, a4, a5, a6, a7, a8, a9⟩ := h
  have e45 : σ' 45 0 = σ1 45 0 := a5.f 45 0 (by rintro x ⟨q, -⟩; omega)
  have e46 : σ' 46 0 = σ1 46 0 := a5.f 46 0 (by rintro x ⟨q, -⟩; omega)
  have x0 := hp.2.1.1
  have x1 := hp.2.1.2.1
  have y0 := hp.2.2.1.1
  have y1 := hp.2.2.1.2.1
  have ef : ∀ o, σ2 54 0 o = if o = x then bor (σ' 54 0 x) (bshl 1 y) else σ' 54 0 o := fun o => by rw [h2]; simp [up_ap]
  have eA : ∀ o k, 0 ≤ o → o < 16 → 0 ≤ k → k < 16 → (rFA σ2 k o ↔ rFA σ' k o ∨ (o = x ∧ k = y)) := by
    intro o k o0 o1 k0 k1
    unfold rFA
    rw [ef]
    by_cases c : o = x
    · subst c
      rw [if_pos rfl, fst1_or y0 y1 k0 k1]
      exact ⟨fun q => q.elim Or.inl (fun q => Or.inr ⟨rfl, q⟩), fun q => q.elim Or.inl (fun q => Or.inr q.2)⟩
    · rw [if_neg c]
      exact ⟨Or.inl, fun q => q.elim id (fun q => absurd q.1 c)⟩
  refine ⟨⟨σ1, a1, a2, a3, a4, by rw [h2]; exact a5.u ⟨rfl, rfl⟩, ⟨by rw [h2]; exact a6.1.u ⟨Or.inr (Or.inr rfl), rfl⟩, fun o k o0 o1 k0 k1 q => ?_, fun C hC o k o0 o1 k0 k1 q => ?_⟩, a7, fun a b q d w => ?_, Or.inr rfl⟩, ?_⟩
  · rcases (eA o k o0 o1 k0 k1).mp q with q | ⟨rfl, rfl⟩
    · exact a6.2.1 o k o0 o1 k0 k1 q
    · exact hp
  · rcases (eA o k o0 o1 k0 k1).mp q with q | ⟨rfl, rfl⟩
    · exact a6.2.2 C hC o k o0 o1 k0 k1 q
    · have hC' := hC
      obtain ⟨g, t, H, T, hu, hc⟩ := hC
      have g1 := FO_ge hw a1 a3 a4 hC' H T hp.2.1
      have g2 := FO_ge hw a1 a3 a4 hC' H T hp.2.2.1
      rw [e45, e46] at hl
      exact hc o k hp.2.1 hp.2.2.1 hp.1 hp.2.2.2 (by omega)
  · rw [eA a b q.2.1.1 q.2.1.2.1 q.2.2.1.1 q.2.2.1.2.1]
    by_cases c : a = x ∧ b = y
    · exact Or.inr c
    · exact Or.inl (a8 a b q (by omega) w)
  · exact cfA_s (fun o k o0 o1 k0 k1 q => (eA o k o0 o1 k0 k1).mpr (Or.inl q)) x0 x1 y0 y1 hn ((eA x y x0 x1 y0 y1).mpr (Or.inr ⟨rfl, rfl⟩))
/-- all that the limit forces is found -/
def FOT (σ σ' : Mem) (u : Int) : Prop := FOr σ σ' u ∧ rClo σ u (rFA σ')
theorem FOx_t {σ σ' : Mem} {u X x : Int} (h : FOx σ σ' u X x 0 0) (hX : 16 ≤ X) (hx : 16 ≤ x) : FOT σ σ' u := by
  obtain ⟨σ1, a1, a2, a3, a4, a5, a6, a7, a8, a9⟩ := h
  have e54 : σ' 54 0 = σ1 54 0 := by
    rcases a9 with q | q
    · exact q.2
    · omega
  have e := p4556_e a1.1
  have eP : ∀ o' o, rOp σ o' → rOp σ o → (pFc σ1 o' o ↔ pA (rMc σ) (rFA σ') o' o) := by
    intro o' o v' v
    unfold pFc pA rFA
    rw [← e54]
    exact ⟨fun q => q.elim Or.inl (fun q => Or.inr ⟨(a6.2.1 o o' v.1 v.2.1 v'.1 v'.2.1 q).2.2.2.symm, q⟩), fun q => q.elim Or.inl (fun q => Or.inr q.2)⟩
  refine ⟨a6, σ1 45 0, σ1 46 0, (IsHead_cg eP (fun _ _ => rfl) (fun _ _ => rfl)).mp ((fHd_e e).mp a3), (IsTail_cg eP (fun _ _ => rfl)).mp ((fTl_e e).mp a4), fun o v => a7 o v (by have := v.2.1; omega), fun a b va vb hne hm w => a8 a b ⟨hne, va, vb, hm⟩ (by have := va.2.1; omega) (by omega)⟩
theorem FOx_end {σ σ' : Mem} {u X x y mo : Int} (h : FOx σ σ' u X x y mo) : FOr σ σ' u := by
  obtain ⟨σ1, a1, a2, a3, a4, a5, a6, a7, a8, a9⟩ := h
  exact a6
theorem FOr_both {σ σ' : Mem} {u : Int} (hw : rWF σ) (h : FOr σ σ' u) (hb : bthI σ' 16 0) : ∀ C, ¬ rClo σ u C := by
  intro C hC
  obtain ⟨a, b, b0, b1, b2, b3, b4⟩ := hb
  have a16 : a < 16 := by omega
  have p := h.2.1 a b (by omega) a16 b0 (by omega) b3
  have c1 := h.2.2 C hC a b (by omega) a16 b0 (by omega) b3
  have c2 := h.2.2 C hC b a b0 (by omega) (by omega) a16 b4
  obtain ⟨g, t, H, T, hu, hc⟩ := hC
  have h1 := (H a p.2.1).2.1 b p.2.2.1 (Or.inr ⟨p.2.2.2.symm, c1⟩)
  have h2 := (H b p.2.2.1).2.1 a p.2.1 (Or.inr ⟨p.2.2.2, c2⟩)
  have h3 := (rWF_op hw p.2.1).2.2.1
  have h4 := (rWF_op hw p.2.2.1).2.2.1
  omega
def T_X7_areTwo2 : Tr := fun a σ K => match a with
  | [.inr (.inl (7, 0)), .inl x, .inl y] => rWF σ ∧ (ar2 σ x y → K (some 1) σ) ∧ (¬ ar2 σ x y → K (some 0) σ)
  | _ => False
theorem m_X7_areTwo2 : ∀ a σ K, T_X7_areTwo2 a σ K → T_X7_areTwo a σ K := by
  intro a σ K h
  unfold T_X7_areTwo2 at h
  unfold T_X7_areTwo
  split at h
  · rename_i x y
    obtain ⟨hw, hy, hn⟩ := h
    have j4 := hw.1.1.2
    refine ⟨j4, ⟨j4, fun j a b => (hw.1.2.1 j a b).2.1⟩, ?_⟩
    by_cases c : ar2 σ x y
    · rw [if_pos ⟨c.1, (rOp_if hw x).mpr c.2.1, (rOp_if hw y).mpr c.2.2.1, c.2.2.2⟩]
      exact hy c
    · rw [if_neg (fun q => c ⟨q.1, (rOp_if hw x).mp q.2.1, (rOp_if hw y).mp q.2.2.1, q.2.2.2⟩)]
      exact hn c
  · exact h.elim
def T_X7_endOf3 : Tr := fun a σ K => match a with
  | [.inr (.inl (7, 0)), .inl x] => (rBd σ ∧ rOp σ x) ∧ K (some (eF σ x)) σ
  | _ => False
theorem m_X7_endOf3 : ∀ a σ K, T_X7_endOf3 a σ K → T_X7_endOf a σ K := by
  intro a σ K h
  unfold T_X7_endOf3 at h
  unfold T_X7_endOf
  split at h
  · rename_i x
    obtain ⟨⟨hb, v⟩, hk⟩ := h
    have h1 := hb.2 x v
    have h2 := rWF_op hb.1 v
    have h3 := v.1
    have h4 := v.2.1
    unfold rDu at h2
    refine ⟨⟨by omega, fun _ => by simp only [inR]; omega⟩, ?_⟩
    rw [if_neg (by omega)]
    exact hk
  · exact h.elim
def T_X7_withTail3 : Tr := fun a σ K => match a with
  | [.inr (.inl (7, 0)), .inl x] => (rBd σ ∧ rOp σ x) ∧ K (some (wTF σ x)) σ
  | _ => False
theorem m_X7_withTail3 : ∀ a σ K, T_X7_withTail3 a σ K → T_X7_withTail a σ K := by
  intro a σ K h
  unfold T_X7_withTail3 at h
  unfold T_X7_withTail
  split at h
  · rename_i x
    obtain ⟨⟨hb, v⟩, hk⟩ := h
    have h1 := hb.2 x v
    have h2 := rWF_op hb.1 v
    have h3 := v.1
    have h4 := v.2.1
    unfold rDu at h2
    refine ⟨⟨by omega, fun _ => by simp only [inR]; omega⟩, ?_⟩
    rw [if_neg (by omega)]
    exact hk
  · exact h.elim
def T_X7_throughOf3 : Tr := fun a σ K => match a with
  | [.inr (.inl (7, 0)), .inl x] => (rBd σ ∧ rOp σ x) ∧ K (some (eF σ x + σ 46 0 x)) σ
  | _ => False
theorem m_X7_throughOf3 : ∀ a σ K, T_X7_throughOf3 a σ K → T_X7_throughOf a σ K := by
  intro a σ K h
  unfold T_X7_throughOf3 at h
  unfold T_X7_throughOf
  split at h
  · rename_i x
    obtain ⟨⟨hb, v⟩, hk⟩ := h
    have h1 := hb.2 x v
    have h2 := rWF_op hb.1 v
    have h3 := v.1
    have h4 := v.2.1
    unfold rDu at h2
    exact ⟨⟨by omega, by omega, by simp only [inR]; omega, by simp only [inR]; omega⟩, hk⟩
  · exact h.elim
theorem k_X7_areTwo2 (l : Launch) : Ct l yX7_areTwo cX7_areTwo 3 (some .boolean) 2 T_X7_areTwo2 := Ct_mono (k_X7_areTwo l) m_X7_areTwo2
theorem k_X7_endOf3 (l : Launch) : Ct l yX7_endOf cX7_endOf 2 (some .int) 1 T_X7_endOf3 := Ct_mono (k_X7_endOf l) m_X7_endOf3
theorem k_X7_withTail3 (l : Launch) : Ct l yX7_withTail cX7_withTail 2 (some .int) 1 T_X7_withTail3 := Ct_mono (k_X7_withTail l) m_X7_withTail3
theorem k_X7_throughOf3 (l : Launch) : Ct l yX7_throughOf cX7_throughOf 2 (some .int) 1 T_X7_throughOf3 := Ct_mono (k_X7_throughOf l) m_X7_throughOf3
