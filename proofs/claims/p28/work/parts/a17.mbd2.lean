theorem mO_v {J : Int} {st mc du ln q : Int → Int} (h : WF J st mc du ln q) {m k : Int} (k0 : 0 ≤ k) (k1 : k < 4) : (mO st mc m k = -6 ∧ ∀ o, vOp st o → o / 4 = k → mc o ≠ m) ∨ (0 ≤ mO st mc m k ∧ vOp st (mO st mc m k) ∧ mc (mO st mc m k) = m ∧ mO st mc m k / 4 = k) := by
  have hs := h.2.1 k k0 k1
  by_cases c : ∃ s, 0 ≤ s ∧ s < st k ∧ mc (4 * k + s) = m
  · obtain ⟨s, s0, s1, s2⟩ := c
    have := opF_is (f := mc) (n := st k) (j := k) (m := m) s0 s1 hs.2.1 s2
    have ek : mO st mc m k / 4 = k := by unfold mO; omega
    exact Or.inr ⟨by unfold mO; omega, ⟨by unfold mO; omega, by unfold mO; omega, by rw [ek]; unfold mO; omega⟩, this.2.2, ek⟩
  · refine Or.inl ⟨opF_no (fun s a b e => c ⟨s, a, b, e⟩), fun o v e z => c ⟨o % 4, ?_, ?_, ?_⟩⟩
    · omega
    · have := v.2.2
      rw [e] at this
      exact this
    · rw [← e, show 4 * (o / 4) + o % 4 = o by omega]
      exact z
theorem mO_of {J : Int} {st mc du ln q : Int → Int} (h : WF J st mc du ln q) {o : Int} (v : vOp st o) : mO st mc (mc o) (o / 4) = o := by
  have v0 := v.1
  have v1 := v.2.1
  rcases mO_v h (m := mc o) (k := o / 4) (by omega) (by omega) with ⟨-, a⟩ | ⟨a, b, c, d⟩
  · exact absurd rfl (a o v rfl)
  · exact h.2.2.2.1 _ _ b v d c
/-- the net's bound of a machine, nothing being decided -/
theorem mB_mbd {σ σ1 σ3 : Mem} {i n : Nat} (hw : sWF σ i) (hL : Lod n i σ σ1) (hR : Frm n σ1 σ3) (hM : nM σ3 n) {m B : Int} (m0 : 0 ≤ m) (m1 : m < 4) : mB σ3 n m B ↔ mbd (σ 10 i) (σ 11 i) (σ 12 i) (σ 8 i) m B := by
  obtain ⟨l1, l2, l3, l4, l5, l6, l7⟩ := hL
  have E : ∀ t, t ≠ 1 ∧ t < 21 → σ3 t n = σ1 t n := fun t ht => hR.f t (by omega)
  have hst : ∀ j, 0 ≤ j → j < 4 → σ3 15 n j = σ 10 i j := fun j a b => by rw [E 15 (by omega)]; exact l5 j a b
  have hV : ∀ o, vOp (σ3 15 n) o ↔ vOp (σ 10 i) o := vOp_cg hst
  have hV1 : ∀ o, vOp (σ1 15 n) o ↔ vOp (σ 10 i) o := vOp_cg l5
  have hmd : ∀ o, vOp (σ 10 i) o → σ3 16 n o = σ 11 i o ∧ σ3 17 n o = σ 12 i o := fun o v => by
    rw [E 16 (by omega), E 17 (by omega)]; exact ⟨(l6 o v).1, (l6 o v).2.1⟩
  have hrd : ∀ o, vOp (σ 10 i) o → σ3 18 n o = σ 8 i (o / 4) := fun o v => by rw [E 18 (by omega)]; exact (l6 o v).2.2
  obtain ⟨h1, h2, -⟩ := hM
  rw [IsHead_V hV] at h1
  rw [IsTail_V hV] at h2
  have hP : ∀ o' o, vOp (σ 10 i) o' → vOp (σ 10 i) o → (pN (σ3 16 n) (σ3 20 n) o' o ↔ pN (σ 11 i) (σ3 20 n) o' o) := fun o' o v' v => by
    unfold pN
    rw [(hmd o' v').1, (hmd o v).1]
  have H1 : IsHead (vOp (σ 10 i)) (pN (σ 11 i) (σ3 20 n)) (σ 12 i) (fun o => σ 8 i (o / 4)) (σ3 21 n) := (IsHead_cg hP (fun o v => (hmd o v).2) hrd).mp h1
  have H2 : IsTail (vOp (σ 10 i)) (pN (σ 11 i) (σ3 20 n)) (σ 12 i) (σ3 22 n) := (IsTail_cg hP (fun o v => (hmd o v).2)).mp h2
  have hb : ∀ o, vOp (σ 10 i) o → ∀ k, 0 ≤ k → k < 4 → ¬ hasB (σ3 20 n o) k := fun o v k k0 k1 => by
    rw [E 20 (by omega), l7 o v.1 v.2.1]
    exact bit_0 k0 k1
  have hst2 : ∀ j, 0 ≤ j → j < 4 → 0 ≤ σ 10 i j ∧ σ 10 i j ≤ 4 := fun j a b => ⟨(hw.1.2.1 j a b).1, (hw.1.2.1 j a b).2.1⟩
  have hd : ∀ o, vOp (σ 10 i) o → 1 ≤ σ 12 i o := fun o v => (sWF_op hw v).2.2.1
  have hh : ∀ o, vOp (σ 10 i) o → σ3 21 n o = σ 8 i (o / 4) + wF (σ 12 i) (4 * (o / 4)) (o % 4) ∧ σ3 22 n o = wF (σ 12 i) (o + 1) (σ 10 i (o / 4) - o % 4 - 1) := fun o v => by
    have v0 := v.1
    have v1 := v.2.1
    have v2 := v.2.2
    have a := route_head (re := σ 8 i) hst2 hd (fun _ _ => rfl) hb H1 (j := o / 4) (by omega) (by omega) (o % 4).toNat (by omega)
    have b := route_tail hst2 hd hb H2 (j := o / 4) (by omega) (by omega) (σ 10 i (o / 4) - o % 4 - 1).toNat (by omega)
    rw [show (((o % 4).toNat : Nat) : Int) = o % 4 by omega, show 4 * (o / 4) + o % 4 = o by omega] at a
    rw [show (((σ 10 i (o / 4) - o % 4 - 1).toNat : Nat) : Int) = σ 10 i (o / 4) - o % 4 - 1 by omega, show 4 * (o / 4) + σ 10 i (o / 4) - 1 - (σ 10 i (o / 4) - o % 4 - 1) = o by omega] at b
    exact ⟨a, b⟩
  have e19 : σ3 19 n = σ1 19 n := E 19 (by omega)
  have he : ∀ k, 0 ≤ k → k < 4 → (0 ≤ mO (σ 10 i) (σ 11 i) m k ↔ bE σ3 n m k) ∧ (bE σ3 n m k → σ3 19 n (4 * m + k) = mO (σ 10 i) (σ 11 i) m k ∧ vOp (σ 10 i) (mO (σ 10 i) (σ 11 i) m k)) := fun k k0 k1 => by
    have fw : bE σ3 n m k → σ3 19 n (4 * m + k) = mO (σ 10 i) (σ 11 i) m k ∧ vOp (σ 10 i) (mO (σ 10 i) (σ 11 i) m k) ∧ 0 ≤ mO (σ 10 i) (σ 11 i) m k := fun z => by
      unfold bE at z
      rw [e19] at z
      obtain ⟨a, b, c⟩ := l2.2.2 m k m0 m1 k0 k1 z
      have v := (hV1 _).mp a
      have := mO_of hw.1 v
      rw [c, ← (l6 _ v).1, b] at this
      rw [this, e19]
      exact ⟨rfl, v, v.1⟩
    refine ⟨⟨fun z => ?_, fun z => (fw z).2.2⟩, fun z => ⟨(fw z).1, (fw z).2.1⟩⟩
    rcases mO_v hw.1 (m := m) k0 k1 with ⟨a, -⟩ | ⟨a, b, c, d⟩
    · omega
    · have := (l2.2.1 _ ((hV1 _).mpr b)).2.2.2.2.2.2
      rw [(l6 _ b).1, c, d] at this
      unfold bE
      rw [e19, this]
      exact a
  have hv : ∀ k, 0 ≤ k → k < 4 → bE σ3 n m k → σ 12 i (mO (σ 10 i) (σ 11 i) m k) = bF σ3 17 n m k ∧ σ 8 i (mO (σ 10 i) (σ 11 i) m k / 4) + wF (σ 12 i) (4 * (mO (σ 10 i) (σ 11 i) m k / 4)) (mO (σ 10 i) (σ 11 i) m k % 4) = bF σ3 21 n m k ∧ wF (σ 12 i) (mO (σ 10 i) (σ 11 i) m k + 1) (σ 10 i (mO (σ 10 i) (σ 11 i) m k / 4) - mO (σ 10 i) (σ 11 i) m k % 4 - 1) = bF σ3 22 n m k := fun k k0 k1 z => by
    obtain ⟨a, b⟩ := (he k k0 k1).2 z
    unfold bF
    rw [a]
    have := hh _ b
    exact ⟨((hmd _ b).2).symm, this.1.symm, this.2.symm⟩
  unfold mB mbd
  constructor
  · exact fun h => JB_cg2 (fun k k0 k1 => (he k k0 k1).1) hv h
  · exact fun h => JB_cg2 (fun k k0 k1 => (he k k0 k1).1.symm) (fun k k0 k1 z => by
      have a := hv k k0 k1 ((he k k0 k1).1.mp z)
      exact ⟨a.1.symm, a.2.1.symm, a.2.2.symm⟩) h
