/-- forceOn: what is decided anew is forced; what is counted is decided; where nothing is counted, the pairs of Pr force nothing -/
def FoI (σ σ' : Mem) (n : Nat) (u : Int) (Pr : Int → Int → Int → Prop) (nw : Int) : Prop := FrG (pAh n) σ σ' ∧ nA σ' n ∧ mnA (σ 15 n) (σ 20 n) (σ' 20 n) ∧ (∀ y k, vOp (σ 15 n) y → 0 ≤ k → k < 4 → hasB (σ' 20 n y) k → hasB (σ 20 n y) k ∨ wy σ n u y (σ 19 n (4 * σ 16 n y + k))) ∧ 0 ≤ nw ∧ dc (σ 19 n) (σ 20 n) + nw ≤ dc (σ 19 n) (σ' 20 n) ∧ (nw = 0 → σ' 20 n = σ 20 n ∧ ∀ m i j, Pr m i j → und (σ 20 n) (σ 19 n (4 * m + i)) (σ 19 n (4 * m + j)) → ¬ wy σ n u (σ 19 n (4 * m + i)) (σ 19 n (4 * m + j)) ∧ ¬ wy σ n u (σ 19 n (4 * m + j)) (σ 19 n (4 * m + i)))
/-- two operations that force each other -/
def bth (σ : Mem) (n : Nat) (u : Int) : Prop := ∃ x y, vOp (σ 15 n) x ∧ vOp (σ 15 n) y ∧ x ≠ y ∧ σ 16 n x = σ 16 n y ∧ wy σ n u x y ∧ wy σ n u y x
theorem FoI_0 {σ : Mem} {n : Nat} {u : Int} {Pr : Int → Int → Int → Prop} (hA : nA σ n) (hP : ∀ m i j, ¬ Pr m i j) : FoI σ σ n u Pr 0 := ⟨FrG.r, hA, mnA.r, fun y k _ _ _ q => Or.inl q, by omega, by omega, fun _ => ⟨rfl, fun m i j p => absurd p (hP m i j)⟩⟩
theorem FoI_w {σ σ' : Mem} {n : Nat} {u nw : Int} {Pr Pr' : Int → Int → Int → Prop} (h : FoI σ σ' n u Pr nw) (hP : ∀ m i j, Pr' m i j → Pr m i j) : FoI σ σ' n u Pr' nw := ⟨h.1, h.2.1, h.2.2.1, h.2.2.2.1, h.2.2.2.2.1, h.2.2.2.2.2.1, fun q => ⟨(h.2.2.2.2.2.2 q).1, fun m i j p => (h.2.2.2.2.2.2 q).2 m i j (hP m i j p)⟩⟩
/-- a pair more that forces nothing, being decided or short enough -/
theorem FoI_no {σ σ' : Mem} {n : Nat} {u nw m i j : Int} {Pr Pr' : Int → Int → Int → Prop} (h : FoI σ σ' n u Pr nw) (hP : ∀ m' i' j', Pr' m' i' j' → Pr m' i' j' ∨ (m' = m ∧ i' = i ∧ j' = j)) (hn : und (σ' 20 n) (σ 19 n (4 * m + i)) (σ 19 n (4 * m + j)) → ¬ wy σ n u (σ 19 n (4 * m + i)) (σ 19 n (4 * m + j)) ∧ ¬ wy σ n u (σ 19 n (4 * m + j)) (σ 19 n (4 * m + i))) : FoI σ σ' n u Pr' nw := by
  refine ⟨h.1, h.2.1, h.2.2.1, h.2.2.2.1, h.2.2.2.2.1, h.2.2.2.2.2.1, fun q => ⟨(h.2.2.2.2.2.2 q).1, fun m' i' j' p hu => ?_⟩⟩
  rcases hP m' i' j' p with c | ⟨rfl, rfl, rfl⟩
  · exact (h.2.2.2.2.2.2 q).2 m' i' j' c hu
  · rw [← (h.2.2.2.2.2.2 q).1] at hu
    exact hn hu
/-- x is decided to go ahead of y -/
theorem FoI_dec {σ σ' : Mem} {n : Nat} {u nw m i j x y : Int} {Pr Pr' : Int → Int → Int → Prop} (hB : nB σ n) (h : FoI σ σ' n u Pr nw) (m0 : 0 ≤ m) (m1 : m < 4) (i0 : 0 ≤ i) (i1 : i < j) (j1 : j < 4) (hu : und (σ' 20 n) (σ 19 n (4 * m + i)) (σ 19 n (4 * m + j))) (hxy : (x = σ 19 n (4 * m + i) ∧ y = σ 19 n (4 * m + j)) ∨ (x = σ 19 n (4 * m + j) ∧ y = σ 19 n (4 * m + i))) (hw : wy σ n u y x) : FoI σ (up σ' 20 n y (bor (σ' 20 n y) (bshl 1 (x / 4)))) n u Pr' (nw + 1) := by
  obtain ⟨a1, a2, a3, a4, a5, a6, a7⟩ := h
  have e : ∀ t, t ≠ 20 → ∀ x, σ' t n x = σ t n x := fun t ht x => a1 t n x (fun q => ht q.1)
  obtain ⟨v1, w1, z1⟩ := hB.2.2 m i m0 m1 i0 (by omega) hu.1
  obtain ⟨v2, w2, z2⟩ := hB.2.2 m j m0 m1 (by omega) j1 hu.2.1
  have hx : vOp (σ 15 n) x ∧ σ 16 n x = m ∧ (x / 4 = i ∨ x / 4 = j) := by
    rcases hxy with ⟨c, -⟩ | ⟨c, -⟩ <;> subst c <;> simp [v1, v2, w1, w2, z1, z2]
  have hy : vOp (σ 15 n) y ∧ σ 16 n y = m ∧ (y / 4 = i ∨ y / 4 = j) := by
    rcases hxy with ⟨-, c⟩ | ⟨-, c⟩ <;> subst c <;> simp [v1, v2, w1, w2, z1, z2]
  have hne : x / 4 ≠ y / 4 := by
    rcases hxy with ⟨c, d⟩ | ⟨c, d⟩ <;> subst c <;> subst d <;> omega
  have hxj := vOp_j hx.1
  have hxe : σ 19 n (4 * m + x / 4) = x := by
    have := (hB.2.1 x hx.1).2.2.2.2.2.2
    rw [hx.2.1] at this
    exact this
  obtain ⟨r0, r1, r2⟩ := a2 y ((vOp_cg (fun j _ _ => e 15 (by omega) j) _).mpr hy.1)
  have bits : ∀ o k, 0 ≤ k → k < 4 → (hasB ((up σ' 20 n y (bor (σ' 20 n y) (bshl 1 (x / 4)))) 20 n o) k ↔ hasB (σ' 20 n o) k ∨ (o = y ∧ k = x / 4)) := by
    intro o k k0 k1
    rw [up_ap]
    by_cases c : o = y
    · subst c
      rw [if_pos ⟨rfl, rfl, rfl⟩, bit_or r0 r1 hxj.1 hxj.2.1 k0 k1]
      simp
    · rw [if_neg (fun q => c q.2.2)]
      simp [c]
  have hm2 : mnA (σ 15 n) (σ' 20 n) ((up σ' 20 n y (bor (σ' 20 n y) (bshl 1 (x / 4)))) 20 n) := fun o k v k0 k1 q => (bits o k k0 k1).mpr (Or.inl q)
  have hF : FrG (pAh n) σ' (up σ' 20 n y (bor (σ' 20 n y) (bshl 1 (x / 4)))) := FrG.r.u ⟨rfl, rfl⟩
  refine ⟨a1.t hF, fun o v => ?_, a3.t hm2, fun o k v k0 k1 q => ?_, by omega, ?_, fun q => by omega⟩
  · have f : ∀ t, t ≠ 20 → ∀ x', (up σ' 20 n y (bor (σ' 20 n y) (bshl 1 (x / 4)))) t n x' = σ' t n x' := fun t ht x' => hF t n x' (fun q => ht q.1)
    have v' : vOp (σ' 15 n) o := (vOp_cg (fun j _ _ => f 15 (by omega) j) _).mp v
    obtain ⟨s0, s1, s2⟩ := a2 o v'
    simp only [f 16 (by omega), f 19 (by omega)]
    refine ⟨?_, ?_, fun k k0 k1 q => ?_⟩
    · rw [up_ap]
      split
      · exact (bit_or_r r0 r1 hxj.1 hxj.2.1).1
      · exact s0
    · rw [up_ap]
      split
      · exact (bit_or_r r0 r1 hxj.1 hxj.2.1).2
      · exact s1
    · rcases (bits o k k0 k1).mp q with c | ⟨rfl, rfl⟩
      · exact s2 k k0 k1 c
      · refine ⟨hne, ?_⟩
        rw [e 16 (by omega), e 19 (by omega), hy.2.1, hxe]
        exact hx.1.1
  · rcases (bits o k k0 k1).mp q with c | ⟨rfl, rfl⟩
    · exact a4 o k v k0 k1 c
    · right
      rw [hy.2.1, hxe]
      exact hw
  · have := dc_step (ah := σ' 20 n) (ah' := (up σ' 20 n y (bor (σ' 20 n y) (bshl 1 (x / 4)))) 20 n) hB hm2 m0 m1 i0 i1 j1 hu (by
      rintro ⟨-, -, q1, q2⟩
      rcases hxy with ⟨c, d⟩ | ⟨c, d⟩
      · rw [← c, ← d] at q1
        exact q1 ((bits y (x / 4) hxj.1 hxj.2.1).mpr (Or.inr ⟨rfl, rfl⟩))
      · rw [← c, ← d] at q2
        exact q2 ((bits y (x / 4) hxj.1 hxj.2.1).mpr (Or.inr ⟨rfl, rfl⟩)))
    omega
theorem FoI_H {σ σ' : Mem} {n : Nat} {u nw : Int} {Pr : Int → Int → Int → Prop} (h : FoI σ σ' n u Pr nw) (x y : Int) : σ' 21 n x + σ' 17 n x + σ' 17 n y + σ' 22 n y = σ 21 n x + σ 17 n x + σ 17 n y + σ 22 n y := by
  have e : ∀ t, t ≠ 20 → ∀ x, σ' t n x = σ t n x := fun t ht x => h.1 t n x (fun q => ht q.1)
  rw [e 21 (by omega), e 17 (by omega), e 17 (by omega), e 22 (by omega)]
theorem FoI_e {σ σ' : Mem} {n : Nat} {u nw : Int} {Pr : Int → Int → Int → Prop} (h : FoI σ σ' n u Pr nw) (t : Nat) (ht : t ≠ 20) (x : Int) : σ' t n x = σ t n x := h.1 t n x (fun q => ht q.1)
/-- bounds of a pair -/
theorem nH_pair {σ : Mem} {n : Nat} {m i j : Int} (hB : nB σ n) (hH : nH σ n) (m0 : 0 ≤ m) (m1 : m < 4) (i0 : 0 ≤ i) (i1 : i < 4) (j0 : 0 ≤ j) (j1 : j < 4) : σ 19 n (4 * m + i) < 16 ∧ σ 19 n (4 * m + j) < 16 ∧ (0 ≤ σ 19 n (4 * m + i) → 0 ≤ σ 21 n (σ 19 n (4 * m + i)) ∧ σ 21 n (σ 19 n (4 * m + i)) ≤ 700 ∧ 0 ≤ σ 22 n (σ 19 n (4 * m + i)) ∧ σ 22 n (σ 19 n (4 * m + i)) ≤ 320 ∧ 1 ≤ σ 17 n (σ 19 n (4 * m + i)) ∧ σ 17 n (σ 19 n (4 * m + i)) ≤ 20) ∧ (0 ≤ σ 19 n (4 * m + j) → 0 ≤ σ 21 n (σ 19 n (4 * m + j)) ∧ σ 21 n (σ 19 n (4 * m + j)) ≤ 700 ∧ 0 ≤ σ 22 n (σ 19 n (4 * m + j)) ∧ σ 22 n (σ 19 n (4 * m + j)) ≤ 320 ∧ 1 ≤ σ 17 n (σ 19 n (4 * m + j)) ∧ σ 17 n (σ 19 n (4 * m + j)) ≤ 20) := by
  refine ⟨NB_16 hB m0 m1 i0 i1, NB_16 hB m0 m1 j0 j1, fun q => ?_, fun q => ?_⟩
  · have v := (hB.2.2 m i m0 m1 i0 i1 q).1
    have h1 := hH _ v
    have h2 := hB.2.1 _ v
    omega
  · have v := (hB.2.2 m j m0 m1 j0 j1 q).1
    have h1 := hH _ v
    have h2 := hB.2.1 _ v
    omega
/-- the pairs of m ahead of (a, b) -/
def prA (m a b m' i j : Int) : Prop := m' = m ∧ 0 ≤ i ∧ i < j ∧ j < 4 ∧ (i < a ∨ (i = a ∧ j < b))
def prM (m m' i j : Int) : Prop := m' = m ∧ 0 ≤ i ∧ i < j ∧ j < 4
theorem FoI_none {σ σ' : Mem} {n : Nat} {u nw m a b : Int} (h : FoI σ σ' n u (prA m a b) nw) (hn : ¬ und (σ' 20 n) (σ 19 n (4 * m + a)) (σ 19 n (4 * m + b))) : FoI σ σ' n u (prA m a (b + 1)) nw := FoI_no h (m := m) (i := a) (j := b) (fun m' i' j' p => by unfold prA at *; omega) (fun q => absurd q hn)
theorem FoI_short {σ σ' : Mem} {n : Nat} {u nw m a b : Int} (h : FoI σ σ' n u (prA m a b) nw) (h1 : ¬ wy σ n u (σ 19 n (4 * m + a)) (σ 19 n (4 * m + b))) (h2 : ¬ wy σ n u (σ 19 n (4 * m + b)) (σ 19 n (4 * m + a))) : FoI σ σ' n u (prA m a (b + 1)) nw := FoI_no h (m := m) (i := a) (j := b) (fun m' i' j' p => by unfold prA at *; omega) (fun _ => ⟨h1, h2⟩)
theorem FoI_row {σ σ' : Mem} {n : Nat} {u nw m a b : Int} (h : FoI σ σ' n u (prA m a b) nw) (hb : 4 ≤ b) : FoI σ σ' n u (prA m (a + 1) (a + 1 + 1)) nw := FoI_w h (fun m' i' j' p => by unfold prA at *; omega)
theorem FoI_end {σ σ' : Mem} {n : Nat} {u nw m a b : Int} (h : FoI σ σ' n u (prA m a b) nw) (ha : 4 ≤ a) : FoI σ σ' n u (prM m) nw := FoI_w h (fun m' i' j' p => by unfold prA; unfold prM at p; omega)
