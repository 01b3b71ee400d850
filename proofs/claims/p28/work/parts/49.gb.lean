theorem BE_cg {σ σ' : Mem} {n : Nat} {m : Int} (h : FrG (p26 n) σ σ') : bE σ' n m = bE σ n m ∧ bF σ' 17 n m = bF σ 17 n m ∧ bF σ' 21 n m = bF σ 21 n m ∧ bF σ' 22 n m = bF σ 22 n m := by
  have e : ∀ t, t ≠ 26 → σ' t n = σ t n := fun t ht => h.f t n (fun x q => ht q.1)
  refine ⟨?_, ?_, ?_, ?_⟩
  · funext k
    unfold bE
    rw [e 19 (by omega)]
  · funext k
    unfold bF
    rw [e 19 (by omega), e 17 (by omega)]
  · funext k
    unfold bF
    rw [e 19 (by omega), e 21 (by omega)]
  · funext k
    unfold bF
    rw [e 19 (by omega), e 22 (by omega)]
def mB (σ : Mem) (n : Nat) (m B : Int) : Prop := JB (bE σ n m) (bF σ 17 n m) (bF σ 21 n m) (bF σ 22 n m) B
/-- the greatest bound, of the machines below e -/
def GB (σ σ' : Mem) (n : Nat) (e g : Int) : Prop := FrG (p26 n) σ σ' ∧ 0 ≤ g ∧ g ≤ 1100 ∧ (∀ m, 0 ≤ m → m < e → ∃ B, mB σ n m B ∧ B ≤ g) ∧ (g = 0 ∨ ∃ m, 0 ≤ m ∧ m < 4 ∧ mB σ n m g)
theorem GB_0 {σ : Mem} {n : Nat} : GB σ σ n 0 0 := ⟨FrG.r, by omega, by omega, fun m a b => by omega, Or.inl rfl⟩
theorem GB_s {σ σ' σ2 : Mem} {n : Nat} {e g B g' : Int} (h : GB σ σ' n e g) (e0 : 0 ≤ e) (e1 : e < 4) (hB : BE σ' σ2 n e B) (hg : g' = if B ≤ g then g else B) : GB σ σ2 n (e + 1) g' := by
  obtain ⟨a1, a2, a3, a4, a5⟩ := h
  obtain ⟨b1, b2, b3, b4⟩ := hB
  obtain ⟨c1, c2, c3, c4⟩ := BE_cg (m := e) a1
  rw [c1, c2, c3, c4] at b2
  have hgg : g ≤ g' ∧ B ≤ g' ∧ (g' = g ∨ g' = B) := by
    rw [hg]
    split <;> omega
  refine ⟨a1.t b1, by omega, by omega, fun m m0 m1 => ?_, ?_⟩
  · by_cases q : m = e
    · subst q
      exact ⟨B, b2, by omega⟩
    · obtain ⟨Bm, d1, d2⟩ := a4 m m0 (by omega)
      exact ⟨Bm, d1, by omega⟩
  · rcases hgg.2.2 with q | q
    · rw [q]
      exact a5
    · rw [q]
      exact Or.inr ⟨e, e0, e1, b2⟩
theorem GB_st {σ σ' : Mem} {n : Nat} {e g : Int} (hB : nB σ n) (hH : nH σ n) (h : GB σ σ' n e g) : nB σ' n ∧ nH σ' n := by
  have e : ∀ t, t ≠ 26 → σ' t n = σ t n := fun t ht => h.1.f t n (fun x q => ht q.1)
  refine ⟨h.1.B (fun t x a b q => by have := q.1; omega) hB, ?_⟩
  unfold nH
  rw [e 15 (by omega), e 21 (by omega), e 22 (by omega)]
  exact hH
/-- sums -/
def sm (f : Int → Int) : Nat → Int
  | 0 => 0
  | n + 1 => sm f n + f n
theorem sm_s (f : Int → Int) {i : Int} (h : 0 ≤ i) : sm f (i + 1).toNat = sm f i.toNat + f i := by
  have e : (i + 1).toNat = i.toNat + 1 := by omega
  rw [e]
  show sm f i.toNat + f (i.toNat : Int) = _
  rw [Int.toNat_of_nonneg h]
theorem sm_r {f : Int → Int} {b : Int} (h : ∀ i, 0 ≤ f i ∧ f i ≤ b) : ∀ n : Nat, 0 ≤ sm f n ∧ sm f n ≤ b * n := by
  intro n
  induction n with
  | zero => exact ⟨Int.le_refl _, by simp [sm]⟩
  | succ n ih =>
    have := h n
    have e : b * ((n + 1 : Nat) : Int) = b * n + b := by
      rw [show ((n + 1 : Nat) : Int) = (n : Int) + 1 by omega, Int.mul_add, Int.mul_one]
    show 0 ≤ sm f n + f n ∧ sm f n + f n ≤ _
    rw [e]
    omega
noncomputable def dpC (σ : Mem) (n : Nat) (i j : Int) : Int := b2i (0 ≤ σ 19 n i ∧ hasB (σ 20 n (σ 19 n i)) j)
noncomputable def dpR (σ : Mem) (n : Nat) (i : Int) : Int := sm (dpC σ n i) 4
theorem dp_r (σ : Mem) (n : Nat) (i j : Nat) : 0 ≤ sm (dpR σ n) i + sm (dpC σ n i) j ∧ sm (dpR σ n) i + sm (dpC σ n i) j ≤ 4 * i + j := by
  have h1 := fun i => sm_r (f := dpC σ n i) (b := 1) (fun j => b2i_r _)
  have h2 := sm_r (f := dpR σ n) (b := 4) (fun i => by have := h1 i 4; unfold dpR; omega) i
  have h3 := h1 i j
  omega
