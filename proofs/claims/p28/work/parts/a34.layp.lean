/-! the reference's layPlans -/
theorem nuQ_cg {n : Int} {v w : Int → Int} (h : ∀ k, 0 ≤ k → k < n → v k = w k) : nuQ n v = nuQ n w := by
  have h0 := h 0 (by omega)
  have h1 := h 1 (by omega)
  have h2 := h 2 (by omega)
  have h3 := h 3 (by omega)
  unfold nuQ
  by_cases c0 : 0 < n
  · rw [if_pos c0, if_pos c0, h0 c0]
    by_cases c1 : 1 < n
    · rw [if_pos c1, if_pos c1, h1 c1]
      by_cases c2 : 2 < n
      · rw [if_pos c2, if_pos c2, h2 c2]
        by_cases c3 : 3 < n
        · rw [if_pos c3, if_pos c3, h3 c3]
        · rw [if_neg c3, if_neg c3]
      · rw [if_neg c2, if_neg c2, if_neg (show ¬ 3 < n by omega), if_neg (show ¬ 3 < n by omega)]
    · rw [if_neg c1, if_neg c1, if_neg (show ¬ 2 < n by omega), if_neg (show ¬ 2 < n by omega), if_neg (show ¬ 3 < n by omega), if_neg (show ¬ 3 < n by omega)]
  · rw [if_neg c0, if_neg c0, if_neg (show ¬ 1 < n by omega), if_neg (show ¬ 1 < n by omega), if_neg (show ¬ 2 < n by omega), if_neg (show ¬ 2 < n by omega), if_neg (show ¬ 3 < n by omega), if_neg (show ¬ 3 < n by omega)]
/-- an order of the same jobs, the first f places of which stay -/
def arO (n f : Int) (q0 v : Int → Int) : Prop := PRM n v q0 ∧ ∀ k, 0 ≤ k → k < f → v k = q0 k
theorem arO_cg {n f : Int} {q0 v w : Int → Int} (hf : f ≤ n) (h : arO n f q0 v) (e : ∀ k, 0 ≤ k → k < n → w k = v k) : arO n f q0 w := ⟨PRM_cg h.1 e, fun k a b => by rw [e k a (by omega)]; exact h.2 k a b⟩
def pLP (m n : Int) (t a : Nat) (x : Int) : Prop := a = 0 ∧ ((t = 38 ∧ 49 + 4 * m ≤ x ∧ x < 49 + 4 * m + n) ∨ (t = 48 ∧ 96 * m ≤ x ∧ x < 96 * m + 96) ∨ (t = 49 ∧ x = m))
/-- the place i of the plan k of the machine m -/
def plR (σ : Mem) (m k i : Int) : Int := σ 48 0 (4 * (24 * m + k) + i)
/-- digits -/
def dgQ (n : Int) (q : Int → Int) : Prop := ∀ k, 0 ≤ k → k < n → 0 ≤ q k ∧ q k < 4
theorem PRM_dg {n : Int} {v q : Int → Int} (h : PRM n v q) (d : dgQ n q) : dgQ n v := fun k a b => by
  obtain ⟨x, x0, x1, e⟩ := h.1 k a b
  rw [e]
  exact d x x0 x1
