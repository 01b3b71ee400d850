/-- keep: the rows move down by one (first k places) -/
def K1 (σ σ' : Mem) (k : Int) : Prop := (∀ t a x, (t ≠ 39 ∨ a ≠ 0) → σ' t a x = σ t a x) ∧ (∀ x, 0 ≤ x → x < k → σ' 39 0 x = σ 39 0 (x + 65)) ∧ (∀ x, k ≤ x → σ' 39 0 x = σ 39 0 x)
/-- how many rows stand below the new one -/
def kB (σ : Mem) : Int := if σ 7 0 2 = 6 then 5 else σ 7 0 2
def K2 (σ σ' : Mem) (k : Int) : Prop := (∀ t a x, (t ≠ 39 ∨ a ≠ 0) → ¬ (t = 7 ∧ a = 0 ∧ x = 2) → σ' t a x = σ t a x) ∧ σ' 7 0 2 = kB σ ∧ (∀ x, 0 ≤ x → x < 65 * kB σ → σ' 39 0 x = if σ 7 0 2 = 6 then σ 39 0 (x + 65) else σ 39 0 x) ∧ (∀ x, 0 ≤ x → x < k → σ' 39 0 (65 * kB σ + x) = σ 38 0 x)
theorem K1_0 (σ : Mem) : K1 σ σ 0 := ⟨fun _ _ _ _ => rfl, fun x a b => by omega, fun _ _ => rfl⟩
theorem K1_s {σ σ' : Mem} {k : Int} (h : K1 σ σ' k) (h0 : 0 ≤ k) : K1 σ (up σ' 39 0 k (σ' 39 0 (k + 65))) (k + 1) := by
  obtain ⟨a1, a2, a3⟩ := h
  refine ⟨fun t a x q => ?_, fun x p q => ?_, fun x p => ?_⟩
  · unfold up
    rw [if_neg, a1 t a x q]
    rintro ⟨rfl, rfl, -⟩
    rcases q with q | q <;> exact q rfl
  · unfold up
    rcases (show x < k ∨ x = k by omega) with r | rfl
    · rw [if_neg (by rintro ⟨-, -, s⟩; omega), a2 x p r]
    · rw [if_pos ⟨rfl, rfl, rfl⟩, a3 _ (by omega)]
  · unfold up
    rw [if_neg (by rintro ⟨-, -, s⟩; omega), a3 x (by omega)]
theorem K2_a {σ σ' : Mem} (h : K1 σ σ' 325) (h6 : σ 7 0 2 = 6) : K2 σ (up σ' 7 0 2 (σ' 7 0 2 - 1)) 0 := by
  obtain ⟨a1, a2, a3⟩ := h
  have e : σ' 7 0 2 = σ 7 0 2 := a1 7 0 2 (Or.inl (by decide))
  have hb : kB σ = 5 := by simp [kB, h6]
  refine ⟨fun t a x q r => ?_, ?_, fun x p q => ?_, fun x p q => by omega⟩
  · unfold up
    rw [if_neg r, a1 t a x q]
  · unfold up
    rw [if_pos ⟨rfl, rfl, rfl⟩, hb, e, h6]
    rfl
  · unfold up
    rw [if_neg (by rintro ⟨s, -⟩; omega), if_pos h6, a2 x p (by omega)]
theorem K2_b {σ : Mem} (h6 : ¬ σ 7 0 2 = 6) : K2 σ σ 0 := ⟨fun _ _ _ _ _ => rfl, by simp [kB, h6], fun x p q => by rw [if_neg h6], fun x p q => by omega⟩
theorem K2_s {σ σ' : Mem} {k : Int} (h : K2 σ σ' k) (h0 : 0 ≤ k) (hk : k < 65) : K2 σ (up σ' 39 0 (65 * σ' 7 0 2 + k) (σ' 38 0 k)) (k + 1) := by
  obtain ⟨a1, a2, a3, a4⟩ := h
  rw [a2]
  refine ⟨fun t a x q r => ?_, ?_, fun x p q => ?_, fun x p q => ?_⟩
  · unfold up
    rw [if_neg, a1 t a x q r]
    rintro ⟨rfl, rfl, -⟩
    rcases q with q | q <;> exact q rfl
  · unfold up
    rw [if_neg (by rintro ⟨s, -⟩; omega), a2]
  · unfold up
    rw [if_neg (by rintro ⟨-, -, s⟩; omega), a3 x p q]
  · unfold up
    rcases (show x < k ∨ x = k by omega) with r | rfl
    · rw [if_neg (by rintro ⟨-, -, s⟩; omega), a4 x p r]
    · rw [if_pos ⟨rfl, rfl, rfl⟩, a1 38 0 x (Or.inl (by decide)) (by rintro ⟨s, -⟩; omega)]
