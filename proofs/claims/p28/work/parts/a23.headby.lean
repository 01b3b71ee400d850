/-- the set u of operations has x -/
def fst1 (u x : Int) : Prop := band (bshr u x) 1 = 1
/-- the greatest of a, b and of f over those below x with P -/
def MxO (a b : Int) (P : Int → Prop) (f : Int → Int) (x r : Int) : Prop := a ≤ r ∧ b ≤ r ∧ (∀ k, 0 ≤ k → k < x → P k → f k ≤ r) ∧ (r = a ∨ r = b ∨ ∃ k, 0 ≤ k ∧ k < x ∧ P k ∧ r = f k)
theorem MxO_0 {a b : Int} {P : Int → Prop} {f : Int → Int} : MxO a b P f 0 (if b < a then a else b) := by
  by_cases c : b < a
  · rw [if_pos c]
    exact ⟨by omega, by omega, fun k x y => by omega, Or.inl rfl⟩
  · rw [if_neg c]
    exact ⟨by omega, by omega, fun k x y => by omega, Or.inr (Or.inl rfl)⟩
theorem MxO_y {a b : Int} {P : Int → Prop} {f : Int → Int} {x r : Int} (h : MxO a b P f x r) (x0 : 0 ≤ x) (hp : P x) : MxO a b P f (x + 1) (if f x < r then r else f x) := by
  obtain ⟨h1, h2, h3, h4⟩ := h
  have hg : r ≤ (if f x < r then r else f x) ∧ f x ≤ (if f x < r then r else f x) ∧ ((if f x < r then r else f x) = r ∨ (if f x < r then r else f x) = f x) := by
    split
    · exact ⟨Int.le_refl _, by omega, Or.inl rfl⟩
    · exact ⟨by omega, Int.le_refl _, Or.inr rfl⟩
  generalize (if f x < r then r else f x) = r' at *
  refine ⟨by omega, by omega, fun k k0 k1 kp => ?_, ?_⟩
  · by_cases z : k = x
    · rw [z]; exact hg.2.1
    · have := h3 k k0 (by omega) kp
      omega
  · rcases hg.2.2 with z | z
    · rcases h4 with q | q | ⟨k, k0, k1, k2, k3⟩
      · exact Or.inl (by omega)
      · exact Or.inr (Or.inl (by omega))
      · exact Or.inr (Or.inr ⟨k, k0, by omega, k2, by omega⟩)
    · exact Or.inr (Or.inr ⟨x, x0, by omega, hp, z⟩)
theorem MxO_n {a b : Int} {P : Int → Prop} {f : Int → Int} {x r : Int} (h : MxO a b P f x r) (hp : ¬ P x) : MxO a b P f (x + 1) r := by
  obtain ⟨h1, h2, h3, h4⟩ := h
  refine ⟨h1, h2, fun k k0 k1 kp => ?_, ?_⟩
  · by_cases z : k = x
    · rw [z] at kp; exact absurd kp hp
    · exact h3 k k0 (by omega) kp
  · rcases h4 with q | q | ⟨k, k0, k1, k2, k3⟩
    · exact Or.inl q
    · exact Or.inr (Or.inl q)
    · exact Or.inr (Or.inr ⟨k, k0, by omega, k2, k3⟩)
/-- what forced says is well: only operations are in the sets, heads and tails keep their bounds -/
def fOK (σ : Mem) : Prop := rBd σ ∧ ∀ o k, 0 ≤ o → o < 16 → 0 ≤ k → k < 16 → fst1 (σ 54 0 o) k → rOp σ o ∧ rOp σ k
def eF (σ : Mem) (k : Int) : Int := σ 45 0 k + rDu σ k
def wTF (σ : Mem) (k : Int) : Int := rDu σ k + σ 46 0 k
def bRt (σ : Mem) (o : Int) : Int := if o % 4 = 0 then 0 else eF σ (o - 1)
def aRt (σ : Mem) (o : Int) : Int := if o % 4 + 1 < rSt σ (o / 4) then wTF σ (o + 1) else 0
theorem eF_r {σ : Mem} (h : fOK σ) {k : Int} (v : rOp σ k) : 0 ≤ eF σ k ∧ eF σ k ≤ 10020 ∧ 0 ≤ wTF σ k ∧ wTF σ k ≤ 12020 := by
  have a := h.1.2 k v
  have b := rWF_op h.1.1 v
  unfold eF wTF
  omega
