theorem inR_l {x : Int} (h1 : -2147483648 ≤ x) (h2 : x ≤ 2147483647) : inR x = True := eq_true ⟨h1, h2⟩
theorem Kr_int {K : Option Int → Mem → Prop} {x : Int} {σ : Mem} : Kr (some .int) K (some x) σ = K (some x) σ := by simp [Kr]
theorem Kr_bool {K : Option Int → Mem → Prop} {x : Int} {σ : Mem} : Kr (some .boolean) K (some x) σ = ((x = 0 ∨ x = 1) ∧ K (some x) σ) := by simp [Kr]
theorem Kr_void {K : Option Int → Mem → Prop} {σ : Mem} : Kr none K none σ = K none σ := by simp [Kr]
/-- the operation of the job j on the machine m, by the row of machines f, of n steps; none: -6 -/
def opF (f : Int → Int) (n j m : Int) : Int := if 0 < n ∧ f (4 * j) = m then 4 * j else if 1 < n ∧ f (4 * j + 1) = m then 4 * j + 1 else if 2 < n ∧ f (4 * j + 2) = m then 4 * j + 2 else if 3 < n ∧ f (4 * j + 3) = m then 4 * j + 3 else -6
