/-- the greatest of the first n, at least 0 -/
def mxS (f : Int → Int) : Nat → Int
  | 0 => 0
  | n + 1 => if mxS f n < f n then f n else mxS f n
theorem mxS_s (f : Int → Int) {i : Int} (h : 0 ≤ i) : mxS f (i + 1).toNat = if mxS f i.toNat < f i then f i else mxS f i.toNat := by
  rw [show (i + 1).toNat = i.toNat + 1 by omega]
  show (if mxS f i.toNat < f (i.toNat : Int) then f (i.toNat : Int) else mxS f i.toNat) = _
  rw [show ((i.toNat : Nat) : Int) = i by omega]
theorem mxS_r {f : Int → Int} {b : Int} (hb : 0 ≤ b) : ∀ n : Nat, (∀ i : Nat, i < n → f i ≤ b) → 0 ≤ mxS f n ∧ mxS f n ≤ b := by
  intro n
  induction n with
  | zero => intro _; exact ⟨Int.le_refl _, hb⟩
  | succ n ih =>
    intro h
    have := ih (fun i hi => h i (by omega))
    have := h n (by omega)
    unfold mxS
    split <;> omega
theorem mxS_cg {f g : Int → Int} : ∀ n : Nat, (∀ i : Nat, i < n → f i = g i) → mxS f n = mxS g n := by
  intro n
  induction n with
  | zero => intro _; rfl
  | succ n ih =>
    intro h
    unfold mxS
    rw [ih (fun i hi => h i (by omega)), h n (by omega)]
theorem sm_cg {f g : Int → Int} (n : Nat) (h : ∀ i : Nat, i < n → f i = g i) : sm f n = sm g n := by
  have a := sm_le (f := f) (g := g) n (fun i hi => by rw [h i hi]; exact Int.le_refl _)
  have b := sm_le (f := g) (g := f) n (fun i hi => by rw [h i hi]; exact Int.le_refl _)
  omega
/-- how late a job is, as the plan's net has it -/
def ltV (σ : Mem) (j : Int) : Int := if 0 < ejV σ j - σ 9 0 j then ejV σ j - σ 9 0 j else 0
/-- the numbers of a job keep their bounds -/
def eOK (σ : Mem) (j : Int) : Prop := 0 ≤ j ∧ j < 4 ∧ σ 10 0 j ≤ 4 ∧ (0 < σ 10 0 j → 0 ≤ σ 21 0 (4 * j + σ 10 0 j - 1) ∧ σ 21 0 (4 * j + σ 10 0 j - 1) ≤ 10000 ∧ 0 ≤ σ 17 0 (4 * j + σ 10 0 j - 1) ∧ σ 17 0 (4 * j + σ 10 0 j - 1) ≤ 1000) ∧ 0 ≤ σ 8 0 j ∧ σ 8 0 j ≤ 1000 ∧ 0 ≤ σ 9 0 j ∧ σ 9 0 j ≤ 1000
theorem eOK_r {σ : Mem} {j : Int} (h : eOK σ j) : 0 ≤ ejV σ j ∧ ejV σ j ≤ 11000 ∧ 0 ≤ ltV σ j ∧ ltV σ j ≤ 11000 := by
  obtain ⟨h1, h2, h3, h4, h5, h6, h7, h8⟩ := h
  have e : 0 ≤ ejV σ j ∧ ejV σ j ≤ 11000 := by
    unfold ejV
    split
    · rename_i c
      have := h4 c
      omega
    · omega
  unfold ltV
  refine ⟨e.1, e.2, ?_⟩
  split <;> omega
theorem PK_e {σ : Mem} (hw : sWF σ 0) (h : PK σ) : (0 ≤ σ 5 0 0 ∧ σ 5 0 0 ≤ 4) ∧ (∀ j, 0 ≤ j → j < σ 5 0 0 → eOK σ j) ∧ (0 ≤ σ 3 0 1 ∧ σ 3 0 1 ≤ 16) ∧ (∀ k, 0 ≤ k → k < σ 3 0 1 → vOp (σ 10 0) (σ 37 0 k)) ∧ (∀ o, vOp (σ 10 0) o → 0 ≤ σ 21 0 o ∧ σ 21 0 o ≤ 700 ∧ 0 ≤ σ 22 0 o ∧ σ 22 0 o ≤ 320 ∧ σ 17 0 o = σ 12 0 o ∧ 1 ≤ σ 12 0 o ∧ σ 12 0 o ≤ 20 ∧ σ 16 0 o = σ 11 0 o) ∧ 0 ≤ σ 1 0 8 ∧ σ 1 0 8 ≤ 1100 := by
  obtain ⟨⟨m1, m2, m3, m4, m5, m6, m7⟩, hP⟩ := h
  have hv := PTi_v hw.1 hP
  have ho : ∀ o, vOp (σ 10 0) o → 0 ≤ σ 21 0 o ∧ σ 21 0 o ≤ 700 ∧ 0 ≤ σ 22 0 o ∧ σ 22 0 o ≤ 320 ∧ σ 17 0 o = σ 12 0 o ∧ 1 ≤ σ 12 0 o ∧ σ 12 0 o ≤ 20 ∧ σ 16 0 o = σ 11 0 o := fun o v => by
    have a := m7 o v
    have b := sWF_op hw v
    have c := m2 o v
    exact ⟨a.1, a.2.1, a.2.2.1, a.2.2.2, c.2, b.2.2.1, b.2.2.2.1, c.1⟩
  refine ⟨⟨hw.1.1.1, hw.1.1.2⟩, fun j j0 j1 => ?_, ⟨hP.1, hv.2.2⟩, hv.1, ho, ?_, m6⟩
  · have h1 := hw.1.1.2
    have h2 := hw.1.2.1 j j0 (by omega)
    have h3 := hw.2 j j0 j1
    refine ⟨j0, by omega, h2.2.1, fun c => ?_, h3.1, by omega, h3.2.2.1, by omega⟩
    have v : vOp (σ 10 0) (4 * j + σ 10 0 j - 1) := ⟨by omega, by omega, by rw [show (4 * j + σ 10 0 j - 1) / 4 = j by omega]; omega⟩
    have := ho _ v
    omega
  · exact m5.1
