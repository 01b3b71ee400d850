/-- nothing is different but where P allows it -/
def FrG (P : Nat → Nat → Int → Prop) (σ σ' : Mem) : Prop := ∀ t a x, ¬ P t a x → σ' t a x = σ t a x
theorem FrG.r {P : Nat → Nat → Int → Prop} {σ : Mem} : FrG P σ σ := fun _ _ _ _ => rfl
theorem FrG.t {P : Nat → Nat → Int → Prop} {σ σ' σ2 : Mem} (h : FrG P σ σ') (h2 : FrG P σ' σ2) : FrG P σ σ2 := fun t a x q => by rw [h2 t a x q, h t a x q]
theorem FrG.w {P Q : Nat → Nat → Int → Prop} {σ σ' : Mem} (h : FrG P σ σ') (hw : ∀ t a x, P t a x → Q t a x) : FrG Q σ σ' := fun t a x q => h t a x (fun p => q (hw t a x p))
theorem FrG.f {P : Nat → Nat → Int → Prop} {σ σ' : Mem} (h : FrG P σ σ') (t a : Nat) (ht : ∀ x, ¬ P t a x) : σ' t a = σ t a := funext fun x => h t a x (ht x)
theorem FrG.u {P : Nat → Nat → Int → Prop} {σ σ' : Mem} (h : FrG P σ σ') {t a : Nat} {x v : Int} (ht : P t a x) : FrG P σ (up σ' t a x v) := by
  intro t' a' x' q
  rw [up_ap, if_neg, h t' a' x' q]
  rintro ⟨rfl, rfl, rfl⟩
  exact q ht
/-- a state's routes -/
def stB (σ : Mem) (i : Nat) : Prop := (∀ j, 0 ≤ j → j < 4 → 0 ≤ σ 10 i j ∧ σ 10 i j ≤ 4) ∧ (∀ o, vOp (σ 10 i) o → 0 ≤ σ 11 i o ∧ σ 11 i o < 4 ∧ 1 ≤ σ 12 i o ∧ σ 12 i o ≤ 20 ∧ 0 ≤ σ 8 i (o / 4) ∧ σ 8 i (o / 4) ≤ 50) ∧ (∀ o o', vOp (σ 10 i) o → vOp (σ 10 i) o' → o / 4 = o' / 4 → σ 11 i o = σ 11 i o' → o = o')
def pL (n : Nat) (t a : Nat) (x : Int) : Prop := a = n ∧ (t = 15 ∨ t = 16 ∨ t = 17 ∨ t = 18 ∨ t = 19 ∨ t = 20 ∨ (t = 1 ∧ x = 9))
/-- load: the operations of the first j jobs, and the first s ones of the job j -/
def vL (σ : Mem) (i : Nat) (j s o : Int) : Prop := vOp (σ 10 i) o ∧ (o / 4 < j ∨ (o / 4 = j ∧ o % 4 < s))
def LD0 (σ σ' : Mem) (n : Nat) (x : Int) : Prop := FrG (pL n) σ σ' ∧ σ' 1 n 9 = 0 ∧ ∀ y, 0 ≤ y → y < x → σ' 19 n y = -6 ∧ σ' 20 n y = 0
def LD (σ σ' : Mem) (n i : Nat) (j s : Int) : Prop := FrG (pL n) σ σ' ∧ (∀ y, 0 ≤ y → y < 4 → σ' 15 n y = σ 10 i y) ∧ (∀ y, 0 ≤ y → y < 16 → σ' 20 n y = 0) ∧ (∀ o, vL σ i j s o → σ' 16 n o = σ 11 i o ∧ σ' 17 n o = σ 12 i o ∧ σ' 18 n o = σ 8 i (o / 4) ∧ σ' 19 n (4 * σ 11 i o + o / 4) = o) ∧ (∀ y, 0 ≤ y → y < 16 → σ' 19 n y = -6 ∨ ∃ o, vL σ i j s o ∧ y = 4 * σ 11 i o + o / 4 ∧ σ' 19 n y = o) ∧ σ' 1 n 9 = wF (σ 10 i) 0 j + s
theorem LD0_0 {σ : Mem} {n : Nat} : LD0 σ (up σ 1 n 9 0) n 0 := ⟨FrG.r.u ⟨rfl, by omega⟩, by rw [up_ap, if_pos ⟨rfl, rfl, rfl⟩], fun y a b => by omega⟩
theorem LD0_s {σ σ' : Mem} {n : Nat} {x : Int} (h : LD0 σ σ' n x) : LD0 σ (up (up σ' 19 n x (-6)) 20 n x 0) n (x + 1) := by
  obtain ⟨a1, a2, a3⟩ := h
  refine ⟨(a1.u ⟨rfl, by omega⟩).u ⟨rfl, by omega⟩, ?_, fun y y0 y1 => ?_⟩
  · simpa [up_ap] using a2
  · by_cases q : y = x
    · simp [up_ap, q]
    · have := a3 y y0 (by omega)
      simp [up_ap, q]
      exact this
theorem LD_0 {σ σ' σ2 : Mem} {n i : Nat} {x : Int} (h : LD0 σ σ' n x) (hx : 16 ≤ x) (h1 : ∀ t a y, (t ≠ 15 ∨ a ≠ n) → σ2 t a y = σ' t a y) (h2 : ∀ y, 0 ≤ y → y < 4 → σ2 15 n y = σ' 10 i y) : LD σ σ2 n i 0 0 := by
  obtain ⟨a1, a2, a3⟩ := h
  refine ⟨a1.t (fun t a y q => h1 t a y ?_), fun y y0 y1 => ?_, fun y y0 y1 => ?_, fun o v => ?_, fun y y0 y1 => ?_, ?_⟩
  · exact Classical.byContradiction fun c => q (by
      have h3 : t = 15 := Classical.byContradiction fun e => c (Or.inl e)
      have h4 : a = n := Classical.byContradiction fun e => c (Or.inr e)
      exact ⟨h4, Or.inl h3⟩)
  · rw [h2 y y0 y1]
    exact a1 10 i y (by rintro ⟨-, q⟩; omega)
  · rw [h1 20 n y (by omega)]
    exact (a3 y y0 (by omega)).2
  · obtain ⟨v1, v2⟩ := v
    have := v1.1
    omega
  · rw [h1 19 n y (by omega)]
    exact Or.inl (a3 y y0 (by omega)).1
  · rw [h1 1 n 9 (by omega), a2, wF_0]
    rfl
theorem LD_next {σ σ' : Mem} {n i : Nat} {j s : Int} (h : LD σ σ' n i j s) (j0 : 0 ≤ j) (j1 : j < 4) (hs : s ≤ σ 10 i j) (he : σ 10 i j ≤ s) : LD σ σ' n i (j + 1) 0 := by
  obtain ⟨a1, a2, a3, a4, a5, a6⟩ := h
  have V : ∀ o, vL σ i (j + 1) 0 o ↔ vL σ i j s o := by
    intro o
    constructor
    · rintro ⟨v, q⟩
      refine ⟨v, ?_⟩
      rcases (show o / 4 < j ∨ o / 4 = j by omega) with c | c
      · exact Or.inl c
      · have := v.2.2
        rw [c] at this
        exact Or.inr ⟨c, by omega⟩
    · rintro ⟨v, q⟩
      exact ⟨v, by omega⟩
  refine ⟨a1, a2, a3, fun o v => a4 o ((V o).mp v), fun y y0 y1 => ?_, ?_⟩
  · rcases a5 y y0 y1 with q | ⟨o, v, q⟩
    · exact Or.inl q
    · exact Or.inr ⟨o, (V o).mpr v, q⟩
  · have := wF_s (σ 10 i) 0 j j0 j1
    rw [Int.zero_add] at this
    omega
theorem LD_step {σ σ' : Mem} {n i : Nat} {j s : Int} (hB : stB σ i) (h : LD σ σ' n i j s) (j0 : 0 ≤ j) (j1 : j < 4) (s0 : 0 ≤ s) (he : s < σ 10 i j) : LD σ (up (up (up (up (up σ' 16 n (4 * j + s) (σ' 11 i (4 * j + s))) 17 n (4 * j + s) (σ' 12 i (4 * j + s))) 18 n (4 * j + s) (σ' 8 i j)) 19 n (4 * σ' 11 i (4 * j + s) + j) (4 * j + s)) 1 n 9 (σ' 1 n 9 + 1)) n i j (s + 1) := by
  obtain ⟨a1, a2, a3, a4, a5, a6⟩ := h
  have e11 : ∀ x, σ' 11 i x = σ 11 i x := fun x => a1 11 i x (by rintro ⟨-, q⟩; omega)
  have e12 : ∀ x, σ' 12 i x = σ 12 i x := fun x => a1 12 i x (by rintro ⟨-, q⟩; omega)
  have e8 : ∀ x, σ' 8 i x = σ 8 i x := fun x => a1 8 i x (by rintro ⟨-, q⟩; omega)
  have hst := hB.1 j j0 j1
  have oj : (4 * j + s) / 4 = j := by omega
  have om : (4 * j + s) % 4 = s := by omega
  have hv : vOp (σ 10 i) (4 * j + s) := ⟨by omega, by omega, by rw [oj, om]; exact he⟩
  have V : ∀ o, vL σ i j (s + 1) o ↔ vL σ i j s o ∨ o = 4 * j + s := by
    intro o
    constructor
    · rintro ⟨v, q⟩
      rcases (show (o / 4 < j ∨ (o / 4 = j ∧ o % 4 < s)) ∨ o = 4 * j + s by omega) with c | c
      · exact Or.inl ⟨v, c⟩
      · exact Or.inr c
    · rintro (⟨v, q⟩ | q)
      · exact ⟨v, by omega⟩
      · subst q
        exact ⟨hv, by omega⟩
  have nv : ∀ o, vL σ i j s o → o ≠ 4 * j + s := by
    rintro o ⟨v, q⟩ rfl
    omega
  have hinj : ∀ o, vL σ i j s o → 4 * σ 11 i o + o / 4 ≠ 4 * σ 11 i (4 * j + s) + j := by
    intro o v e
    have h1 := vOp_j v.1
    have h2 : o / 4 = j := by omega
    have h3 := hB.2.2 o (4 * j + s) v.1 hv (by omega) (by omega)
    exact nv o v h3
  refine ⟨((((a1.u ⟨rfl, by omega⟩).u ⟨rfl, by omega⟩).u ⟨rfl, by omega⟩).u ⟨rfl, by omega⟩).u ⟨rfl, by omega⟩, fun y y0 y1 => ?_, fun y y0 y1 => ?_, fun o v => ?_, fun y y0 y1 => ?_, ?_⟩
  · simp [up_ap]
    exact a2 y y0 y1
  · simp [up_ap]
    exact a3 y y0 y1
  · rw [V] at v
    simp only [e11, e12, e8]
    rcases v with v | v
    · have h1 := nv o v
      have h2 := hinj o v
      simp [up_ap, h1, h2]
      exact a4 o v
    · subst v
      simp [up_ap, oj]
  · simp only [e11, e12, e8]
    by_cases q : y = 4 * σ 11 i (4 * j + s) + j
    · refine Or.inr ⟨4 * j + s, (V _).mpr (Or.inr rfl), by rw [oj]; exact q, ?_⟩
      simp [up_ap, q]
    · rcases a5 y y0 y1 with c | ⟨o, v, c1, c2⟩
      · left
        simp [up_ap, q]
        exact c
      · refine Or.inr ⟨o, (V _).mpr (Or.inl v), c1, ?_⟩
        simp [up_ap, q]
        exact c2
  · simp [up_ap]
    omega
/-- what load does -/
def Lod (n i : Nat) (σ σ' : Mem) : Prop := FrG (pL n) σ σ' ∧ nB σ' n ∧ nA σ' n ∧ nO σ' n ∧ (∀ j, 0 ≤ j → j < 4 → σ' 15 n j = σ 10 i j) ∧ (∀ o, vOp (σ 10 i) o → σ' 16 n o = σ 11 i o ∧ σ' 17 n o = σ 12 i o ∧ σ' 18 n o = σ 8 i (o / 4)) ∧ (∀ o, 0 ≤ o → o < 16 → σ' 20 n o = 0)
theorem vOp_cg {f g : Int → Int} (h : ∀ j, 0 ≤ j → j < 4 → f j = g j) (o : Int) : vOp f o ↔ vOp g o := by
  constructor
  · rintro ⟨a, b, c⟩
    exact ⟨a, b, by rw [← h (o / 4) (by omega) (by omega)]; exact c⟩
  · rintro ⟨a, b, c⟩
    exact ⟨a, b, by rw [h (o / 4) (by omega) (by omega)]; exact c⟩
theorem LD_end {σ σ' : Mem} {n i : Nat} {j : Int} (hB : stB σ i) (h : LD σ σ' n i j 0) (hj : 4 ≤ j) (hj2 : j ≤ 4) : Lod n i σ σ' := by
  obtain ⟨a1, a2, a3, a4, a5, a6⟩ := h
  have V : ∀ o, vL σ i j 0 o ↔ vOp (σ 10 i) o := by
    intro o
    constructor
    · exact fun v => v.1
    · intro v
      have := vOp_j v
      exact ⟨v, by omega⟩
  have W : ∀ o, vOp (σ' 15 n) o ↔ vOp (σ 10 i) o := vOp_cg a2
  refine ⟨a1, ⟨fun k k0 k1 => ?_, fun o v => ?_, fun m k m0 m1 k0 k1 q => ?_⟩, fun o v => ?_, ?_, a2, fun o v => ?_, a3⟩
  · rw [a2 k k0 k1]
    exact hB.1 k k0 k1
  · rw [W] at v
    obtain ⟨b1, b2, b3, b4⟩ := a4 o ((V o).mpr v)
    have := hB.2.1 o v
    rw [b1, b2, b3]
    exact ⟨this.1, this.2.1, this.2.2.1, this.2.2.2.1, this.2.2.2.2.1, by omega, b4⟩
  · rcases a5 (4 * m + k) (by omega) (by omega) with c | ⟨o, v, c1, c2⟩
    · omega
    · rw [c2]
      have v' := (V o).mp v
      have hj' := vOp_j v'
      have hm := hB.2.1 o v'
      refine ⟨(W o).mpr v', ?_, by omega⟩
      rw [(a4 o v).1]
      omega
  · have v' := (W o).mp v
    rw [a3 o v'.1 v'.2.1]
    exact ⟨by omega, by omega, fun k k0 k1 q => absurd q (bit_0 k0 k1)⟩
  · unfold nO
    rw [a6, a2 0 (by omega) (by omega), a2 1 (by omega) (by omega), a2 2 (by omega) (by omega), a2 3 (by omega) (by omega), show j = 4 by omega]
    simp [wF]
  · obtain ⟨b1, b2, b3, b4⟩ := a4 o ((V o).mpr v)
    exact ⟨b1, b2, b3⟩
