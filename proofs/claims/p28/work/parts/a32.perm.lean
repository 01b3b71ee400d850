/-! orders of a machine, by numbers -/
def PRM (n : Int) (v q : Int → Int) : Prop := (∀ k, 0 ≤ k → k < n → ∃ k', 0 ≤ k' ∧ k' < n ∧ v k = q k') ∧ (∀ k', 0 ≤ k' → k' < n → ∃ k, 0 ≤ k ∧ k < n ∧ v k = q k') ∧ ∀ k k', 0 ≤ k → k < n → 0 ≤ k' → k' < n → v k = v k' → k = k'
theorem PRM_r {n : Int} {q : Int → Int} (h : ∀ k k', 0 ≤ k → k < n → 0 ≤ k' → k' < n → q k = q k' → k = k') : PRM n q q := ⟨fun k a b => ⟨k, a, b, rfl⟩, fun k a b => ⟨k, a, b, rfl⟩, h⟩
theorem PRM_inv {n : Int} {v v' q p : Int → Int} (h : PRM n v q) (hp : ∀ k, 0 ≤ k → k < n → 0 ≤ p k ∧ p k < n ∧ p (p k) = k) (hv : ∀ k, 0 ≤ k → k < n → v' k = v (p k)) : PRM n v' q := by
  obtain ⟨h1, h2, h3⟩ := h
  refine ⟨fun k a b => ?_, fun k a b => ?_, fun k k' a b c d e => ?_⟩
  · rw [hv k a b]
    exact h1 _ (hp k a b).1 (hp k a b).2.1
  · obtain ⟨x, x0, x1, e⟩ := h2 k a b
    have := hp x x0 x1
    exact ⟨p x, this.1, this.2.1, by rw [hv _ this.1 this.2.1, this.2.2, e]⟩
  · rw [hv k a b, hv k' c d] at e
    have x := hp k a b
    have y := hp k' c d
    have z := h3 _ _ x.1 x.2.1 y.1 y.2.1 e
    rw [← x.2.2, z, y.2.2]
theorem PRM_cg {n : Int} {v v' q : Int → Int} (h : PRM n v q) (hv : ∀ k, 0 ≤ k → k < n → v' k = v k) : PRM n v' q := PRM_inv (p := fun k => k) h (fun k a b => ⟨a, b, rfl⟩) hv
theorem PRM_t {n : Int} {v w q : Int → Int} (h : PRM n v w) (h2 : PRM n w q) : PRM n v q := by
  refine ⟨fun k a b => ?_, fun k a b => ?_, h.2.2⟩
  · obtain ⟨x, x0, x1, e⟩ := h.1 k a b
    obtain ⟨y, y0, y1, e2⟩ := h2.1 x x0 x1
    exact ⟨y, y0, y1, e.trans e2⟩
  · obtain ⟨x, x0, x1, e⟩ := h2.2.1 k a b
    obtain ⟨y, y0, y1, e2⟩ := h.2.1 x x0 x1
    exact ⟨y, y0, y1, e2.trans e⟩
theorem PRM_sy {n : Int} {v q : Int → Int} (h : PRM n v q) (hq : ∀ k k', 0 ≤ k → k < n → 0 ≤ k' → k' < n → q k = q k' → k = k') : PRM n q v := ⟨fun k a b => by
  obtain ⟨x, x0, x1, e⟩ := h.2.1 k a b
  exact ⟨x, x0, x1, e.symm⟩, fun k a b => by
  obtain ⟨x, x0, x1, e⟩ := h.1 k a b
  exact ⟨x, x0, x1, e.symm⟩, hq⟩
def nuQ (n : Int) (v : Int → Int) : Int := (if 0 < n then 64 * v 0 else 0) + (if 1 < n then 16 * v 1 else 0) + (if 2 < n then 4 * v 2 else 0) + (if 3 < n then v 3 else 0)
def cI (a b : Int) : Int := if a < b then 1 else 0
def rkQ (n : Int) (v : Int → Int) : Int := if n = 4 then 6 * (cI (v 1) (v 0) + cI (v 2) (v 0) + cI (v 3) (v 0)) + 2 * (cI (v 2) (v 1) + cI (v 3) (v 1)) + cI (v 3) (v 2) else if n = 3 then 2 * (cI (v 1) (v 0) + cI (v 2) (v 0)) + cI (v 2) (v 1) else if n = 2 then cI (v 1) (v 0) else 0
theorem cI_r (a b : Int) : 0 ≤ cI a b ∧ cI a b ≤ 1 := by
  unfold cI
  split <;> omega
theorem rkQ_r (n : Int) (v : Int → Int) : 0 ≤ rkQ n v ∧ rkQ n v ≤ 23 := by
  have a := cI_r (v 1) (v 0)
  have b := cI_r (v 2) (v 0)
  have c := cI_r (v 3) (v 0)
  have d := cI_r (v 2) (v 1)
  have e := cI_r (v 3) (v 1)
  have f := cI_r (v 3) (v 2)
  unfold rkQ
  split
  · omega
  · split
    · omega
    · split <;> omega
theorem nuQ_eq {n : Int} {v g : Int → Int} (n4 : n ≤ 4) (hv : ∀ k, 0 ≤ k → k < n → 0 ≤ v k ∧ v k < 4) (hg : ∀ k, 0 ≤ k → k < n → 0 ≤ g k ∧ g k < 4) (h : nuQ n v = nuQ n g) : ∀ k, 0 ≤ k → k < n → v k = g k := by
  intro k k0 k1
  have key : ∀ i : Int, 0 ≤ i → i < n → 0 ≤ v i ∧ v i < 4 ∧ 0 ≤ g i ∧ g i < 4 := fun i a b => ⟨(hv i a b).1, (hv i a b).2, (hg i a b).1, (hg i a b).2⟩
  unfold nuQ at h
  rcases (show n = 1 ∨ n = 2 ∨ n = 3 ∨ n = 4 by omega) with rfl | rfl | rfl | rfl <;> simp at h
  · have := key 0 (by omega) (by omega)
    rw [show k = 0 by omega]
    omega
  · have := key 0 (by omega) (by omega)
    have := key 1 (by omega) (by omega)
    rcases (show k = 0 ∨ k = 1 by omega) with rfl | rfl <;> omega
  · have := key 0 (by omega) (by omega)
    have := key 1 (by omega) (by omega)
    have := key 2 (by omega) (by omega)
    rcases (show k = 0 ∨ k = 1 ∨ k = 2 by omega) with rfl | rfl | rfl <;> omega
  · have := key 0 (by omega) (by omega)
    have := key 1 (by omega) (by omega)
    have := key 2 (by omega) (by omega)
    have := key 3 (by omega) (by omega)
    rcases (show k = 0 ∨ k = 1 ∨ k = 2 ∨ k = 3 by omega) with rfl | rfl | rfl | rfl <;> omega
/-- the lesser one has, at the first place where they differ, the lesser job -/
theorem nuQ_lt {n : Int} {v g : Int → Int} (n4 : n ≤ 4) (hv : ∀ k, 0 ≤ k → k < n → 0 ≤ v k ∧ v k < 4) (hg : ∀ k, 0 ≤ k → k < n → 0 ≤ g k ∧ g k < 4) (h : nuQ n v ≤ nuQ n g) {e : Int} (e0 : 0 ≤ e) (e1 : e < n) (hs : ∀ k, 0 ≤ k → k < e → v k = g k) : v e ≤ g e := by
  have key : ∀ i : Int, 0 ≤ i → i < n → 0 ≤ v i ∧ v i < 4 ∧ 0 ≤ g i ∧ g i < 4 := fun i a b => ⟨(hv i a b).1, (hv i a b).2, (hg i a b).1, (hg i a b).2⟩
  unfold nuQ at h
  have h0 : 0 < e → v 0 = g 0 := fun q => hs 0 (by omega) q
  have h1 : 1 < e → v 1 = g 1 := fun q => hs 1 (by omega) q
  have h2 : 2 < e → v 2 = g 2 := fun q => hs 2 (by omega) q
  rcases (show n = 1 ∨ n = 2 ∨ n = 3 ∨ n = 4 by omega) with rfl | rfl | rfl | rfl <;> simp at h
  · have := key 0 (by omega) (by omega)
    rw [show e = 0 by omega]
    omega
  · have := key 0 (by omega) (by omega)
    have := key 1 (by omega) (by omega)
    rcases (show e = 0 ∨ e = 1 by omega) with rfl | rfl <;> simp at h0 <;> omega
  · have := key 0 (by omega) (by omega)
    have := key 1 (by omega) (by omega)
    have := key 2 (by omega) (by omega)
    rcases (show e = 0 ∨ e = 1 ∨ e = 2 by omega) with rfl | rfl | rfl <;> simp at h0 h1 <;> omega
  · have := key 0 (by omega) (by omega)
    have := key 1 (by omega) (by omega)
    have := key 2 (by omega) (by omega)
    have := key 3 (by omega) (by omega)
    rcases (show e = 0 ∨ e = 1 ∨ e = 2 ∨ e = 3 by omega) with rfl | rfl | rfl | rfl <;> simp at h0 h1 h2 <;> omega
abbrev n4Q (a b c d : Nat) : Nat := 64 * a + 16 * b + 4 * c + d
abbrev cNq (a b : Nat) : Nat := if a < b then 1 else 0
abbrev r4Q (a b c d : Nat) : Nat := 6 * (cNq b a + cNq c a + cNq d a) + 2 * (cNq c b + cNq d b) + cNq d c
abbrev r3Q (a b c : Nat) : Nat := 2 * (cNq b a + cNq c a) + cNq c b
def gl4 (v0 v1 v2 v3 w0 w1 w2 w3 : Nat) : Prop := ∀ g0 g1 : Fin 4, g0.val ≠ g1.val → ∀ g2 : Fin 4, g2.val ≠ g0.val → g2.val ≠ g1.val → ∀ g3 : Fin 4, g3.val ≠ g0.val → g3.val ≠ g1.val → g3.val ≠ g2.val → n4Q g0.val g1.val g2.val g3.val ≤ n4Q v0 v1 v2 v3 ∨ n4Q w0 w1 w2 w3 ≤ n4Q g0.val g1.val g2.val g3.val
def gl4_d (v0 v1 v2 v3 w0 w1 w2 w3 : Nat) : Decidable (gl4 v0 v1 v2 v3 w0 w1 w2 w3) := by
  unfold gl4
  exact inferInstance
def ck4 (v0 v1 v2 v3 w0 w1 w2 w3 : Nat) : Prop := r4Q v0 v1 v2 v3 + 1 ≤ r4Q w0 w1 w2 w3 ∧ n4Q v0 v1 v2 v3 < n4Q w0 w1 w2 w3 ∧ gl4 v0 v1 v2 v3 w0 w1 w2 w3
def ck4_d (v0 v1 v2 v3 w0 w1 w2 w3 : Nat) : Decidable (ck4 v0 v1 v2 v3 w0 w1 w2 w3) := by
  unfold ck4
  letI : ∀ x0 x1 x2 x3 x4 x5 x6 x7 : Nat, Decidable (gl4 x0 x1 x2 x3 x4 x5 x6 x7) := gl4_d
  exact inferInstance
def nx4a (v0 v1 v2 v3 : Nat) : Prop := (v2 < v3 → ck4 v0 v1 v2 v3 v0 v1 v3 v2) ∧ (v3 < v2 → v1 < v2 → (v1 < v3 → ck4 v0 v1 v2 v3 v0 v3 v1 v2) ∧ (v3 < v1 → ck4 v0 v1 v2 v3 v0 v2 v3 v1))
def nx4a_d (v0 v1 v2 v3 : Nat) : Decidable (nx4a v0 v1 v2 v3) := by
  unfold nx4a
  letI : ∀ x0 x1 x2 x3 x4 x5 x6 x7 : Nat, Decidable (ck4 x0 x1 x2 x3 x4 x5 x6 x7) := ck4_d
  exact inferInstance
def nx4b (v0 v1 v2 v3 : Nat) : Prop := v3 < v2 → v2 < v1 → v0 < v1 → (v0 < v3 → ck4 v0 v1 v2 v3 v3 v0 v2 v1) ∧ (v3 < v0 → v0 < v2 → ck4 v0 v1 v2 v3 v2 v3 v0 v1) ∧ (v2 < v0 → ck4 v0 v1 v2 v3 v1 v3 v2 v0)
def nx4b_d (v0 v1 v2 v3 : Nat) : Decidable (nx4b v0 v1 v2 v3) := by
  unfold nx4b
  letI : ∀ x0 x1 x2 x3 x4 x5 x6 x7 : Nat, Decidable (ck4 x0 x1 x2 x3 x4 x5 x6 x7) := ck4_d
  exact inferInstance
def nx4P (v0 v1 v2 v3 : Nat) : Prop := nx4a v0 v1 v2 v3 ∧ nx4b v0 v1 v2 v3
def nx4P_d (v0 v1 v2 v3 : Nat) : Decidable (nx4P v0 v1 v2 v3) := by
  unfold nx4P
  letI : ∀ x0 x1 x2 x3 : Nat, Decidable (nx4a x0 x1 x2 x3) := nx4a_d
  letI : ∀ x0 x1 x2 x3 : Nat, Decidable (nx4b x0 x1 x2 x3) := nx4b_d
  exact inferInstance
def nx4D : Decidable (∀ v0 v1 : Fin 4, v0.val ≠ v1.val → ∀ v2 : Fin 4, v2.val ≠ v0.val → v2.val ≠ v1.val → ∀ v3 : Fin 4, v3.val ≠ v0.val → v3.val ≠ v1.val → v3.val ≠ v2.val → nx4P v0.val v1.val v2.val v3.val) := by
  letI : ∀ x0 x1 x2 x3 : Nat, Decidable (nx4P x0 x1 x2 x3) := nx4P_d
  exact inferInstance
theorem nx4 : ∀ v0 v1 : Fin 4, v0.val ≠ v1.val → ∀ v2 : Fin 4, v2.val ≠ v0.val → v2.val ≠ v1.val → ∀ v3 : Fin 4, v3.val ≠ v0.val → v3.val ≠ v1.val → v3.val ≠ v2.val → nx4P v0.val v1.val v2.val v3.val := @of_decide_eq_true _ nx4D (by decide +kernel)
def gl3 (v0 v1 v2 w0 w1 w2 : Nat) : Prop := ∀ g0 : Fin 4, g0.val = v0 ∨ g0.val = v1 ∨ g0.val = v2 → ∀ g1 : Fin 4, g1.val = v0 ∨ g1.val = v1 ∨ g1.val = v2 → g0.val ≠ g1.val → ∀ g2 : Fin 4, g2.val = v0 ∨ g2.val = v1 ∨ g2.val = v2 → g2.val ≠ g0.val → g2.val ≠ g1.val → n4Q g0.val g1.val g2.val 0 ≤ n4Q v0 v1 v2 0 ∨ n4Q w0 w1 w2 0 ≤ n4Q g0.val g1.val g2.val 0
def gl3_d (v0 v1 v2 w0 w1 w2 : Nat) : Decidable (gl3 v0 v1 v2 w0 w1 w2) := by
  unfold gl3
  exact inferInstance
def ck3 (v0 v1 v2 w0 w1 w2 : Nat) : Prop := r3Q v0 v1 v2 + 1 ≤ r3Q w0 w1 w2 ∧ n4Q v0 v1 v2 0 < n4Q w0 w1 w2 0 ∧ gl3 v0 v1 v2 w0 w1 w2
def ck3_d (v0 v1 v2 w0 w1 w2 : Nat) : Decidable (ck3 v0 v1 v2 w0 w1 w2) := by
  unfold ck3
  letI : ∀ x0 x1 x2 x3 x4 x5 : Nat, Decidable (gl3 x0 x1 x2 x3 x4 x5) := gl3_d
  exact inferInstance
def nx3P (v0 v1 v2 : Nat) : Prop := (v1 < v2 → ck3 v0 v1 v2 v0 v2 v1) ∧ (v2 < v1 → v0 < v1 → (v0 < v2 → ck3 v0 v1 v2 v2 v0 v1) ∧ (v2 < v0 → ck3 v0 v1 v2 v1 v2 v0))
def nx3P_d (v0 v1 v2 : Nat) : Decidable (nx3P v0 v1 v2) := by
  unfold nx3P
  letI : ∀ x0 x1 x2 x3 x4 x5 : Nat, Decidable (ck3 x0 x1 x2 x3 x4 x5) := ck3_d
  exact inferInstance
def nx3D : Decidable (∀ v0 v1 : Fin 4, v0.val ≠ v1.val → ∀ v2 : Fin 4, v2.val ≠ v0.val → v2.val ≠ v1.val → nx3P v0.val v1.val v2.val) := by
  letI : ∀ x0 x1 x2 : Nat, Decidable (nx3P x0 x1 x2) := nx3P_d
  exact inferInstance
theorem nx3 : ∀ v0 v1 : Fin 4, v0.val ≠ v1.val → ∀ v2 : Fin 4, v2.val ≠ v0.val → v2.val ≠ v1.val → nx3P v0.val v1.val v2.val := @of_decide_eq_true _ nx3D (by decide +kernel)
/-- those that begin alike: a falling end is the greatest one, a rising end the least one -/
def ds4 (v0 v1 v2 v3 g0 g1 g2 g3 : Nat) : Prop := (v1 < v0 → v2 < v1 → v3 < v2 → n4Q g0 g1 g2 g3 ≤ n4Q v0 v1 v2 v3) ∧ (g0 = v0 → v2 < v1 → v3 < v2 → n4Q g0 g1 g2 g3 ≤ n4Q v0 v1 v2 v3) ∧ (g0 = v0 → g1 = v1 → v3 < v2 → n4Q g0 g1 g2 g3 ≤ n4Q v0 v1 v2 v3) ∧ (v0 < v1 → v1 < v2 → v2 < v3 → n4Q v0 v1 v2 v3 ≤ n4Q g0 g1 g2 g3) ∧ (g0 = v0 → v1 < v2 → v2 < v3 → n4Q v0 v1 v2 v3 ≤ n4Q g0 g1 g2 g3) ∧ (g0 = v0 → g1 = v1 → v2 < v3 → n4Q v0 v1 v2 v3 ≤ n4Q g0 g1 g2 g3) ∧ (g0 = v0 → g1 = v1 → g2 = v2 → g3 = v3)
def ds4_d (v0 v1 v2 v3 g0 g1 g2 g3 : Nat) : Decidable (ds4 v0 v1 v2 v3 g0 g1 g2 g3) := by
  unfold ds4
  exact inferInstance
def nd4P (v0 v1 v2 v3 : Nat) : Prop := ∀ g0 g1 : Fin 4, g0.val ≠ g1.val → ∀ g2 : Fin 4, g2.val ≠ g0.val → g2.val ≠ g1.val → ∀ g3 : Fin 4, g3.val ≠ g0.val → g3.val ≠ g1.val → g3.val ≠ g2.val → ds4 v0 v1 v2 v3 g0.val g1.val g2.val g3.val
def nd4P_d (v0 v1 v2 v3 : Nat) : Decidable (nd4P v0 v1 v2 v3) := by
  unfold nd4P
  letI : ∀ x0 x1 x2 x3 x4 x5 x6 x7 : Nat, Decidable (ds4 x0 x1 x2 x3 x4 x5 x6 x7) := ds4_d
  exact inferInstance
def nd4D : Decidable (∀ v0 v1 : Fin 4, v0.val ≠ v1.val → ∀ v2 : Fin 4, v2.val ≠ v0.val → v2.val ≠ v1.val → ∀ v3 : Fin 4, v3.val ≠ v0.val → v3.val ≠ v1.val → v3.val ≠ v2.val → nd4P v0.val v1.val v2.val v3.val) := by
  letI : ∀ x0 x1 x2 x3 : Nat, Decidable (nd4P x0 x1 x2 x3) := nd4P_d
  exact inferInstance
theorem nd4 : ∀ v0 v1 : Fin 4, v0.val ≠ v1.val → ∀ v2 : Fin 4, v2.val ≠ v0.val → v2.val ≠ v1.val → ∀ v3 : Fin 4, v3.val ≠ v0.val → v3.val ≠ v1.val → v3.val ≠ v2.val → nd4P v0.val v1.val v2.val v3.val := @of_decide_eq_true _ nd4D (by decide +kernel)
def ds3 (v0 v1 v2 g0 g1 g2 : Nat) : Prop := (v1 < v0 → v2 < v1 → n4Q g0 g1 g2 0 ≤ n4Q v0 v1 v2 0) ∧ (g0 = v0 → v2 < v1 → n4Q g0 g1 g2 0 ≤ n4Q v0 v1 v2 0) ∧ (v0 < v1 → v1 < v2 → n4Q v0 v1 v2 0 ≤ n4Q g0 g1 g2 0) ∧ (g0 = v0 → v1 < v2 → n4Q v0 v1 v2 0 ≤ n4Q g0 g1 g2 0) ∧ (g0 = v0 → g1 = v1 → g2 = v2)
def ds3_d (v0 v1 v2 g0 g1 g2 : Nat) : Decidable (ds3 v0 v1 v2 g0 g1 g2) := by
  unfold ds3
  exact inferInstance
def nd3P (v0 v1 v2 : Nat) : Prop := ∀ g0 : Fin 4, g0.val = v0 ∨ g0.val = v1 ∨ g0.val = v2 → ∀ g1 : Fin 4, g1.val = v0 ∨ g1.val = v1 ∨ g1.val = v2 → g0.val ≠ g1.val → ∀ g2 : Fin 4, g2.val = v0 ∨ g2.val = v1 ∨ g2.val = v2 → g2.val ≠ g0.val → g2.val ≠ g1.val → ds3 v0 v1 v2 g0.val g1.val g2.val
def nd3P_d (v0 v1 v2 : Nat) : Decidable (nd3P v0 v1 v2) := by
  unfold nd3P
  letI : ∀ x0 x1 x2 x3 x4 x5 : Nat, Decidable (ds3 x0 x1 x2 x3 x4 x5) := ds3_d
  exact inferInstance
def nd3D : Decidable (∀ v0 v1 : Fin 4, v0.val ≠ v1.val → ∀ v2 : Fin 4, v2.val ≠ v0.val → v2.val ≠ v1.val → nd3P v0.val v1.val v2.val) := by
  letI : ∀ x0 x1 x2 : Nat, Decidable (nd3P x0 x1 x2) := nd3P_d
  exact inferInstance
theorem nd3 : ∀ v0 v1 : Fin 4, v0.val ≠ v1.val → ∀ v2 : Fin 4, v2.val ≠ v0.val → v2.val ≠ v1.val → nd3P v0.val v1.val v2.val := @of_decide_eq_true _ nd3D (by decide +kernel)
theorem f4Q {x : Int} (a : 0 ≤ x) (b : x < 4) : ∃ y : Fin 4, x = ((y.val : Nat) : Int) := ⟨⟨x.toNat, by omega⟩, (Int.toNat_of_nonneg a).symm⟩
theorem cI_n (a b : Nat) : cI (a : Int) (b : Int) = ((cNq a b : Nat) : Int) := by
  unfold cI cNq
  by_cases c : a < b
  · rw [if_pos c, if_pos (by omega)]
    rfl
  · rw [if_neg c, if_neg (by omega)]
    rfl
theorem nu_4 {v : Int → Int} {a b c d : Nat} (h0 : v 0 = a) (h1 : v 1 = b) (h2 : v 2 = c) (h3 : v 3 = d) : nuQ 4 v = ((n4Q a b c d : Nat) : Int) := by
  unfold nuQ n4Q
  rw [h0, h1, h2, h3, if_pos (by omega), if_pos (by omega), if_pos (by omega), if_pos (by omega)]
  omega
theorem nu_3 {v : Int → Int} {a b c : Nat} (h0 : v 0 = a) (h1 : v 1 = b) (h2 : v 2 = c) : nuQ 3 v = ((n4Q a b c 0 : Nat) : Int) := by
  unfold nuQ n4Q
  rw [h0, h1, h2, if_pos (by omega), if_pos (by omega), if_pos (by omega), if_neg (by omega)]
  omega
theorem rk_4 {v : Int → Int} {a b c d : Nat} (h0 : v 0 = a) (h1 : v 1 = b) (h2 : v 2 = c) (h3 : v 3 = d) : rkQ 4 v = ((r4Q a b c d : Nat) : Int) := by
  unfold rkQ r4Q
  rw [if_pos rfl, h0, h1, h2, h3, cI_n, cI_n, cI_n, cI_n, cI_n, cI_n]
  generalize cNq b a = x1
  generalize cNq c a = x2
  generalize cNq d a = x3
  generalize cNq c b = x4
  generalize cNq d b = x5
  generalize cNq d c = x6
  omega
theorem rk_3 {v : Int → Int} {a b c : Nat} (h0 : v 0 = a) (h1 : v 1 = b) (h2 : v 2 = c) : rkQ 3 v = ((r3Q a b c : Nat) : Int) := by
  unfold rkQ r3Q
  rw [if_neg (by omega), if_pos rfl, h0, h1, h2, cI_n, cI_n, cI_n]
  generalize cNq b a = x1
  generalize cNq c a = x2
  generalize cNq c b = x4
  omega
/-- the digits of one that has n = 3, 4 places -/
theorem dg4 {v q : Int → Int} (h : PRM 4 v q) (dq : ∀ k, 0 ≤ k → k < 4 → 0 ≤ q k ∧ q k < 4) : ∃ a b c d : Fin 4, v 0 = ((a.val : Nat) : Int) ∧ v 1 = ((b.val : Nat) : Int) ∧ v 2 = ((c.val : Nat) : Int) ∧ v 3 = ((d.val : Nat) : Int) ∧ a.val ≠ b.val ∧ c.val ≠ a.val ∧ c.val ≠ b.val ∧ d.val ≠ a.val ∧ d.val ≠ b.val ∧ d.val ≠ c.val := by
  have dv : ∀ k, 0 ≤ k → k < 4 → 0 ≤ v k ∧ v k < 4 := fun k a b => by
    obtain ⟨x, x0, x1, e⟩ := h.1 k a b
    rw [e]
    exact dq x x0 x1
  obtain ⟨a, ha⟩ := f4Q (dv 0 (by omega) (by omega)).1 (dv 0 (by omega) (by omega)).2
  obtain ⟨b, hb⟩ := f4Q (dv 1 (by omega) (by omega)).1 (dv 1 (by omega) (by omega)).2
  obtain ⟨c, hc⟩ := f4Q (dv 2 (by omega) (by omega)).1 (dv 2 (by omega) (by omega)).2
  obtain ⟨d, hd⟩ := f4Q (dv 3 (by omega) (by omega)).1 (dv 3 (by omega) (by omega)).2
  have i01 := h.2.2 0 1 (by omega) (by omega) (by omega) (by omega)
  have i02 := h.2.2 0 2 (by omega) (by omega) (by omega) (by omega)
  have i03 := h.2.2 0 3 (by omega) (by omega) (by omega) (by omega)
  have i12 := h.2.2 1 2 (by omega) (by omega) (by omega) (by omega)
  have i13 := h.2.2 1 3 (by omega) (by omega) (by omega) (by omega)
  have i23 := h.2.2 2 3 (by omega) (by omega) (by omega) (by omega)
  refine ⟨a, b, c, d, ha, hb, hc, hd, ?_, ?_, ?_, ?_, ?_, ?_⟩
  · intro z; have := i01 (by omega); omega
  · intro z; have := i02 (by omega); omega
  · intro z; have := i12 (by omega); omega
  · intro z; have := i03 (by omega); omega
  · intro z; have := i13 (by omega); omega
  · intro z; have := i23 (by omega); omega
theorem dg3 {v q : Int → Int} (h : PRM 3 v q) (dq : ∀ k, 0 ≤ k → k < 3 → 0 ≤ q k ∧ q k < 4) : ∃ a b c : Fin 4, v 0 = ((a.val : Nat) : Int) ∧ v 1 = ((b.val : Nat) : Int) ∧ v 2 = ((c.val : Nat) : Int) ∧ a.val ≠ b.val ∧ c.val ≠ a.val ∧ c.val ≠ b.val := by
  have dv : ∀ k, 0 ≤ k → k < 3 → 0 ≤ v k ∧ v k < 4 := fun k a b => by
    obtain ⟨x, x0, x1, e⟩ := h.1 k a b
    rw [e]
    exact dq x x0 x1
  obtain ⟨a, ha⟩ := f4Q (dv 0 (by omega) (by omega)).1 (dv 0 (by omega) (by omega)).2
  obtain ⟨b, hb⟩ := f4Q (dv 1 (by omega) (by omega)).1 (dv 1 (by omega) (by omega)).2
  obtain ⟨c, hc⟩ := f4Q (dv 2 (by omega) (by omega)).1 (dv 2 (by omega) (by omega)).2
  have i01 := h.2.2 0 1 (by omega) (by omega) (by omega) (by omega)
  have i02 := h.2.2 0 2 (by omega) (by omega) (by omega) (by omega)
  have i12 := h.2.2 1 2 (by omega) (by omega) (by omega) (by omega)
  refine ⟨a, b, c, ha, hb, hc, ?_, ?_, ?_⟩
  · intro z; have := i01 (by omega); omega
  · intro z; have := i02 (by omega); omega
  · intro z; have := i12 (by omega); omega
theorem PRM_g {n : Int} {v g q : Int → Int} (h : PRM n v q) (hg : PRM n g q) {k : Int} (k0 : 0 ≤ k) (k1 : k < n) : ∃ k', 0 ≤ k' ∧ k' < n ∧ g k = v k' := by
  obtain ⟨x, x0, x1, e⟩ := hg.1 k k0 k1
  obtain ⟨y, y0, y1, e2⟩ := h.2.1 x x0 x1
  exact ⟨y, y0, y1, by rw [e, e2]⟩
theorem dg3g {v g q : Int → Int} (h : PRM 3 v q) (hg : PRM 3 g q) {a b c x : Fin 4} (h0 : v 0 = ((a.val : Nat) : Int)) (h1 : v 1 = ((b.val : Nat) : Int)) (h2 : v 2 = ((c.val : Nat) : Int)) {k : Int} (k0 : 0 ≤ k) (k1 : k < 3) (e : g k = ((x.val : Nat) : Int)) : x.val = a.val ∨ x.val = b.val ∨ x.val = c.val := by
  obtain ⟨y, y0, y1, e2⟩ := PRM_g h hg k0 k1
  rcases (show y = 0 ∨ y = 1 ∨ y = 2 by omega) with rfl | rfl | rfl <;> omega
/-- the next order: a is the last place where it rises, b the last one behind it that isn't less -/
def NXr (n : Int) (v v' : Int → Int) (a b : Int) : Prop := (0 ≤ a ∧ a < n - 1 ∧ v a ≤ v (a + 1) ∧ (∀ k, a + 1 ≤ k → k < n - 1 → v (k + 1) < v k) ∧ a < b ∧ b < n ∧ v a ≤ v b ∧ (∀ k, b < k → k < n → v k < v a)) ∧ ∀ k, 0 ≤ k → k < n → v' k = if k < a then v k else if k = a then v b else if a + n - k = b then v a else v (a + n - k)
theorem NX_p {n : Int} {v v' q : Int → Int} {a b : Int} (h : PRM n v q) (hx : NXr n v v' a b) : PRM n v' q := by
  obtain ⟨⟨a0, a1, -, -, b0, b1, -, -⟩, hv⟩ := hx
  refine PRM_inv (v := fun k => if k = a then v b else if k = b then v a else v k) (p := fun k => if k ≤ a then k else a + n - k) (PRM_inv (p := fun k => if k = a then b else if k = b then a else k) h (fun k k0 k1 => ?_) (fun k k0 k1 => ?_)) (fun k k0 k1 => ?_) (fun k k0 k1 => ?_)
  · by_cases c : k = a
    · rw [if_pos c, if_neg (by omega), if_pos rfl]
      omega
    · rw [if_neg c]
      by_cases d : k = b
      · rw [if_pos d, if_pos rfl]
        omega
      · rw [if_neg d, if_neg c, if_neg d]
        omega
  · by_cases c : k = a
    · rw [if_pos c, if_pos c]
    · rw [if_neg c, if_neg c]
      by_cases d : k = b
      · rw [if_pos d, if_pos d]
      · rw [if_neg d, if_neg d]
  · by_cases c : k ≤ a
    · rw [if_pos c, if_pos c]
      omega
    · rw [if_neg c, if_neg (by omega)]
      omega
  · rw [hv k k0 k1]
    by_cases c : k < a
    · rw [if_pos c, if_pos (show k ≤ a by omega), if_neg (by omega), if_neg (by omega)]
    · rw [if_neg c]
      by_cases d : k = a
      · rw [if_pos d, if_pos (show k ≤ a by omega), if_pos d]
      · rw [if_neg d, if_neg (show ¬ k ≤ a by omega), if_neg (show ¬ a + n - k = a by omega)]
theorem NX_up {n : Int} {v v' q : Int → Int} {a b : Int} (n4 : n ≤ 4) (h : PRM n v q) (dq : ∀ k, 0 ≤ k → k < n → 0 ≤ q k ∧ q k < 4) (hx : NXr n v v' a b) : rkQ n v + 1 ≤ rkQ n v' ∧ nuQ n v < nuQ n v' ∧ ∀ g, PRM n g q → nuQ n g ≤ nuQ n v ∨ nuQ n v' ≤ nuQ n g := by
  obtain ⟨⟨a0, a1, a2, a3, b0, b1, b2, b3⟩, hv⟩ := hx
  rcases (show n = 2 ∨ n = 3 ∨ n = 4 by omega) with rfl | rfl | rfl
  · have ea : a = 0 := by omega
    have eb : b = 1 := by omega
    subst ea; subst eb
    have w0 := hv 0 (by omega) (by omega)
    have w1 := hv 1 (by omega) (by omega)
    simp at w0 w1
    have hne := h.2.2 0 1 (by omega) (by omega) (by omega) (by omega)
    have lt : v 0 < v 1 := by
      rcases Int.lt_or_le (v 0) (v 1) with z | z
      · exact z
      · have := hne (by omega)
        omega
    refine ⟨?_, ?_, fun g hg => ?_⟩
    · unfold rkQ cI
      rw [w0, w1]
      simp
      rw [if_neg (by omega), if_pos lt]
      omega
    · unfold nuQ
      simp
      omega
    · obtain ⟨x, x0, x1, e0⟩ := PRM_g h hg (show (0 : Int) ≤ 0 by omega) (by omega)
      obtain ⟨y, y0, y1, e1⟩ := PRM_g h hg (show (0 : Int) ≤ 1 by omega) (by omega)
      have gne := hg.2.2 0 1 (by omega) (by omega) (by omega) (by omega)
      unfold nuQ
      simp
      rcases (show x = 0 ∨ x = 1 by omega) with rfl | rfl <;> rcases (show y = 0 ∨ y = 1 by omega) with rfl | rfl <;> omega
  · obtain ⟨y0, y1, y2, h0, h1, h2, d1, d2, d3⟩ := dg3 h dq
    have C := nx3 y0 y1 d1 y2 d2 d3
    have w0 := hv 0 (by omega) (by omega)
    have w1 := hv 1 (by omega) (by omega)
    have w2 := hv 2 (by omega) (by omega)
    have fin : ∀ z0 z1 z2 : Fin 4, v' 0 = ((z0.val : Nat) : Int) → v' 1 = ((z1.val : Nat) : Int) → v' 2 = ((z2.val : Nat) : Int) → ck3 y0.val y1.val y2.val z0.val z1.val z2.val → rkQ 3 v + 1 ≤ rkQ 3 v' ∧ nuQ 3 v < nuQ 3 v' ∧ ∀ g, PRM 3 g q → nuQ 3 g ≤ nuQ 3 v ∨ nuQ 3 v' ≤ nuQ 3 g := by
      intro z0 z1 z2 e0 e1 e2 ck
      obtain ⟨c1, c2, c3⟩ := ck
      rw [rk_3 h0 h1 h2, rk_3 e0 e1 e2, nu_3 h0 h1 h2, nu_3 e0 e1 e2]
      refine ⟨by omega, by omega, fun g hg => ?_⟩
      obtain ⟨x0, x1, x2, g0, g1, g2, f1, f2, f3⟩ := dg3 hg dq
      have := c3 x0 (dg3g h hg h0 h1 h2 (by omega) (by omega) g0) x1 (dg3g h hg h0 h1 h2 (by omega) (by omega) g1) f1 x2 (dg3g h hg h0 h1 h2 (by omega) (by omega) g2) f2 f3
      rw [nu_3 g0 g1 g2]
      omega
    rcases (show a = 0 ∨ a = 1 by omega) with rfl | rfl
    · have s1 := a3 1 (by omega) (by omega)
      simp at a2 s1
      rcases (show b = 1 ∨ b = 2 by omega) with rfl | rfl
      · have s2 := b3 2 (by omega) (by omega)
        simp at w0 w1 w2
        exact fin y1 y2 y0 (by omega) (by omega) (by omega) ((C.2 (by omega) (by omega)).2 (by omega))
      · simp at w0 w1 w2
        exact fin y2 y0 y1 (by omega) (by omega) (by omega) ((C.2 (by omega) (by omega)).1 (by omega))
    · have eb : b = 2 := by omega
      subst eb
      simp at a2 w0 w1 w2
      exact fin y0 y2 y1 (by omega) (by omega) (by omega) (C.1 (by omega))
  · obtain ⟨y0, y1, y2, y3, h0, h1, h2, h3, d1, d2, d3, d4, d5, d6⟩ := dg4 h dq
    have C := nx4 y0 y1 d1 y2 d2 d3 y3 d4 d5 d6
    have w0 := hv 0 (by omega) (by omega)
    have w1 := hv 1 (by omega) (by omega)
    have w2 := hv 2 (by omega) (by omega)
    have w3 := hv 3 (by omega) (by omega)
    have fin : ∀ z0 z1 z2 z3 : Fin 4, v' 0 = ((z0.val : Nat) : Int) → v' 1 = ((z1.val : Nat) : Int) → v' 2 = ((z2.val : Nat) : Int) → v' 3 = ((z3.val : Nat) : Int) → ck4 y0.val y1.val y2.val y3.val z0.val z1.val z2.val z3.val → rkQ 4 v + 1 ≤ rkQ 4 v' ∧ nuQ 4 v < nuQ 4 v' ∧ ∀ g, PRM 4 g q → nuQ 4 g ≤ nuQ 4 v ∨ nuQ 4 v' ≤ nuQ 4 g := by
      intro z0 z1 z2 z3 e0 e1 e2 e3 ck
      obtain ⟨c1, c2, c3⟩ := ck
      rw [rk_4 h0 h1 h2 h3, rk_4 e0 e1 e2 e3, nu_4 h0 h1 h2 h3, nu_4 e0 e1 e2 e3]
      refine ⟨by omega, by omega, fun g hg => ?_⟩
      obtain ⟨x0, x1, x2, x3, g0, g1, g2, g3, f1, f2, f3, f4, f5, f6⟩ := dg4 hg dq
      have := c3 x0 x1 f1 x2 f2 f3 x3 f4 f5 f6
      rw [nu_4 g0 g1 g2 g3]
      omega
    rcases (show a = 0 ∨ a = 1 ∨ a = 2 by omega) with rfl | rfl | rfl
    · have s1 := a3 1 (by omega) (by omega)
      have s2 := a3 2 (by omega) (by omega)
      simp at a2 s1 s2
      rcases (show b = 1 ∨ b = 2 ∨ b = 3 by omega) with rfl | rfl | rfl
      · have t2 := b3 2 (by omega) (by omega)
        simp at w0 w1 w2 w3
        exact fin y1 y3 y2 y0 (by omega) (by omega) (by omega) (by omega) ((C.2 (by omega) (by omega) (by omega)).2.2 (by omega))
      · have t3 := b3 3 (by omega) (by omega)
        simp at w0 w1 w2 w3
        exact fin y2 y3 y0 y1 (by omega) (by omega) (by omega) (by omega) ((C.2 (by omega) (by omega) (by omega)).2.1 (by omega) (by omega))
      · simp at w0 w1 w2 w3
        exact fin y3 y0 y2 y1 (by omega) (by omega) (by omega) (by omega) ((C.2 (by omega) (by omega) (by omega)).1 (by omega))
    · have s2 := a3 2 (by omega) (by omega)
      simp at a2 s2
      rcases (show b = 2 ∨ b = 3 by omega) with rfl | rfl
      · have t3 := b3 3 (by omega) (by omega)
        simp at w0 w1 w2 w3
        exact fin y0 y2 y3 y1 (by omega) (by omega) (by omega) (by omega) ((C.1.2 (by omega) (by omega)).2 (by omega))
      · simp at w0 w1 w2 w3
        exact fin y0 y3 y1 y2 (by omega) (by omega) (by omega) (by omega) ((C.1.2 (by omega) (by omega)).1 (by omega))
    · have eb : b = 3 := by omega
      subst eb
      simp at a2 w0 w1 w2 w3
      exact fin y0 y1 y3 y2 (by omega) (by omega) (by omega) (by omega) (C.1.1 (by omega))
/-- those that have the first f places alike -/
theorem DS_g {n f : Int} {v g q : Int → Int} (n4 : n ≤ 4) (f0 : 0 ≤ f) (h : PRM n v q) (hg : PRM n g q) (dq : ∀ k, 0 ≤ k → k < n → 0 ≤ q k ∧ q k < 4) (hf : ∀ k, 0 ≤ k → k < f → k < n → g k = v k) : ((∀ k, f ≤ k → k < n - 1 → v (k + 1) < v k) → nuQ n g ≤ nuQ n v) ∧ ((∀ k, f ≤ k → k < n - 1 → v k < v (k + 1)) → nuQ n v ≤ nuQ n g) := by
  have r0 := hf 0 (by omega)
  have r1 := hf 1 (by omega)
  have r2 := hf 2 (by omega)
  have r3 := hf 3 (by omega)
  rcases (show n ≤ 0 ∨ n = 1 ∨ n = 2 ∨ n = 3 ∨ n = 4 by omega) with z | rfl | rfl | rfl | rfl
  · have e : nuQ n g = nuQ n v := by
      unfold nuQ
      rw [if_neg (by omega), if_neg (by omega), if_neg (by omega), if_neg (by omega), if_neg (by omega), if_neg (by omega), if_neg (by omega), if_neg (by omega)]
    rw [e]
    exact ⟨fun _ => Int.le_refl _, fun _ => Int.le_refl _⟩
  · obtain ⟨x, x0, x1, e0⟩ := PRM_g h hg (show (0 : Int) ≤ 0 by omega) (by omega)
    rw [show x = 0 by omega] at e0
    unfold nuQ
    simp
    omega
  · obtain ⟨x, x0, x1, e0⟩ := PRM_g h hg (show (0 : Int) ≤ 0 by omega) (by omega)
    obtain ⟨y, y0, y1, e1⟩ := PRM_g h hg (show (0 : Int) ≤ 1 by omega) (by omega)
    have gne := hg.2.2 0 1 (by omega) (by omega) (by omega) (by omega)
    unfold nuQ
    simp
    by_cases c : f ≤ 0
    · refine ⟨fun s => ?_, fun s => ?_⟩
      · have s0 := s 0 c (by omega)
        simp at s0
        rcases (show x = 0 ∨ x = 1 by omega) with rfl | rfl <;> rcases (show y = 0 ∨ y = 1 by omega) with rfl | rfl <;> omega
      · have s0 := s 0 c (by omega)
        simp at s0
        rcases (show x = 0 ∨ x = 1 by omega) with rfl | rfl <;> rcases (show y = 0 ∨ y = 1 by omega) with rfl | rfl <;> omega
    · have r0 := r0 (by omega) (by omega)
      rcases (show x = 0 ∨ x = 1 by omega) with rfl | rfl <;> rcases (show y = 0 ∨ y = 1 by omega) with rfl | rfl <;> omega
  · obtain ⟨y0, y1, y2, h0, h1, h2, d1, d2, d3⟩ := dg3 h dq
    obtain ⟨x0, x1, x2, g0, g1, g2, e1, e2, e3⟩ := dg3 hg dq
    have C := nd3 y0 y1 d1 y2 d2 d3 x0 (dg3g h hg h0 h1 h2 (by omega) (by omega) g0) x1 (dg3g h hg h0 h1 h2 (by omega) (by omega) g1) e1 x2 (dg3g h hg h0 h1 h2 (by omega) (by omega) g2) e2 e3
    obtain ⟨c1, c2, c3, c4, c5⟩ := C
    rw [nu_3 h0 h1 h2, nu_3 g0 g1 g2]
    by_cases z0 : f ≤ 0
    · refine ⟨fun s => ?_, fun s => ?_⟩
      · have s0 := s 0 z0 (by omega)
        have s1 := s 1 (by omega) (by omega)
        simp at s0 s1
        have := c1 (by omega) (by omega)
        omega
      · have s0 := s 0 z0 (by omega)
        have s1 := s 1 (by omega) (by omega)
        simp at s0 s1
        have := c3 (by omega) (by omega)
        omega
    · have r0 := r0 (by omega) (by omega)
      by_cases z1 : f ≤ 1
      · refine ⟨fun s => ?_, fun s => ?_⟩
        · have s1 := s 1 (by omega) (by omega)
          simp at s1
          have := c2 (by omega) (by omega)
          omega
        · have s1 := s 1 (by omega) (by omega)
          simp at s1
          have := c4 (by omega) (by omega)
          omega
      · have r1 := r1 (by omega) (by omega)
        have := c5 (by omega) (by omega)
        have a0 : x0.val = y0.val := by omega
        have a1 : x1.val = y1.val := by omega
        rw [a0, a1, this]
        exact ⟨fun _ => Int.le_refl _, fun _ => Int.le_refl _⟩
  · obtain ⟨y0, y1, y2, y3, h0, h1, h2, h3, d1, d2, d3, d4, d5, d6⟩ := dg4 h dq
    obtain ⟨x0, x1, x2, x3, g0, g1, g2, g3, e1, e2, e3, e4, e5, e6⟩ := dg4 hg dq
    have C := nd4 y0 y1 d1 y2 d2 d3 y3 d4 d5 d6 x0 x1 e1 x2 e2 e3 x3 e4 e5 e6
    obtain ⟨c1, c2, c3, c4, c5, c6, c7⟩ := C
    rw [nu_4 h0 h1 h2 h3, nu_4 g0 g1 g2 g3]
    by_cases z0 : f ≤ 0
    · refine ⟨fun s => ?_, fun s => ?_⟩
      · have s0 := s 0 z0 (by omega)
        have s1 := s 1 (by omega) (by omega)
        have s2 := s 2 (by omega) (by omega)
        simp at s0 s1 s2
        have := c1 (by omega) (by omega) (by omega)
        omega
      · have s0 := s 0 z0 (by omega)
        have s1 := s 1 (by omega) (by omega)
        have s2 := s 2 (by omega) (by omega)
        simp at s0 s1 s2
        have := c4 (by omega) (by omega) (by omega)
        omega
    · have r0 := r0 (by omega) (by omega)
      by_cases z1 : f ≤ 1
      · refine ⟨fun s => ?_, fun s => ?_⟩
        · have s1 := s 1 (by omega) (by omega)
          have s2 := s 2 (by omega) (by omega)
          simp at s1 s2
          have := c2 (by omega) (by omega) (by omega)
          omega
        · have s1 := s 1 (by omega) (by omega)
          have s2 := s 2 (by omega) (by omega)
          simp at s1 s2
          have := c5 (by omega) (by omega) (by omega)
          omega
      · have r1 := r1 (by omega) (by omega)
        by_cases z2 : f ≤ 2
        · refine ⟨fun s => ?_, fun s => ?_⟩
          · have s2 := s 2 (by omega) (by omega)
            simp at s2
            have := c3 (by omega) (by omega) (by omega)
            omega
          · have s2 := s 2 (by omega) (by omega)
            simp at s2
            have := c6 (by omega) (by omega) (by omega)
            omega
        · have r2 := r2 (by omega) (by omega)
          have := c7 (by omega) (by omega) (by omega)
          have a0 : x0.val = y0.val := by omega
          have a1 : x1.val = y1.val := by omega
          have a2 : x2.val = y2.val := by omega
          rw [a0, a1, a2, this]
          exact ⟨fun _ => Int.le_refl _, fun _ => Int.le_refl _⟩
