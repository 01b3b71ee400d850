/-! heads and tails by the routes alone -/
def rhA (σ : Mem) (o : Int) : Int := rRe σ (o / 4) + wF (rDu σ) (4 * (o / 4)) (o % 4)
def rtA (σ : Mem) (o : Int) : Int := wF (rDu σ) (o + 1) (rSt σ (o / 4) - o % 4 - 1)
theorem wFd_r {σ : Mem} (h : rWF σ) {j a : Int} (j0 : 0 ≤ j) (j1 : j < 4) (a0 : 0 ≤ a) : ∀ n : Nat, a + n ≤ rSt σ j → 0 ≤ wF (rDu σ) (4 * j + a) n ∧ wF (rDu σ) (4 * j + a) n ≤ 20 * n := by
  have hs := rSt_r h j0 j1
  intro n
  induction n with
  | zero => intro _; rw [show ((0 : Nat) : Int) = 0 from rfl, wF_0]; omega
  | succ n ih =>
    intro q
    have i1 := ih (by omega)
    rw [show ((n + 1 : Nat) : Int) = (n : Int) + 1 by omega, wF_s _ _ _ (by omega) (by omega)]
    have b := rWF_op h (rOp_i j0 j1 (show 0 ≤ a + (n : Int) by omega) (by omega) hs.2)
    rw [show 4 * j + (a + (n : Int)) = 4 * j + a + n by omega] at b
    omega
theorem rOp_s {σ : Mem} (h : rWF σ) {o : Int} (v : rOp σ o) : 0 ≤ o / 4 ∧ o / 4 < 4 ∧ 0 ≤ o % 4 ∧ o % 4 < rSt σ (o / 4) ∧ rSt σ (o / 4) ≤ 4 ∧ o / 4 < σ 38 0 0 ∧ 0 ≤ o ∧ o < 16 ∧ o = 4 * (o / 4) + o % 4 := by
  have v0 := v.1
  have v1 := v.2.1
  have v2 := v.2.2
  have := rSt_r h (j := o / 4) (by omega) (by omega)
  have := (rWF_op h v).2.2.2.2.1
  exact ⟨by omega, by omega, by omega, v2, by omega, by omega, v0, v1, by omega⟩
theorem rhA_r {σ : Mem} (h : rWF σ) {o : Int} (v : rOp σ o) : 0 ≤ rhA σ o ∧ rhA σ o ≤ 130 ∧ 0 ≤ rtA σ o ∧ rtA σ o ≤ 80 := by
  have s := rOp_s h v
  have b := rWF_op h v
  have a := wFd_r h s.1 s.2.1 (a := 0) (by omega) (o % 4).toNat (by omega)
  have c := wFd_r h s.1 s.2.1 (a := o % 4 + 1) (by omega) (rSt σ (o / 4) - o % 4 - 1).toNat (by omega)
  rw [Int.add_zero, show (((o % 4).toNat : Nat) : Int) = o % 4 by omega] at a
  rw [show (((rSt σ (o / 4) - o % 4 - 1).toNat : Nat) : Int) = rSt σ (o / 4) - o % 4 - 1 by omega, show 4 * (o / 4) + (o % 4 + 1) = o + 1 by omega] at c
  unfold rhA rtA
  omega
/-- the machine m may work on o at the time t -/
def rav (σ : Mem) (m t o : Int) : Prop := rOp σ o ∧ rMc σ o = m ∧ 0 < σ 53 0 o ∧ rhA σ o ≤ t
/-- what it works on, of the first x operations -/
def WkI (σ : Mem) (m t x r : Int) : Prop := (r = -6 ∧ ∀ o, o < x → ¬ rav σ m t o) ∨ (0 ≤ r ∧ r < x ∧ rav σ m t r ∧ (∀ o, o < x → rav σ m t o → rtA σ o ≤ rtA σ r) ∧ ∀ o, o < r → rav σ m t o → rtA σ o < rtA σ r)
theorem WkI_0 {σ : Mem} {m t : Int} : WkI σ m t 0 (-6) := Or.inl ⟨rfl, fun o q v => by have := v.1.1; omega⟩
theorem WkI_n {σ : Mem} {m t x r : Int} (h : WkI σ m t x r) (hn : ¬ rav σ m t x) : WkI σ m t (x + 1) r := by
  rcases h with ⟨a, b⟩ | ⟨a, b, c, d, e⟩
  · refine Or.inl ⟨a, fun o q => ?_⟩
    by_cases z : o = x
    · rw [z]; exact hn
    · exact b o (by omega)
  · refine Or.inr ⟨a, by omega, c, fun o q v => ?_, e⟩
    by_cases z : o = x
    · rw [z] at v; exact absurd v hn
    · exact d o (by omega) v
theorem WkI_y {σ : Mem} {m t x r : Int} (h : WkI σ m t x r) (hv : rav σ m t x) (x0 : 0 ≤ x) (hb : r < 0 ∨ rtA σ r < rtA σ x) : WkI σ m t (x + 1) x := by
  have hl : ∀ o, o < x → rav σ m t o → rtA σ o < rtA σ x := fun o q v => by
    rcases h with ⟨a, b⟩ | ⟨a, b, c, d, e⟩
    · exact absurd v (b o q)
    · have := d o q v
      omega
  refine Or.inr ⟨x0, by omega, hv, fun o q v => ?_, hl⟩
  by_cases z : o = x
  · rw [z]; exact Int.le_refl _
  · have := hl o (by omega) v
    omega
theorem WkI_k {σ : Mem} {m t x r : Int} (h : WkI σ m t x r) (hb : ¬ r < 0) (hl : ¬ rtA σ r < rtA σ x) : WkI σ m t (x + 1) r := by
  rcases h with ⟨a, b⟩ | ⟨a, b, c, d, e⟩
  · omega
  · refine Or.inr ⟨a, by omega, c, fun o q v => ?_, e⟩
    by_cases z : o = x
    · rw [z]; omega
    · exact d o (by omega) v
theorem WkI_r {σ : Mem} {m t x r : Int} (h : WkI σ m t x r) : r = -6 ∨ (0 ≤ r ∧ rOp σ r) := by
  rcases h with ⟨a, b⟩ | ⟨a, b, c, d, e⟩
  · exact Or.inl a
  · exact Or.inr ⟨a, c.1⟩
def T_X7_isOperation2 : Tr := fun a σ K => match a with
  | [.inr (.inl (7, 0)), .inl x] => rWF σ ∧ (rOp σ x → K (some 1) σ) ∧ (¬ rOp σ x → K (some 0) σ)
  | _ => False
theorem m_X7_isOperation2 : ∀ a σ K, T_X7_isOperation2 a σ K → T_X7_isOperation a σ K := by
  intro a σ K h
  unfold T_X7_isOperation2 at h
  unfold T_X7_isOperation
  split at h
  · rename_i x
    obtain ⟨p, h1, h0⟩ := h
    refine ⟨p.1.1.2, ?_⟩
    have hc := rOp_if p x
    by_cases z : rOp σ x
    · rw [if_pos (hc.mpr z)]
      exact h1 z
    · rw [if_neg (fun y => z (hc.mp y))]
      exact h0 z
  · exact h.elim
