/-! the reference's bound of a machine -/
def oj (σ : Mem) (m k : Int) : Int := opF (rMc σ) (rSt σ k) k m
def je (σ : Mem) (m k : Int) : Prop := 0 ≤ oj σ m k
def jp (σ : Mem) (m k : Int) : Int := rDu σ (oj σ m k)
/-- what is left of the job k -/
def jl (σ σ' : Mem) (m k : Int) : Int := if 0 ≤ oj σ m k then σ' 53 0 (oj σ m k) else 0
def p53 (t a : Nat) (_x : Int) : Prop := t = 53 ∧ a = 0
theorem p53_r {σ σ' : Mem} (h : FrG p53 σ σ') : σ' 38 0 = σ 38 0 := h.f 38 0 (by rintro x ⟨q, -⟩; omega)
/-- so many jobs -/
theorem inq_ct {q : Int → Int} {b : Int} : ∀ c : Nat, oOK q b c → b2i (inq q b c 0) + b2i (inq q b c 1) + b2i (inq q b c 2) + b2i (inq q b c 3) = c := by
  intro c
  induction c with
  | zero =>
    intro _
    have z : ∀ x, ¬ inq q b ((0 : Nat) : Int) x := fun x ⟨i, a, d, _⟩ => by omega
    rw [b2i_0 (z 0), b2i_0 (z 1), b2i_0 (z 2), b2i_0 (z 3)]
    rfl
  | succ c ih =>
    intro h
    obtain ⟨h0, h1, h2, h3⟩ := h
    have i1 := ih ⟨by omega, by omega, fun k a d => h2 k a (by omega), fun k k' a d e => h3 k k' a d (by omega)⟩
    have hv := h2 c (by omega) (by omega)
    have hn : ¬ inq q b c (q (b + c)) := fun ⟨i, a, d, e⟩ => h3 i c a d (by omega) e
    rw [show ((c + 1 : Nat) : Int) = (c : Int) + 1 by omega]
    have st : ∀ x, x ≠ q (b + c) → b2i (inq q b (c + 1) x) = b2i (inq q b c x) := fun x hx => by
      by_cases z : inq q b c x
      · rw [b2i_1 z, b2i_1 ((inq_s (by omega)).mpr (Or.inl z))]
      · rw [b2i_0 z, b2i_0 (fun y => ((inq_s (by omega)).mp y).elim z hx)]
    have s1 : b2i (inq q b (c + 1) (q (b + c))) = 1 := b2i_1 ((inq_s (by omega)).mpr (Or.inr rfl))
    have s0 : b2i (inq q b c (q (b + c))) = 0 := b2i_0 hn
    rcases (show q (b + c) = 0 ∨ q (b + c) = 1 ∨ q (b + c) = 2 ∨ q (b + c) = 3 by omega) with e | e | e | e <;> rw [e] at s0 s1 st
    · have := st 1 (by omega)
      have := st 2 (by omega)
      have := st 3 (by omega)
      omega
    · have := st 0 (by omega)
      have := st 2 (by omega)
      have := st 3 (by omega)
      omega
    · have := st 0 (by omega)
      have := st 1 (by omega)
      have := st 3 (by omega)
      omega
    · have := st 0 (by omega)
      have := st 1 (by omega)
      have := st 2 (by omega)
      omega
