/-! the reference's bound of a machine -/
def oj (σ : Mem) (m k : Int) : Int := opF (rMc σ) (rSt σ k) k m
theorem oj_v {σ : Mem} (h : rWF σ) {m k : Int} (k0 : 0 ≤ k) (k1 : k < 4) : (oj σ m k = -6 ∧ ∀ o, rOp σ o → o / 4 = k → rMc σ o ≠ m) ∨ (0 ≤ oj σ m k ∧ rOp σ (oj σ m k) ∧ rMc σ (oj σ m k) = m ∧ oj σ m k / 4 = k) := by
  have hs := rSt_r h k0 k1
  by_cases c : ∃ s, 0 ≤ s ∧ s < rSt σ k ∧ rMc σ (4 * k + s) = m
  · obtain ⟨s, s0, s1, s2⟩ := c
    have := opF_is (f := rMc σ) (n := rSt σ k) (j := k) (m := m) s0 s1 hs.2 s2
    have v := rOp_i (s := oj σ m k - 4 * k) k0 k1 (by unfold oj; omega) (by unfold oj; omega) hs.2
    rw [show 4 * k + (oj σ m k - 4 * k) = oj σ m k by omega] at v
    exact Or.inr ⟨v.1, v, this.2.2, by unfold oj; omega⟩
  · refine Or.inl ⟨opF_no (fun s a b e => c ⟨s, a, b, e⟩), fun o v e z => c ⟨o % 4, ?_, ?_, ?_⟩⟩
    · omega
    · have := v.2.2
      rw [e] at this
      exact this
    · rw [← e, show 4 * (o / 4) + o % 4 = o by omega]
      exact z
theorem oj_of {σ : Mem} (h : rWF σ) {o : Int} (v : rOp σ o) : oj σ (rMc σ o) (o / 4) = o := by
  have s := rOp_s h v
  rcases oj_v h (m := rMc σ o) (k := o / 4) s.1 s.2.1 with ⟨-, a⟩ | ⟨a, b, c, d⟩
  · exact absurd rfl (a o v rfl)
  · exact h.1.2.2.2.1 _ _ b v d c
def je (σ : Mem) (m k : Int) : Prop := 0 ≤ oj σ m k
def jp (σ : Mem) (m k : Int) : Int := rDu σ (oj σ m k)
def jr (σ : Mem) (m k : Int) : Int := rhA σ (oj σ m k)
def jq (σ : Mem) (m k : Int) : Int := rtA σ (oj σ m k)
/-- what is left of the job k -/
def jl (σ σ' : Mem) (m k : Int) : Int := if 0 ≤ oj σ m k then σ' 53 0 (oj σ m k) else 0
def p53 (t a : Nat) (_x : Int) : Prop := t = 53 ∧ a = 0
theorem p53_r {σ σ' : Mem} (h : FrG p53 σ σ') : σ' 38 0 = σ 38 0 := h.f 38 0 (by rintro x ⟨q, -⟩; omega)
theorem jav_i {σ σ' : Mem} (hw : rWF σ) (hF : FrG p53 σ σ') {m t o : Int} : rav σ' m t o ↔ rOp σ o ∧ rMc σ o = m ∧ jav (je σ m) (jr σ m) (jl σ σ' m) t (o / 4) := by
  have e := p53_r hF
  have e1 : rOp σ' o ↔ rOp σ o := by unfold rOp rSt; rw [e]
  have e2 : rMc σ' o = rMc σ o := by unfold rMc; rw [e]
  have e3 : rhA σ' o = rhA σ o := by unfold rhA rRe rDu; rw [e]
  unfold rav
  rw [e1, e2, e3]
  constructor
  · rintro ⟨v, hm, h1, h2⟩
    have ho := oj_of hw v
    rw [hm] at ho
    refine ⟨v, hm, ?_, ?_, ?_⟩
    · show 0 ≤ oj σ m (o / 4)
      rw [ho]; exact v.1
    · unfold jl
      rw [ho, if_pos v.1]; exact h1
    · unfold jr
      rw [ho]; exact h2
  · rintro ⟨v, hm, h0, h1, h2⟩
    have ho := oj_of hw v
    rw [hm] at ho
    unfold jl at h1
    unfold jr at h2
    rw [ho] at h1 h2
    rw [if_pos v.1] at h1
    exact ⟨v, hm, h1, h2⟩
theorem WkI_C {σ σ' : Mem} (hw : rWF σ) (hF : FrG p53 σ σ') {m t r : Int} (h : WkI σ' m t 16 r) : isC (je σ m) (jr σ m) (jq σ m) (jl σ σ' m) t (if r < 0 then -6 else r / 4) ∧ (0 ≤ r → rOp σ r ∧ rMc σ r = m ∧ oj σ m (r / 4) = r) := by
  have e := p53_r hF
  have e4 : ∀ o, rtA σ' o = rtA σ o := fun o => by unfold rtA rDu rSt; rw [e]
  have key : ∀ k, 0 ≤ k → k < 4 → jav (je σ m) (jr σ m) (jl σ σ' m) t k → rav σ' m t (oj σ m k) ∧ oj σ m k / 4 = k ∧ oj σ m k < 16 := fun k k0 k1 hj => by
    rcases oj_v hw (m := m) k0 k1 with ⟨a, -⟩ | ⟨a, b, c, d⟩
    · have := hj.1
      unfold je at this
      omega
    · exact ⟨(jav_i hw hF).mpr ⟨b, c, by rw [d]; exact hj⟩, d, b.2.1⟩
  rcases h with ⟨a, b⟩ | ⟨a, b, c, d, f⟩
  · refine ⟨Or.inl ⟨by rw [if_pos (by omega)], fun k k0 k1 hj => ?_⟩, fun z => by omega⟩
    obtain ⟨x1, x2, x3⟩ := key k k0 k1 hj
    exact b _ x3 x1
  · obtain ⟨v, hm, hj⟩ := (jav_i hw hF).mp c
    have ho := oj_of hw v
    rw [hm] at ho
    have s := rOp_s hw v
    rw [if_neg (by omega)]
    refine ⟨Or.inr ⟨s.1, s.2.1, hj, fun k k0 k1 hk => ?_, fun k k0 k1 hk => ?_⟩, fun _ => ⟨v, hm, ho⟩⟩
    · obtain ⟨x1, x2, x3⟩ := key k k0 k1 hk
      have := d _ x3 x1
      rw [e4, e4] at this
      unfold jq
      rw [ho]
      exact this
    · obtain ⟨x1, x2, x3⟩ := key k k0 (by omega) hk
      have := f _ (by omega) x1
      rw [e4, e4] at this
      unfold jq
      rw [ho]
      exact this
/-- so many jobs -/
theorem inq_ct {q : Int → Int} {b : Int} : ∀ c : Nat, oOK q b c → b2i (inq q b c 0) + b2i (inq q b c 1) + b2i (inq q b c 2) + b2i (inq q b c 3) = c := by
  intro c
  induction c with
  | zero =>
    intro _
    have z : ∀ x, ¬ inq q b ((0 : Nat) : Int) x := fun x ⟨i, a, d, _⟩ => by omega
    rw [b2i_0 (z 0), b2i_0 (z 1), b2i_0 (z 2), b2i_0 (z 3)]
    rfl
  | succ c ih =>
    intro h
    obtain ⟨h0, h1, h2, h3⟩ := h
    have i1 := ih ⟨by omega, by omega, fun k a d => h2 k a (by omega), fun k k' a d e => h3 k k' a d (by omega)⟩
    have hv := h2 c (by omega) (by omega)
    have hn : ¬ inq q b c (q (b + c)) := fun ⟨i, a, d, e⟩ => h3 i c a d (by omega) e
    rw [show ((c + 1 : Nat) : Int) = (c : Int) + 1 by omega]
    have st : ∀ x, x ≠ q (b + c) → b2i (inq q b (c + 1) x) = b2i (inq q b c x) := fun x hx => by
      by_cases z : inq q b c x
      · rw [b2i_1 z, b2i_1 ((inq_s (by omega)).mpr (Or.inl z))]
      · rw [b2i_0 z, b2i_0 (fun y => ((inq_s (by omega)).mp y).elim z hx)]
    have s1 : b2i (inq q b (c + 1) (q (b + c))) = 1 := b2i_1 ((inq_s (by omega)).mpr (Or.inr rfl))
    have s0 : b2i (inq q b c (q (b + c))) = 0 := b2i_0 hn
    rcases (show q (b + c) = 0 ∨ q (b + c) = 1 ∨ q (b + c) = 2 ∨ q (b + c) = 3 by omega) with e | e | e | e <;> rw [e] at s0 s1 st
    · have := st 1 (by omega)
      have := st 2 (by omega)
      have := st 3 (by omega)
      omega
    · have := st 0 (by omega)
      have := st 2 (by omega)
      have := st 3 (by omega)
      omega
    · have := st 0 (by omega)
      have := st 1 (by omega)
      have := st 3 (by omega)
      omega
    · have := st 0 (by omega)
      have := st 1 (by omega)
      have := st 2 (by omega)
      omega
theorem je_ct {σ : Mem} (hw : rWF σ) {m : Int} (m0 : 0 ≤ m) (m1 : m < 4) : b2i (je σ m 0) + b2i (je σ m 1) + b2i (je σ m 2) + b2i (je σ m 3) = rLn σ m := by
  have h := hw.1
  have hl := h.2.2.2.2.1 m m0 m1
  have hq := fun k (a : 0 ≤ k) (b : k < rLn σ m) => h.2.2.2.2.2.1 m k m0 m1 a b
  have ho : oOK (rQ σ) (4 * m) (rLn σ m) := ⟨hl.1, hl.2, fun k a b => ⟨(hq k a b).1, (hq k a b).2.1⟩, fun k k' a b c e => by
    have := h.2.2.2.2.2.2.1 m k k' m0 m1 a (by omega) (by omega) c e
    omega⟩
  have hi : ∀ k, 0 ≤ k → k < 4 → (je σ m k ↔ inq (rQ σ) (4 * m) (rLn σ m) k) := fun k k0 k1 => by
    constructor
    · intro hj
      rcases oj_v hw (m := m) k0 k1 with ⟨a, -⟩ | ⟨a, b, c, d⟩
      · unfold je at hj
        omega
      · obtain ⟨p, p0, p1, p2⟩ := h.2.2.2.2.2.2.2 _ b
        rw [c] at p1 p2
        exact ⟨p, p0, p1, by rw [p2, d]⟩
    · rintro ⟨p, p0, p1, p2⟩
      obtain ⟨-, -, o, v, e1, e2⟩ := hq p p0 p1
      have := oj_of hw v
      rw [e2, e1, p2] at this
      show 0 ≤ oj σ m k
      rw [this]
      exact v.1
  have e := inq_ct (q := rQ σ) (b := 4 * m) (rLn σ m).toNat (by rw [show (((rLn σ m).toNat : Nat) : Int) = rLn σ m by omega]; exact ho)
  rw [show (((rLn σ m).toNat : Nat) : Int) = rLn σ m by omega] at e
  have f : ∀ k, 0 ≤ k → k < 4 → b2i (je σ m k) = b2i (inq (rQ σ) (4 * m) (rLn σ m) k) := fun k k0 k1 => by
    by_cases z : inq (rQ σ) (4 * m) (rLn σ m) k
    · rw [b2i_1 z, b2i_1 ((hi k k0 k1).mpr z)]
    · rw [b2i_0 z, b2i_0 (fun y => z ((hi k k0 k1).mp y))]
  rw [f 0 (by omega) (by omega), f 1 (by omega) (by omega), f 2 (by omega) (by omega), f 3 (by omega) (by omega)]
  exact e
