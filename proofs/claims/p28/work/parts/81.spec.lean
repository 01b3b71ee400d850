/-! what a text says -/
noncomputable def cif {α : Type} (p : Prop) (a b : α) : α := @ite _ p (Classical.propDecidable p) a b
theorem cif_1 {α : Type} {p : Prop} {a b : α} (h : p) : cif p a b = a := by
  unfold cif
  rw [if_pos h]
theorem cif_0 {α : Type} {p : Prop} {a b : α} (h : ¬ p) : cif p a b = b := by
  unfold cif
  rw [if_neg h]
/-- the machine d stands among the first c operations of the row R -/
def dup (R : Int → Int) (c d : Int) : Prop := ∃ i, 0 ≤ i ∧ i < c ∧ R (3 + 2 * i) = d
/-- an operation, behind its comma: whether it is wrong, where it ends, machine, duration -/
noncomputable def op1 (tx : Int → Int) (n : Int) (R : Int → Int) (c b : Int) : Int × Int × Int × Int := cif (dg tx n b < 0 ∨ 4 ≤ dg tx n b ∨ dup R c (dg tx n b)) (1, b, 0, 0) (cif (nx tx n (b + 1) ≠ 42) (1, b + 1, 0, 0) (cif ((numS tx n 1 20 (b + 2)).2.2 ≠ 0) (1, (numS tx n 1 20 (b + 2)).2.1, 0, 0) (0, (numS tx n 1 20 (b + 2)).2.1, dg tx n b, (numS tx n 1 20 (b + 2)).1)))
def uR (R : Int → Int) (c d v : Int) : Int → Int := fun x => if x = 2 then c + 1 else if x = 3 + 2 * c then d else if x = 4 + 2 * c then v else R x
/-- the operations of a job: whether something is wrong, where it ends, the row -/
noncomputable def opsS (tx : Int → Int) (n : Int) : Nat → Int → Int → (Int → Int) → Int × Int × (Int → Int)
  | 0, _, a, R => (0, a, R)
  | f + 1, c, a, R => cif (nx tx n a = 44 ∧ c < 4) (cif ((op1 tx n R c (a + 1)).1 ≠ 0) (1, (op1 tx n R c (a + 1)).2.1, R) (opsS tx n f (c + 1) (op1 tx n R c (a + 1)).2.1 (uR R c (op1 tx n R c (a + 1)).2.2.1 (op1 tx n R c (a + 1)).2.2.2))) (0, a, R)
def hdR (r d : Int) : Int → Int := fun x => if x = 0 then r else if x = 1 then d else 0
/-- a job -/
noncomputable def jobS (tx : Int → Int) (n a : Int) : Int × Int × (Int → Int) := cif (nx tx n a ≠ 114) (1, a, fun _ => 0) (cif ((numS tx n 0 50 (a + 1)).2.2 ≠ 0) (1, (numS tx n 0 50 (a + 1)).2.1, fun _ => 0) (cif (nx tx n (numS tx n 0 50 (a + 1)).2.1 ≠ 100) (1, (numS tx n 0 50 (a + 1)).2.1, fun _ => 0) (cif ((numS tx n 0 200 ((numS tx n 0 50 (a + 1)).2.1 + 1)).2.2 ≠ 0) (1, (numS tx n 0 200 ((numS tx n 0 50 (a + 1)).2.1 + 1)).2.1, fun _ => 0) (opsS tx n 5 0 (numS tx n 0 200 ((numS tx n 0 50 (a + 1)).2.1 + 1)).2.1 (hdR (numS tx n 0 50 (a + 1)).1 (numS tx n 0 200 ((numS tx n 0 50 (a + 1)).2.1 + 1)).1)))))
def uJ (Rs : Int → Int) (j : Int) (R : Int → Int) : Int → Int := fun x => if 11 * j ≤ x ∧ x < 11 * j + 11 then R (x - 11 * j) else Rs x
/-- routes: whether something is wrong, where it ends, how many jobs, the rows -/
noncomputable def rtsS (tx : Int → Int) (n : Int) : Nat → Int → Int → (Int → Int) → Int × Int × Int × (Int → Int)
  | 0, j, a, Rs => (0, a, j, Rs)
  | f + 1, j, a, Rs => cif ((jobS tx n a).1 ≠ 0) (1, (jobS tx n a).2.1, j, Rs) (cif (nx tx n (jobS tx n a).2.1 = 59 ∧ j + 1 < 4) (rtsS tx n f (j + 1) ((jobS tx n a).2.1 + 1) (uJ Rs j (jobS tx n a).2.2)) (0, (jobS tx n a).2.1, j + 1, uJ Rs j (jobS tx n a).2.2))
noncomputable def rtsF (tx : Int → Int) (n : Int) : Int := cif ((rtsS tx n 4 0 0 (fun _ => 0)).1 ≠ 0 ∨ (rtsS tx n 4 0 0 (fun _ => 0)).2.1 ≠ n) (rtsS tx n 4 0 0 (fun _ => 0)).2.1 (-6)
theorem nx_lt {tx : Int → Int} {n a c : Int} (h : nx tx n a = c) (hc : c ≠ 0) : a < n := by
  unfold nx at h
  split at h
  · assumption
  · exact absurd h.symm hc
theorem op1_r (tx : Int → Int) {n : Int} {R : Int → Int} {c b : Int} (hb : b ≤ n) : b ≤ (op1 tx n R c b).2.1 ∧ (op1 tx n R c b).2.1 ≤ n ∧ ((op1 tx n R c b).1 = 0 ∨ (op1 tx n R c b).1 = 1) ∧ ((op1 tx n R c b).1 = 0 → 0 ≤ (op1 tx n R c b).2.2.1 ∧ (op1 tx n R c b).2.2.1 < 4 ∧ ¬ dup R c (op1 tx n R c b).2.2.1 ∧ 1 ≤ (op1 tx n R c b).2.2.2 ∧ (op1 tx n R c b).2.2.2 ≤ 20) := by
  unfold op1
  by_cases c1 : dg tx n b < 0 ∨ 4 ≤ dg tx n b ∨ dup R c (dg tx n b)
  · rw [cif_1 c1]
    exact ⟨Int.le_refl _, hb, Or.inr rfl, fun q => absurd q (by show ¬ (1 : Int) = 0; omega)⟩
  · rw [cif_0 c1]
    have hd := dg_r tx n b
    have hd0 : 0 ≤ dg tx n b ∧ dg tx n b < 4 ∧ b < n := by
      refine ⟨?_, ?_, ?_⟩
      · exact Int.not_lt.mp (fun q => c1 (Or.inl q))
      · exact Int.not_le.mp (fun q => c1 (Or.inr (Or.inl q)))
      · rcases hd with q | q
        · exact absurd (Or.inl (by omega)) c1
        · exact q.2.2
    by_cases c2 : nx tx n (b + 1) ≠ 42
    · rw [cif_1 c2]
      exact ⟨by show b ≤ b + 1; omega, by show b + 1 ≤ n; omega, Or.inr rfl, fun q => absurd q (by show ¬ (1 : Int) = 0; omega)⟩
    · rw [cif_0 c2]
      have h2 := nx_lt (Classical.not_not.mp c2) (by omega)
      have hN := numS_r tx (lo := 1) (hi := 20) (a := b + 2) (n := n) (by omega) (by omega) (by omega)
      by_cases c3 : (numS tx n 1 20 (b + 2)).2.2 ≠ 0
      · rw [cif_1 c3]
        exact ⟨by dsimp only; omega, hN.2.1, Or.inr rfl, fun q => absurd q (by show ¬ (1 : Int) = 0; omega)⟩
      · rw [cif_0 c3]
        exact ⟨by dsimp only; omega, hN.2.1, Or.inl rfl, fun _ => ⟨hd0.1, hd0.2.1, fun q => c1 (Or.inr (Or.inr q)), hN.2.2.2.2.2 (by omega), hN.2.2.2.2.1⟩⟩
theorem opsS_r (tx : Int → Int) {n : Int} : ∀ (f : Nat) (c a : Int) (R : Int → Int), a ≤ n → a ≤ (opsS tx n f c a R).2.1 ∧ (opsS tx n f c a R).2.1 ≤ n := by
  intro f
  induction f with
  | zero => intro c a R h; exact ⟨Int.le_refl _, h⟩
  | succ f ih =>
    intro c a R h
    unfold opsS
    by_cases c1 : nx tx n a = 44 ∧ c < 4
    · rw [cif_1 c1]
      have h1 := nx_lt c1.1 (by omega)
      have h2 := op1_r tx (n := n) (R := R) (c := c) (b := a + 1) (by omega)
      by_cases c2 : (op1 tx n R c (a + 1)).1 ≠ 0
      · rw [cif_1 c2]
        exact ⟨by dsimp only; omega, h2.2.1⟩
      · rw [cif_0 c2]
        have := ih (c + 1) _ (uR R c (op1 tx n R c (a + 1)).2.2.1 (op1 tx n R c (a + 1)).2.2.2) h2.2.1
        omega
    · rw [cif_0 c1]
      exact ⟨Int.le_refl _, h⟩
theorem jobS_r (tx : Int → Int) {n a : Int} (h : a ≤ n) : a ≤ (jobS tx n a).2.1 ∧ (jobS tx n a).2.1 ≤ n := by
  unfold jobS
  by_cases c1 : nx tx n a ≠ 114
  · rw [cif_1 c1]
    exact ⟨Int.le_refl _, h⟩
  · rw [cif_0 c1]
    have h1 := nx_lt (Classical.not_not.mp c1) (by omega)
    have n1 := numS_r tx (lo := 0) (hi := 50) (a := a + 1) (n := n) (by omega) (by omega) (by omega)
    by_cases c2 : (numS tx n 0 50 (a + 1)).2.2 ≠ 0
    · rw [cif_1 c2]
      exact ⟨by dsimp only; omega, n1.2.1⟩
    · rw [cif_0 c2]
      by_cases c3 : nx tx n (numS tx n 0 50 (a + 1)).2.1 ≠ 100
      · rw [cif_1 c3]
        exact ⟨by dsimp only; omega, n1.2.1⟩
      · rw [cif_0 c3]
        have h3 := nx_lt (Classical.not_not.mp c3) (by omega)
        have n2 := numS_r tx (lo := 0) (hi := 200) (a := (numS tx n 0 50 (a + 1)).2.1 + 1) (n := n) (by omega) (by omega) (by omega)
        by_cases c4 : (numS tx n 0 200 ((numS tx n 0 50 (a + 1)).2.1 + 1)).2.2 ≠ 0
        · rw [cif_1 c4]
          exact ⟨by dsimp only; omega, n2.2.1⟩
        · rw [cif_0 c4]
          have := opsS_r tx 5 0 (numS tx n 0 200 ((numS tx n 0 50 (a + 1)).2.1 + 1)).2.1 (hdR (numS tx n 0 50 (a + 1)).1 (numS tx n 0 200 ((numS tx n 0 50 (a + 1)).2.1 + 1)).1) n2.2.1
          omega
/-! the class's draft as it is read -/
/-- the last job has the row R, the ones before it Rs; c operations of it -/
def DR (σ : Mem) (i : Nat) (j : Int) (Rs R : Int → Int) (c : Int) : Prop := WF (σ 5 i 0) (σ 10 i) (σ 11 i) (σ 12 i) (σ 13 i) (σ 14 i) ∧ σ 5 i 0 = j + 1 ∧ 0 ≤ j ∧ σ 10 i j = c ∧ asc (σ 13 i) (σ 14 i) ∧ (∀ j', 0 ≤ j' → j' < j → σ 8 i j' = Rs (11 * j') ∧ σ 9 i j' = Rs (11 * j' + 1) ∧ σ 10 i j' = Rs (11 * j' + 2) ∧ 0 ≤ σ 8 i j' ∧ σ 8 i j' ≤ 50 ∧ 0 ≤ σ 9 i j' ∧ σ 9 i j' ≤ 200 ∧ ∀ s, 0 ≤ s → s < σ 10 i j' → σ 11 i (4 * j' + s) = Rs (11 * j' + 3 + 2 * s) ∧ σ 12 i (4 * j' + s) = Rs (11 * j' + 4 + 2 * s)) ∧ σ 8 i j = R 0 ∧ σ 9 i j = R 1 ∧ R 2 = c ∧ 0 ≤ R 0 ∧ R 0 ≤ 50 ∧ 0 ≤ R 1 ∧ R 1 ≤ 200 ∧ ∀ s, 0 ≤ s → s < c → σ 11 i (4 * j + s) = R (3 + 2 * s) ∧ σ 12 i (4 * j + s) = R (4 + 2 * s)
/-- what reading into the state i may change -/
def pRd (i : Nat) (t a : Nat) (x : Int) : Prop := pPd t a x ∨ (a = i ∧ (t = 5 ∨ (8 ≤ t ∧ t ≤ 14)))
theorem pRd_c {i : Nat} {σ σ' : Mem} (h : FrG (pRd i) σ σ') : cT σ' = cT σ ∧ cL σ' = cL σ := ⟨h.f 36 0 (by rintro x (⟨q, -⟩ | ⟨-, q⟩) <;> omega), h 2 0 1 (by rintro (⟨-, -, q⟩ | ⟨-, q⟩) <;> omega)⟩
theorem pPd.R {i : Nat} {σ σ' : Mem} (h : FrG pPd σ σ') : FrG (pRd i) σ σ' := h.w (fun _ _ _ q => Or.inl q)
theorem pPd_f {σ σ' : Mem} (h : FrG pPd σ σ') (t a : Nat) (ht : t ≠ 2) : σ' t a = σ t a := h.f t a (by rintro x ⟨q, -⟩; omega)
theorem DR_cg {σ σ' : Mem} {i : Nat} {j : Int} {Rs R : Int → Int} {c : Int} (h : FrG pPd σ σ') (hd : DR σ i j Rs R c) : DR σ' i j Rs R c := by
  unfold DR at hd ⊢
  rw [pPd_f h 5 i (by omega), pPd_f h 8 i (by omega), pPd_f h 9 i (by omega), pPd_f h 10 i (by omega), pPd_f h 11 i (by omega), pPd_f h 12 i (by omega), pPd_f h 13 i (by omega), pPd_f h 14 i (by omega)]
  exact hd
/-- the class's question for a machine that is there already -/
theorem DR_dup {σ : Mem} {i : Nat} {j : Int} {Rs R : Int → Int} {c d : Int} (h : DR σ i j Rs R c) : opF (σ 11 i) (σ 10 i j) j d = -6 ↔ ¬ dup R c d := by
  obtain ⟨h1, h2, h3, h4, h5, h6, h7, h8, h9, h10, h11, h12, h13, h14⟩ := h
  have hs := h1.2.1 j h3 (by have := h1.1; omega)
  constructor
  · rintro e ⟨s, s0, s1, s2⟩
    have := opF_is (f := σ 11 i) (n := σ 10 i j) (j := j) (m := d) s0 (by omega) hs.2.1 (by rw [(h14 s s0 s1).1]; exact s2)
    omega
  · intro hn
    refine opF_no (fun s s0 s1 e => hn ⟨s, s0, by omega, ?_⟩)
    rw [← (h14 s s0 (by omega)).1]
    exact e
/-- an operation more -/
theorem DR_op {σ σ' : Mem} {i : Nat} {j : Int} {Rs R : Int → Int} {c d v : Int} (h : DR σ i j Rs R c) (d0 : 0 ≤ d) (d1 : d < 4) (hn : ¬ dup R c d) (v0 : 1 ≤ v) (v1 : v ≤ 20) (hs : σ' = up (up (up (up (up σ 11 i (4 * j + σ 10 i j) d) 12 i (4 * j + σ 10 i j) v) 10 i j (σ 10 i j + 1)) 14 i (4 * d + σ 13 i d) j) 13 i d (σ 13 i d + 1)) : DR σ' i j Rs (uR R c d v) (c + 1) ∧ c < 4 ∧ σ 13 i d < 4 ∧ 0 ≤ σ 13 i d ∧ 0 ≤ c := by
  obtain ⟨h1, h2, h3, h4, h5, h6, h7, h8, h9, h10, h11, h12, h13, h14⟩ := h
  have hJ := h1.1
  have hno : ∀ s, 0 ≤ s → s < σ 10 i j → σ 11 i (4 * j + s) ≠ d := fun s s0 s1 e => hn ⟨s, s0, by omega, by rw [← (h14 s s0 (by omega)).1]; exact e⟩
  obtain ⟨r1, r2, r3, r4, r5⟩ := WF_room h1 h3 (by omega) d0 d1 hno
  have oj : (4 * j + σ 10 i j) / 4 = j := by omega
  have om : (4 * j + σ 10 i j) % 4 = σ 10 i j := by omega
  have nv : ∀ o, vOp (σ 10 i) o → o ≠ 4 * j + σ 10 i j := by
    intro o vo e
    have := vo.2.2
    rw [e, oj, om] at this
    omega
  have u0 : uR R c d v 0 = R 0 := by
    unfold uR
    rw [if_neg (by omega), if_neg (by omega), if_neg (by omega)]
  have u1 : uR R c d v 1 = R 1 := by
    unfold uR
    rw [if_neg (by omega), if_neg (by omega), if_neg (by omega)]
  have u2 : uR R c d v 2 = c + 1 := by
    unfold uR
    rw [if_pos rfl]
  have e5 : σ' 5 i 0 = σ 5 i 0 := by rw [hs]; simp [up_ap]
  have e8 : σ' 8 i = σ 8 i := by rw [hs]; funext x; simp [up_ap]
  have e9 : σ' 9 i = σ 9 i := by rw [hs]; funext x; simp [up_ap]
  have e10 : ∀ x, σ' 10 i x = if x = j then σ 10 i j + 1 else σ 10 i x := by intro x; rw [hs]; simp [up_ap]
  have e11 : ∀ x, σ' 11 i x = if x = 4 * j + σ 10 i j then d else σ 11 i x := by intro x; rw [hs]; simp [up_ap]
  have e12 : ∀ x, σ' 12 i x = if x = 4 * j + σ 10 i j then v else σ 12 i x := by intro x; rw [hs]; simp [up_ap]
  have e13 : ∀ x, σ' 13 i x = if x = d then σ 13 i d + 1 else σ 13 i x := by intro x; rw [hs]; simp [up_ap]
  have e14 : ∀ x, σ' 14 i x = if x = 4 * d + σ 13 i d then j else σ 14 i x := by intro x; rw [hs]; simp [up_ap]
  have hl4 := fun m (a : 0 ≤ m) (b : m < 4) => (h1.2.2.2.2.1 m a b).2
  have hq : ∀ m' k, 0 ≤ m' → m' < 4 → 0 ≤ k → k < σ 13 i m' → σ' 14 i (4 * m' + k) = σ 14 i (4 * m' + k) := fun m' k a b c' e => by
    have := hl4 m' a b
    rw [e14, if_neg]
    intro z
    have : m' = d := by omega
    subst this
    omega
  refine ⟨⟨?_, by rw [e5]; exact h2, h3, by rw [e10, if_pos rfl]; omega, ?_, fun j' a b => ?_, by rw [e8, u0]; exact h7, by rw [e9, u1]; exact h8, u2, by rw [u0]; exact h10, by rw [u0]; exact h11, by rw [u1]; exact h12, by rw [u1]; exact h13, fun s s0 s1 => ?_⟩, by omega, r2, r4, by omega⟩
  · rw [e5]
    exact WF_op h1 h3 (by omega) d0 d1 v0 v1 hno (fun x _ _ => e10 x) (fun o vo => by rw [e11, e12, if_neg (nv o vo), if_neg (nv o vo)]; exact ⟨rfl, rfl⟩) (by rw [e11, e12, if_pos rfl, if_pos rfl]; exact ⟨rfl, rfl⟩) (fun x _ _ => e13 x) hq (by rw [e14, if_pos rfl])
  · intro m k k' m0 m1 k0 k1 k2
    rw [e13] at k2
    by_cases z : m = d
    · subst z
      rw [if_pos rfl] at k2
      rcases (show k' < σ 13 i m ∨ k' = σ 13 i m by omega) with y | y
      · rw [hq m k m0 m1 k0 (by omega), hq m k' m0 m1 (by omega) y]
        exact h5 m k k' m0 m1 k0 k1 y
      · rw [hq m k m0 m1 k0 (by omega), e14, if_pos (by omega)]
        obtain ⟨x1, x2, o, vo, x3, -⟩ := h1.2.2.2.2.2.1 m k m0 m1 k0 (by omega)
        have hj := vOp_j vo
        have hlt : σ 14 i (4 * m + k) < j + 1 := by
          rcases Int.lt_or_le (σ 14 i (4 * m + k)) (j + 1) with u | u
          · exact u
          · have := (h1.2.1 (o / 4) hj.1 hj.2.1).2.2 (by omega)
            have := vo.2.2
            omega
        have := r5 k k0 (by omega)
        omega
    · rw [if_neg z] at k2
      rw [hq m k m0 m1 k0 (by omega), hq m k' m0 m1 (by omega) k2]
      exact h5 m k k' m0 m1 k0 k1 k2
  · obtain ⟨x1, x2, x3, x4, x5, x6, x7, x8⟩ := h6 j' a b
    have hs' := h1.2.1 j' a (by omega)
    rw [e8, e9, e10, if_neg (by omega)]
    refine ⟨x1, x2, x3, x4, x5, x6, x7, fun s s0 s1 => ?_⟩
    rw [e11, e12, if_neg (by omega), if_neg (by omega)]
    exact x8 s s0 s1
  · rw [e11, e12]
    unfold uR
    by_cases z : s = c
    · have e : 4 * j + s = 4 * j + σ 10 i j := by omega
      rw [if_pos e, if_pos e]
      refine ⟨?_, ?_⟩
      · rw [if_neg (by omega), if_pos (by omega)]
      · rw [if_neg (by omega), if_neg (by omega), if_pos (by omega)]
    · rw [if_neg (by omega), if_neg (by omega), if_neg (by omega), if_neg (by omega), if_neg (by omega), if_neg (by omega), if_neg (by omega), if_neg (by omega)]
      exact h14 s s0 (by omega)
