/-! orders that are followed -/
def pAh (n : Nat) (t a : Nat) (_x : Int) : Prop := t = 20 ∧ a = n
/-- the job b stands ahead of k, among the first P places of the order of m -/
def bq (σ : Mem) (i : Nat) (m P b k : Int) : Prop := ∃ p, 0 ≤ p ∧ p < P ∧ σ 14 i (4 * m + p) = b ∧ ∀ p', 0 ≤ p' → p' ≤ p → σ 14 i (4 * m + p') ≠ k
theorem bq_s {σ : Mem} {i : Nat} {m P b k : Int} (h0 : 0 ≤ P) : bq σ i m (P + 1) b k ↔ bq σ i m P b k ∨ (b = σ 14 i (4 * m + P) ∧ ∀ p', 0 ≤ p' → p' ≤ P → σ 14 i (4 * m + p') ≠ k) := by
  constructor
  · rintro ⟨p, p0, p1, p2, p3⟩
    rcases (show p < P ∨ p = P by omega) with q | rfl
    · exact Or.inl ⟨p, p0, q, p2, p3⟩
    · exact Or.inr ⟨p2.symm, p3⟩
  · rintro (⟨p, p0, p1, p2, p3⟩ | ⟨p2, p3⟩)
    · exact ⟨p, p0, by omega, p2, p3⟩
    · exact ⟨P, h0, by omega, p2.symm, p3⟩
theorem bq_0 {σ : Mem} {i : Nat} {m b k : Int} : ¬ bq σ i m 0 b k := by
  rintro ⟨p, p0, p1, -⟩
  omega
/-- the order of a machine as it must be: jobs that are there -/
def qB (σ : Mem) (n i : Nat) (m : Int) : Prop := 0 ≤ σ 13 i m ∧ σ 13 i m ≤ 4 ∧ ∀ p, 0 ≤ p → p < σ 13 i m → 0 ≤ σ 14 i (4 * m + p) ∧ σ 14 i (4 * m + p) < 4 ∧ 0 ≤ σ 19 n (4 * m + σ 14 i (4 * m + p))
def FO (σ σ' : Mem) (n i : Nat) (m P : Int) : Prop := FrG (pAh n) σ σ' ∧ nA σ' n ∧ (∀ k b, 0 ≤ k → k < 4 → 0 ≤ b → b < 4 → 0 ≤ σ 19 n (4 * m + k) → (hasB (σ' 20 n (σ 19 n (4 * m + k))) b ↔ hasB (σ 20 n (σ 19 n (4 * m + k))) b ∨ bq σ i m P b k)) ∧ (∀ x, (∀ k, 0 ≤ k → k < 4 → σ 19 n (4 * m + k) ≠ x) → σ' 20 n x = σ 20 n x)
def FOo (σ : Mem) (n i : Nat) (m P ot : Int) : Prop := 0 ≤ ot ∧ ot < 16 ∧ ∀ k, 0 ≤ k → k < 4 → (hasB ot k ↔ (0 ≤ σ 19 n (4 * m + k) ∧ ∀ p, 0 ≤ p → p < P → σ 14 i (4 * m + p) ≠ k))
theorem FO_0 {σ : Mem} {n i : Nat} {m : Int} (hA : nA σ n) : FO σ σ n i m 0 := ⟨FrG.r, hA, fun k b _ _ _ _ _ => ⟨Or.inl, fun q => q.resolve_right bq_0⟩, fun _ _ => rfl⟩
theorem FOo_0 {σ : Mem} {n i : Nat} {m r : Int} (h0 : 0 ≤ r) (h1 : r < 16) (h : ∀ k, 0 ≤ k → k < 4 → (hasB r k ↔ 0 ≤ σ 19 n (4 * m + k))) : FOo σ n i m 0 r := ⟨h0, h1, fun k a b => by
  rw [h k a b]
  exact ⟨fun q => ⟨q, fun p p0 p1 => by omega⟩, fun q => q.1⟩⟩
theorem FOo_s {σ : Mem} {n i : Nat} {m P ot : Int} (h : FOo σ n i m P ot) (hP : 0 ≤ P) (j0 : 0 ≤ σ 14 i (4 * m + P)) (j1 : σ 14 i (4 * m + P) < 4) : FOo σ n i m (P + 1) (band ot (bxor (bshl 1 (σ 14 i (4 * m + P))) (-1))) := by
  obtain ⟨a, b, c⟩ := h
  have r := bit_cl_r a b j0 j1
  refine ⟨r.1, r.2, fun k k0 k1 => ?_⟩
  rw [bit_cl a b j0 j1 k0 k1, c k k0 k1]
  constructor
  · rintro ⟨⟨q1, q2⟩, q3⟩
    refine ⟨q1, fun p p0 p1 => ?_⟩
    rcases (show p < P ∨ p = P by omega) with d | rfl
    · exact q2 p p0 d
    · exact fun e => q3 e.symm
  · rintro ⟨q1, q2⟩
    exact ⟨⟨q1, fun p p0 p1 => q2 p p0 (by omega)⟩, fun e => q2 P hP (by omega) e.symm⟩
theorem FO_s {σ σ' σ2 : Mem} {n i : Nat} {m P ot : Int} (hB : nB σ n) (m0 : 0 ≤ m) (m1 : m < 4) (hq : qB σ n i m) (h : FO σ σ' n i m P) (ho : FOo σ n i m (P + 1) ot) (hP : 0 ≤ P) (hP2 : P < σ 13 i m) (hL : LI σ' σ2 n m ot (σ 14 i (4 * m + P)) 4) : FO σ σ2 n i m (P + 1) := by
  obtain ⟨a1, a2, a3, a4⟩ := h
  obtain ⟨j0, j1, jon⟩ := hq.2.2 P hP hP2
  obtain ⟨l1, l2, l3⟩ := hL
  obtain ⟨o0, o1, o2⟩ := ho
  have e : ∀ t, t ≠ 20 → ∀ x, σ' t n x = σ t n x := fun t ht x => a1 t n x (fun q => ht q.1)
  have e19 := e 19 (by omega)
  have hF : FrG (pAh n) σ σ2 := a1.t (fun t a x q => l1 t a x (by
    by_cases c : t = 20
    · exact Or.inr (fun d => q ⟨c, d⟩)
    · exact Or.inl c))
  have key : ∀ k b, 0 ≤ k → k < 4 → 0 ≤ b → b < 4 → 0 ≤ σ 19 n (4 * m + k) → (hasB (σ2 20 n (σ 19 n (4 * m + k))) b ↔ hasB (σ' 20 n (σ 19 n (4 * m + k))) b ∨ (hasB ot k ∧ b = σ 14 i (4 * m + P))) ∧ 0 ≤ σ2 20 n (σ 19 n (4 * m + k)) ∧ σ2 20 n (σ 19 n (4 * m + k)) < 16 := by
    intro k b k0 k1 b0 b1 q
    obtain ⟨v1, v2, v3⟩ := hB.2.2 m k m0 m1 k0 k1 q
    have hv : vOp (σ' 15 n) (σ 19 n (4 * m + k)) := (vOp_cg (fun j _ _ => e 15 (by omega) j) _).mpr v1
    obtain ⟨r0, r1, -⟩ := a2 _ hv
    by_cases c : hasB ot k
    · have := l3 k k0 k1 c (by rw [e19]; exact q)
      rw [e19] at this
      rw [this, bit_or r0 r1 j0 j1 b0 b1]
      have := bit_or_r r0 r1 j0 j1
      exact ⟨by simp [c], this⟩
    · have : σ2 20 n (σ 19 n (4 * m + k)) = σ' 20 n (σ 19 n (4 * m + k)) := by
        refine l2 _ (fun k' k'0 k'1 c' f => ?_)
        rw [e19] at f
        have := NB_inj hB m0 m1 k k' k0 k1 k'0 k'1 q f.symm
        exact c (this ▸ c')
      rw [this]
      exact ⟨by simp [c], r0, r1⟩
  have bits : ∀ k b, 0 ≤ k → k < 4 → 0 ≤ b → b < 4 → 0 ≤ σ 19 n (4 * m + k) → (hasB (σ2 20 n (σ 19 n (4 * m + k))) b ↔ hasB (σ 20 n (σ 19 n (4 * m + k))) b ∨ bq σ i m (P + 1) b k) := by
    intro k b k0 k1 b0 b1 q
    rw [(key k b k0 k1 b0 b1 q).1, a3 k b k0 k1 b0 b1 q, bq_s hP, o2 k k0 k1, or_assoc]
    constructor
    · rintro (c | c | ⟨⟨c1, c2⟩, c3⟩)
      · exact Or.inl c
      · exact Or.inr (Or.inl c)
      · exact Or.inr (Or.inr ⟨c3, fun p' p0 p1 => c2 p' p0 (by omega)⟩)
    · rintro (c | c | ⟨c1, c2⟩)
      · exact Or.inl c
      · exact Or.inr (Or.inl c)
      · exact Or.inr (Or.inr ⟨⟨q, fun p' p0 p1 => c2 p' p0 (by omega)⟩, c1⟩)
  have rest : ∀ x, (∀ k, 0 ≤ k → k < 4 → σ 19 n (4 * m + k) ≠ x) → σ2 20 n x = σ' 20 n x := fun x q => l2 x (fun k k0 k1 _ => by rw [e19]; exact q k k0 k1)
  refine ⟨hF, fun o v => ?_, bits, fun x q => by rw [rest x q, a4 x q]⟩
  have f : ∀ t, t ≠ 20 → ∀ x, σ2 t n x = σ t n x := fun t ht x => hF t n x (fun q => ht q.1)
  have v' : vOp (σ 15 n) o := (vOp_cg (fun j _ _ => f 15 (by omega) j) _).mp v
  have v2 : vOp (σ' 15 n) o := (vOp_cg (fun j _ _ => e 15 (by omega) j) _).mpr v'
  obtain ⟨r0, r1, r2⟩ := a2 o v2
  rw [f 16 (by omega)]
  simp only [f 19 (by omega)]
  rw [e 16 (by omega)] at r2
  simp only [e19] at r2
  obtain ⟨d0, d1, -, -, -, -, hon⟩ := hB.2.1 o v'
  have hj := vOp_j v'
  by_cases c : σ 16 n o = m
  · have ho : σ 19 n (4 * m + o / 4) = o := by rw [← c]; exact hon
    have kk := fun b b0 b1 => key (o / 4) b hj.1 hj.2.1 b0 b1 (by rw [ho]; exact v'.1)
    rw [ho] at kk
    refine ⟨(kk 0 (by omega) (by omega)).2.1, (kk 0 (by omega) (by omega)).2.2, fun k k0 k1 q => ?_⟩
    rcases (kk k k0 k1).1.mp q with q | ⟨q1, q2⟩
    · exact r2 k k0 k1 q
    · subst q2
      refine ⟨fun d => ?_, by rw [c]; exact jon⟩
      exact ((o2 (o / 4) hj.1 hj.2.1).mp q1).2 P hP (by omega) d
  · have : σ2 20 n o = σ' 20 n o := rest o (fun k k0 k1 d => c (by
      have := (hB.2.2 m k m0 m1 k0 k1 (by rw [d]; exact v'.1)).2.1
      rw [d] at this
      exact this))
    rw [this]
    exact ⟨r0, r1, r2⟩
/-- all orders, of the machines below M -/
def FS (σ σ' : Mem) (n i : Nat) (M : Int) : Prop := FrG (pAh n) σ σ' ∧ nA σ' n ∧ ∀ m k b, 0 ≤ m → m < 4 → 0 ≤ k → k < 4 → 0 ≤ b → b < 4 → 0 ≤ σ 19 n (4 * m + k) → (hasB (σ' 20 n (σ 19 n (4 * m + k))) b ↔ hasB (σ 20 n (σ 19 n (4 * m + k))) b ∨ (m < M ∧ bq σ i m (σ 13 i m) b k))
theorem FS_0 {σ : Mem} {n i : Nat} (hA : nA σ n) : FS σ σ n i 0 := ⟨FrG.r, hA, fun m k b _ _ _ _ _ _ _ => ⟨Or.inl, fun q => q.resolve_right (fun c => by omega)⟩⟩
theorem bq_cg {σ σ' : Mem} {i : Nat} {m P b k : Int} (h : ∀ x, σ' 14 i x = σ 14 i x) : bq σ' i m P b k ↔ bq σ i m P b k := by
  unfold bq
  simp only [h]
theorem FS_s {σ σ' σ2 : Mem} {n i : Nat} {M : Int} (hB : nB σ n) (h : FS σ σ' n i M) (h0 : 0 ≤ M) (h1 : M < 4) (hF : FO σ' σ2 n i M (σ 13 i M)) : FS σ σ2 n i (M + 1) := by
  obtain ⟨a1, a2, a3⟩ := h
  obtain ⟨b1, b2, b3, b4⟩ := hF
  have e19 : ∀ x, σ' 19 n x = σ 19 n x := fun x => a1 19 n x (by rintro ⟨q, -⟩; omega)
  have e14 : ∀ x, σ' 14 i x = σ 14 i x := fun x => a1 14 i x (by rintro ⟨q, -⟩; omega)
  refine ⟨a1.t b1, b2, fun m k b m0 m1 k0 k1 c0 c1 q => ?_⟩
  by_cases c : m = M
  · subst c
    have u := b3 k b k0 k1 c0 c1 (by rw [e19]; exact q)
    rw [e19, bq_cg e14] at u
    rw [u, a3 m k b m0 m1 k0 k1 c0 c1 q]
    constructor
    · rintro ((d | d) | d)
      · exact Or.inl d
      · omega
      · exact Or.inr ⟨by omega, d⟩
    · rintro (d | ⟨-, d⟩)
      · exact Or.inl (Or.inl d)
      · exact Or.inr d
  · rw [b4 _ (fun k' k'0 k'1 d => c (by
      rw [e19] at d
      have u1 := (hB.2.2 m k m0 m1 k0 k1 q).2.1
      have u2 := (hB.2.2 M k' h0 h1 k'0 k'1 (by omega)).2.1
      rw [d] at u2
      omega)), a3 m k b m0 m1 k0 k1 c0 c1 q]
    constructor
    · rintro (d | ⟨d, d2⟩)
      · exact Or.inl d
      · exact Or.inr ⟨by omega, d2⟩
    · rintro (d | ⟨d, d2⟩)
      · exact Or.inl d
      · exact Or.inr ⟨by omega, d2⟩
/-! forced orders -/
def pA (mc : Int → Int) (A : Int → Int → Prop) (o' o : Int) : Prop := (o % 4 ≠ 0 ∧ o' = o - 1) ∨ (mc o' = mc o ∧ A o' o)
/-- what is decided, as a relation -/
def rA (ah : Int → Int) (o' o : Int) : Prop := hasB (ah o) (o' / 4)
/-- a relation that keeps the limit u and has all that u forces by it -/
def Clo (st mc du rd : Int → Int) (u : Int) (A : Int → Int → Prop) : Prop := ∃ h t : Int → Int, IsHead (vOp st) (pA mc A) du rd h ∧ IsTail (vOp st) (pA mc A) du t ∧ (∀ o, vOp st o → h o + du o + t o ≤ u) ∧ ∀ x y, vOp st x → vOp st y → x ≠ y → mc x = mc y → u < h x + du x + du y + t y → A y x
def sbA (st mc ah : Int → Int) (A : Int → Int → Prop) : Prop := ∀ o' o, vOp st o' → vOp st o → mc o' = mc o → hasB (ah o) (o' / 4) → A o' o
theorem sbA_p {st mc ah : Int → Int} {A : Int → Int → Prop} (h : sbA st mc ah A) : ∀ o' o, vOp st o' → vOp st o → pN mc ah o' o → pA mc A o' o := by
  rintro o' o v' v (p | ⟨p1, p2⟩)
  · exact Or.inl p
  · exact Or.inr ⟨p1, h o' o v' v p1 p2⟩
theorem head_mono {V : Int → Prop} {P P' : Int → Int → Prop} {d r h h' : Int → Int} (hd : ∀ o, V o → 1 ≤ d o) (hr : ∀ o, V o → 0 ≤ r o) (hP : ∀ o' o, V o' → V o → P o' o → P' o' o) (H : IsHead V P d r h) (H' : IsHead V P' d r h') {o : Int} (ho : V o) : h o ≤ h' o := by
  have key : ∀ (n : Nat) (o : Int), V o → h o ≤ n → h o ≤ h' o := by
    intro n
    induction n with
    | zero =>
      intro o ho hn
      have h1 := head_ge hr H ho
      have h2 := head_ge hr H' ho
      omega
    | succ n ih =>
      intro o ho hn
      obtain ⟨a1, a2, a3⟩ := H o ho
      obtain ⟨b1, b2, b3⟩ := H' o ho
      rcases a3 with a3 | ⟨o', v', p', a3⟩
      · omega
      · have h1 := hd o' v'
        have h2 := ih o' v' (by omega)
        have h3 := b2 o' v' (hP o' o v' ho p')
        omega
  exact key (h o).toNat o ho (by omega)
theorem tail_mono {V : Int → Prop} {P P' : Int → Int → Prop} {d t t' : Int → Int} (hd : ∀ o, V o → 1 ≤ d o) (hP : ∀ o' o, V o' → V o → P o' o → P' o' o) (H : IsTail V P d t) (H' : IsTail V P' d t') {o : Int} (ho : V o) : t o ≤ t' o := by
  have key : ∀ (n : Nat) (o : Int), V o → t o ≤ n → t o ≤ t' o := by
    intro n
    induction n with
    | zero =>
      intro o ho hn
      have h1 := (H o ho).1
      have h2 := (H' o ho).1
      omega
    | succ n ih =>
      intro o ho hn
      obtain ⟨a1, a2, a3⟩ := H o ho
      obtain ⟨b1, b2, b3⟩ := H' o ho
      rcases a3 with a3 | ⟨o', v', p', a3⟩
      · omega
      · have h1 := hd o' v'
        have h2 := ih o' v' (by omega)
        have h3 := b2 o' v' (hP o o' ho v' p')
        omega
  exact key (t o).toNat o ho (by omega)
/-- the way through x and y, x first, is longer than u -/
def wy (σ : Mem) (n : Nat) (u x y : Int) : Prop := u < σ 21 n x + σ 17 n x + σ 17 n y + σ 22 n y
/-- heads and tails are no greater than these -/
def nH (σ : Mem) (n : Nat) : Prop := ∀ o, vOp (σ 15 n) o → 0 ≤ σ 21 n o ∧ σ 21 n o ≤ 700 ∧ 0 ≤ σ 22 n o ∧ σ 22 n o ≤ 320
def und (ah : Int → Int) (x y : Int) : Prop := 0 ≤ x ∧ 0 ≤ y ∧ ¬ hasB (ah y) (x / 4) ∧ ¬ hasB (ah x) (y / 4)
noncomputable def b2i (p : Prop) : Int := @ite _ p (Classical.propDecidable p) 1 0
theorem b2i_r (p : Prop) : 0 ≤ b2i p ∧ b2i p ≤ 1 := by
  unfold b2i
  split <;> omega
theorem b2i_1 {p : Prop} (h : p) : b2i p = 1 := by
  unfold b2i
  rw [if_pos h]
theorem b2i_0 {p : Prop} (h : ¬ p) : b2i p = 0 := by
  unfold b2i
  rw [if_neg h]
theorem b2i_le {p q : Prop} (h : p → q) : b2i p ≤ b2i q := by
  by_cases c : p
  · rw [b2i_1 c, b2i_1 (h c)]
    exact Int.le_refl _
  · rw [b2i_0 c]
    exact (b2i_r q).1
/-- how many pairs of a machine, of all machines are decided -/
noncomputable def dP (on ah : Int → Int) (m i j : Int) : Int := b2i (¬ und ah (on (4 * m + i)) (on (4 * m + j)))
noncomputable def dcm (on ah : Int → Int) (m : Int) : Int := dP on ah m 0 1 + dP on ah m 0 2 + dP on ah m 0 3 + dP on ah m 1 2 + dP on ah m 1 3 + dP on ah m 2 3
noncomputable def dc (on ah : Int → Int) : Int := dcm on ah 0 + dcm on ah 1 + dcm on ah 2 + dcm on ah 3
/-- nothing that is decided is lost -/
def mnA (st ah ah' : Int → Int) : Prop := ∀ o k, vOp st o → 0 ≤ k → k < 4 → hasB (ah o) k → hasB (ah' o) k
theorem mnA.r {st ah : Int → Int} : mnA st ah ah := fun _ _ _ _ _ h => h
theorem mnA.t {st ah ah' ah2 : Int → Int} (h : mnA st ah ah') (h2 : mnA st ah' ah2) : mnA st ah ah2 := fun o k v a b c => h2 o k v a b (h o k v a b c)
theorem mnA.und {st mc du rd on ah ah' : Int → Int} (hB : NB st mc du rd on) (h : mnA st ah ah') {m i j : Int} (m0 : 0 ≤ m) (m1 : m < 4) (i0 : 0 ≤ i) (i1 : i < 4) (j0 : 0 ≤ j) (j1 : j < 4) (hu : und ah' (on (4 * m + i)) (on (4 * m + j))) : und ah (on (4 * m + i)) (on (4 * m + j)) := by
  obtain ⟨a, b, c, d⟩ := hu
  obtain ⟨v1, -, e1⟩ := hB.2.2 m i m0 m1 i0 i1 a
  obtain ⟨v2, -, e2⟩ := hB.2.2 m j m0 m1 j0 j1 b
  exact ⟨a, b, fun q => c (h _ _ v2 (by omega) (by omega) q), fun q => d (h _ _ v1 (by omega) (by omega) q)⟩
theorem dP_mono {st mc du rd on ah ah' : Int → Int} (hB : NB st mc du rd on) (h : mnA st ah ah') {m i j : Int} (m0 : 0 ≤ m) (m1 : m < 4) (i0 : 0 ≤ i) (i1 : i < 4) (j0 : 0 ≤ j) (j1 : j < 4) : dP on ah m i j ≤ dP on ah' m i j := b2i_le (fun q c => q (h.und hB m0 m1 i0 i1 j0 j1 c))
theorem dcm_mono {st mc du rd on ah ah' : Int → Int} (hB : NB st mc du rd on) (h : mnA st ah ah') {m : Int} (m0 : 0 ≤ m) (m1 : m < 4) : dcm on ah m ≤ dcm on ah' m := by
  have h1 := dP_mono hB h m0 m1 (i := 0) (j := 1) (by omega) (by omega) (by omega) (by omega)
  have h2 := dP_mono hB h m0 m1 (i := 0) (j := 2) (by omega) (by omega) (by omega) (by omega)
  have h3 := dP_mono hB h m0 m1 (i := 0) (j := 3) (by omega) (by omega) (by omega) (by omega)
  have h4 := dP_mono hB h m0 m1 (i := 1) (j := 2) (by omega) (by omega) (by omega) (by omega)
  have h5 := dP_mono hB h m0 m1 (i := 1) (j := 3) (by omega) (by omega) (by omega) (by omega)
  have h6 := dP_mono hB h m0 m1 (i := 2) (j := 3) (by omega) (by omega) (by omega) (by omega)
  unfold dcm
  omega
theorem dc_mono {st mc du rd on ah ah' : Int → Int} (hB : NB st mc du rd on) (h : mnA st ah ah') : dc on ah ≤ dc on ah' := by
  have h1 := dcm_mono hB h (m := 0) (by omega) (by omega)
  have h2 := dcm_mono hB h (m := 1) (by omega) (by omega)
  have h3 := dcm_mono hB h (m := 2) (by omega) (by omega)
  have h4 := dcm_mono hB h (m := 3) (by omega) (by omega)
  unfold dc
  omega
theorem dc_r (on ah : Int → Int) : 0 ≤ dc on ah ∧ dc on ah ≤ 24 := by
  have key : ∀ m, 0 ≤ dcm on ah m ∧ dcm on ah m ≤ 6 := by
    intro m
    have h1 := b2i_r (¬ und ah (on (4 * m + 0)) (on (4 * m + 1)))
    have h2 := b2i_r (¬ und ah (on (4 * m + 0)) (on (4 * m + 2)))
    have h3 := b2i_r (¬ und ah (on (4 * m + 0)) (on (4 * m + 3)))
    have h4 := b2i_r (¬ und ah (on (4 * m + 1)) (on (4 * m + 2)))
    have h5 := b2i_r (¬ und ah (on (4 * m + 1)) (on (4 * m + 3)))
    have h6 := b2i_r (¬ und ah (on (4 * m + 2)) (on (4 * m + 3)))
    unfold dcm dP
    omega
  have h1 := key 0
  have h2 := key 1
  have h3 := key 2
  have h4 := key 3
  unfold dc
  omega
theorem dc_step {st mc du rd on ah ah' : Int → Int} (hB : NB st mc du rd on) (h : mnA st ah ah') {m i j : Int} (m0 : 0 ≤ m) (m1 : m < 4) (i0 : 0 ≤ i) (i1 : i < j) (j1 : j < 4) (hu : und ah (on (4 * m + i)) (on (4 * m + j))) (hn : ¬ und ah' (on (4 * m + i)) (on (4 * m + j))) : dc on ah + 1 ≤ dc on ah' := by
  have e0 : dP on ah m i j = 0 := b2i_0 (fun q => q hu)
  have e1 : dP on ah' m i j = 1 := b2i_1 hn
  have key : dcm on ah m + 1 ≤ dcm on ah' m := by
    have h1 := dP_mono hB h m0 m1 (i := 0) (j := 1) (by omega) (by omega) (by omega) (by omega)
    have h2 := dP_mono hB h m0 m1 (i := 0) (j := 2) (by omega) (by omega) (by omega) (by omega)
    have h3 := dP_mono hB h m0 m1 (i := 0) (j := 3) (by omega) (by omega) (by omega) (by omega)
    have h4 := dP_mono hB h m0 m1 (i := 1) (j := 2) (by omega) (by omega) (by omega) (by omega)
    have h5 := dP_mono hB h m0 m1 (i := 1) (j := 3) (by omega) (by omega) (by omega) (by omega)
    have h6 := dP_mono hB h m0 m1 (i := 2) (j := 3) (by omega) (by omega) (by omega) (by omega)
    unfold dcm
    rcases (show (i = 0 ∧ j = 1) ∨ (i = 0 ∧ j = 2) ∨ (i = 0 ∧ j = 3) ∨ (i = 1 ∧ j = 2) ∨ (i = 1 ∧ j = 3) ∨ (i = 2 ∧ j = 3) by omega) with ⟨rfl, rfl⟩ | ⟨rfl, rfl⟩ | ⟨rfl, rfl⟩ | ⟨rfl, rfl⟩ | ⟨rfl, rfl⟩ | ⟨rfl, rfl⟩ <;> omega
  have h1 := dcm_mono hB h (m := 0) (by omega) (by omega)
  have h2 := dcm_mono hB h (m := 1) (by omega) (by omega)
  have h3 := dcm_mono hB h (m := 2) (by omega) (by omega)
  have h4 := dcm_mono hB h (m := 3) (by omega) (by omega)
  unfold dc
  rcases (show m = 0 ∨ m = 1 ∨ m = 2 ∨ m = 3 by omega) with rfl | rfl | rfl | rfl <;> omega
theorem dc_und {st mc du rd on ah : Int → Int} (hB : NB st mc du rd on) {m i j : Int} (m0 : 0 ≤ m) (m1 : m < 4) (i0 : 0 ≤ i) (i1 : i < j) (j1 : j < 4) (hu : und ah (on (4 * m + i)) (on (4 * m + j))) : dc on ah ≤ 23 := by
  have e0 : dP on ah m i j = 0 := b2i_0 (fun q => q hu)
  have key : ∀ m, (0 ≤ dcm on ah m ∧ dcm on ah m ≤ 6) ∧ ∀ i j, 0 ≤ i → i < j → j < 4 → dP on ah m i j = 0 → dcm on ah m ≤ 5 := by
    intro m
    have h1 := b2i_r (¬ und ah (on (4 * m + 0)) (on (4 * m + 1)))
    have h2 := b2i_r (¬ und ah (on (4 * m + 0)) (on (4 * m + 2)))
    have h3 := b2i_r (¬ und ah (on (4 * m + 0)) (on (4 * m + 3)))
    have h4 := b2i_r (¬ und ah (on (4 * m + 1)) (on (4 * m + 2)))
    have h5 := b2i_r (¬ und ah (on (4 * m + 1)) (on (4 * m + 3)))
    have h6 := b2i_r (¬ und ah (on (4 * m + 2)) (on (4 * m + 3)))
    unfold dcm dP
    refine ⟨by omega, fun i j i0 i1 j1 e => ?_⟩
    rcases (show (i = 0 ∧ j = 1) ∨ (i = 0 ∧ j = 2) ∨ (i = 0 ∧ j = 3) ∨ (i = 1 ∧ j = 2) ∨ (i = 1 ∧ j = 3) ∨ (i = 2 ∧ j = 3) by omega) with ⟨rfl, rfl⟩ | ⟨rfl, rfl⟩ | ⟨rfl, rfl⟩ | ⟨rfl, rfl⟩ | ⟨rfl, rfl⟩ | ⟨rfl, rfl⟩ <;> omega
  have h1 := (key 0).1
  have h2 := (key 1).1
  have h3 := (key 2).1
  have h4 := (key 3).1
  have h5 := (key m).2 i j i0 i1 j1 e0
  unfold dc
  rcases (show m = 0 ∨ m = 1 ∨ m = 2 ∨ m = 3 by omega) with rfl | rfl | rfl | rfl <;> omega
