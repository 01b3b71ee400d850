/-! what a text says as a plan -/
/-- the job d is among the first c of the row q from b on -/
def inq (q : Int → Int) (b c d : Int) : Prop := ∃ i, 0 ≤ i ∧ i < c ∧ q (b + i) = d
/-- c different jobs from b on -/
def oOK (q : Int → Int) (b c : Int) : Prop := 0 ≤ c ∧ c ≤ 4 ∧ (∀ k, 0 ≤ k → k < c → 0 ≤ q (b + k) ∧ q (b + k) < 4) ∧ ∀ k k', 0 ≤ k → k < k' → k' < c → q (b + k) ≠ q (b + k')
def uq (q : Int → Int) (x d : Int) : Int → Int := fun y => if y = x then d else q y
theorem uq_uq (q : Int → Int) (x d e : Int) : uq (uq q x d) x e = uq q x e := by
  funext y
  unfold uq
  by_cases z : y = x
  · rw [if_pos z, if_pos z]
  · rw [if_neg z, if_neg z, if_neg z]
theorem four_no {a b c d x : Int} (a0 : 0 ≤ a) (a1 : a < 4) (b0 : 0 ≤ b) (b1 : b < 4) (c0 : 0 ≤ c) (c1 : c < 4) (d0 : 0 ≤ d) (d1 : d < 4) (x0 : 0 ≤ x) (x1 : x < 4) (ab : a ≠ b) (ac : a ≠ c) (ad : a ≠ d) (bc : b ≠ c) (bd : b ≠ d) (cd : c ≠ d) (xa : a ≠ x) (xb : b ≠ x) (xc : c ≠ x) (xd : d ≠ x) : False := by
  obtain ⟨a, rfl⟩ := i4 a0 a1
  obtain ⟨b, rfl⟩ := i4 b0 b1
  obtain ⟨c, rfl⟩ := i4 c0 c1
  obtain ⟨d, rfl⟩ := i4 d0 d1
  obtain ⟨x, rfl⟩ := i4 x0 x1
  have key : ∀ a b c d x : Fin 4, ¬ (a ≠ b ∧ a ≠ c ∧ a ≠ d ∧ b ≠ c ∧ b ≠ d ∧ c ≠ d ∧ a ≠ x ∧ b ≠ x ∧ c ≠ x ∧ d ≠ x) := by decide +kernel
  have f : ∀ {u v : Fin 4}, ((u.val : Int) ≠ (v.val : Int)) → u ≠ v := fun h e => h (by rw [e])
  exact key a b c d x ⟨f ab, f ac, f ad, f bc, f bd, f cd, f xa, f xb, f xc, f xd⟩
theorem oOK_full {q : Int → Int} {b d : Int} (h : oOK q b 4) (d0 : 0 ≤ d) (d1 : d < 4) : inq q b 4 d := by
  obtain ⟨-, -, h1, h2⟩ := h
  refine Classical.byContradiction (fun z => ?_)
  have n : ∀ i, 0 ≤ i → i < 4 → q (b + i) ≠ d := fun i a c e => z ⟨i, a, c, e⟩
  have r := fun i a c => h1 i a c
  exact four_no (r 0 (by omega) (by omega)).1 (r 0 (by omega) (by omega)).2 (r 1 (by omega) (by omega)).1 (r 1 (by omega) (by omega)).2 (r 2 (by omega) (by omega)).1 (r 2 (by omega) (by omega)).2 (r 3 (by omega) (by omega)).1 (r 3 (by omega) (by omega)).2 d0 d1 (h2 0 1 (by omega) (by omega) (by omega)) (h2 0 2 (by omega) (by omega) (by omega)) (h2 0 3 (by omega) (by omega) (by omega)) (h2 1 2 (by omega) (by omega) (by omega)) (h2 1 3 (by omega) (by omega) (by omega)) (h2 2 3 (by omega) (by omega) (by omega)) (n 0 (by omega) (by omega)) (n 1 (by omega) (by omega)) (n 2 (by omega) (by omega)) (n 3 (by omega) (by omega))
theorem oOK_s {q : Int → Int} {b c d : Int} (h : oOK q b c) (d0 : 0 ≤ d) (d1 : d < 4) (hn : ¬ inq q b c d) : c < 4 ∧ oOK (uq q (b + c) d) b (c + 1) := by
  have hc : c < 4 := by
    rcases Int.lt_or_le c 4 with z | z
    · exact z
    · have e : c = 4 := by have := h.2.1; omega
      subst e
      exact absurd (oOK_full h d0 d1) hn
  obtain ⟨h0, h1, h2, h3⟩ := h
  refine ⟨hc, by omega, by omega, fun k k0 k1 => ?_, fun k k' k0 k1 k2 => ?_⟩
  · unfold uq
    split
    · exact ⟨d0, d1⟩
    · exact h2 k k0 (by omega)
  · unfold uq
    rw [if_neg (show ¬ (b + k = b + c) by omega)]
    split
    · exact fun e => hn ⟨k, k0, by omega, e⟩
    · exact h3 k k' k0 k1 (by omega)
theorem oOK_0 (q : Int → Int) (b : Int) : oOK q b 0 := ⟨by omega, by omega, fun k a c => by omega, fun k k' a c e => by omega⟩
theorem inq_s {q : Int → Int} {b c x : Int} (h0 : 0 ≤ c) : inq q b (c + 1) x ↔ inq q b c x ∨ x = q (b + c) := by
  constructor
  · rintro ⟨i, a, c', e⟩
    by_cases z : i = c
    · subst z
      exact Or.inr e.symm
    · exact Or.inl ⟨i, a, by omega, e⟩
  · rintro (⟨i, a, c', e⟩ | e)
    · exact ⟨i, a, by omega, e⟩
    · exact ⟨c, h0, by omega, e.symm⟩
theorem sF_0 (q : Int → Int) (b : Int) : sF q b 0 = 0 := by simp [sF]
theorem sF_s (q : Int → Int) (b n : Int) (h : 0 ≤ n) (h2 : n < 4) : sF q b (n + 1) = bor (sF q b n) (bshl 1 (q (b + n))) := by
  rcases (show n = 0 ∨ n = 1 ∨ n = 2 ∨ n = 3 by omega) with rfl | rfl | rfl | rfl <;> simp [sF]
theorem sF_Bn {q : Int → Int} {b : Int} : ∀ n : Nat, n ≤ 4 → (∀ k : Int, 0 ≤ k → k < n → 0 ≤ q (b + k) ∧ q (b + k) < 4) → 0 ≤ sF q b n ∧ sF q b n < 16 ∧ ∀ x, 0 ≤ x → x < 4 → (hasB (sF q b n) x ↔ inq q b n x) := by
  intro n
  induction n with
  | zero =>
    intro _ _
    rw [show ((0 : Nat) : Int) = 0 from rfl, sF_0]
    refine ⟨by omega, by omega, fun x a c => ⟨fun z => absurd z (bit_0 a c), ?_⟩⟩
    rintro ⟨i, i0, i1, -⟩
    omega
  | succ n ih =>
    intro hn h
    obtain ⟨a0, a1, a2⟩ := ih (by omega) (fun k k0 k1 => h k k0 (by omega))
    have hq := h n (by omega) (by omega)
    rw [show ((n + 1 : Nat) : Int) = (n : Int) + 1 from by omega, sF_s q b n (by omega) (by omega)]
    refine ⟨(bit_or_r a0 a1 hq.1 hq.2).1, (bit_or_r a0 a1 hq.1 hq.2).2, fun x x0 x1 => ?_⟩
    rw [bit_or a0 a1 hq.1 hq.2 x0 x1, a2 x x0 x1, inq_s (by omega)]
theorem sF_B {q : Int → Int} {b n : Int} (h0 : 0 ≤ n) (h4 : n ≤ 4) (h : ∀ k : Int, 0 ≤ k → k < n → 0 ≤ q (b + k) ∧ q (b + k) < 4) : 0 ≤ sF q b n ∧ sF q b n < 16 ∧ ∀ x, 0 ≤ x → x < 4 → (hasB (sF q b n) x ↔ inq q b n x) := by
  have e : ((n.toNat : Nat) : Int) = n := by omega
  have := sF_Bn (q := q) (b := b) n.toNat (by omega) (by rw [e]; exact h)
  rw [e] at this
  exact this
theorem inq_cg {q q' : Int → Int} {b c x : Int} (h : ∀ k, 0 ≤ k → k < c → q' (b + k) = q (b + k)) : inq q' b c x ↔ inq q b c x := ⟨fun ⟨i, a, c', e⟩ => ⟨i, a, c', by rw [← h i a c']; exact e⟩, fun ⟨i, a, c', e⟩ => ⟨i, a, c', by rw [h i a c']; exact e⟩⟩
/-- the jobs of an order, behind its colon: where they end, how many, the row -/
noncomputable def jbS (tx : Int → Int) (n m : Int) : Nat → Int → Int → (Int → Int) → Int × Int × (Int → Int)
  | 0, c, a, q => (a, c, q)
  | f + 1, c, a, q => cif (0 ≤ dg tx n a ∧ dg tx n a < 4 ∧ ¬ inq q (4 * m) c (dg tx n a)) (jbS tx n m f (c + 1) (a + 1) (uq q (4 * m + c) (dg tx n a))) (a, c, q)
theorem jbS_1 (tx : Int → Int) (n m : Int) (f : Nat) (c a : Int) (q : Int → Int) : jbS tx n m (f + 1) c a q = cif (0 ≤ dg tx n a ∧ dg tx n a < 4 ∧ ¬ inq q (4 * m) c (dg tx n a)) (jbS tx n m f (c + 1) (a + 1) (uq q (4 * m + c) (dg tx n a))) (a, c, q) := rfl
/-- an order: whether something is wrong, where it ends, the lengths (-1: not named), the rows -/
noncomputable def ordS (tx : Int → Int) (n : Int) (ln q : Int → Int) (a : Int) : Int × Int × (Int → Int) × (Int → Int) := cif (dg tx n a < 0 ∨ 4 ≤ dg tx n a ∨ 0 ≤ ln (dg tx n a)) (1, a, ln, q) (cif (nx tx n (a + 1) ≠ 58) (1, a + 1, ln, q) (0, (jbS tx n (dg tx n a) 4 0 (a + 2) q).1, uq ln (dg tx n a) (jbS tx n (dg tx n a) 4 0 (a + 2) q).2.1, (jbS tx n (dg tx n a) 4 0 (a + 2) q).2.2))
/-- a plan -/
noncomputable def plnS (tx : Int → Int) (n : Int) : Nat → Int → Int → (Int → Int) → (Int → Int) → Int × Int × (Int → Int) × (Int → Int)
  | 0, _, a, ln, q => (0, a, ln, q)
  | f + 1, j, a, ln, q => cif ((ordS tx n ln q a).1 ≠ 0) (1, (ordS tx n ln q a).2.1, ln, q) (cif (nx tx n (ordS tx n ln q a).2.1 = 59 ∧ j + 1 < 4) (plnS tx n f (j + 1) ((ordS tx n ln q a).2.1 + 1) (ordS tx n ln q a).2.2.1 (ordS tx n ln q a).2.2.2) (0, (ordS tx n ln q a).2.1, (ordS tx n ln q a).2.2.1, (ordS tx n ln q a).2.2.2))
theorem plnS_1 (tx : Int → Int) (n : Int) (f : Nat) (j a : Int) (ln q : Int → Int) : plnS tx n (f + 1) j a ln q = cif ((ordS tx n ln q a).1 ≠ 0) (1, (ordS tx n ln q a).2.1, ln, q) (cif (nx tx n (ordS tx n ln q a).2.1 = 59 ∧ j + 1 < 4) (plnS tx n f (j + 1) ((ordS tx n ln q a).2.1 + 1) (ordS tx n ln q a).2.2.1 (ordS tx n ln q a).2.2.2) (0, (ordS tx n ln q a).2.1, (ordS tx n ln q a).2.2.1, (ordS tx n ln q a).2.2.2)) := rfl
noncomputable def pln0 (tx : Int → Int) (n : Int) : Int × Int × (Int → Int) × (Int → Int) := plnS tx n 4 0 0 (fun _ => -1) (fun _ => 0)
noncomputable def plnF (tx : Int → Int) (n : Int) : Int := cif ((pln0 tx n).1 ≠ 0 ∨ (pln0 tx n).2.1 ≠ n) (pln0 tx n).2.1 (-6)
theorem dg_lt {tx : Int → Int} {n a : Int} (h : 0 ≤ dg tx n a) : a < n := by
  rcases dg_r tx n a with q | q
  · omega
  · exact q.2.2
theorem jbS_r (tx : Int → Int) {n m : Int} : ∀ (f : Nat) (c a : Int) (q : Int → Int), a ≤ n → a ≤ (jbS tx n m f c a q).1 ∧ (jbS tx n m f c a q).1 ≤ n := by
  intro f
  induction f with
  | zero => intro c a q h; exact ⟨Int.le_refl _, h⟩
  | succ f ih =>
    intro c a q h
    rw [jbS_1]
    by_cases c1 : 0 ≤ dg tx n a ∧ dg tx n a < 4 ∧ ¬ inq q (4 * m) c (dg tx n a)
    · rw [cif_1 c1]
      have := dg_lt c1.1
      have := ih (c + 1) (a + 1) (uq q (4 * m + c) (dg tx n a)) (by omega)
      omega
    · rw [cif_0 c1]
      exact ⟨Int.le_refl _, h⟩
theorem ordS_r (tx : Int → Int) {n a : Int} {ln q : Int → Int} (h : a ≤ n) : a ≤ (ordS tx n ln q a).2.1 ∧ (ordS tx n ln q a).2.1 ≤ n := by
  unfold ordS
  by_cases c1 : dg tx n a < 0 ∨ 4 ≤ dg tx n a ∨ 0 ≤ ln (dg tx n a)
  · rw [cif_1 c1]
    exact ⟨Int.le_refl _, h⟩
  · rw [cif_0 c1]
    have h1 := dg_lt (tx := tx) (n := n) (a := a) (by rcases Int.lt_or_le (dg tx n a) 0 with z | z; exact absurd (Or.inl z) c1; exact z)
    by_cases c2 : nx tx n (a + 1) ≠ 58
    · rw [cif_1 c2]
      exact ⟨by dsimp only; omega, by dsimp only; omega⟩
    · rw [cif_0 c2]
      have h2 := nx_lt (Classical.not_not.mp c2) (by omega)
      have := jbS_r tx (n := n) (m := dg tx n a) 4 0 (a + 2) q (by omega)
      dsimp only
      omega
/-! the class's draft as a plan -/
def PL (σ : Mem) (i : Nat) (ln q : Int → Int) : Prop := 0 ≤ σ 2 0 3 ∧ σ 2 0 3 < 16 ∧ ∀ m, 0 ≤ m → m < 4 → (hasB (σ 2 0 3) m ↔ 0 ≤ ln m) ∧ σ 13 i m = (if ln m < 0 then 0 else ln m) ∧ oOK q (4 * m) (σ 13 i m) ∧ ∀ k, 0 ≤ k → k < σ 13 i m → σ 14 i (4 * m + k) = q (4 * m + k)
/-- what reading a plan into the state i may change -/
def pPl (i : Nat) (t a : Nat) (x : Int) : Prop := (t = 2 ∧ a = 0 ∧ (x = 2 ∨ x = 3)) ∨ (a = i ∧ (t = 5 ∨ (8 ≤ t ∧ t ≤ 14)))
theorem pPl_c {i : Nat} {σ σ' : Mem} (h : FrG (pPl i) σ σ') : cT σ' = cT σ ∧ cL σ' = cL σ := ⟨h.f 36 0 (by rintro x (⟨q, -⟩ | ⟨-, q⟩) <;> omega), h 2 0 1 (by rintro (⟨-, -, q⟩ | ⟨-, q⟩) <;> omega)⟩
theorem pPd.P {i : Nat} {σ σ' : Mem} (h : FrG pPd σ σ') : FrG (pPl i) σ σ' := h.w (fun _ _ _ q => Or.inl ⟨q.1, q.2.1, Or.inl q.2.2⟩)
theorem PL_cg {σ σ' : Mem} {i : Nat} {ln q : Int → Int} (h : FrG pPd σ σ') (hd : PL σ i ln q) : PL σ' i ln q := by
  unfold PL at hd ⊢
  rw [pPd_f h 13 i (by omega), pPd_f h 14 i (by omega), h 2 0 3 (by rintro ⟨-, -, q⟩; omega)]
  exact hd
/-- a machine is named -/
theorem PL_n {σ σ' : Mem} {i : Nat} {ln q : Int → Int} {m : Int} (h : PL σ i ln q) (m0 : 0 ≤ m) (m1 : m < 4) (hn : ln m < 0) (hs : σ' = up σ 2 0 3 (bor (σ 2 0 3) (bshl 1 m))) : PL σ' i (uq ln m 0) q ∧ σ' 13 i m = 0 := by
  obtain ⟨h1, h2, h3⟩ := h
  have e13 : σ' 13 i = σ 13 i := by rw [hs]; funext x; simp [up_ap]
  have e14 : σ' 14 i = σ 14 i := by rw [hs]; funext x; simp [up_ap]
  have e3 : σ' 2 0 3 = bor (σ 2 0 3) (bshl 1 m) := by rw [hs]; simp [up_ap]
  unfold PL
  rw [e13, e14, e3]
  have hm := h3 m m0 m1
  refine ⟨⟨(bit_or_r h1 h2 m0 m1).1, (bit_or_r h1 h2 m0 m1).2, fun x x0 x1 => ?_⟩, by rw [hm.2.1, if_pos hn]⟩
  obtain ⟨a1, a2, a3, a4⟩ := h3 x x0 x1
  refine ⟨?_, ?_, a3, a4⟩
  · rw [bit_or h1 h2 m0 m1 x0 x1, a1]
    unfold uq
    by_cases z : x = m
    · rw [if_pos z]
      exact ⟨fun _ => Int.le_refl _, fun _ => Or.inr z⟩
    · rw [if_neg z]
      exact ⟨fun y => y.elim id (fun y => absurd y z), Or.inl⟩
  · unfold uq
    by_cases z : x = m
    · rw [if_pos z, if_neg (by omega), z, hm.2.1, if_pos hn]
    · rw [if_neg z]
      exact a2
/-- a job more -/
theorem PL_j {σ σ' : Mem} {i : Nat} {ln q : Int → Int} {m c d : Int} (h : PL σ i ln q) (m0 : 0 ≤ m) (m1 : m < 4) (hc : ln m = c) (c0 : 0 ≤ c) (d0 : 0 ≤ d) (d1 : d < 4) (hn : ¬ inq q (4 * m) c d) (hs : σ' = up (up σ 14 i (4 * m + σ 13 i m) d) 13 i m (σ 13 i m + 1)) : PL σ' i (uq ln m (c + 1)) (uq q (4 * m + c) d) ∧ c < 4 ∧ σ 13 i m = c := by
  obtain ⟨h1, h2, h3⟩ := h
  have hm := h3 m m0 m1
  have hl : σ 13 i m = c := by rw [hm.2.1, hc, if_neg (by omega)]
  have ho := hm.2.2.1
  rw [hl] at ho
  have hO := oOK_s ho d0 d1 hn
  rw [hl] at hs
  have e13 : ∀ x, σ' 13 i x = if x = m then c + 1 else σ 13 i x := by intro x; rw [hs]; simp [up_ap]
  have e14 : ∀ x, σ' 14 i x = if x = 4 * m + c then d else σ 14 i x := by intro x; rw [hs]; simp [up_ap]
  have e3 : σ' 2 0 3 = σ 2 0 3 := by rw [hs]; simp [up_ap]
  refine ⟨?_, hO.1, hl⟩
  unfold PL
  rw [e3]
  refine ⟨h1, h2, fun x x0 x1 => ?_⟩
  obtain ⟨a1, a2, a3, a4⟩ := h3 x x0 x1
  rw [e13]
  by_cases z : x = m
  · subst z
    rw [if_pos rfl]
    have el : uq ln x (c + 1) x = c + 1 := if_pos rfl
    rw [el]
    refine ⟨by rw [a1]; omega, by rw [if_neg (by omega)], hO.2, fun k k0 k1 => ?_⟩
    rw [e14]
    unfold uq
    by_cases y : 4 * x + k = 4 * x + c
    · rw [if_pos y, if_pos y]
    · rw [if_neg y, if_neg y]
      exact a4 k k0 (by omega)
  · rw [if_neg z]
    have el : uq ln m (c + 1) x = ln x := if_neg z
    rw [el]
    have hle := a3.2.1
    have eq : ∀ k, 0 ≤ k → k < σ 13 i x → uq q (4 * m + c) d (4 * x + k) = q (4 * x + k) := fun k k0 k1 => if_neg (by omega)
    refine ⟨a1, a2, ⟨a3.1, a3.2.1, fun k k0 k1 => ?_, fun k k' k0 k1 k2 => ?_⟩, fun k k0 k1 => ?_⟩
    · rw [eq k k0 k1]
      exact a3.2.2.1 k k0 k1
    · rw [eq k k0 (by omega), eq k' (by omega) k2]
      exact a3.2.2.2 k k' k0 k1 k2
    · rw [eq k k0 k1, e14, if_neg (by omega)]
      exact a4 k k0 k1
/-- readOrder's loop: the machine m, c places -/
def ODi (σ σ' : Mem) (i : Nat) (m : Int) (ln q : Int → Int) (c : Int) : Prop := FrG (pPl i) σ σ' ∧ ∃ q', PL σ' i (uq ln m c) q' ∧ 0 ≤ c ∧ c ≤ 4 ∧ 0 ≤ σ' 2 0 2 ∧ σ' 2 0 2 ≤ cL σ ∧ 0 ≤ m ∧ m < 4 ∧ ordS (cT σ) (cL σ) ln q (σ 2 0 2) = (0, (jbS (cT σ) (cL σ) m (4 - c).toNat c (σ' 2 0 2) q').1, uq ln m (jbS (cT σ) (cL σ) m (4 - c).toNat c (σ' 2 0 2) q').2.1, (jbS (cT σ) (cL σ) m (4 - c).toNat c (σ' 2 0 2) q').2.2)
def T_X2_names2 : Tr := fun a σ K => match a with
  | [.inr (.inl (2, 0)), .inl m] => (hasB (σ 2 0 3) m → K (some 1) σ) ∧ (¬ hasB (σ 2 0 3) m → K (some 0) σ)
  | _ => False
theorem m_X2_names2 : ∀ a σ K, T_X2_names2 a σ K → T_X2_names a σ K := by
  intro a σ K h
  unfold T_X2_names2 at h
  unfold T_X2_names
  split at h
  · rename_i m
    show K (some (if band (bshr (σ 2 0 3) m) 1 ≠ 0 then 1 else 0)) σ
    by_cases z : hasB (σ 2 0 3) m
    · rw [if_pos (show band (bshr (σ 2 0 3) m) 1 ≠ 0 from z)]
      exact h.1 z
    · rw [if_neg (show ¬ band (bshr (σ 2 0 3) m) 1 ≠ 0 from z)]
      exact h.2 z
  · exact h.elim
def T_X5_append2 : Tr := fun a σ K => match a with
  | [.inr (.inl (5, i)), .inl m, .inl j] => (0 ≤ m ∧ m < 4 ∧ 0 ≤ σ 13 i m ∧ σ 13 i m < 4) ∧ ∀ σ', σ' = up (up σ 14 i (4 * m + σ 13 i m) j) 13 i m (σ 13 i m + 1) → K none σ'
  | _ => False
theorem m_X5_append2 : ∀ a σ K, T_X5_append2 a σ K → T_X5_append a σ K := by
  intro a σ K h
  unfold T_X5_append2 at h
  unfold T_X5_append
  split at h
  · obtain ⟨⟨p1, p2, p3, p4⟩, h1⟩ := h
    refine ⟨⟨p1, p2, p3, by omega⟩, ?_⟩
    rw [if_pos p4]
    exact h1 _ rfl
  · exact h.elim
