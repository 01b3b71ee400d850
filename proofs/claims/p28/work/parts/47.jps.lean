/-! a machine that may interrupt operations: what is left at each time, the greatest end with its tail -/
def jav (e : Int → Prop) (r l : Int → Int) (t k : Int) : Prop := e k ∧ 0 < l k ∧ r k ≤ t
def isC (e : Int → Prop) (r q l : Int → Int) (t c : Int) : Prop := (c = -6 ∧ ∀ k, 0 ≤ k → k < 4 → ¬ jav e r l t k) ∨ (0 ≤ c ∧ c < 4 ∧ jav e r l t c ∧ (∀ k, 0 ≤ k → k < 4 → jav e r l t k → q k ≤ q c) ∧ ∀ k, 0 ≤ k → k < c → jav e r l t k → q k < q c)
def JR (e : Int → Prop) (p r q : Int → Int) : Nat → (Int → Int) → Int → Prop
  | 0, l, g => (∀ k, 0 ≤ k → k < 4 → (e k → l k = p k) ∧ (¬ e k → l k = 0)) ∧ g = 0
  | t + 1, l', g' => ∃ (l : Int → Int) (g c : Int), JR e p r q t l g ∧ isC e r q l t c ∧ ((c = -6 ∧ (∀ k, 0 ≤ k → k < 4 → l' k = l k) ∧ g' = g) ∨ (0 ≤ c ∧ (∀ k, 0 ≤ k → k < 4 → l' k = if k = c then l k - 1 else l k) ∧ g' = if l c = 1 ∧ g < t + 1 + q c then t + 1 + q c else g))
theorem isC_cg {e : Int → Prop} {r q l l' : Int → Int} {t c : Int} (h : ∀ k, 0 ≤ k → k < 4 → l' k = l k) (hc : isC e r q l t c) : isC e r q l' t c := by
  have hj : ∀ k, 0 ≤ k → k < 4 → (jav e r l' t k ↔ jav e r l t k) := fun k a b => by unfold jav; rw [h k a b]
  rcases hc with ⟨a1, a2⟩ | ⟨a1, a2, a3, a4, a5⟩
  · exact Or.inl ⟨a1, fun k p q => fun z => a2 k p q ((hj k p q).mp z)⟩
  · exact Or.inr ⟨a1, a2, (hj c a1 a2).mpr a3, fun k p q z => a4 k p q ((hj k p q).mp z), fun k p q z => a5 k p q ((hj k p (by omega)).mp z)⟩
theorem isC_un {e : Int → Prop} {r q l : Int → Int} {t c c' : Int} (h : isC e r q l t c) (h' : isC e r q l t c') : c = c' := by
  rcases h with ⟨a1, a2⟩ | ⟨a1, a2, a3, a4, a5⟩ <;> rcases h' with ⟨b1, b2⟩ | ⟨b1, b2, b3, b4, b5⟩
  · omega
  · exact absurd b3 (a2 c' b1 b2)
  · exact absurd a3 (b2 c a1 a2)
  · rcases (show c < c' ∨ c = c' ∨ c' < c by omega) with q | q | q
    · have := b5 c a1 q a3
      have := a4 c' b1 b2 b3
      omega
    · exact q
    · have := a5 c' b1 q b3
      have := b4 c a1 a2 a3
      omega
theorem JR_cg {e : Int → Prop} {p r q : Int → Int} {t : Nat} {l l' : Int → Int} {g : Int} (h : JR e p r q t l g) (hl : ∀ k, 0 ≤ k → k < 4 → l' k = l k) : JR e p r q t l' g := by
  cases t with
  | zero => exact ⟨fun k a b => by rw [hl k a b]; exact h.1 k a b, h.2⟩
  | succ t =>
    obtain ⟨l0, g0, c, h1, h2, h3⟩ := h
    refine ⟨l0, g0, c, h1, h2, ?_⟩
    rcases h3 with ⟨a1, a2, a3⟩ | ⟨a1, a2, a3⟩
    · exact Or.inl ⟨a1, fun k a b => by rw [hl k a b]; exact a2 k a b, a3⟩
    · exact Or.inr ⟨a1, fun k a b => by rw [hl k a b]; exact a2 k a b, a3⟩
theorem JR_un {e : Int → Prop} {p r q : Int → Int} : ∀ {t : Nat} {l l' : Int → Int} {g g' : Int}, JR e p r q t l g → JR e p r q t l' g' → (∀ k, 0 ≤ k → k < 4 → l k = l' k) ∧ g = g' := by
  intro t
  induction t with
  | zero =>
    intro l l' g g' h h'
    refine ⟨fun k a b => ?_, by rw [h.2, h'.2]⟩
    by_cases c : e k
    · rw [(h.1 k a b).1 c, (h'.1 k a b).1 c]
    · rw [(h.1 k a b).2 c, (h'.1 k a b).2 c]
  | succ t ih =>
    intro l l' g g' h h'
    obtain ⟨l0, g0, c, h1, h2, h3⟩ := h
    obtain ⟨l1, g1, c', h1', h2', h3'⟩ := h'
    obtain ⟨e1, e2⟩ := ih h1 h1'
    subst e2
    have := isC_un h2 (isC_cg e1 h2')
    subst this
    rcases h3 with ⟨a1, a2, a3⟩ | ⟨a1, a2, a3⟩ <;> rcases h3' with ⟨b1, b2, b3⟩ | ⟨b1, b2, b3⟩
    · exact ⟨fun k a b => by rw [a2 k a b, b2 k a b, e1 k a b], by rw [a3, b3]⟩
    · omega
    · omega
    · have hc4 : c < 4 := by
        rcases h2 with ⟨q1, -⟩ | ⟨-, q1, -⟩ <;> omega
      refine ⟨fun k a b => by rw [a2 k a b, b2 k a b, e1 k a b], by rw [a3, b3, e1 c a1 hc4]⟩
theorem JR_nn {e : Int → Prop} {p r q : Int → Int} (hp : ∀ k, 0 ≤ k → k < 4 → e k → 0 ≤ p k) : ∀ {t : Nat} {l : Int → Int} {g : Int}, JR e p r q t l g → (∀ k, 0 ≤ k → k < 4 → 0 ≤ l k ∧ (e k → l k ≤ p k) ∧ (¬ e k → l k = 0) ∧ (e k → t ≤ r k → l k = p k)) ∧ 0 ≤ g := by
  intro t
  induction t with
  | zero =>
    intro l g h
    refine ⟨fun k a b => ?_, by rw [h.2]; exact Int.le_refl _⟩
    have h1 := h.1 k a b
    by_cases c : e k
    · have := h1.1 c
      have := hp k a b c
      exact ⟨by omega, fun _ => by omega, fun q => absurd c q, fun _ _ => by assumption⟩
    · have := h1.2 c
      exact ⟨by omega, fun q => absurd q c, fun _ => this, fun q => absurd q c⟩
  | succ t ih =>
    intro l g h
    obtain ⟨l0, g0, c, h1, h2, h3⟩ := h
    obtain ⟨i1, i2⟩ := ih h1
    rcases h3 with ⟨a1, a2, a3⟩ | ⟨a1, a2, a3⟩
    · refine ⟨fun k a b => ?_, by rw [a3]; exact i2⟩
      have := i1 k a b
      rw [a2 k a b]
      exact ⟨this.1, this.2.1, this.2.2.1, fun x y => this.2.2.2 x (by omega)⟩
    · rcases h2 with ⟨c1, c2⟩ | ⟨c1, c2, c3, c4, c5⟩
      · omega
      · refine ⟨fun k a b => ?_, ?_⟩
        · have := i1 k a b
          rw [a2 k a b]
          by_cases q : k = c
          · subst q
            rw [if_pos rfl]
            have h3 := c3.2.1
            have h4 := c3.2.2
            exact ⟨by omega, fun x => by have := this.2.1 x; omega, fun x => absurd c3.1 x, fun x y => by omega⟩
          · rw [if_neg q]
            exact ⟨this.1, this.2.1, this.2.2.1, fun x y => this.2.2.2 x (by omega)⟩
        · rw [a3]
          split <;> omega
/-- nothing can be worked on for j turns of the time -/
theorem JR_idle {e : Int → Prop} {p r q : Int → Int} {t : Nat} {l : Int → Int} {g : Int} (h : JR e p r q t l g) (w : Nat) (hn : ∀ k, 0 ≤ k → k < 4 → ¬ jav e r l (t + w - 1) k) : JR e p r q (t + w) l g := by
  have key : ∀ j : Nat, j ≤ w → JR e p r q (t + j) l g := by
    intro j
    induction j with
    | zero => intro _; exact h
    | succ j ih =>
      intro hj
      show JR e p r q ((t + j) + 1) l g
      refine ⟨l, g, -6, ih (by omega), Or.inl ⟨rfl, fun k a b z => hn k a b ⟨z.1, z.2.1, ?_⟩⟩, Or.inl ⟨rfl, fun _ _ _ => rfl, rfl⟩⟩
      have := z.2.2
      omega
  exact key w (Nat.le_refl w)
/-- c is worked on for w turns of the time -/
theorem JR_run {e : Int → Prop} {p r q : Int → Int} {t : Nat} {l : Int → Int} {g c : Int} (h : JR e p r q t l g) (hc : isC e r q l t c) (c0 : 0 ≤ c) (w : Nat) (hw : (w : Int) ≤ l c) (hn : ∀ k, 0 ≤ k → k < 4 → e k → t < r k → t + w ≤ r k) : JR e p r q (t + w) (fun k => if k = c then l k - w else l k) (if l c = w ∧ g < t + w + q c then t + w + q c else g) := by
  have hc2 : c < 4 ∧ jav e r l t c ∧ (∀ k, 0 ≤ k → k < 4 → jav e r l t k → q k ≤ q c) ∧ ∀ k, 0 ≤ k → k < c → jav e r l t k → q k < q c := by
    rcases hc with ⟨a1, -⟩ | ⟨-, a2⟩
    · omega
    · exact a2
  obtain ⟨c1, c2, c3, c4⟩ := hc2
  have hl := c2.2.1
  have key : ∀ j : Nat, j ≤ w → JR e p r q (t + j) (fun k => if k = c then l k - j else l k) (if l c = j ∧ g < t + j + q c then t + j + q c else g) := by
    intro j
    induction j with
    | zero =>
      intro _
      have e1 : ¬ (l c = ((0 : Nat) : Int) ∧ g < t + ((0 : Nat) : Int) + q c) := by omega
      rw [if_neg e1]
      exact JR_cg h (fun k a b => by simp)
    | succ j ih =>
      intro hj
      have i1 := ih (by omega)
      have e1 : ¬ (l c = (j : Int) ∧ g < t + (j : Int) + q c) := by omega
      rw [if_neg e1] at i1
      have hjv : ∀ k, 0 ≤ k → k < 4 → (jav e r (fun k => if k = c then l k - j else l k) ((t + j : Nat) : Int) k ↔ jav e r l t k) := by
        intro k a b
        unfold jav
        by_cases z : k = c
        · subst z
          simp only [if_true]
          have := c2.2.2
          constructor
          · rintro ⟨z1, z2, z3⟩
            exact ⟨z1, hl, this⟩
          · rintro ⟨z1, z2, z3⟩
            exact ⟨z1, by omega, by omega⟩
        · simp only [if_neg z]
          constructor
          · rintro ⟨z1, z2, z3⟩
            refine ⟨z1, z2, ?_⟩
            rcases Int.lt_or_le t (r k) with y | y
            · have := hn k a b z1 y
              omega
            · exact y
          · rintro ⟨z1, z2, z3⟩
            exact ⟨z1, z2, by omega⟩
      show JR e p r q ((t + j) + 1) _ _
      refine ⟨_, _, c, i1, Or.inr ⟨c0, c1, (hjv c c0 c1).mpr c2, fun k a b z => c3 k a b ((hjv k a b).mp z), fun k a b z => c4 k a b ((hjv k a (by omega)).mp z)⟩, Or.inr ⟨c0, fun k a b => ?_, ?_⟩⟩
      · dsimp only
        split <;> omega
      · simp only [if_true]
        have e2 : (((t + j : Nat) : Int) + 1 + q c) = (t : Int) + ((j + 1 : Nat) : Int) + q c := by omega
        rw [e2]
        by_cases z : l c = ((j + 1 : Nat) : Int) ∧ g < (t : Int) + ((j + 1 : Nat) : Int) + q c
        · rw [if_pos z, if_pos (by omega)]
        · rw [if_neg z, if_neg (by omega)]
  exact key w (Nat.le_refl w)
/-- the machine's bound -/
def JB (e : Int → Prop) (p r q : Int → Int) (B : Int) : Prop := ∃ (t : Nat) (l : Int → Int), JR e p r q t l B ∧ ∀ k, 0 ≤ k → k < 4 → l k ≤ 0
theorem JB_un {e : Int → Prop} {p r q : Int → Int} {B B' : Int} (h : JB e p r q B) (h' : JB e p r q B') : B = B' := by
  obtain ⟨t, l, h1, h2⟩ := h
  obtain ⟨t', l', h1', h2'⟩ := h'
  have a := JR_idle h1 t' (fun k x y z => by have := h2 k x y; have := z.2.1; omega)
  have b := JR_idle h1' t (fun k x y z => by have := h2' k x y; have := z.2.1; omega)
  rw [Nat.add_comm] at b
  exact (JR_un a b).2
/-! boundOf -/
def bE (σ : Mem) (n : Nat) (m : Int) (k : Int) : Prop := 0 ≤ σ 19 n (4 * m + k)
def bF (σ : Mem) (t n : Nat) (m : Int) (k : Int) : Int := σ t n (σ 19 n (4 * m + k))
def p26 (n : Nat) (t a : Nat) (_x : Int) : Prop := t = 26 ∧ a = n
/-- heads that come, operations that are left -/
noncomputable def jme (e : Int → Prop) (r l : Int → Int) (t : Int) : Int := b2i (e 0 ∧ t < r 0) + b2i (e 1 ∧ t < r 1) + b2i (e 2 ∧ t < r 2) + b2i (e 3 ∧ t < r 3) + b2i (0 < l 0) + b2i (0 < l 1) + b2i (0 < l 2) + b2i (0 < l 3)
theorem jme_dn {e : Int → Prop} {r l l' : Int → Int} {t t' : Int} (ht : t ≤ t') (hl : ∀ k, 0 ≤ k → k < 4 → l' k ≤ l k) {k : Int} (k0 : 0 ≤ k) (k1 : k < 4) (hd : (e k ∧ t < r k ∧ r k ≤ t') ∨ (0 < l k ∧ l' k ≤ 0)) : jme e r l' t' + 1 ≤ jme e r l t := by
  have a : ∀ k, b2i (e k ∧ t' < r k) ≤ b2i (e k ∧ t < r k) := fun k => b2i_le (fun q => ⟨q.1, by omega⟩)
  have b : ∀ k, 0 ≤ k → k < 4 → b2i (0 < l' k) ≤ b2i (0 < l k) := fun k x y => b2i_le (fun q => by have := hl k x y; omega)
  have a0 := a 0
  have a1 := a 1
  have a2 := a 2
  have a3 := a 3
  have b0 := b 0 (by omega) (by omega)
  have b1 := b 1 (by omega) (by omega)
  have b2 := b 2 (by omega) (by omega)
  have b3 := b 3 (by omega) (by omega)
  have c : (b2i (e k ∧ t' < r k) = 0 ∧ b2i (e k ∧ t < r k) = 1) ∨ (b2i (0 < l' k) = 0 ∧ b2i (0 < l k) = 1) := by
    rcases hd with ⟨d1, d2, d3⟩ | ⟨d1, d2⟩
    · exact Or.inl ⟨b2i_0 (by omega), b2i_1 ⟨d1, d2⟩⟩
    · exact Or.inr ⟨b2i_0 (by omega), b2i_1 d1⟩
  unfold jme
  rcases (show k = 0 ∨ k = 1 ∨ k = 2 ∨ k = 3 by omega) with rfl | rfl | rfl | rfl <;> omega
theorem jme_r (e : Int → Prop) (r l : Int → Int) (t : Int) : 0 ≤ jme e r l t ∧ jme e r l t ≤ 8 := by
  have a0 := b2i_r (e 0 ∧ t < r 0)
  have a1 := b2i_r (e 1 ∧ t < r 1)
  have a2 := b2i_r (e 2 ∧ t < r 2)
  have a3 := b2i_r (e 3 ∧ t < r 3)
  have b0 := b2i_r (0 < l 0)
  have b1 := b2i_r (0 < l 1)
  have b2 := b2i_r (0 < l 2)
  have b3 := b2i_r (0 < l 3)
  unfold jme
  omega
/-- boundOf's turns -/
def BI (σ σ' : Mem) (n : Nat) (m g tm tn : Int) : Prop := FrG (p26 n) σ σ' ∧ 0 ≤ tm ∧ JR (bE σ n m) (bF σ 17 n m) (bF σ 21 n m) (bF σ 22 n m) tm.toNat (σ' 26 n) g ∧ tm + σ' 26 n 0 + σ' 26 n 1 + σ' 26 n 2 + σ' 26 n 3 ≤ 780 ∧ 0 ≤ tn ∧ tn + jme (bE σ n m) (bF σ 21 n m) (σ' 26 n) tm ≤ 8 ∧ g ≤ 1100
def B0 (σ σ' : Mem) (n : Nat) (m k : Int) : Prop := FrG (p26 n) σ σ' ∧ ∀ j, 0 ≤ j → j < k → σ' 26 n j = if 0 ≤ σ 19 n (4 * m + j) then σ 17 n (σ 19 n (4 * m + j)) else 0
theorem B0_0 {σ : Mem} {n : Nat} {m : Int} : B0 σ σ n m 0 := ⟨FrG.r, fun j a b => by omega⟩
theorem B0_s {σ σ' : Mem} {n : Nat} {m k v : Int} (h : B0 σ σ' n m k) (hv : v = if 0 ≤ σ 19 n (4 * m + k) then σ 17 n (σ 19 n (4 * m + k)) else 0) : B0 σ (up σ' 26 n k v) n m (k + 1) := by
  refine ⟨h.1.u ⟨rfl, rfl⟩, fun j a b => ?_⟩
  by_cases c : j = k
  · subst c
    rw [up_ap, if_pos ⟨rfl, rfl, rfl⟩]
    exact hv
  · rw [up_ap, if_neg (fun q => c q.2.2)]
    exact h.2 j a (by omega)
/-- what is known of the jobs of a machine -/
theorem bK {σ : Mem} {n : Nat} {m : Int} (hB : nB σ n) (hH : nH σ n) (m0 : 0 ≤ m) (m1 : m < 4) {k : Int} (k0 : 0 ≤ k) (k1 : k < 4) : σ 19 n (4 * m + k) < 16 ∧ (bE σ n m k → 1 ≤ bF σ 17 n m k ∧ bF σ 17 n m k ≤ 20 ∧ 0 ≤ bF σ 21 n m k ∧ bF σ 21 n m k ≤ 700 ∧ 0 ≤ bF σ 22 n m k ∧ bF σ 22 n m k ≤ 320) := by
  refine ⟨NB_16 hB m0 m1 k0 k1, fun q => ?_⟩
  have v := (hB.2.2 m k m0 m1 k0 k1 q).1
  have h1 := hH _ v
  have h2 := hB.2.1 _ v
  unfold bF
  omega
theorem BI_0 {σ σ' : Mem} {n : Nat} {m : Int} (hB : nB σ n) (hH : nH σ n) (m0 : 0 ≤ m) (m1 : m < 4) {k : Int} (h : B0 σ σ' n m k) (hk : 4 ≤ k) : BI σ σ' n m 0 0 0 := by
  have l : ∀ j, 0 ≤ j → j < 4 → (bE σ n m j → σ' 26 n j = bF σ 17 n m j) ∧ (¬ bE σ n m j → σ' 26 n j = 0) := by
    intro j a b
    have := h.2 j a (by omega)
    refine ⟨fun q => ?_, fun q => ?_⟩
    · rw [if_pos (show 0 ≤ σ 19 n (4 * m + j) from q)] at this
      exact this
    · rw [if_neg (show ¬ 0 ≤ σ 19 n (4 * m + j) from q)] at this
      exact this
  have b : ∀ j, 0 ≤ j → j < 4 → σ' 26 n j ≤ 20 := by
    intro j x y
    by_cases c : bE σ n m j
    · have := (l j x y).1 c
      have := (bK hB hH m0 m1 x y).2 c
      omega
    · have := (l j x y).2 c
      omega
  have b0 := b 0 (by omega) (by omega)
  have b1 := b 1 (by omega) (by omega)
  have b2 := b 2 (by omega) (by omega)
  have b3 := b 3 (by omega) (by omega)
  have := jme_r (bE σ n m) (bF σ 21 n m) (σ' 26 n) 0
  exact ⟨h.1, by omega, ⟨l, rfl⟩, by omega, by omega, by omega, by omega⟩
/-- what boundOf finds -/
def BE (σ σ' : Mem) (n : Nat) (m B : Int) : Prop := FrG (p26 n) σ σ' ∧ JB (bE σ n m) (bF σ 17 n m) (bF σ 21 n m) (bF σ 22 n m) B ∧ 0 ≤ B ∧ B ≤ 1100
theorem BI_l {σ σ' : Mem} {n : Nat} {m g tm tn : Int} (hB : nB σ n) (hH : nH σ n) (m0 : 0 ≤ m) (m1 : m < 4) (h : BI σ σ' n m g tm tn) : (∀ k, 0 ≤ k → k < 4 → 0 ≤ σ' 26 n k ∧ σ' 26 n k ≤ 20) ∧ 0 ≤ g := by
  have := JR_nn (fun k a b c => by have := (bK hB hH m0 m1 a b).2 c; omega) h.2.2.1
  refine ⟨fun k a b => ⟨(this.1 k a b).1, ?_⟩, this.2⟩
  by_cases c : bE σ n m k
  · have h1 := (this.1 k a b).2.1 c
    have h2 := (bK hB hH m0 m1 a b).2 c
    omega
  · have h1 := (this.1 k a b).2.2.1 c
    omega
/-- nextHead, mostUrgent in these words -/
theorem BI_ni {σ σ' : Mem} {n : Nat} {m g tm tn r : Int} (hB : nB σ n) (hH : nH σ n) (m0 : 0 ≤ m) (m1 : m < 4) (h : BI σ σ' n m g tm tn) (hr : NI σ' n m tm r 4) : tm < r ∧ (∀ k, 0 ≤ k → k < 4 → bE σ n m k → tm < bF σ 21 n m k → r ≤ bF σ 21 n m k) ∧ ((r = 1000 ∧ ∀ k, 0 ≤ k → k < 4 → bE σ n m k → bF σ 21 n m k ≤ tm) ∨ (r ≤ 700 ∧ ∃ k, 0 ≤ k ∧ k < 4 ∧ bE σ n m k ∧ tm < bF σ 21 n m k ∧ r = bF σ 21 n m k)) := by
  have hl := (BI_l hB hH m0 m1 h).1
  have l0 := hl 0 (by omega) (by omega)
  have l1 := hl 1 (by omega) (by omega)
  have l2 := hl 2 (by omega) (by omega)
  have l3 := hl 3 (by omega) (by omega)
  obtain ⟨a1, a2, a3, a4, a5, a6, a7⟩ := h
  have e19 : ∀ x, σ' 19 n x = σ 19 n x := fun x => a1 19 n x (by rintro ⟨q, -⟩; omega)
  have e21 : ∀ x, σ' 21 n x = σ 21 n x := fun x => a1 21 n x (by rintro ⟨q, -⟩; omega)
  obtain ⟨b1, b2, b3⟩ := hr
  simp only [e19, e21] at b2 b3
  have h2 : ∀ k, 0 ≤ k → k < 4 → bE σ n m k → tm < bF σ 21 n m k → r ≤ bF σ 21 n m k := fun k x y z w => b2 k x y z w
  rcases b3 with b3 | ⟨k, k0, k1, k2, k3, b3⟩
  · refine ⟨by omega, h2, Or.inl ⟨b3, fun k x y z => ?_⟩⟩
    have := h2 k x y z
    have := (bK hB hH m0 m1 x y).2 z
    omega
  · have hk : bE σ n m k := k2
    have := (bK hB hH m0 m1 k0 k1).2 hk
    exact ⟨by omega, h2, Or.inr ⟨by unfold bF at this; omega, k, k0, k1, hk, k3, b3⟩⟩
theorem BI_mu {σ σ' : Mem} {n : Nat} {m g tm tn c gg : Int} (h : BI σ σ' n m g tm tn) (hc : UI σ' n m tm c gg 4) : isC (bE σ n m) (bF σ 21 n m) (bF σ 22 n m) (σ' 26 n) tm c := by
  obtain ⟨a1, a2, a3, a4, a5, a6, a7⟩ := h
  have e19 : ∀ x, σ' 19 n x = σ 19 n x := fun x => a1 19 n x (by rintro ⟨q, -⟩; omega)
  have e21 : ∀ x, σ' 21 n x = σ 21 n x := fun x => a1 21 n x (by rintro ⟨q, -⟩; omega)
  have e22 : ∀ x, σ' 22 n x = σ 22 n x := fun x => a1 22 n x (by rintro ⟨q, -⟩; omega)
  have hj : ∀ k, uE σ' n m tm k ↔ jav (bE σ n m) (bF σ 21 n m) (σ' 26 n) tm k := by
    intro k
    unfold uE jav bE bF
    rw [e19, e21]
  rcases hc with ⟨b1, b2, b3⟩ | ⟨b1, b2, b3, b4, b5, b6⟩
  · exact Or.inl ⟨b1, fun k x y z => b3 k x y ((hj k).mpr z)⟩
  · rw [e19, e22] at b4
    refine Or.inr ⟨b1, b2, (hj c).mp b3, fun k x y z => ?_, fun k x y z => ?_⟩
    · have := b5 k x y ((hj k).mpr z)
      rw [e19, e22, b4] at this
      exact this
    · have := b6 k x y ((hj k).mpr z)
      rw [e19, e22, b4] at this
      exact this
theorem BI_end {σ σ' : Mem} {n : Nat} {m g tm tn r : Int} (hB : nB σ n) (hH : nH σ n) (m0 : 0 ≤ m) (m1 : m < 4) (h : BI σ σ' n m g tm tn) (hr : NI σ' n m tm r 4) (hr2 : r = 1000) (hc : isC (bE σ n m) (bF σ 21 n m) (bF σ 22 n m) (σ' 26 n) tm (-6)) : BE σ σ' n m g := by
  have hl := BI_l hB hH m0 m1 h
  obtain ⟨b1, b2, b3⟩ := BI_ni hB hH m0 m1 h hr
  have a := h.2.2.1
  have nn := JR_nn (fun k a b c => by have := (bK hB hH m0 m1 a b).2 c; omega) a
  refine ⟨h.1, ⟨tm.toNat, σ' 26 n, a, fun k x y => ?_⟩, hl.2, h.2.2.2.2.2.2⟩
  by_cases c : bE σ n m k
  · rcases hc with ⟨-, c2⟩ | ⟨c2, -⟩
    · rcases b3 with ⟨-, b3⟩ | ⟨b3, -⟩
      · have := b3 k x y c
        rcases Int.lt_or_le 0 (σ' 26 n k) with z | z
        · exact absurd ⟨c, z, this⟩ (c2 k x y)
        · exact z
      · omega
    · omega
  · have := (nn.1 k x y).2.2.1 c
    omega
theorem BI_stop {σ σ' : Mem} {n : Nat} {m g tm tn : Int} (h : BI σ σ' n m g tm tn) : tn ≤ 8 := by
  have := jme_r (bE σ n m) (bF σ 21 n m) (σ' 26 n) tm
  have := h.2.2.2.2.2.1
  omega
theorem BI_wait {σ σ' : Mem} {n : Nat} {m g tm tn r : Int} (hB : nB σ n) (hH : nH σ n) (m0 : 0 ≤ m) (m1 : m < 4) (h : BI σ σ' n m g tm tn) (hr : NI σ' n m tm r 4) (hr2 : r ≠ 1000) (hc : isC (bE σ n m) (bF σ 21 n m) (bF σ 22 n m) (σ' 26 n) tm (-6)) : BI σ σ' n m g r (tn + 1) := by
  have hl := (BI_l hB hH m0 m1 h).1
  have l0 := hl 0 (by omega) (by omega)
  have l1 := hl 1 (by omega) (by omega)
  have l2 := hl 2 (by omega) (by omega)
  have l3 := hl 3 (by omega) (by omega)
  obtain ⟨b1, b2, b3⟩ := BI_ni hB hH m0 m1 h hr
  obtain ⟨a1, a2, a3, a4, a5, a6, a7⟩ := h
  rcases b3 with ⟨b3, -⟩ | ⟨b3, k, k0, k1, k2, k3, k4⟩
  · exact absurd b3 hr2
  · have hidle := JR_idle a3 (r - tm).toNat (by
      intro k x y z
      rcases hc with ⟨-, c2⟩ | ⟨c2, -⟩
      · refine c2 k x y ⟨z.1, z.2.1, ?_⟩
        rcases Int.lt_or_le tm (bF σ 21 n m k) with w | w
        · have := b2 k x y z.1 w
          have := z.2.2
          omega
        · exact w
      · omega)
    have e : tm.toNat + (r - tm).toNat = r.toNat := by omega
    rw [e] at hidle
    have := jme_dn (e := bE σ n m) (r := bF σ 21 n m) (l := σ' 26 n) (l' := σ' 26 n) (t := tm) (t' := r) (by omega) (fun _ _ _ => Int.le_refl _) k0 k1 (Or.inl ⟨k2, k3, by omega⟩)
    exact ⟨a1, by omega, hidle, by omega, by omega, by omega, a7⟩
/-- c is worked on, for w -/
theorem BI_work {σ σ' : Mem} {n : Nat} {m g tm tn r c w g' : Int} (hB : nB σ n) (hH : nH σ n) (m0 : 0 ≤ m) (m1 : m < 4) (h : BI σ σ' n m g tm tn) (hr : NI σ' n m tm r 4) (hc : isC (bE σ n m) (bF σ 21 n m) (bF σ 22 n m) (σ' 26 n) tm c) (c0 : c ≠ -6) (hw : w = if r - tm ≤ σ' 26 n c then r - tm else σ' 26 n c) (hg : g' = if σ' 26 n c = w ∧ g < tm + w + bF σ 22 n m c then tm + w + bF σ 22 n m c else g) : BI σ (up σ' 26 n c (σ' 26 n c - w)) n m g' (tm + w) (tn + 1) := by
  have hl := (BI_l hB hH m0 m1 h).1
  have l0 := hl 0 (by omega) (by omega)
  have l1 := hl 1 (by omega) (by omega)
  have l2 := hl 2 (by omega) (by omega)
  have l3 := hl 3 (by omega) (by omega)
  obtain ⟨b1, b2, b3⟩ := BI_ni hB hH m0 m1 h hr
  obtain ⟨a1, a2, a3, a4, a5, a6, a7⟩ := h
  have hc' := hc
  rcases hc with ⟨c1, -⟩ | ⟨c1, c2, c3, c4, c5⟩
  · exact absurd c1 c0
  · have hlc := hl c c1 c2
    have hp := c3.2.1
    have hw0 : 0 < w ∧ w ≤ σ' 26 n c ∧ w ≤ r - tm := by
      rw [hw]
      split <;> omega
    have e0 : ((tm.toNat : Nat) : Int) = tm := by omega
    have ew : ((w.toNat : Nat) : Int) = w := by omega
    have hrun := JR_run a3 (by rw [e0]; exact hc') c1 w.toNat (by omega) (by
      intro k x y z1 z2
      have := b2 k x y z1 (by omega)
      omega)
    rw [ew, e0, ← hg] at hrun
    have e : tm.toNat + w.toNat = (tm + w).toNat := by omega
    rw [e] at hrun
    have e26 : (up σ' 26 n c (σ' 26 n c - w)) 26 n = fun k => if k = c then σ' 26 n k - w else σ' 26 n k := by
      funext k
      by_cases z : k = c
      · subst z
        simp [up_ap]
      · simp [up_ap, z]
    have hle : ∀ k, 0 ≤ k → k < 4 → (if k = c then σ' 26 n k - w else σ' 26 n k) ≤ σ' 26 n k := by
      intro k x y
      split <;> omega
    have hbF := (bK hB hH m0 m1 c1 c2).2 c3.1
    have hme : jme (bE σ n m) (bF σ 21 n m) (fun k => if k = c then σ' 26 n k - w else σ' 26 n k) (tm + w) + 1 ≤ jme (bE σ n m) (bF σ 21 n m) (σ' 26 n) tm := by
      by_cases z : w = σ' 26 n c
      · exact jme_dn (by omega) hle c1 c2 (Or.inr ⟨hp, by rw [if_pos rfl]; omega⟩)
      · have hwr : w = r - tm := by
          rw [hw] at z ⊢
          split at z
          · rename_i y
            rw [if_pos y]
          · exact absurd rfl z
        rcases b3 with ⟨b3, -⟩ | ⟨b3, k, k0, k1, k2, k3, k4⟩
        · omega
        · exact jme_dn (by omega) hle k0 k1 (Or.inl ⟨k2, k3, by omega⟩)
    refine ⟨a1.u ⟨rfl, rfl⟩, by omega, ?_, ?_, by omega, ?_, ?_⟩
    · rw [e26]
      exact hrun
    · rw [e26]
      dsimp only
      rcases (show c = 0 ∨ c = 1 ∨ c = 2 ∨ c = 3 by omega) with rfl | rfl | rfl | rfl <;> simp only [Int.reduceEq, if_true, if_false] <;> omega
    · rw [e26]
      omega
    · rw [hg]
      have : tm + σ' 26 n c ≤ 780 := by
        rcases (show c = 0 ∨ c = 1 ∨ c = 2 ∨ c = 3 by omega) with rfl | rfl | rfl | rfl <;> omega
      split <;> omega
