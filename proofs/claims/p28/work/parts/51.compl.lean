/-! search: all pairs decided -/
/-- a relation that decides all pairs and keeps u -/
def Sol (st mc du rd : Int → Int) (u : Int) (C : Int → Int → Prop) : Prop := (∀ x y, vOp st x → vOp st y → x ≠ y → mc x = mc y → C x y ∨ C y x) ∧ Clo st mc du rd u C
/-- what a search's completing may change: its net, its witness, the rows of the pairs from p on -/
def pC (s : Nat) (p : Int) (t a : Nat) (x : Int) : Prop := pK (s + 2) t a x ∨ (t = 30 ∧ a = s) ∨ (t = 32 ∧ ∃ q : Nat, p ≤ q ∧ q < 25 ∧ a = 25 * s + q)
theorem pC.w {s : Nat} {p p' : Int} (h : p ≤ p') : ∀ t a x, pC s p' t a x → pC s p t a x := by
  rintro t a x (q | q | ⟨q, k, k0, k1, k2⟩)
  · exact Or.inl q
  · exact Or.inr (Or.inl q)
  · exact Or.inr (Or.inr ⟨q, k, by omega, k1, k2⟩)
theorem pC.f {s : Nat} {p : Int} {σ σ' : Mem} (h : FrG (pC s p) σ σ') (t : Nat) (ht : t ≠ 1 ∧ (t < 20 ∨ 25 < t) ∧ t ≠ 30 ∧ t ≠ 32) (a : Nat) : σ' t a = σ t a := h.f t a (by
  rintro x (⟨-, q⟩ | ⟨q, -⟩ | ⟨q, -⟩) <;> omega)
theorem pC.B {s : Nat} {p : Int} {σ σ' : Mem} (h : FrG (pC s p) σ σ') (hB : nB σ (s + 2)) : nB σ' (s + 2) := by
  unfold nB
  rw [pC.f h 15 (by omega), pC.f h 16 (by omega), pC.f h 17 (by omega), pC.f h 18 (by omega), pC.f h 19 (by omega)]
  exact hB
theorem pC.O {s : Nat} {p : Int} {σ σ' : Mem} (h : FrG (pC s p) σ σ') (hO : nO σ (s + 2)) : nO σ' (s + 2) := by
  unfold nO
  rw [h 1 (s + 2) 9 (by rintro (⟨-, q⟩ | ⟨q, -⟩ | ⟨q, -⟩) <;> omega), pC.f h 15 (by omega)]
  exact hO
theorem pC.R {s : Nat} {p : Int} {σ σ' : Mem} (h : FrG (pC s p) σ σ') (q : Nat) (hq : (q : Int) < p) : σ' 32 (25 * s + q) = σ 32 (25 * s + q) := h.f 32 _ (by
  rintro x (⟨q1, q2⟩ | ⟨q1, q2⟩ | ⟨q1, k, k0, k1, k2⟩) <;> omega)
theorem pK.C {s : Nat} {p : Int} {σ σ' : Mem} (h : FrG (pK (s + 2)) σ σ') : FrG (pC s p) σ σ' := h.w (fun _ _ _ q => Or.inl q)
theorem pAh.C {s : Nat} {p : Int} {σ σ' : Mem} (h : FrG (pAh (s + 2)) σ σ') : FrG (pC s p) σ σ' := pK.C (pAh.K h)
/-- rows that are the same at the operations -/
theorem sbA_cg {st mc ah ah' : Int → Int} {A : Int → Int → Prop} (h : ∀ x, 0 ≤ x → x < 16 → ah' x = ah x) : sbA st mc ah' A ↔ sbA st mc ah A := by
  have e : ∀ o, vOp st o → ah' o = ah o := fun o v => h o v.1 v.2.1
  constructor
  · intro H o' o v' v hm hb
    exact H o' o v' v hm (by rw [e o v]; exact hb)
  · intro H o' o v' v hm hb
    exact H o' o v' v hm (by rw [← e o v]; exact hb)
theorem NA_cg {st mc on ah ah' : Int → Int} (h : ∀ x, 0 ≤ x → x < 16 → ah' x = ah x) (hA : NA st mc on ah) : NA st mc on ah' := by
  intro o v
  rw [h o v.1 v.2.1]
  exact hA o v
theorem und_cg {st mc du rd on ah ah' : Int → Int} (hB : NB st mc du rd on) (h : ∀ x, 0 ≤ x → x < 16 → ah' x = ah x) {m i j : Int} (m0 : 0 ≤ m) (m1 : m < 4) (i0 : 0 ≤ i) (i1 : i < 4) (j0 : 0 ≤ j) (j1 : j < 4) : und ah' (on (4 * m + i)) (on (4 * m + j)) ↔ und ah (on (4 * m + i)) (on (4 * m + j)) := by
  unfold und
  constructor
  · rintro ⟨a, b, c, d⟩
    rw [h _ b (NB_16 hB m0 m1 j0 j1)] at c
    rw [h _ a (NB_16 hB m0 m1 i0 i1)] at d
    exact ⟨a, b, c, d⟩
  · rintro ⟨a, b, c, d⟩
    rw [h _ b (NB_16 hB m0 m1 j0 j1), h _ a (NB_16 hB m0 m1 i0 i1)]
    exact ⟨a, b, c, d⟩
theorem mnA_cg {st ah ah' : Int → Int} (h : ∀ x, 0 ≤ x → x < 16 → ah' x = ah x) : mnA st ah ah' := fun o k v _ _ q => by
  rw [h o v.1 v.2.1]
  exact q
theorem dc_cg {st mc du rd on ah ah' : Int → Int} (hB : NB st mc du rd on) (h : ∀ x, 0 ≤ x → x < 16 → ah' x = ah x) : dc on ah' = dc on ah := by
  have h1 := dc_mono hB (mnA_cg (st := st) h)
  have h2 := dc_mono hB (mnA_cg (st := st) (ah := ah') (ah' := ah) (fun x a b => (h x a b).symm))
  omega
theorem mnA_sb {st mc ah ah' : Int → Int} {A : Int → Int → Prop} (h : mnA st ah ah') (hs : sbA st mc ah' A) : sbA st mc ah A := fun o' o v' v hm hb => hs o' o v' v hm (h o (o' / 4) v (vOp_j v').1 (vOp_j v').2.1 hb)
theorem sbA_rA {st mc ah ah' : Int → Int} (h : mnA st ah ah') : sbA st mc ah (rA ah') := fun o' o v' v _ hb => h o (o' / 4) v (vOp_j v').1 (vOp_j v').2.1 hb
theorem rA_mn {st mc du rd on ah ah' : Int → Int} (hB : NB st mc du rd on) (hA : NA st mc on ah) (h : sbA st mc ah (rA ah')) : mnA st ah ah' := by
  intro o k v k0 k1 q
  obtain ⟨a, b⟩ := (hA o v).2.2 k k0 k1 q
  obtain ⟨m0, m1, -⟩ := hB.2.1 o v
  obtain ⟨c1, c2, c3⟩ := hB.2.2 (mc o) k m0 m1 k0 k1 b
  have := h _ o c1 v c2 (by rw [c3]; exact q)
  unfold rA at this
  rw [c3] at this
  exact this
/-- all pairs decided, by the two numbers of a pair -/
theorem all_dec {st mc du rd on ah : Int → Int} (hB : NB st mc du rd on) (h : ∀ m i j, 0 ≤ m → m < 4 → 0 ≤ i → i < j → j < 4 → ¬ und ah (on (4 * m + i)) (on (4 * m + j))) : ∀ x y, vOp st x → vOp st y → x ≠ y → mc x = mc y → rA ah x y ∨ rA ah y x := by
  intro x y vx vy hne hm
  obtain ⟨m0, m1, -, -, -, -, ox⟩ := hB.2.1 x vx
  have oy := (hB.2.1 y vy).2.2.2.2.2.2
  rw [← hm] at oy
  have hjx := vOp_j vx
  have hjy := vOp_j vy
  have hne4 : x / 4 ≠ y / 4 := by
    intro q
    rw [q] at ox
    omega
  by_cases c1 : hasB (ah y) (x / 4)
  · exact Or.inl c1
  · by_cases c2 : hasB (ah x) (y / 4)
    · exact Or.inr c2
    · exfalso
      rcases (show x / 4 < y / 4 ∨ y / 4 < x / 4 by omega) with q | q
      · have := h (mc x) (x / 4) (y / 4) m0 m1 hjx.1 q hjy.2.1
        rw [ox, oy] at this
        exact this ⟨vx.1, vy.1, c1, c2⟩
      · have := h (mc x) (y / 4) (x / 4) m0 m1 hjy.1 q hjx.2.1
        rw [ox, oy] at this
        exact this ⟨vy.1, vx.1, c2, c1⟩
/-- the witness of a search -/
def Wit (σ : Mem) (s : Nat) (u : Int) (ah : Int → Int) : Prop := NA (σ 15 (s + 2)) (σ 16 (s + 2)) (σ 19 (s + 2)) (σ 30 s) ∧ mnA (σ 15 (s + 2)) ah (σ 30 s) ∧ Sol (σ 15 (s + 2)) (σ 16 (s + 2)) (σ 17 (s + 2)) (σ 18 (s + 2)) u (rA (σ 30 s))
def CmT (σ σ' : Mem) (s : Nat) (p u : Int) : Prop := FrG (pC s p) σ σ' ∧ nA σ' (s + 2) ∧ Wit σ' s u (σ 20 (s + 2))
def noS (σ : Mem) (s : Nat) (u : Int) (ah : Int → Int) : Prop := ∀ C, Sol (σ 15 (s + 2)) (σ 16 (s + 2)) (σ 17 (s + 2)) (σ 18 (s + 2)) u C → ¬ sbA (σ 15 (s + 2)) (σ 16 (s + 2)) ah C
def CmF (σ σ' : Mem) (s : Nat) (p u : Int) : Prop := FrG (pC s p) σ σ' ∧ nA σ' (s + 2) ∧ σ' 30 s = σ 30 s ∧ noS σ s u (σ 20 (s + 2))
/-- behind keeps and a pair that is decided one way: the net is fit for the next one -/
def CmN (σ σ' : Mem) (s : Nat) (p : Int) (x y : Int) : Prop := FrG (pC s p) σ σ' ∧ nB σ' (s + 2) ∧ nA σ' (s + 2) ∧ nO σ' (s + 2) ∧ p + 1 ≤ dc (σ' 19 (s + 2)) (σ' 20 (s + 2)) ∧ σ' 30 s = σ 30 s
theorem noS_kf {σ : Mem} {s : Nat} {u : Int} (h : KF σ (s + 2) u) : noS σ s u (σ 20 (s + 2)) := fun C hC hs => h C hC.2 hs
/-- copyRow in words: row (t, a) gets the 16 numbers of (t', a') -/
def Cpy (σ σ' : Mem) (t a t' a' : Nat) (n : Int) : Prop := (∀ t1 i1 j1, (t1 ≠ t ∨ i1 ≠ a) → σ' t1 i1 j1 = σ t1 i1 j1) ∧ (∀ j, 0 ≤ j → j < n → σ' t a j = σ t' a' j)
theorem Cpy.row {σ σ' : Mem} {t a t' a' : Nat} {n : Int} (h : Cpy σ σ' t a t' a' n) {t1 a1 : Nat} (hq : t1 ≠ t ∨ a1 ≠ a) : σ' t1 a1 = σ t1 a1 := funext fun x => h.1 t1 a1 x hq
theorem Cpy.Fr {σ σ' : Mem} {t a t' a' : Nat} {n : Int} {P : Nat → Nat → Int → Prop} (h : Cpy σ σ' t a t' a' n) (hP : ∀ x, P t a x) : FrG P σ σ' := by
  intro t1 a1 x q
  refine h.1 t1 a1 x ?_
  by_cases c : t1 = t
  · by_cases d : a1 = a
    · subst c
      subst d
      exact absurd (hP x) q
    · exact Or.inr d
  · exact Or.inl c
/-- the end of completing: all is decided, the witness is laid aside -/
theorem Cm_all {σ σ1 σ2 : Mem} {s : Nat} {p u : Int} (hB : nB σ (s + 2)) (hK : KT σ σ1 (s + 2) u) (hall : ∀ m i j, 0 ≤ m → m < 4 → 0 ≤ i → i < j → j < 4 → ¬ und (σ1 20 (s + 2)) (σ1 19 (s + 2) (4 * m + i)) (σ1 19 (s + 2) (4 * m + j))) (hc : Cpy σ1 σ2 30 s 20 (s + 2) 16) : CmT σ σ2 s p u := by
  obtain ⟨a1, a2, a3, a4, a5, a6, a7⟩ := hK
  have hB1 := pK.B a1 hB
  have f := fun t (ht : t ≠ 30) => hc.row (t1 := t) (a1 := s + 2) (Or.inl ht)
  have g := pK.f a1
  refine ⟨(pK.C a1).t (hc.Fr (fun x => Or.inr (Or.inl ⟨rfl, rfl⟩))), ?_, ?_⟩
  · unfold nA
    rw [f 15 (by omega), f 16 (by omega), f 19 (by omega), f 20 (by omega)]
    exact a2
  · have e : ∀ x, 0 ≤ x → x < 16 → σ2 30 s x = σ1 20 (s + 2) x := hc.2
    unfold Wit
    rw [f 15 (by omega), f 16 (by omega), f 17 (by omega), f 18 (by omega), f 19 (by omega)]
    have hm : mnA (σ1 15 (s + 2)) (σ1 20 (s + 2)) (σ2 30 s) := mnA_cg e
    refine ⟨NA_cg e a2, mnA.t (by rw [g 15 (by omega)]; exact a3) hm, ?_, ?_⟩
    · intro x y vx vy hne hmc
      have := all_dec hB1 hall x y vx vy hne hmc
      unfold rA at this ⊢
      rw [e x vx.1 vx.2.1, e y vy.1 vy.2.1]
      exact this
    · rw [g 15 (by omega), g 16 (by omega), g 17 (by omega), g 18 (by omega)]
      obtain ⟨h, t, H, T, hu, hcl⟩ := a7
      have hiff : ∀ o' o, vOp (σ 15 (s + 2)) o' → vOp (σ 15 (s + 2)) o → (pA (σ 16 (s + 2)) (rA (σ2 30 s)) o' o ↔ pA (σ 16 (s + 2)) (rA (σ1 20 (s + 2))) o' o) := by
        intro o' o v' v
        unfold pA rA
        rw [e o v.1 v.2.1]
      refine ⟨h, t, fun o v => ?_, fun o v => ?_, hu, fun x y vx vy hne hm2 hw => ?_⟩
      · obtain ⟨b1, b2, b3⟩ := H o v
        refine ⟨b1, fun o' v' p' => b2 o' v' ((hiff o' o v' v).mp p'), ?_⟩
        rcases b3 with b3 | ⟨o', v', p', b3⟩
        · exact Or.inl b3
        · exact Or.inr ⟨o', v', (hiff o' o v' v).mpr p', b3⟩
      · obtain ⟨b1, b2, b3⟩ := T o v
        refine ⟨b1, fun o' v' p' => b2 o' v' ((hiff o o' v v').mp p'), ?_⟩
        rcases b3 with b3 | ⟨o', v', p', b3⟩
        · exact Or.inl b3
        · exact Or.inr ⟨o', v', (hiff o o' v v').mpr p', b3⟩
      · have := hcl x y vx vy hne hm2 hw
        unfold rA at this ⊢
        rw [e x vx.1 vx.2.1]
        exact this
/-- x is decided to go ahead of y, where none of both was: all that is wanted of the row -/
theorem dec_row {st mc du rd on ah ah' : Int → Int} (hB : NB st mc du rd on) (hA : NA st mc on ah) {x y : Int} (vx : vOp st x) (vy : vOp st y) (hne : x ≠ y) (hm : mc x = mc y) (hu : und ah x y) (he : ∀ o, 0 ≤ o → o < 16 → ah' o = if o = y then bor (ah y) (bshl 1 (x / 4)) else ah o) : NA st mc on ah' ∧ mnA st ah ah' ∧ dc on ah + 1 ≤ dc on ah' ∧ ∀ C, sbA st mc ah C → C x y → sbA st mc ah' C := by
  obtain ⟨m0, m1, -, -, -, -, ox⟩ := hB.2.1 x vx
  have oy := (hB.2.1 y vy).2.2.2.2.2.2
  rw [← hm] at oy
  have hjx := vOp_j vx
  have hjy := vOp_j vy
  have hne4 : x / 4 ≠ y / 4 := by
    intro q
    rw [q] at ox
    omega
  obtain ⟨r0, r1, r2⟩ := hA y vy
  have bits : ∀ o k, vOp st o → 0 ≤ k → k < 4 → (hasB (ah' o) k ↔ hasB (ah o) k ∨ (o = y ∧ k = x / 4)) := by
    intro o k v k0 k1
    rw [he o v.1 v.2.1]
    by_cases c : o = y
    · subst c
      rw [if_pos rfl, bit_or r0 r1 hjx.1 hjx.2.1 k0 k1]
      simp
    · rw [if_neg c]
      simp [c]
  have hmn : mnA st ah ah' := fun o k v k0 k1 q => (bits o k v k0 k1).mpr (Or.inl q)
  refine ⟨fun o v => ?_, hmn, ?_, fun C hs hc o' o v' v hmc hb => ?_⟩
  · obtain ⟨s0, s1, s2⟩ := hA o v
    have hr := bit_or_r r0 r1 hjx.1 hjx.2.1
    refine ⟨?_, ?_, fun k k0 k1 q => ?_⟩
    · rw [he o v.1 v.2.1]
      split
      · exact hr.1
      · exact s0
    · rw [he o v.1 v.2.1]
      split
      · exact hr.2
      · exact s1
    · rcases (bits o k v k0 k1).mp q with c | ⟨rfl, rfl⟩
      · exact s2 k k0 k1 c
      · refine ⟨hne4, ?_⟩
        rw [← hm, ox]
        exact vx.1
  · have nu : ¬ und ah' x y := by
      rintro ⟨-, -, q, -⟩
      exact q ((bits y (x / 4) vy hjx.1 hjx.2.1).mpr (Or.inr ⟨rfl, rfl⟩))
    rcases (show x / 4 < y / 4 ∨ y / 4 < x / 4 by omega) with q | q
    · exact dc_step hB hmn m0 m1 hjx.1 q hjy.2.1 (by rw [ox, oy]; exact hu) (by rw [ox, oy]; exact nu)
    · exact dc_step hB hmn m0 m1 hjy.1 q hjx.2.1 (by rw [ox, oy]; exact ⟨hu.2.1, hu.1, hu.2.2.2, hu.2.2.1⟩) (by rw [ox, oy]; exact fun z => nu ⟨z.2.1, z.1, z.2.2.2, z.2.2.1⟩)
  · rcases (bits o (o' / 4) v (vOp_j v').1 (vOp_j v').2.1).mp hb with c | ⟨rfl, c⟩
    · exact hs o' o v' v hmc c
    · have eo := (hB.2.1 o' v').2.2.2.2.2.2
      rw [hmc, ← hm, c, ox] at eo
      rw [← eo]
      exact hc
/-- the first try of a pair -/
theorem Cm_one {σ σ1 σ2 : Mem} {s : Nat} {p u x y : Int} (hB : nB σ (s + 2)) (hO : nO σ (s + 2)) (hp : p ≤ dc (σ 19 (s + 2)) (σ 20 (s + 2))) (p0 : 0 ≤ p) (hK : KT σ σ1 (s + 2) u) (vx : vOp (σ1 15 (s + 2)) x) (vy : vOp (σ1 15 (s + 2)) y) (hne : x ≠ y) (hm : σ1 16 (s + 2) x = σ1 16 (s + 2) y) (hu : und (σ1 20 (s + 2)) x y) (hF : FrG (pC s p) σ1 σ2) (he : ∀ o, 0 ≤ o → o < 16 → σ2 20 (s + 2) o = if o = y then bor (σ1 20 (s + 2) y) (bshl 1 (x / 4)) else σ1 20 (s + 2) o) : nB σ2 (s + 2) ∧ nA σ2 (s + 2) ∧ nO σ2 (s + 2) ∧ p + 1 ≤ dc (σ2 19 (s + 2)) (σ2 20 (s + 2)) ∧ mnA (σ 15 (s + 2)) (σ 20 (s + 2)) (σ2 20 (s + 2)) ∧ (∀ C, Sol (σ 15 (s + 2)) (σ 16 (s + 2)) (σ 17 (s + 2)) (σ 18 (s + 2)) u C → sbA (σ 15 (s + 2)) (σ 16 (s + 2)) (σ 20 (s + 2)) C → C x y → sbA (σ 15 (s + 2)) (σ 16 (s + 2)) (σ2 20 (s + 2)) C) := by
  obtain ⟨a1, a2, a3, a4, a5, a6, a7⟩ := hK
  have hB1 := pK.B a1 hB
  have g := pK.f a1
  obtain ⟨b1, b2, b3, b4⟩ := dec_row hB1 a2 vx vy hne hm hu he
  have hd := dc_mono hB a3
  have f := fun t ht => pC.f hF t ht (s + 2)
  refine ⟨pC.B hF hB1, ?_, pC.O hF (pK.O a1 hO), ?_, ?_, fun C hC hs hc => ?_⟩
  · unfold nA
    rw [f 15 (by omega), f 16 (by omega), f 19 (by omega)]
    exact b1
  · rw [f 19 (by omega)]
    rw [g 19 (by omega)] at b3 ⊢
    omega
  · rw [g 15 (by omega)] at b2
    exact a3.t b2
  · have := b4 C
    rw [g 15 (by omega), g 16 (by omega)] at this
    exact this (a4 C hC.2 hs) hc
theorem noS_cg {σ σ' : Mem} {s : Nat} {p u : Int} {ah : Int → Int} (hF : FrG (pC s p) σ σ') (h : noS σ' s u ah) : noS σ s u ah := by
  have f := fun t ht => pC.f hF t ht (s + 2)
  unfold noS at h
  rw [f 15 (by omega), f 16 (by omega), f 17 (by omega), f 18 (by omega)] at h
  exact h
theorem Wit_mn {σ : Mem} {s : Nat} {u : Int} {a b : Int → Int} (h : mnA (σ 15 (s + 2)) a b) (hw : Wit σ s u b) : Wit σ s u a := ⟨hw.1, h.t hw.2.1, hw.2.2⟩
theorem Cm_T {σ σ1 σ3 σ4 : Mem} {s : Nat} {p u : Int} (hK : FrG (pK (s + 2)) σ σ1) (hF : FrG (pC s p) σ1 σ3) (hm : mnA (σ 15 (s + 2)) (σ 20 (s + 2)) (σ3 20 (s + 2))) (hT : CmT σ3 σ4 s (p + 1) u) : CmT σ σ4 s p u := by
  have h1 : FrG (pC s p) σ σ3 := (pK.C hK).t hF
  have h2 : FrG (pC s p) σ σ4 := h1.t (hT.1.w (pC.w (by omega)))
  refine ⟨h2, hT.2.1, Wit_mn ?_ hT.2.2⟩
  rw [pC.f h2 15 (by omega)]
  exact hm
