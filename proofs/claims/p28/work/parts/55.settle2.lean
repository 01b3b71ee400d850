/-- jobsLeft, over the places from the machine's first one to e -/
def JL (on f : Int → Int) (p r e : Int) : Prop := 0 ≤ r ∧ r < 16 ∧ ∀ j, 0 ≤ j → j < 4 → (hasB r j ↔ (0 ≤ on (4 * (p / 4) + j) ∧ ∀ x, 4 * (p / 4) ≤ x → x < e → f x ≠ j))
theorem JL_0 {on f : Int → Int} {p r : Int} (h0 : 0 ≤ r) (h1 : r < 16) (h : ∀ k, 0 ≤ k → k < 4 → (hasB r k ↔ 0 ≤ on (4 * (p / 4) + k))) : JL on f p r (4 * (p / 4)) := ⟨h0, h1, fun j a b => by
  rw [h j a b]
  exact ⟨fun q => ⟨q, fun x x0 x1 => by omega⟩, fun q => q.1⟩⟩
theorem JL_n {on f : Int → Int} {p r e : Int} (h : JL on f p r e) (hn : f e < 0) : JL on f p r (e + 1) := ⟨h.1, h.2.1, fun j a b => by
  rw [h.2.2 j a b]
  constructor
  · rintro ⟨q1, q2⟩
    refine ⟨q1, fun x x0 x1 => ?_⟩
    rcases (show x < e ∨ x = e by omega) with c | rfl
    · exact q2 x x0 c
    · omega
  · rintro ⟨q1, q2⟩
    exact ⟨q1, fun x x0 x1 => q2 x x0 (by omega)⟩⟩
theorem JL_s {on f : Int → Int} {p r e : Int} (h : JL on f p r e) (he : 4 * (p / 4) ≤ e) (h0 : 0 ≤ f e) (h4 : f e < 4) : JL on f p (band r (bxor (bshl 1 (f e)) (-1))) (e + 1) := by
  obtain ⟨a, b, c⟩ := h
  have q := bit_cl_r a b h0 h4
  refine ⟨q.1, q.2, fun j j0 j1 => ?_⟩
  rw [bit_cl a b h0 h4 j0 j1, c j j0 j1]
  constructor
  · rintro ⟨⟨q1, q2⟩, q3⟩
    refine ⟨q1, fun x x0 x1 => ?_⟩
    rcases (show x < e ∨ x = e by omega) with d | rfl
    · exact q2 x x0 d
    · exact fun z => q3 z.symm
  · rintro ⟨q1, q2⟩
    exact ⟨⟨q1, fun x x0 x1 => q2 x x0 (by omega)⟩, fun z => q2 e he (by omega) z.symm⟩
/-- what settling a place may change -/
def pS (s : Nat) (t a : Nat) (x : Int) : Prop := pC s 0 t a x ∨ (t = 28 ∧ a = s) ∨ (t = 29 ∧ a = s)
theorem pC.S {s : Nat} {σ σ' : Mem} (h : FrG (pC s 0) σ σ') : FrG (pS s) σ σ' := h.w (fun _ _ _ q => Or.inl q)
theorem pS.f {s : Nat} {σ σ' : Mem} (h : FrG (pS s) σ σ') (t : Nat) (ht : t ≠ 1 ∧ (t < 20 ∨ 25 < t) ∧ t ≠ 28 ∧ t ≠ 29 ∧ t ≠ 30 ∧ t ≠ 32) (a : Nat) : σ' t a = σ t a := h.f t a (by
  rintro x ((⟨-, q⟩ | ⟨q, -⟩ | ⟨q, -⟩) | ⟨q, -⟩ | ⟨q, -⟩) <;> omega)
def sSQ (σ : Mem) (s : Nat) (a0 ah w f : Int → Int) (u p : Int) : Prop := SQ (σ 15 (s + 2)) (σ 16 (s + 2)) (σ 17 (s + 2)) (σ 18 (s + 2)) (σ 19 (s + 2)) a0 ah w f u p
theorem sSQ_cg {σ σ' : Mem} {s : Nat} {a0 ah w f : Int → Int} {u p : Int} (h : FrG (pS s) σ σ') : sSQ σ' s a0 ah w f u p ↔ sSQ σ s a0 ah w f u p := by
  unfold sSQ
  rw [pS.f h 15 (by omega), pS.f h 16 (by omega), pS.f h 17 (by omega), pS.f h 18 (by omega), pS.f h 19 (by omega)]
theorem pS.O {s : Nat} {σ σ' : Mem} (h : FrG (pS s) σ σ') (hO : nO σ (s + 2)) : nO σ' (s + 2) := by
  unfold nO
  rw [h 1 (s + 2) 9 (by rintro ((⟨-, q⟩ | ⟨q, -⟩ | ⟨q, -⟩) | ⟨q, -⟩ | ⟨q, -⟩) <;> omega), pS.f h 15 (by omega)]
  exact hO
theorem pS.B {s : Nat} {σ σ' : Mem} (h : FrG (pS s) σ σ') (hB : nB σ (s + 2)) : nB σ' (s + 2) := by
  unfold nB
  rw [pS.f h 15 (by omega), pS.f h 16 (by omega), pS.f h 17 (by omega), pS.f h 18 (by omega), pS.f h 19 (by omega)]
  exact hB
/-- no one of the jobs below j may be the first one that is left -/
def noF (σ : Mem) (s : Nat) (u p j : Int) (ah : Int → Int) : Prop := ∀ j', 0 ≤ j' → j' < j → lf (σ 19 (s + 2)) (σ 27 s) p j' → ∀ C, Sol (σ 15 (s + 2)) (σ 16 (s + 2)) (σ 17 (s + 2)) (σ 18 (s + 2)) u C → sbA (σ 15 (s + 2)) (σ 16 (s + 2)) ah C → ∃ k, 0 ≤ k ∧ k < 4 ∧ lf (σ 19 (s + 2)) (σ 27 s) p k ∧ k ≠ j' ∧ C (σ 19 (s + 2) (4 * (p / 4) + k)) (σ 19 (s + 2) (4 * (p / 4) + j'))
/-- settle, with the jobs below j tried -/
def SLi (σ σ' : Mem) (s : Nat) (p j r : Int) : Prop := FrG (pS s) σ σ' ∧ nA σ' (s + 2) ∧ (∀ x, 0 ≤ x → x < 16 → σ' 20 (s + 2) x = σ 28 s x) ∧ σ' 28 s = σ 28 s ∧ σ' 30 s = σ 30 s ∧ JL (σ 19 (s + 2)) (σ 27 s) p r p ∧ noF σ s (σ 4 s 2) p j (σ 28 s)
theorem noF_s {σ : Mem} {s : Nat} {u p j : Int} {ah : Int → Int} (h : noF σ s u p j ah) (hn : lf (σ 19 (s + 2)) (σ 27 s) p j → ∀ C, Sol (σ 15 (s + 2)) (σ 16 (s + 2)) (σ 17 (s + 2)) (σ 18 (s + 2)) u C → sbA (σ 15 (s + 2)) (σ 16 (s + 2)) ah C → ∃ k, 0 ≤ k ∧ k < 4 ∧ lf (σ 19 (s + 2)) (σ 27 s) p k ∧ k ≠ j ∧ C (σ 19 (s + 2) (4 * (p / 4) + k)) (σ 19 (s + 2) (4 * (p / 4) + j))) : noF σ s u p (j + 1) ah := by
  intro j' j0 j1 hl
  rcases (show j' < j ∨ j' = j by omega) with c | rfl
  · exact h j' j0 c hl
  · exact hn hl
theorem SLi_0 {σ σ' : Mem} {s : Nat} {p r : Int} (hA : NA (σ 15 (s + 2)) (σ 16 (s + 2)) (σ 19 (s + 2)) (σ 28 s)) (hJ : JL (σ 19 (s + 2)) (σ 27 s) p r p) (hc : Cpy σ σ' 20 (s + 2) 28 s 16) : SLi σ σ' s p 0 r := by
  have f := fun t (ht : t ≠ 20) a => hc.row (t1 := t) (a1 := a) (Or.inl ht)
  refine ⟨hc.Fr (fun x => Or.inl (Or.inl ⟨rfl, Or.inl rfl⟩)), ?_, hc.2, f 28 (by omega) s, f 30 (by omega) s, hJ, fun j' a b => by omega⟩
  unfold nA
  rw [f 15 (by omega), f 16 (by omega), f 19 (by omega)]
  exact NA_cg hc.2 hA
/-- a job that isn't tried -/
theorem SLi_skip {σ σ' : Mem} {s : Nat} {p j r : Int} (h : SLi σ σ' s p j r) (hn : lf (σ 19 (s + 2)) (σ 27 s) p j → ∀ C, Sol (σ 15 (s + 2)) (σ 16 (s + 2)) (σ 17 (s + 2)) (σ 18 (s + 2)) (σ 4 s 2) C → sbA (σ 15 (s + 2)) (σ 16 (s + 2)) (σ 28 s) C → ∃ k, 0 ≤ k ∧ k < 4 ∧ lf (σ 19 (s + 2)) (σ 27 s) p k ∧ k ≠ j ∧ C (σ 19 (s + 2) (4 * (p / 4) + k)) (σ 19 (s + 2) (4 * (p / 4) + j))) : SLi σ σ' s p (j + 1) r := ⟨h.1, h.2.1, h.2.2.1, h.2.2.2.1, h.2.2.2.2.1, h.2.2.2.2.2.1, noF_s h.2.2.2.2.2.2 hn⟩
theorem SLi_out {σ σ' : Mem} {s : Nat} {p j r : Int} (h : SLi σ σ' s p j r) (j0 : 0 ≤ j) (j1 : j < 4) (hn : ¬ hasB r j ∨ σ 19 (s + 2) (4 * (p / 4) + j) < 0) : SLi σ σ' s p (j + 1) r := SLi_skip h (fun hl => by
  rcases hn with c | c
  · exact absurd ((h.2.2.2.2.2.1.2.2 j j0 j1).mpr hl) c
  · have := hl.1
    omega)
/-- a job that has one of those left ahead of it -/
theorem SLi_behind {σ σ' : Mem} {s : Nat} {a0 : Int → Int} {u p j r : Int} (hS : sSQ σ s a0 (σ 28 s) (σ 30 s) (σ 27 s) u p) (p0 : 0 ≤ p) (p1 : p < 16) (h : SLi σ σ' s p j r) (j0 : 0 ≤ j) (j1 : j < 4) (hn : band (σ 28 s (σ 19 (s + 2) (4 * (p / 4) + j))) r ≠ 0) : SLi σ σ' s p (j + 1) r := SLi_skip h (fun hl C hC hs => by
  have hv := hS.1.2.2 (p / 4) j (by omega) (by omega) j0 j1 hl.1
  obtain ⟨r0, r1, r2⟩ := hS.2.1 _ hv.1
  obtain ⟨q0, q1, q2⟩ := h.2.2.2.2.2.1
  rw [ne_eq, bit_and r0 r1 q0 q1] at hn
  apply Classical.byContradiction
  intro hne
  refine hn (fun k k0 k1 z => hne ?_)
  obtain ⟨z1, z2⟩ := z
  have hlk := (q2 k k0 k1).mp z2
  have hvk := hS.1.2.2 (p / 4) k (by omega) (by omega) k0 k1 hlk.1
  have hkj := (r2 k k0 k1 z1).1
  rw [hv.2.2] at hkj
  exact ⟨k, k0, k1, hlk, hkj, hs _ _ hvk.1 hv.1 (by omega) (by rw [hvk.2.2]; exact z1)⟩)
/-- the row with j ahead of the others that are left -/
theorem SLi_row {σ σ' σ2 : Mem} {s : Nat} {a0 : Int → Int} {u p j r : Int} (hS : sSQ σ s a0 (σ 28 s) (σ 30 s) (σ 27 s) u p) (p0 : 0 ≤ p) (p1 : p < 16) (h : SLi σ σ' s p j r) (j0 : 0 ≤ j) (j1 : j < 4) (hj : hasB r j) (hL : LI σ' σ2 (s + 2) (p / 4) (band r (bxor (bshl 1 j) (-1))) j 4) : FrG (pS s) σ σ2 ∧ nB σ2 (s + 2) ∧ nA σ2 (s + 2) ∧ NA (σ 15 (s + 2)) (σ 16 (s + 2)) (σ 19 (s + 2)) (σ2 20 (s + 2)) ∧ mnA (σ 15 (s + 2)) (σ 28 s) (σ2 20 (s + 2)) ∧ (∀ k, 0 ≤ k → k < 4 → lf (σ 19 (s + 2)) (σ 27 s) p k → k ≠ j → hasB (σ2 20 (s + 2) (σ 19 (s + 2) (4 * (p / 4) + k))) j) ∧ (∀ C, sbA (σ 15 (s + 2)) (σ 16 (s + 2)) (σ 28 s) C → (∀ k, 0 ≤ k → k < 4 → lf (σ 19 (s + 2)) (σ 27 s) p k → k ≠ j → C (σ 19 (s + 2) (4 * (p / 4) + j)) (σ 19 (s + 2) (4 * (p / 4) + k))) → sbA (σ 15 (s + 2)) (σ 16 (s + 2)) (σ2 20 (s + 2)) C) := by
  obtain ⟨a1, a2, a3, a4, a5, ⟨q0, q1, q2⟩, a7⟩ := h
  obtain ⟨l1, l2, l3⟩ := hL
  have hF2 : FrG (pS s) σ' σ2 := fun t a x q => l1 t a x (by
    by_cases c : t = 20
    · exact Or.inr (fun d => q (Or.inl (Or.inl ⟨d, Or.inl c⟩)))
    · exact Or.inl c)
  have e19 : ∀ x, σ' 19 (s + 2) x = σ 19 (s + 2) x := fun x => by rw [pS.f a1 19 (by omega)]
  have hF := a1.t hF2
  have hbit : ∀ k, 0 ≤ k → k < 4 → (hasB (band r (bxor (bshl 1 j) (-1))) k ↔ lf (σ 19 (s + 2)) (σ 27 s) p k ∧ k ≠ j) := by
    intro k k0 k1
    rw [bit_cl q0 q1 j0 j1 k0 k1, q2 k k0 k1]
    rfl
  have row := first_row (ah' := σ2 20 (s + 2)) hS.1 hS.2.1 (m := p / 4) (by omega) (by omega) j0 j1 ((q2 j j0 j1).mp hj).1 (U := fun k => lf (σ 19 (s + 2)) (σ 27 s) p k ∧ k ≠ j) (fun k k0 k1 z => ⟨z.1.1, z.2⟩) (fun k k0 k1 z => by
    have := l3 k k0 k1 ((hbit k k0 k1).mpr z) (by rw [e19]; exact z.1.1)
    rw [e19] at this
    rw [this, a3 _ z.1.1 (NB_16 hS.1 (by omega) (by omega) k0 k1)]) (fun o o0 o1 z => by
    rw [l2 o (fun k k0 k1 y => by rw [e19]; exact z k k0 k1 ((hbit k k0 k1).mp y)), a3 o o0 o1])
  refine ⟨hF, pS.B hF hS.1, ?_, row.1, row.2.1, fun k k0 k1 z1 z2 => row.2.2.1 k k0 k1 ⟨z1, z2⟩, fun C hs hc => row.2.2.2 C hs (fun k k0 k1 z => hc k k0 k1 z.1 z.2)⟩
  unfold nA
  rw [pS.f hF 15 (by omega), pS.f hF 16 (by omega), pS.f hF 19 (by omega)]
  exact row.1
/-- the witness has j first -/
theorem SLi_wit {σ : Mem} {s : Nat} {a0 ah' : Int → Int} {u p j r : Int} (hS : sSQ σ s a0 (σ 28 s) (σ 30 s) (σ 27 s) u p) (p0 : 0 ≤ p) (p1 : p < 16) (hJ : JL (σ 19 (s + 2)) (σ 27 s) p r p) (j0 : 0 ≤ j) (j1 : j < 4) (hj : hasB r j) (hA' : NA (σ 15 (s + 2)) (σ 16 (s + 2)) (σ 19 (s + 2)) ah') (hw : band (σ 30 s (σ 19 (s + 2) (4 * (p / 4) + j))) r = 0) (hs : ∀ C, sbA (σ 15 (s + 2)) (σ 16 (s + 2)) (σ 28 s) C → (∀ k, 0 ≤ k → k < 4 → lf (σ 19 (s + 2)) (σ 27 s) p k → k ≠ j → C (σ 19 (s + 2) (4 * (p / 4) + j)) (σ 19 (s + 2) (4 * (p / 4) + k))) → sbA (σ 15 (s + 2)) (σ 16 (s + 2)) ah' C) : mnA (σ 15 (s + 2)) ah' (σ 30 s) := by
  obtain ⟨b1, b2, b3, b4, b5, b6, -⟩ := hS
  obtain ⟨q0, q1, q2⟩ := hJ
  have hl := (q2 j j0 j1).mp hj
  have hv := b1.2.2 (p / 4) j (by omega) (by omega) j0 j1 hl.1
  obtain ⟨r0, r1, r2⟩ := b4 _ hv.1
  rw [bit_and r0 r1 q0 q1] at hw
  refine rA_mn b1 hA' (hs _ (sbA_rA b5) (fun k k0 k1 hlk hkj => ?_))
  have hvk := b1.2.2 (p / 4) k (by omega) (by omega) k0 k1 hlk.1
  have hne : σ 19 (s + 2) (4 * (p / 4) + j) ≠ σ 19 (s + 2) (4 * (p / 4) + k) := by
    intro z
    have h1 := hv.2.2
    have h2 := hvk.2.2
    rw [z] at h1
    omega
  rcases b6.1 _ _ hv.1 hvk.1 hne (by omega) with c | c
  · exact c
  · unfold rA at c
    rw [hvk.2.2] at c
    exact absurd ⟨c, (q2 k k0 k1).mpr hlk⟩ (hw k k0 k1)
/-- completing failed: j can't be the first one -/
theorem SLi_fail {σ : Mem} {s : Nat} {a0 ah' : Int → Int} {u p j : Int} (hS : sSQ σ s a0 (σ 28 s) (σ 30 s) (σ 27 s) u p) (p0 : 0 ≤ p) (p1 : p < 16) (j0 : 0 ≤ j) (j1 : j < 4) (hs : ∀ C, sbA (σ 15 (s + 2)) (σ 16 (s + 2)) (σ 28 s) C → (∀ k, 0 ≤ k → k < 4 → lf (σ 19 (s + 2)) (σ 27 s) p k → k ≠ j → C (σ 19 (s + 2) (4 * (p / 4) + j)) (σ 19 (s + 2) (4 * (p / 4) + k))) → sbA (σ 15 (s + 2)) (σ 16 (s + 2)) ah' C) (hn : noS σ s u ah') : lf (σ 19 (s + 2)) (σ 27 s) p j → ∀ C, Sol (σ 15 (s + 2)) (σ 16 (s + 2)) (σ 17 (s + 2)) (σ 18 (s + 2)) u C → sbA (σ 15 (s + 2)) (σ 16 (s + 2)) (σ 28 s) C → ∃ k, 0 ≤ k ∧ k < 4 ∧ lf (σ 19 (s + 2)) (σ 27 s) p k ∧ k ≠ j ∧ C (σ 19 (s + 2) (4 * (p / 4) + k)) (σ 19 (s + 2) (4 * (p / 4) + j)) := by
  intro hl C hC hsC
  apply Classical.byContradiction
  intro hne
  refine hn C hC (hs C hsC (fun k k0 k1 hlk hkj => ?_))
  have hv := hS.1.2.2 (p / 4) j (by omega) (by omega) j0 j1 hl.1
  have hvk := hS.1.2.2 (p / 4) k (by omega) (by omega) k0 k1 hlk.1
  have hd : σ 19 (s + 2) (4 * (p / 4) + j) ≠ σ 19 (s + 2) (4 * (p / 4) + k) := by
    intro z
    have h1 := hv.2.2
    have h2 := hvk.2.2
    rw [z] at h1
    omega
  rcases hC.1 _ _ hv.1 hvk.1 hd (by omega) with c | c
  · exact c
  · exact absurd ⟨k, k0, k1, hlk, hkj, c⟩ hne
/-- j is taken -/
theorem SLi_done {σ σ3 : Mem} {s : Nat} {a0 ah1 : Int → Int} {p j : Int} (hS : sSQ σ s a0 (σ 28 s) (σ 30 s) (σ 27 s) (σ 4 s 2) p) (p0 : 0 ≤ p) (p1 : p < 16) (j0 : 0 ≤ j) (j1 : j < 4) (hl : lf (σ 19 (s + 2)) (σ 27 s) p j) (r4 : NA (σ 15 (s + 2)) (σ 16 (s + 2)) (σ 19 (s + 2)) ah1) (r5 : mnA (σ 15 (s + 2)) (σ 28 s) ah1) (r6 : ∀ k, 0 ≤ k → k < 4 → lf (σ 19 (s + 2)) (σ 27 s) p k → k ≠ j → hasB (ah1 (σ 19 (s + 2) (4 * (p / 4) + k))) j) (r7 : ∀ C, sbA (σ 15 (s + 2)) (σ 16 (s + 2)) (σ 28 s) C → (∀ k, 0 ≤ k → k < 4 → lf (σ 19 (s + 2)) (σ 27 s) p k → k ≠ j → C (σ 19 (s + 2) (4 * (p / 4) + j)) (σ 19 (s + 2) (4 * (p / 4) + k))) → sbA (σ 15 (s + 2)) (σ 16 (s + 2)) ah1 C) (hF : FrG (pS s) σ σ3) (e3 : ∀ x, 0 ≤ x → x < 16 → σ3 28 s x = ah1 x) (w1 : NA (σ 15 (s + 2)) (σ 16 (s + 2)) (σ 19 (s + 2)) (σ3 30 s)) (w2 : mnA (σ 15 (s + 2)) ah1 (σ3 30 s)) (w3 : Sol (σ 15 (s + 2)) (σ 16 (s + 2)) (σ 17 (s + 2)) (σ 18 (s + 2)) (σ 4 s 2) (rA (σ3 30 s))) (hn : noF σ s (σ 4 s 2) p j (σ 28 s)) : sSQ σ3 s a0 (σ3 28 s) (σ3 30 s) (fun x => if x = p then j else σ3 27 s x) (σ3 4 s 2) (p + 1) := by
  rw [sSQ_cg hF, pS.f hF 27 (by omega), pS.f hF 4 (by omega)]
  exact SQ_put hS p0 p1 j0 j1 hl (NA_cg e3 r4) (r5.t (mnA_cg e3)) (fun k k0 k1 hk hne => by
    rw [e3 _ hk.1 (NB_16 hS.1 (by omega) (by omega) k0 k1)]
    exact r6 k k0 k1 hk hne) (fun C h1 h2 => (sbA_cg e3).mpr (r7 C h1 h2)) w1 (mnA.t (mnA_cg (fun x a b => (e3 x a b).symm)) w2) w3 hn
theorem noS_cgS {σ σ' : Mem} {s : Nat} {u : Int} {ah : Int → Int} (hF : FrG (pS s) σ σ') (h : noS σ' s u ah) : noS σ s u ah := by
  have f := fun t ht => pS.f hF t ht (s + 2)
  unfold noS at h
  rw [f 15 (by omega), f 16 (by omega), f 17 (by omega), f 18 (by omega)] at h
  exact h
