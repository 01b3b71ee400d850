theorem up_ap (σ : Mem) (t i : Nat) (j v : Int) (t' i' : Nat) (j' : Int) : up σ t i j v t' i' j' = if t' = t ∧ i' = i ∧ j' = j then v else σ t' i' j' := rfl
/-- nothing is different but what a net's measuring finds -/
def Frm (n : Nat) (σ σ' : Mem) : Prop := ∀ t a x, ¬ (a = n ∧ (t = 21 ∨ t = 22 ∨ t = 23 ∨ t = 24 ∨ t = 25 ∨ (t = 1 ∧ (x = 8 ∨ x = 11)))) → σ' t a x = σ t a x
theorem Frm.r {n : Nat} {σ : Mem} : Frm n σ σ := fun _ _ _ _ => rfl
theorem Frm.t {n : Nat} {σ σ' σ2 : Mem} (h : Frm n σ σ') (h2 : Frm n σ' σ2) : Frm n σ σ2 := fun t a x q => by rw [h2 t a x q, h t a x q]
theorem Frm.f {n : Nat} {σ σ' : Mem} (h : Frm n σ σ') (t : Nat) (ht : t ≠ 1 ∧ (t < 21 ∨ 25 < t)) : σ' t n = σ t n := by
  funext x
  refine h t n x ?_
  rintro ⟨-, q | q | q | q | q | ⟨q, -⟩⟩ <;> omega
theorem Frm.u {n : Nat} {σ σ' : Mem} (h : Frm n σ σ') {t : Nat} {x v : Int} (ht : t = 21 ∨ t = 22 ∨ t = 23 ∨ t = 24 ∨ t = 25 ∨ (t = 1 ∧ (x = 8 ∨ x = 11))) : Frm n σ (up σ' t n x v) := by
  intro t' a' x' q
  rw [up_ap, if_neg, h t' a' x' q]
  rintro ⟨rfl, rfl, rfl⟩
  exact q ⟨rfl, ht⟩
def nB (σ : Mem) (n : Nat) : Prop := NB (σ 15 n) (σ 16 n) (σ 17 n) (σ 18 n) (σ 19 n)
def nA (σ : Mem) (n : Nat) : Prop := NA (σ 15 n) (σ 16 n) (σ 19 n) (σ 20 n)
def nO (σ : Mem) (n : Nat) : Prop := σ 1 n 9 = σ 15 n 0 + σ 15 n 1 + σ 15 n 2 + σ 15 n 3
def nS (σ : Mem) (n : Nat) : Prop := SI (σ 15 n) (σ 16 n) (σ 17 n) (σ 18 n) (σ 19 n) (σ 20 n) (σ 21 n) (σ 23 n) (σ 24 n) (σ 25 n) (σ 1 n 11)
def nK (σ : Mem) (n : Nat) (j : Int) : Prop := bkd (σ 15 n) (σ 16 n) (σ 19 n) (σ 20 n) (σ 24 n) j
def nM (σ : Mem) (n : Nat) : Prop := Msd (σ 15 n) (σ 16 n) (σ 17 n) (σ 18 n) (σ 20 n) (σ 21 n) (σ 22 n) (σ 1 n 8)
def nN (σ : Mem) (n : Nat) : Prop := NoSol (σ 15 n) (σ 16 n) (σ 20 n)
theorem Frm.B {n : Nat} {σ σ' : Mem} (h : Frm n σ σ') (hB : nB σ n) : nB σ' n := by
  unfold nB
  rw [h.f 15 (by omega), h.f 16 (by omega), h.f 17 (by omega), h.f 18 (by omega), h.f 19 (by omega)]
  exact hB
theorem Frm.A {n : Nat} {σ σ' : Mem} (h : Frm n σ σ') (hA : nA σ n) : nA σ' n := by
  unfold nA
  rw [h.f 15 (by omega), h.f 16 (by omega), h.f 19 (by omega), h.f 20 (by omega)]
  exact hA
theorem Frm.N {n : Nat} {σ σ' : Mem} (h : Frm n σ σ') (hN : nN σ' n) : nN σ n := by
  unfold nN at hN
  rw [h.f 15 (by omega), h.f 16 (by omega), h.f 20 (by omega)] at hN
  exact hN
/-- what sortAlong does -/
def SAr (n : Nat) (j : Int) (σ σ' : Mem) : Prop := Frm n σ σ' ∧ nS σ' n ∧ (∀ i, i ≠ j → σ' 24 n i = σ 24 n i) ∧ σ 24 n j ≤ σ' 24 n j ∧ nK σ' n j
def SAi (n : Nat) (j : Int) (σ σ' : Mem) : Prop := Frm n σ σ' ∧ nS σ' n ∧ (∀ i, i ≠ j → σ' 24 n i = σ 24 n i) ∧ σ 24 n j ≤ σ' 24 n j ∧ nB σ' n ∧ nA σ' n
theorem SAi_0 {n : Nat} {j : Int} {σ : Mem} (hB : nB σ n) (hA : nA σ n) (hS : nS σ n) : SAi n j σ σ := ⟨Frm.r, hS, fun _ _ => rfl, Int.le_refl _, hB, hA⟩
theorem SAi_end {n : Nat} {j : Int} {σ σ' : Mem} (h : SAi n j σ σ') (j0 : 0 ≤ j) (j1 : j < 4) (he : σ' 15 n j ≤ σ' 24 n j) : SAr n j σ σ' := ⟨h.1, h.2.1, h.2.2.1, h.2.2.2.1, Or.inl (by have := (h.2.1.1 j j0 j1).2; omega)⟩
theorem SAi_16 {n : Nat} {j : Int} {σ σ' : Mem} (h : SAi n j σ σ') (j0 : 0 ≤ j) (j1 : j < 4) (he : 16 ≤ σ' 1 n 11) : SAr n j σ σ' := ⟨h.1, h.2.1, h.2.2.1, h.2.2.2.1, Or.inl (SI_16e h.2.2.2.2.1 h.2.1 he j0 j1)⟩
theorem SAi_bk {n : Nat} {j : Int} {σ σ' : Mem} (h : SAi n j σ σ') (j0 : 0 ≤ j) (j1 : j < 4) (hs : σ' 24 n j < σ' 15 n j) (hb : ¬ band (σ' 20 n (4 * j + σ' 24 n j)) (bxor (σ' 25 n (σ' 16 n (4 * j + σ' 24 n j))) (-1)) = 0) : SAr n j σ σ' := ⟨h.1, h.2.1, h.2.2.1, h.2.2.2.1, SI_bk h.2.2.2.2.1 h.2.2.2.2.2 h.2.1 j0 j1 hs hb⟩
theorem SAi_step {n : Nat} {j r : Int} {σ σ' : Mem} (h : SAi n j σ σ') (j0 : 0 ≤ j) (j1 : j < 4) (hs : σ' 24 n j < σ' 15 n j) (hb : band (σ' 20 n (4 * j + σ' 24 n j)) (bxor (σ' 25 n (σ' 16 n (4 * j + σ' 24 n j))) (-1)) = 0) (hr : HI σ' n (4 * j + σ' 24 n j) r 4) : SAi n j σ (up (up (up (up (up σ' 21 n (4 * j + σ' 24 n j) r) 23 n (σ' 1 n 11) (4 * j + σ' 24 n j)) 1 n 11 (σ' 1 n 11 + 1)) 25 n (σ' 16 n (4 * j + σ' 24 n j)) (bor (σ' 25 n (σ' 16 n (4 * j + σ' 24 n j))) (bshl 1 j))) 24 n j (σ' 24 n j + 1)) := by
  obtain ⟨h1, h2, h3, h4, h5, h6⟩ := h
  have hss := h2.1 j j0 j1
  have hst := h5.1 j j0 j1
  have oj : (4 * j + σ' 24 n j) / 4 = j := by omega
  have hv : vOp (σ' 15 n) (4 * j + σ' 24 n j) := ⟨by omega, by omega, by rw [oj]; omega⟩
  have hF : Frm n σ' (up (up (up (up (up σ' 21 n (4 * j + σ' 24 n j) r) 23 n (σ' 1 n 11) (4 * j + σ' 24 n j)) 1 n 11 (σ' 1 n 11 + 1)) 25 n (σ' 16 n (4 * j + σ' 24 n j)) (bor (σ' 25 n (σ' 16 n (4 * j + σ' 24 n j))) (bshl 1 j))) 24 n j (σ' 24 n j + 1)) := ((((Frm.r.u (by omega)).u (by omega)).u (by omega)).u (by omega)).u (by omega)
  have key := SI_add h5 h6 h2 j0 j1 rfl hs hb (HI_eq h5 h6 hv hr)
  refine ⟨h1.t hF, ?_, fun i q => ?_, ?_, hF.B h5, hF.A h6⟩
  · unfold nS
    rw [hF.f 15 (by omega), hF.f 16 (by omega), hF.f 17 (by omega), hF.f 18 (by omega), hF.f 19 (by omega), hF.f 20 (by omega)]
    have e21 : (up (up (up (up (up σ' 21 n (4 * j + σ' 24 n j) r) 23 n (σ' 1 n 11) (4 * j + σ' 24 n j)) 1 n 11 (σ' 1 n 11 + 1)) 25 n (σ' 16 n (4 * j + σ' 24 n j)) (bor (σ' 25 n (σ' 16 n (4 * j + σ' 24 n j))) (bshl 1 j))) 24 n j (σ' 24 n j + 1)) 21 n = fun x => if x = 4 * j + σ' 24 n j then r else σ' 21 n x := by
      funext x
      simp [up_ap]
    have e23 : (up (up (up (up (up σ' 21 n (4 * j + σ' 24 n j) r) 23 n (σ' 1 n 11) (4 * j + σ' 24 n j)) 1 n 11 (σ' 1 n 11 + 1)) 25 n (σ' 16 n (4 * j + σ' 24 n j)) (bor (σ' 25 n (σ' 16 n (4 * j + σ' 24 n j))) (bshl 1 j))) 24 n j (σ' 24 n j + 1)) 23 n = fun x => if x = σ' 1 n 11 then 4 * j + σ' 24 n j else σ' 23 n x := by
      funext x
      simp [up_ap]
    have e24 : (up (up (up (up (up σ' 21 n (4 * j + σ' 24 n j) r) 23 n (σ' 1 n 11) (4 * j + σ' 24 n j)) 1 n 11 (σ' 1 n 11 + 1)) 25 n (σ' 16 n (4 * j + σ' 24 n j)) (bor (σ' 25 n (σ' 16 n (4 * j + σ' 24 n j))) (bshl 1 j))) 24 n j (σ' 24 n j + 1)) 24 n = fun x => if x = j then σ' 24 n j + 1 else σ' 24 n x := by
      funext x
      simp [up_ap]
    have e25 : (up (up (up (up (up σ' 21 n (4 * j + σ' 24 n j) r) 23 n (σ' 1 n 11) (4 * j + σ' 24 n j)) 1 n 11 (σ' 1 n 11 + 1)) 25 n (σ' 16 n (4 * j + σ' 24 n j)) (bor (σ' 25 n (σ' 16 n (4 * j + σ' 24 n j))) (bshl 1 j))) 24 n j (σ' 24 n j + 1)) 25 n = fun x => if x = σ' 16 n (4 * j + σ' 24 n j) then bor (σ' 25 n (σ' 16 n (4 * j + σ' 24 n j))) (bshl 1 j) else σ' 25 n x := by
      funext x
      simp [up_ap]
    have e1 : (up (up (up (up (up σ' 21 n (4 * j + σ' 24 n j) r) 23 n (σ' 1 n 11) (4 * j + σ' 24 n j)) 1 n 11 (σ' 1 n 11 + 1)) 25 n (σ' 16 n (4 * j + σ' 24 n j)) (bor (σ' 25 n (σ' 16 n (4 * j + σ' 24 n j))) (bshl 1 j))) 24 n j (σ' 24 n j + 1)) 1 n 11 = σ' 1 n 11 + 1 := by
      simp [up_ap]
    rw [e21, e23, e24, e25, e1]
    exact key
  · rw [← h3 i q]
    simp [up_ap, q]
  · simp [up_ap]
    omega
theorem SAi_pre {n : Nat} {j : Int} {σ σ' : Mem} (h : SAi n j σ σ') (j0 : 0 ≤ j) (j1 : j < 4) (hs : σ' 24 n j < σ' 15 n j) : 0 ≤ σ' 24 n j ∧ σ' 24 n j < 4 ∧ 0 ≤ σ' 16 n (4 * j + σ' 24 n j) ∧ σ' 16 n (4 * j + σ' 24 n j) < 4 ∧ 0 ≤ σ' 1 n 11 ∧ σ' 1 n 11 ≤ 16 := by
  obtain ⟨h1, h2, h3, h4, h5, h6⟩ := h
  have hss := h2.1 j j0 j1
  have hst := h5.1 j j0 j1
  have oj : (4 * j + σ' 24 n j) / 4 = j := by omega
  have hv : vOp (σ' 15 n) (4 * j + σ' 24 n j) := ⟨by omega, by omega, by rw [oj]; omega⟩
  have := h5.2.1 _ hv
  have s16 := SI_16 h5 h2
  exact ⟨hss.1, by omega, this.1, this.2.1, s16.1, s16.2.1⟩
theorem SAi_preH {n : Nat} {j : Int} {σ σ' : Mem} (h : SAi n j σ σ') (j0 : 0 ≤ j) (j1 : j < 4) (hs : σ' 24 n j < σ' 15 n j) (hb : band (σ' 20 n (4 * j + σ' 24 n j)) (bxor (σ' 25 n (σ' 16 n (4 * j + σ' 24 n j))) (-1)) = 0) : ((4 * j + σ' 24 n j) % 4 ≠ 0 → inR (σ' 21 n (4 * j + σ' 24 n j - 1) + σ' 17 n (4 * j + σ' 24 n j - 1))) ∧ (∀ k, 0 ≤ k → k < 4 → hasB (σ' 20 n (4 * j + σ' 24 n j)) k → 0 ≤ σ' 19 n (4 * σ' 16 n (4 * j + σ' 24 n j) + k) ∧ σ' 19 n (4 * σ' 16 n (4 * j + σ' 24 n j) + k) < 16 ∧ inR (σ' 21 n (σ' 19 n (4 * σ' 16 n (4 * j + σ' 24 n j) + k)) + σ' 17 n (σ' 19 n (4 * σ' 16 n (4 * j + σ' 24 n j) + k)))) := by
  obtain ⟨h1, h2, h3, h4, h5, h6⟩ := h
  have hss := h2.1 j j0 j1
  have hst := h5.1 j j0 j1
  have oj : (4 * j + σ' 24 n j) / 4 = j := by omega
  have hv : vOp (σ' 15 n) (4 * j + σ' 24 n j) := ⟨by omega, by omega, by rw [oj]; omega⟩
  obtain ⟨m0, m1, -⟩ := h5.2.1 _ hv
  obtain ⟨a0, a1, a2⟩ := h6 _ hv
  obtain ⟨n0, n1⟩ := h2.2.1 _ m0 m1
  rw [bit_sub a0 a1 n0 n1] at hb
  have s16 := SI_16 h5 h2
  refine ⟨fun q => ?_, fun k k0 k1 k2 => ?_⟩
  · have e : (4 * j + σ' 24 n j - 1) / 4 = j := by omega
    have w : vOp (σ' 24 n) (4 * j + σ' 24 n j - 1) := ⟨by omega, by omega, by rw [e]; omega⟩
    have u1 := SI_hd h5 h2 w
    have u2 := h5.2.1 _ (SI_v h2 w)
    exact ⟨by omega, by omega⟩
  · have w := (h2.2.2.1 _ k m0 m1 k0 k1).mp (hb k k0 k1 k2)
    have u1 := SI_hd h5 h2 w
    have u2 := h5.2.1 _ (SI_v h2 w)
    exact ⟨w.1, w.2.1, by omega, by omega⟩
/-- a round of sorting -/
theorem ms_round {n : Nat} {σ s1 s2 s3 s4 : Mem} (hS : nS σ n) (h1 : SAr n 0 σ s1) (h2 : SAr n 1 s1 s2) (h3 : SAr n 2 s2 s3) (h4 : SAr n 3 s3 s4) : Frm n σ s4 ∧ nS s4 n ∧ σ 1 n 11 ≤ s4 1 n 11 ∧ (s4 1 n 11 ≤ σ 1 n 11 → ∀ j, 0 ≤ j → j < 4 → nK s4 n j) := by
  obtain ⟨a1, a2, a3, a4, a5⟩ := h1
  obtain ⟨b1, b2, b3, b4, b5⟩ := h2
  obtain ⟨c1, c2, c3, c4, c5⟩ := h3
  obtain ⟨d1, d2, d3, d4, d5⟩ := h4
  have e0 := hS.2.2.2.1
  have e4 := d2.2.2.2.1
  have A1 := a3 1 (by omega)
  have A2 := a3 2 (by omega)
  have A3 := a3 3 (by omega)
  have B0 := b3 0 (by omega)
  have B2 := b3 2 (by omega)
  have B3 := b3 3 (by omega)
  have C0 := c3 0 (by omega)
  have C1 := c3 1 (by omega)
  have C3 := c3 3 (by omega)
  have D0 := d3 0 (by omega)
  have D1 := d3 1 (by omega)
  have D2 := d3 2 (by omega)
  refine ⟨((a1.t b1).t c1).t d1, d2, by omega, fun hle => ?_⟩
  have eqs : ∀ i, s4 24 n i = s1 24 n i ∧ s4 24 n i = s2 24 n i ∧ s4 24 n i = s3 24 n i := by
    intro i
    by_cases q0 : i = 0
    · subst q0
      omega
    · by_cases q1 : i = 1
      · subst q1
        omega
      · by_cases q2 : i = 2
        · subst q2
          omega
        · by_cases q3 : i = 3
          · subst q3
            omega
          · have u1 := d3 i q3
            have u2 := c3 i q2
            have u3 := b3 i q1
            omega
  have f1 : s4 24 n = s1 24 n := funext fun i => (eqs i).1
  have f2 : s4 24 n = s2 24 n := funext fun i => (eqs i).2.1
  have f3 : s4 24 n = s3 24 n := funext fun i => (eqs i).2.2
  have g3 := d1
  have g2 := c1.t d1
  have g1 := (b1.t c1).t d1
  intro j j0 j1
  rcases (show j = 0 ∨ j = 1 ∨ j = 2 ∨ j = 3 by omega) with rfl | rfl | rfl | rfl
  · unfold nK at a5 ⊢
    rw [g1.f 15 (by omega), g1.f 16 (by omega), g1.f 19 (by omega), g1.f 20 (by omega), f1]
    exact a5
  · unfold nK at b5 ⊢
    rw [g2.f 15 (by omega), g2.f 16 (by omega), g2.f 19 (by omega), g2.f 20 (by omega), f2]
    exact b5
  · unfold nK at c5 ⊢
    rw [g3.f 15 (by omega), g3.f 16 (by omega), g3.f 19 (by omega), g3.f 20 (by omega), f3]
    exact c5
  · exact d5
/-- measure's rounds: news, how many -/
def MRi (n : Nat) (σ σ' : Mem) (nw rd : Int) : Prop := Frm n σ σ' ∧ nS σ' n ∧ nB σ' n ∧ nA σ' n ∧ 0 ≤ rd ∧ rd ≤ 16 ∧ ((nw = 1 ∧ rd ≤ σ' 1 n 11) ∨ (nw = 0 ∧ ∀ j, 0 ≤ j → j < 4 → nK σ' n j))
theorem MRi_0 {n : Nat} {σ : Mem} (hB : nB σ n) (hA : nA σ n) {σ' : Mem} (hF : Frm n σ σ') (h24 : ∀ j, 0 ≤ j → j < 4 → σ' 24 n j = 0) (h25 : ∀ j, 0 ≤ j → j < 4 → σ' 25 n j = 0) (h1 : σ' 1 n 11 = 0) : MRi n σ σ' 1 0 := by
  refine ⟨hF, ?_, hF.B hB, hF.A hA, by omega, by omega, Or.inl ⟨rfl, by omega⟩⟩
  unfold nS
  rw [h1]
  exact SI_zero (hF.B hB) h24 h25
theorem MRi_step {n : Nat} {σ σ' s1 s2 s3 s4 : Mem} {nw rd : Int} (h : MRi n σ σ' nw rd) (hw : nw ≠ 0) (hr : ¬ 16 ≤ rd) (h1 : SAr n 0 σ' s1) (h2 : SAr n 1 s1 s2) (h3 : SAr n 2 s2 s3) (h4 : SAr n 3 s3 s4) : (s4 1 n 11 ≤ σ' 1 n 11 → MRi n σ s4 0 (rd + 1)) ∧ (¬ s4 1 n 11 ≤ σ' 1 n 11 → MRi n σ s4 1 (rd + 1)) := by
  obtain ⟨a1, a2, a3, a4, a5, a6, a7⟩ := h
  obtain ⟨b1, b2, b3, b4⟩ := ms_round a2 h1 h2 h3 h4
  refine ⟨fun q => ⟨a1.t b1, b2, b1.B a3, b1.A a4, by omega, by omega, Or.inr ⟨rfl, b4 q⟩⟩, fun q => ⟨a1.t b1, b2, b1.B a3, b1.A a4, by omega, by omega, Or.inl ⟨rfl, ?_⟩⟩⟩
  rcases a7 with ⟨-, a7⟩ | ⟨a7, -⟩
  · omega
  · exact absurd a7 hw
theorem MRi_no {n : Nat} {σ σ' : Mem} {nw rd : Int} (h : MRi n σ σ' nw rd) (hO : nO σ n) (he : nw = 0 ∨ 16 ≤ rd) (hl : σ' 1 n 11 < σ' 1 n 9) : nN σ n := by
  obtain ⟨a1, a2, a3, a4, a5, a6, a7⟩ := h
  refine a1.N ?_
  have e9 : σ' 1 n 9 = σ 1 n 9 := a1 1 n 9 (by omega)
  unfold nO at hO
  rw [← a1.f 15 (by omega), ← e9] at hO
  rcases a7 with ⟨q1, q2⟩ | ⟨q1, q2⟩
  · have b0 := a3.1 0 (by omega) (by omega)
    have b1 := a3.1 1 (by omega) (by omega)
    have b2 := a3.1 2 (by omega) (by omega)
    have b3 := a3.1 3 (by omega) (by omega)
    omega
  · exact SI_stuck a3 a4 a2 q2 (by omega)
/-- measure's way back -/
def MTi (n : Nat) (σ σ' : Mem) (i : Int) : Prop := Frm n σ σ' ∧ nS σ' n ∧ nB σ' n ∧ nA σ' n ∧ σ' 15 n 0 + σ' 15 n 1 + σ' 15 n 2 + σ' 15 n 3 ≤ σ' 1 n 11 ∧ TV (σ' 15 n) (σ' 16 n) (σ' 17 n) (σ' 18 n) (σ' 20 n) (σ' 21 n) (σ' 22 n) (σ' 23 n) (σ' 1 n 11) (σ' 1 n 8) i ∧ -1 ≤ i ∧ i < σ' 1 n 11
theorem nS_u8 {n : Nat} {σ : Mem} {v : Int} (h : nS σ n) : nS (up σ 1 n 8 v) n := by
  have e : ∀ t, t ≠ 1 → (up σ 1 n 8 v) t n = σ t n := by
    intro t q
    funext x
    rw [up_ap, if_neg (fun c => q c.1)]
  have e1 : (up σ 1 n 8 v) 1 n 11 = σ 1 n 11 := by
    rw [up_ap, if_neg]
    rintro ⟨-, -, c⟩
    omega
  unfold nS
  rw [e 15 (by omega), e 16 (by omega), e 17 (by omega), e 18 (by omega), e 19 (by omega), e 20 (by omega), e 21 (by omega), e 23 (by omega), e 24 (by omega), e 25 (by omega), e1]
  exact h
theorem nS_u22 {n : Nat} {σ : Mem} {x v : Int} (h : nS σ n) : nS (up σ 22 n x v) n := by
  have e : ∀ t, t ≠ 22 → (up σ 22 n x v) t n = σ t n := by
    intro t q
    funext x
    rw [up_ap, if_neg (fun c => q c.1)]
  unfold nS
  rw [e 15 (by omega), e 16 (by omega), e 17 (by omega), e 18 (by omega), e 19 (by omega), e 20 (by omega), e 21 (by omega), e 23 (by omega), e 24 (by omega), e 25 (by omega), e 1 (by omega)]
  exact h
theorem MTi_0 {n : Nat} {σ σ' : Mem} {nw rd : Int} (h : MRi n σ σ' nw rd) (hO : nO σ n) (hl : ¬ σ' 1 n 11 < σ' 1 n 9) : MTi n σ (up σ' 1 n 8 0) (σ' 1 n 11 - 1) := by
  obtain ⟨a1, a2, a3, a4, a5, a6, a7⟩ := h
  have e9 : σ' 1 n 9 = σ 1 n 9 := a1 1 n 9 (by omega)
  have hF : Frm n σ' (up σ' 1 n 8 0) := Frm.r.u (by omega)
  unfold nO at hO
  rw [← a1.f 15 (by omega), ← e9] at hO
  have e1 : (up σ' 1 n 8 0) 1 n 11 = σ' 1 n 11 := by
    rw [up_ap, if_neg]
    rintro ⟨-, -, c⟩
    omega
  have e8 : (up σ' 1 n 8 0) 1 n 8 = 0 := by
    rw [up_ap, if_pos ⟨rfl, rfl, rfl⟩]
  have s16 := SI_16 a3 a2
  refine ⟨a1.t hF, nS_u8 a2, hF.B a3, hF.A a4, ?_, ?_, by omega, by omega⟩
  · rw [hF.f 15 (by omega), e1]
    omega
  · rw [e1, e8]
    exact TV_0
theorem MTi_v {n : Nat} {σ σ' : Mem} {i : Int} (h : MTi n σ σ' i) (h0 : 0 ≤ i) : vOp (σ' 15 n) (σ' 23 n i) ∧ i < 16 := by
  obtain ⟨a1, a2, a3, a4, a5, a6, a7, a8⟩ := h
  have s16 := SI_16 a3 a2
  exact ⟨SI_v a2 (a2.2.2.2.2.1 i h0 a8), by omega⟩
theorem MTi_pre {n : Nat} {σ σ' : Mem} {i : Int} (h : MTi n σ σ' i) (h0 : 0 ≤ i) : 0 ≤ σ' 23 n i ∧ σ' 23 n i < 16 ∧ 0 ≤ σ' 16 n (σ' 23 n i) ∧ σ' 16 n (σ' 23 n i) < 4 ∧ σ' 15 n (σ' 23 n i / 4) ≤ 4 ∧ (σ' 23 n i % 4 + 1 < σ' 15 n (σ' 23 n i / 4) → 0 ≤ σ' 17 n (σ' 23 n i + 1) + σ' 22 n (σ' 23 n i + 1) ∧ inR (σ' 17 n (σ' 23 n i + 1) + σ' 22 n (σ' 23 n i + 1))) ∧ (∀ k, 0 ≤ k → k < 4 → σ' 19 n (4 * σ' 16 n (σ' 23 n i) + k) < 16 ∧ (0 ≤ σ' 19 n (4 * σ' 16 n (σ' 23 n i) + k) → hasB (σ' 20 n (σ' 19 n (4 * σ' 16 n (σ' 23 n i) + k))) (σ' 23 n i / 4) → inR (σ' 17 n (σ' 19 n (4 * σ' 16 n (σ' 23 n i) + k)) + σ' 22 n (σ' 19 n (4 * σ' 16 n (σ' 23 n i) + k))))) := by
  have hv := (MTi_v h h0).1
  obtain ⟨a1, a2, a3, a4, a5, a6, a7, a8⟩ := h
  have hj := vOp_j hv
  obtain ⟨m0, m1, -⟩ := a3.2.1 _ hv
  have hst := a3.1 _ hj.1 hj.2.1
  have s16 := SI_16 a3 a2
  refine ⟨hv.1, hv.2.1, m0, m1, hst.2, fun q => ?_, fun k k0 k1 => ⟨NB_16 a3 m0 m1 k0 k1, fun q1 q2 => ?_⟩⟩
  · have v1 := hv.1
    have v2 := hv.2.1
    have e : (σ' 23 n i + 1) / 4 = σ' 23 n i / 4 := by omega
    have w : vOp (σ' 15 n) (σ' 23 n i + 1) := ⟨by omega, by omega, by rw [e]; omega⟩
    obtain ⟨x, x0, x1, hx⟩ := TV_suc a3 a2 a5 a6 h0 a8 w (Or.inl ⟨by omega, by omega⟩)
    have u1 := a6.1 x x0 x1
    rw [hx] at u1
    have u2 := a3.2.1 _ w
    exact ⟨by omega, by omega, by omega⟩
  · obtain ⟨b1, b2, b3⟩ := a3.2.2 (σ' 16 n (σ' 23 n i)) k m0 m1 k0 k1 q1
    obtain ⟨x, x0, x1, hx⟩ := TV_suc a3 a2 a5 a6 h0 a8 b1 (Or.inr ⟨b2.symm, q2⟩)
    have u1 := a6.1 x x0 x1
    rw [hx] at u1
    have u2 := a3.2.1 _ b1
    exact ⟨by omega, by omega⟩
theorem MTi_r {n : Nat} {σ σ' : Mem} {i r : Int} (h : MTi n σ σ' i) (h0 : 0 ≤ i) (hr : TI σ' n (σ' 23 n i) r 4) : 0 ≤ r ∧ r ≤ 1000 ∧ 0 ≤ σ' 21 n (σ' 23 n i) ∧ σ' 21 n (σ' 23 n i) ≤ 1000 ∧ 1 ≤ σ' 17 n (σ' 23 n i) ∧ σ' 17 n (σ' 23 n i) ≤ 20 := by
  have hv := (MTi_v h h0).1
  obtain ⟨a1, a2, a3, a4, a5, a6, a7, a8⟩ := h
  have s16 := SI_16 a3 a2
  have hd := a2.2.2.2.2.2.2.2.2.2.2 i h0 a8
  have hdu := a3.2.1 _ hv
  obtain ⟨r0, r1, r2⟩ := TI_eq a3 hv hr
  refine ⟨r0, ?_, by omega, by omega, by omega, by omega⟩
  rcases r2 with r2 | ⟨o', v', p', r2⟩
  · omega
  · obtain ⟨x, x0, x1, rfl⟩ := TV_suc a3 a2 a5 a6 h0 a8 v' p'
    have := (a6.1 x x0 x1).2.2
    have := (a3.2.1 _ v').2.2.2.1
    omega
theorem MTi_step {n : Nat} {σ σ' : Mem} {i r L' : Int} (h : MTi n σ σ' i) (h0 : 0 ≤ i) (hr : TI σ' n (σ' 23 n i) r 4) (hL : L' = if σ' 21 n (σ' 23 n i) + σ' 17 n (σ' 23 n i) + r ≤ σ' 1 n 8 then σ' 1 n 8 else σ' 21 n (σ' 23 n i) + σ' 17 n (σ' 23 n i) + r) : MTi n σ (up (up σ' 22 n (σ' 23 n i) r) 1 n 8 L') (i - 1) := by
  have hv := (MTi_v h h0).1
  obtain ⟨a1, a2, a3, a4, a5, a6, a7, a8⟩ := h
  have hF : Frm n σ' (up (up σ' 22 n (σ' 23 n i) r) 1 n 8 L') := (Frm.r.u (by omega)).u (by omega)
  have e1 : (up (up σ' 22 n (σ' 23 n i) r) 1 n 8 L') 1 n 11 = σ' 1 n 11 := by
    rw [up_ap, if_neg (by rintro ⟨-, -, c⟩; omega), up_ap, if_neg (by rintro ⟨c, -⟩; omega)]
  have e8 : (up (up σ' 22 n (σ' 23 n i) r) 1 n 8 L') 1 n 8 = L' := by
    rw [up_ap, if_pos ⟨rfl, rfl, rfl⟩]
  have e22 : (up (up σ' 22 n (σ' 23 n i) r) 1 n 8 L') 22 n = fun x => if x = σ' 23 n i then r else σ' 22 n x := by
    funext x
    simp [up_ap]
  have e21 : (up (up σ' 22 n (σ' 23 n i) r) 1 n 8 L') 21 n = σ' 21 n := by
    funext x
    simp [up_ap]
  have e23 : (up (up σ' 22 n (σ' 23 n i) r) 1 n 8 L') 23 n = σ' 23 n := by
    funext x
    simp [up_ap]
  refine ⟨a1.t hF, nS_u8 (nS_u22 a2), hF.B a3, hF.A a4, ?_, ?_, by omega, by omega⟩
  · rw [hF.f 15 (by omega), e1]
    exact a5
  · rw [hF.f 15 (by omega), hF.f 16 (by omega), hF.f 17 (by omega), hF.f 18 (by omega), hF.f 20 (by omega), e1, e8, e21, e22, e23]
    exact TV_add a3 a2 a5 a6 h0 a8 (TI_eq a3 hv hr) hL
theorem MTi_end {n : Nat} {σ σ' : Mem} {i : Int} (h : MTi n σ σ' i) (h0 : ¬ 0 ≤ i) : Frm n σ σ' ∧ nM σ' n := by
  obtain ⟨a1, a2, a3, a4, a5, a6, a7, a8⟩ := h
  exact ⟨a1, TV_end a3 a2 a5 a6 (by omega)⟩
