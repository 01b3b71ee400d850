/-- what a search may change -/
def pF (s : Nat) (t a : Nat) (x : Int) : Prop := pS s t a x ∨ p26 (s + 2) t a x ∨ (t = 27 ∧ a = s) ∨ (t = 4 ∧ a = s ∧ (x = 1 ∨ x = 2))
theorem pF.f {s : Nat} {σ σ' : Mem} (h : FrG (pF s) σ σ') (t : Nat) (ht : t ≠ 1 ∧ (t < 20 ∨ 27 < t) ∧ t ≠ 28 ∧ t ≠ 29 ∧ t ≠ 30 ∧ t ≠ 32 ∧ t ≠ 4) (a : Nat) : σ' t a = σ t a := h.f t a (by
  rintro x (((⟨-, q⟩ | ⟨q, -⟩ | ⟨q, -⟩) | ⟨q, -⟩ | ⟨q, -⟩) | ⟨q, -⟩ | ⟨q, -⟩ | ⟨q, -⟩) <;> omega)
theorem pS.F {s : Nat} {σ σ' : Mem} (h : FrG (pS s) σ σ') : FrG (pF s) σ σ' := h.w (fun _ _ _ q => Or.inl q)
theorem p26.F {s : Nat} {σ σ' : Mem} (h : FrG (p26 (s + 2)) σ σ') : FrG (pF s) σ σ' := h.w (fun _ _ _ q => Or.inr (Or.inl q))
theorem pF.O {s : Nat} {σ σ' : Mem} (h : FrG (pF s) σ σ') (hO : nO σ (s + 2)) : nO σ' (s + 2) := by
  unfold nO
  rw [h 1 (s + 2) 9 (by rintro (((⟨-, q⟩ | ⟨q, -⟩ | ⟨q, -⟩) | ⟨q, -⟩ | ⟨q, -⟩) | ⟨q, -⟩ | ⟨q, -⟩ | ⟨q, -⟩) <;> omega), pF.f h 15 (by omega)]
  exact hO
theorem pF.B {s : Nat} {σ σ' : Mem} (h : FrG (pF s) σ σ') (hB : nB σ (s + 2)) : nB σ' (s + 2) := by
  unfold nB
  rw [pF.f h 15 (by omega), pF.f h 16 (by omega), pF.f h 17 (by omega), pF.f h 18 (by omega), pF.f h 19 (by omega)]
  exact hB
def sSol (σ : Mem) (s : Nat) (u : Int) (C : Int → Int → Prop) : Prop := Sol (σ 15 (s + 2)) (σ 16 (s + 2)) (σ 17 (s + 2)) (σ 18 (s + 2)) u C ∧ sbA (σ 15 (s + 2)) (σ 16 (s + 2)) (σ 20 (s + 2)) C
/-- the limits below L can't be kept; the net is as it was at the beginning -/
def fI (σ σ' : Mem) (s : Nat) : Prop := FrG (pF s) σ σ' ∧ nA σ' (s + 2) ∧ (∀ x, 0 ≤ x → x < 16 → σ' 28 s x = σ 20 (s + 2) x) ∧ (∀ x, 0 ≤ x → x < 16 → σ' 20 (s + 2) x = σ 20 (s + 2) x) ∧ 0 ≤ σ' 4 s 2 ∧ σ' 4 s 2 ≤ 1100 ∧ ∀ u, 0 ≤ u → u < σ' 4 s 2 → ∀ C, ¬ sSol σ s u C
theorem fI_lt {σ σ' : Mem} {s : Nat} {u : Int} {C : Int → Int → Prop} (h : fI σ σ' s) (u0 : 0 ≤ u) (hC : sSol σ s u C) : σ' 4 s 2 ≤ u := by
  rcases Int.lt_or_le u (σ' 4 s 2) with q | q
  · exact absurd hC (h.2.2.2.2.2.2 u u0 q C)
  · exact q
theorem nN_no {σ : Mem} {s : Nat} {u : Int} {C : Int → Int → Prop} (hB : nB σ (s + 2)) (hC : sSol σ s u C) (hN : nN σ (s + 2)) : False := by
  obtain ⟨⟨hf, h, t, H, -⟩, hs⟩ := hC
  exact hN.no hB (sbA_p hs) H
theorem fI_0 {σ σ1 σ2 σ3 : Mem} {s : Nat} {B : Int} (hB : nB σ (s + 2)) (hA : nA σ (s + 2)) (hc : Cpy σ σ1 28 s 20 (s + 2) 16) (hF : Frm (s + 2) σ1 σ2) (hM : nM σ2 (s + 2)) (hG : GB σ2 σ3 (s + 2) 4 B) : fI σ (up σ3 4 s 2 B) s := by
  have c := fun t (ht : t ≠ 28) a => hc.row (t1 := t) (a1 := a) (Or.inl ht)
  have f := fun t ht => hF.f t ht
  have e : ∀ t a, t ≠ 26 → σ3 t a = σ2 t a := fun t a ht => hG.1.f t a (fun x q => ht q.1)
  have hF1 : FrG (pF s) σ σ1 := hc.Fr (fun x => Or.inl (Or.inr (Or.inl ⟨rfl, rfl⟩)))
  have hF2 : FrG (pF s) σ σ2 := hF1.t (pS.F (pC.S (pK.C hF.K)))
  have hF3 : FrG (pF s) σ σ3 := hF2.t (p26.F hG.1)
  have u : ∀ t a, t ≠ 4 → (up σ3 4 s 2 B) t a = σ3 t a := fun t a ht => funext fun x => by rw [up_ap, if_neg (fun q => ht q.1)]
  have e20 : (up σ3 4 s 2 B) 20 (s + 2) = σ 20 (s + 2) := by rw [u 20 _ (by omega), e 20 _ (by omega), f 20 (by omega), c 20 (by omega)]
  have eB : (up σ3 4 s 2 B) 4 s 2 = B := by rw [up_ap, if_pos ⟨rfl, rfl, rfl⟩]
  have hF4 : FrG (pF s) σ (up σ3 4 s 2 B) := hF3.u (Or.inr (Or.inr (Or.inr ⟨rfl, rfl, Or.inr rfl⟩)))
  obtain ⟨g1, g2, g3, g4, g5⟩ := hG
  refine ⟨hF4, ?_, fun x x0 x1 => ?_, fun x x0 x1 => by rw [e20], by rw [eB]; exact g2, by rw [eB]; exact g3, fun v v0 v1 C hC => ?_⟩
  · unfold nA
    rw [e20, pF.f hF4 15 (by omega), pF.f hF4 16 (by omega), pF.f hF4 19 (by omega)]
    exact hA
  · rw [u 28 _ (by omega), e 28 _ (by omega)]
    have : σ2 28 s = σ1 28 s := funext fun x => hF 28 s x (by rintro ⟨-, q⟩; omega)
    rw [this]
    exact hc.2 x x0 x1
  · rw [eB] at v1
    rcases g5 with g5 | ⟨m, m0, m1, g5⟩
    · omega
    · have hB2 : nB σ2 (s + 2) := pF.B hF2 hB
      have q := mB_sol (C := C) (u := v) hB2 hM (by
        rw [pF.f hF2 15 (by omega), pF.f hF2 16 (by omega), pF.f hF2 17 (by omega), pF.f hF2 18 (by omega)]
        exact hC.1) (by
        rw [pF.f hF2 15 (by omega), pF.f hF2 16 (by omega), f 20 (by omega), c 20 (by omega)]
        exact hC.2) v0 m0 m1 g5
      omega
/-- the next limit -/
theorem fI_s {σ σ' σ3 σ4 : Mem} {s : Nat} (hB : nB σ (s + 2)) (hA : nA σ (s + 2)) (h : fI σ σ' s) (hC : CmF σ' σ3 s 0 (σ' 4 s 2)) (hl : σ' 4 s 2 < 1000) (hc : Cpy σ3 σ4 20 (s + 2) 28 s 16) : fI σ (up σ4 4 s 2 (σ4 4 s 2 + 1)) s := by
  obtain ⟨a1, a2, a3, a4, a5, a6, a7⟩ := h
  obtain ⟨b1, b2, b3, b4⟩ := hC
  have c := fun t (ht : t ≠ 20) a => hc.row (t1 := t) (a1 := a) (Or.inl ht)
  have u : ∀ t a, t ≠ 4 → (up σ4 4 s 2 (σ4 4 s 2 + 1)) t a = σ4 t a := fun t a ht => funext fun x => by rw [up_ap, if_neg (fun q => ht q.1)]
  have hF3 : FrG (pF s) σ σ3 := a1.t (pS.F (pC.S b1))
  have hF4 : FrG (pF s) σ σ4 := hF3.t (hc.Fr (fun x => Or.inl (Or.inl (Or.inl ⟨rfl, Or.inl rfl⟩))))
  have hF5 : FrG (pF s) σ (up σ4 4 s 2 (σ4 4 s 2 + 1)) := hF4.u (Or.inr (Or.inr (Or.inr ⟨rfl, rfl, Or.inr rfl⟩)))
  have e4 : σ4 4 s 2 = σ' 4 s 2 := by rw [c 4 (by omega), pC.f b1 4 (by omega)]
  have e5 : (up σ4 4 s 2 (σ4 4 s 2 + 1)) 4 s 2 = σ' 4 s 2 + 1 := by rw [up_ap, if_pos ⟨rfl, rfl, rfl⟩, e4]
  have e28 : ∀ x, 0 ≤ x → x < 16 → σ3 28 s x = σ 20 (s + 2) x := fun x x0 x1 => by rw [pC.f b1 28 (by omega)]; exact a3 x x0 x1
  refine ⟨hF5, ?_, fun x x0 x1 => ?_, fun x x0 x1 => ?_, by rw [e5]; omega, by rw [e5]; omega, fun v v0 v1 C hCC => ?_⟩
  · unfold nA
    rw [pF.f hF5 15 (by omega), pF.f hF5 16 (by omega), pF.f hF5 19 (by omega), u 20 _ (by omega)]
    exact NA_cg (fun x x0 x1 => by rw [hc.2 x x0 x1, e28 x x0 x1]) hA
  · rw [u 28 _ (by omega), c 28 (by omega), e28 x x0 x1]
  · rw [u 20 _ (by omega), hc.2 x x0 x1, e28 x x0 x1]
  · rw [e5] at v1
    rcases (show v < σ' 4 s 2 ∨ v = σ' 4 s 2 by omega) with q | q
    · exact a7 v v0 q C hCC
    · subst q
      refine b4 C ?_ ?_
      · rw [pF.f a1 15 (by omega), pF.f a1 16 (by omega), pF.f a1 17 (by omega), pF.f a1 18 (by omega)]
        exact hCC.1
      · rw [pF.f a1 15 (by omega), pF.f a1 16 (by omega), sbA_cg a4]
        exact hCC.2
/-- the places below p are settled, for the least limit -/
def gI (σ σ' : Mem) (s : Nat) (p : Int) : Prop := FrG (pF s) σ σ' ∧ nA σ' (s + 2) ∧ 0 ≤ σ' 4 s 2 ∧ σ' 4 s 2 < 1000 ∧ (∀ u, 0 ≤ u → u < σ' 4 s 2 → ∀ C, ¬ sSol σ s u C) ∧ sSQ σ' s (σ 20 (s + 2)) (σ' 28 s) (σ' 30 s) (σ' 27 s) (σ' 4 s 2) p
/-- the net as it was, behind completing: fit for keeps -/
theorem fk_st {σ σ' σ4 σ5 : Mem} {s : Nat} (hB : nB σ (s + 2)) (hA : nA σ (s + 2)) (hO : nO σ (s + 2)) (h : fI σ σ' s) (hC : CmT σ' σ4 s 0 (σ' 4 s 2)) (hc : Cpy σ4 σ5 20 (s + 2) 28 s 16) : FrG (pF s) σ σ5 ∧ nB σ5 (s + 2) ∧ nA σ5 (s + 2) ∧ nO σ5 (s + 2) ∧ σ5 4 s 2 = σ' 4 s 2 ∧ (∀ x, 0 ≤ x → x < 16 → σ5 20 (s + 2) x = σ 20 (s + 2) x) ∧ NA (σ 15 (s + 2)) (σ 16 (s + 2)) (σ 19 (s + 2)) (σ5 30 s) ∧ sSol σ s (σ' 4 s 2) (rA (σ5 30 s)) := by
  obtain ⟨a1, a2, a3, a4, a5, a6, a7⟩ := h
  obtain ⟨b1, b2, b3⟩ := hC
  have c := fun t (ht : t ≠ 20) a => hc.row (t1 := t) (a1 := a) (Or.inl ht)
  have hF4 : FrG (pF s) σ σ4 := a1.t (pS.F (pC.S b1))
  have hF5 : FrG (pF s) σ σ5 := hF4.t (hc.Fr (fun x => Or.inl (Or.inl (Or.inl ⟨rfl, Or.inl rfl⟩))))
  have e20 : ∀ x, 0 ≤ x → x < 16 → σ5 20 (s + 2) x = σ 20 (s + 2) x := fun x x0 x1 => by rw [hc.2 x x0 x1, pC.f b1 28 (by omega), a3 x x0 x1]
  unfold Wit at b3
  rw [pF.f hF4 15 (by omega), pF.f hF4 16 (by omega), pF.f hF4 17 (by omega), pF.f hF4 18 (by omega), pF.f hF4 19 (by omega), ← c 30 (by omega)] at b3
  refine ⟨hF5, pF.B hF5 hB, ?_, pF.O hF5 hO, by rw [c 4 (by omega), pC.f b1 4 (by omega)], e20, b3.1, b3.2.2, (sbA_cg a4).mp (sbA_rA b3.2.1)⟩
  unfold nA
  rw [pF.f hF5 15 (by omega), pF.f hF5 16 (by omega), pF.f hF5 19 (by omega)]
  exact NA_cg e20 hA
theorem fk_kf {σ σ' σ4 σ5 : Mem} {s : Nat} (hB : nB σ (s + 2)) (hA : nA σ (s + 2)) (hO : nO σ (s + 2)) (h : fI σ σ' s) (hC : CmT σ' σ4 s 0 (σ' 4 s 2)) (hc : Cpy σ4 σ5 20 (s + 2) 28 s 16) (hK : KF σ5 (s + 2) (σ5 4 s 2)) : False := by
  obtain ⟨q1, q2, q3, q4, q5, q6, q7, q8⟩ := fk_st hB hA hO h hC hc
  refine hK (rA (σ5 30 s)) ?_ ?_
  · rw [pF.f q1 15 (by omega), pF.f q1 16 (by omega), pF.f q1 17 (by omega), pF.f q1 18 (by omega), q5]
    exact q8.1.2
  · rw [pF.f q1 15 (by omega), pF.f q1 16 (by omega), sbA_cg q6]
    exact q8.2
theorem gI_0 {σ σ' σ4 σ5 σ6 σ7 : Mem} {s : Nat} (hB : nB σ (s + 2)) (hA : nA σ (s + 2)) (hO : nO σ (s + 2)) (h : fI σ σ' s) (hl : σ' 4 s 2 < 1000) (hC : CmT σ' σ4 s 0 (σ' 4 s 2)) (hc : Cpy σ4 σ5 20 (s + 2) 28 s 16) (hK : KT σ5 σ6 (s + 2) (σ5 4 s 2)) (hc2 : Cpy σ6 σ7 28 s 20 (s + 2) 16) : gI σ σ7 s 0 := by
  obtain ⟨q1, q2, q3, q4, q5, q6, q7, q8⟩ := fk_st hB hA hO h hC hc
  obtain ⟨k1, k2, k3, k4, k5, k6, k7⟩ := hK
  have c := fun t (ht : t ≠ 28) a => hc2.row (t1 := t) (a1 := a) (Or.inl ht)
  have g := fun t ht => pK.f k1 t ht
  have hF6 : FrG (pF s) σ σ6 := q1.t (pS.F (pC.S (pK.C k1)))
  have hF7 : FrG (pF s) σ σ7 := hF6.t (hc2.Fr (fun x => Or.inl (Or.inr (Or.inl ⟨rfl, rfl⟩))))
  have e4 : σ7 4 s 2 = σ' 4 s 2 := by
    rw [c 4 (by omega)]
    have : σ6 4 s = σ5 4 s := k1.f 4 s (by rintro x ⟨-, q⟩; omega)
    rw [this, q5]
  have e30 : σ7 30 s = σ5 30 s := by
    rw [c 30 (by omega)]
    exact k1.f 30 s (by rintro x ⟨-, q⟩; omega)
  have lst' : ∀ C, sSol σ s (σ' 4 s 2) C → sbA (σ 15 (s + 2)) (σ 16 (s + 2)) (σ6 20 (s + 2)) C := by
    intro C hCC
    have := k4 C (by
      rw [pF.f q1 15 (by omega), pF.f q1 16 (by omega), pF.f q1 17 (by omega), pF.f q1 18 (by omega), q5]
      exact hCC.1.2) (by
      rw [pF.f q1 15 (by omega), pF.f q1 16 (by omega), sbA_cg q6]
      exact hCC.2)
    rw [pF.f q1 15 (by omega), pF.f q1 16 (by omega)] at this
    exact this
  have e28 : ∀ x, 0 ≤ x → x < 16 → σ7 28 s x = σ6 20 (s + 2) x := hc2.2
  have hA6 : NA (σ 15 (s + 2)) (σ 16 (s + 2)) (σ 19 (s + 2)) (σ6 20 (s + 2)) := by
    have := k2
    unfold nA at this
    rw [pF.f hF6 15 (by omega), pF.f hF6 16 (by omega), pF.f hF6 19 (by omega)] at this
    exact this
  refine ⟨hF7, ?_, by rw [e4]; exact h.2.2.2.2.1, by rw [e4]; exact hl, by rw [e4]; exact h.2.2.2.2.2.2, ?_⟩
  · unfold nA
    rw [pF.f hF7 15 (by omega), pF.f hF7 16 (by omega), pF.f hF7 19 (by omega), c 20 (by omega)]
    exact hA6
  · rw [e4, e30]
    unfold sSQ
    rw [pF.f hF7 15 (by omega), pF.f hF7 16 (by omega), pF.f hF7 17 (by omega), pF.f hF7 18 (by omega), pF.f hF7 19 (by omega)]
    rw [pF.f q1 15 (by omega)] at k3
    refine ⟨hB, NA_cg e28 hA6, ?_, q7, ?_, q8.1, fun e e0 e1 => by omega, fun e e0 e1 => by omega, fun C hCC hs _ => (sbA_cg e28).mpr (lst' C ⟨hCC, hs⟩), fun C _ _ e e0 e1 => by omega⟩
    · exact mnA.t (mnA_cg q6) (k3.t (mnA_cg e28))
    · exact mnA.t (mnA_cg (fun x x0 x1 => (e28 x x0 x1).symm)) (rA_mn hB hA6 (lst' _ q8))
theorem gI_s {σ σ' σ2 : Mem} {s : Nat} {p r : Int} (h : gI σ σ' s p) (hF : FrG (pS s) σ' σ2) (hA : nA σ2 (s + 2)) (hS : sSQ σ2 s (σ 20 (s + 2)) (σ2 28 s) (σ2 30 s) (fun x => if x = p then r else σ2 27 s x) (σ2 4 s 2) (p + 1)) : gI σ (up σ2 27 s p r) s (p + 1) := by
  obtain ⟨a1, a2, a3, a4, a5, a6⟩ := h
  have u : ∀ t a, t ≠ 27 → (up σ2 27 s p r) t a = σ2 t a := fun t a ht => funext fun x => by rw [up_ap, if_neg (fun q => ht q.1)]
  have e27 : (up σ2 27 s p r) 27 s = fun x => if x = p then r else σ2 27 s x := by
    funext x
    rw [up_ap]
    by_cases c : x = p
    · simp [c]
    · simp [c]
  have e4 : σ2 4 s = σ' 4 s := pS.f hF 4 (by omega) s
  refine ⟨(a1.t (pS.F hF)).u (Or.inr (Or.inr (Or.inl ⟨rfl, rfl⟩))), ?_, ?_, ?_, ?_, ?_⟩
  · unfold nA
    rw [u 15 _ (by omega), u 16 _ (by omega), u 19 _ (by omega), u 20 _ (by omega)]
    exact hA
  · rw [u 4 _ (by omega), e4]
    exact a3
  · rw [u 4 _ (by omega), e4]
    exact a4
  · rw [u 4 _ (by omega), e4]
    exact a5
  · unfold sSQ
    rw [u 15 _ (by omega), u 16 _ (by omega), u 17 _ (by omega), u 18 _ (by omega), u 19 _ (by omega), u 28 _ (by omega), u 30 _ (by omega), u 4 _ (by omega), e27]
    exact hS
/-- what a search finds -/
def FdR (σ σ' : Mem) (s : Nat) : Prop := FrG (pF s) σ σ' ∧ σ' 4 s 1 = 1 ∧ 0 ≤ σ' 4 s 2 ∧ σ' 4 s 2 < 1000 ∧ (∀ u, 0 ≤ u → u < σ' 4 s 2 → ∀ C, ¬ sSol σ s u C) ∧ sSQ σ' s (σ 20 (s + 2)) (σ' 28 s) (σ' 30 s) (σ' 27 s) (σ' 4 s 2) 16
theorem gI_end {σ σ' : Mem} {s : Nat} {p : Int} (h : gI σ σ' s p) (hp : p = 16) : FdR σ (up σ' 4 s 1 1) s := by
  subst hp
  obtain ⟨a1, a2, a3, a4, a5, a6⟩ := h
  have u : ∀ t a, t ≠ 4 → (up σ' 4 s 1 1) t a = σ' t a := fun t a ht => funext fun x => by rw [up_ap, if_neg (fun q => ht q.1)]
  have e4 : (up σ' 4 s 1 1) 4 s 2 = σ' 4 s 2 := by rw [up_ap, if_neg (by rintro ⟨-, -, q⟩; omega)]
  refine ⟨a1.u (Or.inr (Or.inr (Or.inr ⟨rfl, rfl, Or.inl rfl⟩))), by rw [up_ap, if_pos ⟨rfl, rfl, rfl⟩], by rw [e4]; exact a3, by rw [e4]; exact a4, by rw [e4]; exact a5, ?_⟩
  unfold sSQ
  rw [u 15 _ (by omega), u 16 _ (by omega), u 17 _ (by omega), u 18 _ (by omega), u 19 _ (by omega), u 28 _ (by omega), u 30 _ (by omega), u 27 _ (by omega), e4]
  exact a6
