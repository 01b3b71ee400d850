theorem plnF_0 (tx : Int → Int) (n : Int) : plnF tx n = cif ((pln0 tx n).1 ≠ 0 ∨ (pln0 tx n).2.1 ≠ n) (pln0 tx n).2.1 (-6) := rfl
/-- what a text says as a plan, and the state that comes of it -/
def plE (σ σ' : Mem) (i : Nat) : Prop := FrG (pPl i) σ σ' ∧ (plnF (cT σ) (cL σ) = -6 → PL σ' i (pln0 (cT σ) (cL σ)).2.2.1 (pln0 (cT σ) (cL σ)).2.2.2)
/-- readPlan's loop -/
def PRi (σ σ' : Mem) (i : Nat) (mo jj : Int) : Prop := FrG (pPl i) σ σ' ∧ 0 ≤ σ' 2 0 2 ∧ σ' 2 0 2 ≤ cL σ ∧ 1 ≤ jj ∧ jj ≤ 5 ∧ ((mo = 1 ∧ jj ≤ 4 ∧ ∃ ln q, PL σ' i ln q ∧ pln0 (cT σ) (cL σ) = plnS (cT σ) (cL σ) (5 - jj).toNat (jj - 1) (σ' 2 0 2) ln q) ∨ (mo = 0 ∧ ∃ ln q, PL σ' i ln q ∧ pln0 (cT σ) (cL σ) = (0, σ' 2 0 2, ln, q)))
theorem PRi_0 {σ σ' σ2 : Mem} {i : Nat} (hL : 0 ≤ cL σ) (hF : FrG (pPl i) σ σ') (h0 : σ' 2 0 2 = 0) (h3 : σ' 2 0 3 = 0) (hs : ∀ t k j, σ2 t k j = if k = i ∧ ((t = 5 ∧ j = 0) ∨ ((t = 10 ∨ t = 13) ∧ 0 ≤ j ∧ j < 4)) then 0 else σ' t k j) : PRi σ σ2 i 1 1 := by
  have e2 : σ2 2 0 2 = 0 := by rw [hs, if_neg (by rintro ⟨-, ⟨q, -⟩ | ⟨q, -⟩⟩ <;> omega), h0]
  have e3 : σ2 2 0 3 = 0 := by rw [hs, if_neg (by rintro ⟨-, ⟨q, -⟩ | ⟨q, -⟩⟩ <;> omega), h3]
  refine ⟨hF.t (fun t a x q => ?_), by omega, by omega, by omega, by omega, Or.inl ⟨rfl, by omega, fun _ => -1, fun _ => 0, ⟨by omega, by omega, fun m m0 m1 => ?_⟩, ?_⟩⟩
  · rw [hs, if_neg]
    rintro ⟨rfl, z⟩
    exact q (Or.inr ⟨rfl, by omega⟩)
  · have e13 : σ2 13 i m = 0 := by rw [hs, if_pos ⟨rfl, Or.inr ⟨Or.inr rfl, m0, m1⟩⟩]
    rw [e3, e13]
    exact ⟨⟨fun z => absurd z (bit_0 m0 m1), fun z => absurd z (show ¬ (0 : Int) ≤ -1 by omega)⟩, rfl, oOK_0 _ _, fun k k0 k1 => by omega⟩
  · rw [e2]
    rfl
theorem PRi_s {σ σ' : Mem} {i : Nat} {mo jj : Int} (h : PRi σ σ' i mo jj) (hm : mo ≠ 0) : jj ≤ 4 ∧ ∃ ln q, PL σ' i ln q ∧ ((ordS (cT σ) (cL σ) ln q (σ' 2 0 2)).1 ≠ 0 → ∀ σ2, FrG (pPl i) σ' σ2 → σ2 2 0 2 = (ordS (cT σ) (cL σ) ln q (σ' 2 0 2)).2.1 → plE σ σ2 i ∧ plnF (cT σ) (cL σ) = σ2 2 0 2) ∧ ((ordS (cT σ) (cL σ) ln q (σ' 2 0 2)).1 = 0 → ∀ σ2, FrG (pPl i) σ' σ2 → σ2 2 0 2 = (ordS (cT σ) (cL σ) ln q (σ' 2 0 2)).2.1 → PL σ2 i (ordS (cT σ) (cL σ) ln q (σ' 2 0 2)).2.2.1 (ordS (cT σ) (cL σ) ln q (σ' 2 0 2)).2.2.2 → 0 ≤ σ2 2 0 2 ∧ (nx (cT σ) (cL σ) (σ2 2 0 2) = 59 → jj < 4 → ∀ σ3, FrG pPd σ2 σ3 → σ3 2 0 2 = σ2 2 0 2 + 1 → PRi σ σ3 i 1 (jj + 1)) ∧ (¬ (nx (cT σ) (cL σ) (σ2 2 0 2) = 59 ∧ jj < 4) → PRi σ σ2 i 0 (jj + 1))) := by
  obtain ⟨a1, a2, a3, a4, a5, a6⟩ := h
  rcases a6 with ⟨b1, b2, ln, q, b3, b4⟩ | ⟨b1, -⟩
  · have hj := ordS_r (cT σ) (ln := ln) (q := q) a3
    rw [show (5 - jj).toNat = (4 - jj).toNat + 1 by omega, plnS_1] at b4
    refine ⟨b2, ln, q, b3, fun hq σ2 hF ha => ?_, fun hq σ2 hF ha hR => ?_⟩
    · rw [cif_1 hq] at b4
      have e : plnF (cT σ) (cL σ) = σ2 2 0 2 := by
        rw [plnF_0, b4, cif_1 (Or.inl (show (1 : Int) ≠ 0 by omega)), ha]
      exact ⟨⟨a1.t hF, fun q => by rw [e, ha] at q; omega⟩, e⟩
    · rw [cif_0 (fun z => z hq), ← ha] at b4
      refine ⟨by omega, fun c1 c2 σ3 f a => ?_, fun c => ?_⟩
      · rw [cif_1 ⟨c1, by omega⟩] at b4
        have hlt := nx_lt c1 (by omega)
        refine ⟨(a1.t hF).t (pPd.P f), by omega, by omega, by omega, by omega, Or.inl ⟨rfl, by omega, _, _, PL_cg f hR, ?_⟩⟩
        rw [b4, a, show (5 - (jj + 1)).toNat = (4 - jj).toNat by omega, show jj + 1 - 1 = jj - 1 + 1 by omega]
      · rw [cif_0 (fun z => c ⟨z.1, by omega⟩)] at b4
        exact ⟨a1.t hF, by omega, by omega, by omega, by omega, Or.inr ⟨rfl, _, _, hR, b4⟩⟩
  · exact absurd b1 hm
theorem PRi_end {σ σ' : Mem} {i : Nat} {mo jj : Int} (h : PRi σ σ' i mo jj) (hm : mo = 0 ∨ 4 < jj) : plE σ σ' i ∧ plnF (cT σ) (cL σ) = (if σ' 2 0 2 = cL σ then -6 else σ' 2 0 2) := by
  obtain ⟨a1, a2, a3, a4, a5, a6⟩ := h
  rcases a6 with ⟨b1, b2, -⟩ | ⟨b1, ln, q, b2, b3⟩
  · omega
  · have e : plnF (cT σ) (cL σ) = (if σ' 2 0 2 = cL σ then -6 else σ' 2 0 2) := by
      rw [plnF_0, b3]
      by_cases c : σ' 2 0 2 = cL σ
      · rw [if_pos c, cif_0 (fun z => by
          rcases z with z | z
          · exact z rfl
          · exact z c)]
      · rw [if_neg c, cif_1 (Or.inr c)]
    exact ⟨⟨a1, fun _ => by rw [b3]; exact b2⟩, e⟩
