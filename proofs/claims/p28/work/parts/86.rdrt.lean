theorem rtsS_1 (tx : Int → Int) (n : Int) (f : Nat) (j a : Int) (Rs : Int → Int) : rtsS tx n (f + 1) j a Rs = cif ((jobS tx n a).1 ≠ 0) (1, (jobS tx n a).2.1, j, Rs) (cif (nx tx n (jobS tx n a).2.1 = 59 ∧ j + 1 < 4) (rtsS tx n f (j + 1) ((jobS tx n a).2.1 + 1) (uJ Rs j (jobS tx n a).2.2)) (0, (jobS tx n a).2.1, j + 1, uJ Rs j (jobS tx n a).2.2)) := rfl
noncomputable def rts0 (tx : Int → Int) (n : Int) : Int × Int × Int × (Int → Int) := rtsS tx n 4 0 0 (fun _ => 0)
theorem rtsF_0 (tx : Int → Int) (n : Int) : rtsF tx n = cif ((rts0 tx n).1 ≠ 0 ∨ (rts0 tx n).2.1 ≠ n) (rts0 tx n).2.1 (-6) := rfl
/-- readRoutes' loop: mo whether more follows, jj the number of the next job and 1 -/
def RTi (σ σ' : Mem) (i : Nat) (mo jj : Int) : Prop := FrG (pRd i) σ σ' ∧ 0 ≤ σ' 2 0 2 ∧ σ' 2 0 2 ≤ cL σ ∧ 1 ≤ jj ∧ jj ≤ 5 ∧ ((mo = 1 ∧ jj ≤ 4 ∧ ∃ Rs, RJ σ' i (jj - 1) Rs ∧ rts0 (cT σ) (cL σ) = rtsS (cT σ) (cL σ) (5 - jj).toNat (jj - 1) (σ' 2 0 2) Rs) ∨ (mo = 0 ∧ ∃ Rs J, RJ σ' i J Rs ∧ rts0 (cT σ) (cL σ) = (0, σ' 2 0 2, J, Rs)))
theorem RTi_0 {σ σ' σ2 : Mem} {i : Nat} (hL : 0 ≤ cL σ) (hF : FrG pPd σ σ') (h0 : σ' 2 0 2 = 0) (hs : ∀ t k j, σ2 t k j = if k = i ∧ ((t = 5 ∧ j = 0) ∨ ((t = 10 ∨ t = 13) ∧ 0 ≤ j ∧ j < 4)) then 0 else σ' t k j) : RTi σ σ2 i 1 1 := by
  have e2 : σ2 2 0 2 = 0 := by rw [hs, if_neg (by rintro ⟨-, ⟨q, -⟩ | ⟨q, -⟩⟩ <;> omega), h0]
  refine ⟨(pPd.R hF).t (fun t a x q => ?_), by omega, by omega, by omega, by omega, Or.inl ⟨rfl, by omega, fun _ => 0, ⟨?_, ?_, ?_, fun j' a b => by omega⟩, ?_⟩⟩
  · rw [hs, if_neg]
    rintro ⟨rfl, z⟩
    exact q (Or.inr ⟨rfl, by omega⟩)
  · have e5 : σ2 5 i 0 = 0 := by rw [hs, if_pos ⟨rfl, Or.inl ⟨rfl, rfl⟩⟩]
    rw [e5]
    exact WF_0 (fun j a b => by rw [hs, if_pos ⟨rfl, Or.inr ⟨Or.inl rfl, a, b⟩⟩]) (fun m a b => by rw [hs, if_pos ⟨rfl, Or.inr ⟨Or.inr rfl, a, b⟩⟩])
  · rw [hs, if_pos ⟨rfl, Or.inl ⟨rfl, rfl⟩⟩]
    rfl
  · intro m k k' m0 m1 k0 k1 k2
    rw [hs, if_pos ⟨rfl, Or.inr ⟨Or.inr rfl, m0, m1⟩⟩] at k2
    omega
  · rw [e2]
    rfl
/-- what a text says as routes, and the state that comes of it -/
def rtE (σ σ' : Mem) (i : Nat) : Prop := FrG (pRd i) σ σ' ∧ (rtsF (cT σ) (cL σ) = -6 → RJ σ' i (rts0 (cT σ) (cL σ)).2.2.1 (rts0 (cT σ) (cL σ)).2.2.2)
theorem RTi_bad {σ σ' σ2 : Mem} {i : Nat} {mo jj : Int} (h : RTi σ σ' i mo jj) (hm : mo ≠ 0) (hq : (jobS (cT σ) (cL σ) (σ' 2 0 2)).1 ≠ 0) (hF : FrG (pRd i) σ' σ2) (ha : σ2 2 0 2 = (jobS (cT σ) (cL σ) (σ' 2 0 2)).2.1) : rtE σ σ2 i ∧ rtsF (cT σ) (cL σ) = σ2 2 0 2 := by
  obtain ⟨a1, a2, a3, a4, a5, a6⟩ := h
  rcases a6 with ⟨b1, b2, Rs, b3, b4⟩ | ⟨b1, -⟩
  · rw [show (5 - jj).toNat = (4 - jj).toNat + 1 by omega, rtsS_1, cif_1 hq] at b4
    have hj := jobS_r (cT σ) a3
    have e : rtsF (cT σ) (cL σ) = σ2 2 0 2 := by
      rw [rtsF_0, b4, cif_1 (Or.inl (show (1 : Int) ≠ 0 by omega)), ha]
    exact ⟨⟨a1.t hF, fun q => by rw [e, ha] at q; omega⟩, e⟩
  · exact absurd b1 hm
theorem RTi_s {σ σ' : Mem} {i : Nat} {mo jj : Int} (h : RTi σ σ' i mo jj) (hm : mo ≠ 0) : jj ≤ 4 ∧ ∃ Rs, RJ σ' i (jj - 1) Rs ∧ ((jobS (cT σ) (cL σ) (σ' 2 0 2)).1 = 0 → ∀ σ2, FrG (pRd i) σ' σ2 → σ2 2 0 2 = (jobS (cT σ) (cL σ) (σ' 2 0 2)).2.1 → RJ σ2 i (jj - 1 + 1) (uJ Rs (jj - 1) (jobS (cT σ) (cL σ) (σ' 2 0 2)).2.2) → 0 ≤ σ2 2 0 2 ∧ (nx (cT σ) (cL σ) (σ2 2 0 2) = 59 → jj < 4 → ∀ σ3, FrG pPd σ2 σ3 → σ3 2 0 2 = σ2 2 0 2 + 1 → RTi σ σ3 i 1 (jj + 1)) ∧ (¬ (nx (cT σ) (cL σ) (σ2 2 0 2) = 59 ∧ jj < 4) → RTi σ σ2 i 0 (jj + 1))) := by
  obtain ⟨a1, a2, a3, a4, a5, a6⟩ := h
  rcases a6 with ⟨b1, b2, Rs, b3, b4⟩ | ⟨b1, -⟩
  · refine ⟨b2, Rs, b3, fun hq σ2 hF ha hR => ?_⟩
    rw [show (5 - jj).toNat = (4 - jj).toNat + 1 by omega, rtsS_1, cif_0 (fun z => z hq), ← ha] at b4
    have hj := jobS_r (cT σ) a3
    rw [show jj - 1 + 1 = jj by omega] at hR
    refine ⟨by omega, fun c1 c2 σ3 f a => ?_, fun c => ?_⟩
    · rw [cif_1 ⟨c1, by omega⟩] at b4
      have hlt := nx_lt c1 (by omega)
      refine ⟨(a1.t hF).t (pPd.R f), by omega, by omega, by omega, by omega, Or.inl ⟨rfl, by omega, _, RJ_cg f (by rw [show jj + 1 - 1 = jj by omega]; exact hR), ?_⟩⟩
      rw [b4, a, show (5 - (jj + 1)).toNat = (4 - jj).toNat by omega, show jj + 1 - 1 = jj - 1 + 1 by omega]
    · rw [cif_0 (fun z => c ⟨z.1, by omega⟩)] at b4
      exact ⟨a1.t hF, by omega, by omega, by omega, by omega, Or.inr ⟨rfl, _, jj, hR, by rw [b4, show jj - 1 + 1 = jj by omega]⟩⟩
  · exact absurd b1 hm
theorem RTi_end {σ σ' : Mem} {i : Nat} {mo jj : Int} (h : RTi σ σ' i mo jj) (hm : mo = 0 ∨ 4 < jj) : rtE σ σ' i ∧ rtsF (cT σ) (cL σ) = (if σ' 2 0 2 = cL σ then -6 else σ' 2 0 2) := by
  obtain ⟨a1, a2, a3, a4, a5, a6⟩ := h
  rcases a6 with ⟨b1, b2, -⟩ | ⟨b1, Rs, J, b2, b3⟩
  · omega
  · have e : rtsF (cT σ) (cL σ) = (if σ' 2 0 2 = cL σ then -6 else σ' 2 0 2) := by
      rw [rtsF_0, b3]
      by_cases c : σ' 2 0 2 = cL σ
      · rw [if_pos c, cif_0 (fun z => by
          rcases z with z | z
          · exact z rfl
          · exact z c)]
      · rw [if_neg c, cif_1 (Or.inr c)]
    exact ⟨⟨a1, fun _ => by rw [b3]; exact b2⟩, e⟩
