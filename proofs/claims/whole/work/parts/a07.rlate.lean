/-- the end of a job, and how late it is, as the reference has it -/
def rej (σ : Mem) (j : Int) : Int := if 0 < rSt σ j then σ 45 0 (4 * j + rSt σ j - 1) + rDu σ (4 * j + rSt σ j - 1) else rRe σ j
def rlt (σ : Mem) (j : Int) : Int := if 0 < rej σ j - rDd σ j then rej σ j - rDd σ j else 0
/-- well, and the heads keep their bounds -/
def rHb (σ : Mem) : Prop := rWF σ ∧ ∀ o, rOp σ o → 0 ≤ σ 45 0 o ∧ σ 45 0 o ≤ 10000
theorem rSt_r {σ : Mem} (h : rWF σ) {j : Int} (j0 : 0 ≤ j) (j1 : j < 4) : 0 ≤ rSt σ j ∧ rSt σ j ≤ 4 := ⟨(h.1.2.1 j j0 j1).1, (h.1.2.1 j j0 j1).2.1⟩
theorem rOp_i {σ : Mem} {j s : Int} (j0 : 0 ≤ j) (j1 : j < 4) (s0 : 0 ≤ s) (s1 : s < rSt σ j) (h4 : rSt σ j ≤ 4) : rOp σ (4 * j + s) := ⟨by omega, by omega, by rw [show (4 * j + s) / 4 = j by omega]; omega⟩
theorem rej_r {σ : Mem} (h : rHb σ) {j : Int} (j0 : 0 ≤ j) (j1 : j < σ 38 0 0) : 0 ≤ rej σ j ∧ rej σ j ≤ 10020 ∧ 0 ≤ rlt σ j ∧ rlt σ j ≤ 10020 ∧ 0 ≤ rDd σ j ∧ rDd σ j ≤ 200 := by
  have h4 := h.1.1.1.2
  have hs := rSt_r h.1 j0 (by omega)
  have hd := h.1.2 j j0 j1
  have e : 0 ≤ rej σ j ∧ rej σ j ≤ 10020 := by
    unfold rej
    split
    · rename_i c
      have v := rOp_i (s := rSt σ j - 1) j0 (by omega) (by omega) (by omega) hs.2
      rw [show 4 * j + (rSt σ j - 1) = 4 * j + rSt σ j - 1 by omega] at v
      have a := h.2 _ v
      have b := rWF_op h.1 v
      omega
    · omega
  unfold rlt
  refine ⟨e.1, e.2, ?_⟩
  split <;> omega
/-- the reference's plan: heads, tails, the path -/
def RPl (σ σ' : Mem) : Prop := FrG (fun t a x => pFd t a x ∨ pCr t a x) σ σ' ∧ rH σ (σ' 45 0) ∧ rT σ (σ' 46 0) ∧ rBd σ' ∧ ∃ L, LE σ' 16 L ∧ rPT σ' L (σ' 47 0) (σ' 7 0 12) (-6)
theorem Fnd_rBd {σ σ' : Mem} (hw : rWF σ) (h : Fnd σ σ') : rBd σ' := by
  obtain ⟨h1, h2, h3, h4⟩ := h
  have e := pFd_38 h1
  refine ⟨?_, fun o v => h4 o ?_⟩
  · unfold rWF rSt rMc rDu rLn rQ rRe rDd at hw ⊢
    rw [e]
    exact hw
  · unfold rOp rSt at v ⊢
    rw [e] at v
    exact v
theorem RPl_i {σ σ1 σ2 : Mem} {L : Int} (hw : rWF σ) (h : Fnd σ σ1) (hL : LE σ1 16 L) (hC : FCi σ1 σ2 L (-6)) : RPl σ σ2 := by
  have hb := Fnd_rBd hw h
  have e38 : σ2 38 0 = σ1 38 0 := hC.1.f 38 0 (by rintro x (⟨q, -⟩ | ⟨q, -⟩) <;> omega)
  have e45 : σ2 45 0 = σ1 45 0 := hC.1.f 45 0 (by rintro x (⟨q, -⟩ | ⟨q, -⟩) <;> omega)
  have e46 : σ2 46 0 = σ1 46 0 := hC.1.f 46 0 (by rintro x (⟨q, -⟩ | ⟨q, -⟩) <;> omega)
  refine ⟨(h.1.w (fun _ _ _ q => Or.inl q)).t (hC.1.w (fun _ _ _ q => Or.inr q)), by rw [e45]; exact h.2.1, by rw [e46]; exact h.2.2.1, ?_, L, ?_, ?_⟩
  · unfold rBd rWF rOp rSt rMc rDu rLn rQ rRe rDd at hb ⊢
    rw [e38, e45, e46]
    exact hb
  · unfold LE rOp rSt rDu at hL ⊢
    rw [e38, e45]
    exact hL
  · have := hC.2
    unfold rPT rSt rMc rDu rLn rQ rRe at this ⊢
    rw [e38, e45, e46]
    exact this
theorem RPl_b {σ σ' : Mem} (h : RPl σ σ') : rHb σ' ∧ (0 ≤ σ' 7 0 12 ∧ σ' 7 0 12 ≤ 16 ∧ ∀ k, 0 ≤ k → k < σ' 7 0 12 → 0 ≤ σ' 47 0 k ∧ σ' 47 0 k < 16) ∧ 0 ≤ σ' 38 0 0 ∧ σ' 38 0 0 ≤ 4 := by
  obtain ⟨h1, h2, h3, h4, L, h5, h6⟩ := h
  have hv := PTi_v h4.1.1 h6
  exact ⟨⟨h4.1, fun o v => ⟨(h4.2 o v).1, (h4.2 o v).2.1⟩⟩, ⟨h6.1, hv.2.2, fun k k0 k1 => ⟨(hv.1 k k0 k1).1, (hv.1 k k0 k1).2.1⟩⟩, h4.1.1.1.1, h4.1.1.1.2⟩
