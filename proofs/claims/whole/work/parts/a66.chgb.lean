/-! what changes, both sides -/
/-- one is recorded on each side, then both are changed -/
theorem REL_ch {σ σ1 σ2 σ3 σ4 : Mem} (h : REL σ) (hR : RecE σ σ1) (hc : ∀ t k j, hrd t k j → ¬ (k = 0 ∧ (t = 5 ∨ (8 ≤ t ∧ t ≤ 14))) → t ≠ 2 → σ2 t k j = σ1 t k j) (hC : RCa σ4) (hK : KEE σ2 σ3) (hd : ∀ t k j, hrd t k j → ¬ (t = 38 ∧ k = 0) → t ≠ 2 → ¬ (t = 7 ∧ j = 6) → σ4 t k j = σ3 t k j) (hS : SIM σ4 0 (σ4 38 0)) (hp : RPd σ4) : REL σ4 := by
  obtain ⟨h1, ⟨⟨n0, n1, m0, m1⟩, h3, h4⟩, h5, -, -⟩ := h
  obtain ⟨σk, ⟨k1, k2, k3, k4⟩, hk⟩ := hK
  have X : ∀ t k j, hrd t k j → ¬ (k = 0 ∧ (t = 5 ∨ (8 ≤ t ∧ t ≤ 14))) → t ≠ 2 → ¬ (t = 38 ∧ k = 0) → ¬ (t = 39 ∧ k = 0) → t ≠ 7 → σ4 t k j = σ1 t k j := fun t k j q1 q2 q3 q4 q5 q6 => by
    rw [hd t k j q1 q4 q3 (by omega), hk, up_ap, if_neg (by omega), k1 t k j (by omega) (by omega), hc t k j q1 q2 q3]
  have r2 : σ2 7 0 2 = σ 7 0 2 := by
    rw [hc 7 0 2 (by unfold hrd; omega) (by omega) (by omega), hR 7 0 2, if_neg (by omega), if_neg (by omega), if_neg (by omega), if_neg (by omega)]
  have e02 : σ4 0 0 2 = (σ 0 0 2 + 1) % 6 := by
    rw [X 0 0 2 (by unfold hrd; omega) (by omega) (by omega) (by omega) (by omega) (by omega), hR 0 0 2, if_pos ⟨rfl, rfl, rfl⟩]
  have e01 : σ4 0 0 1 = if σ 0 0 1 < 6 then σ 0 0 1 + 1 else σ 0 0 1 := by
    rw [X 0 0 1 (by unfold hrd; omega) (by omega) (by omega) (by omega) (by omega) (by omega), hR 0 0 1, if_neg (by omega), if_pos ⟨rfl, rfl, rfl⟩]
  have eB : kB σ2 = if σ 7 0 2 = 6 then 5 else σ 7 0 2 := by
    unfold kB
    rw [r2]
  have e72 : σ4 7 0 2 = kB σ2 + 1 := by
    rw [hd 7 0 2 (by unfold hrd; omega) (by omega) (by omega) (by omega), hk, up_ap, if_pos ⟨rfl, rfl, rfl⟩]
  have e39 : ∀ x, σ4 39 0 x = σk 39 0 x := fun x => by
    rw [hd 39 0 x (by unfold hrd; omega) (by omega) (by omega) (by omega), hk, up_ap, if_neg (by omega)]
  have o39 : ∀ x, σ2 39 0 x = σ 39 0 x := fun x => by
    rw [hc 39 0 x (by unfold hrd; omega) (by omega) (by omega), hR 39 0 x, if_neg (by omega), if_neg (by omega), if_neg (by omega), if_neg (by omega)]
  have o38 : ∀ x, σ2 38 0 x = σ 38 0 x := fun x => by
    rw [hc 38 0 x (by unfold hrd; omega) (by omega) (by omega), hR 38 0 x, if_neg (by omega), if_neg (by omega), if_neg (by omega), if_neg (by omega)]
  refine ⟨hS, ⟨⟨?_, ?_, ?_, ?_⟩, ?_, fun d a b => ?_⟩, fun s a b => ⟨?_, fun q => ?_⟩, hp, hC⟩
  · rw [e02]
    omega
  · rw [e02]
    omega
  · rw [e01]
    split <;> omega
  · rw [e01]
    split <;> omega
  · rw [e01, e72, eB, ← h3]
    split <;> split <;> omega
  · rw [e72] at b ⊢
    rw [e02]
    by_cases z : d = 0
    · subst z
      refine SIM_m h1 (fun t j q => ?_) (fun x x0 x1 => ?_)
      · rw [X t _ j (by unfold hrd; omega) (by omega) (by omega) (by omega) (by omega) (by omega), hR t _ j, if_neg (by omega), if_neg (by omega), if_neg (by omega), if_pos ⟨by omega, q⟩]
      · rw [e39, show 65 * (kB σ2 + 1 - 1 - 0) + x = 65 * kB σ2 + x by omega, k4 x x0 x1, o38]
    · have bd : d - 1 < σ 7 0 2 := by
        split at eB <;> omega
      refine SIM_m (h4 (d - 1) (by omega) bd) (fun t j q => ?_) (fun x x0 x1 => ?_)
      · have ix : 2 + (((σ 0 0 2 + 1) % 6 + 6 - d) % 6).toNat = 2 + ((σ 0 0 2 + 6 - (d - 1)) % 6).toNat := by omega
        rw [ix]
        have ne : 2 + ((σ 0 0 2 + 6 - (d - 1)) % 6).toNat ≠ 2 + ((σ 0 0 2 + 1) % 6).toNat := by
          split at eB <;> omega
        rw [X t _ j (by unfold hrd; omega) (by omega) (by omega) (by omega) (by omega) (by omega), hR t _ j, if_neg (by omega), if_neg (by omega), if_neg (by omega), if_neg (by omega)]
      · rw [e39, k3 _ (by omega) (by omega), r2]
        by_cases y : σ 7 0 2 = 6
        · rw [if_pos y] at eB ⊢
          rw [o39]
          congr 1
          omega
        · rw [if_neg y] at eB ⊢
          rw [o39]
          congr 1
          omega
  · have e35 : σ4 35 0 s = σ 35 0 s := by
      rw [X 35 0 s (by unfold hrd; omega) (by omega) (by omega) (by omega) (by omega) (by omega), hR 35 0 s, if_neg (by omega), if_neg (by omega), if_neg (by omega), if_neg (by omega)]
    have e41 : σ4 41 0 s = σ 41 0 s := by
      rw [X 41 0 s (by unfold hrd; omega) (by omega) (by omega) (by omega) (by omega) (by omega), hR 41 0 s, if_neg (by omega), if_neg (by omega), if_neg (by omega), if_neg (by omega)]
    rw [e35, e41]
    exact (h5 s a b).1
  · have e35 : σ4 35 0 s = σ 35 0 s := by
      rw [X 35 0 s (by unfold hrd; omega) (by omega) (by omega) (by omega) (by omega) (by omega), hR 35 0 s, if_neg (by omega), if_neg (by omega), if_neg (by omega), if_neg (by omega)]
    rw [e35] at q
    refine SIM_m ((h5 s a b).2 q) (fun t j q => ?_) (fun x x0 x1 => ?_)
    · rw [X t _ j (by unfold hrd; omega) (by omega) (by omega) (by omega) (by omega) (by omega), hR t _ j, if_neg (by omega), if_neg (by omega), if_neg (by omega), if_neg (by omega)]
    · rw [X 40 0 _ (by unfold hrd; omega) (by omega) (by omega) (by omega) (by omega) (by omega), hR 40 0 _, if_neg (by omega), if_neg (by omega), if_neg (by omega), if_neg (by omega)]
/-- what was known is forgotten -/
theorem RCa_0 {σ : Mem} (h1 : σ 6 0 8 = 0) (h2 : σ 4 0 1 = 0) (h3 : σ 4 1 1 = 0) : RCa σ := ⟨Or.inl h1, Or.inl h2, Or.inl h3⟩
theorem Rec_0 {σ σ1 : Mem} (h : RecE σ σ1) : σ1 6 0 8 = 0 ∧ σ1 4 0 1 = 0 ∧ σ1 4 1 1 = 0 := by
  refine ⟨?_, ?_, ?_⟩
  · rw [h, if_neg (by omega), if_neg (by omega), if_pos (by omega)]
  · rw [h, if_neg (by omega), if_neg (by omega), if_pos (by omega)]
  · rw [h, if_neg (by omega), if_neg (by omega), if_pos (by omega)]
/-- the state and the row as they were -/
theorem Rec_x {σ σ1 : Mem} (h : RecE σ σ1) (t : Nat) (x : Int) (ht : t ≠ 0 ∧ ¬ (t = 6 ∧ x = 8) ∧ ¬ (t = 4 ∧ x = 1)) : σ1 t 0 x = σ t 0 x := RecE_e h t 0 x (by omega)
theorem RPd_e {σ σ' : Mem} (h : RPd σ) (e : ∀ t x, (t = 2 ∧ x = 1) ∨ (t = 7 ∧ x = 6) ∨ t = 36 ∨ t = 42 → σ' t 0 x = σ t 0 x) : RPd σ' := by
  obtain ⟨a, b, c, d⟩ := h
  have e1 := e 2 1 (by omega)
  have e2 := e 7 6 (by omega)
  exact ⟨by omega, by omega, by omega, fun x q => by rw [e 36 x (by omega), e 42 x (by omega)]; exact d x (by omega)⟩
