/-! the reference reads a text -/
def xT (σ : Mem) : Int → Int := σ 42 0
def xL (σ : Mem) : Int := σ 7 0 6
def pSp (t a : Nat) (x : Int) : Prop := t = 7 ∧ a = 0 ∧ (x = 20 ∨ x = 21)
theorem pSp_c {σ σ' : Mem} (h : FrG pSp σ σ') : xT σ' = xT σ ∧ xL σ' = xL σ := ⟨h.f 42 0 (by rintro x ⟨q, -⟩; omega), h 7 0 6 (by rintro ⟨-, -, q⟩; omega)⟩
/-- takeNumber's loop -/
def NLx (σ σ' : Mem) (hi lo v : Int) : Prop := FrG pSp σ σ' ∧ σ' 7 0 21 = 0 ∧ 0 ≤ v ∧ v ≤ hi ∧ σ 7 0 20 < σ' 7 0 20 ∧ σ' 7 0 20 ≤ xL σ ∧ ∃ f : Nat, 80 - σ' 7 0 20 < f ∧ numS (xT σ) (xL σ) lo hi (σ 7 0 20) = nl (xT σ) (xL σ) hi f v (σ' 7 0 20)
theorem NLx_0 {σ σ' : Mem} {hi lo : Int} (hs : σ' = up σ 7 0 21 0) (ha : σ 7 0 20 ≤ xL σ) (h0 : 0 ≤ σ 7 0 20) (hlo : 0 ≤ lo) (hd : ¬ dg (xT σ) (xL σ) (σ 7 0 20) < lo) (hh : dg (xT σ) (xL σ) (σ 7 0 20) ≤ hi) : NLx σ (up σ' 7 0 20 (σ 7 0 20 + 1)) hi lo (dg (xT σ) (xL σ) (σ 7 0 20)) := by
  subst hs
  have e : (up (up σ 7 0 21 0) 7 0 20 (σ 7 0 20 + 1)) 7 0 20 = σ 7 0 20 + 1 := by rw [up_ap, if_pos ⟨rfl, rfl, rfl⟩]
  have hr := dg_r (xT σ) (xL σ) (σ 7 0 20)
  refine ⟨(FrG.r.u ⟨rfl, rfl, Or.inr rfl⟩).u ⟨rfl, rfl, Or.inl rfl⟩, by simp [up_ap], by omega, hh, by omega, by omega, 90, by omega, ?_⟩
  rw [e]
  unfold numS
  rw [if_neg hd]
theorem NLx_e {σ σ' : Mem} {hi lo v : Int} (h : NLx σ σ' hi lo v) (hl : xL σ ≤ 80) : ((v ≤ 0 ∨ dg (xT σ) (xL σ) (σ' 7 0 20) = -6) → numS (xT σ) (xL σ) lo hi (σ 7 0 20) = (v, σ' 7 0 20, 0)) ∧ (¬ (v ≤ 0 ∨ dg (xT σ) (xL σ) (σ' 7 0 20) = -6) → hi < 10 * v + dg (xT σ) (xL σ) (σ' 7 0 20) → numS (xT σ) (xL σ) lo hi (σ 7 0 20) = (v, σ' 7 0 20, 2)) ∧ (¬ (v ≤ 0 ∨ dg (xT σ) (xL σ) (σ' 7 0 20) = -6) → ¬ hi < 10 * v + dg (xT σ) (xL σ) (σ' 7 0 20) → σ' 7 0 20 < xL σ ∧ NLx σ (up σ' 7 0 20 (σ' 7 0 20 + 1)) hi lo (10 * v + dg (xT σ) (xL σ) (σ' 7 0 20))) := by
  obtain ⟨a1, a0, a2, a3, a4, a5, f, a6, a7⟩ := h
  have e : (up σ' 7 0 20 (σ' 7 0 20 + 1)) 7 0 20 = σ' 7 0 20 + 1 := by rw [up_ap, if_pos ⟨rfl, rfl, rfl⟩]
  obtain ⟨g, rfl⟩ : ∃ g, f = g + 1 := ⟨f - 1, by omega⟩
  refine ⟨fun c => ?_, fun c d => ?_, fun c d => ?_⟩
  · rw [a7]
    unfold nl
    rw [if_pos c]
  · rw [a7]
    unfold nl
    rw [if_neg c, if_pos d]
  · have hr := dg_r (xT σ) (xL σ) (σ' 7 0 20)
    refine ⟨by omega, a1.u ⟨rfl, rfl, Or.inl rfl⟩, by rw [up_ap, if_neg (by rintro ⟨-, -, q⟩; omega)]; exact a0, by omega, by omega, by omega, by omega, g, by omega, ?_⟩
    rw [e, a7]
    show nl (xT σ) (xL σ) hi (g + 1) v (σ' 7 0 20) = _
    rw [nl, if_neg c, if_neg d]
theorem nx_dg {tx : Int → Int} {n a : Int} : (48 ≤ nx tx n a ∧ nx tx n a ≤ 57) ↔ dg tx n a ≠ -6 := by
  constructor
  · intro h e
    exact dg_no e h
  · intro h
    rcases dg_r tx n a with q | q
    · exact absurd q h
    · exact (dg_nx q.1).2
theorem nx_dg2 {tx : Int → Int} {n a : Int} (h : 48 ≤ nx tx n a ∧ nx tx n a ≤ 57) : dg tx n a = nx tx n a - 48 := by
  unfold dg
  rw [if_pos h]
theorem numS_s1 {tx : Int → Int} {n lo hi a : Int} (h9 : 9 ≤ hi) : (numS tx n lo hi a).2.2 = 1 ↔ dg tx n a < lo := by
  have hz : ∀ (f : Nat) (v a : Int), (nl tx n hi f v a).2.2 ≠ 1 := by
    intro f
    induction f with
    | zero => intro v a; show (0 : Int) ≠ 1; omega
    | succ f ih =>
      intro v a
      unfold nl
      split
      · show (0 : Int) ≠ 1; omega
      · split
        · show (2 : Int) ≠ 1; omega
        · exact ih _ _
  unfold numS
  split
  · rename_i c
    exact ⟨fun _ => c, fun _ => rfl⟩
  · rename_i c
    exact ⟨fun z => absurd z (hz _ _ _), fun z => absurd z c⟩
theorem numS_bad {tx : Int → Int} {n lo hi a : Int} (h : dg tx n a < lo) : numS tx n lo hi a = (0, a, 1) := by
  unfold numS
  rw [if_pos h]
/-- where a number was too great a digit stands -/
theorem numS_2 {tx : Int → Int} {n lo hi a : Int} (h : (numS tx n lo hi a).2.2 = 2) : 0 ≤ dg tx n (numS tx n lo hi a).2.1 := by
  have hz : ∀ (f : Nat) (v a : Int), (nl tx n hi f v a).2.2 = 2 → 0 ≤ dg tx n (nl tx n hi f v a).2.1 := by
    intro f
    induction f with
    | zero => intro v a h; exact absurd h (by show ¬ (0 : Int) = 2; omega)
    | succ f ih =>
      intro v a h
      unfold nl at h ⊢
      by_cases c : v ≤ 0 ∨ dg tx n a = -6
      · rw [if_pos c] at h
        exact absurd h (by show ¬ (0 : Int) = 2; omega)
      · rw [if_neg c] at h ⊢
        by_cases d : hi < 10 * v + dg tx n a
        · rw [if_pos d]
          have := dg_r tx n a
          show 0 ≤ dg tx n a
          omega
        · rw [if_neg d] at h ⊢
          exact ih _ _ h
  unfold numS at h ⊢
  by_cases c : dg tx n a < lo
  · rw [if_pos c] at h
    exact absurd h (by show ¬ (1 : Int) = 2; omega)
  · rw [if_neg c] at h ⊢
    exact hz _ _ _ h
theorem isB {s j : Int} (h0 : 0 ≤ s) (h1 : s < 16) (h2 : 0 ≤ j) (h3 : j < 4) : (band (bshr s j) 1 = 1) ↔ hasB s j := by
  obtain ⟨s, rfl⟩ := i16 h0 h1
  obtain ⟨j, rfl⟩ := i4 h2 h3
  revert s j
  unfold hasB
  simp only [band_eq, bshr_eq]
  decide +kernel
theorem xT_up (σ : Mem) (x v : Int) : xT (up σ 7 0 x v) = xT σ := by
  funext y
  unfold xT
  rw [up_ap, if_neg (by rintro ⟨q, -⟩; omega)]
theorem xL_up (σ : Mem) {x : Int} (v : Int) (h : x = 20 ∨ x = 21) : xL (up σ 7 0 x v) = xL σ := by
  unfold xL
  rw [up_ap, if_neg (by rintro ⟨-, -, q⟩; omega)]
theorem xL_20 (σ : Mem) (v : Int) : xL (up σ 7 0 20 v) = xL σ := xL_up σ v (Or.inl rfl)
theorem xL_21 (σ : Mem) (v : Int) : xL (up σ 7 0 21 v) = xL σ := xL_up σ v (Or.inr rfl)
