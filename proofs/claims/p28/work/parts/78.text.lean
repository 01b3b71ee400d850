/-! reading texts: the character at a place, digits, numbers -/
def nx (tx : Int → Int) (n a : Int) : Int := if a < n then tx a else 0
def dg (tx : Int → Int) (n a : Int) : Int := if 48 ≤ nx tx n a ∧ nx tx n a ≤ 57 then nx tx n a - 48 else -6
/-- the further digits of a number: what it is, where it ends, 2 where it would be too great -/
def nl (tx : Int → Int) (n hi : Int) : Nat → Int → Int → Int × Int × Int
  | 0, v, a => (v, a, 0)
  | f + 1, v, a => if v ≤ 0 ∨ dg tx n a = -6 then (v, a, 0) else if hi < 10 * v + dg tx n a then (v, a, 2) else nl tx n hi f (10 * v + dg tx n a) (a + 1)
/-- a number from a on: 1 where none begins -/
def numS (tx : Int → Int) (n lo hi a : Int) : Int × Int × Int := if dg tx n a < lo then (0, a, 1) else nl tx n hi 90 (dg tx n a) (a + 1)
theorem dg_r (tx : Int → Int) (n a : Int) : dg tx n a = -6 ∨ (0 ≤ dg tx n a ∧ dg tx n a ≤ 9 ∧ a < n) := by
  unfold dg
  split
  · right
    rename_i c
    unfold nx at c ⊢
    split
    · rename_i d
      rw [if_pos d] at c
      exact ⟨by omega, by omega, d⟩
    · rename_i d
      rw [if_neg d] at c
      omega
  · exact Or.inl rfl
theorem dg_nx {tx : Int → Int} {n a : Int} (h : 0 ≤ dg tx n a) : nx tx n a = dg tx n a + 48 ∧ 48 ≤ nx tx n a ∧ nx tx n a ≤ 57 := by
  unfold dg at h ⊢
  split
  · rename_i c
    exact ⟨by omega, c.1, c.2⟩
  · rename_i c
    rw [if_neg c] at h
    omega
theorem dg_no {tx : Int → Int} {n a : Int} (h : dg tx n a = -6) : ¬ (48 ≤ nx tx n a ∧ nx tx n a ≤ 57) := by
  intro c
  unfold dg at h
  rw [if_pos c] at h
  omega
theorem nl_r (tx : Int → Int) {n hi : Int} : ∀ (f : Nat) (v a : Int), 0 ≤ v → v ≤ hi → a ≤ n → 0 ≤ (nl tx n hi f v a).1 ∧ (nl tx n hi f v a).1 ≤ hi ∧ a ≤ (nl tx n hi f v a).2.1 ∧ (nl tx n hi f v a).2.1 ≤ n ∧ ((nl tx n hi f v a).2.2 = 0 ∨ (nl tx n hi f v a).2.2 = 2) ∧ v ≤ (nl tx n hi f v a).1 := by
  intro f
  induction f with
  | zero =>
    intro v a h0 h1 h2
    unfold nl
    exact ⟨h0, h1, Int.le_refl _, h2, Or.inl rfl, Int.le_refl _⟩
  | succ f ih =>
    intro v a h0 h1 h2
    unfold nl
    split
    · exact ⟨h0, h1, Int.le_refl _, h2, Or.inl rfl, Int.le_refl _⟩
    · split
      · exact ⟨h0, h1, Int.le_refl _, h2, Or.inr rfl, Int.le_refl _⟩
      · rename_i c d
        have hd := dg_r tx n a
        have := ih (10 * v + dg tx n a) (a + 1) (by omega) (by omega) (by omega)
        omega
theorem numS_r (tx : Int → Int) {n lo hi a : Int} (h0 : 0 ≤ lo) (h9 : 9 ≤ hi) (ha : a ≤ n) : a ≤ (numS tx n lo hi a).2.1 ∧ (numS tx n lo hi a).2.1 ≤ n ∧ ((numS tx n lo hi a).2.2 = 0 ∨ (numS tx n lo hi a).2.2 = 1 ∨ (numS tx n lo hi a).2.2 = 2) ∧ 0 ≤ (numS tx n lo hi a).1 ∧ (numS tx n lo hi a).1 ≤ hi ∧ ((numS tx n lo hi a).2.2 ≠ 1 → lo ≤ (numS tx n lo hi a).1) := by
  unfold numS
  have hd := dg_r tx n a
  split
  · exact ⟨Int.le_refl _, ha, Or.inr (Or.inl rfl), Int.le_refl _, by omega, fun q => absurd rfl q⟩
  · rename_i c
    have := nl_r tx (hi := hi) 90 (dg tx n a) (a + 1) (by omega) (by omega) (show a + 1 ≤ n by omega)
    omega
/-! the class's pad -/
def cT (σ : Mem) : Int → Int := σ 36 0
def cL (σ : Mem) : Int := σ 2 0 1
def pPd (t a : Nat) (x : Int) : Prop := t = 2 ∧ a = 0 ∧ x = 2
/-- the class's digit and take in these words -/
theorem digit_eq {σ : Mem} (hl : σ 2 0 1 ≤ 80) : (if σ 2 0 2 < σ 2 0 1 ∧ σ 2 0 2 < 80 ∧ 48 ≤ σ 36 0 (σ 2 0 2) ∧ σ 36 0 (σ 2 0 2) ≤ 57 then σ 36 0 (σ 2 0 2) - 48 else -6) = dg (cT σ) (cL σ) (σ 2 0 2) := by
  unfold dg nx cT cL
  by_cases c : σ 2 0 2 < σ 2 0 1
  · rw [if_pos c]
    by_cases d : 48 ≤ σ 36 0 (σ 2 0 2) ∧ σ 36 0 (σ 2 0 2) ≤ 57
    · rw [if_pos ⟨c, by omega, d⟩, if_pos d]
    · rw [if_neg (fun q => d q.2.2), if_neg d]
  · rw [if_neg (fun q => c q.1), if_neg c, if_neg (by omega)]
theorem take_eq {σ : Mem} (hl : σ 2 0 1 ≤ 80) {c : Int} (hc : c ≠ 0) : (σ 2 0 2 < σ 2 0 1 ∧ σ 2 0 2 < 80 ∧ σ 36 0 (σ 2 0 2) = c) ↔ nx (cT σ) (cL σ) (σ 2 0 2) = c := by
  unfold nx cT cL
  by_cases d : σ 2 0 2 < σ 2 0 1
  · rw [if_pos d]
    exact ⟨fun q => q.2.2, fun q => ⟨d, by omega, q⟩⟩
  · rw [if_neg d]
    exact ⟨fun q => absurd q.1 d, fun q => absurd q.symm hc⟩
theorem pPd_c {σ σ' : Mem} (h : FrG pPd σ σ') : cT σ' = cT σ ∧ cL σ' = cL σ := ⟨h.f 36 0 (by rintro x ⟨q, -⟩; omega), h 2 0 1 (by rintro ⟨-, -, q⟩; omega)⟩
/-- number, in its loop: what comes out is what will come out -/
def NLi (σ σ' : Mem) (hi lo v : Int) : Prop := FrG pPd σ σ' ∧ 0 ≤ v ∧ v ≤ hi ∧ σ 2 0 2 < σ' 2 0 2 ∧ σ' 2 0 2 ≤ cL σ ∧ ∃ f : Nat, 80 - σ' 2 0 2 < f ∧ numS (cT σ) (cL σ) lo hi (σ 2 0 2) = nl (cT σ) (cL σ) hi f v (σ' 2 0 2)
theorem NLi_0 {σ : Mem} {hi lo : Int} (ha : σ 2 0 2 ≤ cL σ) (h0 : 0 ≤ σ 2 0 2) (hlo : 0 ≤ lo) (hd : ¬ dg (cT σ) (cL σ) (σ 2 0 2) < lo) (hh : dg (cT σ) (cL σ) (σ 2 0 2) ≤ hi) : NLi σ (up σ 2 0 2 (σ 2 0 2 + 1)) hi lo (dg (cT σ) (cL σ) (σ 2 0 2)) := by
  have e : (up σ 2 0 2 (σ 2 0 2 + 1)) 2 0 2 = σ 2 0 2 + 1 := by rw [up_ap, if_pos ⟨rfl, rfl, rfl⟩]
  have hr := dg_r (cT σ) (cL σ) (σ 2 0 2)
  refine ⟨FrG.r.u ⟨rfl, rfl, rfl⟩, by omega, hh, by omega, by omega, 90, by omega, ?_⟩
  rw [e]
  unfold numS
  rw [if_neg hd]
theorem NLi_e {σ σ' : Mem} {hi lo v : Int} (h : NLi σ σ' hi lo v) (hl : cL σ ≤ 80) : ((v ≤ 0 ∨ dg (cT σ) (cL σ) (σ' 2 0 2) = -6) → numS (cT σ) (cL σ) lo hi (σ 2 0 2) = (v, σ' 2 0 2, 0)) ∧ (¬ (v ≤ 0 ∨ dg (cT σ) (cL σ) (σ' 2 0 2) = -6) → hi < 10 * v + dg (cT σ) (cL σ) (σ' 2 0 2) → numS (cT σ) (cL σ) lo hi (σ 2 0 2) = (v, σ' 2 0 2, 2)) ∧ (¬ (v ≤ 0 ∨ dg (cT σ) (cL σ) (σ' 2 0 2) = -6) → ¬ hi < 10 * v + dg (cT σ) (cL σ) (σ' 2 0 2) → NLi σ (up σ' 2 0 2 (σ' 2 0 2 + 1)) hi lo (10 * v + dg (cT σ) (cL σ) (σ' 2 0 2))) := by
  obtain ⟨a1, a2, a3, a4, a5, f, a6, a7⟩ := h
  have e : (up σ' 2 0 2 (σ' 2 0 2 + 1)) 2 0 2 = σ' 2 0 2 + 1 := by rw [up_ap, if_pos ⟨rfl, rfl, rfl⟩]
  obtain ⟨g, rfl⟩ : ∃ g, f = g + 1 := ⟨f - 1, by omega⟩
  refine ⟨fun c => ?_, fun c d => ?_, fun c d => ?_⟩
  · rw [a7]
    unfold nl
    rw [if_pos c]
  · rw [a7]
    unfold nl
    rw [if_neg c, if_pos d]
  · have hr := dg_r (cT σ) (cL σ) (σ' 2 0 2)
    refine ⟨a1.u ⟨rfl, rfl, rfl⟩, by omega, by omega, by omega, by omega, g, by omega, ?_⟩
    rw [e, a7]
    show nl (cT σ) (cL σ) hi (g + 1) v (σ' 2 0 2) = _
    rw [nl, if_neg c, if_neg d]
theorem dg_end {tx : Int → Int} {n a : Int} (h : n ≤ a) : dg tx n a = -6 := by
  have := dg_r tx n a
  omega
