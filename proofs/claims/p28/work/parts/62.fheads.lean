def p45 (t a : Nat) (_x : Int) : Prop := t = 45 ∧ a = 0
def rOp (σ : Mem) : Int → Prop := vOp (rSt σ)
def rPl (σ : Mem) (o : Int) : Int := plo (rMc σ) (rLn σ) (rQ σ) o
def hBs (σ : Mem) (o : Int) : Int := if σ 44 0 o ≠ 0 then σ 45 0 o else gt2 (rRe σ (o / 4)) (σ 43 0 o)
def hP1 (σ : Mem) (o : Int) : Int := if σ 44 0 o ≠ 0 then -6 else if o % 4 = 0 then -6 else o - 1
def hP2 (σ : Mem) (M o : Int) : Int := if σ 44 0 o ≠ 0 then -6 else if rMc σ o < M then oA σ (rMc σ o) (rPl σ o - 1) else -6
def hF (σ : Mem) (M : Int) : (Int → Int) → Int → Int := F2 (hBs σ) (rDu σ) (hP1 σ) (hP2 σ M)
/-- what findHeads asks -/
def hOK (σ : Mem) : Prop := rWF σ ∧ ∀ o, rOp σ o → 0 ≤ σ 43 0 o ∧ σ 43 0 o ≤ 400 ∧ (σ 44 0 o ≠ 0 → 0 ≤ σ 45 0 o ∧ σ 45 0 o ≤ 1000)
theorem rOp_16 {σ : Mem} : ∀ o, rOp σ o → 0 ≤ o ∧ o < 16 := fun o v => ⟨v.1, v.2.1⟩
theorem hP1_ok (σ : Mem) : okP (rOp σ) (hP1 σ) := by
  intro o v h
  unfold hP1 at h ⊢
  split
  · rename_i c
    rw [if_pos c] at h
    omega
  · rename_i c
    rw [if_neg c] at h
    split
    · rename_i c2
      rw [if_pos c2] at h
      omega
    · have v1 := v.1
      have v2 := v.2.1
      have v3 := v.2.2
      refine ⟨by omega, by omega, ?_⟩
      rw [show (o - 1) / 4 = o / 4 by omega]
      omega
theorem hP2_ok {σ : Mem} (h : rWF σ) (M : Int) : okP (rOp σ) (hP2 σ M) := by
  intro o v hh
  obtain ⟨m0, m1, -⟩ := rWF_op h v
  unfold hP2 at hh ⊢
  split
  · rename_i c
    rw [if_pos c] at hh
    omega
  · rename_i c
    rw [if_neg c] at hh
    split
    · rename_i c2
      rw [if_pos c2] at hh
      have := oA_ge h m0 m1 hh
      exact (oA_v h m0 m1 this.1 this.2).1
    · rename_i c2
      rw [if_neg c2] at hh
      omega
theorem hBs_0 {σ : Mem} (h : hOK σ) : ∀ o, rOp σ o → 0 ≤ hBs σ o ∧ hBs σ o ≤ 1000 := by
  intro o v
  have h1 := h.2 o v
  have h2 := rWF_op h.1 v
  unfold hBs
  split
  · rename_i c
    exact h1.2.2 c
  · have := @gt2_le (rRe σ (o / 4)) (σ 43 0 o)
    omega
theorem hF_m {σ : Mem} (h : rWF σ) (M : Int) : MonoF (rOp σ) (hF σ M) := F2_mono (hP1_ok σ) (hP2_ok h M)
theorem hF_d {σ : Mem} (h : hOK σ) (M : Int) : DepF (rOp σ) (hF σ M) := F2_dep (hP1_ok σ) (hP2_ok h.1 M) (fun o v => (rWF_op h.1 v).2.2.1) (fun o v => (hBs_0 h o v).1)
def FH0 (σ σ' : Mem) (x : Int) : Prop := FrG p45 σ σ' ∧ (∀ y, 0 ≤ y → y < x → σ' 45 0 y = if σ 44 0 y ≠ 0 then σ 45 0 y else 0) ∧ ∀ y, x ≤ y → σ' 45 0 y = σ 45 0 y
theorem FH0_0 {σ : Mem} : FH0 σ σ 0 := ⟨FrG.r, fun y a b => by omega, fun _ _ => rfl⟩
theorem FH0_s {σ σ' : Mem} {x v : Int} (h : FH0 σ σ' x) (hv : v = if σ 44 0 x ≠ 0 then σ 45 0 x else 0) : FH0 σ (up σ' 45 0 x v) (x + 1) := by
  refine ⟨h.1.u ⟨rfl, rfl⟩, fun y a b => ?_, fun y a => ?_⟩
  · by_cases c : y = x
    · subst c
      rw [up_ap, if_pos ⟨rfl, rfl, rfl⟩, hv]
    · rw [up_ap, if_neg (fun q => c q.2.2)]
      exact h.2.1 y a (by omega)
  · rw [up_ap, if_neg (by rintro ⟨-, -, q⟩; omega)]
    exact h.2.2 y (by omega)
/-- between the rounds -/
def FHr (σ σ' : Mem) (M r mo : Int) : Prop := FrG p45 σ σ' ∧ RH (rOp σ) (hF σ M) (σ' 45 0) r mo ∧ (∀ o, rOp σ o → 0 ≤ σ' 45 0 o ∧ σ' 45 0 o ≤ 1000 + 400 * r) ∧ (∀ o, rOp σ o → σ 44 0 o ≠ 0 → σ' 45 0 o = σ 45 0 o) ∧ 0 ≤ r ∧ r ≤ 18
theorem F2_z {bs d p1 p2 h : Int → Int} {o : Int} (h1 : p1 o < 0) (h2 : p2 o < 0) (hb : 0 ≤ bs o) : F2 bs d p1 p2 h o = bs o := by
  unfold F2
  rw [if_pos h1, if_pos h2]
  unfold gt2
  split <;> (try split) <;> omega
theorem hF_st {σ : Mem} {M o : Int} {h : Int → Int} (hk : hOK σ) (v : rOp σ o) (hs : σ 44 0 o ≠ 0) : hF σ M h o = σ 45 0 o := by
  unfold hF
  have e : hBs σ o = σ 45 0 o := by
    unfold hBs
    rw [if_pos hs]
  rw [F2_z (by unfold hP1; rw [if_pos hs]; omega) (by unfold hP2; rw [if_pos hs]; omega) (by rw [e]; exact ((hk.2 o v).2.2 hs).1), e]
theorem FHr_0 {σ σ' : Mem} {M x : Int} (hk : hOK σ) (h : FH0 σ σ' x) (hx : 16 ≤ x) : FHr σ σ' M 0 1 := by
  obtain ⟨a1, a2, a3⟩ := h
  have hv : ∀ o, rOp σ o → σ' 45 0 o = if σ 44 0 o ≠ 0 then σ 45 0 o else 0 := fun o v => a2 o v.1 (by have := v.2.1; omega)
  refine ⟨a1, RH_0 ⟨fun o v => ?_, fun hs s o v => ?_⟩, fun o v => ?_, fun o v q => ?_, by omega, by omega⟩
  · by_cases c : σ 44 0 o ≠ 0
    · rw [hF_st hk v c, hv o v, if_pos c]
      exact Int.le_refl _
    · rw [hv o v, if_neg c]
      unfold hF F2
      exact Int.le_trans (hBs_0 hk o v).1 gt2_le.1
  · by_cases c : σ 44 0 o ≠ 0
    · rw [s o v, hF_st hk v c, hv o v, if_pos c]
      exact Int.le_refl _
    · rw [hv o v, if_neg c]
      exact (hF_d hk M hs s).1 o v
  · rw [hv o v]
    split
    · rename_i c
      have := (hk.2 o v).2.2 c
      omega
    · omega
  · rw [hv o v, if_pos q]
/-- within a round: the operations of the machines below m, and of m the first k, are gone over -/
def hD (σ : Mem) (m k o : Int) : Prop := rMc σ o < m ∨ (rMc σ o = m ∧ rPl σ o < k)
def FHc (σ σ' : Mem) (M r m k mo : Int) : Prop := FrG p45 σ σ' ∧ (∃ h0, RH (rOp σ) (hF σ M) h0 r 1 ∧ CI (rOp σ) (hF σ M) h0 (σ' 45 0) (hD σ m k) mo) ∧ (∀ o, rOp σ o → 0 ≤ σ' 45 0 o ∧ σ' 45 0 o ≤ 1000 + 400 * r + 20 * (4 * m + k)) ∧ (∀ o, rOp σ o → σ 44 0 o ≠ 0 → σ' 45 0 o = σ 45 0 o) ∧ 0 ≤ r ∧ r ≤ 17
theorem rPl_of {σ : Mem} (h : rWF σ) {o : Int} (v : rOp σ o) : 0 ≤ rPl σ o ∧ rPl σ o < rLn σ (rMc σ o) ∧ oA σ (rMc σ o) (rPl σ o) = o := by
  obtain ⟨a, b, c⟩ := plo_of h.1 v
  refine ⟨a, b, ?_⟩
  unfold oA
  rw [if_pos ⟨a, b⟩]
  exact c
theorem FHc_0 {σ σ' : Mem} {M r mo : Int} (hk : hOK σ) (h : FHr σ σ' M r mo) (hm : mo ≠ 0) (hr : r ≤ 17) : FHc σ σ' M r 0 0 0 := by
  obtain ⟨a1, a2, a3, a4, a5, a6⟩ := h
  have e : mo = 1 := a2.2.2.1.resolve_left hm
  subst e
  refine ⟨a1, ⟨_, a2, CI_D (CI_0 a2.1) (fun o v d => ?_)⟩, fun o v => by have := a3 o v; omega, a4, a5, hr⟩
  have h1 := rWF_op hk.1 v
  have h2 := rPl_of hk.1 v
  unfold hD at d
  omega
theorem FHc_row {σ σ' : Mem} {M r m k mo : Int} (hk : hOK σ) (h : FHc σ σ' M r m k mo) (hkl : rLn σ m ≤ k) (hk4 : k ≤ 4) : FHc σ σ' M r (m + 1) 0 mo := by
  obtain ⟨a1, ⟨h0, a2, a3⟩, a4, a5, a6, a7⟩ := h
  refine ⟨a1, ⟨h0, a2, CI_D a3 (fun o v d => ?_)⟩, fun o v => by have := a4 o v; omega, a5, a6, a7⟩
  have h2 := rPl_of hk.1 v
  unfold hD at d ⊢
  rcases (show rMc σ o < m ∨ rMc σ o = m by omega) with c | c
  · exact Or.inl c
  · right
    rw [c] at h2
    exact ⟨c, by omega⟩
theorem FHc_end {σ σ' : Mem} {M r m mo : Int} (hk : hOK σ) (h : FHc σ σ' M r m 0 mo) (hm : m = 4) : FHr σ σ' M (r + 1) mo := by
  subst hm
  obtain ⟨a1, ⟨h0, a2, a3⟩, a4, a5, a6, a7⟩ := h
  refine ⟨a1, RH_s rOp_16 (hF_d hk M) a2 a3 (fun o v => Or.inl (rWF_op hk.1 v).2.1), fun o v => by have := a4 o v; omega, a5, by omega, by omega⟩
/-- the operation that stands before in the order, for the machines below M -/
def oB (σ : Mem) (M m k : Int) : Int := if m < M then oA σ m (k - 1) else -6
theorem hF_eq {σ σ' : Mem} {M m k : Int} (hk : hOK σ) (hF' : FrG p45 σ σ') (m0 : 0 ≤ m) (m1 : m < 4) (k0 : 0 ≤ k) (k1 : k < rLn σ m) (hs : ¬ σ 44 0 (oA σ m k) ≠ 0) : hF σ M (σ' 45 0) (oA σ m k) = rhV σ' (oA σ m k) (oB σ M m k) := by
  obtain ⟨v, e1, e2⟩ := oA_v hk.1 m0 m1 k0 k1
  have e38 : ∀ x, σ' 38 0 x = σ 38 0 x := fun x => hF' 38 0 x (by rintro ⟨q, -⟩; omega)
  have e43 : ∀ x, σ' 43 0 x = σ 43 0 x := fun x => hF' 43 0 x (by rintro ⟨q, -⟩; omega)
  unfold hF F2 rhV
  have p1 : hP1 σ (oA σ m k) = if oA σ m k % 4 = 0 then -6 else oA σ m k - 1 := by
    unfold hP1
    rw [if_neg hs]
  have p2 : hP2 σ M (oA σ m k) = oB σ M m k := by
    unfold hP2 oB rPl
    rw [if_neg hs, e1, e2]
  have pb : hBs σ (oA σ m k) = gt2 (rRe σ (oA σ m k / 4)) (σ 43 0 (oA σ m k)) := by
    unfold hBs
    rw [if_neg hs]
  rw [p1, p2, pb, e38, e43]
  unfold eE rDu rRe
  simp only [e38]
theorem FHc_pre {σ σ' : Mem} {M r m k mo : Int} (hk : hOK σ) (h : FHc σ σ' M r m k mo) (m0 : 0 ≤ m) (m1 : m < 4) (k0 : 0 ≤ k) (k1 : k < rLn σ m) : (0 ≤ oA σ m k ∧ oA σ m k < 16 ∧ oB σ M m k < 16) ∧ (oA σ m k % 4 ≠ 0 → inR (σ' 45 0 (oA σ m k - 1) + σ' 38 0 (14 + 2 * (oA σ m k - 1)))) ∧ (0 ≤ oB σ M m k → inR (σ' 45 0 (oB σ M m k) + σ' 38 0 (14 + 2 * oB σ M m k))) := by
  obtain ⟨v, e1, e2⟩ := oA_v hk.1 m0 m1 k0 k1
  obtain ⟨a1, ⟨h0, a2, a3⟩, a4, a5, a6, a7⟩ := h
  have hl := (hk.1.1.2.2.2.2.1 m m0 m1).2
  have e38 : ∀ x, σ' 38 0 x = σ 38 0 x := fun x => a1 38 0 x (by rintro ⟨q, -⟩; omega)
  simp only [e38]
  have bd : ∀ o, rOp σ o → inR (σ' 45 0 o + σ 38 0 (14 + 2 * o)) := by
    intro o w
    have h1 := a4 o w
    have h2 := rWF_op hk.1 w
    unfold rDu at h2
    exact ⟨by omega, by omega⟩
  refine ⟨⟨v.1, v.2.1, ?_⟩, fun q => bd _ ?_, fun q => bd _ ?_⟩
  · unfold oB
    split
    · exact oA_lt hk.1 m0 m1
    · omega
  · have v1 := v.1
    have v2 := v.2.1
    have v3 := v.2.2
    refine ⟨by omega, by omega, ?_⟩
    rw [show (oA σ m k - 1) / 4 = oA σ m k / 4 by omega]
    omega
  · unfold oB at q ⊢
    split
    · rename_i c
      rw [if_pos c] at q
      have := oA_ge hk.1 m0 m1 q
      exact (oA_v hk.1 m0 m1 this.1 this.2).1
    · rename_i c
      rw [if_neg c] at q
      omega
theorem bor01 {mo : Int} (h : mo = 0 ∨ mo = 1) : bor mo 0 = mo ∧ bor mo 1 = 1 := by
  rcases h with rfl | rfl <;> (rw [bor_eq, bor_eq]; decide)
theorem FHc_s {σ σ' : Mem} {M r m k mo : Int} (hk : hOK σ) (h : FHc σ σ' M r m k mo) (m0 : 0 ≤ m) (m1 : m < 4) (k0 : 0 ≤ k) (k1 : k < rLn σ m) : FHc σ (if σ' 44 0 (oA σ m k) ≠ 0 ∨ rhV σ' (oA σ m k) (oB σ M m k) ≤ σ' 45 0 (oA σ m k) then σ' else up σ' 45 0 (oA σ m k) (rhV σ' (oA σ m k) (oB σ M m k))) M r m (k + 1) (bor mo (if σ' 44 0 (oA σ m k) ≠ 0 ∨ rhV σ' (oA σ m k) (oB σ M m k) ≤ σ' 45 0 (oA σ m k) then 0 else 1)) := by
  have hpre := FHc_pre hk h m0 m1 k0 k1
  obtain ⟨v, e1, e2⟩ := oA_v hk.1 m0 m1 k0 k1
  obtain ⟨a1, ⟨h0, a2, a3⟩, a4, a5, a6, a7⟩ := h
  have hl := (hk.1.1.2.2.2.2.1 m m0 m1).2
  have e44 : ∀ x, σ' 44 0 x = σ 44 0 x := fun x => a1 44 0 x (by rintro ⟨q, -⟩; omega)
  have e38 : ∀ x, σ' 38 0 x = σ 38 0 x := fun x => a1 38 0 x (by rintro ⟨q, -⟩; omega)
  have hmo := a3.2.2.2.1
  have hDm : ∀ o, rOp σ o → hD σ m (k + 1) o → hD σ m k o ∨ o = oA σ m k := by
    intro o w d
    have h2 := rPl_of hk.1 w
    unfold hD at d ⊢
    rcases d with d | ⟨d1, d2⟩
    · exact Or.inl (Or.inl d)
    · rcases (show rPl σ o < k ∨ rPl σ o = k by omega) with c | c
      · exact Or.inl (Or.inr ⟨d1, c⟩)
      · right
        rw [d1, c] at h2
        exact h2.2.2.symm
  -- the operator at this place
  have hcond : (σ' 44 0 (oA σ m k) ≠ 0 ∨ rhV σ' (oA σ m k) (oB σ M m k) ≤ σ' 45 0 (oA σ m k)) ↔ hF σ M (σ' 45 0) (oA σ m k) ≤ σ' 45 0 (oA σ m k) := by
    rw [e44]
    by_cases c : σ 44 0 (oA σ m k) ≠ 0
    · rw [hF_st hk v c, a5 _ v c]
      exact ⟨fun _ => Int.le_refl _, fun _ => Or.inl c⟩
    · rw [hF_eq hk a1 m0 m1 k0 k1 c]
      exact ⟨fun q => q.resolve_left c, Or.inr⟩
  by_cases c : σ' 44 0 (oA σ m k) ≠ 0 ∨ rhV σ' (oA σ m k) (oB σ M m k) ≤ σ' 45 0 (oA σ m k)
  · rw [if_pos c, if_pos c, (bor01 hmo).1]
    have le := hcond.mp c
    refine ⟨a1, ⟨h0, a2, CI_D (CI_up (hF_m hk.1 M) (hF_d hk M) a3 v (fun x vx => ?_) (by rw [if_pos le])) (fun o w d => hDm o w d)⟩, fun o w => by have := a4 o w; omega, a5, a6, a7⟩
    split
    · rename_i e
      subst e
      exact Int.le_antisymm (a3.1.1 _ v) le
    · rfl
  · rw [if_neg c, if_neg c, (bor01 hmo).2]
    have nle : ¬ hF σ M (σ' 45 0) (oA σ m k) ≤ σ' 45 0 (oA σ m k) := fun q => c (hcond.mpr q)
    have cs : ¬ σ 44 0 (oA σ m k) ≠ 0 := fun q => c (Or.inl (by rw [e44]; exact q))
    have eF := hF_eq (M := M) hk a1 m0 m1 k0 k1 cs
    refine ⟨a1.u ⟨rfl, rfl⟩, ⟨h0, a2, CI_D (CI_up (hF_m hk.1 M) (hF_d hk M) a3 v (fun x vx => ?_) (by rw [if_neg nle])) (fun o w d => hDm o w d)⟩, fun o w => ?_, fun o w q => ?_, a6, a7⟩
    · rw [up_ap, eF]
      simp
    · have hb := a4 o w
      rw [up_ap]
      split
      · have hle : ∀ x, rOp σ x → σ' 45 0 x ≤ 1000 + 400 * r + 20 * (4 * m + k) := fun x y => (a4 x y).2
        rw [← eF]
        unfold hF F2
        have b0 := hBs_0 hk _ v
        have g1 := @gt2_le (hBs σ (oA σ m k)) (gt2 (if hP1 σ (oA σ m k) < 0 then 0 else σ' 45 0 (hP1 σ (oA σ m k)) + rDu σ (hP1 σ (oA σ m k))) (if hP2 σ M (oA σ m k) < 0 then 0 else σ' 45 0 (hP2 σ M (oA σ m k)) + rDu σ (hP2 σ M (oA σ m k))))
        have g2 := @gt2_le (if hP1 σ (oA σ m k) < 0 then 0 else σ' 45 0 (hP1 σ (oA σ m k)) + rDu σ (hP1 σ (oA σ m k))) (if hP2 σ M (oA σ m k) < 0 then 0 else σ' 45 0 (hP2 σ M (oA σ m k)) + rDu σ (hP2 σ M (oA σ m k)))
        have u1 : (if hP1 σ (oA σ m k) < 0 then 0 else σ' 45 0 (hP1 σ (oA σ m k)) + rDu σ (hP1 σ (oA σ m k))) ≤ 1000 + 400 * r + 20 * (4 * m + (k + 1)) := by
          split
          · omega
          · have w1 := hP1_ok σ _ v (by omega)
            have := hle _ w1
            have := (rWF_op hk.1 w1).2.2.2.1
            omega
        have u2 : (if hP2 σ M (oA σ m k) < 0 then 0 else σ' 45 0 (hP2 σ M (oA σ m k)) + rDu σ (hP2 σ M (oA σ m k))) ≤ 1000 + 400 * r + 20 * (4 * m + (k + 1)) := by
          split
          · omega
          · have w1 := hP2_ok hk.1 M _ v (by omega)
            have := hle _ w1
            have := (rWF_op hk.1 w1).2.2.2.1
            omega
        omega
      · omega
    · rw [up_ap, if_neg]
      · exact a5 o w q
      · rintro ⟨-, -, z⟩
        subst z
        exact cs q
theorem FHr_t {σ σ' : Mem} {M r : Int} (h : FHr σ σ' M r 0) : SolF (rOp σ) (hF σ M) (σ' 45 0) ∧ ∀ o, rOp σ o → 0 ≤ σ' 45 0 o ∧ σ' 45 0 o ≤ 10000 := ⟨h.2.1.2.2.2.1 rfl, fun o v => by
  have := h.2.2.1 o v
  have := h.2.2.2.2
  omega⟩
theorem FHr_f {σ σ' : Mem} {M r mo : Int} (h : FHr σ σ' M r mo) (hm : mo ≠ 0) (hr : 17 < r) : ∀ hs, ¬ SolF (rOp σ) (hF σ M) hs := h.2.1.2.2.2.2 (h.2.1.2.2.1.resolve_left hm) (by omega)
theorem FHr_mo {σ σ' : Mem} {M r mo : Int} (h : FHr σ σ' M r mo) : mo = 0 ∨ mo = 1 := h.2.1.2.2.1
