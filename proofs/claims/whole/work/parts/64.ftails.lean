def p46 (t a : Nat) (_x : Int) : Prop := t = 46 ∧ a = 0
def tP1 (σ : Mem) (o : Int) : Int := if o % 4 + 1 < rSt σ (o / 4) then o + 1 else -6
def tP2 (σ : Mem) (o : Int) : Int := oA σ (rMc σ o) (rPl σ o + 1)
def tF (σ : Mem) : (Int → Int) → Int → Int := F2 (fun _ => 0) (rDu σ) (tP1 σ) (tP2 σ)
theorem tP1_ok {σ : Mem} (h : rWF σ) : okP (rOp σ) (tP1 σ) := by
  intro o v hh
  unfold tP1 at hh ⊢
  split
  · rename_i c
    have v1 := v.1
    have v2 := v.2.1
    have hj := vOp_j v
    have := h.1.2.1 (o / 4) hj.1 hj.2.1
    refine ⟨by omega, by omega, ?_⟩
    rw [show (o + 1) / 4 = o / 4 by omega]
    omega
  · rename_i c
    rw [if_neg c] at hh
    omega
theorem tP2_ok {σ : Mem} (h : rWF σ) : okP (rOp σ) (tP2 σ) := by
  intro o v hh
  obtain ⟨m0, m1, -⟩ := rWF_op h v
  unfold tP2 at hh ⊢
  have := oA_ge h m0 m1 hh
  exact (oA_v h m0 m1 this.1 this.2).1
/-- what findTails asks: heads -/
def tOK (σ : Mem) : Prop := rWF σ ∧ ∀ o, rOp σ o → 0 ≤ σ 45 0 o ∧ σ 45 0 o ≤ 10000 ∧ (0 ≤ tP1 σ o → σ 45 0 o + rDu σ o ≤ σ 45 0 (tP1 σ o)) ∧ (0 ≤ tP2 σ o → σ 45 0 o + rDu σ o ≤ σ 45 0 (tP2 σ o))
theorem tF_m {σ : Mem} (h : rWF σ) : MonoF (rOp σ) (tF σ) := F2_mono (tP1_ok h) (tP2_ok h)
theorem tF_d {σ : Mem} (h : rWF σ) : DepF (rOp σ) (tF σ) := F2_dep (tP1_ok h) (tP2_ok h) (fun o v => (rWF_op h v).2.2.1) (fun o v => Int.le_refl _)
theorem tF_ex {σ : Mem} (h : tOK σ) : ∃ ts, SolF (rOp σ) (tF σ) ts ∧ ∀ o, rOp σ o → ts o ≤ 12000 := by
  obtain ⟨ts, a, b⟩ := sol_ex (V := rOp σ) (F := tF σ) (B := fun o => 11000 - σ 45 0 o - rDu σ o) (h := fun _ => 0) rOp_16 (tF_m h.1) (fun t ht o v => by
    have h1 := h.2 o v
    have h2 := rWF_op h.1 v
    have g1 := @gt2_le 0 (gt2 (if tP1 σ o < 0 then 0 else t (tP1 σ o) + rDu σ (tP1 σ o)) (if tP2 σ o < 0 then 0 else t (tP2 σ o) + rDu σ (tP2 σ o)))
    have g2 := @gt2_le (if tP1 σ o < 0 then 0 else t (tP1 σ o) + rDu σ (tP1 σ o)) (if tP2 σ o < 0 then 0 else t (tP2 σ o) + rDu σ (tP2 σ o))
    have u1 : (if tP1 σ o < 0 then 0 else t (tP1 σ o) + rDu σ (tP1 σ o)) ≤ 11000 - σ 45 0 o - rDu σ o := by
      split
      · omega
      · have w := tP1_ok h.1 o v (by omega)
        have := ht _ w
        have := h1.2.2.1 (by omega)
        omega
    have u2 : (if tP2 σ o < 0 then 0 else t (tP2 σ o) + rDu σ (tP2 σ o)) ≤ 11000 - σ 45 0 o - rDu σ o := by
      split
      · omega
      · have w := tP2_ok h.1 o v (by omega)
        have := ht _ w
        have := h1.2.2.2 (by omega)
        omega
    show F2 _ _ _ _ t o ≤ _
    unfold F2
    dsimp only
    omega) (fun o v => by
    show 0 ≤ F2 _ _ _ _ _ o
    unfold F2
    exact gt2_le.1) (fun o v => by
    have h1 := h.2 o v
    have h2 := rWF_op h.1 v
    omega)
  exact ⟨ts, a, fun o v => by have := b o v; have := h.2 o v; have := rWF_op h.1 v; omega⟩
def FT0 (σ σ' : Mem) (x : Int) : Prop := FrG p46 σ σ' ∧ ∀ y, 0 ≤ y → y < x → σ' 46 0 y = 0
theorem FT0_0 {σ : Mem} : FT0 σ σ 0 := ⟨FrG.r, fun y a b => by omega⟩
theorem FT0_s {σ σ' : Mem} {x : Int} (h : FT0 σ σ' x) : FT0 σ (up σ' 46 0 x 0) (x + 1) := by
  refine ⟨h.1.u ⟨rfl, rfl⟩, fun y a b => ?_⟩
  by_cases c : y = x
  · subst c
    rw [up_ap, if_pos ⟨rfl, rfl, rfl⟩]
  · rw [up_ap, if_neg (fun q => c q.2.2)]
    exact h.2 y a (by omega)
def FTr (σ σ' : Mem) (r mo : Int) : Prop := FrG p46 σ σ' ∧ RH (rOp σ) (tF σ) (σ' 46 0) r mo ∧ (∀ o, rOp σ o → 0 ≤ σ' 46 0 o ∧ σ' 46 0 o ≤ 12000) ∧ 0 ≤ r
theorem FTr_0 {σ σ' : Mem} {x : Int} (hk : tOK σ) (h : FT0 σ σ' x) (hx : 16 ≤ x) : FTr σ σ' 0 1 := by
  have hv : ∀ o, rOp σ o → σ' 46 0 o = 0 := fun o v => h.2 o v.1 (by have := v.2.1; omega)
  refine ⟨h.1, RH_0 ⟨fun o v => ?_, fun hs s o v => ?_⟩, fun o v => by rw [hv o v]; omega, by omega⟩
  · rw [hv o v]
    show 0 ≤ F2 _ _ _ _ _ o
    unfold F2
    exact gt2_le.1
  · rw [hv o v]
    exact (tF_d hk.1 hs s).1 o v
theorem FTr_r {σ σ' : Mem} {r mo : Int} (hk : tOK σ) (h : FTr σ σ' r mo) (hm : mo ≠ 0) : r ≤ 16 := by
  obtain ⟨ts, a, -⟩ := tF_ex hk
  rcases Int.lt_or_le 16 r with q | q
  · exact absurd a (h.2.1.2.2.2.2 (h.2.1.2.2.1.resolve_left hm) (by omega) ts)
  · exact q
def FTc (σ σ' : Mem) (r m k mo : Int) : Prop := FrG p46 σ σ' ∧ (∃ h0, RH (rOp σ) (tF σ) h0 r 1 ∧ CI (rOp σ) (tF σ) h0 (σ' 46 0) (hD σ m k) mo) ∧ (∀ o, rOp σ o → 0 ≤ σ' 46 0 o ∧ σ' 46 0 o ≤ 12000) ∧ 0 ≤ r
theorem FTc_0 {σ σ' : Mem} {r mo : Int} (hk : tOK σ) (h : FTr σ σ' r mo) (hm : mo ≠ 0) : FTc σ σ' r 0 0 0 := by
  obtain ⟨a1, a2, a3, a4⟩ := h
  have e : mo = 1 := a2.2.2.1.resolve_left hm
  subst e
  refine ⟨a1, ⟨_, a2, CI_D (CI_0 a2.1) (fun o v d => ?_)⟩, a3, a4⟩
  have h1 := rWF_op hk.1 v
  have h2 := rPl_of hk.1 v
  unfold hD at d
  omega
theorem FTc_row {σ σ' : Mem} {r m k mo : Int} (hk : tOK σ) (h : FTc σ σ' r m k mo) (hkl : rLn σ m ≤ k) : FTc σ σ' r (m + 1) 0 mo := by
  obtain ⟨a1, ⟨h0, a2, a3⟩, a4, a5⟩ := h
  refine ⟨a1, ⟨h0, a2, CI_D a3 (fun o v d => ?_)⟩, a4, a5⟩
  have h2 := rPl_of hk.1 v
  unfold hD at d ⊢
  rcases (show rMc σ o < m ∨ rMc σ o = m by omega) with c | c
  · exact Or.inl c
  · right
    rw [c] at h2
    exact ⟨c, by omega⟩
theorem FTc_end {σ σ' : Mem} {r m mo : Int} (hk : tOK σ) (h : FTc σ σ' r m 0 mo) (hm : m = 4) : FTr σ σ' (r + 1) mo := by
  subst hm
  obtain ⟨a1, ⟨h0, a2, a3⟩, a4, a5⟩ := h
  exact ⟨a1, RH_s rOp_16 (tF_d hk.1) a2 a3 (fun o v => Or.inl (rWF_op hk.1 v).2.1), a4, by omega⟩
/-- the tail by what is behind, as the code has it -/
def wT (σ : Mem) (x : Int) : Int := if x < 0 then 0 else σ 38 0 (14 + 2 * x) + σ 46 0 x
theorem tP1_f (σ : Mem) (x : Int) : (if x % 4 + 1 < σ 38 0 (1 + 3 * (x / 4) + 2) then x + 1 else -6) = tP1 σ x := rfl
theorem wT_f (σ : Mem) (x : Int) : (if x < 0 then 0 else σ 38 0 (14 + 2 * x) + σ 46 0 x) = wT σ x := rfl
theorem gt2_f (x y : Int) : (if y < x then x else y) = gt2 x y := rfl
theorem tP1_cg {σ σ' : Mem} (h : σ' 38 0 = σ 38 0) : tP1 σ' = tP1 σ := by
  funext x
  unfold tP1
  rw [(r38 h).1]
theorem tF_eq {σ σ' : Mem} {m k : Int} (hk : tOK σ) (hF' : FrG p46 σ σ') (m0 : 0 ≤ m) (m1 : m < 4) (k0 : 0 ≤ k) (k1 : k < rLn σ m) (hb : ∀ o, rOp σ o → 0 ≤ σ' 46 0 o) : tF σ (σ' 46 0) (oA σ m k) = gt2 (wT σ' (tP1 σ (oA σ m k))) (wT σ' (oA σ m (k + 1))) := by
  obtain ⟨v, e1, e2⟩ := oA_v hk.1 m0 m1 k0 k1
  have e38 : ∀ x, σ' 38 0 x = σ 38 0 x := fun x => hF' 38 0 x (by rintro ⟨q, -⟩; omega)
  have p2 : tP2 σ (oA σ m k) = oA σ m (k + 1) := by
    unfold tP2
    rw [e1]
    have : rPl σ (oA σ m k) = k := e2
    rw [this]
  unfold tF F2
  rw [← p2]
  have q1 : (if tP1 σ (oA σ m k) < 0 then 0 else σ' 46 0 (tP1 σ (oA σ m k)) + rDu σ (tP1 σ (oA σ m k))) = wT σ' (tP1 σ (oA σ m k)) := by
    unfold wT rDu
    rw [e38]
    split
    · rfl
    · omega
  have q2 : (if tP2 σ (oA σ m k) < 0 then 0 else σ' 46 0 (tP2 σ (oA σ m k)) + rDu σ (tP2 σ (oA σ m k))) = wT σ' (tP2 σ (oA σ m k)) := by
    unfold wT rDu
    rw [e38]
    split
    · rfl
    · omega
  rw [q1, q2]
  have n1 : 0 ≤ wT σ' (tP1 σ (oA σ m k)) := by
    rw [← q1]
    split
    · omega
    · have w := tP1_ok hk.1 _ v (by omega)
      have := hb _ w
      have := (rWF_op hk.1 w).2.2.1
      omega
  have := @gt2_le 0 (gt2 (wT σ' (tP1 σ (oA σ m k))) (wT σ' (tP2 σ (oA σ m k))))
  have := @gt2_le (wT σ' (tP1 σ (oA σ m k))) (wT σ' (tP2 σ (oA σ m k)))
  dsimp only
  omega
theorem FTc_pre {σ σ' : Mem} {r m k mo : Int} (hk : tOK σ) (h : FTc σ σ' r m k mo) (m0 : 0 ≤ m) (m1 : m < 4) (k0 : 0 ≤ k) (k1 : k < rLn σ m) : 0 ≤ oA σ m k ∧ oA σ m k < 16 ∧ (tP1 σ (oA σ m k)) < 16 ∧ oA σ m (k + 1) < 16 ∧ (0 ≤ (tP1 σ (oA σ m k)) → inR (σ 38 0 (14 + 2 * (tP1 σ (oA σ m k))) + σ' 46 0 (tP1 σ (oA σ m k)))) ∧ (0 ≤ oA σ m (k + 1) → inR (σ 38 0 (14 + 2 * oA σ m (k + 1)) + σ' 46 0 (oA σ m (k + 1)))) := by
  obtain ⟨v, e1, e2⟩ := oA_v hk.1 m0 m1 k0 k1
  obtain ⟨a1, ⟨h0, a2, a3⟩, a4, a5⟩ := h
  have bd : ∀ o, rOp σ o → inR (σ 38 0 (14 + 2 * o) + σ' 46 0 o) := by
    intro o w
    have h1 := a4 o w
    have h2 := rWF_op hk.1 w
    unfold rDu at h2
    exact ⟨by omega, by omega⟩
  refine ⟨v.1, v.2.1, ?_, oA_lt hk.1 m0 m1, fun q => bd _ (tP1_ok hk.1 _ v q), fun q => ?_⟩
  · rcases Int.lt_or_le (tP1 σ (oA σ m k)) 0 with q | q
    · omega
    · exact (tP1_ok hk.1 _ v q).2.1
  · have := oA_ge hk.1 m0 m1 q
    exact bd _ (oA_v hk.1 m0 m1 this.1 this.2).1
theorem FTc_s {σ σ' : Mem} {r m k mo w : Int} (hk : tOK σ) (h : FTc σ σ' r m k mo) (m0 : 0 ≤ m) (m1 : m < 4) (k0 : 0 ≤ k) (k1 : k < rLn σ m) (hw : w = tF σ (σ' 46 0) (oA σ m k)) : (w ≤ σ' 46 0 (oA σ m k) → FTc σ (up σ' 46 0 (oA σ m k) w) r m (k + 1) (bor mo 0)) ∧ (¬ w ≤ σ' 46 0 (oA σ m k) → FTc σ (up σ' 46 0 (oA σ m k) w) r m (k + 1) (bor mo 1)) ∧ 0 ≤ w ∧ w ≤ 12000 := by
  obtain ⟨v, e1, e2⟩ := oA_v hk.1 m0 m1 k0 k1
  obtain ⟨a1, ⟨h0, a2, a3⟩, a4, a5⟩ := h
  have hmo := a3.2.2.2.1
  have hDm : ∀ o, rOp σ o → hD σ m (k + 1) o → hD σ m k o ∨ o = oA σ m k := by
    intro o w d
    have h2 := rPl_of hk.1 w
    unfold hD at d ⊢
    rcases d with d | ⟨d1, d2⟩
    · exact Or.inl (Or.inl d)
    · rcases (show rPl σ o < k ∨ rPl σ o = k by omega) with c | c
      · exact Or.inl (Or.inr ⟨d1, c⟩)
      · right
        rw [d1, c] at h2
        exact h2.2.2.symm
  have hrow : ∀ x, rOp σ x → (up σ' 46 0 (oA σ m k) w) 46 0 x = if x = oA σ m k then tF σ (σ' 46 0) (oA σ m k) else σ' 46 0 x := fun x _ => by
    rw [up_ap, hw]
    simp
  have w0 : 0 ≤ w := by
    have := a4 _ v
    have := a3.1.1 _ v
    omega
  have wle : w ≤ 12000 := by
    obtain ⟨ts, s, sb⟩ := tF_ex hk
    have h1 := tF_m hk.1 (σ' 46 0) ts (a3.1.2 ts s) _ v
    rw [← s _ v, ← hw] at h1
    have := sb _ v
    omega
  have hb : ∀ o, rOp σ o → 0 ≤ (up σ' 46 0 (oA σ m k) w) 46 0 o ∧ (up σ' 46 0 (oA σ m k) w) 46 0 o ≤ 12000 := by
    intro o vo
    rw [up_ap]
    split
    · exact ⟨w0, wle⟩
    · exact a4 o vo
  refine ⟨fun le => ⟨a1.u ⟨rfl, rfl⟩, ⟨h0, a2, CI_D (CI_up (tF_m hk.1) (tF_d hk.1) a3 v hrow (by rw [← hw, if_pos le, (bor01 hmo).1])) (fun o w d => hDm o w d)⟩, hb, a5⟩, fun le => ⟨a1.u ⟨rfl, rfl⟩, ⟨h0, a2, CI_D (CI_up (tF_m hk.1) (tF_d hk.1) a3 v hrow (by rw [← hw, if_neg le, (bor01 hmo).2])) (fun o w d => hDm o w d)⟩, hb, a5⟩, w0, wle⟩
