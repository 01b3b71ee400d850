/-! a breakdown: what stays, from when on -/
/-- the operation x stays: b the machine that breaks down, t when -/
def sty (σ : Mem) (b t x : Int) : Prop := (σ 11 0 x = b ∧ σ 21 0 x + σ 12 0 x ≤ t) ∨ (σ 11 0 x ≠ b ∧ σ 21 0 x < t)
def blim (b t u m : Int) : Int := if m = b then u else t
/-- from when on an operation may begin -/
noncomputable def brd (σ : Mem) (b t u o : Int) : Int := cif (sty σ b t o) (σ 8 0 (o / 4)) (if σ 8 0 (o / 4) < blim b t u (σ 11 0 o) then blim b t u (σ 11 0 o) else σ 8 0 (o / 4))
/-- how many stay, of the first n places of m -/
noncomputable def bct (σ : Mem) (b t m n : Int) : Int := sm (fun k => b2i (sty σ b t (oq (σ 10 0) (σ 11 0) (σ 14 0) m k))) n.toNat
def pBD (t a : Nat) (x : Int) : Prop := pNt 3 t a x ∨ (t = 6 ∧ a = 0 ∧ (x = 13 ∨ x = 14 ∨ x = 15)) ∨ (t = 4 ∧ a = 1 ∧ x = 1)
theorem pBD_x {σ σ' : Mem} (h : FrG pBD σ σ') (t a : Nat) (ht : (t < 15 ∧ t ≠ 1 ∧ t ≠ 4 ∧ t ≠ 6) ∨ 25 < t ∨ (a ≠ 3 ∧ t ≠ 6 ∧ t ≠ 4)) : σ' t a = σ t a := h.f t a (by rintro x (⟨q1, q | ⟨q, -⟩⟩ | ⟨q, -⟩ | ⟨q, -⟩) <;> omega)
def bPar (σ σ' : Mem) (b t u : Int) : Prop := σ' 6 0 13 = b ∧ σ' 6 0 14 = t ∧ σ' 6 0 15 = u ∧ ((σ 6 0 13 = b ∧ σ 6 0 14 = t ∧ σ 6 0 15 = u) → σ' 4 1 1 = σ 4 1 1) ∧ (¬ (σ 6 0 13 = b ∧ σ 6 0 14 = t ∧ σ 6 0 15 = u) → σ' 4 1 1 = 0)
/-- the machines before m are done, of m the first k places -/
def BDI (σ σ' : Mem) (b t u m k : Int) : Prop := FrG pBD σ σ' ∧ bPar σ σ' b t u ∧ nB σ' 3 ∧ nA σ' 3 ∧ nO σ' 3 ∧ (∀ j, 0 ≤ j → j < 4 → σ' 15 3 j = σ 10 0 j) ∧ (∀ o, vOp (σ 10 0) o → σ' 16 3 o = σ 11 0 o ∧ σ' 17 3 o = σ 12 0 o ∧ ((σ 11 0 o < m ∨ (σ 11 0 o = m ∧ plo (σ 11 0) (σ 13 0) (σ 14 0) o < k)) → σ' 18 3 o = brd σ b t u o) ∧ (¬ (σ 11 0 o < m ∨ (σ 11 0 o = m ∧ plo (σ 11 0) (σ 13 0) (σ 14 0) o < k)) → σ' 18 3 o = σ 8 0 (o / 4))) ∧ (∀ m', 0 ≤ m' → m' < 4 → qB σ' 3 0 m') ∧ (∀ m' k' b', 0 ≤ m' → m' < 4 → 0 ≤ k' → k' < 4 → 0 ≤ b' → b' < 4 → 0 ≤ σ' 19 3 (4 * m' + k') → (hasB (σ' 20 3 (σ' 19 3 (4 * m' + k'))) b' ↔ m' < m ∧ bq σ 0 m' (bct σ b t m' (σ 13 0 m')) b' k'))
theorem bct_0 (σ : Mem) (b t m : Int) : bct σ b t m 0 = 0 := rfl
theorem bct_s (σ : Mem) {b t m n : Int} (h : 0 ≤ n) : (sty σ b t (oq (σ 10 0) (σ 11 0) (σ 14 0) m n) → bct σ b t m (n + 1) = bct σ b t m n + 1) ∧ (¬ sty σ b t (oq (σ 10 0) (σ 11 0) (σ 14 0) m n) → bct σ b t m (n + 1) = bct σ b t m n) := by
  unfold bct
  rw [sm_s _ h]
  exact ⟨fun q => by rw [b2i_1 q], fun q => by rw [b2i_0 q, Int.add_zero]⟩
theorem bct_r (σ : Mem) {b t m n : Int} (h : 0 ≤ n) : 0 ≤ bct σ b t m n ∧ bct σ b t m n ≤ n := by
  unfold bct
  have := sm_r (f := fun k => b2i (sty σ b t (oq (σ 10 0) (σ 11 0) (σ 14 0) m k))) (b := 1) (fun i => b2i_r _) n.toNat
  omega
theorem BDI_0 {σ σ0 σ1 : Mem} {b t u : Int} (hw : sWF σ 0) (h0 : FrG pBD σ σ0) (hp : bPar σ σ0 b t u) (hL : Lod 3 0 σ0 σ1) : BDI σ σ1 b t u 0 0 := by
  have e : ∀ t, t = 5 ∨ t = 8 ∨ t = 9 ∨ t = 10 ∨ t = 11 ∨ t = 12 ∨ t = 13 ∨ t = 14 → σ0 t 0 = σ t 0 := fun t ht => pBD_x h0 t 0 (by omega)
  have hw0 : sWF σ0 0 := by
    unfold sWF
    rw [e 5 (by omega), e 8 (by omega), e 9 (by omega), e 10 (by omega), e 11 (by omega), e 12 (by omega), e 13 (by omega), e 14 (by omega)]
    exact hw
  have hq := Lod_qB hw0 hL
  obtain ⟨l1, l2, l3, l4, l5, l6, l7⟩ := hL
  have k6 : ∀ x, σ1 6 0 x = σ0 6 0 x := fun x => l1 6 0 x (by rintro ⟨q, -⟩; omega)
  have k4 : σ1 4 1 1 = σ0 4 1 1 := l1 4 1 1 (by rintro ⟨q, -⟩; omega)
  rw [e 10 (by omega), e 11 (by omega), e 12 (by omega), e 8 (by omega)] at l6
  rw [e 10 (by omega)] at l5
  refine ⟨h0.t (l1.w (by rintro t a x ⟨q1, q2⟩; exact Or.inl ⟨q1, by omega⟩)), ?_, l2, l3, l4, l5, fun o v => ⟨(l6 o v).1, (l6 o v).2.1, fun q => ?_, fun _ => (l6 o v).2.2⟩, hq, fun m' k' b' a1 a2 a3 a4 a5 a6 a7 => ⟨fun z => ?_, fun z => by omega⟩⟩
  · unfold bPar
    rw [k6, k6, k6, k4]
    exact hp
  · have := sWF_op hw v
    have := (plo_of hw.1 v).1
    omega
  · have := l2.2.2 m' k' a1 a2 a3 a4 a7
    rw [l7 _ this.1.1 this.1.2.1] at z
    exact absurd z (bit_0 a5 a6)
/-- a place more that stays -/
theorem BDI_k {σ σ' : Mem} {b t u m k : Int} (hw : sWF σ 0) (h : BDI σ σ' b t u m k) (m0 : 0 ≤ m) (m1 : m < 4) (k0 : 0 ≤ k) (k1 : k < σ 13 0 m) (hs : sty σ b t (oq (σ 10 0) (σ 11 0) (σ 14 0) m k)) : BDI σ σ' b t u m (k + 1) := by
  obtain ⟨h1, h2, h3, h4, h5, h6, h7, h8, h9⟩ := h
  refine ⟨h1, h2, h3, h4, h5, h6, fun o v => ?_, h8, h9⟩
  obtain ⟨a1, a2, a3, a4⟩ := h7 o v
  refine ⟨a1, a2, fun q => ?_, fun q => a4 (fun z => q (by omega))⟩
  by_cases c : σ 11 0 o < m ∨ (σ 11 0 o = m ∧ plo (σ 11 0) (σ 13 0) (σ 14 0) o < k)
  · exact a3 c
  · have e : oq (σ 10 0) (σ 11 0) (σ 14 0) m k = o := by
      have := (plo_of hw.1 v).2.2
      have em : σ 11 0 o = m := by omega
      have ek : plo (σ 11 0) (σ 13 0) (σ 14 0) o = k := by omega
      rw [em, ek] at this
      exact this
    rw [e] at hs
    rw [a4 c]
    unfold brd
    rw [cif_1 hs]
/-- a place more that doesn't -/
theorem BDI_h {σ σ' σ2 : Mem} {b t u m k : Int} (hw : sWF σ 0) (h : BDI σ σ' b t u m k) (m0 : 0 ≤ m) (m1 : m < 4) (k0 : 0 ≤ k) (k1 : k < σ 13 0 m) (t0 : 0 ≤ t ∧ t ≤ 400) (u0 : 0 ≤ u ∧ u ≤ 400) (hs : ¬ sty σ b t (oq (σ 10 0) (σ 11 0) (σ 14 0) m k)) (h2 : σ2 = if 0 ≤ oq (σ 10 0) (σ 11 0) (σ 14 0) m k ∧ oq (σ 10 0) (σ 11 0) (σ 14 0) m k < 16 ∧ σ' 18 3 (oq (σ 10 0) (σ 11 0) (σ 14 0) m k) < blim b t u m then up σ' 18 3 (oq (σ 10 0) (σ 11 0) (σ 14 0) m k) (blim b t u m) else σ') : BDI σ σ2 b t u m (k + 1) := by
  obtain ⟨g1, g2, g3, g4, g5, g6, g7, g8, g9⟩ := h
  have ov := oq_v hw.1 m0 m1 k0 k1
  have opl := plo_oq hw.1 m0 m1 k0 k1
  generalize hoo : oq (σ 10 0) (σ 11 0) (σ 14 0) m k = x at *
  have hlim : 0 ≤ blim b t u m ∧ blim b t u m ≤ 400 := by unfold blim; split <;> omega
  have x18 : σ' 18 3 x = σ 8 0 (x / 4) := (g7 x ov.1).2.2.2 (by rw [ov.2.1, opl]; omega)
  have e18 : ∀ o, σ2 18 3 o = if o = x then brd σ b t u x else σ' 18 3 o := fun o => by
    have hb : brd σ b t u x = if σ 8 0 (x / 4) < blim b t u m then blim b t u m else σ 8 0 (x / 4) := by
      unfold brd
      rw [cif_0 hs, ov.2.1]
    rw [h2]
    by_cases c : σ' 18 3 x < blim b t u m
    · rw [if_pos ⟨ov.1.1, ov.1.2.1, c⟩, up_ap, hb, ← x18, if_pos c]
      simp only [true_and]
    · rw [if_neg (fun z => c z.2.2), hb, ← x18, if_neg c]
      by_cases y : o = x
      · rw [if_pos y, y]
      · rw [if_neg y]
  have eo : ∀ s a z, ¬ (s = 18 ∧ a = 3) → σ2 s a z = σ' s a z := fun s a z q => by
    rw [h2]
    split
    · rw [up_ap, if_neg (fun y => q ⟨y.1, y.2.1⟩)]
    · rfl
  have ef : ∀ s a, ¬ (s = 18 ∧ a = 3) → σ2 s a = σ' s a := fun s a q => funext fun z => eo s a z q
  have hV : ∀ o, vOp (σ' 15 3) o ↔ vOp (σ 10 0) o := vOp_cg g6
  have hrd : ∀ o, vOp (σ 10 0) o → 0 ≤ σ2 18 3 o ∧ σ2 18 3 o ≤ 400 := fun o v => by
    have b0 := g3.2.1 o ((hV o).mpr v)
    rw [e18]
    split
    · have r := sWF_op hw ov.1
      unfold brd
      rw [cif_0 hs, ov.2.1]
      split <;> omega
    · exact ⟨b0.2.2.2.2.1, b0.2.2.2.2.2.1⟩
  refine ⟨g1.t (fun s a z q => eo s a z (fun y => q (Or.inl ⟨y.2, by omega⟩))), ?_, ?_, ?_, ?_, ?_, fun o v => ?_, fun m' a1 a2 => ?_, ?_⟩
  · unfold bPar
    rw [ef 6 0 (by omega), ef 4 1 (by omega)]
    exact g2
  · unfold nB NB
    rw [ef 15 3 (by omega), ef 16 3 (by omega), ef 17 3 (by omega), ef 19 3 (by omega)]
    refine ⟨g3.1, fun o v => ?_, g3.2.2⟩
    have b0 := g3.2.1 o v
    have r := hrd o ((hV o).mp v)
    exact ⟨b0.1, b0.2.1, b0.2.2.1, b0.2.2.2.1, r.1, r.2, b0.2.2.2.2.2.2⟩
  · unfold nA at g4 ⊢
    rw [ef 15 3 (by omega), ef 16 3 (by omega), ef 19 3 (by omega), ef 20 3 (by omega)]
    exact g4
  · unfold nO at g5 ⊢
    rw [ef 1 3 (by omega), ef 15 3 (by omega)]
    exact g5
  · rw [ef 15 3 (by omega)]
    exact g6
  · obtain ⟨a1, a2, a3, a4⟩ := g7 o v
    rw [ef 16 3 (by omega), ef 17 3 (by omega), e18]
    refine ⟨a1, a2, fun q => ?_, fun q => ?_⟩
    · by_cases y : o = x
      · rw [if_pos y, y]
      · rw [if_neg y]
        refine a3 (Classical.byContradiction (fun c => y ?_))
        have := (plo_of hw.1 v).2.2
        have em : σ 11 0 o = m := by omega
        have ek : plo (σ 11 0) (σ 13 0) (σ 14 0) o = k := by omega
        rw [em, ek, hoo] at this
        exact this.symm
    · rw [if_neg (by rintro rfl; exact q (by rw [opl]; omega))]
      exact a4 (fun z => q (by omega))
  · have := g8 m' a1 a2
    unfold qB at this ⊢
    rw [ef 13 0 (by omega), ef 14 0 (by omega), ef 19 3 (by omega)]
    exact this
  · rw [ef 19 3 (by omega), ef 20 3 (by omega)]
    exact g9
/-- a machine more -/
theorem BDI_m {σ σ' σ2 : Mem} {b t u m : Int} (hw : sWF σ 0) (h : BDI σ σ' b t u m (σ 13 0 m)) (m0 : 0 ≤ m) (m1 : m < 4) (hF : FO σ' σ2 3 0 m (bct σ b t m (σ 13 0 m))) : BDI σ σ2 b t u (m + 1) 0 := by
  obtain ⟨g1, g2, g3, g4, g5, g6, g7, g8, g9⟩ := h
  obtain ⟨f1, f2, f3, f4⟩ := hF
  have ef : ∀ s a, ¬ (s = 20 ∧ a = 3) → σ2 s a = σ' s a := fun s a q => f1.f s a (fun x z => q z)
  have e14 : σ' 14 0 = σ 14 0 := pBD_x g1 14 0 (by omega)
  refine ⟨g1.t (f1.w (by rintro s a x ⟨q1, q2⟩; exact Or.inl ⟨q2, by omega⟩)), ?_, ?_, f2, ?_, ?_, fun o v => ?_, fun m' a1 a2 => ?_, fun m' k' b' a1 a2 a3 a4 a5 a6 a7 => ?_⟩
  · unfold bPar
    rw [ef 6 0 (by omega), ef 4 1 (by omega)]
    exact g2
  · unfold nB
    rw [ef 15 3 (by omega), ef 16 3 (by omega), ef 17 3 (by omega), ef 18 3 (by omega), ef 19 3 (by omega)]
    exact g3
  · unfold nO at g5 ⊢
    rw [ef 1 3 (by omega), ef 15 3 (by omega)]
    exact g5
  · rw [ef 15 3 (by omega)]
    exact g6
  · obtain ⟨a1, a2, a3, a4⟩ := g7 o v
    have hp := plo_of hw.1 v
    rw [ef 16 3 (by omega), ef 17 3 (by omega), ef 18 3 (by omega)]
    refine ⟨a1, a2, fun q => a3 ?_, fun q => a4 (fun z => q (by omega))⟩
    rcases (show σ 11 0 o < m ∨ σ 11 0 o = m by omega) with c | c
    · exact Or.inl c
    · have := hp.2.1
      rw [c] at this
      exact Or.inr ⟨c, this⟩
  · have := g8 m' a1 a2
    unfold qB at this ⊢
    rw [ef 13 0 (by omega), ef 14 0 (by omega), ef 19 3 (by omega)]
    exact this
  · rw [ef 19 3 (by omega)] at a7 ⊢
    by_cases c : m' = m
    · subst c
      rw [f3 k' b' a3 a4 a5 a6 a7, g9 m' k' b' a1 a2 a3 a4 a5 a6 a7]
      have hbq : ∀ P, bq σ' 0 m' P b' k' ↔ bq σ 0 m' P b' k' := fun P => by
        unfold bq
        rw [e14]
      rw [hbq]
      constructor
      · rintro (z | z)
        · omega
        · exact ⟨by omega, z⟩
      · rintro ⟨-, z⟩
        exact Or.inr z
    · have hv := g3.2.2 m' k' a1 a2 a3 a4 a7
      rw [f4 _ (fun k k0 k1 e => by
        have h0 : 0 ≤ σ' 19 3 (4 * m + k) := by rw [e]; exact a7
        have hv2 := g3.2.2 m k m0 m1 k0 k1 h0
        rw [e] at hv2
        have := hv.2.1
        have := hv2.2.1
        omega), g9 m' k' b' a1 a2 a3 a4 a5 a6 a7]
      constructor
      · rintro ⟨z, y⟩
        exact ⟨by omega, y⟩
      · rintro ⟨z, y⟩
        exact ⟨by omega, y⟩
theorem pBD_w {σ σ' : Mem} (h : FrG pBD σ σ') (hw : sWF σ 0) : sWF σ' 0 := by
  unfold sWF
  rw [pBD_x h 5 0 (by omega), pBD_x h 8 0 (by omega), pBD_x h 9 0 (by omega), pBD_x h 10 0 (by omega), pBD_x h 11 0 (by omega), pBD_x h 12 0 (by omega), pBD_x h 13 0 (by omega), pBD_x h 14 0 (by omega)]
  exact hw
theorem pBD_k {σ σ' : Mem} (h : FrG pBD σ σ') (hp : PK σ) : PK σ' := by
  unfold PK PM sH sT at hp ⊢
  simp only [pBD_x h 1 0 (by omega), pBD_x h 3 0 (by omega), pBD_x h 8 0 (by omega), pBD_x h 10 0 (by omega), pBD_x h 11 0 (by omega), pBD_x h 12 0 (by omega), pBD_x h 13 0 (by omega), pBD_x h 14 0 (by omega), pBD_x h 15 0 (by omega), pBD_x h 16 0 (by omega), pBD_x h 17 0 (by omega), pBD_x h 21 0 (by omega), pBD_x h 22 0 (by omega), pBD_x h 37 0 (by omega)]
  exact hp
