/-! the plan of a workshop: what goes directly ahead, heads, tails -/
def wP (mc ln q : Int → Int) (o' o : Int) : Prop := (o % 4 ≠ 0 ∧ o' = o - 1) ∨ (mc o' = mc o ∧ plo mc ln q o' + 1 = plo mc ln q o)
def wH (st mc du re ln q h : Int → Int) : Prop := IsHead (vOp st) (wP mc ln q) du (fun o => re (o / 4)) h
def wTl (st mc du ln q t : Int → Int) : Prop := IsTail (vOp st) (wP mc ln q) du t
theorem IsHead_cg {V : Int → Prop} {P P' : Int → Int → Prop} {d d' r r' h : Int → Int} (hP : ∀ o' o, V o' → V o → (P o' o ↔ P' o' o)) (hd : ∀ o, V o → d o = d' o) (hr : ∀ o, V o → r o = r' o) : IsHead V P d r h ↔ IsHead V P' d' r' h := by
  constructor
  · intro H o v
    obtain ⟨a, b, c⟩ := H o v
    refine ⟨by rw [← hr o v]; exact a, fun o' v' p => by rw [← hd o' v']; exact b o' v' ((hP o' o v' v).mpr p), ?_⟩
    rcases c with c | ⟨o', v', p, c⟩
    · exact Or.inl (by rw [← hr o v]; exact c)
    · exact Or.inr ⟨o', v', (hP o' o v' v).mp p, by rw [← hd o' v']; exact c⟩
  · intro H o v
    obtain ⟨a, b, c⟩ := H o v
    refine ⟨by rw [hr o v]; exact a, fun o' v' p => by rw [hd o' v']; exact b o' v' ((hP o' o v' v).mp p), ?_⟩
    rcases c with c | ⟨o', v', p, c⟩
    · exact Or.inl (by rw [hr o v]; exact c)
    · exact Or.inr ⟨o', v', (hP o' o v' v).mpr p, by rw [hd o' v']; exact c⟩
theorem IsTail_cg {V : Int → Prop} {P P' : Int → Int → Prop} {d d' t : Int → Int} (hP : ∀ o' o, V o' → V o → (P o' o ↔ P' o' o)) (hd : ∀ o, V o → d o = d' o) : IsTail V P d t ↔ IsTail V P' d' t := by
  constructor
  · intro H o v
    obtain ⟨a, b, c⟩ := H o v
    refine ⟨a, fun o' v' p => by rw [← hd o' v']; exact b o' v' ((hP o o' v v').mpr p), ?_⟩
    rcases c with c | ⟨o', v', p, c⟩
    · exact Or.inl c
    · exact Or.inr ⟨o', v', (hP o o' v v').mp p, by rw [← hd o' v']; exact c⟩
  · intro H o v
    obtain ⟨a, b, c⟩ := H o v
    refine ⟨a, fun o' v' p => by rw [hd o' v']; exact b o' v' ((hP o o' v v').mp p), ?_⟩
    rcases c with c | ⟨o', v', p, c⟩
    · exact Or.inl c
    · exact Or.inr ⟨o', v', (hP o o' v v').mpr p, by rw [hd o' v']; exact c⟩
theorem F2_tail {V : Int → Prop} {d p1 p2 ts : Int → Int} (h1 : okP V p1) (h2 : okP V p2) : SolF V (F2 (fun _ => 0) d p1 p2) ts ↔ IsTail V (fun o o' => (0 ≤ p1 o ∧ o' = p1 o) ∨ (0 ≤ p2 o ∧ o' = p2 o)) d ts := by
  rw [F2_head (fun _ _ => Int.le_refl _) h1 h2]
  constructor
  · intro H o v
    obtain ⟨a, b, c⟩ := H o v
    refine ⟨a, fun o' v' p => by have := b o' v' p; omega, ?_⟩
    rcases c with c | ⟨o', v', p, c⟩
    · exact Or.inl c
    · exact Or.inr ⟨o', v', p, by omega⟩
  · intro H o v
    obtain ⟨a, b, c⟩ := H o v
    refine ⟨a, fun o' v' p => by have := b o' v' p; omega, ?_⟩
    rcases c with c | ⟨o', v', p, c⟩
    · exact Or.inl c
    · exact Or.inr ⟨o', v', p, by omega⟩
def rH (σ : Mem) (h : Int → Int) : Prop := wH (rSt σ) (rMc σ) (rDu σ) (rRe σ) (rLn σ) (rQ σ) h
def rT (σ : Mem) (t : Int → Int) : Prop := wTl (rSt σ) (rMc σ) (rDu σ) (rLn σ) (rQ σ) t
/-- directly before in the order -/
theorem oA_bef {σ : Mem} (h : rWF σ) {o o' : Int} (v : rOp σ o) (v' : rOp σ o') : (0 ≤ oA σ (rMc σ o) (rPl σ o - 1) ∧ o' = oA σ (rMc σ o) (rPl σ o - 1)) ↔ (rMc σ o' = rMc σ o ∧ rPl σ o' + 1 = rPl σ o) := by
  obtain ⟨m0, m1, -⟩ := rWF_op h v
  have hp := rPl_of h v
  have hp' := rPl_of h v'
  constructor
  · rintro ⟨a, b⟩
    have hk := oA_ge h m0 m1 a
    obtain ⟨-, e1, e2⟩ := oA_v h m0 m1 hk.1 hk.2
    rw [← b] at e1 e2
    have e3 : rPl σ o' = rPl σ o - 1 := e2
    exact ⟨e1, by omega⟩
  · rintro ⟨a, b⟩
    have e : rPl σ o - 1 = rPl σ o' := by omega
    rw [← a, e, hp'.2.2]
    exact ⟨v'.1, rfl⟩
theorem oA_aft {σ : Mem} (h : rWF σ) {o o' : Int} (v : rOp σ o) (v' : rOp σ o') : (0 ≤ oA σ (rMc σ o) (rPl σ o + 1) ∧ o' = oA σ (rMc σ o) (rPl σ o + 1)) ↔ (rMc σ o = rMc σ o' ∧ rPl σ o + 1 = rPl σ o') := by
  obtain ⟨m0, m1, -⟩ := rWF_op h v
  have hp := rPl_of h v
  have hp' := rPl_of h v'
  constructor
  · rintro ⟨a, b⟩
    have hk := oA_ge h m0 m1 a
    obtain ⟨-, e1, e2⟩ := oA_v h m0 m1 hk.1 hk.2
    rw [← b] at e1 e2
    have e3 : rPl σ o' = rPl σ o + 1 := e2
    exact ⟨e1.symm, by omega⟩
  · rintro ⟨a, b⟩
    have e : rPl σ o + 1 = rPl σ o' := b
    rw [a, e, hp'.2.2]
    exact ⟨v'.1, rfl⟩
/-- nothing stays, all machines: the operator of the plan -/
theorem hF_is {σ : Mem} (hk : hOK σ) (h43 : ∀ o, rOp σ o → σ 43 0 o = 0) (h44 : ∀ o, rOp σ o → σ 44 0 o = 0) {h : Int → Int} : SolF (rOp σ) (hF σ 4) h ↔ rH σ h := by
  unfold hF
  rw [F2_head (fun o v => (hBs_0 hk o v).1) (hP1_ok σ) (hP2_ok hk.1 4)]
  refine IsHead_cg (fun o' o v' v => ?_) (fun _ _ => rfl) (fun o v => ?_)
  · unfold wP
    have a0 := v.1
    have m1 := (rWF_op hk.1 v).2.1
    have h1 : (0 ≤ hP1 σ o ∧ o' = hP1 σ o) ↔ (o % 4 ≠ 0 ∧ o' = o - 1) := by
      unfold hP1
      rw [if_neg (fun q => q (h44 o v))]
      split <;> omega
    have h2 : hP2 σ 4 o = oA σ (rMc σ o) (rPl σ o - 1) := by
      unfold hP2
      rw [if_neg (fun q => q (h44 o v)), if_pos m1]
    rw [h1, h2, oA_bef hk.1 v v']
    rfl
  · unfold hBs
    rw [if_neg (fun q => q (h44 o v)), h43 o v]
    have := (rWF_op hk.1 v).2.2.2.2.2.1
    unfold gt2
    split <;> omega
def pFd (t a : Nat) (_x : Int) : Prop := (t = 43 ∨ t = 44 ∨ t = 45 ∨ t = 46) ∧ a = 0
theorem pFd_38 {σ σ' : Mem} (h : FrG pFd σ σ') : σ' 38 0 = σ 38 0 := h.f 38 0 (by rintro x ⟨q, -⟩; omega)
/-- heads and tails are found -/
def Fnd (σ σ' : Mem) : Prop := FrG pFd σ σ' ∧ rH σ (σ' 45 0) ∧ rT σ (σ' 46 0) ∧ ∀ o, rOp σ o → 0 ≤ σ' 45 0 o ∧ σ' 45 0 o ≤ 10000 ∧ 0 ≤ σ' 46 0 o ∧ σ' 46 0 o ≤ 12000
/-- the last end, over the first x operations -/
def LE (σ : Mem) (x r : Int) : Prop := 0 ≤ r ∧ r ≤ 20000 ∧ (∀ o, rOp σ o → o < x → σ 45 0 o + rDu σ o ≤ r) ∧ (r = 0 ∨ ∃ o, rOp σ o ∧ o < x ∧ σ 45 0 o + rDu σ o = r)
theorem LE_0 {σ : Mem} : LE σ 0 0 := ⟨by omega, by omega, fun o v q => by have := v.1; omega, Or.inl rfl⟩
theorem LE_n {σ : Mem} {x r : Int} (h : LE σ x r) (hn : ¬ rOp σ x) : LE σ (x + 1) r := by
  refine ⟨h.1, h.2.1, fun o v q => ?_, ?_⟩
  · rcases (show o < x ∨ o = x by omega) with c | rfl
    · exact h.2.2.1 o v c
    · exact absurd v hn
  · rcases h.2.2.2 with c | ⟨o, v, q, e⟩
    · exact Or.inl c
    · exact Or.inr ⟨o, v, by omega, e⟩
theorem LE_s {σ : Mem} {x r : Int} (h : LE σ x r) (v : rOp σ x) (hb : 0 ≤ σ 45 0 x ∧ σ 45 0 x ≤ 10000) (hd : 1 ≤ rDu σ x ∧ rDu σ x ≤ 20) : LE σ (x + 1) (gt2 r (σ 45 0 x + rDu σ x)) := by
  have g := @gt2_le r (σ 45 0 x + rDu σ x)
  have h1 := h.1
  have h2 := h.2.1
  refine ⟨by omega, by omega, fun o w q => ?_, ?_⟩
  · rcases (show o < x ∨ o = x by omega) with c | rfl
    · have := h.2.2.1 o w c
      omega
    · exact g.2.1
  · rcases g.2.2 with c | c
    · rcases h.2.2.2 with d | ⟨o, w, q, e⟩
      · exact Or.inl (by omega)
      · exact Or.inr ⟨o, w, by omega, by omega⟩
    · exact Or.inr ⟨x, v, by omega, c.symm⟩
theorem rOp_if {σ : Mem} (h : rWF σ) (x : Int) : (0 ≤ x ∧ x / 4 < σ 38 0 0 ∧ x % 4 < σ 38 0 (1 + 3 * (x / 4) + 2)) ↔ rOp σ x := by
  constructor
  · rintro ⟨a, b, c⟩
    have := h.1.1
    exact ⟨a, by omega, c⟩
  · intro v
    exact ⟨v.1, (rWF_op h v).2.2.2.2.1, v.2.2⟩
