/-! the class's state as a workshop; its plan measured -/
def sWF (σ : Mem) (i : Nat) : Prop := WF (σ 5 i 0) (σ 10 i) (σ 11 i) (σ 12 i) (σ 13 i) (σ 14 i) ∧ ∀ j, 0 ≤ j → j < σ 5 i 0 → 0 ≤ σ 8 i j ∧ σ 8 i j ≤ 50 ∧ 0 ≤ σ 9 i j ∧ σ 9 i j ≤ 200
def sH (σ : Mem) (i : Nat) (h : Int → Int) : Prop := wH (σ 10 i) (σ 11 i) (σ 12 i) (σ 8 i) (σ 13 i) (σ 14 i) h
def sT (σ : Mem) (i : Nat) (t : Int → Int) : Prop := wTl (σ 10 i) (σ 11 i) (σ 12 i) (σ 13 i) (σ 14 i) t
theorem sWF_op {σ : Mem} {i : Nat} (h : sWF σ i) {o : Int} (v : vOp (σ 10 i) o) : 0 ≤ σ 11 i o ∧ σ 11 i o < 4 ∧ 1 ≤ σ 12 i o ∧ σ 12 i o ≤ 20 ∧ o / 4 < σ 5 i 0 ∧ 0 ≤ σ 8 i (o / 4) ∧ σ 8 i (o / 4) ≤ 50 := by
  obtain ⟨a, b, c, d⟩ := h.1.2.2.1 o v
  have hj := vOp_j v
  have hl : o / 4 < σ 5 i 0 := by
    rcases Int.lt_or_le (o / 4) (σ 5 i 0) with q | q
    · exact q
    · have := (h.1.2.1 (o / 4) hj.1 hj.2.1).2.2 q
      have := v.2.2
      omega
  have := h.2 (o / 4) hj.1 hl
  exact ⟨a, b, c, d, hl, this.1, this.2.1⟩
theorem sWF_B {σ : Mem} {i : Nat} (h : sWF σ i) : stB σ i := ⟨fun j a b => ⟨(h.1.2.1 j a b).1, (h.1.2.1 j a b).2.1⟩, fun o v => by have := sWF_op h v; omega, h.1.2.2.2.1⟩
/-- the plan of the state i, measured in the net n -/
def PM (σ σ3 : Mem) (i n : Nat) : Prop := (∀ j, 0 ≤ j → j < 4 → σ3 15 n j = σ 10 i j) ∧ (∀ o, vOp (σ 10 i) o → σ3 16 n o = σ 11 i o ∧ σ3 17 n o = σ 12 i o) ∧ sH σ i (σ3 21 n) ∧ sT σ i (σ3 22 n) ∧ IsMax (vOp (σ 10 i)) (fun o => σ3 21 n o + σ 12 i o + σ3 22 n o) (σ3 1 n 8) ∧ σ3 1 n 8 ≤ 1100 ∧ ∀ o, vOp (σ 10 i) o → 0 ≤ σ3 21 n o ∧ σ3 21 n o ≤ 700 ∧ 0 ≤ σ3 22 n o ∧ σ3 22 n o ≤ 320
theorem bq_pl {σ : Mem} {i : Nat} (h : sWF σ i) {o' o : Int} (v' : vOp (σ 10 i) o') (v : vOp (σ 10 i) o) (hm : σ 11 i o' = σ 11 i o) : bq σ i (σ 11 i o) (σ 13 i (σ 11 i o)) (o' / 4) (o / 4) ↔ plo (σ 11 i) (σ 13 i) (σ 14 i) o' < plo (σ 11 i) (σ 13 i) (σ 14 i) o := by
  have m := h.1.2.2.1 o v
  have hp := plo_of h.1 v
  have hp' := plo_of h.1 v'
  rw [hm] at hp'
  have e := (oq_v h.1 m.1 m.2.1 hp.1 hp.2.1).2.2
  have e' := (oq_v h.1 m.1 m.2.1 hp'.1 hp'.2.1).2.2
  rw [hp.2.2] at e
  rw [hp'.2.2] at e'
  have inj := h.1.2.2.2.2.2.2.1 (σ 11 i o)
  constructor
  · rintro ⟨p, p0, p1, p2, p3⟩
    have ep := inj p _ m.1 m.2.1 p0 p1 hp'.1 hp'.2.1 (by rw [p2, e'])
    rcases Int.lt_or_le (plo (σ 11 i) (σ 13 i) (σ 14 i) o') (plo (σ 11 i) (σ 13 i) (σ 14 i) o) with c | c
    · exact c
    · exact absurd e.symm (p3 _ hp.1 (by omega))
  · intro c
    refine ⟨_, hp'.1, hp'.2.1, e'.symm, fun p' q0 q1 q2 => ?_⟩
    have := inj p' _ m.1 m.2.1 q0 (by omega) hp.1 hp.2.1 (by rw [q2, e])
    omega
theorem Lod_qB {σ σ1 : Mem} {i n : Nat} (h : sWF σ i) (hL : Lod n i σ σ1) : ∀ m, 0 ≤ m → m < 4 → qB σ1 n i m := by
  intro m m0 m1
  obtain ⟨l1, l2, l3, l4, l5, l6, l7⟩ := hL
  have e13 : ∀ x, σ1 13 i x = σ 13 i x := fun x => l1 13 i x (by rintro ⟨-, q⟩; omega)
  have e14 : ∀ x, σ1 14 i x = σ 14 i x := fun x => l1 14 i x (by rintro ⟨-, q⟩; omega)
  have hl := h.1.2.2.2.2.1 m m0 m1
  unfold qB
  simp only [e13, e14]
  refine ⟨hl.1, hl.2, fun p p0 p1 => ?_⟩
  obtain ⟨a, b, o, v, eo, em⟩ := h.1.2.2.2.2.2.1 m p m0 m1 p0 p1
  have v1 : vOp (σ1 15 n) o := (vOp_cg l5 o).mpr v
  have := (l2.2.1 o v1).2.2.2.2.2.2
  rw [(l6 o v).1, em, eo] at this
  exact ⟨a, b, by rw [this]; exact v.1⟩
/-- what is decided when the orders are followed -/
theorem FS_pN {σ σ1 σ2 : Mem} {i n : Nat} (h : sWF σ i) (hL : Lod n i σ σ1) (hF : FS σ1 σ2 n i 4) {o' o : Int} (v' : vOp (σ 10 i) o') (v : vOp (σ 10 i) o) : pN (σ 11 i) (σ2 20 n) o' o ↔ wQ (σ 11 i) (σ 13 i) (σ 14 i) o' o := by
  obtain ⟨l1, l2, l3, l4, l5, l6, l7⟩ := hL
  have m := h.1.2.2.1 o v
  have hj := vOp_j v
  have hj' := vOp_j v'
  have e13 : ∀ x, σ1 13 i x = σ 13 i x := fun x => l1 13 i x (by rintro ⟨-, q⟩; omega)
  have e14 : ∀ x, σ1 14 i x = σ 14 i x := fun x => l1 14 i x (by rintro ⟨-, q⟩; omega)
  have v1 : vOp (σ1 15 n) o := (vOp_cg l5 o).mpr v
  have on := (l2.2.1 o v1).2.2.2.2.2.2
  rw [(l6 o v).1] at on
  have key := hF.2.2 (σ 11 i o) (o / 4) (o' / 4) m.1 m.2.1 hj.1 hj.2.1 hj'.1 hj'.2.1 (by rw [on]; exact v.1)
  rw [on, l7 o v.1 v.2.1, e13, bq_cg e14] at key
  unfold pN wQ
  constructor
  · rintro (p | ⟨p1, p2⟩)
    · exact Or.inl p
    · rcases key.mp p2 with c | c
      · exact absurd c (bit_0 hj'.1 hj'.2.1)
      · exact Or.inr ⟨p1, (bq_pl h v' v p1).mp c.2⟩
  · rintro (p | ⟨p1, p2⟩)
    · exact Or.inl p
    · exact Or.inr ⟨p1, key.mpr (Or.inr ⟨m.2.1, (bq_pl h v' v p1).mpr p2⟩)⟩
theorem FS_st {σ1 σ2 : Mem} {i n : Nat} (hB : nB σ1 n) (hO : nO σ1 n) (hF : FS σ1 σ2 n i 4) : nB σ2 n ∧ nA σ2 n ∧ nO σ2 n := by
  have e : ∀ t, t ≠ 20 → ∀ a, σ2 t a = σ1 t a := fun t ht a => hF.1.f t a (fun x q => ht q.1)
  refine ⟨hF.1.B (fun t x a b q => by have := q.1; omega) hB, hF.2.1, ?_⟩
  unfold nO
  rw [e 1 (by omega), e 15 (by omega)]
  exact hO
theorem plan_ok {σ σ1 σ2 σ3 : Mem} {i n : Nat} (h : sWF σ i) (hL : Lod n i σ σ1) (hF : FS σ1 σ2 n i 4) (hR : Frm n σ2 σ3) (hM : nM σ3 n) : PM σ σ3 i n := by
  have hpn := fun o' o v' v => FS_pN h hL hF (o' := o') (o := o) v' v
  obtain ⟨l1, l2, l3, l4, l5, l6, l7⟩ := hL
  have e : ∀ t, t ≠ 20 → ∀ a, σ2 t a = σ1 t a := fun t ht a => hF.1.f t a (fun x q => ht q.1)
  have f := fun t ht => hR.f t ht
  have E : ∀ t, t ≠ 1 ∧ t ≠ 20 ∧ t < 21 → σ3 t n = σ1 t n := fun t ht => by rw [f t (by omega), e t (by omega)]
  have E20 : σ3 20 n = σ2 20 n := f 20 (by omega)
  have hst : ∀ j, 0 ≤ j → j < 4 → σ3 15 n j = σ 10 i j := fun j a b => by rw [E 15 (by omega)]; exact l5 j a b
  have hV : ∀ o, vOp (σ3 15 n) o ↔ vOp (σ 10 i) o := vOp_cg hst
  have hmd : ∀ o, vOp (σ 10 i) o → σ3 16 n o = σ 11 i o ∧ σ3 17 n o = σ 12 i o := fun o v => by rw [E 16 (by omega), E 17 (by omega)]; exact ⟨(l6 o v).1, (l6 o v).2.1⟩
  have hrd : ∀ o, vOp (σ 10 i) o → σ3 18 n o = σ 8 i (o / 4) := fun o v => by rw [E 18 (by omega)]; exact (l6 o v).2.2
  obtain ⟨m1, m2, m3, m4, m5⟩ := hM
  rw [IsHead_V hV] at m1
  rw [IsTail_V hV] at m2
  have hP : ∀ o' o, vOp (σ 10 i) o' → vOp (σ 10 i) o → (pN (σ3 16 n) (σ3 20 n) o' o ↔ wQ (σ 11 i) (σ 13 i) (σ 14 i) o' o) := fun o' o v' v => by
    rw [← hpn o' o v' v]
    unfold pN
    rw [(hmd o' v').1, (hmd o v).1, E20]
  refine ⟨hst, hmd, ?_, ?_, ?_, m4, fun o v => m5 o ((hV o).mpr v)⟩
  · unfold sH
    rw [← wQ_head h.1]
    exact (IsHead_cg hP (fun o v => (hmd o v).2) hrd).mp m1
  · unfold sT
    rw [← wQ_tail h.1]
    exact (IsTail_cg hP (fun o v => (hmd o v).2)).mp m2
  · refine ⟨m3.1, fun o v => ?_, ?_⟩
    · have := m3.2.1 o ((hV o).mpr v)
      simp only at this
      rw [(hmd o v).2] at this
      exact this
    · rcases m3.2.2 with c | ⟨o, v, c⟩
      · exact Or.inl c
      · have v0 := (hV o).mp v
        simp only at c
        rw [(hmd o v0).2] at c
        exact Or.inr ⟨o, v0, c⟩
theorem plan_no {σ σ1 σ2 : Mem} {i n : Nat} (h : sWF σ i) (hL : Lod n i σ σ1) (hF : FS σ1 σ2 n i 4) (hN : nN σ2 n) : ∀ g, ¬ sH σ i g := by
  intro g hg
  have hpn := fun o' o v' v => FS_pN h hL hF (o' := o') (o := o) v' v
  obtain ⟨l1, l2, l3, l4, l5, l6, l7⟩ := hL
  have e : ∀ t, t ≠ 20 → ∀ a, σ2 t a = σ1 t a := fun t ht a => hF.1.f t a (fun x q => ht q.1)
  have hV : ∀ o, vOp (σ1 15 n) o ↔ vOp (σ 10 i) o := vOp_cg l5
  have hgq := (wQ_head (re := σ 8 i) h.1).mpr hg
  unfold nN at hN
  rw [e 15 (by omega), e 16 (by omega)] at hN
  refine hN.no l2 (P := wQ (σ 11 i) (σ 13 i) (σ 14 i)) (h := g) (fun o' o v' v p => ?_) ?_
  · have w' := (hV o').mp v'
    have w := (hV o).mp v
    refine (hpn o' o w' w).mp ?_
    unfold pN at p ⊢
    rw [(l6 o' w').1, (l6 o w).1] at p
    exact p
  · rw [IsHead_V hV]
    exact (IsHead_cg (fun _ _ _ _ => Iff.rfl) (fun o v => ((l6 o v).2.1).symm) (fun o v => ((l6 o v).2.2).symm)).mp hgq
/-- what knowPlan may change -/
def pKn (t a : Nat) (x : Int) : Prop := (a = 0 ∧ ((15 ≤ t ∧ t ≤ 25) ∨ (t = 1 ∧ (x = 8 ∨ x = 9 ∨ x = 11)))) ∨ pPa t a x ∨ (t = 6 ∧ a = 0 ∧ (x = 8 ∨ x = 9))
theorem pKn_f {σ σ' : Mem} (h : FrG pKn σ σ') (t a : Nat) (ht : (t < 15 ∧ t ≠ 1 ∧ t ≠ 3 ∧ t ≠ 6) ∨ (25 < t ∧ t ≠ 37) ∨ (15 ≤ t ∧ t ≤ 25 ∧ a ≠ 0)) : σ' t a = σ t a := h.f t a (by
  rintro x (⟨q0, q⟩ | (⟨q, -⟩ | ⟨q, -⟩) | ⟨q, -⟩) <;> omega)
/-- the plan is known: the net 0, the critical path -/
def PK (σ : Mem) : Prop := PM σ σ 0 0 ∧ PTi (σ 10 0) (σ 11 0) (σ 8 0) (σ 12 0) (σ 13 0) (σ 14 0) (σ 21 0) (σ 22 0) (σ 1 0 8) (σ 37 0) (σ 3 0 1) (-6)
def KPc (σ : Mem) : Prop := σ 6 0 8 = 0 ∨ (σ 6 0 8 = 1 ∧ ((σ 6 0 9 = 1 ∧ PK σ) ∨ (σ 6 0 9 = 0 ∧ ∀ h, ¬ sH σ 0 h)))
theorem PM_cg {σ σ' σ3 σ3' : Mem} {i n : Nat} (h : ∀ t, t = 8 ∨ t = 10 ∨ t = 11 ∨ t = 12 ∨ t = 13 ∨ t = 14 → σ' t i = σ t i) (h3 : ∀ t, t = 15 ∨ t = 16 ∨ t = 17 ∨ t = 21 ∨ t = 22 → σ3' t n = σ3 t n) (h8 : σ3' 1 n 8 = σ3 1 n 8) : PM σ' σ3' i n ↔ PM σ σ3 i n := by
  unfold PM sH sT
  rw [h 8 (by omega), h 10 (by omega), h 11 (by omega), h 12 (by omega), h 13 (by omega), h 14 (by omega), h3 15 (by omega), h3 16 (by omega), h3 17 (by omega), h3 21 (by omega), h3 22 (by omega), h8]
theorem PM_c {σ σ3 : Mem} {i n : Nat} (hw : sWF σ i) (h : PM σ σ3 i n) (he : ∀ t, t = 5 ∨ t = 8 ∨ t = 10 ∨ t = 11 ∨ t = 12 ∨ t = 13 ∨ t = 14 → σ3 t i = σ t i) : cOK σ3 i n := by
  obtain ⟨a1, a2, a3, a4, a5, a6, a7⟩ := h
  unfold cOK
  rw [he 5 (by omega), he 10 (by omega), he 11 (by omega), he 13 (by omega), he 14 (by omega)]
  refine ⟨AG.wf (J := σ 5 i 0) (st := σ 10 i) (mc := σ 11 i) (du := σ 12 i) (re := σ 8 i) (re' := σ 8 i) (ln := σ 13 i) (q := σ 14 i) ⟨rfl, fun _ _ _ => rfl, fun o v => ⟨rfl, (a2 o v).2.symm, rfl⟩, fun _ _ _ => rfl, fun _ _ _ _ _ _ => rfl⟩ hw.1, a7, a5.1, a6⟩
theorem TR_PK {σ σ3 σ4 : Mem} (hw : sWF σ 0) (h : PM σ σ3 0 0) (he : ∀ t, t = 5 ∨ t = 8 ∨ t = 10 ∨ t = 11 ∨ t = 12 ∨ t = 13 ∨ t = 14 → σ3 t 0 = σ t 0) (hT : TRi σ3 σ4 0 0 (-6)) : PK σ4 := by
  have f := pPa_f hT.1
  obtain ⟨a1, a2, a3, a4, a5, a6, a7⟩ := h
  refine ⟨(PM_cg (fun t ht => by rw [f t 0 (by omega), he t (by omega)]) (fun t ht => f t 0 (by omega)) (by rw [f 1 0 (by omega)])).mpr ⟨a1, a2, a3, a4, a5, a6, a7⟩, ?_⟩
  have hp := hT.2
  have hcw := PM_c hw ⟨a1, a2, a3, a4, a5, a6, a7⟩ he
  unfold cPT at hp
  rw [f 8 0 (by omega), f 10 0 (by omega), f 11 0 (by omega), f 12 0 (by omega), f 13 0 (by omega), f 14 0 (by omega), f 21 0 (by omega), f 22 0 (by omega), f 1 0 (by omega)]
  refine AG.PT (J := σ3 5 0 0) (J' := σ3 5 0 0) ⟨rfl, fun _ _ _ => rfl, fun o v => ⟨rfl, ?_, rfl⟩, fun _ _ _ => rfl, fun _ _ _ _ _ _ => rfl⟩ hcw.1 (fun _ _ => ⟨rfl, rfl⟩) hp
  rw [he 10 (by omega)] at v
  rw [he 12 (by omega)]
  exact (a2 o v).2
