/-! the two sides agree -/
/-- the state i and a row of the reference are of one workshop -/
def SIM (σ : Mem) (i : Nat) (f : Int → Int) : Prop := sWF σ i ∧ AG (σ 5 i 0) (f 0) (σ 10 i) (fun j => f (1 + 3 * j + 2)) (σ 11 i) (fun o => f (13 + 2 * o)) (σ 12 i) (fun o => f (14 + 2 * o)) (σ 8 i) (fun j => f (1 + 3 * j)) (σ 13 i) (fun m => f (45 + m)) (σ 14 i) (fun x => f (49 + x)) ∧ ∀ j, 0 ≤ j → j < σ 5 i 0 → σ 8 i j = f (1 + 3 * j) ∧ σ 9 i j = f (1 + 3 * j + 1)
theorem AG.tr {J J' J2 : Int} {st st' st2 mc mc' mc2 du du' du2 re re' re2 ln ln' ln2 q q' q2 : Int → Int} (h : AG J J' st st' mc mc' du du' re re' ln ln' q q') (k : AG J' J2 st' st2 mc' mc2 du' du2 re' re2 ln' ln2 q' q2) : AG J J2 st st2 mc mc2 du du2 re re2 ln ln2 q q2 := by
  refine ⟨h.1.trans k.1, fun j a b => (h.2.1 j a b).trans (k.2.1 j a b), fun o v => ?_, fun m a b => (h.2.2.2.1 m a b).trans (k.2.2.2.1 m a b), fun m x a b c d => (h.2.2.2.2 m x a b c d).trans (k.2.2.2.2 m x a b c (by rw [← h.2.2.2.1 m a b]; exact d))⟩
  have e := h.2.2.1 o v
  have f := k.2.2.1 o ((h.V o).mpr v)
  exact ⟨e.1.trans f.1, e.2.1.trans f.2.1, e.2.2.trans f.2.2⟩
theorem SIM_m {σ σ' : Mem} {i i' : Nat} {f f' : Int → Int} (h : SIM σ i f) (hc : ∀ t j, (t = 5 ∧ j = 0) ∨ (8 ≤ t ∧ t ≤ 14 ∧ 0 ≤ j ∧ j < (if t = 11 ∨ t = 12 ∨ t = 14 then 16 else 4)) → σ' t i' j = σ t i j) (hr : ∀ x, 0 ≤ x → x < 65 → f' x = f x) : SIM σ' i' f' := by
  obtain ⟨w, ag, d⟩ := h
  have c5 : σ' 5 i' 0 = σ 5 i 0 := hc 5 0 (by omega)
  have c4 : ∀ t j, t = 8 ∨ t = 9 ∨ t = 10 ∨ t = 13 → 0 ≤ j → j < 4 → σ' t i' j = σ t i j := fun t j q a b => hc t j (Or.inr ⟨by omega, by omega, a, by rw [if_neg (by omega)]; exact b⟩)
  have c16 : ∀ t j, t = 11 ∨ t = 12 ∨ t = 14 → 0 ≤ j → j < 16 → σ' t i' j = σ t i j := fun t j q a b => hc t j (Or.inr ⟨by omega, by omega, a, by rw [if_pos q]; exact b⟩)
  have a1 : AG (σ 5 i 0) (σ' 5 i' 0) (σ 10 i) (σ' 10 i') (σ 11 i) (σ' 11 i') (σ 12 i) (σ' 12 i') (σ 8 i) (σ' 8 i') (σ 13 i) (σ' 13 i') (σ 14 i) (σ' 14 i') := by
    refine ⟨c5.symm, fun j a b => (c4 10 j (by omega) a b).symm, fun o v => ⟨(c16 11 o (by omega) v.1 v.2.1).symm, (c16 12 o (by omega) v.1 v.2.1).symm, (c4 8 _ (by omega) (vOp_j v).1 (vOp_j v).2.1).symm⟩, fun m a b => (c4 13 m (by omega) a b).symm, fun m k a b c e => ?_⟩
    have := (w.1.2.2.2.2.1 m a b).2
    exact (c16 14 _ (by omega) (by omega) (by omega)).symm
  have a2 : AG (f 0) (f' 0) (fun j => f (1 + 3 * j + 2)) (fun j => f' (1 + 3 * j + 2)) (fun o => f (13 + 2 * o)) (fun o => f' (13 + 2 * o)) (fun o => f (14 + 2 * o)) (fun o => f' (14 + 2 * o)) (fun j => f (1 + 3 * j)) (fun j => f' (1 + 3 * j)) (fun m => f (45 + m)) (fun m => f' (45 + m)) (fun x => f (49 + x)) (fun x => f' (49 + x)) := by
    refine ⟨(hr 0 (by omega) (by omega)).symm, fun j a b => (hr _ (by omega) (by omega)).symm, fun o v => ⟨(hr _ (by have := v.1; omega) (by have := v.2.1; omega)).symm, (hr _ (by have := v.1; omega) (by have := v.2.1; omega)).symm, (hr _ (by have := (vOp_j v).1; omega) (by have := (vOp_j v).2.1; omega)).symm⟩, fun m a b => (hr _ (by omega) (by omega)).symm, fun m k a b c e => ?_⟩
    have l := ag.2.2.2.1 m a b
    dsimp only at l e
    have := (w.1.2.2.2.2.1 m a b).2
    exact (hr _ (by omega) (by omega)).symm
  have j4 := w.1.1.2
  refine ⟨⟨a1.wf w.1, fun j a b => ?_⟩, (a1.sy.tr ag).tr a2, fun j a b => ?_⟩
  · rw [c5] at b
    rw [c4 8 j (by omega) a (by omega), c4 9 j (by omega) a (by omega)]
    exact w.2 j a b
  · rw [c5] at b
    rw [c4 8 j (by omega) a (by omega), c4 9 j (by omega) a (by omega), hr _ (by omega) (by omega), hr _ (by omega) (by omega)]
    exact d j a b
def RHi (σ : Mem) : Prop := hsB σ ∧ σ 0 0 1 = σ 7 0 2 ∧ ∀ d, 0 ≤ d → d < σ 7 0 2 → SIM σ (2 + ((σ 0 0 2 + 6 - d) % 6).toNat) (fun x => σ 39 0 (65 * (σ 7 0 2 - 1 - d) + x))
def RSl (σ : Mem) : Prop := ∀ s, 0 ≤ s → s ≤ 1 → (σ 35 0 s = 0 ↔ σ 41 0 s = 0) ∧ (σ 35 0 s ≠ 0 → SIM σ (8 + s.toNat) (fun x => σ 40 0 (65 * s + x)))
def RPd (σ : Mem) : Prop := σ 2 0 1 = σ 7 0 6 ∧ 0 ≤ σ 2 0 1 ∧ σ 2 0 1 ≤ 80 ∧ ∀ x, x < σ 2 0 1 → σ 36 0 x = σ 42 0 x
def RCa (σ : Mem) : Prop := KPc σ ∧ KSc σ ∧ KRc σ
def REL (σ : Mem) : Prop := SIM σ 0 (σ 38 0) ∧ RHi σ ∧ RSl σ ∧ RPd σ ∧ RCa σ
/-- what the relation speaks of, the caches aside -/
def hrd (t a : Nat) (x : Int) : Prop := t = 0 ∨ ((t = 5 ∨ (8 ≤ t ∧ t ≤ 14)) ∧ a ≠ 1) ∨ t = 35 ∨ t = 36 ∨ (38 ≤ t ∧ t ≤ 42) ∨ (t = 7 ∧ (x = 2 ∨ x = 6)) ∨ (t = 2 ∧ x = 1)
theorem SIM_h {σ σ' : Mem} {i : Nat} {f f' : Int → Int} (h : SIM σ i f) (hi : i ≠ 1) (e : ∀ t a x, hrd t a x → σ' t a x = σ t a x) (hr : ∀ x, f' x = f x) : SIM σ' i f' := SIM_m h (fun t j q => e t i j (by unfold hrd; omega)) (fun x _ _ => hr x)
theorem REL_fr {σ σ' : Mem} (h : REL σ) (e : ∀ t a x, hrd t a x → σ' t a x = σ t a x) (c : RCa σ') : REL σ' := by
  obtain ⟨h1, ⟨h2, h3, h4⟩, h5, ⟨h6, h7, h8, h9⟩, -⟩ := h
  have E : ∀ t a, t = 0 ∨ t = 35 ∨ t = 36 ∨ (38 ≤ t ∧ t ≤ 42) → σ' t a = σ t a := fun t a q => funext fun x => e t a x (by unfold hrd; omega)
  have e2 : σ' 7 0 2 = σ 7 0 2 := e 7 0 2 (by unfold hrd; omega)
  have e6 : σ' 7 0 6 = σ 7 0 6 := e 7 0 6 (by unfold hrd; omega)
  have e1 : σ' 2 0 1 = σ 2 0 1 := e 2 0 1 (by unfold hrd; omega)
  refine ⟨SIM_h h1 (by omega) e (fun x => by rw [E 38 0 (by omega)]), ⟨?_, ?_, fun d a b => ?_⟩, fun s a b => ⟨?_, fun q => ?_⟩, ⟨?_, ?_, ?_, fun x q => ?_⟩, c⟩
  · unfold hsB
    rw [E 0 0 (by omega)]
    exact h2
  · rw [E 0 0 (by omega), e2]
    exact h3
  · rw [e2] at b
    rw [E 0 0 (by omega), e2, E 39 0 (by omega)]
    exact SIM_h (h4 d a b) (by omega) e (fun _ => rfl)
  · rw [E 35 0 (by omega), E 41 0 (by omega)]
    exact (h5 s a b).1
  · rw [E 35 0 (by omega)] at q
    rw [E 40 0 (by omega)]
    exact SIM_h ((h5 s a b).2 q) (by omega) e (fun _ => rfl)
  · rw [e1, e6]
    exact h6
  · rw [e1]
    exact h7
  · rw [e1]
    exact h8
  · rw [e1] at q
    rw [E 36 0 (by omega), E 42 0 (by omega)]
    exact h9 x q
theorem RCa_lo {σ σ' : Mem} (e : ∀ t a x, t < 38 → t ≠ 7 → σ' t a x = σ t a x) (h : RCa σ) : RCa σ' := by
  have E : ∀ t a, t < 38 → t ≠ 7 → σ' t a = σ t a := fun t a q r => funext fun x => e t a x q r
  unfold RCa KPc KSc KRc PK PM sH sT sBst sBrk at h ⊢
  rw [E 6 0 (by omega) (by omega), E 4 0 (by omega) (by omega), E 4 1 (by omega) (by omega), E 27 0 (by omega) (by omega), E 27 1 (by omega) (by omega), E 8 0 (by omega) (by omega), E 10 0 (by omega) (by omega), E 11 0 (by omega) (by omega), E 12 0 (by omega) (by omega), E 13 0 (by omega) (by omega), E 14 0 (by omega) (by omega), E 15 0 (by omega) (by omega), E 16 0 (by omega) (by omega), E 17 0 (by omega) (by omega), E 21 0 (by omega) (by omega), E 22 0 (by omega) (by omega), E 37 0 (by omega) (by omega), E 3 0 (by omega) (by omega), E 1 0 (by omega) (by omega)]
  exact h
/-- the reference's own places change -/
theorem REL_rf {σ σ' : Mem} (h : REL σ) (e : ∀ t a x, t < 43 → (t = 7 → x = 2 ∨ x = 6) → σ' t a x = σ t a x) : REL σ' := REL_fr h (fun t a x q => e t a x (by unfold hrd at q; omega) (by unfold hrd at q; omega)) (RCa_lo (fun t a x q r => e t a x (by omega) (fun z => absurd z r)) h.2.2.2.2)
theorem KSc_cg {σ σ' : Mem} (h : KSc σ) (hw : ∀ t, t = 8 ∨ t = 10 ∨ t = 11 ∨ t = 12 ∨ t = 13 ∨ t = 14 → σ' t 0 = σ t 0) (h4 : ∀ x, x = 1 ∨ x = 2 → σ' 4 0 x = σ 4 0 x) (h27 : σ' 27 0 = σ 27 0) : KSc σ' := by
  unfold KSc sBst at h ⊢
  rw [hw 8 (by omega), hw 10 (by omega), hw 11 (by omega), hw 12 (by omega), hw 13 (by omega), hw 14 (by omega), h4 1 (by omega), h4 2 (by omega), h27]
  exact h
theorem KRc_cg {σ σ' : Mem} (h : KRc σ) (hw : ∀ t, t = 8 ∨ t = 10 ∨ t = 11 ∨ t = 12 ∨ t = 13 ∨ t = 14 → σ' t 0 = σ t 0) (h4 : ∀ x, x = 1 ∨ x = 2 → σ' 4 1 x = σ 4 1 x) (h6 : ∀ x, 13 ≤ x → σ' 6 0 x = σ 6 0 x) (h27 : σ' 27 1 = σ 27 1) : KRc σ' := by
  unfold KRc sBrk at h ⊢
  rw [hw 8 (by omega), hw 10 (by omega), hw 11 (by omega), hw 12 (by omega), hw 13 (by omega), hw 14 (by omega), h4 1 (by omega), h4 2 (by omega), h27, h6 13 (by omega), h6 14 (by omega), h6 15 (by omega)]
  exact h
theorem KPc_cg {σ σ' : Mem} (h : KPc σ) (hw : ∀ t, t = 8 ∨ t = 10 ∨ t = 11 ∨ t = 12 ∨ t = 13 ∨ t = 14 ∨ t = 15 ∨ t = 16 ∨ t = 17 ∨ t = 21 ∨ t = 22 ∨ t = 37 → σ' t 0 = σ t 0) (h8 : σ' 1 0 8 = σ 1 0 8) (h3 : σ' 3 0 1 = σ 3 0 1) (h6 : σ' 6 0 8 = σ 6 0 8) (h9 : σ' 6 0 9 = σ 6 0 9) : KPc σ' := by
  rcases h with q | ⟨q, r⟩
  · exact Or.inl (by rw [h6]; exact q)
  · refine Or.inr ⟨by rw [h6]; exact q, ?_⟩
    rcases r with ⟨r, s⟩ | ⟨r, s⟩
    · exact Or.inl ⟨by rw [h9]; exact r, PK_cg hw h8 h3 s⟩
    · exact Or.inr ⟨by rw [h9]; exact r, fun h z => s h ((sH_cg (fun t q => hw t (by omega))).mp z)⟩
/-- behind knowPlan -/
theorem REL_kn {σ σ1 : Mem} (h : REL σ) (hF : FrG pKn σ σ1) (hK : KPc σ1) : REL σ1 := REL_fr h (fun t a x q => hF t a x (by unfold hrd at q; unfold pKn pPa; omega)) ⟨hK, KSc_cg h.2.2.2.2.2.1 (fun t q => pKn_f hF t 0 (by omega)) (fun x q => by rw [pKn_f hF 4 0 (by omega)]) (pKn_f hF 27 0 (by omega)), KRc_kn hF h.2.2.2.2.2.2⟩
theorem REL.w {σ : Mem} (h : REL σ) : sWF σ 0 := h.1.1
theorem REL.ag {σ : Mem} (h : REL σ) : AG (σ 5 0 0) (σ 38 0 0) (σ 10 0) (rSt σ) (σ 11 0) (rMc σ) (σ 12 0) (rDu σ) (σ 8 0) (rRe σ) (σ 13 0) (rLn σ) (σ 14 0) (rQ σ) := h.1.2.1
theorem SIM_r {σ : Mem} (h : SIM σ 0 (σ 38 0)) : rWF σ := by
  obtain ⟨w, ag, d⟩ := h
  refine ⟨ag.wf w.1, fun j a b => ?_⟩
  have b2 : j < σ 5 0 0 := by rw [ag.1]; exact b
  have e := d j a b2
  have r := w.2 j a b2
  rw [e.1, e.2] at r
  exact r
theorem REL.r {σ : Mem} (h : REL σ) : rWF σ := SIM_r h.1
