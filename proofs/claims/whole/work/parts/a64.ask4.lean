/-! what is asked, both sides: 4; what a text says hangs on its characters alone -/
theorem nx_cg {tx tx' : Int → Int} {n : Int} (h : ∀ x, x < n → tx x = tx' x) : nx tx n = nx tx' n := by
  funext a
  unfold nx
  by_cases c : a < n
  · rw [if_pos c, if_pos c, h a c]
  · rw [if_neg c, if_neg c]
theorem dg_cg {tx tx' : Int → Int} {n : Int} (h : nx tx n = nx tx' n) : dg tx n = dg tx' n := by
  funext a
  unfold dg
  rw [h]
theorem nl_cg {tx tx' : Int → Int} {n : Int} (h : nx tx n = nx tx' n) (hi : Int) : ∀ (f : Nat) (v a : Int), nl tx n hi f v a = nl tx' n hi f v a := by
  intro f
  induction f with
  | zero => intro v a; rfl
  | succ f ih =>
    intro v a
    unfold nl
    rw [dg_cg h, ih]
theorem numS_cg {tx tx' : Int → Int} {n : Int} (h : nx tx n = nx tx' n) (lo hi a : Int) : numS tx n lo hi a = numS tx' n lo hi a := by
  unfold numS
  rw [dg_cg h, nl_cg h]
theorem op1_cg {tx tx' : Int → Int} {n : Int} (h : nx tx n = nx tx' n) (R : Int → Int) (c b : Int) : op1 tx n R c b = op1 tx' n R c b := by
  unfold op1
  rw [dg_cg h, h, numS_cg h]
theorem opsS_cg {tx tx' : Int → Int} {n : Int} (h : nx tx n = nx tx' n) : ∀ (f : Nat) (c a : Int) (R : Int → Int), opsS tx n f c a R = opsS tx' n f c a R := by
  intro f
  induction f with
  | zero => intro c a R; rfl
  | succ f ih =>
    intro c a R
    unfold opsS
    rw [op1_cg h, h, ih]
theorem jobS_cg {tx tx' : Int → Int} {n : Int} (h : nx tx n = nx tx' n) (a : Int) : jobS tx n a = jobS tx' n a := by
  unfold jobS
  simp only [numS_cg h, h, opsS_cg h]
theorem rtsS_cg {tx tx' : Int → Int} {n : Int} (h : nx tx n = nx tx' n) : ∀ (f : Nat) (j a : Int) (Rs : Int → Int), rtsS tx n f j a Rs = rtsS tx' n f j a Rs := by
  intro f
  induction f with
  | zero => intro j a Rs; rfl
  | succ f ih =>
    intro j a Rs
    unfold rtsS
    rw [jobS_cg h, h, ih]
theorem rts_cg {tx tx' : Int → Int} {n : Int} (h : nx tx n = nx tx' n) : rts0 tx n = rts0 tx' n ∧ rtsF tx n = rtsF tx' n := by
  have e : rts0 tx n = rts0 tx' n := rtsS_cg h 4 0 0 _
  refine ⟨e, ?_⟩
  rw [rtsF_0, rtsF_0, e]
theorem jbS_cg {tx tx' : Int → Int} {n : Int} (h : nx tx n = nx tx' n) (m : Int) : ∀ (f : Nat) (c a : Int) (q : Int → Int), jbS tx n m f c a q = jbS tx' n m f c a q := by
  intro f
  induction f with
  | zero => intro c a q; rfl
  | succ f ih =>
    intro c a q
    unfold jbS
    rw [dg_cg h, ih]
theorem ordS_cg {tx tx' : Int → Int} {n : Int} (h : nx tx n = nx tx' n) (ln q : Int → Int) (a : Int) : ordS tx n ln q a = ordS tx' n ln q a := by
  unfold ordS
  simp only [dg_cg h, h, jbS_cg h]
theorem plnS_cg {tx tx' : Int → Int} {n : Int} (h : nx tx n = nx tx' n) : ∀ (f : Nat) (j a : Int) (ln q : Int → Int), plnS tx n f j a ln q = plnS tx' n f j a ln q := by
  intro f
  induction f with
  | zero => intro j a ln q; rfl
  | succ f ih =>
    intro j a ln q
    unfold plnS
    rw [ordS_cg h, h, ih]
theorem pln_cg {tx tx' : Int → Int} {n : Int} (h : nx tx n = nx tx' n) : pln0 tx n = pln0 tx' n ∧ plnF tx n = plnF tx' n := by
  have e : pln0 tx n = pln0 tx' n := plnS_cg h 4 0 0 _ _
  refine ⟨e, ?_⟩
  unfold plnF
  rw [e]
/-- both texts say the same -/
theorem REL_tx {σ : Mem} (h : REL σ) : cL σ = xL σ ∧ nx (cT σ) (cL σ) = nx (xT σ) (xL σ) ∧ rts0 (cT σ) (cL σ) = rts0 (xT σ) (xL σ) ∧ rtsF (cT σ) (cL σ) = rtsF (xT σ) (xL σ) ∧ pln0 (cT σ) (cL σ) = pln0 (xT σ) (xL σ) ∧ plnF (cT σ) (cL σ) = plnF (xT σ) (xL σ) := by
  have e : cL σ = xL σ := h.2.2.2.1.1
  have q : nx (cT σ) (cL σ) = nx (xT σ) (cL σ) := nx_cg (h.2.2.2.1.2.2.2)
  rw [← e]
  exact ⟨rfl, q, (rts_cg q).1, (rts_cg q).2, (pln_cg q).1, (pln_cg q).2⟩
theorem RCa_g {σ σ1 : Mem} (h : RCa σ) (hF : ∀ t a x, t = 1 ∨ t = 3 ∨ t = 4 ∨ t = 6 ∨ (8 ≤ t ∧ t ≤ 17) ∨ t = 21 ∨ t = 22 ∨ t = 27 ∨ t = 37 → a = 0 ∨ ((t = 4 ∨ t = 27) ∧ a = 1) → σ1 t a x = σ t a x) : RCa σ1 := ⟨KPc_cg h.1 (fun t q => funext fun x => hF t 0 x (by omega) (by omega)) (hF 1 0 8 (by omega) (by omega)) (hF 3 0 1 (by omega) (by omega)) (hF 6 0 8 (by omega) (by omega)) (hF 6 0 9 (by omega) (by omega)), KSc_cg h.2.1 (fun t q => funext fun x => hF t 0 x (by omega) (by omega)) (fun x q => hF 4 0 x (by omega) (by omega)) (funext fun x => hF 27 0 x (by omega) (by omega)), KRc_cg h.2.2 (fun t q => funext fun x => hF t 0 x (by omega) (by omega)) (fun x q => hF 4 1 x (by omega) (by omega)) (fun x q => hF 6 0 x (by omega) (by omega)) (funext fun x => hF 27 1 x (by omega) (by omega))⟩
/-- the pad changes, on both sides alike -/
theorem REL_pd {σ σ' : Mem} (h : REL σ) (E : ∀ t a x, t ≠ 2 → t ≠ 36 → t ≠ 42 → ¬ (t = 7 ∧ x ≠ 2) → σ' t a x = σ t a x) (hp : RPd σ') : REL σ' := by
  obtain ⟨h1, ⟨h2, h3, h4⟩, h5, -, hc⟩ := h
  have E1 : ∀ t a, t ≠ 2 → t ≠ 7 → t ≠ 36 → t ≠ 42 → σ' t a = σ t a := fun t a q r u v => funext fun x => E t a x q u v (by omega)
  have e2 : σ' 7 0 2 = σ 7 0 2 := E 7 0 2 (by omega) (by omega) (by omega) (by omega)
  have S : ∀ i f, SIM σ i f → SIM σ' i f := fun i f z => SIM_m z (fun t j q => E t i j (by omega) (by omega) (by omega) (by omega)) (fun _ _ _ => rfl)
  refine ⟨?_, ⟨?_, ?_, fun d a b => ?_⟩, fun s a b => ⟨?_, fun q => ?_⟩, hp, RCa_g hc (fun t a x q r => E t a x (by omega) (by omega) (by omega) (by omega))⟩
  · rw [E1 38 0 (by omega) (by omega) (by omega) (by omega)]
    exact S _ _ h1
  · unfold hsB
    rw [E1 0 0 (by omega) (by omega) (by omega) (by omega)]
    exact h2
  · rw [E1 0 0 (by omega) (by omega) (by omega) (by omega), e2]
    exact h3
  · rw [e2] at b
    rw [E1 0 0 (by omega) (by omega) (by omega) (by omega), e2, E1 39 0 (by omega) (by omega) (by omega) (by omega)]
    exact S _ _ (h4 d a b)
  · rw [E1 35 0 (by omega) (by omega) (by omega) (by omega), E1 41 0 (by omega) (by omega) (by omega) (by omega)]
    exact (h5 s a b).1
  · rw [E1 35 0 (by omega) (by omega) (by omega) (by omega)] at q
    rw [E1 40 0 (by omega) (by omega) (by omega) (by omega)]
    exact S _ _ ((h5 s a b).2 q)
/-- both pads are wiped -/
theorem RPd_0 {σ : Mem} (h1 : σ 2 0 1 = 0) (h2 : σ 7 0 6 = 0) (h3 : ∀ x, x < 0 → σ 36 0 x = σ 42 0 x) : RPd σ := ⟨by omega, by omega, by omega, fun x q => h3 x (by omega)⟩
theorem REL_Rd {σ σ1 : Mem} (h : REL σ) (hF : FrG (pRd 1) σ σ1) : REL σ1 := REL_fr h (fun t a x q => hF t a x (by unfold hrd at q; unfold pRd pPd; omega)) (RCa_g h.2.2.2.2 (fun t a x q r => hF t a x (by unfold pRd pPd; omega)))
theorem REL_Pl {σ σ1 : Mem} (h : REL σ) (hF : FrG (pPl 1) σ σ1) : REL σ1 := REL_fr h (fun t a x q => hF t a x (by unfold hrd at q; unfold pPl; omega)) (RCa_g h.2.2.2.2 (fun t a x q r => hF t a x (by unfold pPl; omega)))
theorem rf_Rt {σ σ' : Mem} (h : REL σ) (hF : FrG pRt σ σ') : REL σ' := REL_rf h (fun t a x q r => hF t a x (by unfold pRt; omega))
theorem q_fault {σ : Mem} (h : REL σ) (w : Int) {K : Option Int → Option Int → Mem → Prop} (hK : ∀ r σ', REL σ' → K (some r) (some r) σ') : T_X6_fault [.inr (.inl (6, 0)), .inl w] σ (fun r σ1 => T_X7_fault [.inr (.inl (7, 0)), .inl w] σ1 (fun r2 σ2 => K r r2 σ2)) := by
  unfold T_X6_fault T_X7_fault
  dsimp only
  have B : ∀ σ, REL σ → 0 ≤ xL σ ∧ xL σ ≤ 80 := fun σ h => by
    rw [← (REL_tx h).1]
    exact ⟨h.2.2.2.1.2.1, h.2.2.2.1.2.2.1⟩
  refine ⟨⟨h.2.2.2.1.2.1, h.2.2.2.1.2.2.1⟩, fun a σ1 hE => ?_, fun a σ1 hE => ?_, fun a b => ?_⟩
  · have R := REL_Rd h hE.1
    have c := pRd_c hE.1
    refine ⟨B σ1 R, fun _ σ2 hE2 => ?_, fun z => by omega, fun z => by omega⟩
    rw [← c.1, ← c.2, (REL_tx R).2.2.2.1]
    exact hK _ _ (rf_Rt R hE2.1)
  · have R := REL_Pl h hE.1
    have c := pPl_c hE.1
    refine ⟨B σ1 R, fun z => by omega, fun _ σ2 hE2 => ?_, fun _ z => by omega⟩
    rw [← c.1, ← c.2, (REL_tx R).2.2.2.2.2]
    exact hK _ _ (rf_Rt R hE2.1)
  · exact ⟨B σ h, fun z => by omega, fun z => by omega, fun _ _ => hK _ _ h⟩
theorem q_wipe {σ : Mem} (h : REL σ) {K : Option Int → Option Int → Mem → Prop} (hK : ∀ r σ', REL σ' → K (some r) (some r) σ') : T_X6_wipe [.inr (.inl (6, 0))] σ (fun r σ1 => T_X7_wipe [.inr (.inl (7, 0))] σ1 (fun r2 σ2 => K r r2 σ2)) := by
  unfold T_X6_wipe T_X7_wipe
  dsimp only
  have e : up σ 2 0 1 0 7 0 6 = σ 2 0 1 := by
    rw [up_ap, if_neg (by rintro ⟨q, -⟩; omega)]
    exact h.2.2.2.1.1.symm
  rw [e]
  refine hK _ _ (REL_pd h (fun t a x q r u v => ?_) (RPd_0 ?_ ?_ (fun x q => ?_)))
  · rw [up_ap, if_neg (by omega), up_ap, if_neg (by omega)]
  · rw [up_ap, if_neg (by rintro ⟨z, -⟩; omega), up_ap, if_pos ⟨rfl, rfl, rfl⟩]
  · rw [up_ap, if_pos ⟨rfl, rfl, rfl⟩]
  · rw [up_ap, if_neg (by rintro ⟨z, -⟩; omega), up_ap, if_neg (by rintro ⟨z, -⟩; omega), up_ap, if_neg (by rintro ⟨z, -⟩; omega), up_ap, if_neg (by rintro ⟨z, -⟩; omega)]
    have := h.2.2.2.1.2.1
    exact h.2.2.2.1.2.2.2 x (by omega)
theorem q_put {σ : Mem} (h : REL σ) (x : Int64) {K : Option Int → Option Int → Mem → Prop} (hK : ∀ r σ', REL σ' → K (some r) (some r) σ') : T_X6_put [.inr (.inl (6, 0)), .inr (.inr x)] σ (fun r σ1 => T_X7_put [.inr (.inl (7, 0)), .inr (.inr x)] σ1 (fun r2 σ2 => K r r2 σ2)) := by
  unfold T_X6_put T_X7_put
  dsimp only
  obtain ⟨p1, p2, p3, p4⟩ := h.2.2.2.1
  refine ⟨⟨p2, p3⟩, fun a => ⟨⟨by omega, by omega⟩, fun _ => hK _ _ h, fun _ z => absurd a z, fun z => absurd a z⟩, fun a b => ⟨⟨by omega, by omega⟩, fun z => absurd z b, fun _ _ => hK _ _ h, fun _ z => by omega⟩, fun a b σ1 hP => ?_⟩
  obtain ⟨c1, c2, c3⟩ := hP
  have e6 : σ1 7 0 6 = σ 7 0 6 := c1 7 0 6 (by omega)
  rw [e6, ← p1]
  refine ⟨⟨p2, p3⟩, fun z => absurd z a, fun z _ => by omega, fun _ _ σ2 hR => ?_⟩
  obtain ⟨d1, d3⟩ := hR
  rw [e6, ← p1] at d1 d3
  have E1 : ∀ (t a : Nat) (y : Int), t ≠ 36 → t ≠ 42 → t ≠ 2 → ¬ (t = 7 ∧ y = 6) → up σ2 7 0 6 (σ 2 0 1 + sgS 8 x 0) t a y = σ t a y := fun t a y q r u v => by
    rw [up_ap, if_neg (by omega), d1 t a y (by omega), c1 t a y (by omega)]
  refine hK _ _ (REL_pd h (fun t a y q r u v => E1 t a y r u q (by omega)) ?_)
  have f2 : up σ2 7 0 6 (σ 2 0 1 + sgS 8 x 0) 2 0 1 = σ 2 0 1 + sgS 8 x 0 := by
    rw [up_ap, if_neg (by rintro ⟨z, -⟩; omega), d1 2 0 1 (by omega), c2]
  have f36 : ∀ y, up σ2 7 0 6 (σ 2 0 1 + sgS 8 x 0) 36 0 y = σ1 36 0 y := fun y => by
    rw [up_ap, if_neg (by rintro ⟨z, -⟩; omega), d1 36 0 y (by omega)]
  have f42 : ∀ y, up σ2 7 0 6 (σ 2 0 1 + sgS 8 x 0) 42 0 y = σ2 42 0 y := fun y => by
    rw [up_ap, if_neg (by rintro ⟨z, -⟩; omega)]
  have s0 : 0 ≤ sgS 8 x 0 := by
    rcases sgS_r 8 x 0 (by omega) with z | z
    · exact absurd z a
    · exact z.1
  refine ⟨?_, ?_, ?_, fun y q => ?_⟩
  · rw [f2, up_ap, if_pos ⟨rfl, rfl, rfl⟩]
  · rw [f2]
    omega
  · rw [f2]
    exact b
  · rw [f2] at q
    rw [f36, f42]
    by_cases z : σ 2 0 1 ≤ y
    · have e1 := c3 (y - σ 2 0 1) (by omega) (by omega)
      have e2 := d3 (y - σ 2 0 1) (by omega) (by omega)
      rw [show σ 2 0 1 + (y - σ 2 0 1) = y by omega] at e1 e2
      rw [e1, e2]
    · rw [c1 36 0 y (by omega), d1 42 0 y (by omega), c1 42 0 y (by omega)]
      exact p4 y (by omega)
