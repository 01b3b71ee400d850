/-! what changes, both sides: change, swap, undo, restore -/
theorem KEE_t {σ σ' : Mem} (h : KEE σ σ') (t a : Nat) (x : Int) (ht : t < 39 ∧ t ≠ 7 ∨ 39 < t) : σ' t a x = σ t a x := KEE_e h t a x (by omega) (by omega)
theorem pmB_r {σ : Mem} (h : REL σ) : pmB σ := by
  obtain ⟨⟨n0, n1, m0, m1⟩, h3, -⟩ := h.2.1
  unfold pmB
  omega
theorem SIM_k {σ : Mem} {i : Nat} {f : Int → Int} (w : WF (σ 5 i 0) (σ 10 i) (σ 11 i) (σ 12 i) (σ 13 i) (σ 14 i)) (b : ∀ j, 0 ≤ j → j < σ 5 i 0 → 0 ≤ σ 8 i j ∧ σ 8 i j ≤ 50 ∧ 0 ≤ σ 9 i j ∧ σ 9 i j ≤ 200) (e0 : σ 5 i 0 = f 0) (e1 : ∀ j, 0 ≤ j → j < 4 → σ 10 i j = f (1 + 3 * j + 2)) (e2 : ∀ o, vOp (σ 10 i) o → σ 11 i o = f (13 + 2 * o) ∧ σ 12 i o = f (14 + 2 * o) ∧ σ 8 i (o / 4) = f (1 + 3 * (o / 4))) (e3 : ∀ m, 0 ≤ m → m < 4 → σ 13 i m = f (45 + m)) (e4 : ∀ m k, 0 ≤ m → m < 4 → 0 ≤ k → k < σ 13 i m → σ 14 i (4 * m + k) = f (49 + (4 * m + k))) (e5 : ∀ j, 0 ≤ j → j < σ 5 i 0 → σ 8 i j = f (1 + 3 * j) ∧ σ 9 i j = f (1 + 3 * j + 1)) : SIM σ i f := ⟨⟨w, b⟩, ⟨e0, e1, e2, e3, e4⟩, e5⟩
theorem SIM_d {σ : Mem} {i : Nat} {f : Int → Int} (h : SIM σ i f) : σ 5 i 0 = f 0 ∧ (∀ j, 0 ≤ j → j < 4 → σ 10 i j = f (1 + 3 * j + 2)) ∧ (∀ o, vOp (σ 10 i) o → σ 11 i o = f (13 + 2 * o) ∧ σ 12 i o = f (14 + 2 * o) ∧ σ 8 i (o / 4) = f (1 + 3 * (o / 4))) ∧ (∀ m, 0 ≤ m → m < 4 → σ 13 i m = f (45 + m)) ∧ (∀ m k, 0 ≤ m → m < 4 → 0 ≤ k → k < σ 13 i m → σ 14 i (4 * m + k) = f (49 + (4 * m + k))) ∧ (∀ j, 0 ≤ j → j < σ 5 i 0 → σ 8 i j = f (1 + 3 * j) ∧ σ 9 i j = f (1 + 3 * j + 1)) := ⟨h.2.1.1, h.2.1.2.1, h.2.1.2.2.1, h.2.1.2.2.2.1, h.2.1.2.2.2.2, h.2.2⟩
theorem SIM_ex {σ σ' : Mem} {m x : Int} (h : SIM σ 0 (σ 38 0)) (m0 : 0 ≤ m) (m1 : m < 4) (x0 : 0 ≤ x) (x1 : x + 1 < σ 13 0 m) (hc : ∀ (t : Nat) (y : Int), t = 5 ∨ (8 ≤ t ∧ t ≤ 14) → σ' t 0 y = if t = 14 then exQ (σ 14 0) (4 * m + x) y else σ t 0 y) (hr : ∀ y, σ' 38 0 y = exQ (σ 38 0) (49 + 4 * m + x) y) : SIM σ' 0 (σ' 38 0) := by
  obtain ⟨g0, g1, g2, g3, g4, g5⟩ := SIM_d h
  have w := h.1
  have l4 := (w.1.2.2.2.2.1 m m0 m1).2
  have C : ∀ t, t = 5 ∨ (8 ≤ t ∧ t ≤ 13) → σ' t 0 = σ t 0 := fun t q => funext fun y => by rw [hc t y (by omega), if_neg (by omega)]
  have C14 : σ' 14 0 = exQ (σ 14 0) (4 * m + x) := funext fun y => by rw [hc 14 y (by omega), if_pos rfl]
  have R : ∀ y, y < 49 → σ' 38 0 y = σ 38 0 y := fun y q => by
    rw [hr]
    unfold exQ
    rw [if_neg (by omega), if_neg (by omega)]
  refine SIM_k ?_ (fun j a b => ?_) ?_ (fun j a b => ?_) (fun o v => ?_) (fun m' a b => ?_) (fun m' k a b c e => ?_) (fun j a b => ?_)
  · rw [C 5 (by omega), C 10 (by omega), C 11 (by omega), C 12 (by omega), C 13 (by omega), C14]
    exact WF_ex w.1 m0 m1 x0 x1
  · rw [C 5 (by omega)] at b
    rw [C 8 (by omega), C 9 (by omega)]
    exact w.2 j a b
  · rw [C 5 (by omega), R 0 (by omega)]
    exact g0
  · rw [C 10 (by omega), R _ (by omega)]
    exact g1 j a b
  · rw [C 10 (by omega)] at v
    have v0 := v.1
    have v1 := v.2.1
    rw [C 11 (by omega), C 12 (by omega), C 8 (by omega), R _ (by omega), R _ (by omega), R _ (by omega)]
    exact g2 o v
  · rw [C 13 (by omega), R _ (by omega)]
    exact g3 m' a b
  · rw [C 13 (by omega)] at e
    have l4' := (w.1.2.2.2.2.1 m' a b).2
    have q0 := g4 m' k a b c e
    have q1 := g4 m x m0 m1 x0 (by omega)
    have q2 := g4 m (x + 1) m0 m1 (by omega) x1
    rw [C14, hr]
    unfold exQ
    by_cases y1 : 4 * m' + k = 4 * m + x + 1
    · rw [if_pos y1, if_pos (show 49 + (4 * m' + k) = 49 + 4 * m + x + 1 by omega), q1, show 49 + (4 * m + x) = 49 + 4 * m + x by omega]
    · rw [if_neg y1, if_neg (show ¬ (49 + (4 * m' + k) = 49 + 4 * m + x + 1) by omega)]
      by_cases y2 : 4 * m' + k = 4 * m + x
      · rw [if_pos y2, if_pos (show 49 + (4 * m' + k) = 49 + 4 * m + x by omega), show 4 * m + x + 1 = 4 * m + (x + 1) by omega, q2, show 49 + (4 * m + (x + 1)) = 49 + 4 * m + x + 1 by omega]
      · rw [if_neg y2, if_neg (show ¬ (49 + (4 * m' + k) = 49 + 4 * m + x) by omega)]
        exact q0
  · rw [C 5 (by omega)] at b
    have j4 := w.1.1.2
    rw [C 8 (by omega), C 9 (by omega), R _ (by omega), R _ (by omega)]
    exact g5 j a b
theorem q_change {σ : Mem} (h : REL σ) (x d : Int) {K : Option Int → Option Int → Mem → Prop} (hK : ∀ r σ', REL σ' → K (some r) (some r) σ') : T_X6_change [.inr (.inl (6, 0)), .inl x, .inl d] σ (fun r σ1 => T_X7_change [.inr (.inl (7, 0)), .inl x, .inl d] σ1 (fun r2 σ2 => K r r2 σ2)) := by
  unfold T_X6_change T_X7_change
  dsimp only
  have V := h.ag.V x
  have pm := pmB_r h
  refine ⟨⟨h.w, h.2.1.1⟩, fun a => ⟨⟨h.r, pm⟩, fun _ => hK _ _ h, fun z => absurd (V.mp z) a, fun z => absurd (V.mp z) a⟩, fun a b => ⟨⟨h.r, pm⟩, fun z => absurd (V.mpr a) z, fun _ _ => hK _ _ h, fun _ z => absurd z b⟩, fun a b σ1 hR => ?_⟩
  have v0 := a.1
  have v1 := a.2.1
  have c : ∀ (t : Nat) (y : Int), t ≠ 0 → ¬ (t = 6 ∧ y = 8) → ¬ (t = 4 ∧ y = 1) → up σ1 12 0 x d t 0 y = if t = 12 ∧ y = x then d else σ t 0 y := fun t y q r s => by
    rw [up_ap]
    by_cases z : t = 12 ∧ y = x
    · rw [if_pos ⟨z.1, rfl, z.2⟩, if_pos z]
    · rw [if_neg (by omega), if_neg z]
      exact Rec_x hR t y ⟨q, r, s⟩
  have e38 : up σ1 12 0 x d 38 0 = σ 38 0 := funext fun y => by rw [c 38 y (by omega) (by omega) (by omega), if_neg (by omega)]
  have R38 := r38 e38
  have e7 : up σ1 12 0 x d 7 0 2 = σ 7 0 2 := by rw [c 7 2 (by omega) (by omega) (by omega), if_neg (by omega)]
  refine ⟨⟨R38.2.2.2.2.2.2.2.1.mpr h.r, by unfold pmB at pm ⊢; rw [e7]; exact pm⟩, fun z => ?_, fun z y => absurd b y, fun z y σ3 hE => ?_⟩
  · unfold rOp at z
    rw [R38.1] at z
    exact absurd (V.mpr a) z
  · rw [R38.2.2.1, (h.ag.2.2.1 x a).2.1]
    refine hK _ _ ?_
    have c3 : ∀ (t : Nat) (y : Int), t < 39 ∧ t ≠ 7 ∨ 39 < t → up σ3 38 0 (14 + 2 * x) d t 0 y = if t = 38 ∧ y = 14 + 2 * x then d else up σ1 12 0 x d t 0 y := fun t y q => by
      rw [up_ap]
      by_cases w : t = 38 ∧ y = 14 + 2 * x
      · rw [if_pos ⟨w.1, rfl, w.2⟩, if_pos w]
      · rw [if_neg (by omega), if_neg w]
        exact KEE_t hE t 0 y q
    have C : ∀ t, t = 5 ∨ (8 ≤ t ∧ t ≤ 14 ∧ t ≠ 12) → up σ3 38 0 (14 + 2 * x) d t 0 = σ t 0 := fun t q => funext fun y => by
      rw [c3 t y (by omega), if_neg (by omega), c t y (by omega) (by omega) (by omega), if_neg (by omega)]
    have C12 : ∀ y, up σ3 38 0 (14 + 2 * x) d 12 0 y = if y = x then d else σ 12 0 y := fun y => by
      rw [c3 12 y (by omega), if_neg (by omega), c 12 y (by omega) (by omega) (by omega)]
      by_cases w : y = x
      · rw [if_pos ⟨rfl, w⟩, if_pos w]
      · rw [if_neg (by omega), if_neg w]
    have Rr : ∀ y, up σ3 38 0 (14 + 2 * x) d 38 0 y = if y = 14 + 2 * x then d else σ 38 0 y := fun y => by
      rw [c3 38 y (by omega), c 38 y (by omega) (by omega) (by omega), if_neg (by omega : ¬ (38 = 12 ∧ y = x))]
      by_cases w : y = 14 + 2 * x
      · rw [if_pos ⟨rfl, w⟩, if_pos w]
      · rw [if_neg (by omega), if_neg w]
    have w := h.w
    obtain ⟨g0, g1, g2, g3, g4, g5⟩ := SIM_d h.1
    have r0 := Rec_0 hR
    refine REL_ch h hR (fun t k j q r s => by rw [up_ap, if_neg (by omega)]) (RCa_0 ?_ ?_ ?_) hE (fun t k j q r s u => by rw [up_ap, if_neg (by omega)]) (SIM_k ?_ (fun j p q => ?_) ?_ (fun j p q => ?_) (fun o v => ?_) (fun m p q => ?_) (fun m k p q r s => ?_) (fun j p q => ?_)) (RPd_e h.2.2.2.1 (fun t y q => ?_))
    · rw [c3 6 8 (by omega), if_neg (by omega), up_ap, if_neg (by omega)]
      exact r0.1
    · rw [c3 4 1 (by omega), if_neg (by omega), up_ap, if_neg (by omega)]
      exact r0.2.1
    · rw [up_ap, if_neg (by omega), KEE_t hE 4 1 1 (by omega), up_ap, if_neg (by omega)]
      exact r0.2.2
    · rw [C 5 (by omega), C 10 (by omega), C 11 (by omega), C 13 (by omega), C 14 (by omega)]
      refine ⟨w.1.1, w.1.2.1, fun o v => ?_, w.1.2.2.2⟩
      have := w.1.2.2.1 o v
      rw [C12]
      split
      · exact ⟨this.1, this.2.1, b.1, b.2⟩
      · exact this
    · rw [C 5 (by omega)] at q
      rw [C 8 (by omega), C 9 (by omega)]
      exact w.2 j p q
    · rw [C 5 (by omega), Rr, if_neg (by omega)]
      exact g0
    · rw [C 10 (by omega), Rr, if_neg (by omega)]
      exact g1 j p q
    · rw [C 10 (by omega)] at v
      have v0 := v.1
      have v1 := v.2.1
      have e := g2 o v
      rw [C 11 (by omega), C 8 (by omega), C12, Rr, Rr, Rr, if_neg (by omega), if_neg (by omega : ¬ (1 + 3 * (o / 4) = 14 + 2 * x))]
      refine ⟨e.1, ?_, e.2.2⟩
      by_cases z : o = x
      · rw [if_pos z, if_pos (by omega)]
      · rw [if_neg z, if_neg (by omega)]
        exact e.2.1
    · rw [C 13 (by omega), Rr, if_neg (by omega)]
      exact g3 m p q
    · rw [C 13 (by omega)] at s
      rw [C 14 (by omega), Rr, if_neg (by omega)]
      exact g4 m k p q r s
    · rw [C 5 (by omega)] at q
      have j4 := w.1.1.2
      rw [C 8 (by omega), C 9 (by omega), Rr, Rr, if_neg (by omega), if_neg (by omega)]
      exact g5 j p q
    · rw [up_ap, if_neg (by omega), KEE_e hE t 0 y (by omega) (by omega), c t y (by omega) (by omega) (by omega), if_neg (by omega)]
/-- behind knowPlan, and behind what the reference finds -/
def pKX (t a : Nat) (x : Int) : Prop := pKn t a x ∨ 43 ≤ t ∨ (t = 7 ∧ x ≠ 2 ∧ x ≠ 6)
/-- an exchange on each side -/
theorem REL_ex {σ σ1 σ2 σ3 σ4 σ5 : Mem} {m x : Int} (h : REL σ) (hR : RecE σ σ1) (m0 : 0 ≤ m) (m1 : m < 4) (x0 : 0 ≤ x) (x1 : x + 1 < σ 13 0 m) (h2 : σ2 = up (up σ1 14 0 (4 * m + x) (σ1 14 0 (4 * m + x + 1))) 14 0 (4 * m + x + 1) (σ1 14 0 (4 * m + x))) (hF : FrG pKX σ2 σ3) (hP : KPc σ3) (hE : KEE σ3 σ4) (h5 : σ5 = up (up σ4 38 0 (49 + 4 * m + x) (σ4 38 0 (49 + 4 * m + x + 1))) 38 0 (49 + 4 * m + x + 1) (σ4 38 0 (49 + 4 * m + x))) : REL σ5 ∧ (∀ t a, t < 38 → t ≠ 7 → σ5 t a = σ3 t a) := by
  have e2 : ∀ t a y, ¬ (t = 14 ∧ a = 0) → σ2 t a y = σ1 t a y := fun t a y q => by rw [h2, up_ap, if_neg (by omega), up_ap, if_neg (by omega)]
  have e3 : ∀ t a, (t < 15 ∧ t ≠ 1 ∧ t ≠ 3 ∧ t ≠ 6 ∧ t ≠ 7) ∨ (25 < t ∧ t ≠ 37 ∧ t < 43) → σ3 t a = σ2 t a := fun t a q => hF.f t a (by unfold pKX pKn pPa; intro x z; omega)
  have e5 : ∀ t a y, ¬ (t = 38 ∧ a = 0) → σ5 t a y = σ4 t a y := fun t a y q => by rw [h5, up_ap, if_neg (by omega), up_ap, if_neg (by omega)]
  have lo : ∀ t a, t < 38 → t ≠ 7 → σ5 t a = σ3 t a := fun t a q r => funext fun y => by rw [e5 t a y (by omega), KEE_t hE t a y (by omega)]
  have C : ∀ t, t = 5 ∨ (8 ≤ t ∧ t ≤ 13) → σ5 t 0 = σ t 0 := fun t q => funext fun y => by
    rw [lo t 0 (by omega) (by omega), e3 t 0 (by omega), e2 t 0 y (by omega), Rec_x hR t y (by omega)]
  have C14 : σ5 14 0 = exQ (σ 14 0) (4 * m + x) := by
    rw [lo 14 0 (by omega) (by omega), e3 14 0 (by omega), h2, up_up_ex, Rec_w hR 14 (by omega)]
  have e4 : σ4 38 0 = σ 38 0 := funext fun y => by
    rw [KEE_t hE 38 0 y (by omega), e3 38 0 (by omega), e2 38 0 y (by omega), Rec_x hR 38 y (by omega)]
  have C38 : σ5 38 0 = exQ (σ 38 0) (49 + 4 * m + x) := by rw [h5, up_up_38, e4]
  have r0 := Rec_0 hR
  have e4x : ∀ a, σ3 4 a = σ1 4 a := fun a => by
    rw [e3 4 a (by omega)]
    exact funext fun y => e2 4 a y (by omega)
  refine ⟨REL_ch h hR (fun t k j q r s => ?_) (RCa_lo (σ := σ3) (fun t a x q r => by rw [lo t a q r]) ⟨hP, Or.inl (by rw [e4x]; exact r0.2.1), Or.inl (by rw [e4x]; exact r0.2.2)⟩) hE (fun t k j q r s u => e5 t k j r) (SIM_ex h.1 m0 m1 x0 x1 (fun t y q => ?_) (fun y => by rw [C38])) (RPd_e h.2.2.2.1 (fun t y q => ?_)), lo⟩
  · rw [hF t k j (by unfold hrd at q; unfold pKX pKn pPa; omega), e2 t k j (by omega)]
  · by_cases z : t = 14
    · rw [if_pos z, z, C14]
    · rw [if_neg z, C t (by omega)]
  · rw [e5 t 0 y (by omega), KEE_e hE t 0 y (by omega) (by omega), hF t 0 y (by unfold pKX pKn pPa; omega), e2 t 0 y (by omega), Rec_x hR t y (by omega)]
theorem q_swap {σ : Mem} (h : REL σ) (m x : Int) {K : Option Int → Option Int → Mem → Prop} (hK : ∀ r σ', REL σ' → K (some r) (some r) σ') : T_X6_swap [.inr (.inl (6, 0)), .inl m, .inl x] σ (fun r σ1 => T_X7_swap [.inr (.inl (7, 0)), .inl m, .inl x] σ1 (fun r2 σ2 => K r r2 σ2)) := by
  unfold T_X6_swap T_X7_swap
  dsimp only
  have pm := pmB_r h
  have el : 0 ≤ m ∧ m ≤ 3 → σ 13 0 m = rLn σ m := fun a => h.ag.2.2.2.1 m a.1 (by omega)
  refine ⟨⟨h.w, h.2.1.1⟩, fun a => ⟨⟨h.r, pm⟩, fun _ => hK _ _ h, fun z => absurd z a, fun z => absurd z a⟩, fun a b => ⟨⟨h.r, pm⟩, fun z => absurd a z, fun _ _ => hK _ _ h, fun _ z => absurd z (by have := el a; omega)⟩, fun a b σ1 σ2 hR h2 hw2 => ⟨fun σ3 hF hP hPK => ?_, fun σ3 hF hP hN => ?_⟩⟩
  · have e38 : σ3 38 0 = σ 38 0 := funext fun y => by
      rw [pKn_f hF 38 0 (by omega), h2, up_ap, if_neg (by omega), up_ap, if_neg (by omega), Rec_x hR 38 y (by omega)]
    have e7 : σ3 7 0 2 = σ 7 0 2 := by
      rw [pKn_f hF 7 0 (by omega), h2, up_ap, if_neg (by omega), up_ap, if_neg (by omega), Rec_x hR 7 2 (by omega)]
    have R := r38 e38
    refine ⟨⟨R.2.2.2.2.2.2.2.1.mpr h.r, by unfold pmB at pm ⊢; rw [e7]; exact pm⟩, fun z => absurd a z, fun _ z => ?_, fun _ _ σ4 σ5 hE h5 hw5 => ?_⟩
    · have := el a
      rw [R.2.2.2.2.2.1] at z
      omega
    · obtain ⟨R5, lo⟩ := REL_ex h hR a.1 (by omega) b.1 (by omega) h2 (hF.w (fun _ _ _ q => Or.inl q)) hP hE h5
      have P5 : PK σ5 := PK_cg (fun t q => lo t 0 (by omega) (by omega)) (by rw [lo 1 0 (by omega) (by omega)]) (by rw [lo 3 0 (by omega) (by omega)]) hPK
      exact ⟨fun σ6 hF6 => hK _ _ (rf_Fd R5 hF6.1), fun σ6 hF6 hn => absurd (kn_is R5 P5) (hn _)⟩
  · have e38 : σ3 38 0 = σ 38 0 := funext fun y => by
      rw [pKn_f hF 38 0 (by omega), h2, up_ap, if_neg (by omega), up_ap, if_neg (by omega), Rec_x hR 38 y (by omega)]
    have e7 : σ3 7 0 2 = σ 7 0 2 := by
      rw [pKn_f hF 7 0 (by omega), h2, up_ap, if_neg (by omega), up_ap, if_neg (by omega), Rec_x hR 7 2 (by omega)]
    have R := r38 e38
    refine ⟨⟨R.2.2.2.2.2.2.2.1.mpr h.r, by unfold pmB at pm ⊢; rw [e7]; exact pm⟩, fun z => absurd a z, fun _ z => ?_, fun _ _ σ4 σ5 hE h5 hw5 => ?_⟩
    · have := el a
      rw [R.2.2.2.2.2.1] at z
      omega
    · obtain ⟨R5, lo⟩ := REL_ex h hR a.1 (by omega) b.1 (by omega) h2 (hF.w (fun _ _ _ q => Or.inl q)) hP hE h5
      have nn : ∀ g, ¬ rH σ5 g := fun g z => hN g ((sH_cg (fun t q => pKn_f hF t 0 (by omega))).mp ((sH_cg (fun t q => lo t 0 (by omega) (by omega))).mp ((R5.ag.H R5.w.1).mpr z)))
      exact ⟨fun σ6 hF6 => absurd hF6.2.1 (nn _), fun σ6 hF6 hn => hK _ _ (rf_Fd R5 hF6)⟩
