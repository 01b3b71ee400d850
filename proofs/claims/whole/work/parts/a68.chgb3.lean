/-! what changes, both sides: restore, undo, takeBest -/
theorem q_restore {σ : Mem} (h : REL σ) (s : Int) {K : Option Int → Option Int → Mem → Prop} (hK : ∀ r σ', REL σ' → K (some r) (some r) σ') : T_X6_restore [.inr (.inl (6, 0)), .inl s] σ (fun r σ1 => T_X7_restore [.inr (.inl (7, 0)), .inl s] σ1 (fun r2 σ2 => K r r2 σ2)) := by
  unfold T_X6_restore T_X7_restore
  dsimp only
  have pm := pmB_r h
  have hs := h.2.2.1
  refine ⟨h.2.1.1, fun a => ⟨⟨h.r, pm⟩, fun _ => hK _ _ h, fun z => absurd z a, fun z => absurd z a⟩, fun a b => ⟨⟨h.r, pm⟩, fun z => absurd a z, fun _ _ => hK _ _ h, fun _ z => absurd ((hs s a.1 a.2).1.mp b) z⟩, fun a b σ1 σ2 hR hB => ?_⟩
  have e : ∀ t y, ¬ (t = 5 ∨ (8 ≤ t ∧ t ≤ 14)) → t ≠ 0 → ¬ (t = 6 ∧ y = 8) → ¬ (t = 4 ∧ y = 1) → σ2 t 0 y = σ t 0 y := fun t y q r u v => by rw [hB t 0 y, if_neg (by omega), Rec_x hR t y ⟨r, u, v⟩]
  have e38 : σ2 38 0 = σ 38 0 := funext fun y => e 38 y (by omega) (by omega) (by omega) (by omega)
  refine ⟨⟨(r38 e38).2.2.2.2.2.2.2.1.mpr h.r, by unfold pmB at pm ⊢; rw [e 7 2 (by omega) (by omega) (by omega) (by omega)]; exact pm⟩, fun z => absurd a z, fun _ z => ?_, fun _ z σ3 σ4 hE hC => ?_⟩
  · rw [e 41 s (by omega) (by omega) (by omega) (by omega)] at z
    exact absurd ((hs s a.1 a.2).1.mpr z) b
  · obtain ⟨c1, -, -, c4⟩ := hC
    have sl := (hs s a.1 a.2).2 b
    have r0 := Rec_0 hR
    have lo : ∀ t k y, t < 38 → t ≠ 7 → σ4 t k y = σ2 t k y := fun t k y q r => by rw [c1 t k y (by unfold pRow; omega), KEE_t hE t k y (by omega)]
    have S : SIM σ4 0 (σ4 38 0) := by
      refine SIM_m sl (fun t y q => ?_) (fun x x0 x1 => ?_)
      · rw [lo t 0 y (by omega) (by omega), hB t 0 y, if_pos ⟨rfl, q⟩, hR t _ y, if_neg (by omega), if_neg (by omega), if_neg (by omega), if_neg (by omega)]
      · have := c4 x x0 x1
        rw [Int.zero_add] at this
        rw [this]
        exact e 40 _ (by omega) (by omega) (by omega) (by omega)
    rw [← show σ4 5 0 0 = σ2 5 0 0 from lo 5 0 0 (by omega) (by omega), (SIM_d S).1]
    refine hK _ _ (REL_ch h hR (fun t k j q r u => ?_) (RCa_0 ?_ ?_ ?_) hE (fun t k j q r u v => c1 t k j (by unfold pRow; omega)) S (RPd_e h.2.2.2.1 (fun t y q => ?_)))
    · rw [hB t k j, if_neg (by omega)]
    · rw [lo 6 0 8 (by omega) (by omega), hB, if_neg (by omega)]
      exact r0.1
    · rw [lo 4 0 1 (by omega) (by omega), hB, if_neg (by omega)]
      exact r0.2.1
    · rw [lo 4 1 1 (by omega) (by omega), hB, if_neg (by omega)]
      exact r0.2.2
    · rw [c1 t 0 y (by unfold pRow; omega), KEE_e hE t 0 y (by omega) (by omega), e t y (by omega) (by omega) (by omega) (by omega)]
theorem q_undo {σ : Mem} (h : REL σ) {K : Option Int → Option Int → Mem → Prop} (hK : ∀ r σ', REL σ' → K (some r) (some r) σ') : T_X6_undo [.inr (.inl (6, 0))] σ (fun r σ1 => T_X7_undo [.inr (.inl (7, 0))] σ1 (fun r2 σ2 => K r r2 σ2)) := by
  unfold T_X6_undo T_X7_undo
  dsimp only
  have pm := pmB_r h
  have e01 := h.2.1.2.1
  unfold pmB at *
  refine ⟨h.2.1.1, fun a => ⟨pm, fun _ => hK _ _ h, fun z => by omega⟩, fun a σ1 σ2 hT h2 => ?_⟩
  have c : ∀ t k j, σ2 t k j = if (t = 6 ∧ k = 0 ∧ j = 8) ∨ (t = 4 ∧ (k = 0 ∨ k = 1) ∧ j = 1) then 0 else σ1 t k j := fun t k j => by
    rw [h2, up_ap, up_ap, up_ap]
    by_cases z1 : t = 4 ∧ k = 1 ∧ j = 1
    · rw [if_pos z1, if_pos (by omega)]
    · rw [if_neg z1]
      by_cases z2 : t = 4 ∧ k = 0 ∧ j = 1
      · rw [if_pos z2, if_pos (by omega)]
      · rw [if_neg z2]
        by_cases z3 : t = 6 ∧ k = 0 ∧ j = 8
        · rw [if_pos z3, if_pos (by omega)]
        · rw [if_neg z3, if_neg (by omega)]
  have X : ∀ t k j, t ≠ 0 → t ≠ 6 → t ≠ 4 → ¬ (k = 0 ∧ (t = 5 ∨ (8 ≤ t ∧ t ≤ 14))) → σ2 t k j = σ t k j := fun t k j q r u v => by
    rw [c, if_neg (by omega), hT t k j, if_neg (by omega), if_neg (by omega), if_neg (by omega)]
  have e7 : σ2 7 0 2 = σ 7 0 2 := X 7 0 2 (by omega) (by omega) (by omega) (by omega)
  rw [e7]
  refine ⟨pm, fun z => by omega, fun _ σ3 hC => ?_⟩
  rw [e01]
  obtain ⟨c1, -, -, c4⟩ := hC
  have Y : ∀ t k j, ¬ (t = 38 ∧ k = 0) → ¬ (t = 7 ∧ k = 0 ∧ j = 2) → σ3 t k j = σ2 t k j := fun t k j q r => by rw [c1 t k j (by unfold pRow; omega), up_ap, if_neg r]
  have y7 : σ3 7 0 2 = σ 7 0 2 - 1 := by rw [c1 7 0 2 (by unfold pRow; omega), up_ap, if_pos ⟨rfl, rfl, rfl⟩]
  obtain ⟨h1, ⟨⟨n0, n1, m0, m1⟩, h3, h4⟩, h5, h6, -⟩ := h
  have z02 : σ3 0 0 2 = (σ 0 0 2 + 6 - 1) % 6 := by rw [Y 0 0 2 (by omega) (by omega), c, if_neg (by omega), hT, if_pos ⟨rfl, rfl, rfl⟩]
  have z01 : σ3 0 0 1 = σ 0 0 1 - 1 := by rw [Y 0 0 1 (by omega) (by omega), c, if_neg (by omega), hT, if_neg (by omega), if_pos ⟨rfl, rfl, rfl⟩]
  refine hK _ _ ⟨?_, ⟨⟨by omega, by omega, by omega, by omega⟩, by omega, fun d a' b' => ?_⟩, fun s a' b' => ⟨?_, fun q => ?_⟩, RPd_e h6 (fun t y q => ?_), RCa_0 ?_ ?_ ?_⟩
  · have s0 := h4 0 (by omega) (by omega)
    refine SIM_m s0 (fun t y q => ?_) (fun x x0 x1 => ?_)
    · rw [Y t 0 y (by omega) (by omega), c, if_neg (by omega), hT t 0 y, if_neg (by omega), if_neg (by omega), if_pos ⟨rfl, q⟩, show 2 + ((σ 0 0 2 + 6 - 0) % 6).toNat = 2 + (σ 0 0 2).toNat by omega]
    · have := c4 x x0 x1
      rw [Int.zero_add] at this
      rw [this, show σ 7 0 2 - 1 - 0 = σ 7 0 2 - 1 by omega]
      exact X 39 0 _ (by omega) (by omega) (by omega) (by omega)
  · rw [y7] at b' ⊢
    rw [z02]
    refine SIM_m (h4 (d + 1) (by omega) (by omega)) (fun t y q => ?_) (fun x x0 x1 => ?_)
    · rw [show 2 + (((σ 0 0 2 + 6 - 1) % 6 + 6 - d) % 6).toNat = 2 + ((σ 0 0 2 + 6 - (d + 1)) % 6).toNat by omega, Y t _ y (by omega) (by omega), X t _ y (by omega) (by omega) (by omega) (by omega)]
    · rw [Y 39 0 _ (by omega) (by omega), X 39 0 _ (by omega) (by omega) (by omega) (by omega), show σ 7 0 2 - 1 - 1 - d = σ 7 0 2 - 1 - (d + 1) by omega]
  · rw [Y 35 0 _ (by omega) (by omega), X 35 0 _ (by omega) (by omega) (by omega) (by omega), Y 41 0 _ (by omega) (by omega), X 41 0 _ (by omega) (by omega) (by omega) (by omega)]
    exact (h5 s a' b').1
  · rw [Y 35 0 _ (by omega) (by omega), X 35 0 _ (by omega) (by omega) (by omega) (by omega)] at q
    refine SIM_m ((h5 s a' b').2 q) (fun t y q => ?_) (fun x x0 x1 => ?_)
    · rw [Y t _ y (by omega) (by omega), X t _ y (by omega) (by omega) (by omega) (by omega)]
    · rw [Y 40 0 _ (by omega) (by omega), X 40 0 _ (by omega) (by omega) (by omega) (by omega)]
  · rw [Y t 0 y (by omega) (by omega), X t 0 y (by omega) (by omega) (by omega) (by omega)]
  · rw [Y 6 0 8 (by omega) (by omega), c, if_pos (by omega)]
  · rw [Y 4 0 1 (by omega) (by omega), c, if_pos (by omega)]
  · rw [Y 4 1 1 (by omega) (by omega), c, if_pos (by omega)]
theorem q_takeBest {σ : Mem} (h : REL σ) {K : Option Int → Option Int → Mem → Prop} (hK : ∀ r σ', REL σ' → K (some r) (some r) σ') : T_X6_takeBest [.inr (.inl (6, 0))] σ (fun r σ1 => T_X7_takeBest [.inr (.inl (7, 0))] σ1 (fun r2 σ2 => K r r2 σ2)) := by
  unfold T_X6_takeBest T_X7_takeBest
  dsimp only
  have pm := pmB_r h
  refine ⟨⟨h.w, h.2.2.2.2.2.1, h.2.1.1⟩, fun σ1 σ2 σ3 le f hF hB hn hR h3 h4 => ?_⟩
  -- what leastPlan knew is forgotten anyway
  have hF' : FrG pBe σ (up σ1 4 0 1 0) := hF.u (Or.inr (by unfold pF; omega))
  have R1 : REL (up σ1 4 0 1 0) := REL_Be h hF' (Or.inl (by rw [up_ap, if_pos ⟨rfl, rfl, rfl⟩]))
  have hR1 : RecE (up σ1 4 0 1 0) σ2 := fun t k j => by
    rw [hR t k j]
    have u : ∀ t k j, ¬ (t = 4 ∧ k = 0 ∧ j = 1) → up σ1 4 0 1 0 t k j = σ1 t k j := fun t k j q => by rw [up_ap, if_neg q]
    rw [u 0 0 2 (by omega), u 0 0 1 (by omega)]
    by_cases z1 : t = 0 ∧ k = 0 ∧ j = 2
    · rw [if_pos z1, if_pos z1]
    · rw [if_neg z1, if_neg z1]
      by_cases z2 : t = 0 ∧ k = 0 ∧ j = 1
      · rw [if_pos z2, if_pos z2]
      · rw [if_neg z2, if_neg z2]
        by_cases z3 : (t = 6 ∧ k = 0 ∧ j = 8) ∨ (t = 4 ∧ (k = 0 ∨ k = 1) ∧ j = 1)
        · rw [if_pos z3, if_pos z3]
        · rw [if_neg z3, if_neg z3]
          by_cases z4 : k = 2 + ((σ1 0 0 2 + 1) % 6).toNat ∧ ((t = 5 ∧ j = 0) ∨ (8 ≤ t ∧ t ≤ 14 ∧ 0 ≤ j ∧ j < (if t = 11 ∨ t = 12 ∨ t = 14 then 16 else 4)))
          · rw [if_pos z4, if_pos z4, u t 0 j (by omega)]
          · rw [if_neg z4, if_neg z4, u t k j (by omega)]
  have e2 : ∀ t y, t ≠ 0 → t ≠ 14 → t < 15 ∨ 32 < t → t ≠ 1 → t ≠ 4 → ¬ (t = 6 ∧ y = 8) → σ3 t 0 y = σ t 0 y := fun t y q r u v w x => by
    rw [h3 t 0 y (by omega), Rec_x hR t y (by omega), pBe_f hF t 0 (by omega)]
  have e38 : σ3 38 0 = σ 38 0 := funext fun y => e2 38 y (by omega) (by omega) (by omega) (by omega) (by omega) (by omega)
  have R38 := r38 e38
  refine ⟨⟨R38.2.2.2.2.2.2.2.1.mpr h.r, by rw [e2 7 2 (by omega) (by omega) (by omega) (by omega) (by omega) (by omega)]; exact pm⟩, fun σ4 σ5 σ6 le' hE hF5 hB' hC => ?_⟩
  have r4 : σ4 38 0 = σ 38 0 := (funext fun y => KEE_t hE 38 0 y (by omega)).trans e38
  have Q := r38 r4
  rw [Q.1, Q.2.1, Q.2.2.1, Q.2.2.2.1, Q.2.2.2.2.2.1, Q.2.2.2.2.2.2.1] at hB'
  obtain ⟨el, eq⟩ := bst_eq (σ' := σ) h hB hn hB'
  rw [el]
  obtain ⟨c1, -, -, c4⟩ := hC
  have lo : ∀ t k y, t < 38 → t ≠ 7 → σ6 t k y = σ3 t k y := fun t k y q r => by
    rw [c1 t k y (by unfold pRow; omega), hF5 t k y (by unfold pFB; omega), KEE_t hE t k y (by omega)]
  have g38 : ∀ y, y < 49 → σ6 38 0 y = σ 38 0 y := fun y q => by
    rw [c1 38 0 y (by unfold pRow; omega), hF5 38 0 y (by unfold pFB; omega), r4]
  obtain ⟨g0, g1, g2, g3, g4, g5⟩ := SIM_d h.1
  have w := h.w
  have C : ∀ t, t = 5 ∨ (8 ≤ t ∧ t ≤ 13) → σ6 t 0 = σ t 0 := fun t q => funext fun y => by
    rw [lo t 0 y (by omega) (by omega), e2 t y (by omega) (by omega) (by omega) (by omega) (by omega) (by omega)]
  have l4 := fun m a b => (w.1.2.2.2.2.1 m a b).2
  have C14 : ∀ y, 0 ≤ y → y < 16 → σ6 14 0 y = f y := fun y a b => by rw [lo 14 0 y (by omega) (by omega), h4 y a b]
  have hW : WF (σ 5 0 0) (σ 10 0) (σ 11 0) (σ 12 0) (σ 13 0) (σ6 14 0) := by
    have B := hB
    unfold sBst bstS at B
    have a := (B.2.resolve_left hn).2.2.1
    have w1 : WF (σ 5 0 0) (σ 10 0) (σ 11 0) (σ 12 0) (σ 13 0) f := WF_arr w.1 (fun m m0 m1 => (a m m0 m1).1)
    exact AG.wf (re := fun _ => 0) (re' := fun _ => 0) ⟨rfl, fun _ _ _ => rfl, fun _ _ => ⟨rfl, rfl, rfl⟩, fun _ _ _ => rfl, fun m k a b c d => (C14 _ (by omega) (by have := l4 m a b; omega)).symm⟩ w1
  have r0 := Rec_0 hR
  refine hK _ _ (REL_ch R1 hR1 (fun t k j q r u => h3 t k j (by omega)) (RCa_0 ?_ ?_ ?_) hE (fun t k j q r u v => ?_) (SIM_k ?_ (fun j a b => ?_) ?_ (fun j a b => ?_) (fun o v => ?_) (fun m a b => ?_) (fun m k a b c d => ?_) (fun j a b => ?_)) (RPd_e h.2.2.2.1 (fun t y q => ?_)))
  · rw [lo 6 0 8 (by omega) (by omega), h3 6 0 8 (by omega)]
    exact r0.1
  · rw [lo 4 0 1 (by omega) (by omega), h3 4 0 1 (by omega)]
    exact r0.2.1
  · rw [lo 4 1 1 (by omega) (by omega), h3 4 1 1 (by omega)]
    exact r0.2.2
  · rw [c1 t k j (by unfold pRow; omega), hF5 t k j (by unfold hrd at q; unfold pFB; omega)]
  · rw [C 5 (by omega), C 10 (by omega), C 11 (by omega), C 12 (by omega), C 13 (by omega)]
    exact hW
  · rw [C 5 (by omega)] at b
    rw [C 8 (by omega), C 9 (by omega)]
    exact w.2 j a b
  · rw [C 5 (by omega), g38 0 (by omega)]
    exact g0
  · rw [C 10 (by omega), g38 _ (by omega)]
    exact g1 j a b
  · rw [C 10 (by omega)] at v
    have v0 := v.1
    have v1 := v.2.1
    rw [C 11 (by omega), C 12 (by omega), C 8 (by omega), g38 _ (by omega), g38 _ (by omega), g38 _ (by omega)]
    exact g2 o v
  · rw [C 13 (by omega), g38 _ (by omega)]
    exact g3 m a b
  · rw [C 13 (by omega)] at d
    have := l4 m a b
    rw [C14 _ (by omega) (by omega), c4 (4 * m + k) (by omega) (by omega)]
    have e3 := h.ag.2.2.2.1 m a b
    exact eq m k a b c (by omega)
  · rw [C 5 (by omega)] at b
    have j4 := w.1.1.2
    rw [C 8 (by omega), C 9 (by omega), g38 _ (by omega), g38 _ (by omega)]
    exact g5 j a b
  · rw [c1 t 0 y (by unfold pRow; omega), hF5 t 0 y (by unfold pFB; omega), KEE_e hE t 0 y (by omega) (by omega), e2 t y (by omega) (by omega) (by omega) (by omega) (by omega) (by omega)]
