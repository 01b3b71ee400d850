/-! what changes, both sides: job, operation -/
theorem q_job {σ : Mem} (h : REL σ) (r d : Int) {K : Option Int → Option Int → Mem → Prop} (hK : ∀ r σ', REL σ' → K (some r) (some r) σ') : T_X6_job [.inr (.inl (6, 0)), .inl r, .inl d] σ (fun x σ1 => T_X7_job [.inr (.inl (7, 0)), .inl r, .inl d] σ1 (fun r2 σ2 => K x r2 σ2)) := by
  unfold T_X6_job T_X7_job
  dsimp only
  have pm := pmB_r h
  have eJ := h.ag.1
  refine ⟨⟨h.w, h.2.1.1⟩, fun a => ⟨⟨h.r, pm⟩, fun _ => hK _ _ h, fun z => absurd z a, fun z => absurd z a⟩, fun a b => ⟨⟨h.r, pm⟩, fun z => absurd a z, fun _ _ => hK _ _ h, fun _ z => by omega⟩, fun a b σ1 σ2 hR h2 => ?_⟩
  have J0 := h.w.1.1.1
  have c : ∀ t y, t ≠ 0 → ¬ (t = 6 ∧ y = 8) → ¬ (t = 4 ∧ y = 1) → σ2 t 0 y = if t = 5 ∧ y = 0 then σ 5 0 0 + 1 else if t = 10 ∧ y = σ 5 0 0 then 0 else if t = 9 ∧ y = σ 5 0 0 then d else if t = 8 ∧ y = σ 5 0 0 then r else σ t 0 y := fun t y q u v => by
    rw [h2, up_ap, up_ap, up_ap, up_ap, Rec_x hR t y ⟨q, u, v⟩]
    by_cases z1 : t = 5 ∧ y = 0
    · rw [if_pos (by omega), if_pos z1]
    · rw [if_neg (by omega), if_neg z1]
      by_cases z2 : t = 10 ∧ y = σ 5 0 0
      · rw [if_pos (by omega), if_pos z2]
      · rw [if_neg (by omega), if_neg z2]
        by_cases z3 : t = 9 ∧ y = σ 5 0 0
        · rw [if_pos (by omega), if_pos z3]
        · rw [if_neg (by omega), if_neg z3]
          by_cases z4 : t = 8 ∧ y = σ 5 0 0
          · rw [if_pos (by omega), if_pos z4]
          · rw [if_neg (by omega), if_neg z4]
  have cx : ∀ t y, ¬ (t = 5 ∨ (8 ≤ t ∧ t ≤ 10)) → t ≠ 0 → ¬ (t = 6 ∧ y = 8) → ¬ (t = 4 ∧ y = 1) → σ2 t 0 y = σ t 0 y := fun t y q u v w => by rw [c t y u v w, if_neg (by omega), if_neg (by omega), if_neg (by omega), if_neg (by omega)]
  have e38 : σ2 38 0 = σ 38 0 := funext fun y => cx 38 y (by omega) (by omega) (by omega) (by omega)
  have Q := r38 e38
  rw [e38, ← eJ]
  refine ⟨⟨Q.2.2.2.2.2.2.2.1.mpr h.r, by unfold pmB at pm ⊢; rw [cx 7 2 (by omega) (by omega) (by omega) (by omega)]; exact pm⟩, fun z => absurd a z, fun _ z => by omega, fun _ _ σ3 σ4 hE h4 => hK _ _ ?_⟩
  have x4 : ∀ t a y, ¬ (t = 38 ∧ a = 0) → σ4 t a y = σ3 t a y := fun t a y q => by rw [h4, up_ap, if_neg (by omega), up_ap, if_neg (by omega), up_ap, if_neg (by omega), up_ap, if_neg (by omega)]
  have lo : ∀ t a y, t < 38 → t ≠ 7 → σ4 t a y = σ2 t a y := fun t a y q r => by rw [x4 t a y (by omega), KEE_t hE t a y (by omega)]
  have g38 : ∀ y, σ4 38 0 y = if y = 1 + 3 * σ 5 0 0 + 2 then 0 else if y = 1 + 3 * σ 5 0 0 + 1 then d else if y = 1 + 3 * σ 5 0 0 then r else if y = 0 then σ 5 0 0 + 1 else σ 38 0 y := fun y => by
    rw [h4, up_ap, up_ap, up_ap, up_ap, KEE_t hE 38 0 y (by omega), e38]
    simp only [true_and]
  have gx : ∀ y, y ≠ 0 → y < 1 + 3 * σ 5 0 0 ∨ 13 ≤ y → σ4 38 0 y = σ 38 0 y := fun y q u => by rw [g38, if_neg (by omega), if_neg (by omega), if_neg (by omega), if_neg q]
  have C : ∀ t, 11 ≤ t ∧ t ≤ 14 → σ4 t 0 = σ t 0 := fun t q => funext fun y => by rw [lo t 0 y (by omega) (by omega), cx t y (by omega) (by omega) (by omega) (by omega)]
  have w := h.w
  obtain ⟨g0, g1, g2, g3, g4, g5⟩ := SIM_d h.1
  have C5 : σ4 5 0 0 = σ 5 0 0 + 1 := by rw [lo 5 0 0 (by omega) (by omega), c 5 0 (by omega) (by omega) (by omega), if_pos ⟨rfl, rfl⟩]
  have z0 := (w.1.2.1 (σ 5 0 0) J0 b).2.2 (Int.le_refl _)
  have C10 : ∀ y, σ4 10 0 y = σ 10 0 y := fun y => by
    rw [lo 10 0 y (by omega) (by omega), c 10 y (by omega) (by omega) (by omega), if_neg (by omega)]
    by_cases z : y = σ 5 0 0
    · rw [if_pos ⟨rfl, z⟩, z, z0]
    · rw [if_neg (by omega), if_neg (by omega), if_neg (by omega)]
  have C8 : ∀ y, σ4 8 0 y = if y = σ 5 0 0 then r else σ 8 0 y := fun y => by
    rw [lo 8 0 y (by omega) (by omega), c 8 y (by omega) (by omega) (by omega), if_neg (by omega), if_neg (by omega), if_neg (by omega)]
    simp only [true_and]
  have C9 : ∀ y, σ4 9 0 y = if y = σ 5 0 0 then d else σ 9 0 y := fun y => by
    rw [lo 9 0 y (by omega) (by omega), c 9 y (by omega) (by omega) (by omega), if_neg (by omega), if_neg (by omega)]
    by_cases z : y = σ 5 0 0
    · rw [if_pos ⟨rfl, z⟩, if_pos z]
    · rw [if_neg (by omega), if_neg (by omega), if_neg z]
  have r0 := Rec_0 hR
  refine REL_ch h hR (fun t k j q u v => ?_) (RCa_0 ?_ ?_ ?_) hE (fun t k j q u v w => x4 t k j u) (SIM_k ?_ (fun j p q => ?_) ?_ (fun j p q => ?_) (fun o v => ?_) (fun m p q => ?_) (fun m k p q u s => ?_) (fun j p q => ?_)) (RPd_e h.2.2.2.1 (fun t y q => ?_))
  · rw [h2, up_ap, if_neg (by omega), up_ap, if_neg (by omega), up_ap, if_neg (by omega), up_ap, if_neg (by omega)]
  · rw [lo 6 0 8 (by omega) (by omega), h2, up_ap, if_neg (by omega), up_ap, if_neg (by omega), up_ap, if_neg (by omega), up_ap, if_neg (by omega)]
    exact r0.1
  · rw [lo 4 0 1 (by omega) (by omega), h2, up_ap, if_neg (by omega), up_ap, if_neg (by omega), up_ap, if_neg (by omega), up_ap, if_neg (by omega)]
    exact r0.2.1
  · rw [lo 4 1 1 (by omega) (by omega), h2, up_ap, if_neg (by omega), up_ap, if_neg (by omega), up_ap, if_neg (by omega), up_ap, if_neg (by omega)]
    exact r0.2.2
  · rw [C5, C 11 (by omega), C 12 (by omega), C 13 (by omega), C 14 (by omega)]
    exact (WF_job w.1 b (fun x _ _ => C10 x)).1
  · rw [C5] at q
    rw [C8, C9]
    by_cases z : j = σ 5 0 0
    · rw [if_pos z, if_pos z]
      omega
    · rw [if_neg z, if_neg z]
      exact w.2 j p (by omega)
  · rw [C5, g38, if_neg (by omega), if_neg (by omega), if_neg (by omega), if_pos rfl]
  · rw [C10]
    by_cases z : j = σ 5 0 0
    · rw [g38, if_pos (by omega), z, z0]
    · rw [g38, if_neg (by omega), if_neg (by omega), if_neg (by omega), if_neg (by omega)]
      exact g1 j p q
  · have v' : vOp (σ 10 0) o := (vOp_cg (fun j _ _ => C10 j) o).mp v
    have v0 := v'.1
    have v1 := v'.2.1
    have v2 := v'.2.2
    have nj : o / 4 ≠ σ 5 0 0 := fun z => by rw [z, z0] at v2; omega
    have sj := (sWF_op w v').2.2.2.2.1
    rw [C 11 (by omega), C 12 (by omega), C8, if_neg nj, gx _ (by omega) (by omega), gx _ (by omega) (by omega), gx _ (by omega) (by omega)]
    exact g2 o v'
  · rw [C 13 (by omega), gx _ (by omega) (by omega)]
    exact g3 m p q
  · rw [C 13 (by omega)] at s
    rw [C 14 (by omega), gx _ (by omega) (by omega)]
    exact g4 m k p q u s
  · rw [C5] at q
    rw [C8, C9]
    by_cases z : j = σ 5 0 0
    · rw [if_pos z, if_pos z, g38, if_neg (by omega), if_neg (by omega), if_pos (by omega), g38, if_neg (by omega), if_pos (by omega)]
      exact ⟨rfl, rfl⟩
    · rw [if_neg z, if_neg z, gx _ (by omega) (by omega), gx _ (by omega) (by omega)]
      exact g5 j p (by omega)
  · rw [x4 t 0 y (by omega), KEE_e hE t 0 y (by omega) (by omega), cx t y (by omega) (by omega) (by omega) (by omega)]
