/-! what changes, both sides: operation -/
theorem q_operation {σ : Mem} (h : REL σ) (j m d : Int) {K : Option Int → Option Int → Mem → Prop} (hK : ∀ r σ', REL σ' → K (some r) (some r) σ') : T_X6_operation [.inr (.inl (6, 0)), .inl j, .inl m, .inl d] σ (fun r σ1 => T_X7_operation [.inr (.inl (7, 0)), .inl j, .inl m, .inl d] σ1 (fun r2 σ2 => K r r2 σ2)) := by
  unfold T_X6_operation T_X7_operation
  dsimp only
  have pm := pmB_r h
  have eJ := h.ag.1
  have j4 := h.w.1.1.2
  have es : ∀ j, 0 ≤ j → j < 4 → σ 10 0 j = rSt σ j := h.ag.2.1
  have em : ∀ s, 0 ≤ j → j < σ 5 0 0 → 0 ≤ s → s < σ 10 0 j → σ 11 0 (4 * j + s) = rMc σ (4 * j + s) := fun s a b c e => by
    have l := h.w.1.2.1 j a (by omega)
    exact (h.ag.2.2.1 _ ⟨by omega, by omega, by rw [show (4 * j + s) / 4 = j by omega]; omega⟩).1
  refine ⟨⟨h.w, h.2.1.1⟩, fun a => ⟨⟨h.r, pm⟩, fun _ => hK _ _ h, fun z => by omega, fun z => by omega, fun z => by omega⟩, fun a b => ⟨⟨h.r, pm⟩, fun z => by omega, fun _ _ => hK _ _ h, fun _ z => absurd z b, fun _ z => absurd z b⟩, fun a b c => ⟨⟨h.r, pm⟩, fun z => by omega, fun _ z => absurd b z, fun _ _ _ => hK _ _ h, fun _ _ z => ?_⟩, fun a b c σ1 σ2 hR h2 => ?_⟩
  · obtain ⟨s, s0, s1, s2⟩ := c
    have := z s s0 (by rw [← es j a.1 (by omega)]; exact s1)
    rw [← em s a.1 a.2 s0 s1] at this
    exact absurd s2 this
  · have w := h.w
    obtain ⟨g0, g1, g2, g3, g4, g5⟩ := SIM_d h.1
    have rm := WF_room w.1 a.1 a.2 b.1.1 (by omega) c
    obtain ⟨s4, l4, s0, l0, nj⟩ := rm
    have c2 : ∀ t y, ¬ (10 ≤ t ∧ t ≤ 14) → t ≠ 0 → ¬ (t = 6 ∧ y = 8) → ¬ (t = 4 ∧ y = 1) → σ2 t 0 y = σ t 0 y := fun t y q u v x => by
      rw [h2, up_ap, if_neg (by omega), up_ap, if_neg (by omega), up_ap, if_neg (by omega), up_ap, if_neg (by omega), up_ap, if_neg (by omega), Rec_x hR t y ⟨u, v, x⟩]
    have D10 : ∀ y, σ2 10 0 y = if y = j then σ 10 0 j + 1 else σ 10 0 y := fun y => by
      rw [h2, up_ap, if_neg (by omega), up_ap, if_neg (by omega), up_ap, up_ap, if_neg (by omega : ¬ (10 = 12 ∧ _)), up_ap, if_neg (by omega : ¬ (10 = 11 ∧ _)), Rec_x hR 10 y (by omega)]
      simp only [true_and]
    have D11 : ∀ y, σ2 11 0 y = if y = 4 * j + σ 10 0 j then m else σ 11 0 y := fun y => by
      rw [h2, up_ap, if_neg (by omega), up_ap, if_neg (by omega), up_ap, if_neg (by omega), up_ap, if_neg (by omega), up_ap, Rec_x hR 11 y (by omega)]
      simp only [true_and]
    have D12 : ∀ y, σ2 12 0 y = if y = 4 * j + σ 10 0 j then d else σ 12 0 y := fun y => by
      rw [h2, up_ap, if_neg (by omega), up_ap, if_neg (by omega), up_ap, if_neg (by omega), up_ap, up_ap, if_neg (by omega : ¬ (12 = 11 ∧ _)), Rec_x hR 12 y (by omega)]
      simp only [true_and]
    have D13 : ∀ y, σ2 13 0 y = if y = m then σ 13 0 m + 1 else σ 13 0 y := fun y => by
      rw [h2, up_ap, up_ap, if_neg (by omega : ¬ (13 = 14 ∧ _)), up_ap, if_neg (by omega : ¬ (13 = 10 ∧ _)), up_ap, if_neg (by omega : ¬ (13 = 12 ∧ _)), up_ap, if_neg (by omega : ¬ (13 = 11 ∧ _)), Rec_x hR 13 y (by omega)]
      simp only [true_and]
    have D14 : ∀ y, σ2 14 0 y = if y = 4 * m + σ 13 0 m then j else σ 14 0 y := fun y => by
      rw [h2, up_ap, if_neg (by omega), up_ap, up_ap, if_neg (by omega : ¬ (14 = 10 ∧ _)), up_ap, if_neg (by omega : ¬ (14 = 12 ∧ _)), up_ap, if_neg (by omega : ¬ (14 = 11 ∧ _)), Rec_x hR 14 y (by omega)]
      simp only [true_and]
    have e38 : σ2 38 0 = σ 38 0 := funext fun y => c2 38 y (by omega) (by omega) (by omega) (by omega)
    have Q := r38 e38
    have el := h.ag.2.2.2.1 m b.1.1 (by omega)
    refine ⟨⟨Q.2.2.2.2.2.2.2.1.mpr h.r, by unfold pmB at pm ⊢; rw [c2 7 2 (by omega) (by omega) (by omega) (by omega)]; exact pm⟩, fun z => ?_, fun _ z => absurd b z, fun _ _ z => ?_, fun _ _ _ σ3 σ4 hE hF h4 => ?_⟩
    · rw [e38, ← eJ] at z
      exact absurd a z
    · rw [Q.1, Q.2.1, ← es j a.1 (by omega)] at z
      obtain ⟨s, q0, q1, q2⟩ := z
      rw [← em s a.1 a.2 q0 q1] at q2
      exact absurd q2 (c s q0 q1)
    · rw [Q.1, Q.2.2.2.2.2.1, ← es j a.1 (by omega), ← el, e38] at h4
      rw [Q.1, ← es j a.1 (by omega)]
      refine hK _ _ ?_
      have x4 : ∀ t a y, ¬ (t = 38 ∧ a = 0) → σ4 t a y = σ3 t a y := fun t a y q => hF t a y q
      have lo : ∀ t a y, t < 38 → t ≠ 7 → σ4 t a y = σ2 t a y := fun t a y q r => by rw [x4 t a y (by omega), KEE_t hE t a y (by omega)]
      have L : ∀ t, t < 38 → t ≠ 7 → σ4 t 0 = σ2 t 0 := fun t q r => funext fun y => lo t 0 y q r
      have C8 : σ4 8 0 = σ 8 0 := funext fun y => by rw [lo 8 0 y (by omega) (by omega), c2 8 y (by omega) (by omega) (by omega) (by omega)]
      have C9 : σ4 9 0 = σ 9 0 := funext fun y => by rw [lo 9 0 y (by omega) (by omega), c2 9 y (by omega) (by omega) (by omega) (by omega)]
      have C5 : σ4 5 0 = σ 5 0 := funext fun y => by rw [lo 5 0 y (by omega) (by omega), c2 5 y (by omega) (by omega) (by omega) (by omega)]
      have r0 := Rec_0 hR
      have hV : ∀ o, vOp (σ4 10 0) o → vOp (σ 10 0) o ∨ o = 4 * j + σ 10 0 j := fun o v => by
        have v0 := v.1
        have v1 := v.2.1
        have v2 := v.2.2
        rw [L 10 (by omega) (by omega), D10] at v2
        by_cases z : o / 4 = j
        · rw [if_pos z] at v2
          by_cases y : o = 4 * j + σ 10 0 j
          · exact Or.inr y
          · exact Or.inl ⟨v0, v1, by rw [z]; omega⟩
        · rw [if_neg z] at v2
          exact Or.inl ⟨v0, v1, v2⟩
      have nv : ∀ o, vOp (σ 10 0) o → o ≠ 4 * j + σ 10 0 j := fun o v z => by
        have v2 := v.2.2
        rw [show o / 4 = j by omega] at v2
        omega
      refine REL_ch h hR (fun t k y q u v => ?_) (RCa_0 ?_ ?_ ?_) hE (fun t k y q u v w => x4 t k y u) (SIM_k ?_ (fun y p q => ?_) ?_ (fun y p q => ?_) (fun o v => ?_) (fun y p q => ?_) (fun y k p q u s => ?_) (fun y p q => ?_)) (RPd_e h.2.2.2.1 (fun t y q => ?_))
      · rw [h2, up_ap, if_neg (by omega), up_ap, if_neg (by omega), up_ap, if_neg (by omega), up_ap, if_neg (by omega), up_ap, if_neg (by omega)]
      · rw [lo 6 0 8 (by omega) (by omega), h2, up_ap, if_neg (by omega), up_ap, if_neg (by omega), up_ap, if_neg (by omega), up_ap, if_neg (by omega), up_ap, if_neg (by omega)]
        exact r0.1
      · rw [lo 4 0 1 (by omega) (by omega), h2, up_ap, if_neg (by omega), up_ap, if_neg (by omega), up_ap, if_neg (by omega), up_ap, if_neg (by omega), up_ap, if_neg (by omega)]
        exact r0.2.1
      · rw [lo 4 1 1 (by omega) (by omega), h2, up_ap, if_neg (by omega), up_ap, if_neg (by omega), up_ap, if_neg (by omega), up_ap, if_neg (by omega), up_ap, if_neg (by omega)]
        exact r0.2.2
      · rw [C5, L 10 (by omega) (by omega), L 11 (by omega) (by omega), L 12 (by omega) (by omega), L 13 (by omega) (by omega), L 14 (by omega) (by omega)]
        refine WF_op w.1 a.1 a.2 b.1.1 (by omega) b.2.1 b.2.2 c (fun x _ _ => D10 x) (fun o v => ?_) ?_ (fun x _ _ => D13 x) (fun m' k p q u s => ?_) ?_
        · rw [D11, D12, if_neg (nv o v), if_neg (nv o v)]
          exact ⟨rfl, rfl⟩
        · rw [D11, D12, if_pos rfl, if_pos rfl]
          exact ⟨rfl, rfl⟩
        · rw [D14, if_neg]
          have := (w.1.2.2.2.2.1 m' p q).2
          intro z
          have e1 : m' = m := by omega
          rw [e1] at s z
          omega
        · rw [D14, if_pos rfl]
      · rw [C5] at q
        rw [C8, C9]
        exact w.2 y p q
      · rw [C5, h4, if_neg (by omega), if_neg (by omega), if_neg (by omega), if_neg (by omega), if_neg (by omega)]
        exact g0
      · rw [L 10 (by omega) (by omega), D10, h4]
        by_cases z : y = j
        · rw [if_pos z, if_neg (by omega), if_neg (by omega), if_pos (by omega)]
        · rw [if_neg z, if_neg (by omega), if_neg (by omega), if_neg (by omega), if_neg (by omega), if_neg (by omega)]
          exact g1 y p q
      · have v0 := v.1
        have v1 := v.2.1
        rw [L 11 (by omega) (by omega), L 12 (by omega) (by omega), C8, D11, D12, h4, h4, h4]
        by_cases z : o = 4 * j + σ 10 0 j
        · have g := (g5 j a.1 a.2).1
          rw [if_pos z, if_pos z, if_pos (by omega), if_neg (by omega : ¬ (14 + 2 * o = 13 + 2 * (4 * j + σ 10 0 j))), if_pos (by omega), if_neg (by omega : ¬ (1 + 3 * (o / 4) = 13 + 2 * (4 * j + σ 10 0 j))), if_neg (by omega), if_neg (by omega), if_neg (by omega), if_neg (by omega), show o / 4 = j by omega]
          exact ⟨rfl, rfl, g⟩
        · have v' := (hV o v).resolve_right z
          have g := g2 o v'
          rw [if_neg z, if_neg z, if_neg (by omega : ¬ (13 + 2 * o = 13 + 2 * (4 * j + σ 10 0 j))), if_neg (by omega : ¬ (13 + 2 * o = 14 + 2 * (4 * j + σ 10 0 j))), if_neg (by omega : ¬ (13 + 2 * o = 1 + 3 * j + 2)), if_neg (by omega : ¬ (13 + 2 * o = 45 + m)), if_neg (by omega : ¬ (13 + 2 * o = 49 + 4 * m + σ 13 0 m)), if_neg (by omega : ¬ (14 + 2 * o = 13 + 2 * (4 * j + σ 10 0 j))), if_neg (by omega : ¬ (14 + 2 * o = 14 + 2 * (4 * j + σ 10 0 j))), if_neg (by omega : ¬ (14 + 2 * o = 1 + 3 * j + 2)), if_neg (by omega : ¬ (14 + 2 * o = 45 + m)), if_neg (by omega : ¬ (14 + 2 * o = 49 + 4 * m + σ 13 0 m)), if_neg (by omega : ¬ (1 + 3 * (o / 4) = 13 + 2 * (4 * j + σ 10 0 j))), if_neg (by omega), if_neg (by omega), if_neg (by omega), if_neg (by omega)]
          exact g
      · rw [L 13 (by omega) (by omega), D13, h4]
        by_cases z : y = m
        · rw [if_pos z, if_neg (by omega), if_neg (by omega), if_neg (by omega), if_pos (by omega)]
        · rw [if_neg z, if_neg (by omega), if_neg (by omega), if_neg (by omega), if_neg (by omega), if_neg (by omega)]
          exact g3 y p q
      · rw [L 13 (by omega) (by omega), D13] at s
        have ly := (w.1.2.2.2.2.1 y p q).2
        rw [L 14 (by omega) (by omega), D14, h4]
        by_cases z : y = m
        · rw [if_pos z] at s
          by_cases x : k = σ 13 0 m
          · rw [if_pos (by omega), if_neg (by omega), if_neg (by omega), if_neg (by omega), if_neg (by omega), if_pos (by omega)]
          · rw [if_neg (by omega), if_neg (by omega), if_neg (by omega), if_neg (by omega), if_neg (by omega), if_neg (by omega)]
            exact g4 y k p q u (by rw [z]; omega)
        · rw [if_neg z] at s
          rw [if_neg (by omega), if_neg (by omega), if_neg (by omega), if_neg (by omega), if_neg (by omega), if_neg (by omega)]
          exact g4 y k p q u s
      · rw [C5] at q
        rw [C8, C9, h4, h4, if_neg (by omega), if_neg (by omega), if_neg (by omega), if_neg (by omega), if_neg (by omega), if_neg (by omega), if_neg (by omega), if_neg (by omega), if_neg (by omega), if_neg (by omega)]
        exact g5 y p q
      · rw [x4 t 0 y (by omega), KEE_e hE t 0 y (by omega) (by omega), c2 t y (by omega) (by omega) (by omega) (by omega)]
