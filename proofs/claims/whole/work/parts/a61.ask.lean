/-! what is asked, both sides: 1 -/
theorem kn_no {σ σ1 : Mem} (h : REL σ1) (hF : FrG pKn σ σ1) (hN : ∀ g, ¬ sH σ 0 g) (g : Int → Int) : ¬ rH σ1 g := fun z => hN g ((sH_cg (fun t q => pKn_f hF t 0 (by omega))).mp ((h.ag.H h.w.1).mpr z))
theorem kn_is {σ1 : Mem} (h : REL σ1) (hP : PK σ1) : rH σ1 (σ1 21 0) := (h.ag.H h.w.1).mp hP.1.2.2.1
theorem PR_h {σ1 σ2 : Mem} (h : REL σ1) (hP : PK σ1) (hH : rH σ1 (σ2 45 0)) (hT : rT σ1 (σ2 46 0)) : ∀ o, vOp (σ1 10 0) o → σ1 21 0 o = σ2 45 0 o ∧ σ1 22 0 o = σ2 46 0 o := fun o v => by
  have H2 : sH σ1 0 (σ2 45 0) := (h.ag.H h.w.1).mpr hH
  have T2 : sT σ1 0 (σ2 46 0) := (h.ag.T h.w.1).mpr hT
  have d := fun o (v : vOp (σ1 10 0) o) => (sWF_op h.w v).2.2.1
  exact ⟨head_unique d (fun o v => (sWF_op h.w v).2.2.2.2.2.1) hP.1.2.2.1 H2 v, tail_unique d hP.1.2.2.2.1 T2 v⟩
theorem PR_L {σ1 σ2 : Mem} (h : REL σ1) (hP : PK σ1) (hH : rH σ1 (σ2 45 0)) (hT : rT σ1 (σ2 46 0)) (e38 : σ2 38 0 = σ1 38 0) {L : Int} (hL : LE σ2 16 L) : σ1 1 0 8 = L := by
  have e := PR_h h hP hH hT
  have d := fun o (v : vOp (σ1 10 0) o) => (sWF_op h.w v).2.2.1
  have m := (end_max d hP.1.2.2.1 hP.1.2.2.2.1).mp hP.1.2.2.2.2.1
  obtain ⟨l1, l2, l3, l4⟩ := hL
  obtain ⟨m1, m2, m3⟩ := m
  have eV : ∀ o, rOp σ2 o ↔ vOp (σ1 10 0) o := fun o => by
    unfold rOp
    rw [(r38 e38).1]
    exact h.ag.V o
  have eD : ∀ o, vOp (σ1 10 0) o → σ1 21 0 o + σ1 12 0 o = σ2 45 0 o + rDu σ2 o := fun o v => by
    rw [(e o v).1, (h.ag.2.2.1 o v).2.1, (r38 e38).2.2.1]
  have x : σ1 1 0 8 ≤ L := by
    rcases m3 with z | ⟨o, v, z⟩
    · omega
    · have := l3 o ((eV o).mpr v) v.2.1
      have := eD o v
      omega
  have y : L ≤ σ1 1 0 8 := by
    rcases l4 with z | ⟨o, v, _, z⟩
    · omega
    · have := m2 o ((eV o).mp v)
      have := eD o ((eV o).mp v)
      omega
  omega
theorem PR_P {σ1 σ2 : Mem} {L : Int} (h : REL σ1) (hP : PK σ1) (hR : RP2 σ1 σ2 L) : σ1 1 0 8 = L ∧ σ1 3 0 1 = σ2 7 0 12 ∧ ∀ k, 0 ≤ k → k < σ1 3 0 1 → σ1 37 0 k = σ2 47 0 k := by
  have e38 := pRP_38 hR.1
  have eL := PR_L h hP hR.2.1 hR.2.2.1 e38 hR.2.2.2.2.1
  have p := h.ag.PT h.w.1 (PR_h h hP hR.2.1 hR.2.2.1) hP.2
  have q := hR.2.2.2.2.2
  unfold rPT at q
  have R := r38 e38
  rw [R.1, R.2.1, R.2.2.1, R.2.2.2.1, R.2.2.2.2.2.1, R.2.2.2.2.2.2.1, ← eL] at q
  exact ⟨eL, PT_un p q⟩
theorem rf_Fd {σ σ' : Mem} (h : REL σ) (hF : FrG pFd σ σ') : REL σ' := REL_rf h (fun t a x q r => hF t a x (by unfold pFd; omega))
theorem rf_RP {σ σ' : Mem} (h : REL σ) (hF : FrG pRP σ σ') : REL σ' := REL_rf h (fun t a x q r => hF t a x (by unfold pRP pFd pCr; omega))
theorem Fnd_n {σ1 σ2 : Mem} (hF : Fnd σ1 σ2) (hn : ∀ g, ¬ rH σ1 g) : False := hn _ hF.2.1
theorem q_length {σ : Mem} (h : REL σ) {K : Option Int → Option Int → Mem → Prop} (hK : ∀ r σ', REL σ' → K (some r) (some r) σ') : T_X6_length [.inr (.inl (6, 0))] σ (fun r σ1 => T_X7_length [.inr (.inl (7, 0))] σ1 (fun r2 σ2 => K r r2 σ2)) := by
  unfold T_X6_length T_X7_length
  dsimp only
  refine ⟨⟨h.w, h.2.2.2.2.1⟩, fun σ1 hF hc hN => ?_, fun σ1 hF hc hP => ?_⟩
  · have R := REL_kn h hF hc
    exact ⟨R.r, fun σ2 hF2 _ => hK _ _ (rf_Fd R hF2), fun σ2 L hF2 hL => absurd hF2.2.1 (kn_no R hF hN _)⟩
  · have R := REL_kn h hF hc
    refine ⟨R.r, fun σ2 hF2 hn => absurd (kn_is R hP) (hn _), fun σ2 L hF2 hL => ?_⟩
    rw [PR_L R hP hF2.2.1 hF2.2.2.1 (pFd_38 hF2.1) hL]
    exact hK _ _ (rf_Fd R hF2.1)
theorem q_path {σ : Mem} (h : REL σ) (x : Int) {K : Option Int → Option Int → Mem → Prop} (hK : ∀ r σ', REL σ' → K (some r) (some r) σ') : T_X6_path [.inr (.inl (6, 0)), .inl x] σ (fun r σ1 => T_X7_path [.inr (.inl (7, 0)), .inl x] σ1 (fun r2 σ2 => K r r2 σ2)) := by
  unfold T_X6_path T_X7_path
  dsimp only
  refine ⟨⟨h.w, h.2.2.2.2.1⟩, fun σ1 hF hc hN => ?_, fun σ1 hF hc hP => ?_⟩
  · have R := REL_kn h hF hc
    exact ⟨R.r, fun σ2 hF2 _ => hK _ _ (rf_Fd R hF2), fun σ2 L hR => absurd hR.2.1 (kn_no R hF hN _)⟩
  · have R := REL_kn h hF hc
    refine ⟨fun a b => ⟨R.r, fun σ2 hF2 hn => absurd (kn_is R hP) (hn _), fun σ2 L hR => ?_⟩, fun a => ⟨R.r, fun σ2 hF2 hn => absurd (kn_is R hP) (hn _), fun σ2 L hR => ?_⟩⟩
    · obtain ⟨-, e1, e2⟩ := PR_P R hP hR
      refine ⟨fun _ _ => ?_, fun c => absurd ⟨a, by omega⟩ c⟩
      rw [e2 x a b]
      exact hK _ _ (rf_RP R hR.1)
    · obtain ⟨-, e1, e2⟩ := PR_P R hP hR
      exact ⟨fun b c => absurd ⟨b, by omega⟩ a, fun _ => hK _ _ (rf_RP R hR.1)⟩
theorem q_order {σ : Mem} (h : REL σ) (m x : Int) {K : Option Int → Option Int → Mem → Prop} (hK : ∀ r σ', REL σ' → K (some r) (some r) σ') : T_X6_order [.inr (.inl (6, 0)), .inl m, .inl x] σ (fun r σ1 => T_X7_order [.inr (.inl (7, 0)), .inl m, .inl x] σ1 (fun r2 σ2 => K r r2 σ2)) := by
  unfold T_X6_order T_X7_order
  dsimp only
  refine ⟨h.w, fun a => ⟨h.r, fun _ => hK _ _ h, fun b => absurd b a⟩, fun a => ?_⟩
  have e := h.ag.2.2.2.1 m a.1 (by omega)
  refine ⟨fun b => ⟨h.r, fun c => absurd a c, fun _ => ⟨fun _ => ?_, fun c => absurd (by omega) c⟩⟩, fun b => ⟨h.r, fun c => absurd a c, fun _ => ⟨fun c => absurd (by omega) b, fun _ => hK _ _ h⟩⟩⟩
  rw [h.ag.2.2.2.2 m x a.1 (by omega) b.1 b.2]
  exact hK _ _ h
