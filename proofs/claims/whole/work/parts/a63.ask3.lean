/-! what is asked, both sides: 3 -/
theorem RP2_e {σ1 σ2 : Mem} {L : Int} (h : REL σ1) (hP : PK σ1) (hR : RP2 σ1 σ2 L) {x : Int} (v : vOp (σ1 10 0) x) : σ1 21 0 x = σ2 45 0 x ∧ σ1 22 0 x = σ2 46 0 x ∧ σ1 12 0 x = rDu σ2 x ∧ σ1 1 0 8 = L := by
  have e := PR_h h hP hR.2.1 hR.2.2.1 x v
  refine ⟨e.1, e.2, ?_, (PR_P h hP hR).1⟩
  rw [(r38 (pRP_38 hR.1)).2.2.1]
  exact (h.ag.2.2.1 x v).2.1
theorem q_about {σ : Mem} (h : REL σ) (x w : Int) {K : Option Int → Option Int → Mem → Prop} (hK : ∀ r σ', REL σ' → K (some r) (some r) σ') : T_X6_about [.inr (.inl (6, 0)), .inl x, .inl w] σ (fun r σ1 => T_X7_about [.inr (.inl (7, 0)), .inl x, .inl w] σ1 (fun r2 σ2 => K r r2 σ2)) := by
  unfold T_X6_about T_X7_about
  dsimp only
  have V := fun (σ : Mem) (h : REL σ) x => h.ag.V x
  refine ⟨⟨h.w, h.2.2.2.2.1⟩, fun a => ?_, fun a b => ?_, fun a b => ?_, fun a b => ?_, fun a b => ?_, fun a b c => ⟨fun σ1 hF hc hN => ?_, fun σ1 hF hc hP => ?_⟩⟩
  · have a' : ¬ rOp σ x := fun z => a ((V σ h x).mp z)
    exact ⟨h.r, fun _ => hK _ _ h, fun z => absurd z a', fun z => absurd z a', fun z => absurd z a', fun z => absurd z a', fun z => absurd z a'⟩
  · have a' : rOp σ x := (V σ h x).mpr a
    exact ⟨h.r, fun z => absurd a' z, fun _ _ => hK _ _ h, fun _ z => by omega, fun _ z => by omega, fun _ z => by omega, fun _ z y => by omega⟩
  · have a' : rOp σ x := (V σ h x).mpr a
    refine ⟨h.r, fun z => absurd a' z, fun _ z => by omega, fun _ _ => ?_, fun _ z => by omega, fun _ z => by omega, fun _ z y => by omega⟩
    rw [(h.ag.2.2.1 x a).1]
    exact hK _ _ h
  · have a' : rOp σ x := (V σ h x).mpr a
    refine ⟨h.r, fun z => absurd a' z, fun _ z => by omega, fun _ z => by omega, fun _ _ => ?_, fun _ z => by omega, fun _ z y => by omega⟩
    rw [(h.ag.2.2.1 x a).2.1]
    exact hK _ _ h
  · have a' : rOp σ x := (V σ h x).mpr a
    refine ⟨h.r, fun z => absurd a' z, fun _ z => by omega, fun _ z => by omega, fun _ z => by omega, fun _ _ => ?_, fun _ z y => by omega⟩
    rw [h.ag.pl h.w.1 a]
    exact hK _ _ h
  · have R := REL_kn h hF hc
    rw [← pKn_f hF 10 0 (by omega)] at a
    have a' : rOp σ1 x := (V σ1 R x).mpr a
    exact ⟨R.r, fun z => absurd a' z, fun _ z => by omega, fun _ z => by omega, fun _ z => by omega, fun _ z => by omega, fun _ z y => ⟨fun σ2 hF2 _ => hK _ _ (rf_Fd R hF2), fun σ2 L hR => absurd hR.2.1 (kn_no R hF hN _)⟩⟩
  · have R := REL_kn h hF hc
    rw [← pKn_f hF 10 0 (by omega)] at a
    have a' : rOp σ1 x := (V σ1 R x).mpr a
    have key : ∀ K2 : Option Int → Mem → Prop, (∀ σ2 L, RP2 σ1 σ2 L → (w = 3 → K2 (some (σ2 45 0 x)) σ2) ∧ (w = 4 → K2 (some (σ2 46 0 x)) σ2) ∧ (w = 5 → K2 (some (L - (σ2 45 0 x + rDu σ2 x + σ2 46 0 x))) σ2) ∧ (w = 6 → σ2 45 0 x + rDu σ2 x + σ2 46 0 x = L → K2 (some 1) σ2) ∧ (w = 6 → ¬ σ2 45 0 x + rDu σ2 x + σ2 46 0 x = L → K2 (some 0) σ2) ∧ (w = 7 → ∀ r, PoP (σ2 47 0) (σ2 7 0 12) x r → K2 (some r) σ2)) → rWF σ1 ∧ (¬ rOp σ1 x → K2 (some (-1)) σ1) ∧ (rOp σ1 x → ¬ (0 ≤ w ∧ w ≤ 7) → K2 (some (-2)) σ1) ∧ (rOp σ1 x → w = 0 → K2 (some (rMc σ1 x)) σ1) ∧ (rOp σ1 x → w = 1 → K2 (some (rDu σ1 x)) σ1) ∧ (rOp σ1 x → w = 2 → K2 (some (rPl σ1 x)) σ1) ∧ (rOp σ1 x → 3 ≤ w → w ≤ 7 → (∀ σ2, FrG pFd σ1 σ2 → (∀ h, ¬ rH σ1 h) → K2 (some (-6)) σ2) ∧ (∀ σ2 L, RP2 σ1 σ2 L → (w = 3 → K2 (some (σ2 45 0 x)) σ2) ∧ (w = 4 → K2 (some (σ2 46 0 x)) σ2) ∧ (w = 5 → K2 (some (L - (σ2 45 0 x + rDu σ2 x + σ2 46 0 x))) σ2) ∧ (w = 6 → σ2 45 0 x + rDu σ2 x + σ2 46 0 x = L → K2 (some 1) σ2) ∧ (w = 6 → ¬ σ2 45 0 x + rDu σ2 x + σ2 46 0 x = L → K2 (some 0) σ2) ∧ (w = 7 → ∀ r, PoP (σ2 47 0) (σ2 7 0 12) x r → K2 (some r) σ2))) := fun K2 hh => ⟨R.r, fun z => absurd a' z, fun _ z => by omega, fun _ z => by omega, fun _ z => by omega, fun _ z => by omega, fun _ _ _ => ⟨fun σ2 _ hn => absurd (kn_is R hP) (hn _), hh⟩⟩
    refine ⟨fun d => key _ (fun σ2 L hR => ⟨fun _ => ?_, fun _ => by omega, fun _ => by omega, fun _ => by omega, fun _ => by omega, fun _ => by omega⟩), fun d => key _ (fun σ2 L hR => ⟨fun _ => by omega, fun _ => ?_, fun _ => by omega, fun _ => by omega, fun _ => by omega, fun _ => by omega⟩), fun d => key _ (fun σ2 L hR => ⟨fun _ => by omega, fun _ => by omega, fun _ => ?_, fun _ => by omega, fun _ => by omega, fun _ => by omega⟩), fun d e => key _ (fun σ2 L hR => ⟨fun _ => by omega, fun _ => by omega, fun _ => by omega, fun _ _ => hK _ _ (rf_RP R hR.1), fun _ z => ?_, fun _ => by omega⟩), fun d e => key _ (fun σ2 L hR => ⟨fun _ => by omega, fun _ => by omega, fun _ => by omega, fun _ z => ?_, fun _ _ => hK _ _ (rf_RP R hR.1), fun _ => by omega⟩), fun d r hr => key _ (fun σ2 L hR => ⟨fun _ => by omega, fun _ => by omega, fun _ => by omega, fun _ => by omega, fun _ => by omega, fun _ r' hr' => ?_⟩)⟩
    · rw [(RP2_e R hP hR a).1]
      exact hK _ _ (rf_RP R hR.1)
    · rw [(RP2_e R hP hR a).2.1]
      exact hK _ _ (rf_RP R hR.1)
    · obtain ⟨e1, e2, e3, e4⟩ := RP2_e R hP hR a
      rw [e1, e2, e3, e4]
      exact hK _ _ (rf_RP R hR.1)
    · obtain ⟨e1, e2, e3, e4⟩ := RP2_e R hP hR a
      omega
    · obtain ⟨e1, e2, e3, e4⟩ := RP2_e R hP hR a
      omega
    · obtain ⟨-, e1, e2⟩ := PR_P R hP hR
      rw [← e1] at hr'
      rw [PoP_un hr hr' e2]
      exact hK _ _ (rf_RP R hR.1)
theorem ej_eq {σ1 σ2 : Mem} (h : REL σ1) (hP : PK σ1) (hH : rH σ1 (σ2 45 0)) (hT : rT σ1 (σ2 46 0)) (e38 : σ2 38 0 = σ1 38 0) {j : Int} (j0 : 0 ≤ j) (j1 : j < σ1 5 0 0) : ejV σ1 j = rej σ2 j ∧ ltV σ1 j = rlt σ2 j := by
  have R := r38 e38
  have j4 := h.w.1.1.2
  have e := PR_h h hP hH hT
  have es := h.ag.2.1 j j0 (by omega)
  have ed := h.1.2.2 j j0 j1
  have st := h.w.1.2.1 j j0 (by omega)
  have e1 : ejV σ1 j = rej σ2 j := by
    unfold ejV rej
    rw [R.1, R.2.2.1, R.2.2.2.1, es]
    by_cases z : 0 < rSt σ1 j
    · rw [if_pos z, if_pos z]
      have v : vOp (σ1 10 0) (4 * j + rSt σ1 j - 1) := ⟨by omega, by omega, by rw [show (4 * j + rSt σ1 j - 1) / 4 = j by omega]; omega⟩
      rw [(e _ v).1, (hP.1.2.1 _ v).2, (h.ag.2.2.1 _ v).2.1]
    · rw [if_neg z, if_neg z]
      exact ed.1
  refine ⟨e1, ?_⟩
  unfold ltV rlt
  rw [e1, ed.2, show σ1 38 0 (1 + 3 * j + 1) = rDd σ2 j by rw [R.2.2.2.2.1]; rfl]
theorem q_ofJob {σ : Mem} (h : REL σ) (j w : Int) {K : Option Int → Option Int → Mem → Prop} (hK : ∀ r σ', REL σ' → K (some r) (some r) σ') : T_X6_ofJob [.inr (.inl (6, 0)), .inl j, .inl w] σ (fun r σ1 => T_X7_ofJob [.inr (.inl (7, 0)), .inl j, .inl w] σ1 (fun r2 σ2 => K r r2 σ2)) := by
  unfold T_X6_ofJob T_X7_ofJob
  dsimp only
  have eJ := h.ag.1
  have j4 := h.w.1.1.2
  have ej : 0 ≤ j ∧ j < σ 5 0 0 → σ 8 0 j = rRe σ j ∧ σ 9 0 j = rDd σ j := fun a => h.1.2.2 j a.1 a.2
  have es : 0 ≤ j ∧ j < σ 5 0 0 → σ 10 0 j = rSt σ j := fun a => h.ag.2.1 j a.1 (by omega)
  refine ⟨⟨h.w, h.2.2.2.2.1⟩, fun a => ⟨h.r, fun _ => hK _ _ h, fun z => by omega, fun z => by omega, fun z => by omega, fun z => by omega, fun z => by omega, fun z => by omega⟩, fun a b => ⟨h.r, fun z => by omega, fun _ _ => hK _ _ h, fun _ z => by omega, fun _ z => by omega, fun _ z => by omega, fun _ z => by omega, fun _ z y => by omega⟩, fun a b => ⟨h.r, fun z => by omega, fun _ z => by omega, fun _ _ => ?_, fun _ z => by omega, fun _ z => by omega, fun _ z => by omega, fun _ z => by omega⟩, fun a b => ⟨h.r, fun z => by omega, fun _ z => by omega, fun _ z => by omega, fun _ _ => ?_, fun _ z => by omega, fun _ z => by omega, fun _ z => by omega⟩, fun a b => ⟨h.r, fun z => by omega, fun _ z => by omega, fun _ z => by omega, fun _ z => by omega, fun _ _ => ?_, fun _ z => by omega, fun _ z => by omega⟩, fun a b => ⟨h.r, fun z => by omega, fun _ z => by omega, fun _ z => by omega, fun _ z => by omega, fun _ z => by omega, fun _ _ => ?_, fun _ z => by omega⟩, fun a b c => ⟨fun σ1 hF hc hN => ?_, fun σ1 hF hc hP => ⟨fun d => ?_, fun d => ?_⟩⟩⟩
  · rw [(ej a).1]
    exact hK _ _ h
  · rw [(ej a).2]
    exact hK _ _ h
  · rw [es a]
    exact hK _ _ h
  · have q := h.ag.wk h.w.1 a.1 (by omega) (Int.le_refl 0) (show 0 + σ 10 0 j ≤ σ 10 0 j by omega)
    rw [Int.add_zero] at q
    rw [q, es a]
    exact hK _ _ h
  · have R := REL_kn h hF hc
    rw [← pKn_f hF 5 0 (by omega)] at a
    have eJ := R.ag.1
    exact ⟨R.r, fun z => by omega, fun _ z => by omega, fun _ z => by omega, fun _ z => by omega, fun _ z => by omega, fun _ z => by omega, fun _ _ _ => ⟨fun σ2 hF2 _ => hK _ _ (rf_Fd R hF2), fun σ2 hF2 => absurd hF2.2.1 (kn_no R hF hN _)⟩⟩
  · have R := REL_kn h hF hc
    rw [← pKn_f hF 5 0 (by omega)] at a
    have eJ := R.ag.1
    refine ⟨R.r, fun z => by omega, fun _ z => by omega, fun _ z => by omega, fun _ z => by omega, fun _ z => by omega, fun _ z => by omega, fun _ _ _ => ⟨fun σ2 _ hn => absurd (kn_is R hP) (hn _), fun σ2 hF2 => ⟨fun _ => ?_, fun z => by omega⟩⟩⟩
    rw [(ej_eq R hP hF2.2.1 hF2.2.2.1 (pFd_38 hF2.1) a.1 a.2).1]
    exact hK _ _ (rf_Fd R hF2.1)
  · have R := REL_kn h hF hc
    rw [← pKn_f hF 5 0 (by omega)] at a
    have eJ := R.ag.1
    refine ⟨R.r, fun z => by omega, fun _ z => by omega, fun _ z => by omega, fun _ z => by omega, fun _ z => by omega, fun _ z => by omega, fun _ _ _ => ⟨fun σ2 _ hn => absurd (kn_is R hP) (hn _), fun σ2 hF2 => ⟨fun z => by omega, fun _ => ?_⟩⟩⟩
    rw [(ej_eq R hP hF2.2.1 hF2.2.2.1 (pFd_38 hF2.1) a.1 a.2).2]
    exact hK _ _ (rf_Fd R hF2.1)
