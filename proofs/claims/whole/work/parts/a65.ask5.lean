/-! what is asked, both sides: 5 -/
theorem RPl_2 {σ σ' : Mem} (h : RPl σ σ') : ∃ L, RP2 σ σ' L := by
  obtain ⟨h1, h2, h3, h4, L, h5, h6⟩ := h
  exact ⟨L, h1, h2, h3, h4, h5, h6⟩
theorem q_count {σ : Mem} (h : REL σ) (w : Int) {K : Option Int → Option Int → Mem → Prop} (hK : ∀ r σ', REL σ' → K (some r) (some r) σ') : T_X6_count [.inr (.inl (6, 0)), .inl w] σ (fun r σ1 => T_X7_count [.inr (.inl (7, 0)), .inl w] σ1 (fun r2 σ2 => K r r2 σ2)) := by
  unfold T_X6_count T_X7_count
  dsimp only
  have key : ∀ σ1, REL σ1 → ∀ K2 : Option Int → Mem → Prop, (w = 7 → (∀ σ2, FrG pFd σ1 σ2 → (∀ h, ¬ rH σ1 h) → K2 (some 0) σ2) ∧ (∀ σ2, Fnd σ1 σ2 → K2 (some 1) σ2)) → (3 ≤ w → w ≤ 6 → (∀ σ2, FrG pFd σ1 σ2 → (∀ h, ¬ rH σ1 h) → K2 (some (-6)) σ2) ∧ (∀ σ2, RPl σ1 σ2 → (w = 3 → K2 (some (σ2 7 0 12)) σ2) ∧ (w = 4 → K2 (some (sm (blk (rMc σ2) (σ2 47 0)) (σ2 7 0 12).toNat)) σ2) ∧ (w = 5 → K2 (some (sm (rlt σ2) (σ2 38 0 0).toNat)) σ2) ∧ (w = 6 → K2 (some (mxS (rlt σ2) (σ2 38 0 0).toNat)) σ2))) → (3 ≤ w ∧ w ≤ 7) → rWF σ1 ∧ (¬ (0 ≤ w ∧ w ≤ 9) → K2 (some (-2)) σ1) ∧ (w = 0 → K2 (some (σ1 38 0 0)) σ1) ∧ (w = 1 → K2 (some (wF (rSt σ1) 0 (σ1 38 0 0))) σ1) ∧ (w = 2 → K2 (some (wF (fun j => wF (rDu σ1) (4 * j) (rSt σ1 j)) 0 (σ1 38 0 0))) σ1) ∧ (w = 8 → K2 (some (σ1 7 0 6)) σ1) ∧ (w = 9 → K2 (some (σ1 7 0 2)) σ1) ∧ (w = 7 → (∀ σ2, FrG pFd σ1 σ2 → (∀ h, ¬ rH σ1 h) → K2 (some 0) σ2) ∧ (∀ σ2, Fnd σ1 σ2 → K2 (some 1) σ2)) ∧ (3 ≤ w → w ≤ 6 → (∀ σ2, FrG pFd σ1 σ2 → (∀ h, ¬ rH σ1 h) → K2 (some (-6)) σ2) ∧ (∀ σ2, RPl σ1 σ2 → (w = 3 → K2 (some (σ2 7 0 12)) σ2) ∧ (w = 4 → K2 (some (sm (blk (rMc σ2) (σ2 47 0)) (σ2 7 0 12).toNat)) σ2) ∧ (w = 5 → K2 (some (sm (rlt σ2) (σ2 38 0 0).toNat)) σ2) ∧ (w = 6 → K2 (some (mxS (rlt σ2) (σ2 38 0 0).toNat)) σ2))) := fun σ1 R K2 h7 h3 hw => ⟨R.r, fun z => by omega, fun z => by omega, fun z => by omega, fun z => by omega, fun z => by omega, fun z => by omega, h7, h3⟩
  have k2 : ∀ K2 : Option Int → Mem → Prop, (¬ (0 ≤ w ∧ w ≤ 9) → K2 (some (-2)) σ) → (w = 0 → K2 (some (σ 38 0 0)) σ) → (w = 1 → K2 (some (wF (rSt σ) 0 (σ 38 0 0))) σ) → (w = 2 → K2 (some (wF (fun j => wF (rDu σ) (4 * j) (rSt σ j)) 0 (σ 38 0 0))) σ) → (w = 8 → K2 (some (σ 7 0 6)) σ) → (w = 9 → K2 (some (σ 7 0 2)) σ) → ¬ (3 ≤ w ∧ w ≤ 7) → rWF σ ∧ (¬ (0 ≤ w ∧ w ≤ 9) → K2 (some (-2)) σ) ∧ (w = 0 → K2 (some (σ 38 0 0)) σ) ∧ (w = 1 → K2 (some (wF (rSt σ) 0 (σ 38 0 0))) σ) ∧ (w = 2 → K2 (some (wF (fun j => wF (rDu σ) (4 * j) (rSt σ j)) 0 (σ 38 0 0))) σ) ∧ (w = 8 → K2 (some (σ 7 0 6)) σ) ∧ (w = 9 → K2 (some (σ 7 0 2)) σ) ∧ (w = 7 → (∀ σ2, FrG pFd σ σ2 → (∀ h, ¬ rH σ h) → K2 (some 0) σ2) ∧ (∀ σ2, Fnd σ σ2 → K2 (some 1) σ2)) ∧ (3 ≤ w → w ≤ 6 → (∀ σ2, FrG pFd σ σ2 → (∀ h, ¬ rH σ h) → K2 (some (-6)) σ2) ∧ (∀ σ2, RPl σ σ2 → (w = 3 → K2 (some (σ2 7 0 12)) σ2) ∧ (w = 4 → K2 (some (sm (blk (rMc σ2) (σ2 47 0)) (σ2 7 0 12).toNat)) σ2) ∧ (w = 5 → K2 (some (sm (rlt σ2) (σ2 38 0 0).toNat)) σ2) ∧ (w = 6 → K2 (some (mxS (rlt σ2) (σ2 38 0 0).toNat)) σ2))) := fun K2 a b c d e f g => ⟨h.r, a, b, c, d, e, f, fun z => by omega, fun z y => by omega⟩
  have eJ := h.ag.1
  have j4 := h.w.1.1.2
  refine ⟨⟨h.w, h.2.2.2.2.1⟩, fun a => k2 _ (fun _ => hK _ _ h) (fun z => by omega) (fun z => by omega) (fun z => by omega) (fun z => by omega) (fun z => by omega) (by omega), fun a => k2 _ (fun z => by omega) (fun _ => ?_) (fun z => by omega) (fun z => by omega) (fun z => by omega) (fun z => by omega) (by omega), fun a => k2 _ (fun z => by omega) (fun z => by omega) (fun _ => ?_) (fun z => by omega) (fun z => by omega) (fun z => by omega) (by omega), fun a => k2 _ (fun z => by omega) (fun z => by omega) (fun z => by omega) (fun _ => ?_) (fun z => by omega) (fun z => by omega) (by omega), fun a => k2 _ (fun z => by omega) (fun z => by omega) (fun z => by omega) (fun z => by omega) (fun _ => ?_) (fun z => by omega) (by omega), fun a => k2 _ (fun z => by omega) (fun z => by omega) (fun z => by omega) (fun z => by omega) (fun z => by omega) (fun _ => ?_) (by omega), fun a => ⟨fun σ1 hF hc hN => ?_, fun σ1 hF hc hP => ?_⟩⟩
  · rw [eJ]
    exact hK _ _ h
  · rw [eJ, wF_cg (f := σ 10 0) (g := rSt σ) (fun k k0 _ k4 => h.ag.2.1 (0 + k) (by omega) (by omega))]
    exact hK _ _ h
  · have e : wF (fun j => wF (σ 12 0) (4 * j) (σ 10 0 j)) 0 (σ 38 0 0) = wF (fun j => wF (rDu σ) (4 * j) (rSt σ j)) 0 (σ 38 0 0) := wF_cg (fun k k0 _ k4 => by
      have q := h.ag.wk h.w.1 (show 0 ≤ 0 + k by omega) (by omega) (Int.le_refl 0) (show 0 + σ 10 0 (0 + k) ≤ σ 10 0 (0 + k) by omega)
      rw [Int.add_zero] at q
      rw [q, h.ag.2.1 (0 + k) (by omega) (by omega)])
    rw [eJ, e]
    exact hK _ _ h
  · rw [h.2.2.2.1.1]
    exact hK _ _ h
  · rw [h.2.1.2.1]
    exact hK _ _ h
  · have R := REL_kn h hF hc
    have nn := kn_no R hF hN
    exact ⟨fun b => key σ1 R _ (fun z => absurd z b) (fun _ _ => ⟨fun σ2 hF2 _ => hK _ _ (rf_Fd R hF2), fun σ2 hR => absurd hR.2.1 (nn _)⟩) (by omega), fun b => key σ1 R _ (fun _ => ⟨fun σ2 hF2 _ => hK _ _ (rf_Fd R hF2), fun σ2 hF2 => absurd hF2.2.1 (nn _)⟩) (fun z y => by omega) (by omega)⟩
  · have R := REL_kn h hF hc
    have is := kn_is R hP
    have n16 := (PK_n R.w hP)
    have hv := (PTi_v R.w.1 hP.2).1
    have eJ := R.ag.1
    have J := R.w.1.1
    have elt : ∀ σ2 L, RP2 σ1 σ2 L → ∀ i : Nat, (i : Int) < σ1 5 0 0 → ltV σ1 i = rlt σ2 i := fun σ2 L hR i q => (ej_eq R hP hR.2.1 hR.2.2.1 (pRP_38 hR.1) (by omega) q).2
    have e38 : ∀ σ2 L, RP2 σ1 σ2 L → σ2 38 0 0 = σ1 5 0 0 := fun σ2 L hR => by rw [pRP_38 hR.1, eJ]
    refine ⟨fun b => key σ1 R _ (fun _ => ⟨fun σ2 _ z => absurd is (z _), fun σ2 hF2 => hK _ _ (rf_Fd R hF2.1)⟩) (fun z y => by omega) (by omega), fun b => key σ1 R _ (fun z => by omega) (fun _ _ => ⟨fun σ2 _ z => absurd is (z _), fun σ2 hR => ⟨fun _ => ?_, fun z => by omega, fun z => by omega, fun z => by omega⟩⟩) (by omega), fun b => key σ1 R _ (fun z => by omega) (fun _ _ => ⟨fun σ2 _ z => absurd is (z _), fun σ2 hR => ⟨fun z => by omega, fun _ => ?_, fun z => by omega, fun z => by omega⟩⟩) (by omega), fun b => key σ1 R _ (fun z => by omega) (fun _ _ => ⟨fun σ2 _ z => absurd is (z _), fun σ2 hR => ⟨fun z => by omega, fun z => by omega, fun _ => ?_, fun z => by omega⟩⟩) (by omega), fun b => key σ1 R _ (fun z => by omega) (fun _ _ => ⟨fun σ2 _ z => absurd is (z _), fun σ2 hR => ⟨fun z => by omega, fun z => by omega, fun z => by omega, fun _ => ?_⟩⟩) (by omega)⟩
    · obtain ⟨L, hR⟩ := RPl_2 hR
      rw [(PR_P R hP hR).2.1]
      exact hK _ _ (rf_RP R hR.1)
    · obtain ⟨L, hR⟩ := RPl_2 hR
      obtain ⟨-, e1, e2⟩ := PR_P R hP hR
      have e : sm (blk (σ1 11 0) (σ1 37 0)) (σ1 3 0 1).toNat = sm (blk (rMc σ2) (σ2 47 0)) (σ1 3 0 1).toNat := blk_cg _ (fun k a b => e2 k a (by omega)) (fun k a b => by
        have v := hv k a (by omega)
        rw [(r38 (pRP_38 hR.1)).2.1]
        exact (R.ag.2.2.1 _ v).1)
      rw [e, e1]
      exact hK _ _ (rf_RP R hR.1)
    · obtain ⟨L, hR⟩ := RPl_2 hR
      rw [e38 σ2 L hR, sm_cg _ (fun i q => elt σ2 L hR i (by omega))]
      exact hK _ _ (rf_RP R hR.1)
    · obtain ⟨L, hR⟩ := RPl_2 hR
      rw [e38 σ2 L hR, mxS_cg _ (fun i q => elt σ2 L hR i (by omega))]
      exact hK _ _ (rf_RP R hR.1)
theorem q_save {σ : Mem} (h : REL σ) (s : Int) {K : Option Int → Option Int → Mem → Prop} (hK : ∀ r σ', REL σ' → K (some r) (some r) σ') : T_X6_save [.inr (.inl (6, 0)), .inl s] σ (fun r σ1 => T_X7_save [.inr (.inl (7, 0)), .inl s] σ1 (fun r2 σ2 => K r r2 σ2)) := by
  unfold T_X6_save T_X7_save
  dsimp only
  refine ⟨fun a => ⟨h.r, fun _ => hK _ _ h, fun z => absurd z a⟩, fun a σ1 hB => ?_⟩
  have c : ∀ t k j, up σ1 35 0 s 1 t k j = if t = 35 ∧ k = 0 ∧ j = s then 1 else if k = 8 + s.toNat ∧ ((t = 5 ∧ j = 0) ∨ (8 ≤ t ∧ t ≤ 14 ∧ 0 ≤ j ∧ j < (if t = 11 ∨ t = 12 ∨ t = 14 then 16 else 4))) then σ t 0 j else σ t k j := fun t k j => by
    rw [up_ap, hB t k j]
  have e38 : up σ1 35 0 s 1 38 0 = σ 38 0 := funext fun j => by rw [c, if_neg (by omega), if_neg (by omega)]
  refine ⟨(r38 e38).2.2.2.2.2.2.2.1.mpr h.r, fun z => absurd a z, fun _ σ3 hC => ?_⟩
  rw [e38] at hC ⊢
  rw [h.ag.1]
  refine hK _ _ ?_
  obtain ⟨c1, -, -, c4⟩ := hC
  have d : ∀ t k j, ¬ (t = 40 ∧ k = 0 ∧ 65 * s ≤ j ∧ j < 65 * s + 65) → up σ3 41 0 s 1 t k j = if t = 41 ∧ k = 0 ∧ j = s then 1 else up σ1 35 0 s 1 t k j := fun t k j q => by
    rw [up_ap]
    by_cases z : t = 41 ∧ k = 0 ∧ j = s
    · rw [if_pos z, if_pos z]
    · rw [if_neg z, if_neg z]
      exact c1 t k j (by unfold pRow; exact q)
  have E : ∀ t k j, t ≠ 35 → t ≠ 40 → t ≠ 41 → ¬ (k = 8 + s.toNat ∧ (t = 5 ∨ (8 ≤ t ∧ t ≤ 14))) → up σ3 41 0 s 1 t k j = σ t k j := fun t k j q r u v => by
    rw [d t k j (by omega), if_neg (by omega), c t k j, if_neg (by omega), if_neg (by omega)]
  have E1 : ∀ t, t ≠ 35 → t ≠ 40 → t ≠ 41 → up σ3 41 0 s 1 t 0 = σ t 0 := fun t q r u => funext fun x => E t 0 x q r u (by omega)
  have S : ∀ i f, i ≠ 8 + s.toNat → SIM σ i f → SIM (up σ3 41 0 s 1) i f := fun i f q z => SIM_m z (fun t j r => E t i j (by omega) (by omega) (by omega) (by omega)) (fun _ _ _ => rfl)
  obtain ⟨h1, ⟨h2, h3, h4⟩, h5, hp, hc⟩ := h
  refine ⟨?_, ⟨?_, ?_, fun d a b => ?_⟩, fun s' a' b' => ?_, ?_, RCa_g hc (fun t a x q r => E t a x (by omega) (by omega) (by omega) (by omega))⟩
  · rw [E1 38 (by omega) (by omega) (by omega)]
    exact S 0 _ (by omega) h1
  · unfold hsB
    rw [E1 0 (by omega) (by omega) (by omega)]
    exact h2
  · rw [E1 0 (by omega) (by omega) (by omega), E1 7 (by omega) (by omega) (by omega)]
    exact h3
  · rw [E1 7 (by omega) (by omega) (by omega)] at b
    rw [E1 0 (by omega) (by omega) (by omega), E1 7 (by omega) (by omega) (by omega), E1 39 (by omega) (by omega) (by omega)]
    exact S _ _ (by omega) (h4 d a b)
  · by_cases z : s' = s
    · rw [z]
      have x35 : up σ3 41 0 s 1 35 0 s = 1 := by rw [d _ _ _ (by omega), if_neg (by omega), c, if_pos ⟨rfl, rfl, rfl⟩]
      have x41 : up σ3 41 0 s 1 41 0 s = 1 := by rw [up_ap, if_pos ⟨rfl, rfl, rfl⟩]
      rw [x35, x41]
      refine ⟨Iff.rfl, fun _ => SIM_m h1 (fun t j r => ?_) (fun x x0 x1 => ?_)⟩
      · rw [d _ _ _ (by omega), if_neg (by omega), c, if_neg (by omega), if_pos ⟨rfl, r⟩]
      · rw [up_ap, if_neg (by omega)]
        exact c4 x x0 x1
    · have x35 : up σ3 41 0 s 1 35 0 s' = σ 35 0 s' := by rw [d _ _ _ (by omega), if_neg (by omega), c, if_neg (by omega), if_neg (by omega)]
      have x41 : up σ3 41 0 s 1 41 0 s' = σ 41 0 s' := by rw [d _ _ _ (by omega), if_neg (by omega), c, if_neg (by omega), if_neg (by omega)]
      rw [x35, x41]
      refine ⟨(h5 s' a' b').1, fun q => SIM_m ((h5 s' a' b').2 q) (fun t j r => E t _ j (by omega) (by omega) (by omega) (by omega)) (fun x x0 x1 => ?_)⟩
      rw [d _ _ _ (by omega), if_neg (by omega), c, if_neg (by omega), if_neg (by omega)]
  · unfold RPd
    rw [E1 2 (by omega) (by omega) (by omega), E1 7 (by omega) (by omega) (by omega), E1 36 (by omega) (by omega) (by omega), E1 42 (by omega) (by omega) (by omega)]
    exact hp
