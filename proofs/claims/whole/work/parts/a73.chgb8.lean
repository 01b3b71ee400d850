/-! what changes, both sides: loadPlan -/
theorem fit_eq {σ1 τ : Mem} {ln q : Int → Int} (h : REL σ1) (e : τ 38 0 = σ1 38 0) (hP : PL σ1 1 ln q) (hO : OOk τ ln q) : fitC σ1 4 ↔ fitR τ (τ 7 0 23) := by
  have R := r38 e
  have hw : rWF τ := R.2.2.2.2.2.2.2.1.mpr h.r
  have el : ∀ m, 0 ≤ m → m < 4 → σ1 13 0 m = rLn τ m := fun m a b => by rw [R.2.2.2.2.2.1]; exact h.ag.2.2.2.1 m a b
  have eq : ∀ m k, 0 ≤ m → m < 4 → 0 ≤ k → k < σ1 13 0 m → σ1 14 0 (4 * m + k) = rQ τ (4 * m + k) := fun m k a b c d => by rw [R.2.2.2.2.2.2.1]; exact h.ag.2.2.2.2 m k a b c d
  have iq : ∀ m x, 0 ≤ m → m < 4 → (inq (σ1 14 0) (4 * m) (σ1 13 0 m) x ↔ inq (rQ τ) (4 * m) (rLn τ m) x) := fun m x a b => by
    constructor
    · rintro ⟨i, i0, i1, z⟩
      exact ⟨i, i0, by rw [← el m a b]; exact i1, by rw [← eq m i a b i0 i1]; exact z⟩
    · rintro ⟨i, i0, i1, z⟩
      rw [← el m a b] at i1
      exact ⟨i, i0, i1, by rw [eq m i a b i0 i1]; exact z⟩
  constructor
  · intro hf k k0 k1
    have P := OOk_p hO k0 k1
    have pl := hP.2.2 (τ 55 0 (11 * k)) P.1 P.2.1
    have nb : hasB (σ1 2 0 3) (τ 55 0 (11 * k)) := pl.1.mpr (by rw [P.2.2.2.2.1]; exact P.2.2.1)
    have e13 : σ1 13 1 (τ 55 0 (11 * k)) = τ 55 0 (11 * k + 1) := by rw [pl.2.1, if_neg (by rw [P.2.2.2.2.1]; omega), P.2.2.2.2.1]
    have o1 := oOK_l hP P.1 P.2.1
    have o0 := WF_oOK h.w.1 P.1 P.2.1
    have s := (sF_perm o1 o0).mp (hf _ P.1 P.2.1 nb)
    have p := (inq_perm o1 o0 s).1
    refine ⟨by rw [← e13, p]; exact el _ P.1 P.2.1, fun i i0 i1 => ?_⟩
    have d := P.2.2.2.2.2.2 i i0 i1
    refine (je_q hw P.1 P.2.1 d.2.1 d.2.2).mpr ((iq _ _ P.1 P.2.1).mp ((s _ d.2.1 d.2.2).mp ⟨i, i0, by omega, ?_⟩))
    rw [pl.2.2.2 i i0 (by omega)]
    exact d.1.symm
  · intro hf m m0 m1 nb
    have pl := hP.2.2 m m0 m1
    have lm := pl.1.mp nb
    obtain ⟨k, k0, k1, ek⟩ := hO.2.2.2.2.1 m m0 m1 lm
    have P := OOk_p hO k0 k1
    obtain ⟨g1, g2⟩ := hf k k0 k1
    rw [ek] at P g1 g2
    have e13 : σ1 13 1 m = rLn τ m := by rw [pl.2.1, if_neg (by omega), P.2.2.2.2.1, g1]
    have o1 := oOK_l hP m0 m1
    have o0 := WF_oOK h.w.1 m0 m1
    refine (sF_perm o1 o0).mpr (fun z _ _ => ?_)
    rw [iq m z m0 m1, e13]
    have oq : oOK q (4 * m) (rLn τ m) := by
      have := P.2.2.2.2.2.1
      rw [g1] at this
      exact this
    have sub : ∀ x, 0 ≤ x → x < rLn τ m → inq (rQ τ) (4 * m) (rLn τ m) (q (4 * m + x)) := fun x x0 x1 => by
      have d := P.2.2.2.2.2.2 x x0 (by omega)
      have := g2 x x0 (by omega)
      rw [d.1] at this d
      exact (je_q hw m0 m1 d.2.1 d.2.2).mp this
    have ex : ∀ x, ∃ y, 0 ≤ x → x < rLn τ m → 0 ≤ y ∧ y < rLn τ m ∧ rQ τ (4 * m + y) = q (4 * m + x) := fun x => by
      by_cases d : 0 ≤ x ∧ x < rLn τ m
      · obtain ⟨y, y0, y1, z⟩ := sub x d.1 d.2
        exact ⟨y, fun _ _ => ⟨y0, y1, z⟩⟩
      · exact ⟨0, fun a b => absurd ⟨a, b⟩ d⟩
    obtain ⟨p, hp⟩ := Classical.skolem.mp ex
    have inj : ∀ x x', 0 ≤ x → x < rLn τ m → 0 ≤ x' → x' < rLn τ m → q (4 * m + x) = q (4 * m + x') → x = x' := fun x x' a b c d z => by
      rcases (show x < x' ∨ x = x' ∨ x' < x by omega) with y | y | y
      · exact absurd z (oq.2.2.2 x x' a y d)
      · exact y
      · exact absurd z.symm (oq.2.2.2 x' x c y b)
    have q1 : ∀ x, 0 ≤ x → x < rLn τ m → σ1 14 1 (4 * m + x) = q (4 * m + x) := fun x a b => pl.2.2.2 x a (by omega)
    constructor
    · rintro ⟨i, i0, i1, z⟩
      have := sub i i0 i1
      rw [← q1 i i0 i1, z] at this
      exact this
    · rintro ⟨y, y0, y1, z⟩
      obtain ⟨x, x0, x1, w⟩ := PHs p oq.1 (fun x a b => ⟨(hp x a b).1, (hp x a b).2.1⟩) (fun x x' a b c d z => inj x x' a b c d (by rw [← (hp x a b).2.2, ← (hp x' c d).2.2, z])) y0 y1
      exact ⟨x, x0, x1, by rw [q1 x x0 x1, ← (hp x x0 x1).2.2, w]; exact z⟩
theorem q_loadPlan {σ : Mem} (h : REL σ) {K : Option Int → Option Int → Mem → Prop} (hK : ∀ r σ', REL σ' → K (some r) (some r) σ') : T_X6_loadPlan [.inr (.inl (6, 0))] σ (fun r σ1 => T_X7_loadPlan [.inr (.inl (7, 0))] σ1 (fun r2 σ2 => K r r2 σ2)) := by
  unfold T_X6_loadPlan T_X7_loadPlan
  dsimp only
  have B : ∀ σ, REL σ → 0 ≤ xL σ ∧ xL σ ≤ 80 := fun σ h => by
    rw [← (REL_tx h).1]
    exact ⟨h.2.2.2.1.2.1, h.2.2.2.1.2.2.1⟩
  refine ⟨⟨h.w, h.2.1.1, h.2.2.2.1.2.1, h.2.2.2.1.2.2.1⟩, fun σ1 hE hn => ?_, fun σ1 hE hy hf => ?_, fun σ1 σ2 σ3 σ4 hE hy hf hR hL h4 hw4 => ?_⟩
  · have R := REL_Pl h hE.1
    have c := pPl_c hE.1
    rw [← c.1, ← c.2, (REL_tx R).2.2.2.2.2] at hn
    exact ⟨⟨R.r, pmB_r R, B σ1 R⟩, fun τ hF _ => hK _ _ (rf_Rt R hF.1), fun τ hF z => absurd z hn, fun τ κ μ _ _ z => absurd z hn⟩
  · have R := REL_Pl h hE.1
    have c := pPl_c hE.1
    have hP := hE.2 hy
    rw [← c.1, ← c.2, (REL_tx R).2.2.2.2.1] at hP
    rw [← c.1, ← c.2, (REL_tx R).2.2.2.2.2] at hy
    have FE : ∀ τ, OFe σ1 τ → (fitC σ1 4 ↔ fitR τ (τ 7 0 23)) := fun τ hF => fit_eq R (pRt_38 hF.1) hP (hF.2 hy)
    exact ⟨⟨R.r, pmB_r R, B σ1 R⟩, fun τ hF z => absurd hy z, fun τ hF _ _ => hK _ _ (rf_Rt R hF.1), fun τ κ μ _ hF _ z => absurd ((FE τ hF).mpr z) hf⟩
  · have R := REL_Pl h hE.1
    have c := pPl_c hE.1
    have hP := hE.2 hy
    rw [← c.1, ← c.2, (REL_tx R).2.2.2.2.1] at hP
    rw [← c.1, ← c.2, (REL_tx R).2.2.2.2.2] at hy
    have key : ∀ σ5, FrG pKn σ4 σ5 → KPc σ5 → ∀ K2 : Option Int → Mem → Prop, (∀ μ, REL μ → (∀ t a, t < 38 → t ≠ 7 → μ t a = σ5 t a) → (∀ ν, Fnd μ ν → K2 (some 1) ν) ∧ (∀ ν, FrG pFd μ ν → (∀ h, ¬ rH μ h) → K2 (some 0) ν)) → (rWF σ5 ∧ pmB σ5 ∧ 0 ≤ xL σ5 ∧ xL σ5 ≤ 80) ∧ (∀ σ1, OFe σ5 σ1 → plnF (xT σ5) (xL σ5) ≠ -6 → K2 (some (-3)) σ1) ∧ (∀ σ1, OFe σ5 σ1 → plnF (xT σ5) (xL σ5) = -6 → ¬ fitR σ1 (σ1 7 0 23) → K2 (some (-5)) σ1) ∧ (∀ σ1 σ2 σ3 σ4, OFe σ5 σ1 → plnF (xT σ5) (xL σ5) = -6 → fitR σ1 (σ1 7 0 23) → KEE σ1 σ2 → LPr σ2 σ3 (σ2 7 0 23) 0 → σ4 = up σ3 7 0 6 0 → rWF σ4 → (∀ σ5, Fnd σ4 σ5 → K2 (some 1) σ5) ∧ (∀ σ5, FrG pFd σ4 σ5 → (∀ h, ¬ rH σ4 h) → K2 (some 0) σ5)) := by
      intro σ5 hF5 hP5 K2 hK2
      have x : ∀ t y, ¬ (t = 5 ∨ (8 ≤ t ∧ t ≤ 14)) → t ≠ 0 → t ≠ 6 → ¬ (t = 4 ∧ y = 1) → t ≠ 2 → t ≠ 1 → t ≠ 3 → t ≠ 37 → ¬ (15 ≤ t ∧ t ≤ 25) → σ5 t 0 y = σ1 t 0 y := fun t y q u v w s a b c d => by
        rw [hF5 t 0 y (by unfold pKn pPa; omega), h4, up_ap, if_neg (by omega), hL.1 t 0 y (by omega), Rec_x hR t y (by omega)]
      have e38 : σ5 38 0 = σ1 38 0 := funext fun y => x 38 y (by omega) (by omega) (by omega) (by omega) (by omega) (by omega) (by omega) (by omega) (by omega)
      have eT : xT σ5 = xT σ1 := funext fun y => x 42 y (by omega) (by omega) (by omega) (by omega) (by omega) (by omega) (by omega) (by omega) (by omega)
      have eL : xL σ5 = xL σ1 := x 7 6 (by omega) (by omega) (by omega) (by omega) (by omega) (by omega) (by omega) (by omega) (by omega)
      have e72 : σ5 7 0 2 = σ1 7 0 2 := x 7 2 (by omega) (by omega) (by omega) (by omega) (by omega) (by omega) (by omega) (by omega) (by omega)
      have pm := pmB_r R
      have F : ∀ τ, OFe σ5 τ → OOk τ (pln0 (xT σ1) (xL σ1)).2.2.1 (pln0 (xT σ1) (xL σ1)).2.2.2 := fun τ hF => by
        have := hF.2
        rw [eT, eL] at this
        exact this hy
      have FE : ∀ τ, OFe σ5 τ → (fitC σ1 4 ↔ fitR τ (τ 7 0 23)) := fun τ hF => fit_eq R ((pRt_38 hF.1).trans e38) hP (F τ hF)
      refine ⟨⟨(r38 e38).2.2.2.2.2.2.2.1.mpr R.r, by unfold pmB at pm ⊢; rw [e72]; exact pm, by rw [eL]; exact (B σ1 R).1, by rw [eL]; exact (B σ1 R).2⟩, fun τ hF z => ?_, fun τ hF _ z => absurd ((FE τ hF).mp hf) z, fun τ κ μ1 μ hF _ hfR hE7 hLP h6 hwm => ?_⟩
      · rw [eT, eL] at z
        exact absurd hy z
      · have hO := F τ hF
        obtain ⟨k55, k23, k24⟩ := KEE_k hE7
        have m : ∀ t a y, ¬ (t = 38 ∧ a = 0 ∧ 49 ≤ y ∧ y < 65) → ¬ (t = 7 ∧ y = 6) → μ t a y = κ t a y := fun t a y q u => by rw [h6, up_ap, if_neg (by omega), hLP.1 t a y q]
        have lo : ∀ t a, t < 38 → t ≠ 7 → μ t a = σ5 t a := fun t a q r => funext fun y => by rw [m t a y (by omega) (by omega), KEE_t hE7 t a y (by omega), hF.1 t a y (by unfold pRt; omega)]
        have l4 : ∀ t, t = 5 ∨ (8 ≤ t ∧ t ≤ 14) → μ t 0 = σ4 t 0 := fun t q => by rw [lo t 0 (by omega) (by omega), pKn_f hF5 t 0 (by omega)]
        have l1 : ∀ t, t = 5 ∨ (8 ≤ t ∧ t ≤ 12) → μ t 0 = σ1 t 0 := fun t q => funext fun y => by rw [l4 t (by omega), h4, up_ap, if_neg (by omega), hL.1 t 0 y (by omega), Rec_x hR t y (by omega)]
        have l13 : ∀ y, 0 ≤ y → y < 4 → μ 13 0 y = σ1 13 0 y := fun y a b => by rw [l4 13 (by omega), h4, up_ap, if_neg (by omega), (hL.2 y a b).1, Rec_x hR 13 y (by omega)]
        have g38 : ∀ y, y < 49 → μ 38 0 y = σ1 38 0 y := fun y q => by rw [m 38 0 y (by omega) (by omega), KEE_t hE7 38 0 y (by omega), pRt_38 hF.1, e38]
        obtain ⟨g0, g1, g2, g3, g4, g5⟩ := SIM_d R.1
        have w := R.w
        have r0 := Rec_0 hR
        have e4x : ∀ a, σ5 4 a 1 = σ2 4 a 1 := fun a => by
          rw [hF5 4 a 1 (by unfold pKn pPa; omega), h4, up_ap, if_neg (by omega), hL.1 4 a 1 (by omega)]
        have S : SIM μ 0 (μ 38 0) := by
          refine SIM_k ?_ (fun j a b => ?_) ?_ (fun j a b => ?_) (fun o v => ?_) (fun y a b => ?_) (fun y k a b p q => ?_) (fun j a b => ?_)
          · rw [l4 5 (by omega), l4 10 (by omega), l4 11 (by omega), l4 12 (by omega), l4 13 (by omega), l4 14 (by omega)]
            exact hw4.1
          · rw [l4 5 (by omega)] at b
            rw [l4 8 (by omega), l4 9 (by omega)]
            exact hw4.2 j a b
          · rw [l1 5 (by omega), g38 0 (by omega)]
            exact g0
          · rw [l1 10 (by omega), g38 _ (by omega)]
            exact g1 j a b
          · rw [l1 10 (by omega)] at v
            have v0 := v.1
            have v1 := v.2.1
            rw [l1 11 (by omega), l1 12 (by omega), l1 8 (by omega), g38 _ (by omega), g38 _ (by omega), g38 _ (by omega)]
            exact g2 o v
          · rw [l13 y a b, g38 _ (by omega)]
            exact g3 y a b
          · rw [l13 y a b] at q
            have ly := (w.1.2.2.2.2.1 y a b).2
            have rq : μ 38 0 (49 + (4 * y + k)) = rQ μ1 (4 * y + k) := by
              rw [h6, up_ap, if_neg (by omega)]
              rfl
            rw [rq, l4 14 (by omega), h4, up_ap, if_neg (by omega), (hL.2 y a b).2 k p (by rw [Rec_x hR 13 y (by omega)]; exact q)]
            have e23 : σ2 2 0 3 = σ1 2 0 3 := Rec_x hR 2 3 (by omega)
            rw [e23]
            by_cases nb : hasB (σ1 2 0 3) y
            · rw [cif_1 ⟨b, nb⟩, RecE_e hR 14 1 _ (by omega)]
              have pl := hP.2.2 y a b
              have lm := pl.1.mp nb
              obtain ⟨k', k0, k1, ek⟩ := hO.2.2.2.2.1 y a b lm
              have P := OOk_p hO k0 k1
              obtain ⟨f1, f2⟩ := hfR k' k0 k1
              have e13 : σ1 13 1 y = τ 55 0 (11 * k' + 1) := by rw [pl.2.1, if_neg (by omega), ← P.2.2.2.2.1, ek]
              have el : σ1 13 0 y = τ 55 0 (11 * k' + 1) := by
                rw [f1, ek, (r38 ((pRt_38 hF.1).trans e38)).2.2.2.2.2.1]
                exact R.ag.2.2.2.1 y a b
              have lp := hLP.2.1 k' k k0 (by rw [k23]; exact k1) p (by rw [k55]; omega) (Or.inl (by rw [k23]; exact k1))
              rw [k55, ek] at lp
              have d := P.2.2.2.2.2.2 k p (by omega)
              rw [ek] at d
              rw [lp, d.1, pl.2.2.2 k p (by omega)]
            · rw [cif_0 (fun z => nb z.2), Rec_x hR 14 _ (by omega)]
              have old := hLP.2.2 y k a b p (by omega) (fun k' k0 k1 z => nb ((hP.2.2 y a b).1.mpr (by
                rw [k55] at z
                rw [k23] at k1
                have P := OOk_p hO k0 k1
                rw [z] at P
                rw [P.2.2.2.2.1]
                exact P.2.2.1)))
              rw [old, g4 y k a b p q]
              unfold rQ
              rw [KEE_t hE7 38 0 _ (by omega), pRt_38 hF.1, e38]
          · rw [l1 5 (by omega)] at b
            have j4 := w.1.1.2
            rw [l1 8 (by omega), l1 9 (by omega), g38 _ (by omega), g38 _ (by omega)]
            exact g5 j a b
        refine hK2 μ (REL_ch R hR (fun t k j q u v => ?_) (RCa_lo (σ := σ5) (fun t a x q r => by rw [lo t a q r]) ⟨hP5, Or.inl (by rw [e4x]; exact r0.2.1), Or.inl (by rw [e4x]; exact r0.2.2)⟩) hE7 (fun t k j q u v w => m t k j (by omega) (by omega)) S (RPd_0 ?_ ?_ (fun y q => ?_))) lo
        · rw [hF.1 t k j (by unfold hrd at q; unfold pRt; omega), hF5 t k j (by unfold hrd at q; unfold pKn pPa; omega), h4, up_ap, if_neg (by omega), hL.1 t k j (by omega)]
        · rw [lo 2 0 (by omega) (by omega), hF5 2 0 1 (by unfold pKn pPa; omega), h4, up_ap, if_pos ⟨rfl, rfl, rfl⟩]
        · rw [h6, up_ap, if_pos ⟨rfl, rfl, rfl⟩]
        · have p := R.2.2.2.1
          rw [lo 36 0 (by omega) (by omega), x 36 y (by omega) (by omega) (by omega) (by omega) (by omega) (by omega) (by omega) (by omega) (by omega), m 42 0 y (by omega) (by omega), KEE_t hE7 42 0 y (by omega), hF.1 42 0 y (by unfold pRt; omega), x 42 y (by omega) (by omega) (by omega) (by omega) (by omega) (by omega) (by omega) (by omega) (by omega)]
          exact p.2.2.2 y (by have := p.2.1; omega)
    refine ⟨fun σ5 hF5 hP5 hPK => key σ5 hF5 hP5 _ (fun μ Rm lo => ?_), fun σ5 hF5 hP5 hN => key σ5 hF5 hP5 _ (fun μ Rm lo => ?_)⟩
    · have Pm : PK μ := PK_cg (fun t q => lo t 0 (by omega) (by omega)) (by rw [lo 1 0 (by omega) (by omega)]) (by rw [lo 3 0 (by omega) (by omega)]) hPK
      exact ⟨fun ν hF => hK _ _ (rf_Fd Rm hF.1), fun ν hF hn => absurd (kn_is Rm Pm) (hn _)⟩
    · have nn : ∀ g, ¬ rH μ g := fun g z => hN g ((sH_cg (fun t q => pKn_f hF5 t 0 (by omega))).mp ((sH_cg (fun t q => lo t 0 (by omega) (by omega))).mp ((Rm.ag.H Rm.w.1).mpr z)))
      exact ⟨fun ν hF => absurd hF.2.1 (nn _), fun ν hF _ => hK _ _ (rf_Fd Rm hF)⟩
