/-! what is asked, both sides: 2 -/
theorem pBe_0 {σ σ' : Mem} (h : FrG pBe σ σ') (t a : Nat) (x : Int) (ht : (t ≤ 14 ∧ t ≠ 1 ∧ t ≠ 4) ∨ 32 < t ∨ t = 31 ∨ (a ≠ 0 ∧ a ≠ 2 ∧ t ≠ 32) ∨ (a = 0 ∧ t ≠ 4 ∧ t ≠ 27 ∧ t ≠ 28 ∧ t ≠ 29 ∧ t ≠ 30 ∧ t ≠ 32)) : σ' t a x = σ t a x := h t a x (by
  unfold pBe pL pF pS pC p26 pK
  rintro (q | (((q | q | q) | q | q) | q | q | q))
  · omega
  · omega
  · omega
  · omega
  · omega
  · omega
  · omega
  · omega
  · omega)
theorem REL_Be {σ σ1 : Mem} (h : REL σ) (hF : FrG pBe σ σ1) (hK : KSc σ1) : REL σ1 := by
  refine REL_fr h (fun t a x q => pBe_0 hF t a x (by unfold hrd at q; omega)) ⟨KPc_cg h.2.2.2.2.1 (fun t q => funext fun x => pBe_0 hF t 0 x (by omega)) (pBe_0 hF 1 0 8 (by omega)) (pBe_0 hF 3 0 1 (by omega)) (pBe_0 hF 6 0 8 (by omega)) (pBe_0 hF 6 0 9 (by omega)), hK, KRc_cg h.2.2.2.2.2.2 (fun t q => funext fun x => pBe_0 hF t 0 x (by omega)) (fun x q => pBe_0 hF 4 1 x (by omega)) (fun x q => pBe_0 hF 6 0 x (by omega)) (funext fun x => pBe_0 hF 27 1 x (by omega))⟩
theorem pB1_0 {σ σ' : Mem} (h : FrG pB1 σ σ') (t a : Nat) (x : Int) (ht : a ≠ 1 ∨ (t < 15 ∧ t ≠ 1) ∨ 26 < t) : σ' t a x = σ t a x := h t a x (by unfold pB1 pNt p26; omega)
theorem REL_B1 {σ σ1 : Mem} (h : REL σ) (hF : FrG pB1 σ σ1) : REL σ1 := REL_fr h (fun t a x q => pB1_0 hF t a x (by unfold hrd at q; omega)) ⟨KPc_cg h.2.2.2.2.1 (fun t q => funext fun x => pB1_0 hF t 0 x (by omega)) (pB1_0 hF 1 0 8 (by omega)) (pB1_0 hF 3 0 1 (by omega)) (pB1_0 hF 6 0 8 (by omega)) (pB1_0 hF 6 0 9 (by omega)), KSc_cg h.2.2.2.2.2.1 (fun t q => funext fun x => pB1_0 hF t 0 x (by omega)) (fun x q => pB1_0 hF 4 0 x (by omega)) (funext fun x => pB1_0 hF 27 0 x (by omega)), KRc_cg h.2.2.2.2.2.2 (fun t q => funext fun x => pB1_0 hF t 0 x (by omega)) (fun x q => pB1_0 hF 4 1 x (by omega)) (fun x q => pB1_0 hF 6 0 x (by omega)) (funext fun x => pB1_0 hF 27 1 x (by omega))⟩
theorem REL_KB {σ σ1 : Mem} (h : REL σ) (hF : FrG pKB σ σ1) (hK : KPc σ1) (hR : KRc σ1) : REL σ1 := REL_fr h (fun t a x q => by
  unfold hrd at q
  rcases (show t = 2 ∧ x = 1 ∨ t ≠ 2 by omega) with z | z
  · rw [pKB_f hF t a (by omega)]
  · rw [pKB_f hF t a (by omega)]) ⟨hK, KSc_cg h.2.2.2.2.2.1 (fun t q => pKB_f hF t 0 (by omega)) (fun x q => by rw [pKB_f hF 4 0 (by omega)]) (pKB_f hF 27 0 (by omega)), hR⟩
theorem rf_FB {σ σ' : Mem} (h : REL σ) (hF : FrG pFB σ σ') : REL σ' := REL_rf h (fun t a x q r => hF t a x (by unfold pFB; omega))
theorem rf_F4 {σ σ' : Mem} (h : REL σ) (hF : FrG pF4 σ σ') : REL σ' := REL_rf h (fun t a x q r => hF t a x (by unfold pF4; omega))
theorem rf_53 {σ σ' : Mem} (h : REL σ) (hF : FrG p53 σ σ') : REL σ' := REL_rf h (fun t a x q r => hF t a x (by unfold p53; omega))
theorem rf_45 {σ σ' : Mem} (h : REL σ) (hF : FrG p4556 σ σ') : REL σ' := REL_rf h (fun t a x q r => hF t a x (by unfold p4556; omega))
theorem q_bound {σ : Mem} (h : REL σ) (m : Int) {K : Option Int → Option Int → Mem → Prop} (hK : ∀ r σ', REL σ' → K (some r) (some r) σ') : T_X6_bound [.inr (.inl (6, 0)), .inl m] σ (fun r σ1 => T_X7_bound [.inr (.inl (7, 0)), .inl m] σ1 (fun r2 σ2 => K r r2 σ2)) := by
  unfold T_X6_bound T_X7_bound
  dsimp only
  refine ⟨h.w, fun a => ⟨h.r, fun _ => hK _ _ h, fun b => absurd b a⟩, fun a B σ1 hF hB _ _ => ?_⟩
  have R := REL_B1 h hF
  refine ⟨R.r, fun b => absurd a b, fun _ B' σ2 hF2 hB' _ _ => ?_⟩
  have e := fun t (q : t < 15 ∧ t ≠ 1) => (funext fun x => pB1_0 hF t 0 x (Or.inr (Or.inl q)) : σ1 t 0 = σ t 0)
  rw [← e 10 (by omega), ← e 11 (by omega), ← e 12 (by omega), ← e 8 (by omega)] at hB
  rw [bndS_un (R.ag.bnd R.w.1 hB) hB']
  exact hK _ _ (rf_53 R hF2)
theorem q_forced {σ : Mem} (h : REL σ) (u : Int) {K : Option Int → Option Int → Mem → Prop} (hK : ∀ r σ', REL σ' → K (some r) (some r) σ') : T_X6_forced2 [.inr (.inl (6, 0)), .inl u] σ (fun r σ1 => T_X7_forced [.inr (.inl (7, 0)), .inl u] σ1 (fun r2 σ2 => K r r2 σ2)) := by
  unfold T_X6_forced2 T_X7_forced
  dsimp only
  refine ⟨h.w, fun a => ⟨h.r, fun _ => hK _ _ h, fun b => absurd b a⟩, fun a B σ1 hF hB => ?_⟩
  have R := REL_B1 h hF
  refine ⟨R.r, fun b => absurd a b, fun _ B' σ2 hF2 hB' => ?_⟩
  have e := fun t (q : t < 15 ∧ t ≠ 1) => (funext fun x => pB1_0 hF t 0 x (Or.inr (Or.inl q)) : σ1 t 0 = σ t 0)
  rw [← e 10 (by omega), ← e 11 (by omega), ← e 12 (by omega), ← e 8 (by omega)] at hB
  rw [frS_un (R.ag.frS hB) hB']
  exact hK _ _ (rf_45 R hF2)
theorem q_isForced {σ : Mem} (h : REL σ) (u x y : Int) {K : Option Int → Option Int → Mem → Prop} (hK : ∀ r σ', REL σ' → K (some r) (some r) σ') : T_X6_isForced [.inr (.inl (6, 0)), .inl u, .inl x, .inl y] σ (fun r σ1 => T_X7_isForced [.inr (.inl (7, 0)), .inl u, .inl x, .inl y] σ1 (fun r2 σ2 => K r r2 σ2)) := by
  unfold T_X6_isForced T_X7_isForced
  dsimp only
  have V := fun (σ : Mem) (h : REL σ) x => h.ag.V x
  refine ⟨h.w, fun a => ⟨h.r, fun _ => hK _ _ h, fun b => absurd ⟨(V σ h x).mp b.1, (V σ h y).mp b.2⟩ a, fun b => absurd ⟨(V σ h x).mp b.1, (V σ h y).mp b.2⟩ a⟩, fun a b => ?_, fun a b c d r σ1 hF hB => ?_⟩
  · have e1 := (h.ag.2.2.1 x a.1).1
    have e2 := (h.ag.2.2.1 y a.2).1
    rw [e1, e2] at b
    exact ⟨h.r, fun c => absurd ⟨(V σ h x).mpr a.1, (V σ h y).mpr a.2⟩ c, fun _ _ => hK _ _ h, fun _ c d e => absurd ⟨c, d, e⟩ b⟩
  · have R := REL_B1 h hF
    have e := fun t (q : t < 15 ∧ t ≠ 1) => (funext fun x => pB1_0 hF t 0 x (Or.inr (Or.inl q)) : σ1 t 0 = σ t 0)
    rw [← e 10 (by omega)] at a
    have e1 := (R.ag.2.2.1 x a.1).1
    have e2 := (R.ag.2.2.1 y a.2).1
    rw [← e 11 (by omega), e1, e2] at d
    have a' : rOp σ1 x ∧ rOp σ1 y := ⟨(V σ1 R x).mpr a.1, (V σ1 R y).mpr a.2⟩
    refine ⟨R.r, fun z => absurd a' z, fun _ z => absurd ⟨b, c, d⟩ z, fun _ _ _ _ r' σ2 hF2 hB' => ?_⟩
    rw [← e 10 (by omega), ← e 11 (by omega), ← e 12 (by omega), ← e 8 (by omega)] at hB
    rw [ifS_un a'.1 a'.2 c d (R.ag.ifS hB) hB']
    exact hK _ _ (rf_45 R hF2)
theorem bst_eq {σ σ' : Mem} (h : REL σ) {le le' : Int} {f f' : Int → Int} (hB : sBst σ le f) (hn : le ≠ 1000000) (hB' : bstS (rSt σ) (rMc σ) (rDu σ) (rRe σ) (rLn σ) (rQ σ) le' f') : le = le' ∧ ∀ m k, 0 ≤ m → m < 4 → 0 ≤ k → k < rLn σ m → f (4 * m + k) = f' (4 * m + k) := by
  unfold sBst at hB
  rw [bstS_G] at hB hB'
  exact bstG_un (fun m a b => (rW_l h.r m a b).2) (bstG_cg h.ag h.w.1 (fun o v => (h.ag.2.2.1 o v).2.2) (fun m a b => (h.w.1.2.2.2.2.1 m a b).1) hB) hB' hn
theorem q_best {σ : Mem} (h : REL σ) (m x : Int) {K : Option Int → Option Int → Mem → Prop} (hK : ∀ r σ', REL σ' → K (some r) (some r) σ') : T_X6_best [.inr (.inl (6, 0)), .inl m, .inl x] σ (fun r σ1 => T_X7_best [.inr (.inl (7, 0)), .inl m, .inl x] σ1 (fun r2 σ2 => K r r2 σ2)) := by
  unfold T_X6_best T_X7_best
  dsimp only
  refine ⟨⟨h.w, h.2.2.2.2.2.1⟩, fun a => ⟨h.r, fun _ => hK _ _ h, fun b c => absurd ⟨b, c⟩ a⟩, fun a b c => ?_, fun a b c σ1 le f hF hS hB hn => ?_⟩
  · have e := h.ag.2.2.2.1 m a (by omega)
    rw [e] at c
    exact ⟨h.r, fun d => absurd ⟨by omega, b⟩ d, fun _ _ σ2 le hF2 _ => ⟨fun d => by omega, fun _ _ => hK _ _ (rf_FB h hF2), fun _ d => absurd d c⟩⟩
  · have R := REL_Be h hF hS
    have e := fun t (q : t ≤ 14 ∧ t ≠ 1 ∧ t ≠ 4) => (funext fun x => pBe_0 hF t 0 x (Or.inl q) : σ1 t 0 = σ t 0)
    have hB1 : sBst σ1 le f := (sBst_cg (fun t q => e t (by omega))).mpr hB
    refine ⟨fun d => ⟨R.r, fun z => absurd ⟨a, b⟩ z, fun _ _ σ2 le2 hF2 hB2 => ⟨fun _ => ?_, fun z => by omega, fun z => by omega⟩⟩, fun d => ⟨R.r, fun z => absurd ⟨a, b⟩ z, fun _ _ σ2 le2 hF2 hB2 => ⟨fun z => by omega, fun _ z => ?_, fun _ z => ?_⟩⟩⟩
    · rw [(bst_eq (σ' := σ2) R hB1 hn hB2).1]
      exact hK _ _ (rf_FB R hF2)
    · have c2 := c d
      rw [← e 13 (by omega), R.ag.2.2.2.1 m d (by omega)] at c2
      exact absurd c2 z
    · rw [(bst_eq (σ' := σ2) R hB1 hn hB2).2 m x d (by omega) z.1 z.2]
      exact hK _ _ (rf_FB R hF2)
theorem q_breakdown {σ : Mem} (h : REL σ) (b t u w : Int) {K : Option Int → Option Int → Mem → Prop} (hK : ∀ r σ', REL σ' → K (some r) (some r) σ') : T_X6_breakdown [.inr (.inl (6, 0)), .inl b, .inl t, .inl u, .inl w] σ (fun r σ1 => T_X7_breakdown [.inr (.inl (7, 0)), .inl b, .inl t, .inl u, .inl w] σ1 (fun r2 σ2 => K r r2 σ2)) := by
  unfold T_X6_breakdown T_X7_breakdown
  dsimp only
  have E : ∀ σ1, FrG pKB σ σ1 → ∀ t, t = 5 ∨ (8 ≤ t ∧ t ≤ 14) → σ1 t 0 = σ t 0 := fun σ1 hF t q => pKB_f hF t 0 (by omega)
  refine ⟨⟨h.w, h.2.2.2.2.1, h.2.2.2.2.2.2⟩, fun a => ⟨h.r, fun _ => hK _ _ h, fun c => absurd c a⟩, fun a => ⟨fun σ1 hF hP hR hN => ?_, fun σ1 hF hP hR hY c d => ?_, fun σ1 le f hF hP hR hB hn c => ?_⟩⟩
  · have R := REL_KB h hF hP hR
    have hn : ∀ g, ¬ rH σ1 g := fun g z => hN g ((sH_cg (fun t q => E σ1 hF t (by omega))).mp ((R.ag.H R.w.1).mpr z))
    refine ⟨R.r, fun z => absurd a z, fun _ => ⟨fun σ2 hF2 _ => hK _ _ (rf_F4 R hF2), fun σ2 le hF2 hB2 => ?_⟩⟩
    obtain ⟨h0, H, -⟩ := hB2
    exact absurd H (hn _)
  · have R := REL_KB h hF hP hR
    obtain ⟨g, hg⟩ := hY
    have hg1 : rH σ1 g := (R.ag.H R.w.1).mp ((sH_cg (fun t q => E σ1 hF t (by omega))).mpr hg)
    have el := R.ag.2.2.2.1 (w / 4) (by omega) (by omega)
    rw [E σ1 hF 13 (by omega)] at el
    rw [el] at d
    exact ⟨R.r, fun z => absurd a z, fun _ => ⟨fun σ2 hF2 z => absurd hg1 (z g), fun σ2 le hF2 hB2 => ⟨fun z => by omega, fun _ _ => hK _ _ (rf_F4 R hF2), fun _ z => absurd z d⟩⟩⟩
  · have R := REL_KB h hF hP hR
    have hB1 : sBrk σ1 b t u le f := by
      unfold sBrk
      rw [E σ1 hF 8 (by omega), E σ1 hF 10 (by omega), E σ1 hF 11 (by omega), E σ1 hF 12 (by omega), E σ1 hF 13 (by omega), E σ1 hF 14 (by omega)]
      exact hB
    have hB2 : rBrk σ1 b t u le f := R.ag.brkS R.w.1 hB1
    have hg1 : ∃ g, rH σ1 g := hB2.elim (fun g z => ⟨g, z.1⟩)
    have un := fun (σ2 : Mem) le2 (z : rBrk σ1 b t u le2 (σ2 51 0)) => brkS_un R.r.1 (fun o v => (rWF_op R.r v).2.2.2.2.2.1) hB2 z hn
    have el : 0 ≤ w → σ 13 0 (w / 4) = rLn σ1 (w / 4) := fun z => by
      have el := R.ag.2.2.2.1 (w / 4) (by omega) (by omega)
      rw [E σ1 hF 13 (by omega)] at el
      exact el
    refine ⟨fun d => ⟨R.r, fun z => absurd a z, fun _ => ⟨fun σ2 hF2 z => absurd hg1 (fun ⟨g, y⟩ => z g y), fun σ2 le2 hF2 hC => ⟨fun _ => ?_, fun z => by omega, fun z => by omega⟩⟩⟩, fun d => ⟨R.r, fun z => absurd a z, fun _ => ⟨fun σ2 hF2 z => absurd hg1 (fun ⟨g, y⟩ => z g y), fun σ2 le2 hF2 hC => ⟨fun z => by omega, fun _ z => ?_, fun _ z => ?_⟩⟩⟩⟩
    · rw [(un σ2 le2 hC).1]
      exact hK _ _ (rf_F4 R hF2)
    · have := el d
      omega
    · have q := (un σ2 le2 hC).2 (w / 4) (w % 4) (by omega) (by omega) (by omega) z
      rw [show 4 * (w / 4) + w % 4 = w by omega] at q
      rw [q]
      exact hK _ _ (rf_F4 R hF2)
