/-! what changes, both sides: improve -/
theorem AG.ex {J J' : Int} {st st' mc mc' du du' re re' ln ln' q q' : Int → Int} (h : AG J J' st st' mc mc' du du' re re' ln ln' q q') (hW : WF J st mc du ln q) {m x : Int} (m0 : 0 ≤ m) (m1 : m < 4) (x0 : 0 ≤ x) (x1 : x + 1 < ln m) : AG J J' st st' mc mc' du du' re re' ln ln' (exQ q (4 * m + x)) (exQ q' (4 * m + x)) := by
  refine ⟨h.1, h.2.1, h.2.2.1, h.2.2.2.1, fun m' k a b c d => ?_⟩
  have l4 := (hW.2.2.2.2.1 m m0 m1).2
  have l4' := (hW.2.2.2.2.1 m' a b).2
  have q0 := h.2.2.2.2 m' k a b c d
  have q1 := h.2.2.2.2 m x m0 m1 x0 (by omega)
  have q2 := h.2.2.2.2 m (x + 1) m0 m1 (by omega) x1
  unfold exQ
  by_cases y1 : 4 * m' + k = 4 * m + x + 1
  · rw [if_pos y1, if_pos y1]
    exact q1
  · rw [if_neg y1, if_neg y1]
    by_cases y2 : 4 * m' + k = 4 * m + x
    · rw [if_pos y2, if_pos y2, show 4 * m + x + 1 = 4 * m + (x + 1) by omega]
      exact q2
    · rw [if_neg y2, if_neg y2]
      exact q0
theorem lenQ_R {st mc du re ln q : Int → Int} {L : Int} : lenQ st mc du re ln q L ↔ lenR st mc du (fun o => re (o / 4)) ln q L := Iff.rfl
theorem EX_eq {σ τ : Mem} (h : REL σ) (e : τ 38 0 = σ 38 0) {o r : Int} (v : vOp (σ 10 0) o) (hl : plo (σ 11 0) (σ 13 0) (σ 14 0) o + 1 < σ 13 0 (σ 11 0 o)) : sEx σ o r ↔ rEx τ o r := by
  have R := r38 e
  have w := sWF_op h.w v
  have p := (plo_of h.w.1 v).1
  have ag := h.ag.ex h.w.1 w.1 w.2.1 p hl
  have W := WF_ex h.w.1 w.1 w.2.1 p hl
  unfold sEx rEx exL
  rw [R.1, R.2.1, R.2.2.1, R.2.2.2.1, R.2.2.2.2.2.1, R.2.2.2.2.2.2.1, ← (h.ag.2.2.1 o v).1, ← h.ag.pl h.w.1 v, lenQ_R, lenQ_R]
  refine ⟨lenR_cg ag W (fun o v => (h.ag.2.2.1 o v).2.2), lenR_cg ag.sy (ag.wf W) (fun o v => ?_)⟩
  exact (h.ag.2.2.1 o ((h.ag.V o).mp v)).2.2.symm
theorem PR_P2 {σ τ : Mem} {L : Int} (h : REL σ) (hP : PK σ) (hH : rH σ (τ 45 0)) (hT : rT σ (τ 46 0)) (e38 : τ 38 0 = σ 38 0) (hL : LE τ 16 L) (q : rPT τ L (τ 47 0) (τ 7 0 12) (-6)) : σ 1 0 8 = L ∧ σ 3 0 1 = τ 7 0 12 ∧ ∀ k, 0 ≤ k → k < σ 3 0 1 → σ 37 0 k = τ 47 0 k := by
  have eL := PR_L h hP hH hT e38 hL
  have p := h.ag.PT h.w.1 (PR_h h hP hH hT) hP.2
  unfold rPT at q
  have R := r38 e38
  rw [R.1, R.2.1, R.2.2.1, R.2.2.2.1, R.2.2.2.2.2.1, R.2.2.2.2.2.2.1, ← eL] at q
  exact ⟨eL, PT_un p q⟩
theorem IMP {σ ρ τ τ2 : Mem} {L k le ch k2 le2 ch2 best : Int} (h : REL σ) (hP : PK σ) (e : ρ 38 0 = σ 38 0) (hR : RP2 ρ τ L) (hI : impC σ k le ch) (k0 : 0 ≤ k) (k1 : k ≤ σ 3 0 1 - 1 ∨ k = 0) (hk : σ 3 0 1 - 1 ≤ k) (hI2 : RI τ τ2 L k2 le2 ch2 best) (hk2 : τ 7 0 12 ≤ k2 + 1) : le = le2 ∧ ch = ch2 := by
  have R := r38 e
  have hH : rH σ (τ 45 0) := by
    have := hR.2.1
    unfold rH at this ⊢
    rw [R.1, R.2.1, R.2.2.1, R.2.2.2.1, R.2.2.2.2.2.1, R.2.2.2.2.2.2.1] at this
    exact this
  have hT : rT σ (τ 46 0) := by
    have := hR.2.2.1
    unfold rT at this ⊢
    rw [R.1, R.2.1, R.2.2.1, R.2.2.2.2.2.1, R.2.2.2.2.2.2.1] at this
    exact this
  have e38 : τ 38 0 = σ 38 0 := (pRP_38 hR.1).trans e
  obtain ⟨eL, en, ep⟩ := PR_P2 h hP hH hT e38 hR.2.2.2.2.1 hR.2.2.2.2.2
  have n0 := (PK_n h.w hP).1
  have ek : k = k2 := by
    have a := hI2.2.2.2.1
    have b := hI2.2.2.2.2.1
    omega
  have hv := PTi_v h.w.1 hP.2
  have eM : ∀ o, vOp (σ 10 0) o → σ 11 0 o = rMc τ o := fun o v => by
    rw [(r38 e38).2.1]
    exact (h.ag.2.2.1 o v).1
  have hi2 := hI2.2.2.2.2.2.1
  rw [← ek] at hi2
  unfold impC at hI
  rw [eL] at hI
  have I2 : impI (rEx τ) (prR τ) (τ 47 0) L k le ch := by
    refine impI_cg (n := k) (Int.le_refl _) (fun k' a b => (ep k' a (by omega)).symm) (fun k' a b => ?_) (fun k' r a b pr => ?_) hI
    · unfold prC prR
      rw [← ep k' a (by omega), ← ep (k' + 1) (by omega) (by omega), eM _ (hv.1 k' a (by omega)), eM _ (hv.1 (k' + 1) (by omega) (by omega))]
    · have v := hv.1 k' a (by omega)
      exact EX_eq h e38 v (path_nx h.w.1 hP.2 a (by omega) pr).2
  exact impI_un I2 hi2
theorem REL_IC {σ σ1 σ2 : Mem} {k le ch : Int} (h : REL σ) (hF : FrG pKn σ σ1) (hP : KPc σ2) (hI : IC σ1 σ2 k le ch) : REL σ2 := by
  have f := hI.1
  have E : ∀ t a x, ¬ pKn t a x → ¬ pNt 1 t a x → σ2 t a x = σ t a x := fun t a x q r => by rw [f t a x r, hF t a x q]
  refine REL_fr h (fun t a x q => E t a x (by unfold hrd at q; unfold pKn pPa; omega) (by unfold hrd at q; unfold pNt; omega)) ⟨hP, KSc_cg h.2.2.2.2.2.1 (fun t q => funext fun x => E t 0 x (by unfold pKn pPa; omega) (by unfold pNt; omega)) (fun x q => E 4 0 x (by unfold pKn pPa; omega) (by unfold pNt; omega)) (funext fun x => E 27 0 x (by unfold pKn pPa; omega) (by unfold pNt; omega)), KRc_cg h.2.2.2.2.2.2 (fun t q => funext fun x => E t 0 x (by unfold pKn pPa; omega) (by unfold pNt; omega)) (fun x q => E 4 1 x (by unfold pKn pPa; omega) (by unfold pNt; omega)) (fun x q => E 6 0 x (by unfold pKn pPa; omega) (by unfold pNt; omega)) (funext fun x => E 27 1 x (by unfold pKn pPa; omega) (by unfold pNt; omega))⟩
theorem q_improve {σ : Mem} (h : REL σ) {K : Option Int → Option Int → Mem → Prop} (hK : ∀ r σ', REL σ' → K (some r) (some r) σ') : T_X6_improve [.inr (.inl (6, 0))] σ (fun r σ1 => T_X7_improve [.inr (.inl (7, 0))] σ1 (fun r2 σ2 => K r r2 σ2)) := by
  unfold T_X6_improve T_X7_improve
  dsimp only
  refine ⟨⟨h.w, h.2.2.2.2.1, h.2.1.1⟩, fun σ1 hF hc hN => ?_, fun σ1 σ2 k le ch hF hPK hP hI hk => ?_⟩
  · have R := REL_kn h hF hc
    exact ⟨⟨R.r, pmB_r R⟩, fun σ2 hF2 _ => hK _ _ (rf_Fd R hF2), fun τ τ2 L _ _ _ _ hR => absurd hR.2.1 (kn_no R hF hN _)⟩
  · have R := REL_IC h hF hP hI
    obtain ⟨f, -, P2, f8⟩ := IC_e hI
    have I := hI.2.2.2.2.2.1
    have I2 : impC σ2 k le ch := by
      unfold impC sEx prC at I ⊢
      rw [f 10 0 (by omega), f 11 0 (by omega), f 12 0 (by omega), f 8 0 (by omega), f 13 0 (by omega), f 14 0 (by omega), f 37 0 (by omega), f8]
      exact I
    have f3 : σ2 3 0 1 = σ1 3 0 1 := by rw [f 3 0 (by omega)]
    have M := fun (ρ τ τ2 : Mem) L k2 le2 ch2 best (e : ρ 38 0 = σ2 38 0) hR hI2 hk2 => IMP (ρ := ρ) (τ := τ) (τ2 := τ2) (L := L) (k2 := k2) (le2 := le2) (ch2 := ch2) (best := best) R P2 e hR I2 hI.2.2.2.1 (by rw [f3]; exact hI.2.2.2.2.1) (by rw [f3]; exact hk) hI2 hk2
    refine ⟨fun z => ⟨⟨R.r, pmB_r R⟩, fun τ hF2 hn => absurd (kn_is R P2) (hn _), fun τ τ2 L k2 le2 ch2 best hR hI2 hk2 => ⟨fun _ => hK _ _ (REL_rf (rf_RP R hR.1) (fun t a x q r => hI2.1 t a x (by unfold pRI; omega))), fun y => ?_⟩⟩, fun z σ3 σ4 hRe h4 => ?_⟩
    · have := (M σ2 τ τ2 L k2 le2 ch2 best rfl hR hI2 hk2).2
      omega
    · have x4 : ∀ t a y, ¬ (t = 14 ∧ a = 0) → σ4 t a y = σ3 t a y := fun t a y q => by rw [h4, up_ap, if_neg (by omega), up_ap, if_neg (by omega)]
      have e38 : σ4 38 0 = σ2 38 0 := funext fun y => by rw [x4 38 0 y (by omega), Rec_x hRe 38 y (by omega)]
      have Q := r38 e38
      have pm := pmB_r R
      refine ⟨⟨Q.2.2.2.2.2.2.2.1.mpr R.r, by unfold pmB at pm ⊢; rw [x4 7 0 2 (by omega), Rec_x hRe 7 2 (by omega)]; exact pm⟩, fun τ hF2 hn => ?_, fun τ τ2 L k2 le2 ch2 best hR hI2 hk2 => ?_⟩
      · have is := kn_is R P2
        refine absurd ?_ (hn (σ2 21 0))
        unfold rH at is ⊢
        rw [Q.1, Q.2.1, Q.2.2.1, Q.2.2.2.1, Q.2.2.2.2.2.1, Q.2.2.2.2.2.2.1]
        exact is
      · obtain ⟨m1, m2⟩ := M σ4 τ τ2 L k2 le2 ch2 best e38 hR hI2 hk2
        rw [← m1, ← m2]
        refine ⟨fun y => absurd y z, fun _ σ7 σ8 hE h8 => hK _ _ ?_⟩
        have v : vOp (σ2 10 0) ch := by
          rw [f 10 0 (by omega)]
          exact hI.2.2.2.2.2.2.1.resolve_left z
        have hl := hI.2.2.2.2.2.2.2.1 z
        have w := sWF_op R.w v
        have p := (plo_of R.w.1 v).1
        rw [← f 11 0 (by omega), ← f 13 0 (by omega), ← f 14 0 (by omega)] at hl h4
        have T := r38 ((pRP_38 hR.1).trans e38)
        have em : rMc τ ch = σ2 11 0 ch := by
          rw [T.2.1]
          exact (R.ag.2.2.1 ch v).1.symm
        have ex : rPl τ ch = plo (σ2 11 0) (σ2 13 0) (σ2 14 0) ch := by
          unfold rPl
          rw [T.2.1, T.2.2.2.2.2.1, T.2.2.2.2.2.2.1]
          exact (R.ag.pl R.w.1 v).symm
        rw [em, ex] at h8
        have hFx : FrG pKX σ4 τ2 := (hR.1.w (fun t a x q => by unfold pRP pFd pCr at q; unfold pKX pKn pPa; omega)).t (hI2.1.w (fun t a x q => by unfold pRI at q; unfold pKX; omega))
        have r0 := Rec_0 hRe
        exact (REL_ex R hRe w.1 w.2.1 p hl h4 hFx (Or.inl (by rw [hI2.1 6 0 8 (by unfold pRI; omega), hR.1 6 0 8 (by unfold pRP pFd pCr; omega), x4 6 0 8 (by omega)]; exact r0.1)) hE h8).1
