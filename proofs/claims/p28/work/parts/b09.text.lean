/-! texts, over a view -/
def T_X6_wipeG : Tr := fun a σ K => match a with
  | [.inr (.inl (6, 0))] => ∃ g, GS g σ ∧ ∀ σ', GS (g.1, g.2.1, g.2.2.1, (g.2.2.2.1, 0)) σ' → K (some g.2.2.2.2) σ'
  | _ => False
/-- the pad changes, and nothing else -/
theorem GS_pd {g : Gh} {σ σ' : Mem} {tx : (Int → Int) × Int} (h : GS g σ) (e : ∀ t a x, ¬ (a = 0 ∧ (t = 36 ∨ (t = 2 ∧ x = 1))) → σ' t a x = σ t a x) (hp : GSp tx σ') : GS (g.1, g.2.1, g.2.2.1, tx) σ' := by
  obtain ⟨h1, ⟨h3, h4, h5⟩, h6, -, hC⟩ := h
  have c : ∀ i : Nat, sWF σ i → sWF σ' i ∧ cv σ' i = cv σ i := fun i hi => cv_m hi (fun t j q => e t i j (by omega))
  have es : ∀ d, slt σ' d = slt σ d := fun d => by unfold slt; rw [e 0 0 2 (by omega)]
  refine ⟨⟨(c 0 h1.1).1, (c 0 h1.1).2.trans h1.2⟩, ⟨?_, ?_, fun d w q => ?_⟩, fun w q => ?_, hp, RCb_e hC (fun t a x q => e t a x (by omega))⟩
  · unfold hsB
    rw [e 0 0 2 (by omega), e 0 0 1 (by omega)]
    exact h3
  · rw [e 0 0 1 (by omega)]
    exact h4
  · rw [es]
    obtain ⟨a, b⟩ := h5 d w q
    exact ⟨(c _ a).1, (c _ a).2.trans b⟩
  · obtain ⟨a, b, c'⟩ := h6 w q
    exact ⟨by rw [e 35 0 0 (by omega)]; exact a, (c 8 b).1, (c 8 b).2.trans c'⟩
theorem m_X6_wipeG : ∀ a σ K, T_X6_wipeG a σ K → T_X6_wipe a σ K := by
  intro a σ K h
  unfold T_X6_wipeG at h
  split at h
  · obtain ⟨g, hg, k⟩ := h
    unfold T_X6_wipe
    rw [hg.2.2.2.1.1]
    refine k _ (GS_pd hg (fun t a x q => by rw [up_ap, if_neg (by omega)]) ⟨by rw [up_ap, if_pos ⟨rfl, rfl, rfl⟩], by dsimp only; omega, fun x q => ?_⟩)
    dsimp only at q ⊢
    rw [up_ap, if_neg (by omega)]
    have := hg.2.2.2.1
    exact this.2.2 x (by have := this.2.1.1; omega)
  · exact h.elim
theorem k_X6_wipeG (l : Launch) : Ct l yX6_wipe cX6_wipe 2 (some .int) 0 T_X6_wipeG := Ct_mono (k_X6_wipe l) m_X6_wipeG
/-- the text behind a number of characters -/
def ptF (tf : Int → Int) (n : Int) (x : Int64) (s : Int) : Int → Int := fun y => if n ≤ y then byV x (8 * (s - 1 - (y - n))) else tf y
def T_X6_putG : Tr := fun a σ K => match a with
  | [.inr (.inl (6, 0)), .inr (.inr x)] => ∃ g, GS g σ ∧ (1 ≤ sgS 8 x 0 ∧ g.2.2.2.2 + sgS 8 x 0 ≤ 80) ∧ ∀ σ', GS (g.1, g.2.1, g.2.2.1, (ptF g.2.2.2.1 g.2.2.2.2 x (sgS 8 x 0), g.2.2.2.2 + sgS 8 x 0)) σ' → K (some (g.2.2.2.2 + sgS 8 x 0)) σ'
  | _ => False
theorem m_X6_putG : ∀ a σ K, T_X6_putG a σ K → T_X6_put a σ K := by
  intro a σ K h
  unfold T_X6_putG at h
  split at h
  · rename_i x
    obtain ⟨g, hg, ⟨a1, a2⟩, k⟩ := h
    obtain ⟨p1, p2, p3⟩ := hg.2.2.2.1
    unfold T_X6_put
    refine ⟨by rw [p1]; exact p2, fun q => by omega, fun q => by omega, fun _ _ σ1 hP => ?_⟩
    obtain ⟨c1, c2, c3⟩ := hP
    rw [p1] at c1 c2 c3 ⊢
    refine k σ1 (GS_pd hg (fun t a x q => c1 t a x (by omega)) ⟨c2, by dsimp only; omega, fun y q => ?_⟩)
    dsimp only at q ⊢
    unfold ptF
    by_cases z : g.2.2.2.2 ≤ y
    · rw [if_pos z]
      have := c3 (y - g.2.2.2.2) (by omega) (by omega)
      rw [show g.2.2.2.2 + (y - g.2.2.2.2) = y by omega] at this
      exact this
    · rw [if_neg z, c1 36 0 y (by omega)]
      exact p3 y (by omega)
  · exact h.elim
theorem k_X6_putG (l : Launch) : Ct l yX6_put cX6_put 5 (some .int) 2 T_X6_putG := Ct_mono (k_X6_put l) m_X6_putG
/-- the orders of a text fit -/
def fitW (v : Vw) (ln q : Int → Int) : Prop := ∀ m, 0 ≤ m → m < 4 → 0 ≤ ln m → ln m = v 13 m ∧ ∀ x, 0 ≤ x → x < 4 → (inq q (4 * m) (ln m) x ↔ inq (v 14) (4 * m) (v 13 m) x)
noncomputable def tqV (v : Vw) (ln q : Int → Int) : Int → Int := fun x => cif (0 ≤ ln (x / 4)) (q x) (v 14 x)
def T_X6_loadPlanG : Tr := fun a σ K => match a with
  | [.inr (.inl (6, 0))] => ∃ g, GS g σ ∧ (plnF g.2.2.2.1 g.2.2.2.2 ≠ -6 → ∀ σ', GS g σ' → K (some (-3)) σ') ∧ (plnF g.2.2.2.1 g.2.2.2.2 = -6 → fitW g.1 (pln0 g.2.2.2.1 g.2.2.2.2).2.2.1 (pln0 g.2.2.2.1 g.2.2.2.2).2.2.2 ∧ ∀ σ', GS (cnV (orV g.1 (tqV g.1 (pln0 g.2.2.2.1 g.2.2.2.2).2.2.1 (pln0 g.2.2.2.1 g.2.2.2.2).2.2.2)), (g.1 :: g.2.1).take 6, g.2.2.1, (g.2.2.2.1, 0)) σ' → K (some (cif (pos (cnV (orV g.1 (tqV g.1 (pln0 g.2.2.2.1 g.2.2.2.2).2.2.1 (pln0 g.2.2.2.1 g.2.2.2.2).2.2.2)))) 1 0)) σ')
  | _ => False
theorem m_X6_loadPlanG : ∀ a σ K, T_X6_loadPlanG a σ K → T_X6_loadPlan a σ K := by
  intro a σ K h
  unfold T_X6_loadPlanG at h
  split at h
  · obtain ⟨g, hg, k1, k2⟩ := h
    have tx := GS_tx hg
    unfold T_X6_loadPlan
    rw [tx.2.2.1]
    have fits : ∀ σ1, plE σ σ1 1 → plnF g.2.2.2.1 g.2.2.2.2 = -6 → PL σ1 1 (pln0 g.2.2.2.1 g.2.2.2.2).2.2.1 (pln0 g.2.2.2.1 g.2.2.2.2).2.2.2 ∧ GS g σ1 ∧ fitC σ1 4 := fun σ1 hE e => by
      have G := GS_pl hg hE.1
      have P := hE.2 (by rw [tx.2.2.1]; exact e)
      rw [tx.2.2.2.1] at P
      refine ⟨P, G, fun m m0 m1 nb => ?_⟩
      have pl := P.2.2 m m0 m1
      have l0 := pl.1.mp nb
      have f := (k2 e).1 m m0 m1 l0
      have Q := q_vw G
      have e13 : σ1 13 1 m = (pln0 g.2.2.2.1 g.2.2.2.2).2.2.1 m := by rw [pl.2.1, if_neg (by omega)]
      have l4 := Q.2.2 m m0 m1
      refine (sF_perm (oOK_l P m0 m1) (WF_oOK G.1.1.1 m0 m1)).mpr (fun x x0 x1 => ?_)
      rw [inq_cg (fun k a b => pl.2.2.2 k a b), e13, f.2 x x0 x1, Q.2.1 m m0 m1]
      refine (inq_cg (fun k a b => ?_)).symm
      exact Q.1 (4 * m + k) (by omega) (by rw [← Q.2.1 m m0 m1] at b; omega) (by rw [show (4 * m + k) % 4 = k by rw [← Q.2.1 m m0 m1] at b; omega, show (4 * m + k) / 4 = m by rw [← Q.2.1 m m0 m1] at b; omega, Q.2.1 m m0 m1]; exact b)
    refine ⟨⟨hg.1.1, hg.2.1.1, tx.2.2.2.2.2⟩, fun σ1 hE e => k1 e σ1 (GS_pl hg hE.1), fun σ1 hE e hn => absurd (fits σ1 hE e).2.2 hn, fun σ1 σ2 σ3 σ4 hE e hfit hR hL h4 hw => ?_⟩
    obtain ⟨P, G, -⟩ := fits σ1 hE e
    have kk := (k2 e).2
    have FW := (k2 e).1
    generalize (pln0 g.2.2.2.1 g.2.2.2.2).2.2.1 = ln at P kk FW
    generalize (pln0 g.2.2.2.1 g.2.2.2.2).2.2.2 = q at P kk FW
    obtain ⟨L1, L2⟩ := hL
    have x : ∀ t k y, ¬ (k = 0 ∧ (t = 13 ∨ t = 14)) → ¬ (t = 2 ∧ k = 0 ∧ y = 1) → σ4 t k y = σ2 t k y := fun t k y a b => by rw [h4, up_ap, if_neg b, L1 t k y a]
    have r0 := Rec_0 hR
    have Q := q_vw G
    have g1 : cv σ1 0 = g.1 := G.1.2
    have e5 : ∀ t y, t = 5 ∨ (8 ≤ t ∧ t ≤ 12) → σ4 t 0 y = σ1 t 0 y := fun t y a => by rw [x t 0 y (by omega) (by omega), Rec_x hR t y (by omega)]
    have f10 : σ4 10 0 = σ1 10 0 := funext fun y => e5 10 y (by omega)
    have e13 : ∀ m, 0 ≤ m → m < 4 → σ4 13 0 m = σ1 13 0 m := fun m a b => by
      rw [h4, up_ap, if_neg (by omega), (L2 m a b).1, Rec_x hR 13 m (by omega)]
    have e14 : ∀ y, 0 ≤ y → y < 16 → y % 4 < σ1 13 0 (y / 4) → σ4 14 0 y = tqV g.1 ln q y := fun y a b c => by
      have pl := P.2.2 (y / 4) (by omega) (by omega)
      have l2 := (L2 (y / 4) (by omega) (by omega)).2 (y % 4) (by omega) (by rw [Rec_x hR 13 _ (by omega)]; exact c)
      rw [show 4 * (y / 4) + y % 4 = y by omega, Rec_x hR 2 3 (by omega), Rec_x hR 14 y (by omega)] at l2
      rw [h4, up_ap, if_neg (by omega), l2]
      unfold tqV
      by_cases z : 0 ≤ ln (y / 4)
      · have F := FW (y / 4) (by omega) (by omega) z
        have p14 := pl.2.2.2 (y % 4) (by omega) (by rw [pl.2.1, if_neg (by omega), F.1, ← Q.2.1 _ (by omega) (by omega)]; exact c)
        rw [show 4 * (y / 4) + y % 4 = y by omega] at p14
        rw [cif_1 ⟨by omega, pl.1.mpr z⟩, cif_1 z, hR 14 1 y, if_neg (by omega), if_neg (by omega), if_neg (by omega), if_neg (by omega), p14]
      · rw [cif_0 (fun w => z (pl.1.mp w.2)), cif_0 z]
        exact Q.1 y a b c
    have ev : cv σ4 0 = cnV (orV g.1 (tqV g.1 ln q)) := by
      rw [← g1]
      refine cn_eq (w := vwS σ4 0) ?_ (fun j a b => ?_) (fun j a b => ?_) (fun o v => ?_) (fun m a b => ?_) (fun y a b c => ?_)
      · rw [orV_o (cv σ1 0) _ (by omega)]
        exact (e5 5 0 (by omega)).trans (cn5 (vwS σ1 0)).symm
      · have b' : j < σ1 5 0 0 := by rw [← e5 5 0 (by omega)]; exact b
        rw [orV_o (cv σ1 0) _ (by omega), orV_o (cv σ1 0) _ (by omega)]
        exact ⟨(e5 8 j (by omega)).trans (cn8 (w := vwS σ1 0) a b').symm, (e5 9 j (by omega)).trans (cn9 (w := vwS σ1 0) a b').symm⟩
      · rw [orV_o (cv σ1 0) _ (by omega)]
        exact (e5 10 j (by omega)).trans (cn10 (w := vwS σ1 0) a b).symm
      · have v' : vOp (σ1 10 0) o := by rw [← f10]; exact v
        rw [orV_o (cv σ1 0) _ (by omega), orV_o (cv σ1 0) _ (by omega)]
        exact ⟨(e5 11 o (by omega)).trans (cn11 (w := vwS σ1 0) v').symm, (e5 12 o (by omega)).trans (cn12 (w := vwS σ1 0) v').symm⟩
      · rw [orV_o (cv σ1 0) _ (by omega)]
        exact (e13 m a b).trans (cn13 (w := vwS σ1 0) a b).symm
      · rw [orV_14, g1]
        have c' : y % 4 < σ4 13 0 (y / 4) := c
        rw [e13 _ (by omega) (by omega)] at c'
        exact e14 y a b c'
    have G4 := GS_ch (tx := (g.2.2.2.1, 0)) G hR (fun t k j _ q r => x t k j (by omega) (by omega)) hw ev (RCb_0 (by rw [x 6 0 8 (by omega) (by omega)]; exact r0.1) (by rw [x 4 0 1 (by omega) (by omega)]; exact r0.2.1) (by rw [x 4 1 1 (by omega) (by omega)]; exact r0.2.2)) ⟨by rw [h4, up_ap, if_pos ⟨rfl, rfl, rfl⟩], by dsimp only; omega, fun y z => by
      dsimp only at z ⊢
      have := G.2.2.2.1
      rw [x 36 0 y (by omega) (by omega), Rec_x hR 36 y (by omega)]
      exact this.2.2 y (by have := this.2.1.1; omega)⟩
    refine ⟨fun σ5 hF hK hP => ?_, fun σ5 hF hK hn => ?_⟩
    · have G5 := GS_kn G4 hF hK
      have p := (PK_v G5.1.1 hP G5.1.2).1
      have := kk σ5 G5
      rw [cif_1 (show pos (cnV (orV g.1 (tqV g.1 ln q))) from p)] at this
      exact this
    · have := kk σ5 (GS_kn G4 hF hK)
      rw [cif_0 (show ¬ pos (cnV (orV g.1 (tqV g.1 ln q))) from PK_np G4.1.1 hn G4.1.2)] at this
      exact this
  · exact h.elim
theorem k_X6_loadPlanG (l : Launch) : Ct l yX6_loadPlan cX6_loadPlan 2 (some .int) 6 T_X6_loadPlanG := Ct_mono (k_X6_loadPlan l) m_X6_loadPlanG
/-- an empty pad holds no routes and no plan -/
theorem rts_0 (tf : Int → Int) : rtsF tf 0 ≠ -6 := by
  have e : (jobS tf 0 0).1 = 1 ∧ (jobS tf 0 0).2.1 = 0 := by
    unfold jobS
    rw [cif_1 (show nx tf 0 0 ≠ 114 by unfold nx; rw [if_neg (by omega)]; omega)]
    exact ⟨rfl, rfl⟩
  have e2 : (rtsS tf 0 4 0 0 (fun _ => 0)).1 = 1 ∧ (rtsS tf 0 4 0 0 (fun _ => 0)).2.1 = 0 := by
    unfold rtsS
    rw [cif_1 (by rw [e.1]; omega)]
    exact ⟨rfl, e.2⟩
  unfold rtsF
  rw [cif_1 (Or.inl (by rw [e2.1]; omega)), e2.2]
  omega
theorem pln_00 (tf : Int → Int) : plnF tf 0 ≠ -6 := by
  have e : (ordS tf 0 (fun _ => -1) (fun _ => 0) 0).1 = 1 ∧ (ordS tf 0 (fun _ => -1) (fun _ => 0) 0).2.1 = 0 := by
    unfold ordS
    have d : dg tf 0 0 = -6 := by
      unfold dg nx
      rw [if_neg (show ¬ ((0 : Int) < 0) by omega), if_neg (by omega)]
    rw [cif_1 (Or.inl (by rw [d]; omega))]
    exact ⟨rfl, rfl⟩
  have e2 : (pln0 tf 0).1 = 1 ∧ (pln0 tf 0).2.1 = 0 := by
    unfold pln0 plnS
    rw [cif_1 (by rw [e.1]; omega)]
    exact ⟨rfl, e.2⟩
  unfold plnF
  rw [cif_1 (Or.inl (by rw [e2.1]; omega)), e2.2]
  omega
def T_X6_loadRoutesG : Tr := fun a σ K => match a with
  | [.inr (.inl (6, 0))] => ∃ g, GS g σ ∧ g.2.2.2.2 = 0 ∧ ∀ σ', GS g σ' → K (some (-3)) σ'
  | _ => False
theorem m_X6_loadRoutesG : ∀ a σ K, T_X6_loadRoutesG a σ K → T_X6_loadRoutes a σ K := by
  intro a σ K h
  unfold T_X6_loadRoutesG at h
  split at h
  · obtain ⟨g, hg, e, k⟩ := h
    have tx := GS_tx hg
    unfold T_X6_loadRoutes
    rw [tx.2.2.2.2.1, e]
    exact ⟨⟨hg.2.1.1, tx.2.2.2.2.2⟩, fun σ1 hE _ => k σ1 (GS_rt hg hE.1), fun σ1 σ2 σ3 hE q => absurd q (rts_0 _)⟩
  · exact h.elim
theorem k_X6_loadRoutesG (l : Launch) : Ct l yX6_loadRoutes cX6_loadRoutes 1 (some .int) 5 T_X6_loadRoutesG := Ct_mono (k_X6_loadRoutes l) m_X6_loadRoutesG
