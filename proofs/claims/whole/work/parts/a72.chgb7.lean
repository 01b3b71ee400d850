/-! what changes, both sides: loadRoutes -/
theorem WF_inq {J : Int} {st mc du ln q : Int → Int} (h : WF J st mc du ln q) {m x : Int} (m0 : 0 ≤ m) (m1 : m < 4) : inq q (4 * m) (ln m) x ↔ ∃ o, vOp st o ∧ o / 4 = x ∧ mc o = m := by
  constructor
  · rintro ⟨i, a, b, c⟩
    obtain ⟨-, -, o, v, e, f⟩ := h.2.2.2.2.2.1 m i m0 m1 a b
    exact ⟨o, v, by rw [e, c], f⟩
  · rintro ⟨o, v, e, f⟩
    obtain ⟨k, a, b, c⟩ := h.2.2.2.2.2.2.2 o v
    rw [f] at b c
    exact ⟨k, a, b, by rw [c, e]⟩
theorem asc_un {J J' : Int} {st mc du ln q st' mc' du' ln' q' : Int → Int} (hW : WF J st mc du ln q) (hW' : WF J' st' mc' du' ln' q') (hV : ∀ o, vOp st o ↔ vOp st' o) (hm : ∀ o, vOp st o → mc o = mc' o) (ha : asc ln q) (ha' : asc ln' q') {m : Int} (m0 : 0 ≤ m) (m1 : m < 4) : ln m = ln' m ∧ ∀ k, 0 ≤ k → k < ln m → q (4 * m + k) = q' (4 * m + k) := by
  obtain ⟨e, p⟩ := inq_perm (WF_oOK hW m0 m1) (WF_oOK hW' m0 m1) (fun x _ _ => by
    rw [WF_inq hW m0 m1, WF_inq hW' m0 m1]
    constructor
    · rintro ⟨o, v, a, b⟩
      exact ⟨o, (hV o).mp v, a, by rw [← hm o v]; exact b⟩
    · rintro ⟨o, v, a, b⟩
      exact ⟨o, (hV o).mpr v, a, by rw [hm o ((hV o).mpr v)]; exact b⟩)
  have l := hW.2.2.2.2.1 m m0 m1
  have dq : ∀ k, 0 ≤ k → k < ln m → 0 ≤ q' (4 * m + k) ∧ q' (4 * m + k) < 4 := fun k a b => by
    have := hW'.2.2.2.2.2.1 m k m0 m1 a (by omega)
    exact ⟨this.1, this.2.1⟩
  have dv : ∀ k, 0 ≤ k → k < ln m → 0 ≤ q (4 * m + k) ∧ q (4 * m + k) < 4 := fun k a b => by
    have := hW.2.2.2.2.2.1 m k m0 m1 a b
    exact ⟨this.1, this.2.1⟩
  have pr : PRM (ln m) (fun k => q' (4 * m + k)) (fun k => q' (4 * m + k)) := ⟨fun k a b => ⟨k, a, b, rfl⟩, fun k a b => ⟨k, a, b, rfl⟩, fun k k' a b c d e' => hW'.2.2.2.2.2.2.1 m k k' m0 m1 a (by omega) c (by omega) e'⟩
  have x1 := (DS_g (f := 0) l.2 (Int.le_refl 0) p pr dq (fun k a b _ => by omega)).2 (fun k a b => ha m k (k + 1) m0 m1 a (by omega) (by omega))
  have x2 := (DS_g (f := 0) l.2 (Int.le_refl 0) pr p dq (fun k a b _ => by omega)).2 (fun k a b => ha' m k (k + 1) m0 m1 a (by omega) (by omega))
  exact ⟨e, nuQ_eq l.2 dv dq (by omega)⟩
theorem RJ_v {σ : Mem} {J : Int} {Rs f : Int → Int} (h : RJ σ 1 J Rs) (h1 : 1 ≤ J) (h4 : J ≤ 4) (hR : RRS f J Rs) : vRf f J := by
  obtain ⟨w, eJ, ac, r⟩ := h
  refine ⟨h1, h4, fun j a b => ?_⟩
  obtain ⟨r1, r2, r3, r4, r5, r6, r7, r8⟩ := r j a b
  obtain ⟨c1, c2, d1, d2, d3, d4, d5⟩ := hR j a b
  simp only [Int.add_zero] at d1
  dsimp only at d2
  rw [d1, d2, d4, ← r3, ← r1, ← r2]
  have e3 : Rs (11 * j + 2) = σ 10 1 j := r3.symm
  have l4 := (w.2.1 j a (by omega)).2.1
  have v : ∀ s, 0 ≤ s → s < σ 10 1 j → vOp (σ 10 1) (4 * j + s) := fun s p q => ⟨by omega, by omega, by rw [show (4 * j + s) / 4 = j by omega]; omega⟩
  refine ⟨⟨r4, r5⟩, ⟨r6, r7⟩, by omega, fun s p q => ?_, fun s s' p q t => ?_⟩
  · have e := d5 s p (by omega)
    have g := r8 s p q
    have o := w.2.2.1 _ (v s p q)
    simp only [← Int.add_assoc] at e
    rw [e.1, e.2, ← g.1, ← g.2]
    exact o
  · have e := (d5 s p (by omega)).1
    have e' := (d5 s' (by omega) (by omega)).1
    simp only [← Int.add_assoc] at e e'
    rw [e, e', ← (r8 s p (by omega)).1, ← (r8 s' (by omega) t).1]
    intro z
    have := w.2.2.2.1 _ _ (v s p (by omega)) (v s' (by omega) t) (by omega) z
    omega
theorem SIM_ld {σ μ : Mem} {J : Int} {Rs f : Int → Int} (h : RJ σ 1 J Rs) (hR : RRS f J Rs) (hc : ∀ t j, (t = 5 ∧ j = 0) ∨ (8 ≤ t ∧ t ≤ 14 ∧ 0 ≤ j ∧ j < (if t = 11 ∨ t = 12 ∨ t = 14 then 16 else 4)) → μ t 0 j = σ t 1 j) (hF : RRf μ J f) : SIM μ 0 (μ 38 0) := by
  obtain ⟨w, eJ, ac, r⟩ := h
  obtain ⟨v, eK, bc, u⟩ := hF
  have c5 : μ 5 0 0 = σ 5 1 0 := hc 5 0 (by omega)
  have c4 : ∀ t j, t = 8 ∨ t = 9 ∨ t = 10 ∨ t = 13 → 0 ≤ j → j < 4 → μ t 0 j = σ t 1 j := fun t j q a b => hc t j (Or.inr ⟨by omega, by omega, a, by rw [if_neg (by omega)]; exact b⟩)
  have c16 : ∀ t j, t = 11 ∨ t = 12 ∨ t = 14 → 0 ≤ j → j < 16 → μ t 0 j = σ t 1 j := fun t j q a b => hc t j (Or.inr ⟨by omega, by omega, a, by rw [if_pos q]; exact b⟩)
  have J4 := w.1.2
  have J0 := w.1.1
  have a1 : AG (σ 5 1 0) (μ 5 0 0) (σ 10 1) (μ 10 0) (σ 11 1) (μ 11 0) (σ 12 1) (μ 12 0) (σ 8 1) (μ 8 0) (σ 13 1) (μ 13 0) (σ 14 1) (μ 14 0) := by
    refine ⟨c5.symm, fun j a b => (c4 10 j (by omega) a b).symm, fun o v => ⟨(c16 11 o (by omega) v.1 v.2.1).symm, (c16 12 o (by omega) v.1 v.2.1).symm, (c4 8 _ (by omega) (vOp_j v).1 (vOp_j v).2.1).symm⟩, fun m a b => (c4 13 m (by omega) a b).symm, fun m k a b c e => ?_⟩
    have := (w.2.2.2.2.1 m a b).2
    exact (c16 14 _ (by omega) (by omega) (by omega)).symm
  have W := a1.wf w
  have st : ∀ j, 0 ≤ j → j < 4 → σ 10 1 j = rSt μ j := fun j a b => by
    by_cases z : j < J
    · have := (hR j a z).2.2
      rw [(u j a z).2.2.1, this.2.2.2.1, (r j a z).2.2.1]
    · have p := (w.2.1 j a b).2.2 (by omega)
      have q := (v.1.2.1 j a b).2.2 (by omega)
      omega
  have oo : ∀ o, vOp (σ 10 1) o → σ 11 1 o = rMc μ o ∧ σ 12 1 o = rDu μ o ∧ o / 4 < J := fun o x => by
    have x2 := x.2.2
    have xj := vOp_j x
    have z : o / 4 < J := by
      rcases Int.lt_or_le (o / 4) J with z | z
      · exact z
      · have := (w.2.1 (o / 4) xj.1 xj.2.1).2.2 (by omega)
        omega
    have e := hR (o / 4) xj.1 z
    have e1 := e.2.2.2.2.2.2 (o % 4) (by omega) (by rw [← (r (o / 4) xj.1 z).2.2.1]; omega)
    have g := (r (o / 4) xj.1 z).2.2.2.2.2.2.2 (o % 4) (by omega) (by omega)
    have k := (u (o / 4) xj.1 z).2.2.2 (o % 4) (by omega) (by rw [e.2.2.2.2.2.1, ← (r (o / 4) xj.1 z).2.2.1]; omega)
    simp only [← Int.add_assoc] at e1
    rw [show 4 * (o / 4) + o % 4 = o by omega] at g k
    exact ⟨by rw [g.1, k.1, e1.1], by rw [g.2, k.2, e1.2], z⟩
  have hV : ∀ o, vOp (σ 10 1) o ↔ vOp (rSt μ) o := vOp_cg st
  have qq : ∀ m, 0 ≤ m → m < 4 → σ 13 1 m = rLn μ m ∧ ∀ k, 0 ≤ k → k < σ 13 1 m → σ 14 1 (4 * m + k) = rQ μ (4 * m + k) := fun m a b => asc_un w v.1 hV (fun o x => (oo o x).1) ac bc a b
  have rr : ∀ j, 0 ≤ j → j < J → μ 8 0 j = rRe μ j ∧ μ 9 0 j = rDd μ j := fun j a b => by
    have e := (hR j a b).2.2
    have e1 := e.1
    have e2 := e.2.1
    simp only [Int.add_zero] at e1
    rw [c4 8 j (by omega) a (by omega), c4 9 j (by omega) a (by omega), (u j a b).1, (u j a b).2.1, (r j a b).1, (r j a b).2.1, e1, e2]
    exact ⟨rfl, rfl⟩
  refine SIM_k W (fun j a b => ?_) ?_ (fun j a b => ?_) (fun o x => ?_) (fun m a b => ?_) (fun m k a b c e => ?_) (fun j a b => ?_)
  · rw [c5, eJ] at b
    have := r j a b
    rw [c4 8 j (by omega) a (by omega), c4 9 j (by omega) a (by omega)]
    exact ⟨this.2.2.2.1, this.2.2.2.2.1, this.2.2.2.2.2.1, this.2.2.2.2.2.2.1⟩
  · rw [c5, eJ, eK]
  · rw [c4 10 j (by omega) a b]
    exact st j a b
  · have x' : vOp (σ 10 1) o := (vOp_cg (fun j a b => c4 10 j (by omega) a b) o).mp x
    rw [c16 11 o (by omega) x.1 x.2.1, c16 12 o (by omega) x.1 x.2.1]
    exact ⟨(oo o x').1, (oo o x').2.1, (rr _ (vOp_j x).1 (oo o x').2.2).1⟩
  · rw [c4 13 m (by omega) a b]
    exact (qq m a b).1
  · rw [c4 13 m (by omega) a b] at e
    have := (w.2.2.2.2.1 m a b).2
    rw [c16 14 _ (by omega) (by omega) (by omega)]
    exact (qq m a b).2 k c e
  · rw [c5, eJ] at b
    exact rr j a b
theorem q_loadRoutes {σ : Mem} (h : REL σ) {K : Option Int → Option Int → Mem → Prop} (hK : ∀ r σ', REL σ' → K (some r) (some r) σ') : T_X6_loadRoutes [.inr (.inl (6, 0))] σ (fun r σ1 => T_X7_loadRoutes [.inr (.inl (7, 0))] σ1 (fun r2 σ2 => K r r2 σ2)) := by
  unfold T_X6_loadRoutes T_X7_loadRoutes
  dsimp only
  have B : ∀ σ, REL σ → 0 ≤ xL σ ∧ xL σ ≤ 80 := fun σ h => by
    rw [← (REL_tx h).1]
    exact ⟨h.2.2.2.1.2.1, h.2.2.2.1.2.2.1⟩
  refine ⟨⟨h.2.1.1, h.2.2.2.1.2.1, h.2.2.2.1.2.2.1⟩, fun σ1 hE hn => ?_, fun σ1 σ2 σ3 hE hy hR hB => ?_⟩
  · have R := REL_Rd h hE.1
    have c := pRd_c hE.1
    rw [← c.1, ← c.2, (REL_tx R).2.2.2.1] at hn
    exact ⟨⟨R.r, pmB_r R, (B σ1 R).1, (B σ1 R).2, fun τ _ z => absurd z hn⟩, fun τ hF _ => hK _ _ (rf_Rt R hF.1), fun τ κ μ _ z => absurd z hn⟩
  · have R := REL_Rd h hE.1
    have c := pRd_c hE.1
    have tx := REL_tx h
    have hJ := hE.2 hy
    have hy2 := hy
    rw [tx.2.2.2.1] at hy2
    rw [tx.2.2.1] at hJ
    have x : ∀ t y, ¬ (t = 5 ∨ (8 ≤ t ∧ t ≤ 14)) → t ≠ 0 → ¬ (t = 6 ∧ y = 8) → ¬ (t = 4 ∧ y = 1) → t ≠ 2 → up σ3 2 0 1 0 t 0 y = σ t 0 y := fun t y q u v w s => by
      rw [up_ap, if_neg (by omega), hB t 0 y, if_neg (by omega), Rec_x hR t y (by omega), hE.1 t 0 y (by unfold pRd pPd; omega)]
    have e38 : up σ3 2 0 1 0 38 0 = σ 38 0 := funext fun y => x 38 y (by omega) (by omega) (by omega) (by omega) (by omega)
    have eT : xT (up σ3 2 0 1 0) = xT σ := funext fun y => x 42 y (by omega) (by omega) (by omega) (by omega) (by omega)
    have eL : xL (up σ3 2 0 1 0) = xL σ := x 7 6 (by omega) (by omega) (by omega) (by omega) (by omega)
    have pm := pmB_r h
    have F : ∀ τ, RFe (up σ3 2 0 1 0) τ → τ 7 0 23 = (rts0 (xT σ) (xL σ)).2.2.1 ∧ 1 ≤ τ 7 0 23 ∧ τ 7 0 23 ≤ 4 ∧ RRS (τ 55 0) (τ 7 0 23) (rts0 (xT σ) (xL σ)).2.2.2 := fun τ hF => by
      have := hF.2
      rw [eT, eL] at this
      exact this hy2
    refine ⟨⟨(r38 e38).2.2.2.2.2.2.2.1.mpr h.r, by unfold pmB at pm ⊢; rw [x 7 2 (by omega) (by omega) (by omega) (by omega) (by omega)]; exact pm, by rw [eL]; exact (B σ h).1, by rw [eL]; exact (B σ h).2, fun τ hF _ => ?_⟩, fun τ hF z => ?_, fun τ κ μ hF _ hE7 h38 hRR => ?_⟩
    · obtain ⟨f1, f2, f3, f4⟩ := F τ hF
      rw [← f1] at hJ
      exact RJ_v hJ f2 f3 f4
    · rw [eT, eL] at z
      exact absurd hy2 z
    · obtain ⟨f1, f2, f3, f4⟩ := F τ hF
      rw [← f1] at hJ
      have m : ∀ t a y, t ≠ 38 → ¬ (t = 7 ∧ y = 6) → up μ 7 0 6 0 t a y = κ t a y := fun t a y q u => by rw [up_ap, if_neg (by omega), h38 t a y (by unfold p38; omega)]
      have lo : ∀ t a y, t < 38 → t ≠ 7 → up μ 7 0 6 0 t a y = up σ3 2 0 1 0 t a y := fun t a y q r => by rw [m t a y (by omega) (by omega), KEE_t hE7 t a y (by omega), hF.1 t a y (by unfold pRt; omega)]
      have D : ∀ t j, (t = 5 ∧ j = 0) ∨ (8 ≤ t ∧ t ≤ 14 ∧ 0 ≤ j ∧ j < (if t = 11 ∨ t = 12 ∨ t = 14 then 16 else 4)) → up μ 7 0 6 0 t 0 j = σ1 t 1 j := fun t j q => by
        rw [lo t 0 j (by omega) (by omega), up_ap, if_neg (by omega), hB t 0 j, if_pos ⟨rfl, q⟩, RecE_e hR t 1 j (by omega)]
      have r0 := Rec_0 hR
      have u38 : up μ 7 0 6 0 38 0 = μ 38 0 := funext fun y => by rw [up_ap, if_neg (by omega)]
      have hRR' : RRf (up μ 7 0 6 0) (τ 7 0 23) (τ 55 0) := by
        unfold RRf rowf rWF rLn rQ rRe rDd rSt rMc rDu at hRR ⊢
        rw [u38]
        exact hRR
      have S := SIM_ld hJ f4 D hRR'
      rw [show σ3 5 0 0 = τ 7 0 23 by
        rw [hB 5 0 0, if_pos ⟨rfl, Or.inl ⟨rfl, rfl⟩⟩, RecE_e hR 5 1 0 (by omega)]
        exact hJ.2.1]
      refine hK _ _ (REL_ch R hR (fun t k j q u v => ?_) (RCa_0 ?_ ?_ ?_) hE7 (fun t k j q u v w => ?_) S (RPd_0 ?_ ?_ (fun y q => ?_)))
      · rw [hF.1 t k j (by unfold hrd at q; unfold pRt; omega), up_ap, if_neg (by omega), hB t k j, if_neg (by omega)]
      · rw [lo 6 0 8 (by omega) (by omega), up_ap, if_neg (by omega), hB, if_neg (by omega)]
        exact r0.1
      · rw [lo 4 0 1 (by omega) (by omega), up_ap, if_neg (by omega), hB, if_neg (by omega)]
        exact r0.2.1
      · rw [lo 4 1 1 (by omega) (by omega), up_ap, if_neg (by omega), hB, if_neg (by omega)]
        exact r0.2.2
      · rw [up_ap, if_neg (by omega), h38 t k j (by unfold p38; omega)]
      · rw [lo 2 0 1 (by omega) (by omega), up_ap, if_pos ⟨rfl, rfl, rfl⟩]
      · rw [up_ap, if_pos ⟨rfl, rfl, rfl⟩]
      · have p := h.2.2.2.1
        rw [lo 36 0 y (by omega) (by omega), x 36 y (by omega) (by omega) (by omega) (by omega) (by omega), m 42 0 y (by omega) (by omega), KEE_t hE7 42 0 y (by omega), hF.1 42 0 y (by unfold pRt; omega), x 42 y (by omega) (by omega) (by omega) (by omega) (by omega)]
        exact p.2.2.2 y (by have := p.2.1; omega)
