/-! the reference's breakdown -/
theorem oA_row {σ σ' : Mem} (hr : rts σ' σ) (hw : rWF σ) (hw' : rWF σ') {m k : Int} (m0 : 0 ≤ m) (m1 : m < 4) (k0 : 0 ≤ k) (k1 : k < rLn σ m) (e : rQ σ' (4 * m + k) = rQ σ (4 * m + k)) : oA σ' m k = oq (rSt σ) (rMc σ) (rQ σ) m k := by
  obtain ⟨e0, e1, e2, e3, e4⟩ := rts_e hr
  have k1' : k < rLn σ' m := by
    rw [e3 m m0 m1]
    exact k1
  obtain ⟨b1, b2, b3⟩ := oq_v hw.1 m0 m1 k0 k1
  obtain ⟨c1, c2, c3⟩ := oq_v hw'.1 m0 m1 k0 k1'
  have c1' : rOp σ (oq (rSt σ') (rMc σ') (rQ σ') m k) := by
    rw [← e4]
    exact c1
  unfold oA
  rw [if_pos ⟨k0, k1'⟩]
  exact hw.1.2.2.2.1 _ _ c1' b1 (by rw [c3, b3, e]) (by rw [← (e2 _ c1'.1 c1'.2.1).1, c2, b2])
noncomputable def fsR (σ : Mem) (h : Int → Int) (b t : Int) : Int → Int := fsG (rSt σ) (rMc σ) (rDu σ) (rQ σ) h (rLn σ) b t
def pF3 (t a : Nat) (x : Int) : Prop := a = 0 ∧ ((43 ≤ t ∧ t ≤ 52 ∧ t ≠ 47) ∨ (t = 38 ∧ 49 ≤ x ∧ x < 65))
def pF4 (t a : Nat) (_x : Int) : Prop := a = 0 ∧ (43 ≤ t ∧ t ≤ 52 ∧ t ≠ 47)
/-- the machines below m are laid -/
def BKi (σ σ' : Mem) (h : Int → Int) (b t u m : Int) : Prop := rH σ h ∧ FrG pF3 σ σ' ∧ LAY σ (fsR σ h b t) σ' m ∧ (∀ o, rOp σ o → σ' 45 0 o = h o) ∧ (∀ x, 0 ≤ x → x < 16 → σ' 52 0 x = rQ σ x) ∧ ∀ o, rOp σ o → rMc σ o < m → σ' 43 0 o = blim b t u (rMc σ o) ∧ (stG (rMc σ) (rDu σ) h b t o → σ' 44 0 o = 1) ∧ (¬ stG (rMc σ) (rDu σ) h b t o → σ' 44 0 o = 0)
theorem rH_bd {σ : Mem} (hw : rWF σ) {h : Int → Int} (H : rH σ h) : ∀ o, rOp σ o → 0 ≤ h o ∧ h o ≤ 370 := fun o v => by
  have hp : ∀ o, rOp σ o → 0 ≤ h o := fun o v => Int.le_trans (rWF_op hw v).2.2.2.2.2.1 (H o v).1
  exact ⟨hp o v, head_bd (b := 50) rOp_16 (fun o v => ⟨(rWF_op hw v).2.2.1, (rWF_op hw v).2.2.2.1, (rWF_op hw v).2.2.2.2.2.2⟩) H hp o v⟩
theorem BKi_0 {σ σ1 σ2 : Mem} (hw : rWF σ) {b t u : Int} (hF : Fnd σ σ1) (hc : CpR σ1 σ2 52 0 16 (rQ σ1) 16) : BKi σ σ2 (σ1 45 0) b t u 0 := by
  obtain ⟨f1, f2, f3, f4⟩ := hF
  obtain ⟨c1, -, -, c4⟩ := hc
  have e38 : σ1 38 0 = σ 38 0 := pFd_38 f1
  refine ⟨f2, (f1.w (by rintro t a x ⟨q1, q2⟩; exact ⟨q2, Or.inl (by omega)⟩)).t (c1.w (by rintro t a x ⟨q1, q2, -⟩; exact ⟨q2, Or.inl (by omega)⟩)), LAY_0 ?_, fun o v => ?_, fun x x0 x1 => ?_, fun o v hm => ?_⟩
  · rw [c1.f 38 0 (by rintro x ⟨q, -⟩; omega), e38]
  · rw [c1 45 0 o (by rintro ⟨q, -⟩; omega)]
  · have := c4 x x0 x1
    rw [Int.zero_add] at this
    rw [this]
    unfold rQ
    rw [e38]
  · have := (rWF_op hw v).1
    omega
theorem BKi_h {σ σ' : Mem} {h : Int → Int} {b t u m : Int} (hw : rWF σ) (hI : BKi σ σ' h b t u m) : rHb σ' := by
  obtain ⟨H, h1, h2, h3, -⟩ := hI
  have w := LAY_w hw h2
  have e4 := (rts_e h2.1).2.2.2.2
  refine ⟨w, fun o v => ?_⟩
  rw [e4] at v
  have := rH_bd hw H o v
  rw [h3 o v]
  omega
theorem BKi_s {σ σ' σ2 σ3 : Mem} {h : Int → Int} {b t u m n : Int} (hw : rWF σ) (m0 : 0 ≤ m) (m1 : m < 4) (hI : BKi σ σ' h b t u m) (hS : LSi σ' σ2 m b t u (rLn σ' m) n) : (rWF σ2 ∧ 0 ≤ m ∧ m < 4 ∧ 0 ≤ n ∧ n ≤ rLn σ2 m) ∧ (LPE σ2 σ3 m n → BKi σ σ3 h b t u (m + 1)) := by
  obtain ⟨H, h1, h2, h3, h4, h5⟩ := hI
  obtain ⟨e0, e1, e2, e3, e4⟩ := rts_e h2.1
  have w' := LAY_w hw h2
  obtain ⟨s1, s2, s3, s4, s5, s6, s7⟩ := hS
  have e38 : σ2 38 0 = σ' 38 0 := s1.f 38 0 (by rintro x ⟨q, -⟩; omega)
  have R := r38 e38
  have w2 : rWF σ2 := R.2.2.2.2.2.2.2.1.mpr w'
  have hn : n = fsR σ h b t m := by
    rw [s4]
    unfold rct fsR fsG
    rw [e3 m m0 m1]
    have l := rW_l hw m m0 m1
    refine sm_cg _ (fun i hi => ?_)
    have i1 : (i : Int) < rLn σ m := by omega
    rw [oA_row h2.1 hw w' m0 m1 (by omega) i1 (h2.2.1 m (by omega) m1 i (by omega) i1)]
    have v := (oq_v hw.1 m0 m1 (show (0 : Int) ≤ i by omega) i1).1
    have q : rsty σ' b t (oq (rSt σ) (rMc σ) (rQ σ) m i) ↔ stG (rMc σ) (rDu σ) h b t (oq (rSt σ) (rMc σ) (rQ σ) m i) := by
      unfold rsty stG
      rw [(e2 _ v.1 v.2.1).1, (e2 _ v.1 v.2.1).2, h3 _ v]
    rw [propext q]
  have fr := fun m a c => (fsG_r (b := b) (t := t) hw.1 H (m := m) a c).1
  have h2' : LAY σ (fsR σ h b t) σ2 m := LAY_fr h2 e38 (s1.f 48 0 (by rintro x ⟨q, -⟩; omega)) (s1.f 49 0 (by rintro x ⟨q, -⟩; omega))
  have eL : rLn σ2 m = rLn σ m := by rw [R.2.2.2.2.2.1, e3 m m0 m1]
  refine ⟨⟨w2, m0, m1, s5, by rw [R.2.2.2.2.2.1]; exact s6⟩, fun hE => ?_⟩
  have f := hE.1.1
  have l2 := rW_l w2 m m0 m1
  rw [hn] at hE
  refine ⟨H, (h1.t (s1.w (by rintro t a x ⟨q1, q2⟩; exact ⟨q2, Or.inl (by omega)⟩))).t (f.w (by
    rintro t a x ⟨q1, q | q | q⟩
    · exact ⟨q1, Or.inr ⟨q.1, by omega, by omega⟩⟩
    · exact ⟨q1, Or.inl (by omega)⟩
    · exact ⟨q1, Or.inl (by omega)⟩)), LAY_s (fun m a c => (fr m a c).2) (fun m a c => (rW_l hw m a c).2) m0 m1 h2' hE, fun o v => ?_, fun x x0 x1 => ?_, fun o v hm => ?_⟩
  · rw [f 45 0 o (by rintro ⟨-, q | q | q⟩ <;> omega), s1 45 0 o (by rintro ⟨q, -⟩; omega)]
    exact h3 o v
  · rw [f 52 0 x (by rintro ⟨-, q | q | q⟩ <;> omega), s1 52 0 x (by rintro ⟨q, -⟩; omega)]
    exact h4 x x0 x1
  · rw [f 43 0 o (by rintro ⟨-, q | q | q⟩ <;> omega), f 44 0 o (by rintro ⟨-, q | q | q⟩ <;> omega)]
    have v' : rOp σ' o := by rw [e4]; exact v
    have so := s7 o v'
    have em := (e2 o v.1 v.2.1).1
    have ed := (e2 o v.1 v.2.1).2
    by_cases c : rMc σ o = m
    · have pl := rPl_of w' v'
      rw [em, c] at pl
      have := so.1 ⟨by rw [em]; exact c, pl.2.1⟩
      have q : rsty σ' b t o ↔ stG (rMc σ) (rDu σ) h b t o := by
        unfold rsty stG
        rw [em, ed, h3 o v]
      rw [c]
      exact ⟨this.1, fun z => this.2.1 (q.mpr z), fun z => this.2.2 (fun y => z (q.mp y))⟩
    · have := so.2 (fun z => c (by rw [← em]; exact z.1))
      rw [this.1, this.2]
      exact h5 o v (by omega)
theorem BKi_sp {σ σ' : Mem} {h : Int → Int} {b t u m : Int} (hw : rWF σ) (ht : 0 ≤ t ∧ t ≤ 400) (hu : 0 ≤ u ∧ u ≤ 400) (hI : BKi σ σ' h b t u m) (hm : m = 4) : SPr σ' (rQ σ) (fsR σ h b t) := by
  subst hm
  obtain ⟨H, h1, h2, h3, h4, h5⟩ := hI
  refine LAY_sp hw (fun m a c => (fsG_r (b := b) (t := t) hw.1 H (m := m) a c).1) (fun o v => ?_) h2
  have q := h5 o v (rWF_op hw v).2.1
  have bd := rH_bd hw H o v
  rw [q.1, h3 o v]
  unfold blim
  refine ⟨?_, ?_, fun _ => by omega⟩
  · split <;> omega
  · split <;> omega
theorem LqO_brk {σ σ' : Mem} {h q : Int → Int} {b t u L : Int} (hw : rWF σ) (ht : 0 ≤ t ∧ t ≤ 400) (hu : 0 ≤ u ∧ u ≤ 400) (hI : BKi σ σ' h b t u 4) (a : aQo (rLn σ) (fsR σ h b t) (rQ σ) q) : LqO σ' q L ↔ lenR (rSt σ) (rMc σ) (rDu σ) (rdG (rMc σ) (rDu σ) (rRe σ) h b t u) (rLn σ) q L := by
  have hp := BKi_sp hw ht hu hI rfl
  obtain ⟨H, h1, h2, h3, h4, h5⟩ := hI
  obtain ⟨e0, e1, e2, e3, e4⟩ := rts_e h2.1
  have a' : aQo (rLn σ') (fsR σ h b t) (rQ σ) q := fun m m0 m1 => by rw [e3 m m0 m1]; exact a m m0 m1
  have k := KND_wq (SPr_l hp).1 (SPr_l hp).2 a'
  have ok := KND_ok hp k
  have hr2 : rts (wqM σ' q) σ := fun x x0 x1 => by rw [k.1 x x0 x1, h2.1 x x0 x1]
  obtain ⟨f0, f1, f2, f3, f4⟩ := rts_e hr2
  have ag : AG (σ 38 0 0) (wqM σ' q 38 0 0) (rSt σ) (rSt (wqM σ' q)) (rMc σ) (rMc (wqM σ' q)) (rDu σ) (rDu (wqM σ' q)) (rRe σ) (rRe (wqM σ' q)) (rLn σ) (rLn (wqM σ' q)) q (rQ (wqM σ' q)) := ⟨f0.symm, fun j a b => (f1 j a b).1.symm, fun o v => ⟨(f2 o v.1 v.2.1).1.symm, (f2 o v.1 v.2.1).2.symm, (f1 _ (vOp_j v).1 (vOp_j v).2.1).2.1.symm⟩, fun m a b => (f3 m a b).symm, fun m k m0 m1 k0 k1 => by
    have := (rW_l hw m m0 m1).2
    rw [wqM_q (by omega) (by omega)]⟩
  have w : WF (σ 38 0 0) (rSt σ) (rMc σ) (rDu σ) (rLn σ) q := WF_arr hw.1 (fun m m0 m1 => (a m m0 m1).1)
  have e44 : wqM σ' q 44 0 = σ' 44 0 := wqM_o (Or.inl (by omega))
  have e43 : wqM σ' q 43 0 = σ' 43 0 := wqM_o (Or.inl (by omega))
  have e45 : wqM σ' q 45 0 = σ' 45 0 := wqM_o (Or.inl (by omega))
  have hd : ∀ o, rOp σ o → rDu (wqM σ' q) o = rDu σ o := fun o v => (f2 o v.1 v.2.1).2
  have hH : ∀ g, SolF (rOp (wqM σ' q)) (hF (wqM σ' q) 4) g ↔ IsHead (rOp σ) (wP (rMc σ) (rLn σ) q) (rDu σ) (rdG (rMc σ) (rDu σ) (rRe σ) h b t u) g := fun g => by
    have be := brk_eq (h := g) (u := u) hw.1 (fun o v => (rWF_op hw v).2.2.2.2.2.1) H a
    refine Iff.trans ?_ be.symm
    rw [hF_head ok.1, f4]
    refine IsHead_cg (V := rOp σ) (fun o' o v' v => ?_) hd (fun o v => ?_)
    · have q5 := h5 o v (rWF_op hw v).2.1
      by_cases s : stG (rMc σ) (rDu σ) h b t o
      · have n1 : hP1 (wqM σ' q) o = -6 := by
          unfold hP1
          rw [e44, q5.2.1 s, if_pos (by omega)]
        have n2 : hP2 (wqM σ' q) 4 o = -6 := by
          unfold hP2
          rw [e44, q5.2.1 s, if_pos (by omega)]
        rw [n1, n2]
        exact ⟨fun z => by omega, fun z => absurd s z.1⟩
      · have n1 : hP1 (wqM σ' q) o = if o % 4 = 0 then -6 else o - 1 := by
          unfold hP1
          rw [e44, q5.2.2 s, if_neg (fun z => z rfl)]
        have vt : rOp (wqM σ' q) o := by rw [f4]; exact v
        have vt' : rOp (wqM σ' q) o' := by rw [f4]; exact v'
        have n2 : hP2 (wqM σ' q) 4 o = oA (wqM σ' q) (rMc (wqM σ' q) o) (rPl (wqM σ' q) o - 1) := by
          unfold hP2
          rw [e44, q5.2.2 s, if_neg (fun z => z rfl), if_pos (rWF_op ok.1.1 vt).2.1]
        rw [n1, n2, oA_bef ok.1.1 vt vt']
        have P := ag.P w v' v
        have v0 := v.1
        constructor
        · intro z
          refine ⟨s, P.mpr ?_⟩
          rcases z with ⟨z1, z2⟩ | z
          · left
            split at z1
            · omega
            · rename_i c
              rw [if_neg c] at z2
              exact ⟨c, z2⟩
          · exact Or.inr z
        · rintro ⟨-, z⟩
          rcases P.mp z with ⟨z1, z2⟩ | z
          · left
            rw [if_neg z1]
            omega
          · exact Or.inr z
    · have q5 := h5 o v (rWF_op hw v).2.1
      have er := (f1 _ (vOp_j v).1 (vOp_j v).2.1).2.1
      by_cases s : stG (rMc σ) (rDu σ) h b t o
      · rw [cif_1 s]
        unfold hBs
        rw [e44, q5.2.1 s, if_pos (by omega), e45, h3 o v]
      · rw [cif_0 s]
        unfold hBs
        rw [e44, q5.2.2 s, if_neg (fun z => z rfl), e43, q5.1, er]
        unfold gt2
        split <;> split <;> omega
  constructor
  · rintro ⟨g, g1, g2, g3, g4⟩
    rw [f4] at g3 g4
    refine ⟨g, (hH g).mp g1, g2, fun o v => ?_, ?_⟩
    · rw [← hd o v]
      exact g3 o v
    · rcases g4 with z | ⟨o, v, z⟩
      · exact Or.inl z
      · exact Or.inr ⟨o, v, by rw [← hd o v]; exact z⟩
  · rintro ⟨g, g1, g2, g3, g4⟩
    refine ⟨g, (hH g).mpr g1, g2, fun o v => ?_, ?_⟩
    · rw [f4] at v
      rw [hd o v]
      exact g3 o v
    · rcases g4 with z | ⟨o, v, z⟩
      · exact Or.inl z
      · exact Or.inr ⟨o, by rw [f4]; exact v, by rw [hd o v]; exact z⟩
def rBrk (σ : Mem) (b t u le : Int) (f : Int → Int) : Prop := brkS (rSt σ) (rMc σ) (rDu σ) (rRe σ) (rLn σ) (rQ σ) b t u le f
theorem BKi_end {σ σ' σ3 σ4 : Mem} {h : Int → Int} {b t u m le : Int} (hw : rWF σ) (ht : 0 ≤ t ∧ t ≤ 400) (hu : 0 ≤ u ∧ u ≤ 400) (hI : BKi σ σ' h b t u m) (hm : m = 4) (hS : SRe σ' (rQ σ) (fsR σ h b t) σ3 le) (hc : CpR σ3 σ4 38 49 16 (σ3 52 0) 16) : FrG pF4 σ σ4 ∧ rBrk σ b t u le (σ4 51 0) := by
  subst hm
  have ll := fun q L (a : aQo (rLn σ) (fsR σ h b t) (rQ σ) q) => LqO_brk (L := L) hw ht hu hI a
  obtain ⟨H, h1, h2, h3, h4, h5⟩ := hI
  obtain ⟨e0, e1, e2, e3, e4⟩ := rts_e h2.1
  obtain ⟨c1, -, -, c4⟩ := hc
  have s1 := hS.1.1
  have e51 : σ4 51 0 = σ3 51 0 := c1.f 51 0 (by rintro x ⟨q, -⟩; omega)
  refine ⟨fun t a x q => ?_, h, H, ?_⟩
  · by_cases c : t = 38 ∧ a = 0 ∧ 49 ≤ x ∧ x < 65
    · obtain ⟨rfl, rfl, x0, x1⟩ := c
      have := c4 (x - 49) (by omega) (by omega)
      rw [show 49 + (x - 49) = x by omega] at this
      rw [this, s1 52 0 _ (by rintro ⟨-, q | q | q | q⟩ <;> omega), h4 (x - 49) (by omega) (by omega)]
      unfold rQ
      rw [show 49 + (x - 49) = x by omega]
    · rw [c1 t a x (fun ⟨q1, q2, q3, q4⟩ => c ⟨q1, q2, q3, q4⟩), s1 t a x (by
        rintro ⟨rfl, z | z | z | z⟩
        · exact c ⟨z.1, rfl, z.2⟩
        · exact q ⟨rfl, by omega⟩
        · exact q ⟨rfl, by omega⟩
        · exact q ⟨rfl, by omega⟩), h1 t a x (by
        rintro ⟨z1, z | z⟩
        · exact q ⟨z1, z⟩
        · exact c ⟨z.1, z1, z.2⟩)]
  · rw [e51]
    have aa : ∀ q, aQo (rLn σ') (fsR σ h b t) (rQ σ) q ↔ aQo (rLn σ) (fsR σ h b t) (rQ σ) q := fun q => ⟨fun a m m0 m1 => by rw [← e3 m m0 m1]; exact a m m0 m1, fun a m m0 m1 => by rw [e3 m m0 m1]; exact a m m0 m1⟩
    obtain ⟨-, r1, r2⟩ := hS
    refine ⟨fun q a L hL => r1 q ((aa q).mpr a) L ((ll q L a).mpr hL), ?_⟩
    rcases r2 with z | ⟨z1, z2, z3, z4, z5⟩
    · exact Or.inl z
    · refine Or.inr ⟨z1, z2, (aa _).mp z3, (ll _ _ ((aa _).mp z3)).mp z4, fun q a hq m k m0 m1 k0 k1 ah => z5 q ((aa q).mpr a) ((ll q le a).mpr hq) m k m0 m1 k0 (by rw [e3 m m0 m1]; exact k1) (fun m' k' a0 b0 b1 hh => ah m' k' a0 b0 ?_ hh)⟩
      rw [← e3 m' a0 (by omega)]
      exact b1
def ca_X7_breakdown : Nat → Option (Nat × Nat × Tr)
  | 87 => some (3, 99, T_X7_in2)
  | 139 => some (1, 7, T_X7_find)
  | 179 => some (1, 7, T_X7_keepOrders)
  | 198 => some (5, 7, T_X7_layStays)
  | 182 => some (3, 7, T_X7_layPlans)
  | 185 => some (1, 7, T_X7_search)
  | 188 => some (2, 7, T_X7_putOrders)
  | 195 => some (3, 7, T_X7_foundAt2)
  | _ => none
theorem cao_X7_breakdown (l : Launch) : ∀ k n' ci T', ca_X7_breakdown k = some (n', ci, T') → ∃ nn, nn + 1 ≤ 5 ∧ Site l yX7_breakdown.cls k n' ci nn T' := by
  intro k n' ci T' h
  unfold ca_X7_breakdown at h
  split at h
  · cases h; exact ⟨0, by decide, _, _, _, _, k_X7_in2 l, Or.inr ⟨rfl, FX7_in, Or.inl ⟨rfl, KRX7_87⟩⟩⟩
  · cases h; exact ⟨4, by decide, _, _, _, _, k_X7_find l, Or.inl ⟨_, rfl, FX7_find, KRX7_139⟩⟩
  · cases h; exact ⟨0, by decide, _, _, _, _, k_X7_keepOrders l, Or.inl ⟨_, rfl, FX7_keepOrders, KRX7_179⟩⟩
  · cases h; exact ⟨3, by decide, _, _, _, _, k_X7_layStays l, Or.inl ⟨_, rfl, FX7_layStays, KRX7_198⟩⟩
  · cases h; exact ⟨1, by decide, _, _, _, _, k_X7_layPlans l, Or.inl ⟨_, rfl, FX7_layPlans, KRX7_182⟩⟩
  · cases h; exact ⟨4, by decide, _, _, _, _, k_X7_search l, Or.inl ⟨_, rfl, FX7_search, KRX7_185⟩⟩
  · cases h; exact ⟨0, by decide, _, _, _, _, k_X7_putOrders l, Or.inl ⟨_, rfl, FX7_putOrders, KRX7_188⟩⟩
  · cases h; exact ⟨0, by decide, _, _, _, _, k_X7_foundAt2 l, Or.inl ⟨_, rfl, FX7_foundAt, KRX7_195⟩⟩
  · cases h
def T_X7_breakdown : Tr := fun a σ K => match a with
  | [.inr (.inl (7, 0)), .inl b, .inl t, .inl u, .inl w] => rWF σ ∧ (¬ ((0 ≤ b ∧ b ≤ 3) ∧ (0 ≤ t ∧ t ≤ 200) ∧ (t ≤ u ∧ u ≤ 400) ∧ (-1 ≤ w ∧ w ≤ 15)) → K (some (-2)) σ) ∧ ((0 ≤ b ∧ b ≤ 3) ∧ (0 ≤ t ∧ t ≤ 200) ∧ (t ≤ u ∧ u ≤ 400) ∧ (-1 ≤ w ∧ w ≤ 15) → (∀ σ1, FrG pF4 σ σ1 → (∀ h, ¬ rH σ h) → K (some (-5)) σ1) ∧ (∀ σ1 le, FrG pF4 σ σ1 → rBrk σ b t u le (σ1 51 0) → (w < 0 → K (some le) σ1) ∧ (0 ≤ w → ¬ (w % 4 < rLn σ (w / 4)) → K (some (-6)) σ1) ∧ (0 ≤ w → w % 4 < rLn σ (w / 4) → K (some (σ1 51 0 w)) σ1)))
  | _ => False
set_option maxHeartbeats 8000000 in
set_option maxRecDepth 20000 in
theorem k_X7_breakdown (l : Launch) : Ct l yX7_breakdown cX7_breakdown 7 (some .int) 5 T_X7_breakdown := by
  refine mk_met (by decide +kernel) hCX7_breakdown lCX7_breakdown frX7_ok cstX7_ok (cao_X7_breakdown l) ?_ ?_
  · intro a σ K h
    unfold T_X7_breakdown at h
    split at h
    · simp [eL]
    · exact h.elim
  · intro a σ K ha hR h
    unfold T_X7_breakdown at h
    split at h
    · rename_i b t u w
      refine ⟨fun pc => if pc = 62 then some (fun L S σ' k => match L, S with | [some (.inr (.inl c1)), some (.inl b'), some (.inl t'), some (.inl u'), some (.inl w'), some (.inl m), _], [] => (c1 = (7, 0) ∧ b' = b ∧ t' = t ∧ u' = u ∧ w' = w ∧ ((0 ≤ b ∧ b ≤ 3) ∧ (0 ≤ t ∧ t ≤ 200) ∧ (t ≤ u ∧ u ≤ 400) ∧ (-1 ≤ w ∧ w ≤ 15)) ∧ 0 ≤ m ∧ m ≤ 4 ∧ ∃ g, BKi σ σ' g b t u m) ∧ k = (10 - m).toNat | _, _ => False) else none, 200, ?_, ?_⟩
      · intro pc I L S σ' k hcut hi
        dsimp only at hcut
        split at hcut
        · rename_i hpc
          subst hpc
          cases hcut
          try dsimp only at hi
          split at hi
          · rename_i c1 b' t' u' w' m x1
            obtain ⟨hi, rfl⟩ := hi
            obtain ⟨rfl, rfl, rfl, rfl, rfl, ha, m0, m4, g, hI⟩ := hi
            obtain ⟨p, hn, h⟩ := h
            simp only [wp, stp, drp, entL, eL, lget, lset, okst, cnd, swt, rcv, Kr_int, Kr_bool, Kr_void, List.length_cons, List.length_nil, List.replicate, List.append_nil, List.cons_append, List.nil_append, List.take_succ_cons, List.take_zero, List.drop_succ_cons, List.drop_zero, List.reverse_cons, List.reverse_nil, Option.map_some, Option.map_none, Option.toList_some, Option.toList_none, Nat.reduceAdd, Nat.reduceSub, Nat.reduceLT, Nat.reduceLeDiff, Nat.reduceEqDiff, ↓reduceIte, Nat.add_zero, Nat.zero_add, true_and, and_true, Nat.le_refl, reduceCtorEq, false_implies, true_implies, not_true_eq_false, not_false_eq_true, Int.reduceAdd, Int.reduceSub, Int.reduceMul, Int.reduceLE, Int.reduceLT, Int.reduceEq, Int.reduceNe, Int.reduceNeg, Int.reduceDiv, Int.reduceMod, Bool.false_eq_true, Int.le_refl, and_self, true_or, or_true, inR_l, fv0, fv1, fv2, fv3, nc2, nc4, nc6, nc16, nc25, nc60, nc65, nc80, nc130, nc384, nc390, fp_0_0, fp_0_1, fp_0_2, fp_1_0, fp_1_1, fp_1_2, fp_1_3, fp_1_4, fp_1_5, fp_1_6, fp_1_7, fp_1_8, fp_1_9, fp_1_10, fp_1_11, fp_1_12, fp_1_13, fp_1_14, fp_2_0, fp_2_1, fp_2_2, fp_2_3, fp_3_0, fp_3_1, fp_4_0, fp_4_1, fp_4_2, fp_4_3, fp_4_4, fp_4_5, fp_4_6, fp_4_7, fp_5_0, fp_5_1, fp_5_2, fp_5_3, fp_5_4, fp_5_5, fp_5_6, fp_5_7, fp_6_0, fp_6_1, fp_6_2, fp_6_3, fp_6_4, fp_6_5, fp_6_6, fp_6_7, fp_6_8, fp_6_9, fp_6_10, fp_6_11, fp_6_12, fp_6_13, fp_6_14, fp_6_15, fp_7_0, fp_7_1, fp_7_2, fp_7_3, fp_7_4, fp_7_5, fp_7_6, fp_7_7, fp_7_8, fp_7_9, fp_7_10, fp_7_11, fp_7_12, fp_7_13, fp_7_14, fp_7_15, fp_7_16, fp_7_17, fp_7_18, fp_7_19, fp_7_20, fp_7_21, fp_7_22, fp_7_23, fp_7_24, iz_0_1, iz_0_2, iz_1_8, iz_1_9, iz_1_11, iz_2_1, iz_2_2, iz_2_3, iz_3_1, iz_4_1, iz_4_2, iz_5_0, iz_6_8, iz_6_9, iz_6_13, iz_6_14, iz_6_15, iz_7_2, iz_7_6, iz_7_12, iz_7_20, iz_7_21, iz_7_23, iz_7_24, ak_8, ak_9, ak_10, ak_11, ak_12, ak_13, ak_14, ak_15, ak_16, ak_17, ak_18, ak_19, ak_20, ak_21, ak_22, ak_23, ak_24, ak_25, ak_26, ak_27, ak_28, ak_29, ak_30, ak_31, ak_32, ak_33, ak_34, ak_35, ak_36, ak_37, ak_38, ak_39, ak_40, ak_41, ak_42, ak_43, ak_44, ak_45, ak_46, ak_47, ak_48, ak_49, ak_50, ak_51, ak_52, ak_53, ak_54, ak_55, ak_56, el31, el33, el34, CX7_breakdown, ca_X7_breakdown, frX7, kcX7, klX7, T_X7_in2, T_X7_find, T_X7_keepOrders, T_X7_layStays, T_X7_layPlans, T_X7_search, T_X7_putOrders, T_X7_foundAt2, xT_up, xL_20, xL_21, exists_eq_right_right, exists_eq_right, exists_eq_left, Nat.lt_irrefl, and_self, implies_true, forall_const]
            have ht : 0 ≤ t' ∧ t' ≤ 400 := by omega
            have hu : 0 ≤ u' ∧ u' ≤ 400 := by omega
            refine ⟨fun c => ⟨rQ σ, fsR σ g b' t', BKi_sp p ht hu hI (by omega), fun σ3 le hS => ⟨by omega, fun σ4 hc => ?_⟩⟩, fun c => ⟨⟨BKi_h p hI, m0, by omega⟩, fun σ2 n hS => ?_⟩⟩
            · obtain ⟨r1, r2⟩ := BKi_end p ht hu hI (by omega) hS hc
              obtain ⟨h1, h2, h3⟩ := (h ha).2 σ4 le r1 r2
              have e38 : σ4 38 0 = σ 38 0 := r1.f 38 0 (by rintro x ⟨-, q⟩; omega)
              have eL : rLn σ4 (w' / 4) = rLn σ (w' / 4) := by unfold rLn; rw [e38]
              refine ⟨fun d => ⟨by omega, by omega, ⟨by omega, by omega, ?_⟩, ?_⟩, fun d => h1 (by omega)⟩
              · have := (rW_l p (w' / 4) (by omega) (by omega)).2
                rw [← eL] at this
                exact this
              · rw [eL, show 4 * (w' / 4) + w' % 4 = w' by omega]
                exact ⟨fun e => h3 (by omega) e.2, fun e => h2 (by omega) (fun z => e ⟨by omega, z⟩)⟩
            · have st := BKi_s (σ3 := σ2) p m0 (by omega) hI hS
              exact ⟨st.1, fun σ3 hE => ⟨by simp only [inR]; omega, by omega, ha, by omega, by omega, g, (BKi_s p m0 (by omega) hI hS).2 hE⟩⟩
          · exact hi.elim
        · cases hcut
      · simp only [wp, stp, drp, entL, eL, lget, lset, okst, cnd, swt, rcv, Kr_int, Kr_bool, Kr_void, List.length_cons, List.length_nil, List.replicate, List.append_nil, List.cons_append, List.nil_append, List.take_succ_cons, List.take_zero, List.drop_succ_cons, List.drop_zero, List.reverse_cons, List.reverse_nil, Option.map_some, Option.map_none, Option.toList_some, Option.toList_none, Nat.reduceAdd, Nat.reduceSub, Nat.reduceLT, Nat.reduceLeDiff, Nat.reduceEqDiff, ↓reduceIte, Nat.add_zero, Nat.zero_add, true_and, and_true, Nat.le_refl, reduceCtorEq, false_implies, true_implies, not_true_eq_false, not_false_eq_true, Int.reduceAdd, Int.reduceSub, Int.reduceMul, Int.reduceLE, Int.reduceLT, Int.reduceEq, Int.reduceNe, Int.reduceNeg, Int.reduceDiv, Int.reduceMod, Bool.false_eq_true, Int.le_refl, and_self, true_or, or_true, inR_l, fv0, fv1, fv2, fv3, nc2, nc4, nc6, nc16, nc25, nc60, nc65, nc80, nc130, nc384, nc390, fp_0_0, fp_0_1, fp_0_2, fp_1_0, fp_1_1, fp_1_2, fp_1_3, fp_1_4, fp_1_5, fp_1_6, fp_1_7, fp_1_8, fp_1_9, fp_1_10, fp_1_11, fp_1_12, fp_1_13, fp_1_14, fp_2_0, fp_2_1, fp_2_2, fp_2_3, fp_3_0, fp_3_1, fp_4_0, fp_4_1, fp_4_2, fp_4_3, fp_4_4, fp_4_5, fp_4_6, fp_4_7, fp_5_0, fp_5_1, fp_5_2, fp_5_3, fp_5_4, fp_5_5, fp_5_6, fp_5_7, fp_6_0, fp_6_1, fp_6_2, fp_6_3, fp_6_4, fp_6_5, fp_6_6, fp_6_7, fp_6_8, fp_6_9, fp_6_10, fp_6_11, fp_6_12, fp_6_13, fp_6_14, fp_6_15, fp_7_0, fp_7_1, fp_7_2, fp_7_3, fp_7_4, fp_7_5, fp_7_6, fp_7_7, fp_7_8, fp_7_9, fp_7_10, fp_7_11, fp_7_12, fp_7_13, fp_7_14, fp_7_15, fp_7_16, fp_7_17, fp_7_18, fp_7_19, fp_7_20, fp_7_21, fp_7_22, fp_7_23, fp_7_24, iz_0_1, iz_0_2, iz_1_8, iz_1_9, iz_1_11, iz_2_1, iz_2_2, iz_2_3, iz_3_1, iz_4_1, iz_4_2, iz_5_0, iz_6_8, iz_6_9, iz_6_13, iz_6_14, iz_6_15, iz_7_2, iz_7_6, iz_7_12, iz_7_20, iz_7_21, iz_7_23, iz_7_24, ak_8, ak_9, ak_10, ak_11, ak_12, ak_13, ak_14, ak_15, ak_16, ak_17, ak_18, ak_19, ak_20, ak_21, ak_22, ak_23, ak_24, ak_25, ak_26, ak_27, ak_28, ak_29, ak_30, ak_31, ak_32, ak_33, ak_34, ak_35, ak_36, ak_37, ak_38, ak_39, ak_40, ak_41, ak_42, ak_43, ak_44, ak_45, ak_46, ak_47, ak_48, ak_49, ak_50, ak_51, ak_52, ak_53, ak_54, ak_55, ak_56, el31, el33, el34, CX7_breakdown, ca_X7_breakdown, frX7, kcX7, klX7, T_X7_in2, T_X7_find, T_X7_keepOrders, T_X7_layStays, T_X7_layPlans, T_X7_search, T_X7_putOrders, T_X7_foundAt2, xT_up, xL_20, xL_21, exists_eq_right_right, exists_eq_right, exists_eq_left, Nat.lt_irrefl, and_self, implies_true, forall_const]
        obtain ⟨p, hn, h⟩ := h
        exact ⟨fun a => ⟨fun c => ⟨fun d => ⟨fun e => ⟨p, fun σ1 hF σ2 hc => ⟨⟨a, c, d, e⟩, _, BKi_0 p hF hc⟩, fun σ1 hF hN => (h ⟨a, c, d, e⟩).1 σ1 (hF.w (by rintro t a x ⟨q1, q2⟩; exact ⟨q2, by omega⟩)) hN⟩, fun e => hn (fun q => e q.2.2.2)⟩, fun d => hn (fun q => d q.2.2.1)⟩, fun c => hn (fun q => c q.2.1)⟩, fun a => hn (fun q => a q.1)⟩
    · exact h.elim
