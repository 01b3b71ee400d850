/-! what is asked, over a view: 2; what a text says hangs on its characters alone -/
theorem nx_cg {tx tx' : Int → Int} {n : Int} (h : ∀ x, x < n → tx x = tx' x) : nx tx n = nx tx' n := by
  funext a
  unfold nx
  by_cases c : a < n
  · rw [if_pos c, if_pos c, h a c]
  · rw [if_neg c, if_neg c]
theorem dg_cg {tx tx' : Int → Int} {n : Int} (h : nx tx n = nx tx' n) : dg tx n = dg tx' n := by
  funext a
  unfold dg
  rw [h]
theorem nl_cg {tx tx' : Int → Int} {n : Int} (h : nx tx n = nx tx' n) (hi : Int) : ∀ (f : Nat) (v a : Int), nl tx n hi f v a = nl tx' n hi f v a := by
  intro f
  induction f with
  | zero => intro v a; rfl
  | succ f ih =>
    intro v a
    unfold nl
    rw [dg_cg h, ih]
theorem numS_cg {tx tx' : Int → Int} {n : Int} (h : nx tx n = nx tx' n) (lo hi a : Int) : numS tx n lo hi a = numS tx' n lo hi a := by
  unfold numS
  rw [dg_cg h, nl_cg h]
theorem op1_cg {tx tx' : Int → Int} {n : Int} (h : nx tx n = nx tx' n) (R : Int → Int) (c b : Int) : op1 tx n R c b = op1 tx' n R c b := by
  unfold op1
  rw [dg_cg h, h, numS_cg h]
theorem opsS_cg {tx tx' : Int → Int} {n : Int} (h : nx tx n = nx tx' n) : ∀ (f : Nat) (c a : Int) (R : Int → Int), opsS tx n f c a R = opsS tx' n f c a R := by
  intro f
  induction f with
  | zero => intro c a R; rfl
  | succ f ih =>
    intro c a R
    unfold opsS
    rw [op1_cg h, h, ih]
theorem jobS_cg {tx tx' : Int → Int} {n : Int} (h : nx tx n = nx tx' n) (a : Int) : jobS tx n a = jobS tx' n a := by
  unfold jobS
  simp only [numS_cg h, h, opsS_cg h]
theorem rtsS_cg {tx tx' : Int → Int} {n : Int} (h : nx tx n = nx tx' n) : ∀ (f : Nat) (j a : Int) (Rs : Int → Int), rtsS tx n f j a Rs = rtsS tx' n f j a Rs := by
  intro f
  induction f with
  | zero => intro j a Rs; rfl
  | succ f ih =>
    intro j a Rs
    unfold rtsS
    rw [jobS_cg h, h, ih]
theorem rts_cg {tx tx' : Int → Int} {n : Int} (h : nx tx n = nx tx' n) : rts0 tx n = rts0 tx' n ∧ rtsF tx n = rtsF tx' n := by
  have e : rts0 tx n = rts0 tx' n := rtsS_cg h 4 0 0 _
  refine ⟨e, ?_⟩
  rw [rtsF_0, rtsF_0, e]
theorem jbS_cg {tx tx' : Int → Int} {n : Int} (h : nx tx n = nx tx' n) (m : Int) : ∀ (f : Nat) (c a : Int) (q : Int → Int), jbS tx n m f c a q = jbS tx' n m f c a q := by
  intro f
  induction f with
  | zero => intro c a q; rfl
  | succ f ih =>
    intro c a q
    unfold jbS
    rw [dg_cg h, ih]
theorem ordS_cg {tx tx' : Int → Int} {n : Int} (h : nx tx n = nx tx' n) (ln q : Int → Int) (a : Int) : ordS tx n ln q a = ordS tx' n ln q a := by
  unfold ordS
  simp only [dg_cg h, h, jbS_cg h]
theorem plnS_cg {tx tx' : Int → Int} {n : Int} (h : nx tx n = nx tx' n) : ∀ (f : Nat) (j a : Int) (ln q : Int → Int), plnS tx n f j a ln q = plnS tx' n f j a ln q := by
  intro f
  induction f with
  | zero => intro j a ln q; rfl
  | succ f ih =>
    intro j a ln q
    unfold plnS
    rw [ordS_cg h, h, ih]
theorem pln_cg {tx tx' : Int → Int} {n : Int} (h : nx tx n = nx tx' n) : pln0 tx n = pln0 tx' n ∧ plnF tx n = plnF tx' n := by
  have e : pln0 tx n = pln0 tx' n := plnS_cg h 4 0 0 _ _
  refine ⟨e, ?_⟩
  unfold plnF
  rw [e]
theorem pBe_0 {σ σ' : Mem} (h : FrG pBe σ σ') (t a : Nat) (x : Int) (ht : (t ≤ 14 ∧ t ≠ 1 ∧ t ≠ 4) ∨ 32 < t ∨ t = 31 ∨ (a ≠ 0 ∧ a ≠ 2 ∧ t ≠ 32) ∨ (a = 0 ∧ t ≠ 4 ∧ t ≠ 27 ∧ t ≠ 28 ∧ t ≠ 29 ∧ t ≠ 30 ∧ t ≠ 32)) : σ' t a x = σ t a x := h t a x (by
  unfold pBe pL pF pS pC p26 pK
  rintro (q | (((q | q | q) | q | q) | q | q | q))
  · omega
  · omega
  · omega
  · omega
  · omega
  · omega
  · omega
  · omega
  · omega)
theorem pB1_0 {σ σ' : Mem} (h : FrG pB1 σ σ') (t a : Nat) (x : Int) (ht : a ≠ 1 ∨ (t < 15 ∧ t ≠ 1) ∨ 26 < t) : σ' t a x = σ t a x := h t a x (by unfold pB1 pNt p26; omega)
theorem GS_B1 {g : Gh} {σ σ1 : Mem} (h : GS g σ) (hF : FrG pB1 σ σ1) : GS g σ1 := GS_fr h (fun t a x q => pB1_0 hF t a x (by unfold hrg at q; omega)) (RCb_e h.2.2.2.2 (fun t a x q => pB1_0 hF t a x (by omega)))
theorem GS_Be {g : Gh} {σ σ1 : Mem} (h : GS g σ) (hF : FrG pBe σ σ1) (hK : KSc σ1) : GS g σ1 := GS_fr h (fun t a x q => pBe_0 hF t a x (by unfold hrg at q; omega)) ⟨KPc_cg h.2.2.2.2.1 (fun t q => funext fun x => pBe_0 hF t 0 x (by omega)) (pBe_0 hF 1 0 8 (by omega)) (pBe_0 hF 3 0 1 (by omega)) (pBe_0 hF 6 0 8 (by omega)) (pBe_0 hF 6 0 9 (by omega)), hK, KRc_cg h.2.2.2.2.2.2 (fun t q => funext fun x => pBe_0 hF t 0 x (by omega)) (fun x q => pBe_0 hF 4 1 x (by omega)) (fun x q => pBe_0 hF 6 0 x (by omega)) (funext fun x => pBe_0 hF 27 1 x (by omega))⟩
theorem GS_KB {g : Gh} {σ σ1 : Mem} (h : GS g σ) (hF : FrG pKB σ σ1) (hK : KPc σ1) (hR : KRc σ1) : GS g σ1 := GS_fr h (fun t a x q => by
  unfold hrg at q
  rw [pKB_f hF t a (by omega)]) ⟨hK, KSc_cg h.2.2.2.2.2.1 (fun t q => pKB_f hF t 0 (by omega)) (fun x q => by rw [pKB_f hF 4 0 (by omega)]) (pKB_f hF 27 0 (by omega)), hR⟩
theorem ct_w {g : Gh} {w : Int} (a : 0 ≤ w ∧ w ≤ 9) : cntA g w = if w = 0 then g.1 5 0 else if w = 1 then wF (g.1 10) 0 (g.1 5 0) else if w = 2 then wF (fun j => wF (g.1 12) (4 * j) (g.1 10 j)) 0 (g.1 5 0) else if w = 8 then g.2.2.2.2 else if w = 9 then g.2.1.length else if w = 7 then cif (pos g.1) 1 0 else cif (¬ pos g.1) (-6) (if w = 3 then nV g.1 else if w = 4 then sm (blk (g.1 11) (pV g.1)) (nV g.1).toNat else if w = 5 then sm (ltA g.1) (g.1 5 0).toNat else mxS (ltA g.1) (g.1 5 0).toNat) := if_neg (fun q => q a)
theorem ct_o {g : Gh} {w : Int} (a : ¬ (0 ≤ w ∧ w ≤ 9)) : cntA g w = -2 := if_pos a
theorem ct0 {g : Gh} : cntA g 0 = g.1 5 0 := by
  rw [ct_w (by omega), if_pos rfl]
theorem ct1 {g : Gh} : cntA g 1 = wF (g.1 10) 0 (g.1 5 0) := by
  rw [ct_w (by omega), if_neg (by omega), if_pos rfl]
theorem ct2 {g : Gh} : cntA g 2 = wF (fun j => wF (g.1 12) (4 * j) (g.1 10 j)) 0 (g.1 5 0) := by
  rw [ct_w (by omega), if_neg (by omega), if_neg (by omega), if_pos rfl]
theorem ct8 {g : Gh} : cntA g 8 = g.2.2.2.2 := by
  rw [ct_w (by omega), if_neg (by omega), if_neg (by omega), if_neg (by omega), if_pos rfl]
theorem ct9 {g : Gh} : cntA g 9 = g.2.1.length := by
  rw [ct_w (by omega), if_neg (by omega), if_neg (by omega), if_neg (by omega), if_neg (by omega), if_pos rfl]
theorem ct7 {g : Gh} : cntA g 7 = cif (pos g.1) 1 0 := by
  rw [ct_w (by omega), if_neg (by omega), if_neg (by omega), if_neg (by omega), if_neg (by omega), if_neg (by omega), if_pos rfl]
theorem ct7p {g : Gh} (h : pos g.1) : cntA g 7 = 1 := ct7.trans (cif_1 h)
theorem ct7n {g : Gh} (h : ¬ pos g.1) : cntA g 7 = 0 := ct7.trans (cif_0 h)
theorem ct_np {g : Gh} {w : Int} (h : ¬ pos g.1) (a : 3 ≤ w) (b : w ≤ 6) : cntA g w = -6 := by
  rw [ct_w (by omega), if_neg (by omega), if_neg (by omega), if_neg (by omega), if_neg (by omega), if_neg (by omega), if_neg (by omega), cif_1 h]
theorem ct3 {g : Gh} (h : pos g.1) : cntA g 3 = nV g.1 := by
  rw [ct_w (by omega), if_neg (by omega), if_neg (by omega), if_neg (by omega), if_neg (by omega), if_neg (by omega), if_neg (by omega), cif_0 (fun q => q h), if_pos rfl]
theorem ct4 {g : Gh} (h : pos g.1) : cntA g 4 = sm (blk (g.1 11) (pV g.1)) (nV g.1).toNat := by
  rw [ct_w (by omega), if_neg (by omega), if_neg (by omega), if_neg (by omega), if_neg (by omega), if_neg (by omega), if_neg (by omega), cif_0 (fun q => q h), if_neg (by omega), if_pos rfl]
theorem ct5 {g : Gh} (h : pos g.1) : cntA g 5 = sm (ltA g.1) (g.1 5 0).toNat := by
  rw [ct_w (by omega), if_neg (by omega), if_neg (by omega), if_neg (by omega), if_neg (by omega), if_neg (by omega), if_neg (by omega), cif_0 (fun q => q h), if_neg (by omega), if_neg (by omega), if_pos rfl]
theorem ct6 {g : Gh} (h : pos g.1) : cntA g 6 = mxS (ltA g.1) (g.1 5 0).toNat := by
  rw [ct_w (by omega), if_neg (by omega), if_neg (by omega), if_neg (by omega), if_neg (by omega), if_neg (by omega), if_neg (by omega), cif_0 (fun q => q h), if_neg (by omega), if_neg (by omega), if_neg (by omega)]
def T_X6_countG : Tr := fun a σ K => match a with
  | [.inr (.inl (6, 0)), .inl w] => ∃ g, GS g σ ∧ ∀ σ', GS g σ' → K (some (cntA g w)) σ'
  | _ => False
theorem m_X6_countG : ∀ a σ K, T_X6_countG a σ K → T_X6_count a σ K := by
  intro a σ K h
  unfold T_X6_countG at h
  split at h
  · rename_i w
    obtain ⟨g, hg, hk⟩ := h
    have hk' : ∀ r σ', GS g σ' → r = cntA g w → K (some r) σ' := fun r σ' G e => by rw [e]; exact hk σ' G
    have ag := cv_ag hg.1.1
    rw [hg.1.2] at ag
    have J4 := hg.1.1.1.1
    have e5 : σ 5 0 0 = g.1 5 0 := ag.1
    unfold T_X6_count
    refine ⟨⟨hg.1.1, hg.2.2.2.2.1⟩, fun a => hk' _ _ hg (ct_o a).symm, fun a => ?_, fun a => ?_, fun a => ?_, fun a => ?_, fun a => ?_, fun a => ⟨fun σ1 hF hK hn => ?_, fun σ1 hF hK hP => ?_⟩⟩
    · subst a
      exact hk' _ _ hg (e5.trans ct0.symm)
    · subst a
      refine hk' _ _ hg (Eq.trans ?_ ct1.symm)
      rw [e5]
      exact wF_cg (fun k a b c => by rw [Int.zero_add]; exact ag.2.1 k a c)
    · subst a
      refine hk' _ _ hg (Eq.trans ?_ ct2.symm)
      rw [e5]
      refine wF_cg (fun k a b c => ?_)
      rw [Int.zero_add]
      have q := ag.wk (j := k) (a := 0) (n := σ 10 0 k) hg.1.1.1 a c (by omega) (by omega)
      rw [Int.add_zero] at q
      rw [q, ag.2.1 k a c]
    · subst a
      exact hk' _ _ hg (hg.2.2.2.1.1.trans ct8.symm)
    · subst a
      exact hk' _ _ hg (hg.2.1.2.1.trans ct9.symm)
    · have G := GS_kn hg hF hK
      have np := PK_np hg.1.1 hn hg.1.2
      refine ⟨fun b => hk' _ _ G (ct_np np (by omega) (by omega)).symm, fun b => ?_⟩
      subst b
      exact hk' _ _ G (ct7n np).symm
    · have G := GS_kn hg hF hK
      have v := PK_v G.1.1 hP G.1.2
      have ag1 := cv_ag G.1.1
      rw [G.1.2] at ag1
      have e51 : σ1 5 0 0 = g.1 5 0 := ag1.1
      have J41 := G.1.1.1.1
      refine ⟨fun q => ?_, fun q => ?_, fun q => ?_, fun q => ?_, fun q => ?_⟩
      · subst q
        exact hk' _ _ G (ct7p v.1).symm
      · subst q
        exact hk' _ _ G (v.2.2.2.1.trans (ct3 v.1).symm)
      · subst q
        refine hk' _ _ G (Eq.trans ?_ (ct4 v.1).symm)
        rw [v.2.2.2.1]
        refine blk_cg _ (fun k a b => (v.2.2.2.2.1 k a (by omega)).1) (fun k a b => ?_)
        have q := v.2.2.2.2.1 k a (by omega)
        rw [q.1]
        exact (v.2.1 _ q.2).2.2.2.2
      · subst q
        refine hk' _ _ G (Eq.trans ?_ (ct5 v.1).symm)
        rw [e51]
        exact sm_cg _ (fun i hi => (PK_ev G.1.1 hP G.1.2 (by omega) (by omega)).2)
      · subst q
        refine hk' _ _ G (Eq.trans ?_ (ct6 v.1).symm)
        rw [e51]
        exact mxS_cg _ (fun i hi => (PK_ev G.1.1 hP G.1.2 (by omega) (by omega)).2)
  · exact h.elim
theorem k_X6_countG (l : Launch) : Ct l yX6_count cX6_count 2 (some .int) 6 T_X6_countG := Ct_mono (k_X6_count l) m_X6_countG
noncomputable def bouA (v : Vw) (m : Int) : Int := if ¬ (-1 ≤ m ∧ m ≤ 3) then -2 else the (bndS (v 10) (v 11) (v 12) (v 8) m)
def T_X6_boundG : Tr := fun a σ K => match a with
  | [.inr (.inl (6, 0)), .inl m] => ∃ g, GS g σ ∧ ∀ σ', GS g σ' → (-1 ≤ m ∧ m ≤ 3 → bndS (g.1 10) (g.1 11) (g.1 12) (g.1 8) m (bouA g.1 m) ∧ 0 ≤ bouA g.1 m) → K (some (bouA g.1 m)) σ'
  | _ => False
theorem m_X6_boundG : ∀ a σ K, T_X6_boundG a σ K → T_X6_bound a σ K := by
  intro a σ K h
  unfold T_X6_boundG at h
  split at h
  · rename_i m
    obtain ⟨g, hg, hk⟩ := h
    have ag := cv_ag hg.1.1
    rw [hg.1.2] at ag
    unfold T_X6_bound
    refine ⟨hg.1.1, fun a => ?_, fun a B σ1 hF hB b0 b1 => ?_⟩
    · have := hk _ hg (fun q => absurd q a)
      rw [show bouA g.1 m = -2 from if_pos a] at this
      exact this
    · have hb := ag.bnd hg.1.1.1 hB
      have e : bouA g.1 m = B := (if_neg (fun q => q a)).trans (the_is hb (fun r hr => bndS_un hr hb))
      have := hk _ (GS_B1 hg hF) (fun _ => by rw [e]; exact ⟨hb, b0⟩)
      rw [e] at this
      exact this
  · exact h.elim
theorem k_X6_boundG (l : Launch) : Ct l yX6_bound cX6_bound 2 (some .int) 3 T_X6_boundG := Ct_mono (k_X6_bound l) m_X6_boundG
noncomputable def fcA (v : Vw) (u : Int) : Int := if ¬ (0 ≤ u ∧ u ≤ 500) then -2 else the (frS (v 10) (v 11) (v 12) (v 8) u)
def T_X6_forcedG : Tr := fun a σ K => match a with
  | [.inr (.inl (6, 0)), .inl u] => ∃ g, GS g σ ∧ ∀ σ', GS g σ' → (0 ≤ u ∧ u ≤ 500 → frS (g.1 10) (g.1 11) (g.1 12) (g.1 8) u (fcA g.1 u)) → K (some (fcA g.1 u)) σ'
  | _ => False
theorem m_X6_forcedG : ∀ a σ K, T_X6_forcedG a σ K → T_X6_forced2 a σ K := by
  intro a σ K h
  unfold T_X6_forcedG at h
  split at h
  · rename_i u
    obtain ⟨g, hg, hk⟩ := h
    have ag := cv_ag hg.1.1
    rw [hg.1.2] at ag
    unfold T_X6_forced2
    refine ⟨hg.1.1, fun a => ?_, fun a r σ1 hF hB => ?_⟩
    · have := hk _ hg (fun q => absurd q a)
      rw [show fcA g.1 u = -2 from if_pos a] at this
      exact this
    · have hb := ag.frS hB
      have e : fcA g.1 u = r := (if_neg (fun q => q a)).trans (the_is hb (fun r hr => frS_un hr hb))
      have := hk _ (GS_B1 hg hF) (fun _ => by rw [e]; exact hb)
      rw [e] at this
      exact this
  · exact h.elim
theorem k_X6_forcedG (l : Launch) : Ct l yX6_forced cX6_forced 2 (some .int) 4 T_X6_forcedG := Ct_mono (k_X6_forced2 l) m_X6_forcedG
noncomputable def ifA (v : Vw) (u x y : Int) : Int := cif (¬ (vOp (v 10) x ∧ vOp (v 10) y)) (-1) (cif (¬ ((0 ≤ u ∧ u ≤ 500) ∧ x ≠ y ∧ v 11 x = v 11 y)) (-2) (the (ifS (v 10) (v 11) (v 12) (v 8) u x y)))
def T_X6_isForcedG : Tr := fun a σ K => match a with
  | [.inr (.inl (6, 0)), .inl u, .inl x, .inl y] => ∃ g, GS g σ ∧ ∀ σ', GS g σ' → (vOp (g.1 10) x ∧ vOp (g.1 10) y → (0 ≤ u ∧ u ≤ 500) ∧ x ≠ y ∧ g.1 11 x = g.1 11 y → ifS (g.1 10) (g.1 11) (g.1 12) (g.1 8) u x y (ifA g.1 u x y)) → K (some (ifA g.1 u x y)) σ'
  | _ => False
theorem m_X6_isForcedG : ∀ a σ K, T_X6_isForcedG a σ K → T_X6_isForced a σ K := by
  intro a σ K h
  unfold T_X6_isForcedG at h
  split at h
  · rename_i u x y
    obtain ⟨g, hg, hk⟩ := h
    have ag := cv_ag hg.1.1
    rw [hg.1.2] at ag
    have V : ∀ o, vOp (σ 10 0) o ↔ vOp (g.1 10) o := fun o => (ag.V o).symm
    unfold T_X6_isForced
    refine ⟨hg.1.1, fun a => ?_, fun a b => ?_, fun a b c d r σ1 hF hB => ?_⟩
    · rw [V, V] at a
      have := hk _ hg (fun q => absurd q a)
      rw [show ifA g.1 u x y = -1 from cif_1 a] at this
      exact this
    · rw [(ag.2.2.1 x a.1).1, (ag.2.2.1 y a.2).1] at b
      rw [V, V] at a
      have := hk _ hg (fun _ q => absurd q b)
      rw [show ifA g.1 u x y = -2 from (cif_0 (fun q => q a)).trans (cif_1 b)] at this
      exact this
    · rw [(ag.2.2.1 x a.1).1, (ag.2.2.1 y a.2).1] at d
      rw [V, V] at a
      have hb := ag.ifS hB
      have e : ifA g.1 u x y = r := (cif_0 (fun q => q a)).trans ((cif_0 (fun q => q ⟨b, c, d⟩)).trans (the_is hb (fun r hr => ifS_un a.1 a.2 c d hr hb)))
      have := hk _ (GS_B1 hg hF) (fun _ _ => by rw [e]; exact hb)
      rw [e] at this
      exact this
  · exact h.elim
theorem k_X6_isForcedG (l : Launch) : Ct l yX6_isForced cX6_isForced 4 (some .int) 4 T_X6_isForcedG := Ct_mono (k_X6_isForced l) m_X6_isForcedG
