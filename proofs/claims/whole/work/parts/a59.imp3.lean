/-! the reference's improve -/
theorem up_up_38 {σ : Mem} {y : Int} : (up (up σ 38 0 y (σ 38 0 (y + 1))) 38 0 (y + 1) (σ 38 0 y)) 38 0 = exQ (σ 38 0) y := by
  funext z
  simp only [up_ap, true_and]
  unfold exQ
  rfl
theorem ex_back {σ σa σc : Mem} {y : Int} (ha : σa = up (up σ 38 0 y (σ 38 0 (y + 1))) 38 0 (y + 1) (σ 38 0 y)) (hc : σc 38 0 = σa 38 0) : (up (up σc 38 0 y (σc 38 0 (y + 1))) 38 0 (y + 1) (σc 38 0 y)) 38 0 = σ 38 0 := by
  rw [up_up_38, hc, ha, up_up_38, exQ_exQ]
theorem rex_AG {σ σ2 : Mem} {m x : Int} (hw : rWF σ) (m0 : 0 ≤ m) (m1 : m < 4) (x0 : 0 ≤ x) (x1 : x + 1 < rLn σ m) (h2 : σ2 = up (up σ 38 0 (49 + 4 * m + x) (σ 38 0 (49 + 4 * m + x + 1))) 38 0 (49 + 4 * m + x + 1) (σ 38 0 (49 + 4 * m + x))) : AG (σ 38 0 0) (σ2 38 0 0) (rSt σ) (rSt σ2) (rMc σ) (rMc σ2) (rDu σ) (rDu σ2) (rRe σ) (rRe σ2) (rLn σ) (rLn σ2) (exQ (rQ σ) (4 * m + x)) (rQ σ2) := by
  obtain ⟨-, hr, hq, -⟩ := rWF_ex hw m0 m1 x0 x1 h2
  obtain ⟨e0, e1, e2, e3, e4⟩ := rts_e hr
  exact ⟨e0.symm, fun j a b => (e1 j a b).1.symm, fun o v => ⟨(e2 o v.1 v.2.1).1.symm, (e2 o v.1 v.2.1).2.symm, (e1 _ (vOp_j v).1 (vOp_j v).2.1).2.1.symm⟩, fun m a b => (e3 m a b).symm, fun m' k _ _ _ _ => (hq _).symm⟩
def rEx (σ : Mem) (o r : Int) : Prop := exL (rSt σ) (rMc σ) (rDu σ) (rRe σ) (rLn σ) (rQ σ) o r
def prR (σ : Mem) (k : Int) : Prop := rMc σ (σ 47 0 k) = rMc σ (σ 47 0 (k + 1))
def pRI (t a : Nat) (_x : Int) : Prop := a = 0 ∧ 43 ≤ t ∧ t ≤ 45
theorem pRI_f {σ σ' : Mem} (h : FrG pRI σ σ') (t a : Nat) (ht : t < 43 ∨ 45 < t ∨ a ≠ 0) : σ' t a = σ t a := h.f t a (by rintro x ⟨q, r⟩; omega)
theorem rEx_un {σ : Mem} (hw : rWF σ) {o r r' : Int} (v : rOp σ o) (hl : rPl σ o + 1 < rLn σ (rMc σ o)) (a : rEx σ o r) (b : rEx σ o r') : r = r' := by
  have w := rWF_op hw v
  exact lenQ_un (WF_ex hw.1 w.1 w.2.1 (rPl_of hw v).1 hl) (fun o v => (rWF_op hw v).2.2.2.2.2.1) a b
def RI (σ1 σ' : Mem) (L k le ch best : Int) : Prop := FrG pRI σ1 σ' ∧ rWF σ1 ∧ rPT σ1 L (σ1 47 0) (σ1 7 0 12) (-6) ∧ 0 ≤ k ∧ (k ≤ σ1 7 0 12 - 1 ∨ k = 0) ∧ impI (rEx σ1) (prR σ1) (σ1 47 0) L k le ch ∧ ((ch = -6 ∧ best = -6) ∨ (rOp σ1 ch ∧ best = 4 * rMc σ1 ch + rPl σ1 ch ∧ rPl σ1 ch + 1 < rLn σ1 (rMc σ1 ch))) ∧ 0 ≤ le ∧ le ≤ 20000
theorem RI_e {σ1 σ' : Mem} {L k le ch best : Int} (h : RI σ1 σ' L k le ch best) : σ' 38 0 = σ1 38 0 ∧ σ' 47 0 = σ1 47 0 ∧ σ' 7 0 = σ1 7 0 ∧ rWF σ' ∧ σ1 7 0 12 ≤ 16 := by
  have e := pRI_f h.1 38 0 (by omega)
  exact ⟨e, pRI_f h.1 47 0 (by omega), pRI_f h.1 7 0 (by omega), (r38 e).2.2.2.2.2.2.2.1.mpr h.2.1, (PTi_v h.2.1.1 h.2.2.1).2.2⟩
theorem RI_p {σ1 σ' : Mem} {L k le ch best : Int} (h : RI σ1 σ' L k le ch best) (hk : k + 1 < σ1 7 0 12) : rOp σ1 (σ1 47 0 k) ∧ rOp σ1 (σ1 47 0 (k + 1)) ∧ (prR σ1 k → rPl σ1 (σ1 47 0 k) + 1 < rLn σ1 (rMc σ1 (σ1 47 0 k))) := by
  have hv := PTi_v h.2.1.1 h.2.2.1
  have k0 := h.2.2.2.1
  exact ⟨hv.1 k k0 (by omega), hv.1 (k + 1) (by omega) (by omega), fun pr => (path_nx h.2.1.1 h.2.2.1 k0 (by omega) pr).2⟩
theorem RI_0 {σ σ1 : Mem} {L : Int} (h : RP2 σ σ1 L) : RI σ1 σ1 L 0 L (-6) (-6) := ⟨FrG.r, h.2.2.2.1.1, h.2.2.2.2.2, by omega, Or.inr rfl, impI_0, Or.inl ⟨rfl, rfl⟩, h.2.2.2.2.1.1, h.2.2.2.2.1.2.1⟩
theorem RI_n {σ1 σ' : Mem} {L k le ch best : Int} (h : RI σ1 σ' L k le ch best) (hk : k + 1 < σ1 7 0 12) (hn : ¬ prR σ1 k) : RI σ1 σ' L (k + 1) le ch best := by
  obtain ⟨a, b, c, d, e, f, g⟩ := h
  exact ⟨a, b, c, by omega, by omega, impI_no f (fun z => absurd z hn), g⟩
/-- the way with two exchanged -/
theorem RI_x {σ1 σ' σa σb : Mem} {L k le ch best : Int} (h : RI σ1 σ' L k le ch best) (hk : k + 1 < σ1 7 0 12) (hp : prR σ1 k) (ha : σa = up (up σ' 38 0 (49 + 4 * rMc σ1 (σ1 47 0 k) + rPl σ1 (σ1 47 0 k)) (σ' 38 0 (49 + 4 * rMc σ1 (σ1 47 0 k) + rPl σ1 (σ1 47 0 k) + 1))) 38 0 (49 + 4 * rMc σ1 (σ1 47 0 k) + rPl σ1 (σ1 47 0 k) + 1) (σ' 38 0 (49 + 4 * rMc σ1 (σ1 47 0 k) + rPl σ1 (σ1 47 0 k)))) (hN : NS σa σb 16) : hOK σb ∧ rWF σb ∧ (∀ σc, FrG p45 σb σc → (∀ o, rOp σb o → 0 ≤ σc 45 0 o ∧ σc 45 0 o ≤ 10000) → (rWF σc ∧ ∀ o, rOp σc o → 0 ≤ σc 45 0 o ∧ σc 45 0 o ≤ 10000) ∧ (SolF (rOp σb) (hF σb 4) (σc 45 0) → ∀ r, LE σc 16 r → rEx σ1 (σ1 47 0 k) r)) ∧ ((∀ hs, ¬ SolF (rOp σb) (hF σb 4) hs) → ∀ r, ¬ rEx σ1 (σ1 47 0 k) r) ∧ ∀ σc σd, FrG p45 σb σc → σd = up (up σc 38 0 (49 + 4 * rMc σ1 (σ1 47 0 k) + rPl σ1 (σ1 47 0 k)) (σc 38 0 (49 + 4 * rMc σ1 (σ1 47 0 k) + rPl σ1 (σ1 47 0 k) + 1))) 38 0 (49 + 4 * rMc σ1 (σ1 47 0 k) + rPl σ1 (σ1 47 0 k) + 1) (σc 38 0 (49 + 4 * rMc σ1 (σ1 47 0 k) + rPl σ1 (σ1 47 0 k))) → FrG pRI σ1 σd := by
  obtain ⟨v, v', pl⟩ := RI_p h hk
  have E := RI_e h
  have pl := pl hp
  have w := rWF_op h.2.1 v
  have q := (rPl_of h.2.1 v).1
  have e' := r38 E.1
  have pl' : rPl σ1 (σ1 47 0 k) + 1 < rLn σ' (rMc σ1 (σ1 47 0 k)) := by rw [e'.2.2.2.2.2.1]; exact pl
  obtain ⟨wa, -, -, fa⟩ := rWF_ex E.2.2.2.1 w.1 w.2.1 q pl' ha
  have ag := rex_AG E.2.2.2.1 w.1 w.2.1 q pl' ha
  obtain ⟨f1, ok, sl, vo, eb⟩ := find_h wa hN
  have eV : rOp σa = rOp σ1 := funext fun o => by
    have := propext (ag.V o)
    unfold rOp
    rw [this, e'.1]
  have hH : ∀ g, rH σa g ↔ wH (rSt σ1) (rMc σ1) (rDu σ1) (rRe σ1) (rLn σ1) (exQ (rQ σ1) (4 * rMc σ1 (σ1 47 0 k) + plo (rMc σ1) (rLn σ1) (rQ σ1) (σ1 47 0 k))) g := fun g => by
    have := ag.H (WF_ex E.2.2.2.1.1 w.1 w.2.1 q pl') (g := g)
    rw [e'.1, e'.2.1, e'.2.2.1, e'.2.2.2.1, e'.2.2.2.2.2.1, e'.2.2.2.2.2.2.1] at this
    exact this.symm
  have eD : ∀ o, rOp σ1 o → rDu σa o = rDu σ1 o := fun o v => by
    have v2 : vOp (rSt σ') o := by rw [e'.1]; exact v
    have := (ag.2.2.1 o v2).2.1
    rw [e'.2.2.1] at this
    exact this.symm
  have rb := r38 eb
  refine ⟨ok, ok.1, fun σc hc hb => ?_, fun hn r z => ?_, fun σc σd hc hd => ?_⟩
  · have ec : σc 38 0 = σb 38 0 := hc.f 38 0 (by rintro x ⟨q, -⟩; omega)
    have rc := r38 ec
    have ecV : rOp σc = rOp σ1 := by
      unfold rOp
      rw [rc.1, rb.1]
      exact eV
    have ebV : rOp σb = rOp σ1 := vo.trans eV
    refine ⟨⟨rc.2.2.2.2.2.2.2.1.mpr ok.1, fun o v => hb o (by rw [ebV]; rw [ecV] at v; exact v)⟩, fun S r hL => ?_⟩
    have H := (hH _).mp ((sl _).mp S)
    obtain ⟨l1, l2, l3, l4⟩ := hL
    rw [ecV] at l3 l4
    have ed : ∀ o, rOp σ1 o → rDu σc o = rDu σ1 o := fun o v => by rw [rc.2.2.1, rb.2.2.1]; exact eD o v
    refine ⟨σc 45 0, H, l1, fun o v => ?_, ?_⟩
    · have := l3 o v v.2.1
      rw [ed o v] at this
      exact this
    · rcases l4 with l4 | ⟨o, v, -, l4⟩
      · exact Or.inl l4
      · rw [ed o v] at l4
        exact Or.inr ⟨o, v, l4⟩
  · obtain ⟨g, H, -⟩ := z
    exact hn g ((sl g).mpr ((hH g).mpr H))
  · have ec : σc 38 0 = σa 38 0 := (hc.f 38 0 (by rintro x ⟨q, -⟩; omega)).trans eb
    have ed : σd 38 0 = σ' 38 0 := by rw [hd]; exact ex_back ha ec
    intro t a x hx
    by_cases z : t = 38 ∧ a = 0
    · rw [z.1, z.2, ed, E.1]
    · have e1 : σd t a x = σc t a x := by rw [hd, up_ap, if_neg (by rintro ⟨p, r, -⟩; omega), up_ap, if_neg (by rintro ⟨p, r, -⟩; omega)]
      rw [e1, hc t a x (by rintro ⟨p, r⟩; exact hx ⟨r, by omega⟩), hN.1 t a x (by rintro ⟨p, r⟩; exact hx ⟨r, by omega⟩), fa t a (by omega)]
      exact h.1 t a x hx
theorem RI_s {σ1 σ' σd : Mem} {L k le ch best : Int} (h : RI σ1 σ' L k le ch best) (hk : k + 1 < σ1 7 0 12) (hp : prR σ1 k) (hF : FrG pRI σ1 σd) : ((∀ r, rEx σ1 (σ1 47 0 k) r → le ≤ r) → RI σ1 σd L (k + 1) le ch best) ∧ (∀ r, rEx σ1 (σ1 47 0 k) r → r < le → RI σ1 σd L (k + 1) r (σ1 47 0 k) (4 * rMc σ1 (σ1 47 0 k) + rPl σ1 (σ1 47 0 k))) := by
  have P := RI_p h hk
  obtain ⟨a, b, c, d, e, i, g, m0, m1⟩ := h
  refine ⟨fun n => ⟨hF, b, c, by omega, by omega, impI_no i (fun _ r' e' => n r' e'), g, m0, m1⟩, fun r x lt => ?_⟩
  have r0 := x.choose_spec.2.1
  obtain ⟨h1, h2⟩ := i
  have le0 : le ≤ L := by
    rcases h2 with z | ⟨k', a', b', c', d', e', f', g'⟩ <;> omega
  refine ⟨hF, b, c, by omega, by omega, ⟨fun k' a' b' c' r' e' => ?_, Or.inr ⟨k, d, by omega, hp, rfl, x, by omega, fun k' a' b' c' r' e' => ?_⟩⟩, Or.inr ⟨P.1, rfl, P.2.2 hp⟩, r0, by omega⟩
  · by_cases z : k' = k
    · rw [z] at e'
      have := rEx_un b P.1 (P.2.2 hp) e' x
      omega
    · have := h1 k' a' (by omega) c' r' e'
      omega
  · have := h1 k' a' b' c' r' e'
    omega
def ca_X7_improve : Nat → Option (Nat × Nat × Tr)
  | 139 => some (1, 7, T_X7_find)
  | 165 => some (1, 7, T_X7_findCritical)
  | 143 => some (1, 7, T_X7_lastEnd)
  | 73 => some (2, 7, T_X7_machineOf)
  | 156 => some (2, 7, T_X7_placeOf)
  | 162 => some (3, 7, T_X7_exchange)
  | 130 => some (1, 7, T_X7_nothingStays)
  | 133 => some (2, 7, T_X7_findHeads2)
  | 91 => some (1, 7, T_X7_keep2)
  | _ => none
theorem cao_X7_improve (l : Launch) : ∀ k n' ci T', ca_X7_improve k = some (n', ci, T') → ∃ nn, nn + 1 ≤ 6 ∧ Site l yX7_improve.cls k n' ci nn T' := by
  intro k n' ci T' h
  unfold ca_X7_improve at h
  split at h
  · cases h; exact ⟨4, by decide, _, _, _, _, k_X7_find l, Or.inl ⟨_, rfl, FX7_find, KRX7_139⟩⟩
  · cases h; exact ⟨5, by decide, _, _, _, _, k_X7_findCritical l, Or.inl ⟨_, rfl, FX7_findCritical, KRX7_165⟩⟩
  · cases h; exact ⟨2, by decide, _, _, _, _, k_X7_lastEnd l, Or.inl ⟨_, rfl, FX7_lastEnd, KRX7_143⟩⟩
  · cases h; exact ⟨0, by decide, _, _, _, _, k_X7_machineOf l, Or.inl ⟨_, rfl, FX7_machineOf, KRX7_73⟩⟩
  · cases h; exact ⟨1, by decide, _, _, _, _, k_X7_placeOf l, Or.inl ⟨_, rfl, FX7_placeOf, KRX7_156⟩⟩
  · cases h; exact ⟨0, by decide, _, _, _, _, k_X7_exchange l, Or.inl ⟨_, rfl, FX7_exchange, KRX7_162⟩⟩
  · cases h; exact ⟨0, by decide, _, _, _, _, k_X7_nothingStays l, Or.inl ⟨_, rfl, FX7_nothingStays, KRX7_130⟩⟩
  · cases h; exact ⟨3, by decide, _, _, _, _, k_X7_findHeads2 l, Or.inl ⟨_, rfl, FX7_findHeads, KRX7_133⟩⟩
  · cases h; exact ⟨0, by decide, _, _, _, _, k_X7_keep2 l, Or.inl ⟨_, rfl, FX7_keep, KRX7_91⟩⟩
  · cases h
def T_X7_improve : Tr := fun a σ K => match a with
  | [.inr (.inl (7, 0))] => (rWF σ ∧ pmB σ) ∧ (∀ σ1, FrG pFd σ σ1 → (∀ h, ¬ rH σ h) → K (some (-5)) σ1) ∧ (∀ σ1 σ2 L k' le ch best, RP2 σ σ1 L → RI σ1 σ2 L k' le ch best → σ1 7 0 12 ≤ k' + 1 → (ch = -6 → K (some (-5)) σ2) ∧ (ch ≠ -6 → ∀ σ3 σ4, KEE σ2 σ3 → σ4 = up (up σ3 38 0 (49 + 4 * rMc σ1 ch + rPl σ1 ch) (σ3 38 0 (49 + 4 * rMc σ1 ch + rPl σ1 ch + 1))) 38 0 (49 + 4 * rMc σ1 ch + rPl σ1 ch + 1) (σ3 38 0 (49 + 4 * rMc σ1 ch + rPl σ1 ch)) → K (some le) σ4))
  | _ => False
set_option maxHeartbeats 8000000 in
set_option maxRecDepth 20000 in
theorem k_X7_improve (l : Launch) : Ct l yX7_improve cX7_improve 6 (some .int) 6 T_X7_improve := by
  refine mk_met (by decide +kernel) hCX7_improve lCX7_improve frX7_ok cstX7_ok (cao_X7_improve l) ?_ ?_
  · intro a σ K h
    unfold T_X7_improve at h
    split at h
    · simp [eL]
    · exact h.elim
  · intro a σ K ha hR h
    unfold T_X7_improve at h
    split at h
    · refine ⟨fun pc => if pc = 24 then some (fun L S σ' k => match L, S with | [some (.inr (.inl c1)), some (.inl le), some (.inl best), some (.inl k'), _, _], [] => (c1 = (7, 0) ∧ ∃ σ1 L ch, RP2 σ σ1 L ∧ RI σ1 σ' L k' le ch best) ∧ k = (100 - k').toNat | _, _ => False) else none, 200, ?_, ?_⟩
      · intro pc I L S σ' k hcut hi
        dsimp only at hcut
        split at hcut
        · rename_i hpc
          subst hpc
          cases hcut
          try dsimp only at hi
          split at hi
          · rename_i c1 le best k' x1 x2
            obtain ⟨hi, rfl⟩ := hi
            obtain ⟨rfl, σ1, L, ch, hR, hI⟩ := hi
            obtain ⟨⟨p, p2⟩, h1, h2⟩ := h
            simp only [wp, stp, drp, entL, eL, lget, lset, okst, cnd, swt, rcv, Kr_int, Kr_bool, Kr_void, List.length_cons, List.length_nil, List.replicate, List.append_nil, List.cons_append, List.nil_append, List.take_succ_cons, List.take_zero, List.drop_succ_cons, List.drop_zero, List.reverse_cons, List.reverse_nil, Option.map_some, Option.map_none, Option.toList_some, Option.toList_none, Nat.reduceAdd, Nat.reduceSub, Nat.reduceLT, Nat.reduceLeDiff, Nat.reduceEqDiff, ↓reduceIte, Nat.add_zero, Nat.zero_add, true_and, and_true, Nat.le_refl, reduceCtorEq, false_implies, true_implies, not_true_eq_false, not_false_eq_true, Int.reduceAdd, Int.reduceSub, Int.reduceMul, Int.reduceLE, Int.reduceLT, Int.reduceEq, Int.reduceNe, Int.reduceNeg, Int.reduceDiv, Int.reduceMod, Bool.false_eq_true, Int.le_refl, and_self, true_or, or_true, inR_l, fv0, fv1, fv2, fv3, nc2, nc4, nc6, nc16, nc25, nc60, nc65, nc80, nc130, nc384, nc390, fp_0_0, fp_0_1, fp_0_2, fp_1_0, fp_1_1, fp_1_2, fp_1_3, fp_1_4, fp_1_5, fp_1_6, fp_1_7, fp_1_8, fp_1_9, fp_1_10, fp_1_11, fp_1_12, fp_1_13, fp_1_14, fp_2_0, fp_2_1, fp_2_2, fp_2_3, fp_3_0, fp_3_1, fp_4_0, fp_4_1, fp_4_2, fp_4_3, fp_4_4, fp_4_5, fp_4_6, fp_4_7, fp_5_0, fp_5_1, fp_5_2, fp_5_3, fp_5_4, fp_5_5, fp_5_6, fp_5_7, fp_6_0, fp_6_1, fp_6_2, fp_6_3, fp_6_4, fp_6_5, fp_6_6, fp_6_7, fp_6_8, fp_6_9, fp_6_10, fp_6_11, fp_6_12, fp_6_13, fp_6_14, fp_6_15, fp_7_0, fp_7_1, fp_7_2, fp_7_3, fp_7_4, fp_7_5, fp_7_6, fp_7_7, fp_7_8, fp_7_9, fp_7_10, fp_7_11, fp_7_12, fp_7_13, fp_7_14, fp_7_15, fp_7_16, fp_7_17, fp_7_18, fp_7_19, fp_7_20, fp_7_21, fp_7_22, fp_7_23, fp_7_24, iz_0_1, iz_0_2, iz_1_8, iz_1_9, iz_1_11, iz_2_1, iz_2_2, iz_2_3, iz_3_1, iz_4_1, iz_4_2, iz_5_0, iz_6_8, iz_6_9, iz_6_13, iz_6_14, iz_6_15, iz_7_2, iz_7_6, iz_7_12, iz_7_20, iz_7_21, iz_7_23, iz_7_24, ak_8, ak_9, ak_10, ak_11, ak_12, ak_13, ak_14, ak_15, ak_16, ak_17, ak_18, ak_19, ak_20, ak_21, ak_22, ak_23, ak_24, ak_25, ak_26, ak_27, ak_28, ak_29, ak_30, ak_31, ak_32, ak_33, ak_34, ak_35, ak_36, ak_37, ak_38, ak_39, ak_40, ak_41, ak_42, ak_43, ak_44, ak_45, ak_46, ak_47, ak_48, ak_49, ak_50, ak_51, ak_52, ak_53, ak_54, ak_55, ak_56, el31, el33, el34, CX7_improve, ca_X7_improve, frX7, kcX7, klX7, T_X7_find, T_X7_findCritical, T_X7_lastEnd, T_X7_machineOf, T_X7_placeOf, T_X7_exchange, T_X7_nothingStays, T_X7_findHeads2, T_X7_keep2, up_ap, exists_eq_right_right, exists_eq_right, exists_eq_left, Nat.lt_irrefl, and_self, implies_true, forall_const]
            obtain ⟨E38, E47, E7, Ew, n16⟩ := RI_e hI
            have P := fun z => RI_p hI z
            have k0 := hI.2.2.2.1
            have inc : k' < 16 → inR (k' + 1) := fun z => by simp only [inR]; omega
            have R' := r38 E38
            rw [E7]
            refine ⟨?_, fun a => ⟨fun b => ?_, fun b => ?_⟩, fun a => ?_⟩
            · have := hI.2.2.2.2.1
              simp only [inR]
              omega
            · have hc : rOp σ1 ch ∧ best = 4 * rMc σ1 ch + rPl σ1 ch ∧ rPl σ1 ch + 1 < rLn σ1 (rMc σ1 ch) := by
                rcases hI.2.2.2.2.2.2.1 with z | z
                · omega
                · exact z
              have w := rWF_op hI.2.1 hc.1
              have l4 := (rW_l hI.2.1 _ w.1 w.2.1).2
              have q := (rPl_of hI.2.1 hc.1).1
              have v0 := hc.1.1
              have e1 : best / 4 = rMc σ1 ch := by omega
              have e2 : best % 4 = rPl σ1 ch := by omega
              have ep : σ1 7 0 2 = σ 7 0 2 := hR.1 7 0 2 (by unfold pRP pFd pCr; omega)
              unfold pmB at p2
              refine ⟨by omega, fun σ3 hK => ⟨b, b, by omega, ?_⟩⟩
              rw [e1, e2]
              exact (h2 σ1 σ' L k' le ch best hR hI a).2 (by omega) σ3 _ hK rfl
            · refine (h2 σ1 σ' L k' le ch best hR hI a).1 ?_
              rcases hI.2.2.2.2.2.2.1 with z | z
              · exact z.1
              · have w := rWF_op hI.2.1 z.1
                have q := (rPl_of hI.2.1 z.1).1
                omega
            · obtain ⟨v, v', pl⟩ := P (by omega)
              have w := rWF_op hI.2.1 v
              have q := (rPl_of hI.2.1 v).1
              have vv : rOp σ' (σ1 47 0 k') := by
                unfold rOp
                rw [R'.1]
                exact v
              have ePl : rPl σ' (σ1 47 0 k') = rPl σ1 (σ1 47 0 k') := by
                unfold rPl
                rw [R'.2.1, R'.2.2.2.2.2.1, R'.2.2.2.2.2.2.1]
              have eM : σ' 38 0 (13 + 2 * σ1 47 0 k') = rMc σ1 (σ1 47 0 k') := by rw [E38]; rfl
              have eM' : σ' 38 0 (13 + 2 * σ1 47 0 (k' + 1)) = rMc σ1 (σ1 47 0 (k' + 1)) := by rw [E38]; rfl
              rw [E47, rPl_4 Ew vv, ePl, eM, eM']
              refine ⟨⟨k0, by omega⟩, ⟨v.1, v.2.1⟩, inc (by omega), ⟨by omega, by omega⟩, ⟨v'.1, v'.2.1⟩, fun c => ⟨inc (by omega), by omega, σ1, L, ch, hR, RI_n hI (by omega) (fun z => c z.symm)⟩, fun c => ?_⟩
              have pr : prR σ1 k' := (Classical.not_not.mp c).symm
              have pl := pl pr
              have l4 := (rW_l hI.2.1 _ w.1 w.2.1).2
              refine ⟨⟨k0, by omega⟩, ⟨v.1, v.2.1, w.1, w.2.1, by omega⟩, ⟨w.1, w.2.1, q, by omega⟩, fun σb hN => ?_⟩
              obtain ⟨ok, wb, X, Y, Z⟩ := RI_x hI (by omega) pr rfl hN
              refine ⟨ok, fun σc hc S hb => ⟨(X σc hc hb).1, fun r hr => ⟨fun z => ⟨⟨w.1, w.2.1, q, by omega⟩, inc (by omega), by omega, σ1, L, ch, hR, (RI_s hI (by omega) pr (Z σc _ hc rfl)).1 (fun r' x => ?_)⟩, fun z => ⟨(X σc hc hb).1, fun r' hr' => ⟨?_, ?_, ⟨w.1, w.2.1, q, by omega⟩, inc (by omega), by omega, σ1, L, σ1 47 0 k', hR, ?_⟩⟩⟩⟩, fun σc hc _ hn => ⟨⟨w.1, w.2.1, q, by omega⟩, inc (by omega), by omega, σ1, L, ch, hR, (RI_s hI (by omega) pr (Z σc _ hc rfl)).1 (fun r' x => absurd x (Y hn r'))⟩⟩
              · have := rEx_un hI.2.1 v pl ((X σc hc hb).2 S r hr) x
                omega
              · simp only [inR]
                omega
              · simp only [inR]
                omega
              · rw [LE_un hr' hr]
                exact (RI_s hI (by omega) pr (Z σc _ hc rfl)).2 r ((X σc hc hb).2 S r hr) (by omega)
          · exact hi.elim
        · cases hcut
      · simp only [wp, stp, drp, entL, eL, lget, lset, okst, cnd, swt, rcv, Kr_int, Kr_bool, Kr_void, List.length_cons, List.length_nil, List.replicate, List.append_nil, List.cons_append, List.nil_append, List.take_succ_cons, List.take_zero, List.drop_succ_cons, List.drop_zero, List.reverse_cons, List.reverse_nil, Option.map_some, Option.map_none, Option.toList_some, Option.toList_none, Nat.reduceAdd, Nat.reduceSub, Nat.reduceLT, Nat.reduceLeDiff, Nat.reduceEqDiff, ↓reduceIte, Nat.add_zero, Nat.zero_add, true_and, and_true, Nat.le_refl, reduceCtorEq, false_implies, true_implies, not_true_eq_false, not_false_eq_true, Int.reduceAdd, Int.reduceSub, Int.reduceMul, Int.reduceLE, Int.reduceLT, Int.reduceEq, Int.reduceNe, Int.reduceNeg, Int.reduceDiv, Int.reduceMod, Bool.false_eq_true, Int.le_refl, and_self, true_or, or_true, inR_l, fv0, fv1, fv2, fv3, nc2, nc4, nc6, nc16, nc25, nc60, nc65, nc80, nc130, nc384, nc390, fp_0_0, fp_0_1, fp_0_2, fp_1_0, fp_1_1, fp_1_2, fp_1_3, fp_1_4, fp_1_5, fp_1_6, fp_1_7, fp_1_8, fp_1_9, fp_1_10, fp_1_11, fp_1_12, fp_1_13, fp_1_14, fp_2_0, fp_2_1, fp_2_2, fp_2_3, fp_3_0, fp_3_1, fp_4_0, fp_4_1, fp_4_2, fp_4_3, fp_4_4, fp_4_5, fp_4_6, fp_4_7, fp_5_0, fp_5_1, fp_5_2, fp_5_3, fp_5_4, fp_5_5, fp_5_6, fp_5_7, fp_6_0, fp_6_1, fp_6_2, fp_6_3, fp_6_4, fp_6_5, fp_6_6, fp_6_7, fp_6_8, fp_6_9, fp_6_10, fp_6_11, fp_6_12, fp_6_13, fp_6_14, fp_6_15, fp_7_0, fp_7_1, fp_7_2, fp_7_3, fp_7_4, fp_7_5, fp_7_6, fp_7_7, fp_7_8, fp_7_9, fp_7_10, fp_7_11, fp_7_12, fp_7_13, fp_7_14, fp_7_15, fp_7_16, fp_7_17, fp_7_18, fp_7_19, fp_7_20, fp_7_21, fp_7_22, fp_7_23, fp_7_24, iz_0_1, iz_0_2, iz_1_8, iz_1_9, iz_1_11, iz_2_1, iz_2_2, iz_2_3, iz_3_1, iz_4_1, iz_4_2, iz_5_0, iz_6_8, iz_6_9, iz_6_13, iz_6_14, iz_6_15, iz_7_2, iz_7_6, iz_7_12, iz_7_20, iz_7_21, iz_7_23, iz_7_24, ak_8, ak_9, ak_10, ak_11, ak_12, ak_13, ak_14, ak_15, ak_16, ak_17, ak_18, ak_19, ak_20, ak_21, ak_22, ak_23, ak_24, ak_25, ak_26, ak_27, ak_28, ak_29, ak_30, ak_31, ak_32, ak_33, ak_34, ak_35, ak_36, ak_37, ak_38, ak_39, ak_40, ak_41, ak_42, ak_43, ak_44, ak_45, ak_46, ak_47, ak_48, ak_49, ak_50, ak_51, ak_52, ak_53, ak_54, ak_55, ak_56, el31, el33, el34, CX7_improve, ca_X7_improve, frX7, kcX7, klX7, T_X7_find, T_X7_findCritical, T_X7_lastEnd, T_X7_machineOf, T_X7_placeOf, T_X7_exchange, T_X7_nothingStays, T_X7_findHeads2, T_X7_keep2, up_ap, exists_eq_right_right, exists_eq_right, exists_eq_left, Nat.lt_irrefl, and_self, implies_true, forall_const]
        obtain ⟨⟨p, p2⟩, h1, h2⟩ := h
        refine ⟨p, fun σ1 hF => ⟨Fnd_rBd p hF, fun σ2 L hL hC => ?_⟩, fun σ1 hF h3 => h1 σ1 hF h3⟩
        have R := RP2_i p hF hL hC
        have bd := R.2.2.2.1
        refine ⟨⟨bd.1, fun o w => ⟨(bd.2 o w).1, (bd.2 o w).2.1⟩⟩, fun r hr => ⟨σ2, r, -6, ?_⟩⟩
        rw [LE_un hr R.2.2.2.2.1]
        exact ⟨R, RI_0 R⟩
    · exact h.elim
