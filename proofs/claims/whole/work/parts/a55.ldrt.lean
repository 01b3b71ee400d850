/-! the reference's loadRoutes -/
def vRf (f : Int → Int) (J : Int) : Prop := 1 ≤ J ∧ J ≤ 4 ∧ ∀ j, 0 ≤ j → j < J → (0 ≤ f (11 * j) ∧ f (11 * j) ≤ 50) ∧ (0 ≤ f (11 * j + 1) ∧ f (11 * j + 1) ≤ 200) ∧ (0 ≤ f (11 * j + 2) ∧ f (11 * j + 2) ≤ 4) ∧ (∀ s, 0 ≤ s → s < f (11 * j + 2) → 0 ≤ f (11 * j + 3 + 2 * s) ∧ f (11 * j + 3 + 2 * s) < 4 ∧ 1 ≤ f (11 * j + 4 + 2 * s) ∧ f (11 * j + 4 + 2 * s) ≤ 20) ∧ ∀ s s', 0 ≤ s → s < s' → s' < f (11 * j + 2) → f (11 * j + 3 + 2 * s) ≠ f (11 * j + 3 + 2 * s')
def rowf (σ : Mem) (f : Int → Int) (j : Int) (c : Int) : Prop := rRe σ j = f (11 * j) ∧ rDd σ j = f (11 * j + 1) ∧ rSt σ j = c ∧ ∀ s, 0 ≤ s → s < c → rMc σ (4 * j + s) = f (11 * j + 3 + 2 * s) ∧ rDu σ (4 * j + s) = f (11 * j + 4 + 2 * s)
def RRf (σ : Mem) (J : Int) (f : Int → Int) : Prop := rWF σ ∧ σ 38 0 0 = J ∧ asc (rLn σ) (rQ σ) ∧ ∀ j, 0 ≤ j → j < J → rowf σ f j (f (11 * j + 2))
def RDf (σ : Mem) (j : Int) (f : Int → Int) (c : Int) : Prop := rWF σ ∧ σ 38 0 0 = j + 1 ∧ 0 ≤ j ∧ asc (rLn σ) (rQ σ) ∧ (∀ j', 0 ≤ j' → j' < j → rowf σ f j' (f (11 * j' + 2))) ∧ rowf σ f j c
theorem RRf_0 {σ : Mem} {f : Int → Int} (h : ∀ x, 0 ≤ x → x < 65 → σ 38 0 x = 0) : RRf σ 0 f := by
  have h0 := h 0 (by omega) (by omega)
  have hL : ∀ m, 0 ≤ m → m < 4 → rLn σ m = 0 := fun m a b => h _ (by omega) (by omega)
  refine ⟨⟨?_, fun j a b => by omega⟩, h0, fun m k k' a b c d e => ?_, fun j a b => by omega⟩
  · rw [h0]
    exact WF_0 (fun j a b => h _ (by omega) (by omega)) hL
  · rw [hL m a b] at e
    omega
theorem RDf_0 {σ σ' : Mem} {f : Int → Int} {j J : Int} (hv : vRf f J) (j0 : 0 ≤ j) (j1 : j < J) (h : RRf σ j f) (hs : σ' = up (up (up (up σ 38 0 0 (j + 1)) 38 0 (1 + 3 * j) (f (11 * j))) 38 0 (1 + 3 * j + 1) (f (11 * j + 1))) 38 0 (1 + 3 * j + 2) 0) : RDf σ' j f 0 := by
  obtain ⟨⟨w, wb⟩, h2, h3, h4⟩ := h
  have J4 := hv.2.1
  have vj := hv.2.2 j j0 j1
  have e : ∀ x, σ' 38 0 x = if x = 1 + 3 * j + 2 then 0 else if x = 1 + 3 * j + 1 then f (11 * j + 1) else if x = 1 + 3 * j then f (11 * j) else if x = 0 then j + 1 else σ 38 0 x := fun x => by rw [hs]; simp [up_ap]
  have e0 : σ' 38 0 0 = j + 1 := by rw [e, if_neg (by omega), if_neg (by omega), if_neg (by omega), if_pos rfl]
  have eS : ∀ x, 0 ≤ x → x < 4 → rSt σ' x = if x = j then 0 else rSt σ x := fun x a b => by
    unfold rSt
    rw [e]
    by_cases c : x = j
    · rw [if_pos (by omega), if_pos c]
    · rw [if_neg (by omega), if_neg (by omega), if_neg (by omega), if_neg (by omega), if_neg c]
  have eR : ∀ x, 0 ≤ x → x < 4 → rRe σ' x = if x = j then f (11 * j) else rRe σ x := fun x a b => by
    unfold rRe
    rw [e]
    by_cases c : x = j
    · rw [if_neg (by omega), if_neg (by omega), if_pos (by omega), if_pos c]
    · rw [if_neg (by omega), if_neg (by omega), if_neg (by omega), if_neg (by omega), if_neg c]
  have eD : ∀ x, 0 ≤ x → x < 4 → rDd σ' x = if x = j then f (11 * j + 1) else rDd σ x := fun x a b => by
    unfold rDd
    rw [e]
    by_cases c : x = j
    · rw [if_neg (by omega), if_pos (by omega), if_pos c]
    · rw [if_neg (by omega), if_neg (by omega), if_neg (by omega), if_neg (by omega), if_neg c]
  have eO : ∀ x, 13 ≤ x → σ' 38 0 x = σ 38 0 x := fun x a => by rw [e, if_neg (by omega), if_neg (by omega), if_neg (by omega), if_neg (by omega)]
  have z : rSt σ j = 0 := (w.2.1 j j0 (by omega)).2.2 (by omega)
  have w1 := (WF_job w (by omega) (st' := rSt σ') (fun x a b => by
    rw [eS x a b]
    split
    · rename_i q
      rw [q, z]
    · rfl)).1
  have eM : ∀ o, 0 ≤ o → rMc σ' o = rMc σ o ∧ rDu σ' o = rDu σ o := fun o a => ⟨eO _ (by omega), eO _ (by omega)⟩
  have eL : ∀ m, 0 ≤ m → rLn σ' m = rLn σ m := fun m a => eO _ (by omega)
  have eQ : ∀ x, 0 ≤ x → rQ σ' x = rQ σ x := fun x a => eO _ (by omega)
  have ag : AG (σ 38 0 0 + 1) (σ' 38 0 0) (rSt σ') (rSt σ') (rMc σ) (rMc σ') (rDu σ) (rDu σ') (fun _ => 0) (fun _ => 0) (rLn σ) (rLn σ') (rQ σ) (rQ σ') := ⟨by omega, fun _ _ _ => rfl, fun o v => ⟨(eM o v.1).1.symm, (eM o v.1).2.symm, rfl⟩, fun m a _ => (eL m a).symm, fun m k a _ c _ => (eQ _ (by omega)).symm⟩
  refine ⟨⟨ag.wf w1, fun x a b => ?_⟩, e0, j0, fun m k k' a b c d g => ?_, fun j' a b => ?_, ?_⟩
  · rw [eR x a (by omega), eD x a (by omega)]
    by_cases c : x = j
    · rw [if_pos c, if_pos c]
      omega
    · rw [if_neg c, if_neg c]
      exact wb x a (by omega)
  · rw [eL m a] at g
    rw [eQ _ (by omega), eQ _ (by omega)]
    exact h3 m k k' a b c d g
  · obtain ⟨r1, r2, r3, r4⟩ := h4 j' a b
    unfold rowf
    rw [eR j' a (by omega), eD j' a (by omega), eS j' a (by omega), if_neg (by omega), if_neg (by omega), if_neg (by omega)]
    refine ⟨r1, r2, r3, fun s s0 s1 => ?_⟩
    rw [(eM _ (by omega)).1, (eM _ (by omega)).2]
    exact r4 s s0 s1
  · unfold rowf
    rw [eR j j0 (by omega), eD j j0 (by omega), eS j j0 (by omega), if_pos rfl, if_pos rfl, if_pos rfl]
    exact ⟨rfl, rfl, rfl, fun s s0 s1 => by omega⟩
theorem RDf_p {σ : Mem} {f : Int → Int} {j J c : Int} (hv : vRf f J) (j1 : j < J) (h : RDf σ j f c) (c0 : 0 ≤ c) (c1 : c < f (11 * j + 2)) : (∀ s, 0 ≤ s → s < rSt σ j → rMc σ (4 * j + s) ≠ f (11 * j + 3 + 2 * c)) ∧ rSt σ j = c ∧ c < 4 ∧ rLn σ (f (11 * j + 3 + 2 * c)) < 4 ∧ 0 ≤ rLn σ (f (11 * j + 3 + 2 * c)) ∧ 0 ≤ f (11 * j + 3 + 2 * c) ∧ f (11 * j + 3 + 2 * c) < 4 ∧ (∀ k, 0 ≤ k → k < rLn σ (f (11 * j + 3 + 2 * c)) → rQ σ (4 * f (11 * j + 3 + 2 * c) + k) ≠ j) := by
  obtain ⟨w, h2, j0, h3, h4, r1, r2, r3, r4⟩ := h
  have vj := hv.2.2 j j0 j1
  have vc := vj.2.2.2.1 c c0 c1
  have hn : ∀ s, 0 ≤ s → s < rSt σ j → rMc σ (4 * j + s) ≠ f (11 * j + 3 + 2 * c) := fun s s0 s1 => by
    rw [r3] at s1
    rw [(r4 s s0 s1).1]
    exact vj.2.2.2.2 s c s0 s1 c1
  obtain ⟨a1, a2, a3, a4, a5⟩ := WF_room w.1 j0 (by omega) vc.1 vc.2.1 hn
  exact ⟨hn, r3, by omega, a2, a4, vc.1, vc.2.1, a5⟩
theorem RDf_s {σ σ' : Mem} {f : Int → Int} {j J c : Int} (hv : vRf f J) (j1 : j < J) (h : RDf σ j f c) (c0 : 0 ≤ c) (c1 : c < f (11 * j + 2)) (e : ∀ x, σ' 38 0 x = if x = 13 + 2 * (4 * j + c) then f (11 * j + 3 + 2 * c) else if x = 14 + 2 * (4 * j + c) then f (11 * j + 4 + 2 * c) else if x = 1 + 3 * j + 2 then c + 1 else if x = 45 + f (11 * j + 3 + 2 * c) then rLn σ (f (11 * j + 3 + 2 * c)) + 1 else if x = 49 + 4 * f (11 * j + 3 + 2 * c) + rLn σ (f (11 * j + 3 + 2 * c)) then j else σ 38 0 x) : RDf σ' j f (c + 1) := by
  obtain ⟨hn, p2, p3, p4, p5, p6, p7, p8⟩ := RDf_p hv j1 h c0 c1
  obtain ⟨w, h2, j0, h3, h4, r1, r2, r3, r4⟩ := h
  have J4 := hv.2.1
  have vj := hv.2.2 j j0 j1
  have vc := vj.2.2.2.1 c c0 c1
  generalize hm : f (11 * j + 3 + 2 * c) = m at *
  generalize hd : f (11 * j + 4 + 2 * c) = d at *
  have e0 : σ' 38 0 0 = σ 38 0 0 := by rw [e, if_neg (by omega), if_neg (by omega), if_neg (by omega), if_neg (by omega), if_neg (by omega)]
  have eS : ∀ x, 0 ≤ x → x < 4 → rSt σ' x = if x = j then c + 1 else rSt σ x := fun x a b => by
    unfold rSt
    rw [e, if_neg (by omega), if_neg (by omega)]
    by_cases z : x = j
    · rw [if_pos (by omega), if_pos z]
    · rw [if_neg (by omega), if_neg (by omega), if_neg (by omega), if_neg z]
  have eR : ∀ x, 0 ≤ x → x < 4 → rRe σ' x = rRe σ x ∧ rDd σ' x = rDd σ x := fun x a b => by
    unfold rRe rDd
    rw [e, if_neg (by omega), if_neg (by omega), if_neg (by omega), if_neg (by omega), if_neg (by omega), e, if_neg (by omega), if_neg (by omega), if_neg (by omega), if_neg (by omega), if_neg (by omega)]
    exact ⟨rfl, rfl⟩
  have eM : ∀ o, 0 ≤ o → o < 16 → rMc σ' o = (if o = 4 * j + c then m else rMc σ o) ∧ rDu σ' o = if o = 4 * j + c then d else rDu σ o := fun o a b => by
    unfold rMc rDu
    rw [e, e]
    by_cases z : o = 4 * j + c
    · rw [if_pos (by omega), if_pos z, if_neg (by omega), if_pos (by omega), if_pos z]
      exact ⟨rfl, rfl⟩
    · rw [if_neg (by omega), if_neg (by omega), if_neg (by omega), if_neg (by omega), if_neg (by omega), if_neg z, if_neg (by omega), if_neg (by omega), if_neg (by omega), if_neg (by omega), if_neg (by omega), if_neg z]
      exact ⟨rfl, rfl⟩
  have eL : ∀ x, 0 ≤ x → x < 4 → rLn σ' x = if x = m then rLn σ m + 1 else rLn σ x := fun x a b => by
    unfold rLn
    rw [e, if_neg (by omega), if_neg (by omega), if_neg (by omega)]
    by_cases z : x = m
    · rw [if_pos (by omega), if_pos z]
      rfl
    · rw [if_neg (by omega), if_neg (by omega), if_neg z]
  have eQ : ∀ x, 0 ≤ x → x < 16 → rQ σ' x = if x = 4 * m + rLn σ m then j else rQ σ x := fun x a b => by
    unfold rQ
    rw [e, if_neg (by omega), if_neg (by omega), if_neg (by omega), if_neg (by omega)]
    by_cases z : x = 4 * m + rLn σ m
    · rw [if_pos (by omega), if_pos z]
    · rw [if_neg (by omega), if_neg z]
  have nv : ∀ o, rOp σ o → o ≠ 4 * j + c := fun o vo z => by
    have h1 := vo.2.2
    rw [z, show (4 * j + c) / 4 = j by omega, show (4 * j + c) % 4 = c by omega] at h1
    omega
  have l4 : ∀ x, 0 ≤ x → x < 4 → rLn σ x ≤ 4 := fun x a b => (w.1.2.2.2.2.1 x a b).2
  have hq : ∀ m' k, 0 ≤ m' → m' < 4 → 0 ≤ k → k < rLn σ m' → rQ σ' (4 * m' + k) = rQ σ (4 * m' + k) := fun m' k a b k0 k1 => by
    have := l4 m' a b
    rw [eQ _ (by omega) (by omega), if_neg]
    intro z
    have : m' = m := by omega
    rw [this] at k1 z
    omega
  have wf := WF_op w.1 j0 (show j < σ 38 0 0 by omega) p6 p7 vc.2.2.1 vc.2.2.2 hn (st' := rSt σ') (mc' := rMc σ') (du' := rDu σ') (ln' := rLn σ') (q' := rQ σ') (fun x a b => by rw [eS x a b, p2]) (fun o vo => by
    have q := eM o vo.1 vo.2.1
    rw [q.1, q.2, if_neg (nv o vo), if_neg (nv o vo)]
    exact ⟨rfl, rfl⟩) (by
    rw [p2]
    have q := eM (4 * j + c) (by omega) (by omega)
    rw [q.1, q.2, if_pos rfl, if_pos rfl]
    exact ⟨rfl, rfl⟩) (fun x a b => eL x a b) hq (by rw [eQ _ (by omega) (by omega), if_pos rfl])
  refine ⟨⟨by rw [e0]; exact wf, fun x a b => ?_⟩, by omega, j0, fun m' k k' a b k0 kk k1 => ?_, fun j' a b => ?_, ?_⟩
  · rw [(eR x a (by omega)).1, (eR x a (by omega)).2]
    exact w.2 x a (by omega)
  · rw [eL m' a b] at k1
    by_cases z : m' = m
    · subst z
      rw [if_pos rfl] at k1
      rw [hq m' k a b k0 (by omega)]
      rcases (show k' < rLn σ m' ∨ k' = rLn σ m' by omega) with y | y
      · rw [hq m' k' a b (by omega) y]
        exact h3 m' k k' a b k0 kk y
      · rw [eQ _ (by omega) (by omega), if_pos (by omega)]
        obtain ⟨x1, x2, o, vo, x3, -⟩ := w.1.2.2.2.2.2.1 m' k a b k0 (by omega)
        have hj := vOp_j vo
        have lt := (rWF_op w vo).2.2.2.2.1
        have := p8 k k0 (by omega)
        omega
    · rw [if_neg z] at k1
      rw [hq m' k a b k0 (by omega), hq m' k' a b (by omega) k1]
      exact h3 m' k k' a b k0 kk k1
  · obtain ⟨q1, q2, q3, q4⟩ := h4 j' a b
    have c4 := (hv.2.2 j' a (by omega)).2.2.1
    unfold rowf
    rw [(eR j' a (by omega)).1, (eR j' a (by omega)).2, eS j' a (by omega), if_neg (by omega)]
    refine ⟨q1, q2, q3, fun s s0 s1 => ?_⟩
    have q := eM (4 * j' + s) (by omega) (by omega)
    rw [q.1, q.2, if_neg (by omega), if_neg (by omega)]
    exact q4 s s0 s1
  · unfold rowf
    rw [(eR j j0 (by omega)).1, (eR j j0 (by omega)).2, eS j j0 (by omega), if_pos rfl]
    refine ⟨r1, r2, rfl, fun s s0 s1 => ?_⟩
    have q := eM (4 * j + s) (by omega) (by omega)
    rw [q.1, q.2]
    by_cases z : s = c
    · rw [if_pos (by omega), if_pos (by omega), z, hm, hd]
      exact ⟨rfl, rfl⟩
    · rw [if_neg (by omega), if_neg (by omega)]
      exact r4 s s0 (by omega)
theorem RDf_e {σ : Mem} {f : Int → Int} {j : Int} (h : RDf σ j f (f (11 * j + 2))) : RRf σ (j + 1) f := by
  obtain ⟨w, h2, j0, h3, h4, h5⟩ := h
  refine ⟨w, h2, h3, fun j' a b => ?_⟩
  by_cases z : j' = j
  · rw [z]
    exact h5
  · exact h4 j' a (by omega)
/-- what was read stays -/
theorem rd_k {σ1 σ2 σ' : Mem} (hK : KEE σ1 σ2) (hF : FrG (fun t a _ => t = 38 ∧ a = 0) σ2 σ') : σ' 55 0 = σ1 55 0 ∧ σ' 7 0 23 = σ1 7 0 23 := by
  have k := KEE_k hK
  exact ⟨by rw [hF.f 55 0 (by rintro x ⟨q, -⟩; omega), k.1], by rw [hF 7 0 23 (by rintro ⟨q, -⟩; omega), k.2.1]⟩
def p38 (t a : Nat) (_x : Int) : Prop := t = 38 ∧ a = 0
def ca_X7_loadRoutes : Nat → Option (Nat × Nat × Tr)
  | 296 => some (2, 7, T_X7_faultOf)
  | 91 => some (1, 7, T_X7_keep2)
  | 94 => some (3, 7, T_X7_addJob)
  | 98 => some (4, 7, T_X7_addOperation)
  | _ => none
theorem cao_X7_loadRoutes (l : Launch) : ∀ k n' ci T', ca_X7_loadRoutes k = some (n', ci, T') → ∃ nn, nn + 1 ≤ 5 ∧ Site l yX7_loadRoutes.cls k n' ci nn T' := by
  intro k n' ci T' h
  unfold ca_X7_loadRoutes at h
  split at h
  · cases h; exact ⟨4, by decide, _, _, _, _, k_X7_faultOf l, Or.inl ⟨_, rfl, FX7_faultOf, KRX7_296⟩⟩
  · cases h; exact ⟨0, by decide, _, _, _, _, k_X7_keep2 l, Or.inl ⟨_, rfl, FX7_keep, KRX7_91⟩⟩
  · cases h; exact ⟨0, by decide, _, _, _, _, k_X7_addJob l, Or.inl ⟨_, rfl, FX7_addJob, KRX7_94⟩⟩
  · cases h; exact ⟨1, by decide, _, _, _, _, k_X7_addOperation l, Or.inl ⟨_, rfl, FX7_addOperation, KRX7_98⟩⟩
  · cases h
def T_X7_loadRoutes : Tr := fun a σ K => match a with
  | [.inr (.inl (7, 0))] => (rWF σ ∧ pmB σ ∧ 0 ≤ xL σ ∧ xL σ ≤ 80 ∧ ∀ σ1, RFe σ σ1 → rtsF (xT σ) (xL σ) = -6 → vRf (σ1 55 0) (σ1 7 0 23)) ∧ (∀ σ1, RFe σ σ1 → rtsF (xT σ) (xL σ) ≠ -6 → K (some (-3)) σ1) ∧ (∀ σ1 σ2 σ3, RFe σ σ1 → rtsF (xT σ) (xL σ) = -6 → KEE σ1 σ2 → FrG p38 σ2 σ3 → RRf σ3 (σ1 7 0 23) (σ1 55 0) → K (some (σ1 7 0 23)) (up σ3 7 0 6 0))
  | _ => False
set_option maxHeartbeats 8000000 in
set_option maxRecDepth 20000 in
theorem k_X7_loadRoutes (l : Launch) : Ct l yX7_loadRoutes cX7_loadRoutes 4 (some .int) 5 T_X7_loadRoutes := by
  refine mk_met (by decide +kernel) hCX7_loadRoutes lCX7_loadRoutes frX7_ok cstX7_ok (cao_X7_loadRoutes l) ?_ ?_
  · intro a σ K h
    unfold T_X7_loadRoutes at h
    split at h
    · simp [eL]
    · exact h.elim
  · intro a σ K ha hR h
    unfold T_X7_loadRoutes at h
    split at h
    · refine ⟨fun pc => if pc = 19 then some (fun L S σ' k => match L, S with | [some (.inr (.inl c1)), some (.inl x), _, _], [] => (c1 = (7, 0) ∧ 0 ≤ x ∧ x ≤ 65 ∧ ∃ σ1 σ2, RFe σ σ1 ∧ rtsF (xT σ) (xL σ) = -6 ∧ KEE σ1 σ2 ∧ FrG p38 σ2 σ' ∧ ∀ y, 0 ≤ y → y < x → σ' 38 0 y = 0) ∧ k = (1000 - x).toNat | _, _ => False) else if pc = 40 then some (fun L S σ' k => match L, S with | [some (.inr (.inl c1)), some (.inl j), _, _], [] => (c1 = (7, 0) ∧ 0 ≤ j ∧ ∃ σ1 σ2, RFe σ σ1 ∧ rtsF (xT σ) (xL σ) = -6 ∧ KEE σ1 σ2 ∧ FrG p38 σ2 σ' ∧ j ≤ σ1 7 0 23 ∧ RRf σ' j (σ1 55 0)) ∧ k = ((10 - j) * 20).toNat | _, _ => False) else if pc = 74 then some (fun L S σ' k => match L, S with | [some (.inr (.inl c1)), some (.inl j), some (.inl c), _], [] => (c1 = (7, 0) ∧ 0 ≤ j ∧ 0 ≤ c ∧ ∃ σ1 σ2, RFe σ σ1 ∧ rtsF (xT σ) (xL σ) = -6 ∧ KEE σ1 σ2 ∧ FrG p38 σ2 σ' ∧ j < σ1 7 0 23 ∧ c ≤ σ1 55 0 (11 * j + 2) ∧ RDf σ' j (σ1 55 0) c) ∧ k = ((10 - j) * 20 - 1 - c).toNat | _, _ => False) else none, 200, ?_, ?_⟩
      · intro pc I L S σ' k hcut hi
        dsimp only at hcut
        split at hcut
        · rename_i hpc
          subst hpc
          cases hcut
          try dsimp only at hi
          split at hi
          · rename_i c1 x x1 x2
            obtain ⟨hi, rfl⟩ := hi
            obtain ⟨rfl, x0, x65, σ1, σ2, hE, hp, hK, hF, hI⟩ := hi
            obtain ⟨⟨p, p2, p3, p4, pv⟩, h1, h2⟩ := h
            simp only [wp, stp, drp, entL, eL, lget, lset, okst, cnd, swt, rcv, Kr_int, Kr_bool, Kr_void, List.length_cons, List.length_nil, List.replicate, List.append_nil, List.cons_append, List.nil_append, List.take_succ_cons, List.take_zero, List.drop_succ_cons, List.drop_zero, List.reverse_cons, List.reverse_nil, Option.map_some, Option.map_none, Option.toList_some, Option.toList_none, Nat.reduceAdd, Nat.reduceSub, Nat.reduceLT, Nat.reduceLeDiff, Nat.reduceEqDiff, ↓reduceIte, Nat.add_zero, Nat.zero_add, true_and, and_true, Nat.le_refl, reduceCtorEq, false_implies, true_implies, not_true_eq_false, not_false_eq_true, Int.reduceAdd, Int.reduceSub, Int.reduceMul, Int.reduceLE, Int.reduceLT, Int.reduceEq, Int.reduceNe, Int.reduceNeg, Int.reduceDiv, Int.reduceMod, Bool.false_eq_true, Int.le_refl, and_self, true_or, or_true, inR_l, fv0, fv1, fv2, fv3, nc2, nc4, nc6, nc16, nc25, nc60, nc65, nc80, nc130, nc384, nc390, fp_0_0, fp_0_1, fp_0_2, fp_1_0, fp_1_1, fp_1_2, fp_1_3, fp_1_4, fp_1_5, fp_1_6, fp_1_7, fp_1_8, fp_1_9, fp_1_10, fp_1_11, fp_1_12, fp_1_13, fp_1_14, fp_2_0, fp_2_1, fp_2_2, fp_2_3, fp_3_0, fp_3_1, fp_4_0, fp_4_1, fp_4_2, fp_4_3, fp_4_4, fp_4_5, fp_4_6, fp_4_7, fp_5_0, fp_5_1, fp_5_2, fp_5_3, fp_5_4, fp_5_5, fp_5_6, fp_5_7, fp_6_0, fp_6_1, fp_6_2, fp_6_3, fp_6_4, fp_6_5, fp_6_6, fp_6_7, fp_6_8, fp_6_9, fp_6_10, fp_6_11, fp_6_12, fp_6_13, fp_6_14, fp_6_15, fp_7_0, fp_7_1, fp_7_2, fp_7_3, fp_7_4, fp_7_5, fp_7_6, fp_7_7, fp_7_8, fp_7_9, fp_7_10, fp_7_11, fp_7_12, fp_7_13, fp_7_14, fp_7_15, fp_7_16, fp_7_17, fp_7_18, fp_7_19, fp_7_20, fp_7_21, fp_7_22, fp_7_23, fp_7_24, iz_0_1, iz_0_2, iz_1_8, iz_1_9, iz_1_11, iz_2_1, iz_2_2, iz_2_3, iz_3_1, iz_4_1, iz_4_2, iz_5_0, iz_6_8, iz_6_9, iz_6_13, iz_6_14, iz_6_15, iz_7_2, iz_7_6, iz_7_12, iz_7_20, iz_7_21, iz_7_23, iz_7_24, ak_8, ak_9, ak_10, ak_11, ak_12, ak_13, ak_14, ak_15, ak_16, ak_17, ak_18, ak_19, ak_20, ak_21, ak_22, ak_23, ak_24, ak_25, ak_26, ak_27, ak_28, ak_29, ak_30, ak_31, ak_32, ak_33, ak_34, ak_35, ak_36, ak_37, ak_38, ak_39, ak_40, ak_41, ak_42, ak_43, ak_44, ak_45, ak_46, ak_47, ak_48, ak_49, ak_50, ak_51, ak_52, ak_53, ak_54, ak_55, ak_56, el31, el33, el34, CX7_loadRoutes, ca_X7_loadRoutes, frX7, kcX7, klX7, T_X7_faultOf, T_X7_keep2, T_X7_addJob, T_X7_addOperation, up_ap, exists_eq_right_right, exists_eq_right, exists_eq_left, Nat.lt_irrefl, and_self, implies_true, forall_const]
            have t2 : Int.toNat 200 = 200 := rfl
            refine ⟨fun c => ⟨by omega, σ1, σ2, hE, hp, hK, hF, ?_, RRf_0 (fun y a b => hI y a (by omega))⟩, fun c => ⟨by omega, by simp only [inR]; omega, by omega, by omega, by omega, σ1, σ2, hE, hp, hK, hF.u ⟨rfl, rfl⟩, fun y a b => ?_⟩⟩
            · have := (pv σ1 hE hp).1
              omega
            · by_cases z : y = x
              · rw [if_pos z]
              · rw [if_neg z]
                exact hI y a (by omega)
          · exact hi.elim
        · split at hcut
          · rename_i hpc
            subst hpc
            cases hcut
            try dsimp only at hi
            split at hi
            · rename_i c1 j x1 x2
              obtain ⟨hi, rfl⟩ := hi
              obtain ⟨rfl, j0, σ1, σ2, hE, hp, hK, hF, j4, hI⟩ := hi
              obtain ⟨⟨p, p2, p3, p4, pv⟩, h1, h2⟩ := h
              simp only [wp, stp, drp, entL, eL, lget, lset, okst, cnd, swt, rcv, Kr_int, Kr_bool, Kr_void, List.length_cons, List.length_nil, List.replicate, List.append_nil, List.cons_append, List.nil_append, List.take_succ_cons, List.take_zero, List.drop_succ_cons, List.drop_zero, List.reverse_cons, List.reverse_nil, Option.map_some, Option.map_none, Option.toList_some, Option.toList_none, Nat.reduceAdd, Nat.reduceSub, Nat.reduceLT, Nat.reduceLeDiff, Nat.reduceEqDiff, ↓reduceIte, Nat.add_zero, Nat.zero_add, true_and, and_true, Nat.le_refl, reduceCtorEq, false_implies, true_implies, not_true_eq_false, not_false_eq_true, Int.reduceAdd, Int.reduceSub, Int.reduceMul, Int.reduceLE, Int.reduceLT, Int.reduceEq, Int.reduceNe, Int.reduceNeg, Int.reduceDiv, Int.reduceMod, Bool.false_eq_true, Int.le_refl, and_self, true_or, or_true, inR_l, fv0, fv1, fv2, fv3, nc2, nc4, nc6, nc16, nc25, nc60, nc65, nc80, nc130, nc384, nc390, fp_0_0, fp_0_1, fp_0_2, fp_1_0, fp_1_1, fp_1_2, fp_1_3, fp_1_4, fp_1_5, fp_1_6, fp_1_7, fp_1_8, fp_1_9, fp_1_10, fp_1_11, fp_1_12, fp_1_13, fp_1_14, fp_2_0, fp_2_1, fp_2_2, fp_2_3, fp_3_0, fp_3_1, fp_4_0, fp_4_1, fp_4_2, fp_4_3, fp_4_4, fp_4_5, fp_4_6, fp_4_7, fp_5_0, fp_5_1, fp_5_2, fp_5_3, fp_5_4, fp_5_5, fp_5_6, fp_5_7, fp_6_0, fp_6_1, fp_6_2, fp_6_3, fp_6_4, fp_6_5, fp_6_6, fp_6_7, fp_6_8, fp_6_9, fp_6_10, fp_6_11, fp_6_12, fp_6_13, fp_6_14, fp_6_15, fp_7_0, fp_7_1, fp_7_2, fp_7_3, fp_7_4, fp_7_5, fp_7_6, fp_7_7, fp_7_8, fp_7_9, fp_7_10, fp_7_11, fp_7_12, fp_7_13, fp_7_14, fp_7_15, fp_7_16, fp_7_17, fp_7_18, fp_7_19, fp_7_20, fp_7_21, fp_7_22, fp_7_23, fp_7_24, iz_0_1, iz_0_2, iz_1_8, iz_1_9, iz_1_11, iz_2_1, iz_2_2, iz_2_3, iz_3_1, iz_4_1, iz_4_2, iz_5_0, iz_6_8, iz_6_9, iz_6_13, iz_6_14, iz_6_15, iz_7_2, iz_7_6, iz_7_12, iz_7_20, iz_7_21, iz_7_23, iz_7_24, ak_8, ak_9, ak_10, ak_11, ak_12, ak_13, ak_14, ak_15, ak_16, ak_17, ak_18, ak_19, ak_20, ak_21, ak_22, ak_23, ak_24, ak_25, ak_26, ak_27, ak_28, ak_29, ak_30, ak_31, ak_32, ak_33, ak_34, ak_35, ak_36, ak_37, ak_38, ak_39, ak_40, ak_41, ak_42, ak_43, ak_44, ak_45, ak_46, ak_47, ak_48, ak_49, ak_50, ak_51, ak_52, ak_53, ak_54, ak_55, ak_56, el31, el33, el34, CX7_loadRoutes, ca_X7_loadRoutes, frX7, kcX7, klX7, T_X7_faultOf, T_X7_keep2, T_X7_addJob, T_X7_addOperation, up_ap, exists_eq_right_right, exists_eq_right, exists_eq_left, Nat.lt_irrefl, and_self, implies_true, forall_const]
              have hv := pv σ1 hE hp
              obtain ⟨e55, e23⟩ := rd_k hK hF
              have J4 := hv.2.1
              have eJ : σ' 38 0 0 = j := hI.2.1
              rw [e55, e23, eJ]
              refine ⟨fun c => h2 σ1 σ2 σ' hE hp hK hF (by rw [show σ1 7 0 23 = j by omega]; exact hI), fun c => ?_⟩
              have vj := hv.2.2 j j0 (by omega)
              exact ⟨by simp only [inR]; omega, by omega, by simp only [inR]; omega, by simp only [inR]; omega, by omega, by omega, by omega, j0, σ1, σ2, hE, hp, hK, (((hF.u ⟨rfl, rfl⟩).u ⟨rfl, rfl⟩).u ⟨rfl, rfl⟩).u ⟨rfl, rfl⟩, by omega, vj.2.2.1.1, RDf_0 hv j0 (by omega) hI rfl⟩
            · exact hi.elim
          · split at hcut
            · rename_i hpc
              subst hpc
              cases hcut
              try dsimp only at hi
              split at hi
              · rename_i c1 j c x2
                obtain ⟨hi, rfl⟩ := hi
                obtain ⟨rfl, j0, c0, σ1, σ2, hE, hp, hK, hF, j4, c4, hI⟩ := hi
                obtain ⟨⟨p, p2, p3, p4, pv⟩, h1, h2⟩ := h
                simp only [wp, stp, drp, entL, eL, lget, lset, okst, cnd, swt, rcv, Kr_int, Kr_bool, Kr_void, List.length_cons, List.length_nil, List.replicate, List.append_nil, List.cons_append, List.nil_append, List.take_succ_cons, List.take_zero, List.drop_succ_cons, List.drop_zero, List.reverse_cons, List.reverse_nil, Option.map_some, Option.map_none, Option.toList_some, Option.toList_none, Nat.reduceAdd, Nat.reduceSub, Nat.reduceLT, Nat.reduceLeDiff, Nat.reduceEqDiff, ↓reduceIte, Nat.add_zero, Nat.zero_add, true_and, and_true, Nat.le_refl, reduceCtorEq, false_implies, true_implies, not_true_eq_false, not_false_eq_true, Int.reduceAdd, Int.reduceSub, Int.reduceMul, Int.reduceLE, Int.reduceLT, Int.reduceEq, Int.reduceNe, Int.reduceNeg, Int.reduceDiv, Int.reduceMod, Bool.false_eq_true, Int.le_refl, and_self, true_or, or_true, inR_l, fv0, fv1, fv2, fv3, nc2, nc4, nc6, nc16, nc25, nc60, nc65, nc80, nc130, nc384, nc390, fp_0_0, fp_0_1, fp_0_2, fp_1_0, fp_1_1, fp_1_2, fp_1_3, fp_1_4, fp_1_5, fp_1_6, fp_1_7, fp_1_8, fp_1_9, fp_1_10, fp_1_11, fp_1_12, fp_1_13, fp_1_14, fp_2_0, fp_2_1, fp_2_2, fp_2_3, fp_3_0, fp_3_1, fp_4_0, fp_4_1, fp_4_2, fp_4_3, fp_4_4, fp_4_5, fp_4_6, fp_4_7, fp_5_0, fp_5_1, fp_5_2, fp_5_3, fp_5_4, fp_5_5, fp_5_6, fp_5_7, fp_6_0, fp_6_1, fp_6_2, fp_6_3, fp_6_4, fp_6_5, fp_6_6, fp_6_7, fp_6_8, fp_6_9, fp_6_10, fp_6_11, fp_6_12, fp_6_13, fp_6_14, fp_6_15, fp_7_0, fp_7_1, fp_7_2, fp_7_3, fp_7_4, fp_7_5, fp_7_6, fp_7_7, fp_7_8, fp_7_9, fp_7_10, fp_7_11, fp_7_12, fp_7_13, fp_7_14, fp_7_15, fp_7_16, fp_7_17, fp_7_18, fp_7_19, fp_7_20, fp_7_21, fp_7_22, fp_7_23, fp_7_24, iz_0_1, iz_0_2, iz_1_8, iz_1_9, iz_1_11, iz_2_1, iz_2_2, iz_2_3, iz_3_1, iz_4_1, iz_4_2, iz_5_0, iz_6_8, iz_6_9, iz_6_13, iz_6_14, iz_6_15, iz_7_2, iz_7_6, iz_7_12, iz_7_20, iz_7_21, iz_7_23, iz_7_24, ak_8, ak_9, ak_10, ak_11, ak_12, ak_13, ak_14, ak_15, ak_16, ak_17, ak_18, ak_19, ak_20, ak_21, ak_22, ak_23, ak_24, ak_25, ak_26, ak_27, ak_28, ak_29, ak_30, ak_31, ak_32, ak_33, ak_34, ak_35, ak_36, ak_37, ak_38, ak_39, ak_40, ak_41, ak_42, ak_43, ak_44, ak_45, ak_46, ak_47, ak_48, ak_49, ak_50, ak_51, ak_52, ak_53, ak_54, ak_55, ak_56, el31, el33, el34, CX7_loadRoutes, ca_X7_loadRoutes, frX7, kcX7, klX7, T_X7_faultOf, T_X7_keep2, T_X7_addJob, T_X7_addOperation, up_ap, exists_eq_right_right, exists_eq_right, exists_eq_left, Nat.lt_irrefl, and_self, implies_true, forall_const]
                have hv := pv σ1 hE hp
                obtain ⟨e55, e23⟩ := rd_k hK hF
                have J4 := hv.2.1
                have vj := hv.2.2 j j0 j4
                rw [e55]
                refine ⟨by simp only [inR]; omega, by simp only [inR]; omega, by omega, fun d => ⟨by simp only [inR]; omega, by omega, by omega, σ1, σ2, hE, hp, hK, hF, by omega, RDf_e (by rw [show σ1 55 0 (11 * j + 2) = c by omega]; exact hI)⟩, fun d => ?_⟩
                obtain ⟨q1, q2, q3, q4, q5, q6, q7, q8⟩ := RDf_p hv j4 hI c0 (by omega)
                have eS : σ' 38 0 (1 + 3 * j + 2) = c := q2
                have eL : σ' 38 0 (45 + σ1 55 0 (11 * j + 3 + 2 * c)) = rLn σ' (σ1 55 0 (11 * j + 3 + 2 * c)) := rfl
                rw [eS, eL]
                refine ⟨by simp only [inR]; omega, by simp only [inR]; omega, by simp only [inR]; omega, by simp only [inR]; omega, by omega, by simp only [inR]; omega, by simp only [inR]; omega, by simp only [inR]; omega, by simp only [inR]; omega, by omega, ⟨j0, by omega, q6, q7, c0, q3, q5, q4⟩, fun σ3 f1 f2 => ⟨by simp only [inR]; omega, by omega, j0, by omega, σ1, σ2, hE, hp, hK, hF.t f1, j4, by omega, RDf_s hv j4 hI c0 (by omega) f2⟩⟩
              · exact hi.elim
            · cases hcut
      · simp only [wp, stp, drp, entL, eL, lget, lset, okst, cnd, swt, rcv, Kr_int, Kr_bool, Kr_void, List.length_cons, List.length_nil, List.replicate, List.append_nil, List.cons_append, List.nil_append, List.take_succ_cons, List.take_zero, List.drop_succ_cons, List.drop_zero, List.reverse_cons, List.reverse_nil, Option.map_some, Option.map_none, Option.toList_some, Option.toList_none, Nat.reduceAdd, Nat.reduceSub, Nat.reduceLT, Nat.reduceLeDiff, Nat.reduceEqDiff, ↓reduceIte, Nat.add_zero, Nat.zero_add, true_and, and_true, Nat.le_refl, reduceCtorEq, false_implies, true_implies, not_true_eq_false, not_false_eq_true, Int.reduceAdd, Int.reduceSub, Int.reduceMul, Int.reduceLE, Int.reduceLT, Int.reduceEq, Int.reduceNe, Int.reduceNeg, Int.reduceDiv, Int.reduceMod, Bool.false_eq_true, Int.le_refl, and_self, true_or, or_true, inR_l, fv0, fv1, fv2, fv3, nc2, nc4, nc6, nc16, nc25, nc60, nc65, nc80, nc130, nc384, nc390, fp_0_0, fp_0_1, fp_0_2, fp_1_0, fp_1_1, fp_1_2, fp_1_3, fp_1_4, fp_1_5, fp_1_6, fp_1_7, fp_1_8, fp_1_9, fp_1_10, fp_1_11, fp_1_12, fp_1_13, fp_1_14, fp_2_0, fp_2_1, fp_2_2, fp_2_3, fp_3_0, fp_3_1, fp_4_0, fp_4_1, fp_4_2, fp_4_3, fp_4_4, fp_4_5, fp_4_6, fp_4_7, fp_5_0, fp_5_1, fp_5_2, fp_5_3, fp_5_4, fp_5_5, fp_5_6, fp_5_7, fp_6_0, fp_6_1, fp_6_2, fp_6_3, fp_6_4, fp_6_5, fp_6_6, fp_6_7, fp_6_8, fp_6_9, fp_6_10, fp_6_11, fp_6_12, fp_6_13, fp_6_14, fp_6_15, fp_7_0, fp_7_1, fp_7_2, fp_7_3, fp_7_4, fp_7_5, fp_7_6, fp_7_7, fp_7_8, fp_7_9, fp_7_10, fp_7_11, fp_7_12, fp_7_13, fp_7_14, fp_7_15, fp_7_16, fp_7_17, fp_7_18, fp_7_19, fp_7_20, fp_7_21, fp_7_22, fp_7_23, fp_7_24, iz_0_1, iz_0_2, iz_1_8, iz_1_9, iz_1_11, iz_2_1, iz_2_2, iz_2_3, iz_3_1, iz_4_1, iz_4_2, iz_5_0, iz_6_8, iz_6_9, iz_6_13, iz_6_14, iz_6_15, iz_7_2, iz_7_6, iz_7_12, iz_7_20, iz_7_21, iz_7_23, iz_7_24, ak_8, ak_9, ak_10, ak_11, ak_12, ak_13, ak_14, ak_15, ak_16, ak_17, ak_18, ak_19, ak_20, ak_21, ak_22, ak_23, ak_24, ak_25, ak_26, ak_27, ak_28, ak_29, ak_30, ak_31, ak_32, ak_33, ak_34, ak_35, ak_36, ak_37, ak_38, ak_39, ak_40, ak_41, ak_42, ak_43, ak_44, ak_45, ak_46, ak_47, ak_48, ak_49, ak_50, ak_51, ak_52, ak_53, ak_54, ak_55, ak_56, el31, el33, el34, CX7_loadRoutes, ca_X7_loadRoutes, frX7, kcX7, klX7, T_X7_faultOf, T_X7_keep2, T_X7_addJob, T_X7_addOperation, up_ap, exists_eq_right_right, exists_eq_right, exists_eq_left, Nat.lt_irrefl, and_self, implies_true, forall_const]
        obtain ⟨⟨p, p2, p3, p4, pv⟩, h1, h2⟩ := h
        refine ⟨⟨p3, p4⟩, fun σ1 hE => ?_⟩
        have ef : fltF (xT σ) (xL σ) 0 = rtsF (xT σ) (xL σ) := if_pos rfl
        rw [ef]
        rcases hE with ⟨-, hE⟩ | ⟨e, -⟩
        · refine ⟨fun a => ⟨?_, fun σ2 hK => ⟨σ1, σ2, hE, a, hK, FrG.r, fun y a b => by omega⟩⟩, fun a => h1 σ1 hE a⟩
          rw [hE.1 7 0 2 (by unfold pRt; omega)]
          exact p2
        · omega
    · exact h.elim
