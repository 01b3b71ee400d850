theorem sty_G {σ : Mem} (hw : sWF σ 0) {b t o : Int} (v : vOp (σ 10 0) o) : sty σ b t o ↔ stG (σ 11 0) (σ 12 0) (σ 21 0) b t o := by
  have := (sWF_op hw v).2.2.1
  unfold sty stG
  constructor
  · rintro (⟨a, c⟩ | ⟨a, c⟩)
    · exact Or.inl c
    · exact Or.inr ⟨a, c⟩
  · rintro (c | ⟨a, c⟩)
    · by_cases z : σ 11 0 o = b
      · exact Or.inl ⟨z, c⟩
      · exact Or.inr ⟨z, by omega⟩
    · exact Or.inr ⟨a, c⟩
theorem bct_G {σ : Mem} (hw : sWF σ 0) {b t m : Int} (m0 : 0 ≤ m) (m1 : m < 4) : bct σ b t m (σ 13 0 m) = fsG (σ 10 0) (σ 11 0) (σ 12 0) (σ 14 0) (σ 21 0) (σ 13 0) b t m := by
  unfold bct fsG
  refine sm_cg _ (fun i hi => ?_)
  have l := hw.1.2.2.2.2.1 m m0 m1
  have v := (oq_v hw.1 m0 m1 (show (0 : Int) ≤ i by omega) (by omega)).1
  rw [propext (sty_G hw v)]
def sBrk (σ : Mem) (b t u le : Int) (f : Int → Int) : Prop := brkS (σ 10 0) (σ 11 0) (σ 12 0) (σ 8 0) (σ 13 0) (σ 14 0) b t u le f
/-- what repair knows -/
def KRc (σ : Mem) : Prop := σ 4 1 1 = 0 ∨ (sBrk σ (σ 6 0 13) (σ 6 0 14) (σ 6 0 15) (σ 4 1 2) (σ 27 1) ∧ σ 4 1 2 ≠ 1000000)
/-- the net of a breakdown, in words of the routes -/
theorem BDI_n {σ σ1 : Mem} {b t u : Int} (hw : sWF σ 0) (hP : PK σ) (h : BDI σ σ1 b t u 4 0) : AG (σ 5 0 0) (σ 5 0 0) (σ 10 0) (σ1 15 3) (σ 11 0) (σ1 16 3) (σ 12 0) (σ1 17 3) (fun _ => 0) (fun _ => 0) (σ 13 0) (σ 13 0) (σ 14 0) (σ 14 0) ∧ (∀ o, vOp (σ 10 0) o → σ1 18 3 o = rdG (σ 11 0) (σ 12 0) (σ 8 0) (σ 21 0) b t u o) ∧ a0B σ (fsG (σ 10 0) (σ 11 0) (σ 12 0) (σ 14 0) (σ 21 0) (σ 13 0) b t) (σ1 19 3) (σ1 20 3) := by
  obtain ⟨h1, h2, h3, h4, h5, h6, h7, h8, h9⟩ := h
  refine ⟨⟨rfl, fun j a c => (h6 j a c).symm, fun o v => ⟨(h7 o v).1.symm, (h7 o v).2.1.symm, rfl⟩, fun _ _ _ => rfl, fun _ _ _ _ _ _ => rfl⟩, fun o v => ?_, fun m' k' b' a c d e f g i => ?_⟩
  · have m4 := (sWF_op hw v).2.1
    rw [(h7 o v).2.2.1 (Or.inl m4)]
    unfold brd rdG
    rw [cif_cg (sty_G hw v)]
  · rw [h9 m' k' b' a c d e f g i, bct_G hw a c]
    exact ⟨fun q => q.2, fun q => ⟨c, q⟩⟩
theorem BDI_sol {σ σ1 : Mem} {b t u : Int} (hw : sWF σ 0) (hP : PK σ) (h : BDI σ σ1 b t u 4 0) : (1 : Nat) < 2 ∧ nB σ1 3 ∧ nA σ1 3 ∧ nO σ1 3 ∧ ∃ v C, 0 ≤ v ∧ v < 1000 ∧ sSol σ1 1 v C := by
  obtain ⟨ag, hr, ha⟩ := BDI_n hw hP h
  have hB := h.2.2.1
  have H : wH (σ 10 0) (σ 11 0) (σ 12 0) (σ 8 0) (σ 13 0) (σ 14 0) (σ 21 0) := hP.1.2.2.1
  have hW1 := ag.wf hw.1
  have ag8 : AG (σ 5 0 0) (σ 5 0 0) (σ 10 0) (σ1 15 3) (σ 11 0) (σ1 16 3) (σ 12 0) (σ1 17 3) (σ 8 0) (σ 8 0) (σ 13 0) (σ 13 0) (σ 14 0) (σ 14 0) := ⟨ag.1, ag.2.1, fun o v => ⟨(ag.2.2.1 o v).1, (ag.2.2.1 o v).2.1, rfl⟩, ag.2.2.2.1, ag.2.2.2.2⟩
  have hc := fun m a c => (fsG_r (b := b) (t := t) hw.1 H (m := m) a c).1
  refine ⟨by omega, hB, h.2.2.2.1, h.2.2.2.2.1, 800, Cqo (σ1 16 3) (σ 13 0) (σ 14 0), by omega, by omega, ?_, ?_⟩
  · refine brk_sol (re := σ 8 0) hW1 (fun o v => ?_) ((ag8.H hw.1).mp H) (fun o v => ?_)
    · have v' := (ag.V o).mp v
      have := sWF_op hw v'
      omega
    · show 0 ≤ σ1 18 3 o ∧ σ1 18 3 o ≤ 400
      have := hB.2.1 o v
      omega
  · exact a0B_to hW1 hB hc ha (fun m m0 m1 => ⟨PRM_r (fun k k' p q r s e => hw.1.2.2.2.2.2.2.1 m k k' m0 m1 p q r s e), fun _ _ _ => rfl⟩)
theorem FdR_brk {σ σ1 σ2 : Mem} {b t u : Int} (hw : sWF σ 0) (hP : PK σ) (h : BDI σ σ1 b t u 4 0) (hF : FdR σ1 σ2 1) : sBrk σ b t u (σ2 4 1 2) (σ2 27 1) ∧ σ2 4 1 2 ≠ 1000000 := by
  obtain ⟨ag, hr, ha⟩ := BDI_n hw hP h
  have hB := h.2.2.1
  have H : wH (σ 10 0) (σ 11 0) (σ 12 0) (σ 8 0) (σ 13 0) (σ 14 0) (σ 21 0) := hP.1.2.2.1
  have hW1 := ag.wf hw.1
  have hc := fun m a c => (fsG_r (b := b) (t := t) hw.1 H (m := m) a c).1
  obtain ⟨f1, f2, f3, f4, f5, f6⟩ := hF
  have e15 : σ2 15 3 = σ1 15 3 := pF.f f1 15 (by omega) 3
  have e16 : σ2 16 3 = σ1 16 3 := pF.f f1 16 (by omega) 3
  have e17 : σ2 17 3 = σ1 17 3 := pF.f f1 17 (by omega) 3
  have e18 : σ2 18 3 = σ1 18 3 := pF.f f1 18 (by omega) 3
  have e19 : σ2 19 3 = σ1 19 3 := pF.f f1 19 (by omega) 3
  have hS : SQ (σ1 15 3) (σ1 16 3) (σ1 17 3) (σ1 18 3) (σ1 19 3) (σ1 20 3) (σ2 28 1) (σ2 30 1) (σ2 27 1) (σ2 4 1 2) 16 := by
    have := f6
    unfold sSQ at this
    rw [show 1 + 2 = 3 from rfl, e15, e16, e17, e18, e19] at this
    exact this
  obtain ⟨b1, b2⟩ := SQ_bst (fs := fsG (σ 10 0) (σ 11 0) (σ 12 0) (σ 14 0) (σ 21 0) (σ 13 0) b t) hW1 f3 (by omega) (fun m a c => (hc m a c).2) hS (fun v v0 v1 C hC hs => f5 v v0 v1 C ⟨hC, hs⟩) (fun q a => a0B_to hW1 hB hc ha a) (fun q a hs => a0B_fr hW1 hB hc ha a hs)
  exact ⟨⟨σ 21 0, H, bstG_cg ag.sy hW1 (fun o v => hr o ((ag.V o).mp v)) (fun m a c => (hc m a c).2) b1⟩, b2⟩
def pKB (t a : Nat) (x : Int) : Prop := pKn t a x ∨ pBD t a x ∨ pF 1 t a x
theorem pKB_f {σ σ' : Mem} (h : FrG pKB σ σ') (t a : Nat) (ht : (t ≤ 14 ∧ t ≠ 1 ∧ t ≠ 3 ∧ t ≠ 4 ∧ t ≠ 6) ∨ (32 < t ∧ t ≠ 37) ∨ t = 31 ∨ (t = 4 ∧ a = 0) ∨ (t = 27 ∧ a = 0)) : σ' t a = σ t a := h.f t a (by
  rintro x (q | q | q)
  · unfold pKn pPa at q
    omega
  · unfold pBD pNt at q
    omega
  · unfold pF pS pC pK p26 at q
    omega)
theorem sBrk_cg {σ σ' : Mem} {b t u le : Int} {f : Int → Int} (h : ∀ t, t = 8 ∨ t = 10 ∨ t = 11 ∨ t = 12 ∨ t = 13 ∨ t = 14 → σ' t 0 = σ t 0) : sBrk σ' b t u le f ↔ sBrk σ b t u le f := by
  unfold sBrk
  rw [h 10 (by omega), h 11 (by omega), h 12 (by omega), h 8 (by omega), h 13 (by omega), h 14 (by omega)]
theorem sWF_cg {σ σ' : Mem} (h : ∀ t, t = 5 ∨ t = 8 ∨ t = 9 ∨ t = 10 ∨ t = 11 ∨ t = 12 ∨ t = 13 ∨ t = 14 → σ' t 0 = σ t 0) : sWF σ' 0 ↔ sWF σ 0 := by
  unfold sWF
  rw [h 5 (by omega), h 10 (by omega), h 11 (by omega), h 12 (by omega), h 8 (by omega), h 9 (by omega), h 13 (by omega), h 14 (by omega)]
theorem sH_cg {σ σ' : Mem} {g : Int → Int} (h : ∀ t, t = 8 ∨ t = 10 ∨ t = 11 ∨ t = 12 ∨ t = 13 ∨ t = 14 → σ' t 0 = σ t 0) : sH σ' 0 g ↔ sH σ 0 g := by
  unfold sH
  rw [h 10 (by omega), h 11 (by omega), h 12 (by omega), h 8 (by omega), h 13 (by omega), h 14 (by omega)]
theorem PK_cg {σ σ' : Mem} (h : ∀ t, t = 8 ∨ t = 10 ∨ t = 11 ∨ t = 12 ∨ t = 13 ∨ t = 14 ∨ t = 15 ∨ t = 16 ∨ t = 17 ∨ t = 21 ∨ t = 22 ∨ t = 37 → σ' t 0 = σ t 0) (h8 : σ' 1 0 8 = σ 1 0 8) (h3 : σ' 3 0 1 = σ 3 0 1) (hP : PK σ) : PK σ' := by
  unfold PK at hP ⊢
  rw [h 10 (by omega), h 11 (by omega), h 12 (by omega), h 8 (by omega), h 13 (by omega), h 14 (by omega), h 21 (by omega), h 22 (by omega), h 37 (by omega), h8, h3]
  exact ⟨(PM_cg (fun t ht => h t (by omega)) (fun t ht => h t (by omega)) h8).mpr hP.1, hP.2⟩
/-- behind knowPlan repair knows what it knew -/
theorem KRc_kn {σ σ' : Mem} (h : FrG pKn σ σ') (hk : KRc σ) : KRc σ' := by
  have e : ∀ t a x, t = 4 ∨ t = 27 ∨ (t = 6 ∧ 13 ≤ x) → σ' t a x = σ t a x := fun t a x q => h t a x (by unfold pKn pPa; omega)
  have s : ∀ t, t = 8 ∨ t = 10 ∨ t = 11 ∨ t = 12 ∨ t = 13 ∨ t = 14 → σ' t 0 = σ t 0 := fun t q => pKn_f h t 0 (by omega)
  have e27 : σ' 27 1 = σ 27 1 := funext fun x => e 27 1 x (by omega)
  unfold KRc
  rw [e 4 1 1 (by omega), e 4 1 2 (by omega), e 6 0 13 (by omega), e 6 0 14 (by omega), e 6 0 15 (by omega), e27, sBrk_cg s]
  exact hk
/-- repair behind its find -/
theorem brk_find {σ σ0 σ1 : Mem} {b t u : Int} (hw : sWF σ 0) (hF0 : FrG pKn σ σ0) (e8 : σ0 6 0 8 = 1) (e9 : σ0 6 0 9 = 1) (hP : PK σ0) (hk : KRc σ) (h : BDI σ0 σ1 b t u 4 0) : sWF σ0 0 ∧ ((σ1 4 1 1 ≠ 0 → FrG pKB σ σ1 ∧ KPc σ1 ∧ KRc σ1 ∧ sBrk σ b t u (σ1 4 1 2) (σ1 27 1) ∧ σ1 4 1 2 ≠ 1000000) ∧ ∀ σ2, FdR σ1 σ2 1 → FrG pKB σ σ2 ∧ KPc σ2 ∧ KRc σ2 ∧ sBrk σ b t u (σ2 4 1 2) (σ2 27 1) ∧ σ2 4 1 2 ≠ 1000000) := by
  have hw0 : sWF σ0 0 := (sWF_cg (fun t q => pKn_f hF0 t 0 (by omega))).mpr hw
  have h1 : FrG pKB σ σ1 := (hF0.w (fun _ _ _ q => Or.inl q)).t (h.1.w (fun _ _ _ q => Or.inr (Or.inl q)))
  have st0 : ∀ t, t = 8 ∨ t = 10 ∨ t = 11 ∨ t = 12 ∨ t = 13 ∨ t = 14 → σ0 t 0 = σ t 0 := fun t q => pKn_f hF0 t 0 (by omega)
  have b1 : ∀ t a x, ¬ pBD t a x → σ1 t a x = σ0 t a x := fun t a x q => h.1 t a x q
  have P1 : PK σ1 := PK_cg (fun t q => h.1.f t 0 (by rintro x q'; unfold pBD pNt at q'; omega)) (b1 1 0 8 (by unfold pBD pNt; omega)) (b1 3 0 1 (by unfold pBD pNt; omega)) hP
  have K1 : KPc σ1 := Or.inr ⟨by rw [b1 6 0 8 (by unfold pBD pNt; omega), e8], Or.inl ⟨by rw [b1 6 0 9 (by unfold pBD pNt; omega), e9], P1⟩⟩
  refine ⟨hw0, fun hn => ?_, fun σ2 hF => ?_⟩
  · obtain ⟨p1, p2, p3, p4, p5⟩ := h.2.1
    have k0 := KRc_kn hF0 hk
    have same : σ0 6 0 13 = b ∧ σ0 6 0 14 = t ∧ σ0 6 0 15 = u := Classical.byContradiction fun q => hn (p5 q)
    rw [p4 same] at hn
    have r := k0.resolve_left hn
    rw [same.1, same.2.1, same.2.2] at r
    have e2 : σ1 4 1 2 = σ0 4 1 2 := b1 4 1 2 (by unfold pBD pNt; omega)
    have e27 : σ1 27 1 = σ0 27 1 := h.1.f 27 1 (by rintro x q'; unfold pBD pNt at q'; omega)
    have r' : sBrk σ b t u (σ1 4 1 2) (σ1 27 1) ∧ σ1 4 1 2 ≠ 1000000 := by
      rw [e2, e27]
      exact ⟨(sBrk_cg st0).mp r.1, r.2⟩
    refine ⟨h1, K1, Or.inr ⟨?_, r'.2⟩, r'⟩
    rw [p1, p2, p3]
    exact (sBrk_cg (fun t q => pKB_f h1 t 0 (by omega))).mpr r'.1
  · have r := FdR_brk hw0 hP h hF
    have r' : sBrk σ b t u (σ2 4 1 2) (σ2 27 1) := (sBrk_cg st0).mp r.1
    have h2 : FrG pKB σ σ2 := h1.t (hF.1.w (fun _ _ _ q => Or.inr (Or.inr q)))
    have f2 : ∀ t a x, ¬ pF 1 t a x → σ2 t a x = σ1 t a x := fun t a x q => hF.1 t a x q
    have P2 : PK σ2 := PK_cg (fun t q => hF.1.f t 0 (by rintro x q'; unfold pF pS pC pK p26 at q'; omega)) (f2 1 0 8 (by unfold pF pS pC pK p26; omega)) (f2 3 0 1 (by unfold pF pS pC pK p26; omega)) P1
    obtain ⟨p1, p2, p3, -⟩ := h.2.1
    refine ⟨h2, Or.inr ⟨?_, Or.inl ⟨?_, P2⟩⟩, Or.inr ⟨?_, r.2⟩, r', r.2⟩
    · rw [f2 6 0 8 (by unfold pF pS pC pK p26; omega), b1 6 0 8 (by unfold pBD pNt; omega), e8]
    · rw [f2 6 0 9 (by unfold pF pS pC pK p26; omega), b1 6 0 9 (by unfold pBD pNt; omega), e9]
    · rw [f2 6 0 13 (by unfold pF pS pC pK p26; omega), f2 6 0 14 (by unfold pF pS pC pK p26; omega), f2 6 0 15 (by unfold pF pS pC pK p26; omega), p1, p2, p3]
      exact (sBrk_cg (fun t q => pKB_f h2 t 0 (by omega))).mpr r'
def T_X6_isMachine2 : Tr := fun a σ K => match a with
  | [.inl v] => (0 ≤ v ∧ v ≤ 3 → K (some 1) σ) ∧ (¬ (0 ≤ v ∧ v ≤ 3) → K (some 0) σ)
  | _ => False
theorem m_X6_isMachine2 : ∀ a σ K, T_X6_isMachine2 a σ K → T_X6_isMachine a σ K := by
  intro a σ K h
  unfold T_X6_isMachine2 at h
  unfold T_X6_isMachine
  split at h
  · rename_i v
    show K (some (if 0 ≤ v ∧ v ≤ 3 then 1 else 0)) σ
    by_cases c : 0 ≤ v ∧ v ≤ 3
    · rw [if_pos c]
      exact h.1 c
    · rw [if_neg c]
      exact h.2 c
  · exact h.elim
theorem k_X6_isMachine2 (l : Launch) : Ct l yX6_isMachine cX6_isMachine 1 (some .boolean) 1 T_X6_isMachine2 := Ct_mono (k_X6_isMachine l) m_X6_isMachine2
def ca_X6_breakdown : Nat → Option (Nat × Nat × Tr)
  | 87 => some (1, 99, T_X6_isMachine2)
  | 68 => some (3, 99, T_X6_within2)
  | 111 => some (1, 6, T_X6_knowPlan)
  | 160 => some (3, 5, T_X5_hasPlace2)
  | 216 => some (4, 6, T_X6_takeBreakdown)
  | 122 => some (1, 4, T_X4_find)
  | _ => none
theorem cao_X6_breakdown (l : Launch) : ∀ k n' ci T', ca_X6_breakdown k = some (n', ci, T') → ∃ nn, nn + 1 ≤ 37 ∧ Site l yX6_breakdown.cls k n' ci nn T' := by
  intro k n' ci T' h
  unfold ca_X6_breakdown at h
  split at h
  · cases h; exact ⟨1, by decide, _, _, _, _, k_X6_isMachine2 l, Or.inr ⟨rfl, FX6_isMachine, Or.inl ⟨rfl, KRX6_87⟩⟩⟩
  · cases h; exact ⟨0, by decide, _, _, _, _, k_X6_within2 l, Or.inr ⟨rfl, FX6_within, Or.inl ⟨rfl, KRX6_68⟩⟩⟩
  · cases h; exact ⟨5, by decide, _, _, _, _, k_X6_knowPlan l, Or.inl ⟨_, rfl, FX6_knowPlan, KRX6_111⟩⟩
  · cases h; exact ⟨0, by decide, _, _, _, _, k_X5_hasPlace2 l, Or.inl ⟨_, rfl, FX5_hasPlace, KRX6_160⟩⟩
  · cases h; exact ⟨2, by decide, _, _, _, _, k_X6_takeBreakdown l, Or.inl ⟨_, rfl, FX6_takeBreakdown, KRX6_216⟩⟩
  · cases h; exact ⟨36, by decide, _, _, _, _, k_X4_find l, Or.inl ⟨_, rfl, FX4_find, KRX6_122⟩⟩
  · cases h
def T_X6_breakdown : Tr := fun a σ K => match a with
  | [.inr (.inl (6, 0)), .inl b, .inl t, .inl u, .inl w] => (sWF σ 0 ∧ KPc σ ∧ KRc σ) ∧ (¬ ((0 ≤ b ∧ b ≤ 3) ∧ (0 ≤ t ∧ t ≤ 200) ∧ (t ≤ u ∧ u ≤ 400) ∧ (-1 ≤ w ∧ w ≤ 15)) → K (some (-2)) σ) ∧ ((0 ≤ b ∧ b ≤ 3) ∧ (0 ≤ t ∧ t ≤ 200) ∧ (t ≤ u ∧ u ≤ 400) ∧ (-1 ≤ w ∧ w ≤ 15) → (∀ σ1, FrG pKB σ σ1 → KPc σ1 → KRc σ1 → (∀ h, ¬ sH σ 0 h) → K (some (-5)) σ1) ∧ (∀ σ1, FrG pKB σ σ1 → KPc σ1 → KRc σ1 → (∃ h, sH σ 0 h) → 0 ≤ w → ¬ (w % 4 < σ 13 0 (w / 4)) → K (some (-6)) σ1) ∧ (∀ σ1 le f, FrG pKB σ σ1 → KPc σ1 → KRc σ1 → sBrk σ b t u le f → le ≠ 1000000 → (w < 0 ∨ w % 4 < σ 13 0 (w / 4)) → (w < 0 → K (some le) σ1) ∧ (0 ≤ w → K (some (f w)) σ1)))
  | _ => False
set_option maxHeartbeats 4000000 in
set_option maxRecDepth 20000 in
theorem k_X6_breakdown (l : Launch) : Ct l yX6_breakdown cX6_breakdown 5 (some .int) 37 T_X6_breakdown := by
  refine mk_met (by decide +kernel) hCX6_breakdown lCX6_breakdown frX6_ok cstX6_ok (cao_X6_breakdown l) ?_ ?_
  · intro a σ K h
    unfold T_X6_breakdown at h
    split at h
    · simp [eL]
    · exact h.elim
  · intro a σ K ha hR h
    unfold T_X6_breakdown at h
    split at h
    · rename_i b t u w
      refine ⟨fun _ => none, 200, fun pc I L S σ' k h => (by cases h), ?_⟩
      simp only [wp, stp, drp, entL, eL, lget, lset, okst, cnd, swt, rcv, Kr_int, Kr_bool, Kr_void, List.length_cons, List.length_nil, List.replicate, List.append_nil, List.cons_append, List.nil_append, List.take_succ_cons, List.take_zero, List.drop_succ_cons, List.drop_zero, List.reverse_cons, List.reverse_nil, Option.map_some, Option.map_none, Option.toList_some, Option.toList_none, Nat.reduceAdd, Nat.reduceSub, Nat.reduceLT, Nat.reduceLeDiff, Nat.reduceEqDiff, ↓reduceIte, Nat.add_zero, Nat.zero_add, true_and, and_true, Nat.le_refl, reduceCtorEq, false_implies, true_implies, not_true_eq_false, not_false_eq_true, Int.reduceAdd, Int.reduceSub, Int.reduceMul, Int.reduceLE, Int.reduceLT, Int.reduceEq, Int.reduceNe, Int.reduceNeg, Int.reduceDiv, Int.reduceMod, Bool.false_eq_true, Int.le_refl, and_self, true_or, or_true, inR_l, fv0, fv1, fv2, fv3, nc2, nc4, nc6, nc16, nc25, nc60, nc65, nc80, nc130, nc384, nc390, fp_0_0, fp_0_1, fp_0_2, fp_1_0, fp_1_1, fp_1_2, fp_1_3, fp_1_4, fp_1_5, fp_1_6, fp_1_7, fp_1_8, fp_1_9, fp_1_10, fp_1_11, fp_1_12, fp_1_13, fp_1_14, fp_2_0, fp_2_1, fp_2_2, fp_2_3, fp_3_0, fp_3_1, fp_4_0, fp_4_1, fp_4_2, fp_4_3, fp_4_4, fp_4_5, fp_4_6, fp_4_7, fp_5_0, fp_5_1, fp_5_2, fp_5_3, fp_5_4, fp_5_5, fp_5_6, fp_5_7, fp_6_0, fp_6_1, fp_6_2, fp_6_3, fp_6_4, fp_6_5, fp_6_6, fp_6_7, fp_6_8, fp_6_9, fp_6_10, fp_6_11, fp_6_12, fp_6_13, fp_6_14, fp_6_15, fp_7_0, fp_7_1, fp_7_2, fp_7_3, fp_7_4, fp_7_5, fp_7_6, fp_7_7, fp_7_8, fp_7_9, fp_7_10, fp_7_11, fp_7_12, fp_7_13, fp_7_14, fp_7_15, fp_7_16, fp_7_17, fp_7_18, fp_7_19, fp_7_20, fp_7_21, fp_7_22, fp_7_23, fp_7_24, iz_0_1, iz_0_2, iz_1_8, iz_1_9, iz_1_11, iz_2_1, iz_2_2, iz_2_3, iz_3_1, iz_4_1, iz_4_2, iz_5_0, iz_6_8, iz_6_9, iz_6_13, iz_6_14, iz_6_15, iz_7_2, iz_7_6, iz_7_12, iz_7_20, iz_7_21, iz_7_23, iz_7_24, ak_8, ak_9, ak_10, ak_11, ak_12, ak_13, ak_14, ak_15, ak_16, ak_17, ak_18, ak_19, ak_20, ak_21, ak_22, ak_23, ak_24, ak_25, ak_26, ak_27, ak_28, ak_29, ak_30, ak_31, ak_32, ak_33, ak_34, ak_35, ak_36, ak_37, ak_38, ak_39, ak_40, ak_41, ak_42, ak_43, ak_44, ak_45, ak_46, ak_47, ak_48, ak_49, ak_50, ak_51, ak_52, ak_53, ak_54, ak_55, ak_56, el31, el33, el34, CX6_breakdown, ca_X6_breakdown, frX6, kcX6, klX6, T_X6_isMachine2, T_X6_within2, T_X6_knowPlan, T_X5_hasPlace2, T_X6_takeBreakdown, T_X4_find, xT_up, xL_20, xL_21]
      obtain ⟨⟨p, pc, pr⟩, hn, h⟩ := h
      refine ⟨fun a => ⟨fun c => ⟨fun d => ⟨fun e => ⟨⟨p, pc⟩, fun σ0 hF e8 e9 hP => ?_, fun σ0 hF e8 e9 hN => ?_⟩, fun e => hn (fun q => e q.2.2.2)⟩, fun d => hn (fun q => d q.2.2.1)⟩, fun c => hn (fun q => c q.2.1)⟩, fun a => hn (fun q => a q.1)⟩
      · obtain ⟨h5, h6, h7⟩ := h ⟨a, c, d, e⟩
        have hw0 : sWF σ0 0 := (sWF_cg (fun t q => pKn_f hF t 0 (by omega))).mpr p
        have e13 : σ0 13 0 = σ 13 0 := pKn_f hF 13 0 (by omega)
        have sH0 : ∃ h, sH σ 0 h := ⟨σ0 21 0, (sH_cg (fun t q => pKn_f hF t 0 (by omega))).mp hP.1.2.2.1⟩
        have main : (w < 0 ∨ w % 4 < σ 13 0 (w / 4)) → (sWF σ0 0 ∧ PK σ0 ∧ 0 ≤ b ∧ b < 4 ∧ 0 ≤ t ∧ t ≤ 200 ∧ 0 ≤ u ∧ u ≤ 400) ∧ ∀ σ1, BDI σ0 σ1 b t u 4 0 → (nB σ1 3 ∧ nA σ1 3 ∧ nO σ1 3 ∧ ∃ v C, 0 ≤ v ∧ v < 1000 ∧ sSol σ1 1 v C) ∧ (σ1 4 1 1 ≠ 0 → (0 ≤ w → (0 ≤ w ∧ w < 16) ∧ K (some (σ1 27 1 w)) σ1) ∧ (¬ 0 ≤ w → K (some (σ1 4 1 2)) σ1)) ∧ (σ1 4 1 1 = 0 → ∀ σ2, FdR σ1 σ2 1 → (0 ≤ w → (0 ≤ w ∧ w < 16) ∧ K (some (σ2 27 1 w)) σ2) ∧ (¬ 0 ≤ w → K (some (σ2 4 1 2)) σ2)) := fun hp => by
          refine ⟨⟨hw0, hP, by omega, by omega, by omega, by omega, by omega, by omega⟩, fun σ1 hB => ⟨(BDI_sol hw0 hP hB).2, ?_⟩⟩
          have r := (brk_find p hF e8 e9 hP pr hB).2
          have fin : ∀ σ2, FrG pKB σ σ2 ∧ KPc σ2 ∧ KRc σ2 ∧ sBrk σ b t u (σ2 4 1 2) (σ2 27 1) ∧ σ2 4 1 2 ≠ 1000000 → (0 ≤ w → (0 ≤ w ∧ w < 16) ∧ K (some (σ2 27 1 w)) σ2) ∧ (¬ 0 ≤ w → K (some (σ2 4 1 2)) σ2) := fun σ2 q => by
            have x := h7 σ2 _ _ q.1 q.2.1 q.2.2.1 q.2.2.2.1 q.2.2.2.2 hp
            exact ⟨fun w0 => ⟨by omega, x.2 w0⟩, fun w0 => x.1 (by omega)⟩
          exact ⟨fun hn => fin σ1 (r.1 hn), fun _ σ2 hF2 => fin σ2 (r.2 σ2 hF2)⟩
        refine ⟨fun w0 => main (Or.inl w0), fun w0 => ⟨by omega, by omega, by omega, fun x => main (Or.inr ?_), fun x => ?_⟩⟩
        · rw [e13] at x
          exact x.2
        · rw [e13] at x
          exact h6 σ0 (hF.w (fun _ _ _ q => Or.inl q)) (Or.inr ⟨e8, Or.inl ⟨e9, hP⟩⟩) (KRc_kn hF pr) sH0 (by omega) (fun z => x ⟨by omega, z⟩)
      · exact (h ⟨a, c, d, e⟩).1 σ0 (hF.w (fun _ _ _ q => Or.inl q)) (Or.inr ⟨e8, Or.inr ⟨e9, hN⟩⟩) (KRc_kn hF pr) (fun g hg => hN g ((sH_cg (fun t q => pKn_f hF t 0 (by omega))).mpr hg))
    · exact h.elim
