/-! what changes, over a view -/
theorem take_get {α : Type} {v : α} {l : List α} {d : Nat} {w : α} (h : ((v :: l).take 6)[d]? = some w) : d < 6 ∧ ((d = 0 ∧ w = v) ∨ (1 ≤ d ∧ l[d - 1]? = some w)) := by
  rw [List.getElem?_take] at h
  split at h
  · rename_i hd
    refine ⟨hd, ?_⟩
    cases d with
    | zero =>
      rw [List.getElem?_cons_zero] at h
      exact Or.inl ⟨rfl, (Option.some.inj h).symm⟩
    | succ d =>
      rw [List.getElem?_cons_succ] at h
      exact Or.inr ⟨by omega, by rw [Nat.add_sub_cancel]; exact h⟩
  · cases h
theorem RCb_0 {σ : Mem} (h1 : σ 6 0 8 = 0) (h2 : σ 4 0 1 = 0) (h3 : σ 4 1 1 = 0) : RCb σ := ⟨Or.inl h1, Or.inl h2, Or.inl h3⟩
theorem Rec_0 {σ σ1 : Mem} (h : RecE σ σ1) : σ1 6 0 8 = 0 ∧ σ1 4 0 1 = 0 ∧ σ1 4 1 1 = 0 := by
  refine ⟨?_, ?_, ?_⟩
  · rw [h, if_neg (by omega), if_neg (by omega), if_pos (by omega)]
  · rw [h, if_neg (by omega), if_neg (by omega), if_pos (by omega)]
  · rw [h, if_neg (by omega), if_neg (by omega), if_pos (by omega)]
theorem Rec_x {σ σ1 : Mem} (h : RecE σ σ1) (t : Nat) (x : Int) (ht : t ≠ 0 ∧ ¬ (t = 6 ∧ x = 8) ∧ ¬ (t = 4 ∧ x = 1)) : σ1 t 0 x = σ t 0 x := by
  rw [h, if_neg (by omega), if_neg (by omega), if_neg (by omega), if_neg (by omega)]
/-- one is recorded, then the workshop is changed -/
theorem GS_ch {g : Gh} {σ σ1 σ4 : Mem} {v' : Vw} {tx : (Int → Int) × Int} (h : GS g σ) (hR : RecE σ σ1) (hc : ∀ t k j, hrg t k j → ¬ (k = 0 ∧ (t = 5 ∨ (8 ≤ t ∧ t ≤ 14))) → t ≠ 2 → σ4 t k j = σ1 t k j) (hw : sWF σ4 0) (hv : cv σ4 0 = v') (hC : RCb σ4) (hp : GSp tx σ4) : GS (v', (g.1 :: g.2.1).take 6, g.2.2.1, tx) σ4 := by
  obtain ⟨⟨h1, h2⟩, ⟨⟨n0, n1, m0, m1⟩, h4, h5⟩, h6, -, -⟩ := h
  have e02 : σ4 0 0 2 = (σ 0 0 2 + 1) % 6 := by
    rw [hc 0 0 2 (by unfold hrg; omega) (by omega) (by omega), hR 0 0 2, if_pos ⟨rfl, rfl, rfl⟩]
  have e01 : σ4 0 0 1 = if σ 0 0 1 < 6 then σ 0 0 1 + 1 else σ 0 0 1 := by
    rw [hc 0 0 1 (by unfold hrg; omega) (by omega) (by omega), hR 0 0 1, if_neg (by omega), if_pos ⟨rfl, rfl, rfl⟩]
  refine ⟨⟨hw, hv⟩, ⟨⟨?_, ?_, ?_, ?_⟩, ?_, fun d w q => ?_⟩, fun w q => ?_, hp, hC⟩
  · rw [e02]
    omega
  · rw [e02]
    omega
  · rw [e01]
    split <;> omega
  · rw [e01]
    split <;> omega
  · rw [e01]
    dsimp only
    rw [List.length_take, List.length_cons]
    split <;> omega
  · obtain ⟨d6, ⟨d0, rfl⟩ | ⟨d1, q2⟩⟩ := take_get q
    · subst d0
      have ix : slt σ4 ((0 : Nat) : Int) = 2 + ((σ 0 0 2 + 1) % 6).toNat := by
        unfold slt
        rw [e02]
        omega
      rw [ix, ← h2]
      refine cv_m h1 (fun t j q => ?_)
      rw [hc t _ j (by unfold hrg; omega) (by omega) (by omega), hR t _ j, if_neg (by omega), if_neg (by omega), if_neg (by omega), if_pos ⟨rfl, q⟩]
    · obtain ⟨a, b⟩ := h5 (d - 1) w q2
      have ix : slt σ4 (d : Int) = slt σ ((d - 1 : Nat) : Int) := by
        unfold slt
        rw [e02]
        omega
      have ne : slt σ ((d - 1 : Nat) : Int) ≠ 2 + ((σ 0 0 2 + 1) % 6).toNat := by
        unfold slt
        omega
      have n1 : 2 ≤ slt σ ((d - 1 : Nat) : Int) := by unfold slt; omega
      rw [ix, ← b]
      refine cv_m a (fun t j q => ?_)
      rw [hc t _ j (by unfold hrg; omega) (by omega) (by omega), hR t _ j, if_neg (by omega), if_neg (by omega), if_neg (by omega), if_neg (fun z => ne z.1)]
  · obtain ⟨a, b, c⟩ := h6 w q
    have r35 : σ4 35 0 0 = σ 35 0 0 := by
      rw [hc 35 0 0 (by unfold hrg; omega) (by omega) (by omega), Rec_x hR 35 0 (by omega)]
    have q8 := cv_m (σ' := σ4) (i' := 8) b (fun t j q => by
      rw [hc t _ j (by unfold hrg; omega) (by omega) (by omega), hR t _ j, if_neg (by omega), if_neg (by omega), if_neg (by omega), if_neg (by omega)])
    exact ⟨by rw [r35]; exact a, q8.1, q8.2.trans c⟩
theorem GSp_e {tx : (Int → Int) × Int} {σ σ' : Mem} (h : GSp tx σ) (e : ∀ t x, (t = 2 ∧ x = 1) ∨ t = 36 → σ' t 0 x = σ t 0 x) : GSp tx σ' := by
  obtain ⟨a, b, c⟩ := h
  exact ⟨by rw [e 2 1 (by omega)]; exact a, b, fun x q => by rw [e 36 x (by omega)]; exact c x q⟩
def jobV (v : Vw) (r d : Int) : Vw := fun t y => if t = 5 ∧ y = 0 then v 5 0 + 1 else if t = 10 ∧ y = v 5 0 then 0 else if t = 9 ∧ y = v 5 0 then d else if t = 8 ∧ y = v 5 0 then r else v t y
theorem jobV_cn {w : Vw} (h : wWF w) (hJ : w 5 0 < 4) (r d : Int) : cnV (jobV w r d) = cnV (jobV (cnV w) r d) := by
  have J0 := h.1.1.1
  have z := (h.1.2.1 (w 5 0) J0 hJ).2.2 (Int.le_refl _)
  have c5 := cn5 w
  have e10 : ∀ y, jobV w r d 10 y = w 10 y := fun y => by
    unfold jobV
    rw [if_neg (by omega)]
    by_cases q : y = w 5 0
    · rw [if_pos ⟨rfl, q⟩, q, z]
    · rw [if_neg (by omega), if_neg (by omega), if_neg (by omega)]
  have V : ∀ o, vOp (jobV w r d 10) o ↔ vOp (w 10) o := fun o => vOp_cg (fun j _ _ => e10 j) o
  refine cn_eq ?_ (fun j a b => ?_) (fun j a b => ?_) (fun o v => ?_) (fun m a b => ?_) (fun x a b c => ?_)
  · unfold jobV
    rw [if_pos ⟨rfl, rfl⟩, if_pos ⟨rfl, rfl⟩, c5]
  · have b' : j < w 5 0 + 1 := by
      unfold jobV at b
      rw [if_pos ⟨rfl, rfl⟩] at b
      exact b
    unfold jobV
    rw [c5]
    by_cases q : j = w 5 0
    · refine ⟨?_, ?_⟩
      · rw [if_neg (by omega), if_neg (by omega), if_neg (by omega), if_pos (by omega), if_neg (by omega), if_neg (by omega), if_neg (by omega), if_pos (by omega)]
      · rw [if_neg (by omega), if_neg (by omega), if_pos (by omega), if_neg (by omega), if_neg (by omega), if_pos (by omega)]
    · refine ⟨?_, ?_⟩
      · rw [if_neg (by omega), if_neg (by omega), if_neg (by omega), if_neg (by omega), if_neg (by omega), if_neg (by omega), if_neg (by omega), if_neg (by omega), cn8 a (by omega)]
      · rw [if_neg (by omega), if_neg (by omega), if_neg (by omega), if_neg (by omega), if_neg (by omega), if_neg (by omega), if_neg (by omega), if_neg (by omega), cn9 a (by omega)]
  · rw [e10]
    unfold jobV
    rw [if_neg (by omega), c5]
    by_cases q : j = w 5 0
    · rw [if_pos ⟨rfl, q⟩, q, z]
    · rw [if_neg (by omega), if_neg (by omega), if_neg (by omega), cn10 a b]
  · have v' := (V o).mp v
    unfold jobV
    refine ⟨?_, ?_⟩
    · rw [if_neg (by omega), if_neg (by omega), if_neg (by omega), if_neg (by omega), if_neg (by omega), if_neg (by omega), if_neg (by omega), if_neg (by omega), cn11 v']
    · rw [if_neg (by omega), if_neg (by omega), if_neg (by omega), if_neg (by omega), if_neg (by omega), if_neg (by omega), if_neg (by omega), if_neg (by omega), cn12 v']
  · unfold jobV
    rw [if_neg (by omega), if_neg (by omega), if_neg (by omega), if_neg (by omega), if_neg (by omega), if_neg (by omega), if_neg (by omega), if_neg (by omega), cn13 a b]
  · have c' : x % 4 < w 13 (x / 4) := by
      unfold jobV at c
      rw [if_neg (by omega), if_neg (by omega), if_neg (by omega), if_neg (by omega)] at c
      exact c
    unfold jobV
    rw [if_neg (by omega), if_neg (by omega), if_neg (by omega), if_neg (by omega), if_neg (by omega), if_neg (by omega), if_neg (by omega), if_neg (by omega), cn14 a b c']
/-- the rows of a state, by another view -/
theorem cv_of {σ : Mem} {i : Nat} {w : Vw} (e : ∀ (t : Nat) (x : Int), t = 5 ∨ (8 ≤ t ∧ t ≤ 14) → σ t i x = w t x) : cv σ i = cnV w := cn_eq (w := vwS σ i) (w' := w) (e 5 0 (by omega)) (fun j _ _ => ⟨e 8 j (by omega), e 9 j (by omega)⟩) (fun j _ _ => e 10 j (by omega)) (fun o _ => ⟨e 11 o (by omega), e 12 o (by omega)⟩) (fun m _ _ => e 13 m (by omega)) (fun x _ _ _ => e 14 x (by omega))
theorem sWF_of {σ : Mem} {i : Nat} {w : Vw} (e : ∀ (t : Nat) (x : Int), t = 5 ∨ (8 ≤ t ∧ t ≤ 14) → σ t i x = w t x) (h : wWF w) : sWF σ i := by
  have f : ∀ t, t = 5 ∨ (8 ≤ t ∧ t ≤ 14) → σ t i = w t := fun t q => funext fun x => e t x q
  unfold sWF
  rw [f 5 (by omega), f 8 (by omega), f 9 (by omega), f 10 (by omega), f 11 (by omega), f 12 (by omega), f 13 (by omega), f 14 (by omega)]
  exact h
theorem jobV_wf {w : Vw} (h : wWF w) (hJ : w 5 0 < 4) {r d : Int} (hr : 0 ≤ r ∧ r ≤ 50) (hd : 0 ≤ d ∧ d ≤ 200) : wWF (jobV w r d) := by
  have J0 := h.1.1.1
  have z := (h.1.2.1 (w 5 0) J0 hJ).2.2 (Int.le_refl _)
  have e10 : ∀ y, jobV w r d 10 y = w 10 y := fun y => by
    unfold jobV
    rw [if_neg (by omega)]
    by_cases q : y = w 5 0
    · rw [if_pos ⟨rfl, q⟩, q, z]
    · rw [if_neg (by omega), if_neg (by omega), if_neg (by omega)]
  have o : ∀ t y, 11 ≤ t → jobV w r d t y = w t y := fun t y q => by
    unfold jobV
    rw [if_neg (by omega), if_neg (by omega), if_neg (by omega), if_neg (by omega)]
  have f : ∀ t, 11 ≤ t → jobV w r d t = w t := fun t q => funext fun y => o t y q
  have e5 : jobV w r d 5 0 = w 5 0 + 1 := if_pos ⟨rfl, rfl⟩
  refine ⟨?_, fun j a b => ?_⟩
  · rw [e5, f 11 (by omega), f 12 (by omega), f 13 (by omega), f 14 (by omega)]
    exact (WF_job h.1 hJ (fun x _ _ => e10 x)).1
  · rw [e5] at b
    unfold jobV
    by_cases q : j = w 5 0
    · rw [if_neg (by omega), if_neg (by omega), if_neg (by omega), if_pos (by omega), if_neg (by omega), if_neg (by omega), if_pos (by omega)]
      omega
    · rw [if_neg (by omega), if_neg (by omega), if_neg (by omega), if_neg (by omega), if_neg (by omega), if_neg (by omega), if_neg (by omega), if_neg (by omega)]
      exact h.2 j a (by omega)
def bumpG (g : Gh) (v' : Vw) : Gh := (v', (g.1 :: g.2.1).take 6, g.2.2.1, g.2.2.2)
def T_X6_jobG : Tr := fun a σ K => match a with
  | [.inr (.inl (6, 0)), .inl r, .inl d] => ∃ g, GS g σ ∧ (¬ ((0 ≤ r ∧ r ≤ 50) ∧ (0 ≤ d ∧ d ≤ 200)) → ∀ σ', GS g σ' → K (some (-2)) σ') ∧ ((0 ≤ r ∧ r ≤ 50) ∧ (0 ≤ d ∧ d ≤ 200) → g.1 5 0 < 4 ∧ ∀ σ', GS (bumpG g (cnV (jobV g.1 r d))) σ' → K (some (g.1 5 0)) σ')
  | _ => False
theorem m_X6_jobG : ∀ a σ K, T_X6_jobG a σ K → T_X6_job a σ K := by
  intro a σ K h
  unfold T_X6_jobG at h
  split at h
  · rename_i r d
    obtain ⟨g, hg, k1, k2⟩ := h
    have e5 : σ 5 0 0 = g.1 5 0 := by rw [← hg.1.2]; exact (cn5 (vwS σ 0)).symm
    unfold T_X6_job
    refine ⟨⟨hg.1.1, hg.2.1.1⟩, fun a => k1 a σ hg, fun a b => ?_, fun a b σ1 σ2 hR h2 => ?_⟩
    · have := (k2 a).1
      omega
    · have k := (k2 a).2
      rw [e5]
      have c : ∀ (t : Nat) (y : Int), t = 5 ∨ (8 ≤ t ∧ t ≤ 14) → σ2 t 0 y = jobV (vwS σ 0) r d t y := fun t y q => by
        rw [h2, up_ap, up_ap, up_ap, up_ap, Rec_x hR t y (by omega)]
        unfold jobV vwS
        by_cases z1 : t = 5 ∧ y = 0
        · rw [if_pos (by omega), if_pos z1]
        · rw [if_neg (by omega), if_neg z1]
          by_cases z2 : t = 10 ∧ y = σ 5 0 0
          · rw [if_pos (by omega), if_pos z2]
          · rw [if_neg (by omega), if_neg z2]
            by_cases z3 : t = 9 ∧ y = σ 5 0 0
            · rw [if_pos (by omega), if_pos z3]
            · rw [if_neg (by omega), if_neg z3]
              by_cases z4 : t = 8 ∧ y = σ 5 0 0
              · rw [if_pos (by omega), if_pos z4]
              · rw [if_neg (by omega), if_neg z4]
      have x : ∀ t k y, ¬ (k = 0 ∧ (t = 5 ∨ (8 ≤ t ∧ t ≤ 14))) → σ2 t k y = σ1 t k y := fun t k y q => by
        rw [h2, up_ap, if_neg (by omega), up_ap, if_neg (by omega), up_ap, if_neg (by omega), up_ap, if_neg (by omega)]
      have r0 := Rec_0 hR
      have w := sWF_w.mp hg.1.1
      refine k σ2 (GS_ch hg hR (fun t k j _ q _ => x t k j q) (sWF_of c (jobV_wf w b a.1 a.2)) ?_ (RCb_0 ?_ ?_ ?_) (GSp_e hg.2.2.2.1 (fun t y q => ?_)))
      · rw [cv_of c, jobV_cn w b]
        show cnV (jobV (cv σ 0) r d) = _
        rw [hg.1.2]
      · rw [x 6 0 8 (by omega)]
        exact r0.1
      · rw [x 4 0 1 (by omega)]
        exact r0.2.1
      · rw [x 4 1 1 (by omega)]
        exact r0.2.2
      · rw [x t 0 y (by omega), Rec_x hR t y (by omega)]
  · exact h.elim
theorem k_X6_jobG (l : Launch) : Ct l yX6_job cX6_job 3 (some .int) 4 T_X6_jobG := Ct_mono (k_X6_job l) m_X6_jobG
