/-! what changes, over a view: 2 -/
def opV (v : Vw) (j m d : Int) : Vw := fun t y => if t = 13 ∧ y = m then v 13 m + 1 else if t = 14 ∧ y = 4 * m + v 13 m then j else if t = 10 ∧ y = j then v 10 j + 1 else if t = 12 ∧ y = 4 * j + v 10 j then d else if t = 11 ∧ y = 4 * j + v 10 j then m else v t y
def chV (v : Vw) (o d : Int) : Vw := fun t y => if t = 12 ∧ y = o then d else v t y
def swV (v : Vw) (m x : Int) : Vw := fun t y => if t = 14 then exQ (v 14) (4 * m + x) y else v t y
def orV (v : Vw) (f : Int → Int) : Vw := fun t y => if t = 14 then f y else v t y
theorem opV_10 (v : Vw) (j m d y : Int) : opV v j m d 10 y = if y = j then v 10 j + 1 else v 10 y := by
  unfold opV
  rw [if_neg (by omega), if_neg (by omega)]
  by_cases q : y = j
  · rw [if_pos ⟨rfl, q⟩, if_pos q]
  · rw [if_neg (by omega), if_neg q, if_neg (by omega), if_neg (by omega)]
theorem opV_11 (v : Vw) (j m d y : Int) : opV v j m d 11 y = if y = 4 * j + v 10 j then m else v 11 y := by
  unfold opV
  rw [if_neg (by omega), if_neg (by omega), if_neg (by omega), if_neg (by omega)]
  simp only [true_and]
theorem opV_12 (v : Vw) (j m d y : Int) : opV v j m d 12 y = if y = 4 * j + v 10 j then d else v 12 y := by
  unfold opV
  rw [if_neg (by omega), if_neg (by omega), if_neg (by omega)]
  by_cases q : y = 4 * j + v 10 j
  · rw [if_pos ⟨rfl, q⟩, if_pos q]
  · rw [if_neg (by omega), if_neg q, if_neg (by omega)]
theorem opV_13 (v : Vw) (j m d y : Int) : opV v j m d 13 y = if y = m then v 13 m + 1 else v 13 y := by
  unfold opV
  by_cases q : y = m
  · rw [if_pos ⟨rfl, q⟩, if_pos q]
  · rw [if_neg (by omega), if_neg (by omega), if_neg (by omega), if_neg (by omega), if_neg (by omega), if_neg q]
theorem opV_14 (v : Vw) (j m d y : Int) : opV v j m d 14 y = if y = 4 * m + v 13 m then j else v 14 y := by
  unfold opV
  rw [if_neg (by omega)]
  by_cases q : y = 4 * m + v 13 m
  · rw [if_pos ⟨rfl, q⟩, if_pos q]
  · rw [if_neg (by omega), if_neg (by omega), if_neg (by omega), if_neg (by omega), if_neg q]
theorem opV_9 (v : Vw) (j m d : Int) {t : Nat} (ht : t < 10) (y : Int) : opV v j m d t y = v t y := by
  unfold opV
  rw [if_neg (by omega), if_neg (by omega), if_neg (by omega), if_neg (by omega), if_neg (by omega)]
/-- fit for one more operation -/
def fitV (v : Vw) (j m d : Int) : Prop := (0 ≤ j ∧ j < v 5 0) ∧ ((0 ≤ m ∧ m ≤ 3) ∧ (1 ≤ d ∧ d ≤ 20)) ∧ ∀ s, 0 ≤ s → s < v 10 j → v 11 (4 * j + s) ≠ m
theorem opV_wf {w : Vw} (h : wWF w) {j m d : Int} (hf : fitV w j m d) : wWF (opV w j m d) := by
  obtain ⟨a, b, c⟩ := hf
  have rm := WF_room h.1 a.1 a.2 b.1.1 (by omega) c
  refine ⟨?_, fun y p q => ?_⟩
  · have e5 : opV w j m d 5 0 = w 5 0 := opV_9 w j m d (by omega) 0
    rw [e5]
    refine WF_op h.1 a.1 a.2 b.1.1 (by omega) b.2.1 b.2.2 c (fun x _ _ => opV_10 w j m d x) (fun o v => ?_) ?_ (fun x _ _ => opV_13 w j m d x) (fun m' k p q u s => ?_) ?_
    · have v2 := v.2.2
      have nv : o ≠ 4 * j + w 10 j := fun z => by
        rw [show o / 4 = j by omega] at v2
        omega
      rw [opV_11, opV_12, if_neg nv, if_neg nv]
      exact ⟨rfl, rfl⟩
    · rw [opV_11, opV_12, if_pos rfl, if_pos rfl]
      exact ⟨rfl, rfl⟩
    · rw [opV_14, if_neg]
      have := (h.1.2.2.2.2.1 m' p q).2
      intro z
      have e1 : m' = m := by omega
      rw [e1] at s z
      omega
    · rw [opV_14, if_pos rfl]
  · rw [opV_9 w j m d (by omega) y, opV_9 w j m d (by omega) y]
    rw [opV_9 w j m d (by omega) 0] at q
    exact h.2 y p q
theorem opV_v {w : Vw} (h : wWF w) {j m d : Int} (hf : fitV w j m d) {o : Int} (v : vOp (opV w j m d 10) o) : vOp (w 10) o ∨ o = 4 * j + w 10 j := by
  obtain ⟨a, b, c⟩ := hf
  have v0 := v.1
  have v1 := v.2.1
  have v2 := v.2.2
  rw [opV_10] at v2
  by_cases z : o / 4 = j
  · rw [if_pos z] at v2
    by_cases y : o = 4 * j + w 10 j
    · exact Or.inr y
    · exact Or.inl ⟨v0, v1, by rw [z]; omega⟩
  · rw [if_neg z] at v2
    exact Or.inl ⟨v0, v1, v2⟩
theorem opV_cn {w : Vw} (h : wWF w) {j m d : Int} (hf : fitV w j m d) : cnV (opV w j m d) = cnV (opV (cnV w) j m d) := by
  have hf' := hf
  obtain ⟨a, b, c⟩ := hf'
  have J4 := h.1.1
  have rm := WF_room h.1 a.1 a.2 b.1.1 (by omega) c
  have c10 : cnV w 10 j = w 10 j := cn10 a.1 (by omega)
  have c13 : cnV w 13 m = w 13 m := cn13 b.1.1 (by omega)
  refine cn_eq ?_ (fun y p q => ?_) (fun y p q => ?_) (fun o v => ?_) (fun y p q => ?_) (fun x p q s => ?_)
  · rw [opV_9 w j m d (by omega), opV_9 (cnV w) j m d (by omega), cn5]
  · rw [opV_9 w j m d (by omega)] at q
    rw [opV_9 w j m d (by omega), opV_9 w j m d (by omega), opV_9 (cnV w) j m d (by omega), opV_9 (cnV w) j m d (by omega), cn8 p q, cn9 p q]
    exact ⟨rfl, rfl⟩
  · rw [opV_10, opV_10, c10]
    by_cases z : y = j
    · rw [if_pos z, if_pos z]
    · rw [if_neg z, if_neg z, cn10 p q]
  · rw [opV_11, opV_12, opV_11, opV_12, c10]
    by_cases z : o = 4 * j + w 10 j
    · rw [if_pos z, if_pos z, if_pos z, if_pos z]
      exact ⟨rfl, rfl⟩
    · have v' := (opV_v h hf v).resolve_right z
      rw [if_neg z, if_neg z, if_neg z, if_neg z, cn11 v', cn12 v']
      exact ⟨rfl, rfl⟩
  · rw [opV_13, opV_13, c13]
    by_cases z : y = m
    · rw [if_pos z, if_pos z]
    · rw [if_neg z, if_neg z, cn13 p q]
  · rw [opV_14, opV_14, c13]
    by_cases z : x = 4 * m + w 13 m
    · rw [if_pos z, if_pos z]
    · rw [if_neg z, if_neg z]
      rw [opV_13] at s
      by_cases y : x / 4 = m
      · rw [if_pos y] at s
        rw [cn14 p q (by rw [y]; omega)]
      · rw [if_neg y] at s
        rw [cn14 p q s]
def T_X6_operationG : Tr := fun a σ K => match a with
  | [.inr (.inl (6, 0)), .inl j, .inl m, .inl d] => ∃ g, GS g σ ∧ (¬ (0 ≤ j ∧ j < g.1 5 0) → ∀ σ', GS g σ' → K (some (-1)) σ') ∧ ((0 ≤ j ∧ j < g.1 5 0) → ((0 ≤ m ∧ m ≤ 3) ∧ (1 ≤ d ∧ d ≤ 20)) ∧ ((∃ s, 0 ≤ s ∧ s < g.1 10 j ∧ g.1 11 (4 * j + s) = m) → ∀ σ', GS g σ' → K (some (-5)) σ') ∧ (fitV g.1 j m d → ∀ σ', GS (bumpG g (cnV (opV g.1 j m d))) σ' → K (some (4 * j + g.1 10 j)) σ'))
  | _ => False
theorem m_X6_operationG : ∀ a σ K, T_X6_operationG a σ K → T_X6_operation a σ K := by
  intro a σ K h
  unfold T_X6_operationG at h
  split at h
  · rename_i j m d
    obtain ⟨g, hg, k1, k2⟩ := h
    have ag := cv_ag hg.1.1
    rw [hg.1.2] at ag
    have w := sWF_w.mp hg.1.1
    have J4 := w.1.1
    have e5 : σ 5 0 0 = g.1 5 0 := ag.1
    have vi : ∀ s, 0 ≤ j ∧ j < σ 5 0 0 → 0 ≤ s → s < σ 10 0 j → σ 11 0 (4 * j + s) = g.1 11 (4 * j + s) := fun s q a b => (ag.2.2.1 _ (vOp_i q.1 (by have : vwS σ 0 5 0 = σ 5 0 0 := rfl; omega) a b (hg.1.1.1.2.1 j q.1 (by have : vwS σ 0 5 0 = σ 5 0 0 := rfl; omega)).2.1)).1
    have e10 : 0 ≤ j ∧ j < σ 5 0 0 → σ 10 0 j = g.1 10 j := fun q => ag.2.1 j q.1 (by have : vwS σ 0 5 0 = σ 5 0 0 := rfl; omega)
    unfold T_X6_operation
    refine ⟨⟨hg.1.1, hg.2.1.1⟩, fun a => k1 (by rw [← e5]; exact a) σ hg, fun a b => absurd ((k2 (by rw [← e5]; exact a)).1) b, fun a b c => ?_, fun a b c σ1 σ2 hR h2 => ?_⟩
    · obtain ⟨s, s0, s1, s2⟩ := c
      exact (k2 (by rw [← e5]; exact a)).2.1 ⟨s, s0, by rw [← e10 a]; exact s1, by rw [← vi s a s0 s1]; exact s2⟩ σ hg
    · have hf : fitV (vwS σ 0) j m d := ⟨a, b, c⟩
      have hf2 : fitV g.1 j m d := ⟨by rw [← e5]; exact a, b, fun s s0 s1 => by
        rw [← e10 a] at s1
        rw [← vi s a s0 s1]
        exact c s s0 s1⟩
      have k := (k2 hf2.1).2.2 hf2
      have ex : ∀ t y, t ≠ 0 → t ≠ 6 → t ≠ 4 → σ1 t 0 y = σ t 0 y := fun t y q r u => Rec_x hR t y (by omega)
      have c' : ∀ (t : Nat) (y : Int), t = 5 ∨ (8 ≤ t ∧ t ≤ 14) → σ2 t 0 y = opV (vwS σ 0) j m d t y := fun t y q => by
        rw [h2, up_ap, up_ap, up_ap, up_ap, up_ap, ex t y (by omega) (by omega) (by omega)]
        unfold opV vwS
        by_cases z1 : t = 13 ∧ y = m
        · rw [if_pos (by omega), if_pos z1]
        · rw [if_neg (by omega), if_neg z1]
          by_cases z2 : t = 14 ∧ y = 4 * m + σ 13 0 m
          · rw [if_pos (by omega), if_pos z2]
          · rw [if_neg (by omega), if_neg z2]
            by_cases z3 : t = 10 ∧ y = j
            · rw [if_pos (by omega), if_pos z3]
            · rw [if_neg (by omega), if_neg z3]
              by_cases z4 : t = 12 ∧ y = 4 * j + σ 10 0 j
              · rw [if_pos (by omega), if_pos z4]
              · rw [if_neg (by omega), if_neg z4]
                by_cases z5 : t = 11 ∧ y = 4 * j + σ 10 0 j
                · rw [if_pos (by omega), if_pos z5]
                · rw [if_neg (by omega), if_neg z5]
      have x : ∀ t k y, ¬ (k = 0 ∧ (t = 5 ∨ (8 ≤ t ∧ t ≤ 14))) → σ2 t k y = σ1 t k y := fun t k y q => by
        rw [h2, up_ap, if_neg (by omega), up_ap, if_neg (by omega), up_ap, if_neg (by omega), up_ap, if_neg (by omega), up_ap, if_neg (by omega)]
      have r0 := Rec_0 hR
      have kk := k σ2 (GS_ch hg hR (fun t k j _ q _ => x t k j q) (sWF_of c' (opV_wf w hf)) (by
        rw [cv_of c', opV_cn w hf]
        show cnV (opV (cv σ 0) j m d) = _
        rw [hg.1.2]) (RCb_0 (by rw [x 6 0 8 (by omega)]; exact r0.1) (by rw [x 4 0 1 (by omega)]; exact r0.2.1) (by rw [x 4 1 1 (by omega)]; exact r0.2.2)) (GSp_e hg.2.2.2.1 (fun t y q => by rw [x t 0 y (by omega), Rec_x hR t y (by omega)])))
      rw [e10 a]
      exact kk
  · exact h.elim
theorem k_X6_operationG (l : Launch) : Ct l yX6_operation cX6_operation 4 (some .int) 4 T_X6_operationG := Ct_mono (k_X6_operation l) m_X6_operationG
theorem chV_o (v : Vw) (o d : Int) {t : Nat} (ht : t ≠ 12) (y : Int) : chV v o d t y = v t y := by
  unfold chV
  rw [if_neg (by omega)]
theorem chV_f (v : Vw) (o d : Int) {t : Nat} (ht : t ≠ 12) : chV v o d t = v t := funext fun y => chV_o v o d ht y
theorem chV_12 (v : Vw) (o d y : Int) : chV v o d 12 y = if y = o then d else v 12 y := by
  unfold chV
  simp only [true_and]
theorem chV_wf {w : Vw} (h : wWF w) {o d : Int} (hd : 1 ≤ d ∧ d ≤ 20) : wWF (chV w o d) := by
  obtain ⟨⟨a1, a2, a3, a4⟩, b⟩ := h
  unfold wWF
  rw [chV_f w o d (t := 5) (by omega), chV_f w o d (t := 10) (by omega), chV_f w o d (t := 11) (by omega), chV_f w o d (t := 13) (by omega), chV_f w o d (t := 14) (by omega), chV_f w o d (t := 8) (by omega), chV_f w o d (t := 9) (by omega)]
  refine ⟨⟨a1, a2, fun x v => ?_, a4⟩, b⟩
  have := a3 x v
  refine ⟨this.1, this.2.1, ?_⟩
  rw [chV_12]
  by_cases z : x = o
  · rw [if_pos z]
    exact hd
  · rw [if_neg z]
    exact this.2.2
theorem chV_cn {w : Vw} {o d : Int} : cnV (chV w o d) = cnV (chV (cnV w) o d) := by
  refine cn_eq ?_ (fun y p q => ?_) (fun y p q => ?_) (fun x v => ?_) (fun y p q => ?_) (fun x p q s => ?_)
  · rw [chV_o w o d (by omega), chV_o (cnV w) o d (by omega), cn5]
  · rw [chV_o w o d (by omega)] at q
    rw [chV_o w o d (by omega), chV_o w o d (by omega), chV_o (cnV w) o d (by omega), chV_o (cnV w) o d (by omega), cn8 p q, cn9 p q]
    exact ⟨rfl, rfl⟩
  · rw [chV_o w o d (by omega), chV_o (cnV w) o d (by omega), cn10 p q]
  · rw [chV_f w o d (t := 10) (by omega)] at v
    rw [chV_o w o d (by omega), chV_o (cnV w) o d (by omega), cn11 v, chV_12, chV_12, cn12 v]
    exact ⟨rfl, rfl⟩
  · rw [chV_o w o d (by omega), chV_o (cnV w) o d (by omega), cn13 p q]
  · rw [chV_o w o d (by omega)] at s
    rw [chV_o w o d (by omega), chV_o (cnV w) o d (by omega), cn14 p q s]
def T_X6_changeG : Tr := fun a σ K => match a with
  | [.inr (.inl (6, 0)), .inl o, .inl d] => ∃ g, GS g σ ∧ (¬ vOp (g.1 10) o → ∀ σ', GS g σ' → K (some (-1)) σ') ∧ (vOp (g.1 10) o → (1 ≤ d ∧ d ≤ 20) ∧ ∀ σ', GS (bumpG g (cnV (chV g.1 o d))) σ' → K (some (g.1 12 o)) σ')
  | _ => False
theorem m_X6_changeG : ∀ a σ K, T_X6_changeG a σ K → T_X6_change a σ K := by
  intro a σ K h
  unfold T_X6_changeG at h
  split at h
  · rename_i o d
    obtain ⟨g, hg, k1, k2⟩ := h
    have ag := cv_ag hg.1.1
    rw [hg.1.2] at ag
    have w := sWF_w.mp hg.1.1
    have V : vOp (σ 10 0) o ↔ vOp (g.1 10) o := (ag.V o).symm
    unfold T_X6_change
    refine ⟨⟨hg.1.1, hg.2.1.1⟩, fun a => k1 (fun q => a (V.mpr q)) σ hg, fun a b => absurd (k2 (V.mp a)).1 b, fun a b σ1 hR => ?_⟩
    have k := (k2 (V.mp a)).2
    have c' : ∀ (t : Nat) (y : Int), t = 5 ∨ (8 ≤ t ∧ t ≤ 14) → up σ1 12 0 o d t 0 y = chV (vwS σ 0) o d t y := fun t y q => by
      rw [up_ap, Rec_x hR t y (by omega)]
      unfold chV vwS
      by_cases z : t = 12 ∧ y = o
      · rw [if_pos (by omega), if_pos z]
      · rw [if_neg (by omega), if_neg z]
    have x : ∀ t k y, ¬ (k = 0 ∧ (t = 5 ∨ (8 ≤ t ∧ t ≤ 14))) → up σ1 12 0 o d t k y = σ1 t k y := fun t k y q => by
      rw [up_ap, if_neg (by omega)]
    have r0 := Rec_0 hR
    rw [(ag.2.2.1 o a).2.1]
    exact k _ (GS_ch hg hR (fun t k j _ q _ => x t k j q) (sWF_of c' (chV_wf w b)) (by
        rw [cv_of c', chV_cn]
        show cnV (chV (cv σ 0) o d) = _
        rw [hg.1.2]) (RCb_0 (by rw [x 6 0 8 (by omega)]; exact r0.1) (by rw [x 4 0 1 (by omega)]; exact r0.2.1) (by rw [x 4 1 1 (by omega)]; exact r0.2.2)) (GSp_e hg.2.2.2.1 (fun t y q => by rw [x t 0 y (by omega), Rec_x hR t y (by omega)])))
  · exact h.elim
theorem k_X6_changeG (l : Launch) : Ct l yX6_change cX6_change 4 (some .int) 4 T_X6_changeG := Ct_mono (k_X6_change l) m_X6_changeG
