/-! calls that change, each with one road on; what an exchange, a duration, the best plan make of a view -/
theorem GS_c {g : Gh} {σ : Mem} (h : GS g σ) : cnV g.1 = g.1 := by
  rw [← h.1.2]
  exact cn_cn (sWF_w.mp h.1.1)
theorem ord_i {v : Vw} {m x : Int} (m0 : 0 ≤ m) (m1 : m ≤ 3) (x0 : 0 ≤ x) (x1 : x < v 13 m) : ordA v m x = v 14 (4 * m + x) := (if_neg (by omega)).trans (if_pos ⟨x0, x1⟩)
theorem ord_o {v : Vw} {m x : Int} (m0 : 0 ≤ m) (m1 : m ≤ 3) (x1 : ¬ (0 ≤ x ∧ x < v 13 m)) : ordA v m x = -6 := (if_neg (by omega)).trans (if_neg x1)
theorem sw_ord {v : Vw} (hw : wWF v) {m x : Int} (m0 : 0 ≤ m) (m1 : m ≤ 3) (x0 : 0 ≤ x) (x1 : x + 1 < v 13 m) : ordA (cnV (swV v m x)) m x = ordA v m (x + 1) ∧ ordA (cnV (swV v m x)) m (x + 1) = ordA v m x := by
  have l4 := (ln_w hw m0 (show m < 4 by omega)).2
  have e13 : cnV (swV v m x) 13 m = v 13 m := by
    rw [cn13 m0 (by omega), swV_o v m x (by omega)]
  have c : ∀ k, 0 ≤ k → k < v 13 m → cnV (swV v m x) 14 (4 * m + k) = exQ (v 14) (4 * m + x) (4 * m + k) := fun k a b => by
    rw [cn14 (by omega) (by omega) (by rw [show (4 * m + k) % 4 = k by omega, show (4 * m + k) / 4 = m by omega, swV_o v m x (by omega)]; exact b), swV_14]
  rw [ord_i (v := cnV (swV v m x)) m0 m1 x0 (by rw [e13]; omega), ord_i (v := cnV (swV v m x)) m0 m1 (show 0 ≤ x + 1 by omega) (by rw [e13]; omega), ord_i (v := v) m0 m1 x0 (show x < v 13 m by omega), ord_i (v := v) m0 m1 (show 0 ≤ x + 1 by omega) x1, c x x0 (by omega), c (x + 1) (by omega) x1]
  unfold exQ
  refine ⟨?_, ?_⟩
  · rw [if_neg (by omega), if_pos rfl, show 4 * m + x + 1 = 4 * m + (x + 1) by omega]
  · rw [if_pos (by omega)]
theorem exQ_2 (q : Int → Int) (y : Int) : exQ (exQ q y) y = q := by
  funext z
  unfold exQ
  by_cases a : z = y + 1
  · rw [if_pos a, if_neg (by omega), if_pos rfl, a]
  · rw [if_neg a]
    by_cases b : z = y
    · rw [if_pos b, if_pos rfl, b]
    · rw [if_neg b, if_neg a, if_neg b]
theorem sw_2 {v : Vw} (hw : wWF v) (hc : cnV v = v) {m x : Int} (m0 : 0 ≤ m) (m1 : m ≤ 3) (x0 : 0 ≤ x) (x1 : x + 1 < v 13 m) : cnV (swV (cnV (swV v m x)) m x) = v := by
  have w1 := swV_wf hw m0 (show m < 4 by omega) x0 x1
  rw [← swV_cn w1 m0 (by omega) x0 (by rw [swV_o v m x (by omega)]; exact x1)]
  have e : swV (swV v m x) m x = v := by
    funext t y
    unfold swV
    by_cases z : t = 14
    · rw [if_pos z, z]
      simp only [if_true]
      exact congrFun (exQ_2 (v 14) (4 * m + x)) y
    · rw [if_neg z, if_neg z]
  rw [e, hc]
theorem sw_13 {v : Vw} {m x : Int} : cnV (swV v m x) 5 0 = v 5 0 ∧ ∀ m', 0 ≤ m' → m' < 4 → cnV (swV v m x) 13 m' = v 13 m' := ⟨by rw [cn5, swV_o v m x (by omega)], fun m' a b => by rw [cn13 a b, swV_o v m x (by omega)]⟩
theorem lenQ_sw {v : Vw} (hw : wWF v) {m x le : Int} (m0 : 0 ≤ m) (m1 : m < 4) (x0 : 0 ≤ x) (x1 : x + 1 < v 13 m) (h : lenQ (v 10) (v 11) (v 12) (v 8) (v 13) (exQ (v 14) (4 * m + x)) le) : lenA (cnV (swV v m x)) = le ∧ 0 ≤ le ∧ pos (cnV (swV v m x)) := by
  have w1 := swV_wf hw m0 m1 x0 x1
  have q := lenQ_LV (cn_wf w1) ((lenQ_cn w1).mp h)
  obtain ⟨_, _, l0, _⟩ := h
  exact ⟨(cif_1 q.1).trans q.2, l0, q.1⟩
theorem bst_len {v : Vw} (hw : wWF v) (h : BstF v) : wWF (orV v (bfA v)) ∧ lenA (cnV (orV v (bfA v))) = leA v ∧ 0 ≤ leA v ∧ pos (cnV (orV v (bfA v))) ∧ LV (cnV (orV v (bfA v))) = leA v := by
  obtain ⟨⟨h1, h2⟩, hn⟩ := h
  obtain ⟨l0, l1, a, hl, -⟩ := h2.resolve_left hn
  have w1 : wWF (orV v (bfA v)) := orV_wf hw (WF_arr hw.1 (fun m m0 m1 => (a m m0 m1).1))
  have q := lenQ_LV (cn_wf w1) ((lenQ_cn w1).mp hl)
  exact ⟨w1, (cif_1 q.1).trans q.2, l0, q.1, q.2⟩
theorem ch_ab {v : Vw} {o d : Int} (h : vOp (v 10) o) : abA (cnV (chV v o d)) o 1 = d := by
  have e10 : ∀ j, 0 ≤ j → j < 4 → v 10 j = cnV (chV v o d) 10 j := fun j a b => by rw [cn10 a b, chV_o v o d (by omega)]
  rw [ab1 ((vOp_cg e10 o).mp h), cn12 (by rw [chV_f v o d (by omega)]; exact h), chV_12, if_pos rfl]
def T_X6_swapS : Tr := fun a σ K => match a with
  | [.inr (.inl (6, 0)), .inl m, .inl x] => ∃ g, GS g σ ∧ ((0 ≤ m ∧ m ≤ 3) ∧ 0 ≤ x) ∧ ∀ r σ', ((x + 1 < g.1 13 m ∧ r = cif (pos (cnV (swV g.1 m x))) 1 0 ∧ GS (bumpG g (cnV (swV g.1 m x))) σ') ∨ (¬ x + 1 < g.1 13 m ∧ r = -1 ∧ GS g σ')) → K (some r) σ'
  | _ => False
theorem m_X6_swapS : ∀ a σ K, T_X6_swapS a σ K → T_X6_swapG a σ K := by
  intro a σ K h
  unfold T_X6_swapS at h
  split at h
  · obtain ⟨g, hg, ha, hk⟩ := h
    unfold T_X6_swapG
    exact ⟨g, hg, fun q => absurd ha.1 q, fun _ => ⟨fun q σ' h' => hk _ _ (Or.inr ⟨by omega, rfl, h'⟩), fun q σ' h' => hk _ _ (Or.inl ⟨by omega, rfl, h'⟩)⟩⟩
  · exact h.elim
theorem k_X6_swapS (l : Launch) : Ct l yX6_swap cX6_swap 3 (some .int) 6 T_X6_swapS := Ct_mono (k_X6_swapG l) m_X6_swapS
def T_X6_improveS : Tr := fun a σ K => match a with
  | [.inr (.inl (6, 0))] => ∃ g, GS g σ ∧ ∀ r σ', ((r = -5 ∧ GS g σ') ∨ (pos g.1 ∧ ∃ m x, (0 ≤ m ∧ m < 4 ∧ 0 ≤ x ∧ x + 1 < g.1 13 m) ∧ lenQ (g.1 10) (g.1 11) (g.1 12) (g.1 8) (g.1 13) (exQ (g.1 14) (4 * m + x)) r ∧ r < LV g.1 ∧ GS (bumpG g (cnV (swV g.1 m x))) σ')) → K (some r) σ'
  | _ => False
theorem m_X6_improveS : ∀ a σ K, T_X6_improveS a σ K → T_X6_improveG a σ K := by
  intro a σ K h
  unfold T_X6_improveS at h
  split at h
  · obtain ⟨g, hg, hk⟩ := h
    unfold T_X6_improveG
    exact ⟨g, hg, fun σ' h' => hk _ _ (Or.inl ⟨rfl, h'⟩), fun p m x le σ' a b c d e f h' => hk _ _ (Or.inr ⟨p, m, x, ⟨a, b, c, d⟩, e, f, h'⟩)⟩
  · exact h.elim
theorem k_X6_improveS (l : Launch) : Ct l yX6_improve cX6_improve 6 (some .int) 6 T_X6_improveS := Ct_mono (k_X6_improveG l) m_X6_improveS
def T_X6_changeS : Tr := fun a σ K => match a with
  | [.inr (.inl (6, 0)), .inl o, .inl d] => ∃ g, GS g σ ∧ (1 ≤ d ∧ d ≤ 20) ∧ ∀ r σ', ((¬ vOp (g.1 10) o ∧ r = -1 ∧ GS g σ') ∨ (vOp (g.1 10) o ∧ r = g.1 12 o ∧ GS (bumpG g (cnV (chV g.1 o d))) σ')) → K (some r) σ'
  | _ => False
theorem m_X6_changeS : ∀ a σ K, T_X6_changeS a σ K → T_X6_changeG a σ K := by
  intro a σ K h
  unfold T_X6_changeS at h
  split at h
  · obtain ⟨g, hg, hd, hk⟩ := h
    unfold T_X6_changeG
    exact ⟨g, hg, fun q σ' h' => hk _ _ (Or.inl ⟨q, rfl, h'⟩), fun q => ⟨hd, fun σ' h' => hk _ _ (Or.inr ⟨q, rfl, h'⟩)⟩⟩
  · exact h.elim
theorem k_X6_changeS (l : Launch) : Ct l yX6_change cX6_change 4 (some .int) 4 T_X6_changeS := Ct_mono (k_X6_changeG l) m_X6_changeS
def T_X6_operationS : Tr := fun a σ K => match a with
  | [.inr (.inl (6, 0)), .inl j, .inl m, .inl d] => ∃ g, GS g σ ∧ ((0 ≤ j ∧ j < g.1 5 0) ∧ ((0 ≤ m ∧ m ≤ 3) ∧ (1 ≤ d ∧ d ≤ 20))) ∧ ∀ r σ', ((¬ fitV g.1 j m d ∧ r = -5 ∧ GS g σ') ∨ (fitV g.1 j m d ∧ r = 4 * j + g.1 10 j ∧ GS (bumpG g (cnV (opV g.1 j m d))) σ')) → K (some r) σ'
  | _ => False
theorem m_X6_operationS : ∀ a σ K, T_X6_operationS a σ K → T_X6_operationG a σ K := by
  intro a σ K h
  unfold T_X6_operationS at h
  split at h
  · obtain ⟨g, hg, ⟨hj, hm⟩, hk⟩ := h
    unfold T_X6_operationG
    refine ⟨g, hg, fun q => absurd hj q, fun _ => ⟨hm, fun q σ' h' => hk _ _ (Or.inl ⟨fun z => ?_, rfl, h'⟩), fun q σ' h' => hk _ _ (Or.inr ⟨q, rfl, h'⟩)⟩⟩
    obtain ⟨s, s0, s1, s2⟩ := q
    exact z.2.2 s s0 s1 s2
  · exact h.elim
theorem k_X6_operationS (l : Launch) : Ct l yX6_operation cX6_operation 4 (some .int) 4 T_X6_operationS := Ct_mono (k_X6_operationG l) m_X6_operationS
