/-! orders of the machines, tried one after the other -/
theorem WF_arr {J : Int} {st mc du ln q0 q : Int → Int} (h : WF J st mc du ln q0) (hp : ∀ m, 0 ≤ m → m < 4 → PRM (ln m) (fun k => q (4 * m + k)) (fun k => q0 (4 * m + k))) : WF J st mc du ln q := by
  obtain ⟨w1, w2, w3, w4, w5, w6, w7, w8⟩ := h
  refine ⟨w1, w2, w3, w4, w5, fun m k m0 m1 k0 k1 => ?_, fun m k k' m0 m1 a b c d e => (hp m m0 m1).2.2 k k' a b c d e, fun o v => ?_⟩
  · obtain ⟨x, x0, x1, e⟩ := (hp m m0 m1).1 k k0 k1
    have e : q (4 * m + k) = q0 (4 * m + x) := e
    rw [e]
    exact w6 m x m0 m1 x0 x1
  · obtain ⟨k, k0, k1, e⟩ := w8 o v
    obtain ⟨x, x0, x1, e2⟩ := (hp _ (w3 o v).1 (w3 o v).2.1).2.1 k k0 k1
    exact ⟨x, x0, x1, e2.trans e⟩
/-- orders of the same jobs, of each machine the first ones stay -/
def aQo (ln fs q0 q : Int → Int) : Prop := ∀ m, 0 ≤ m → m < 4 → arO (ln m) (fs m) (fun k => q0 (4 * m + k)) (fun k => q (4 * m + k))
/-- the same but for the orders of the machines from M on, and heads that don't stay -/
def smO (τ σ : Mem) (M : Int) : Prop := (∀ j, 0 ≤ j → j < 4 → rSt τ j = rSt σ j) ∧ (∀ o, rOp σ o → rMc τ o = rMc σ o ∧ rDu τ o = rDu σ o ∧ rRe τ (o / 4) = rRe σ (o / 4) ∧ τ 43 0 o = σ 43 0 o ∧ τ 44 0 o = σ 44 0 o ∧ (σ 44 0 o ≠ 0 → τ 45 0 o = σ 45 0 o)) ∧ (∀ m, 0 ≤ m → m < 4 → rLn τ m = rLn σ m) ∧ ∀ m k, 0 ≤ m → m < M → m < 4 → 0 ≤ k → k < rLn σ m → rQ τ (4 * m + k) = rQ σ (4 * m + k)
theorem smO_op {τ σ : Mem} {M : Int} (h : smO τ σ M) : rOp τ = rOp σ := funext fun o => propext (vOp_cg h.1 o)
theorem oA_sm {τ σ : Mem} {M m k : Int} (h : smO τ σ M) (hw : rWF σ) (hw' : rWF τ) (m0 : 0 ≤ m) (m1 : m < 4) (mM : m < M) : oA τ m k = oA σ m k := by
  obtain ⟨a1, a2, a3, a4⟩ := id h
  have e := smO_op h
  unfold oA
  rw [a3 m m0 m1]
  by_cases x : 0 ≤ k ∧ k < rLn σ m
  · rw [if_pos x, if_pos x]
    obtain ⟨b1, b2, b3⟩ := oq_v hw.1 m0 m1 x.1 x.2
    obtain ⟨c1, c2, c3⟩ := oq_v hw'.1 m0 m1 x.1 (by rw [a3 m m0 m1]; exact x.2)
    have c1' : rOp σ (oq (rSt τ) (rMc τ) (rQ τ) m k) := by
      rw [← e]
      exact c1
    exact hw.1.2.2.2.1 _ _ c1' b1 (by rw [c3, b3, a4 m k m0 mM m1 x.1 x.2]) (by rw [← (a2 _ c1').1, c2, b2])
  · rw [if_neg x, if_neg x]
theorem rPl_sm {τ σ : Mem} {M o : Int} (h : smO τ σ M) (hw : rWF σ) (v : rOp σ o) (mM : rMc σ o < M) : rPl τ o = rPl σ o := by
  obtain ⟨m0, m1, -⟩ := rWF_op hw v
  unfold rPl plo
  rw [(h.2.1 o v).1, h.2.2.1 _ m0 m1]
  exact plF_cg (fun k k0 k1 _ => h.2.2.2 _ k m0 mM m1 k0 k1)
theorem hF_sm {τ σ : Mem} {M : Int} (h : smO τ σ M) (hw : rWF σ) (hw' : rWF τ) {g : Int → Int} {o : Int} (v : rOp σ o) : hF τ M g o = hF σ M g o := by
  obtain ⟨a1, a2, a3, a4⟩ := id h
  obtain ⟨b1, b2, b3, b4, b5, b6⟩ := a2 o v
  obtain ⟨m0, m1, -⟩ := rWF_op hw v
  have eB : hBs τ o = hBs σ o := by
    unfold hBs
    rw [b5, b4, b3]
    by_cases z : σ 44 0 o ≠ 0
    · rw [if_pos z, if_pos z, b6 z]
    · rw [if_neg z, if_neg z]
  have e1 : hP1 τ o = hP1 σ o := by
    unfold hP1
    rw [b5]
  have e2 : hP2 τ M o = hP2 σ M o := by
    unfold hP2
    rw [b5, b1]
    by_cases z : σ 44 0 o ≠ 0
    · rw [if_pos z, if_pos z]
    · rw [if_neg z, if_neg z]
      by_cases y : rMc σ o < M
      · rw [if_pos y, if_pos y, rPl_sm h hw v y, oA_sm h hw hw' m0 m1 y]
      · rw [if_neg y, if_neg y]
  have t1 : (if hP1 τ o < 0 then 0 else g (hP1 τ o) + rDu τ (hP1 τ o)) = (if hP1 σ o < 0 then 0 else g (hP1 σ o) + rDu σ (hP1 σ o)) := by
    rw [e1]
    by_cases z : hP1 σ o < 0
    · rw [if_pos z, if_pos z]
    · rw [if_neg z, if_neg z, (a2 _ (hP1_ok σ o v (by omega))).2.1]
  have t2 : (if hP2 τ M o < 0 then 0 else g (hP2 τ M o) + rDu τ (hP2 τ M o)) = (if hP2 σ M o < 0 then 0 else g (hP2 σ M o) + rDu σ (hP2 σ M o)) := by
    rw [e2]
    by_cases z : hP2 σ M o < 0
    · rw [if_pos z, if_pos z]
    · rw [if_neg z, if_neg z, (a2 _ (hP2_ok hw M o v (by omega))).2.1]
  unfold hF F2
  rw [eB, t1, t2]
/-- more machines: nothing is earlier -/
theorem hF_up {σ : Mem} (hk : hOK σ) {M : Int} (hM : M ≤ 4) {g : Int → Int} {o : Int} (v : rOp σ o) : hF σ M g o ≤ hF σ 4 g o := by
  have hb := (hBs_0 hk o v).1
  unfold hF F2
  by_cases z : hP2 σ M o = hP2 σ 4 o
  · rw [z]
    exact Int.le_refl _
  · have e : hP2 σ M o = -6 := by
      unfold hP2 at z ⊢
      by_cases y : σ 44 0 o ≠ 0
      · rw [if_pos y]
      · rw [if_neg y] at z ⊢
        rw [if_neg y] at z
        by_cases x : rMc σ o < M
        · rw [if_pos x, if_pos (by omega)] at z
          exact absurd rfl z
        · rw [if_neg x]
    rw [e, if_pos (show (-6 : Int) < 0 by omega)]
    generalize (if hP1 σ o < 0 then 0 else g (hP1 σ o) + rDu σ (hP1 σ o)) = x
    generalize (if hP2 σ 4 o < 0 then 0 else g (hP2 σ 4 o) + rDu σ (hP2 σ 4 o)) = y
    unfold gt2
    split <;> split <;> split <;> (try split) <;> omega
theorem hF_head {σ : Mem} (hk : hOK σ) {M : Int} {h : Int → Int} : SolF (rOp σ) (hF σ M) h ↔ IsHead (rOp σ) (fun o' o => (0 ≤ hP1 σ o ∧ o' = hP1 σ o) ∨ (0 ≤ hP2 σ M o ∧ o' = hP2 σ M o)) (rDu σ) (hBs σ) h := F2_head (fun o v => (hBs_0 hk o v).1) (hP1_ok σ) (hP2_ok hk.1 M)
theorem hF_un {σ : Mem} (hk : hOK σ) {M : Int} {h g : Int → Int} (a : SolF (rOp σ) (hF σ M) h) (b : SolF (rOp σ) (hF σ M) g) {o : Int} (v : rOp σ o) : h o = g o := head_unique (fun o v => (rWF_op hk.1 v).2.2.1) (fun o v => (hBs_0 hk o v).1) ((hF_head hk).mp a) ((hF_head hk).mp b) v
/-- a part of the orders: its heads aren't later -/
theorem hF_part {τ σ : Mem} {M : Int} (hM : M ≤ 4) (hs : smO τ σ M) (hk : hOK σ) (hk' : hOK τ) {h : Int → Int} (H : SolF (rOp σ) (hF σ 4) h) : (∃ g, SolF (rOp τ) (hF τ M) g) ∧ ∀ g, SolF (rOp τ) (hF τ M) g → ∀ o, rOp σ o → g o ≤ h o := by
  have e := smO_op hs
  have h0 : ∀ o, rOp σ o → 0 ≤ h o := (hF_d hk 4 h H).1
  have G : ∀ t : Int → Int, (∀ o, rOp τ o → t o ≤ h o) → ∀ o, rOp τ o → hF τ M t o ≤ h o := by
    intro t ht o v
    rw [e] at v
    rw [hF_sm hs hk.1 hk'.1 v, H o v]
    exact Int.le_trans (hF_up hk hM v) (hF_m hk.1 4 t h (by rw [← e]; exact ht) o v)
  obtain ⟨g, a, b⟩ := sol_ex (V := rOp τ) (F := hF τ M) (B := h) (h := fun _ => 0) rOp_16 (hF_m hk'.1 M) G (fun o v => by
    unfold hF F2
    exact Int.le_trans (hBs_0 hk' o v).1 gt2_le.1) (fun o v => by
    rw [e] at v
    exact h0 o v)
  refine ⟨⟨g, a⟩, fun g' a' o v => ?_⟩
  rw [← e] at v
  rw [hF_un hk' a' a v]
  exact b o v
/-- the memory with the orders q -/
def wqM (σ : Mem) (q : Int → Int) : Mem := fun t a x => if t = 38 ∧ a = 0 ∧ 49 ≤ x ∧ x < 65 then q (x - 49) else σ t a x
theorem wqM_o {σ : Mem} {q : Int → Int} {t a : Nat} (h : t ≠ 38 ∨ a ≠ 0) : wqM σ q t a = σ t a := by
  funext x
  unfold wqM
  rw [if_neg (by rintro ⟨c, d, -⟩; omega)]
theorem wqM_l {σ : Mem} {q : Int → Int} {x : Int} (h : x < 49 ∨ 65 ≤ x) : wqM σ q 38 0 x = σ 38 0 x := by
  unfold wqM
  rw [if_neg (by rintro ⟨-, -, c, d⟩; omega)]
theorem wqM_q {σ : Mem} {q : Int → Int} {x : Int} (h0 : 0 ≤ x) (h1 : x < 16) : rQ (wqM σ q) x = q x := by
  unfold rQ wqM
  rw [if_pos ⟨rfl, rfl, by omega, by omega⟩, show 49 + x - 49 = x by omega]
def MxE (σ : Mem) (h : Int → Int) (L : Int) : Prop := 0 ≤ L ∧ (∀ o, rOp σ o → h o + rDu σ o ≤ L) ∧ (L = 0 ∨ ∃ o, rOp σ o ∧ h o + rDu σ o = L)
