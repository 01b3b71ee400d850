/-! a plan told in a text, in the law -/
def SW (v w : Vw) : Prop := (∀ f, cnV (orV w f) = cnV (orV v f)) ∧ (∀ m, 0 ≤ m → m < 4 → w 13 m = v 13 m) ∧ ∀ m y, 0 ≤ m → m < 4 → (inq (w 14) (4 * m) (w 13 m) y ↔ inq (v 14) (4 * m) (v 13 m) y)
theorem SW_r (v : Vw) : SW v v := ⟨fun _ => rfl, fun _ _ _ => rfl, fun _ _ _ _ => Iff.rfl⟩
theorem SW_s {v w : Vw} (hw : wWF w) (h : SW v w) {m x : Int} (m0 : 0 ≤ m) (m1 : m < 4) (x0 : 0 ≤ x) (x1 : x + 1 < w 13 m) : SW v (cnV (swV w m x)) := by
  refine ⟨fun f => ?_, fun m' a b => ?_, fun m' y a b => ?_⟩
  · rw [← h.1 f]
    have e : orV (swV w m x) f = orV w f := by
      funext t y
      unfold orV swV
      by_cases z : t = 14
      · rw [if_pos z, if_pos z]
      · rw [if_neg z, if_neg z, if_neg z]
    rw [← orV_cn (w := swV w m x) (f := f) (g := f) (fun _ _ _ _ => rfl), e]
  · rw [sw_13.2 m' a b, h.2.1 m' a b]
  · rw [sw_13.2 m' a b, ← h.2.2 m' y a b]
    have l4 := (ln_w hw m0 m1).2
    have l4' := (ln_w hw a b).2
    have c : ∀ k, 0 ≤ k → k < w 13 m' → cnV (swV w m x) 14 (4 * m' + k) = exQ (w 14) (4 * m + x) (4 * m' + k) := fun k k0 k1 => by
      rw [cn14 (by omega) (by omega) (by rw [show (4 * m' + k) % 4 = k by omega, show (4 * m' + k) / 4 = m' by omega, swV_o w m x (by omega)]; exact k1), swV_14]
    constructor
    · rintro ⟨k, k0, k1, e⟩
      rw [c k k0 k1, exQ_at m0 m1 x0 (by omega) a b k0 (by omega)] at e
      refine ⟨_, ?_, ?_, e⟩
      · split
        · omega
        · split <;> omega
      · split
        · rename_i z
          rw [z.1]
          exact x1
        · split
          · rename_i z
            rw [z.1]
            omega
          · exact k1
    · rintro ⟨k, k0, k1, e⟩
      by_cases z : m' = m
      · subst z
        by_cases z1 : k = x
        · subst z1
          refine ⟨k + 1, by omega, x1, ?_⟩
          rw [c (k + 1) (by omega) x1, exQ_at m0 m1 x0 (by omega) a b (by omega) (by omega), if_neg (by omega), if_pos ⟨rfl, rfl⟩]
          exact e
        · by_cases z2 : k = x + 1
          · subst z2
            refine ⟨x, x0, by omega, ?_⟩
            rw [c x x0 (by omega), exQ_at m0 m1 x0 (by omega) a b x0 (by omega), if_pos ⟨rfl, rfl⟩]
            exact e
          · refine ⟨k, k0, k1, ?_⟩
            rw [c k k0 k1, exQ_at m0 m1 x0 (by omega) a b k0 (by omega), if_neg (by omega), if_neg (by omega)]
            exact e
      · refine ⟨k, k0, k1, ?_⟩
        rw [c k k0 k1, exQ_at m0 m1 x0 (by omega) a b k0 (by omega), if_neg (fun q => z q.1), if_neg (fun q => z q.1)]
        exact e
/-- what is read brings the orders back -/
theorem SW_back {v w : Vw} (hw : wWF v) (hc : cnV v = v) (h : SW v w) {ln q : Int → Int} (r : ∀ m, 0 ≤ m → m < 4 → (v 13 m = 0 → ln m = -1) ∧ (0 < v 13 m → ln m = v 13 m ∧ ∀ x, 0 ≤ x → x < v 13 m → q (4 * m + x) = v 14 (4 * m + x))) : fitW w ln q ∧ cnV (orV w (tqV w ln q)) = v := by
  refine ⟨fun m m0 m1 l0 => ?_, ?_⟩
  · have l := ln_w hw m0 m1
    have a := r m m0 m1
    by_cases z : v 13 m = 0
    · have := a.1 z
      omega
    · obtain ⟨e, eq⟩ := a.2 (by omega)
      refine ⟨e.trans (h.2.1 m m0 m1).symm, fun x x0 x1 => ?_⟩
      rw [h.2.2 m x m0 m1, e]
      constructor
      · rintro ⟨k, k0, k1, c⟩
        exact ⟨k, k0, k1, by rw [← eq k k0 k1]; exact c⟩
      · rintro ⟨k, k0, k1, c⟩
        exact ⟨k, k0, k1, by rw [eq k k0 k1]; exact c⟩
  · rw [h.1]
    have e1 : cnV (orV v (tqV w ln q)) = cnV (orV (cnV v) (v 14)) := orV_cn (fun x x0 x1 x2 => by
      have m0 : 0 ≤ x / 4 := by omega
      have m1 : x / 4 < 4 := by omega
      obtain ⟨e, eq⟩ := (r (x / 4) m0 m1).2 (by omega)
      unfold tqV
      rw [cif_1 (by omega)]
      have := eq (x % 4) (by omega) x2
      rw [show 4 * (x / 4) + x % 4 = x by omega] at this
      exact this)
    rw [e1, hc]
    have e2 : orV v (v 14) = v := by
      funext t y
      unfold orV
      by_cases z : t = 14
      · rw [if_pos z, z]
      · rw [if_neg z]
    rw [e2, hc]
def T_X6_swapH : Tr := fun a σ K => match a with
  | [.inr (.inl (6, 0)), .inl m, .inl x] => ∃ g f, GX g f σ ∧ ((0 ≤ m ∧ m ≤ 3) ∧ 0 ≤ x) ∧ ∀ r σ', ((x + 1 < g.1 13 m ∧ GX (bumpG g (cnV (swV g.1 m x))) f σ') ∨ GX g f σ') → K (some r) σ'
  | _ => False
theorem m_X6_swapH : ∀ a σ K, T_X6_swapH a σ K → M2 T_X6_swapS a σ K := by
  intro a σ K h
  unfold T_X6_swapH at h
  split at h
  · refine And.intro ⟨by decide, True.intro⟩ ?_
    unfold T_X6_swapS
    obtain ⟨g, f, hg, hc, hk⟩ := h
    refine ⟨g, hg.1, hc, fun r σ1 h1 σ2 e q => hk r σ2 ?_⟩
    rcases h1 with ⟨a, -, b⟩ | ⟨-, -, b⟩
    · exact Or.inl ⟨a, GX_o hg b e q⟩
    · exact Or.inr (GX_o hg b e q)
  · exact h.elim
def T_X6_faultH : Tr := fun a σ K => match a with
  | [.inr (.inl (6, 0)), .inl w] => w = 1 ∧ ∃ g f, GX g f σ ∧ ∀ σ', GX g f σ' → K (some (plnF g.2.2.2.1 g.2.2.2.2)) σ'
  | _ => False
theorem m_X6_faultH : ∀ a σ K, T_X6_faultH a σ K → M2 T_X6_faultG a σ K := by
  intro a σ K h
  unfold T_X6_faultH at h
  split at h
  · refine And.intro ⟨by decide, True.intro⟩ ?_
    unfold T_X6_faultG
    obtain ⟨rfl, g, f, hg, hk⟩ := h
    refine ⟨by omega, g, hg.1, fun σ1 h1 σ2 e r => ?_⟩
    rw [if_pos rfl]
    exact hk σ2 (GX_o hg h1 e r)
  · exact h.elim
def T_X6_loadPlanH : Tr := fun a σ K => match a with
  | [.inr (.inl (6, 0))] => ∃ g f, GX g f σ ∧ plnF g.2.2.2.1 g.2.2.2.2 = -6 ∧ fitW g.1 (pln0 g.2.2.2.1 g.2.2.2.2).2.2.1 (pln0 g.2.2.2.1 g.2.2.2.2).2.2.2 ∧ ∀ σ', GX (cnV (orV g.1 (tqV g.1 (pln0 g.2.2.2.1 g.2.2.2.2).2.2.1 (pln0 g.2.2.2.1 g.2.2.2.2).2.2.2)), (g.1 :: g.2.1).take 6, g.2.2.1, (g.2.2.2.1, 0)) f σ' → K (some (cif (pos (cnV (orV g.1 (tqV g.1 (pln0 g.2.2.2.1 g.2.2.2.2).2.2.1 (pln0 g.2.2.2.1 g.2.2.2.2).2.2.2)))) 1 0)) σ'
  | _ => False
theorem m_X6_loadPlanH : ∀ a σ K, T_X6_loadPlanH a σ K → M2 T_X6_loadPlanG a σ K := by
  intro a σ K h
  unfold T_X6_loadPlanH at h
  split at h
  · refine And.intro ⟨by decide, True.intro⟩ ?_
    unfold T_X6_loadPlanG
    obtain ⟨g, f, hg, hp, hf, hk⟩ := h
    exact ⟨g, hg.1, fun z => absurd hp z, fun _ => ⟨hf, fun σ1 h1 σ2 e r => hk σ2 (GX_o hg h1 e r)⟩⟩
  · exact h.elim
