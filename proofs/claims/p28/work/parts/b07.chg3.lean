/-! what changes, over a view: 3 -/
theorem swV_o (v : Vw) (m x : Int) {t : Nat} (ht : t ≠ 14) : swV v m x t = v t := by
  funext y
  unfold swV
  rw [if_neg ht]
theorem swV_14 (v : Vw) (m x : Int) : swV v m x 14 = exQ (v 14) (4 * m + x) := by
  funext y
  unfold swV
  rw [if_pos rfl]
theorem orV_o (v : Vw) (f : Int → Int) {t : Nat} (ht : t ≠ 14) : orV v f t = v t := by
  funext y
  unfold orV
  rw [if_neg ht]
theorem orV_14 (v : Vw) (f : Int → Int) : orV v f 14 = f := by
  funext y
  unfold orV
  rw [if_pos rfl]
theorem orV_wf {w : Vw} (h : wWF w) {f : Int → Int} (hf : WF (w 5 0) (w 10) (w 11) (w 12) (w 13) f) : wWF (orV w f) := by
  unfold wWF
  rw [orV_14, orV_o w f (t := 5) (by omega), orV_o w f (t := 8) (by omega), orV_o w f (t := 9) (by omega), orV_o w f (t := 10) (by omega), orV_o w f (t := 11) (by omega), orV_o w f (t := 12) (by omega), orV_o w f (t := 13) (by omega)]
  exact ⟨hf, h.2⟩
/-- orders that are the same where it counts -/
theorem orV_cn {w : Vw} {f g : Int → Int} (e : ∀ x, 0 ≤ x → x < 16 → x % 4 < w 13 (x / 4) → f x = g x) : cnV (orV w f) = cnV (orV (cnV w) g) := by
  refine cn_eq ?_ (fun y p q => ?_) (fun y p q => ?_) (fun x v => ?_) (fun y p q => ?_) (fun x p q s => ?_)
  · rw [orV_o w f (by omega), orV_o (cnV w) g (by omega), cn5]
  · rw [orV_o w f (by omega)] at q
    rw [orV_o w f (by omega), orV_o w f (by omega), orV_o (cnV w) g (by omega), orV_o (cnV w) g (by omega), cn8 p q, cn9 p q]
    exact ⟨rfl, rfl⟩
  · rw [orV_o w f (by omega), orV_o (cnV w) g (by omega), cn10 p q]
  · rw [orV_o w f (by omega)] at v
    rw [orV_o w f (by omega), orV_o w f (by omega), orV_o (cnV w) g (by omega), orV_o (cnV w) g (by omega), cn11 v, cn12 v]
    exact ⟨rfl, rfl⟩
  · rw [orV_o w f (by omega), orV_o (cnV w) g (by omega), cn13 p q]
  · rw [orV_o w f (by omega)] at s
    rw [orV_14, orV_14]
    exact e x p q s
theorem swV_or (w : Vw) (m x : Int) : swV w m x = orV w (exQ (w 14) (4 * m + x)) := rfl
theorem swV_wf {w : Vw} (h : wWF w) {m x : Int} (m0 : 0 ≤ m) (m1 : m < 4) (x0 : 0 ≤ x) (x1 : x + 1 < w 13 m) : wWF (swV w m x) := by
  rw [swV_or]
  exact orV_wf h (WF_ex h.1 m0 m1 x0 x1)
theorem swV_cn {w : Vw} (h : wWF w) {m x : Int} (m0 : 0 ≤ m) (m1 : m < 4) (x0 : 0 ≤ x) (x1 : x + 1 < w 13 m) : cnV (swV w m x) = cnV (swV (cnV w) m x) := by
  rw [swV_or, swV_or]
  have l4 := (ln_w h m0 m1).2
  refine orV_cn (fun y a b c => ?_)
  unfold exQ
  by_cases y1 : y = 4 * m + x + 1
  · rw [if_pos y1, if_pos y1, cn14 (by omega) (by omega) (by rw [show (4 * m + x) % 4 = x by omega, show (4 * m + x) / 4 = m by omega]; omega)]
  · rw [if_neg y1, if_neg y1]
    by_cases y2 : y = 4 * m + x
    · rw [if_pos y2, if_pos y2, cn14 (by omega) (by omega) (by rw [show (4 * m + x + 1) % 4 = x + 1 by omega, show (4 * m + x + 1) / 4 = m by omega]; omega)]
    · rw [if_neg y2, if_neg y2, cn14 a b c]
/-- orders changed, behind a record -/
theorem GS_or {g : Gh} {σ σ1 σ4 : Mem} {f : Int → Int} {tx : (Int → Int) × Int} (h : GS g σ) (hR : RecE σ σ1) (hf : WF (σ 5 0 0) (σ 10 0) (σ 11 0) (σ 12 0) (σ 13 0) f) (h14 : ∀ y, σ4 14 0 y = f y) (hx : ∀ t k y, hrg t k y → ¬ (t = 14 ∧ k = 0) → t ≠ 2 → σ4 t k y = σ1 t k y) {f' : Int → Int} (e : ∀ x, 0 ≤ x → x < 16 → x % 4 < σ 13 0 (x / 4) → f x = f' x) (hC : RCb σ4) (hp : GSp tx σ4) : GS (cnV (orV g.1 f'), (g.1 :: g.2.1).take 6, g.2.2.1, tx) σ4 := by
  have w := sWF_w.mp h.1.1
  have c : ∀ (t : Nat) (y : Int), t = 5 ∨ (8 ≤ t ∧ t ≤ 14) → σ4 t 0 y = orV (vwS σ 0) f t y := fun t y q => by
    unfold orV vwS
    by_cases z : t = 14
    · rw [if_pos z, z]
      exact h14 y
    · rw [if_neg z, hx t 0 y (by unfold hrg; omega) (by omega) (by omega), Rec_x hR t y (by omega)]
  refine GS_ch h hR (fun t k j q r u => hx t k j q (by omega) u) (sWF_of c (orV_wf w hf)) ?_ hC hp
  rw [cv_of c, orV_cn (w := vwS σ 0) (g := f') e]
  show cnV (orV (cv σ 0) f') = _
  rw [h.1.2]
theorem exQ_cg {q q' : Int → Int} {ln : Int → Int} (hl : ∀ m, 0 ≤ m → m < 4 → ln m ≤ 4) (e : ∀ x, 0 ≤ x → x < 16 → x % 4 < ln (x / 4) → q x = q' x) {m k : Int} (m0 : 0 ≤ m) (m1 : m < 4) (k0 : 0 ≤ k) (k1 : k + 1 < ln m) : ∀ x, 0 ≤ x → x < 16 → x % 4 < ln (x / 4) → exQ q (4 * m + k) x = exQ q' (4 * m + k) x := by
  intro y a b c
  have l4 := hl m m0 m1
  unfold exQ
  by_cases y1 : y = 4 * m + k + 1
  · rw [if_pos y1, if_pos y1, e _ (by omega) (by omega) (by rw [show (4 * m + k) % 4 = k by omega, show (4 * m + k) / 4 = m by omega]; omega)]
  · rw [if_neg y1, if_neg y1]
    by_cases y2 : y = 4 * m + k
    · rw [if_pos y2, if_pos y2, e _ (by omega) (by omega) (by rw [show (4 * m + k + 1) % 4 = k + 1 by omega, show (4 * m + k + 1) / 4 = m by omega]; omega)]
    · rw [if_neg y2, if_neg y2, e y a b c]
/-- the raw orders and those of the view -/
theorem q_vw {g : Gh} {σ : Mem} (h : GS g σ) : (∀ x, 0 ≤ x → x < 16 → x % 4 < σ 13 0 (x / 4) → σ 14 0 x = g.1 14 x) ∧ (∀ m, 0 ≤ m → m < 4 → σ 13 0 m = g.1 13 m) ∧ ∀ m, 0 ≤ m → m < 4 → σ 13 0 m ≤ 4 := by
  rw [← h.1.2]
  exact ⟨fun x a b c => (cn14 (w := vwS σ 0) a b c).symm, fun m a b => (cn13 (w := vwS σ 0) a b).symm, fun m a b => (h.1.1.1.2.2.2.2.1 m a b).2⟩
def T_X6_swapG : Tr := fun a σ K => match a with
  | [.inr (.inl (6, 0)), .inl m, .inl x] => ∃ g, GS g σ ∧ (¬ (0 ≤ m ∧ m ≤ 3) → ∀ σ', GS g σ' → K (some (-2)) σ') ∧ ((0 ≤ m ∧ m ≤ 3) → (¬ (0 ≤ x ∧ x < g.1 13 m - 1) → ∀ σ', GS g σ' → K (some (-1)) σ') ∧ (0 ≤ x ∧ x < g.1 13 m - 1 → ∀ σ', GS (bumpG g (cnV (swV g.1 m x))) σ' → K (some (cif (pos (cnV (swV g.1 m x))) 1 0)) σ'))
  | _ => False
theorem m_X6_swapG : ∀ a σ K, T_X6_swapG a σ K → T_X6_swap a σ K := by
  intro a σ K h
  unfold T_X6_swapG at h
  split at h
  · rename_i m x
    obtain ⟨g, hg, k1, k2⟩ := h
    have Q := q_vw hg
    unfold T_X6_swap
    refine ⟨⟨hg.1.1, hg.2.1.1⟩, fun a => k1 a σ hg, fun a b => (k2 a).1 (by rw [← Q.2.1 m a.1 (by omega)]; exact b) σ hg, fun a ⟨b, c⟩ σ1 σ2 hR h2 hw => ?_⟩
    have x1 : x < g.1 13 m - 1 := by rw [← Q.2.1 m a.1 (by omega)]; exact c
    have k := (k2 a).2 ⟨b, x1⟩
    have h14 : ∀ y, σ2 14 0 y = exQ (σ 14 0) (4 * m + x) y := fun y => by
      rw [h2, up_ap, up_ap, Rec_x hR 14 y (by omega), Rec_x hR 14 (4 * m + x) (by omega), Rec_x hR 14 (4 * m + x + 1) (by omega)]
      unfold exQ
      simp only [true_and]
    have xx : ∀ t k y, ¬ (t = 14 ∧ k = 0) → σ2 t k y = σ1 t k y := fun t k y q => by rw [h2, up_ap, if_neg (by omega), up_ap, if_neg (by omega)]
    have r0 := Rec_0 hR
    have G := GS_or hg hR (f := exQ (σ 14 0) (4 * m + x)) (f' := exQ (g.1 14) (4 * m + x)) (tx := g.2.2.2) (WF_ex hg.1.1.1 a.1 (by omega) b (by omega)) h14 (fun t k y _ q _ => xx t k y q) (exQ_cg Q.2.2 Q.1 a.1 (by omega) b (by omega)) (RCb_0 (by rw [xx 6 0 8 (by omega)]; exact r0.1) (by rw [xx 4 0 1 (by omega)]; exact r0.2.1) (by rw [xx 4 1 1 (by omega)]; exact r0.2.2)) (GSp_e hg.2.2.2.1 (fun t y q => by rw [xx t 0 y (by omega), Rec_x hR t y (by omega)]))
    have G : GS (bumpG g (cnV (swV g.1 m x))) σ2 := G
    refine ⟨fun σ3 hF hK hP => ?_, fun σ3 hF hK hn => ?_⟩
    · have G3 := GS_kn G hF hK
      have p := (PK_v G3.1.1 hP G3.1.2).1
      have := k σ3 G3
      rw [cif_1 (show pos (cnV (swV g.1 m x)) from p)] at this
      exact this
    · have := k σ3 (GS_kn G hF hK)
      rw [cif_0 (show ¬ pos (cnV (swV g.1 m x)) from PK_np G.1.1 hn G.1.2)] at this
      exact this
  · exact h.elim
theorem k_X6_swapG (l : Launch) : Ct l yX6_swap cX6_swap 3 (some .int) 6 T_X6_swapG := Ct_mono (k_X6_swap l) m_X6_swapG
def T_X6_takeBestG : Tr := fun a σ K => match a with
  | [.inr (.inl (6, 0))] => ∃ g, GS g σ ∧ (BstF g.1 → ∀ σ', GS (bumpG g (cnV (orV g.1 (bfA g.1)))) σ' → K (some (leA g.1)) σ')
  | _ => False
theorem m_X6_takeBestG : ∀ a σ K, T_X6_takeBestG a σ K → T_X6_takeBest a σ K := by
  intro a σ K h
  unfold T_X6_takeBestG at h
  split at h
  · obtain ⟨g, hg, k⟩ := h
    unfold T_X6_takeBest
    refine ⟨⟨hg.1.1, hg.2.2.2.2.2.1, hg.2.1.1⟩, fun σ1 σ2 σ3 le f hF hB hn hR h3 h4 => ?_⟩
    have B := bst_s hg.1.1 hB hn hg.1.2
    have hF' : FrG pBe σ (up σ1 4 0 1 0) := hF.u (Or.inr (by unfold pF; omega))
    have G1 : GS g (up σ1 4 0 1 0) := GS_Be hg hF' (Or.inl (by rw [up_ap, if_pos ⟨rfl, rfl, rfl⟩]))
    have hR1 : RecE (up σ1 4 0 1 0) σ2 := fun t k j => by
      rw [hR t k j]
      have u : ∀ t k j, ¬ (t = 4 ∧ k = 0 ∧ j = 1) → up σ1 4 0 1 0 t k j = σ1 t k j := fun t k j q => by rw [up_ap, if_neg q]
      rw [u 0 0 2 (by omega), u 0 0 1 (by omega)]
      by_cases z1 : t = 0 ∧ k = 0 ∧ j = 2
      · rw [if_pos z1, if_pos z1]
      · rw [if_neg z1, if_neg z1]
        by_cases z2 : t = 0 ∧ k = 0 ∧ j = 1
        · rw [if_pos z2, if_pos z2]
        · rw [if_neg z2, if_neg z2]
          by_cases z3 : (t = 6 ∧ k = 0 ∧ j = 8) ∨ (t = 4 ∧ (k = 0 ∨ k = 1) ∧ j = 1)
          · rw [if_pos z3, if_pos z3]
          · rw [if_neg z3, if_neg z3]
            by_cases z4 : k = 2 + ((σ1 0 0 2 + 1) % 6).toNat ∧ ((t = 5 ∧ j = 0) ∨ (8 ≤ t ∧ t ≤ 14 ∧ 0 ≤ j ∧ j < (if t = 11 ∨ t = 12 ∨ t = 14 then 16 else 4)))
            · rw [if_pos z4, if_pos z4, u t 0 j (by omega)]
            · rw [if_neg z4, if_neg z4, u t k j (by omega)]
    have E : ∀ t y, t ≤ 14 → t ≠ 1 → t ≠ 4 → up σ1 4 0 1 0 t 0 y = σ t 0 y := fun t y q r u => pBe_0 hF' t 0 y (by omega)
    have F : ∀ t, t ≤ 14 → t ≠ 1 → t ≠ 4 → up σ1 4 0 1 0 t 0 = σ t 0 := fun t q r u => funext fun y => E t y q r u
    have Q := q_vw G1
    have w1 : WF (σ 5 0 0) (σ 10 0) (σ 11 0) (σ 12 0) (σ 13 0) f := by
      have b := hB
      unfold sBst bstS at b
      have a := (b.2.resolve_left hn).2.2.1
      exact WF_arr hg.1.1.1 (fun m m0 m1 => (a m m0 m1).1)
    have w4 : WF (σ 5 0 0) (σ 10 0) (σ 11 0) (σ 12 0) (σ 13 0) (σ3 14 0) := by
      refine AG.wf (re := fun _ => 0) (re' := fun _ => 0) ⟨rfl, fun _ _ _ => rfl, fun _ _ => ⟨rfl, rfl, rfl⟩, fun _ _ _ => rfl, fun m k a b c d => ?_⟩ w1
      have := (hg.1.1.1.2.2.2.2.1 m a b).2
      exact (h4 _ (by omega) (by omega)).symm
    rw [← F 5 (by omega) (by omega) (by omega), ← F 10 (by omega) (by omega) (by omega), ← F 11 (by omega) (by omega) (by omega), ← F 12 (by omega) (by omega) (by omega), ← F 13 (by omega) (by omega) (by omega)] at w4
    have r0 := Rec_0 hR
    rw [← B.2.1]
    refine k B.1 σ3 (GS_or G1 hR1 (f := σ3 14 0) (f' := bfA g.1) (tx := g.2.2.2) w4 (fun _ => rfl) (fun t k y _ q _ => h3 t k y (by omega)) (fun x a b c => ?_) (RCb_0 (by rw [h3 6 0 8 (by omega)]; exact r0.1) (by rw [h3 4 0 1 (by omega)]; exact r0.2.1) (by rw [h3 4 1 1 (by omega)]; exact r0.2.2)) (GSp_e G1.2.2.2.1 (fun t y q => by rw [h3 t 0 y (by omega), Rec_x hR1 t y (by omega)])))
    rw [Q.2.1 _ (by omega) (by omega)] at c
    have e := B.2.2 (x / 4) (x % 4) (by omega) (by omega) (by omega) c
    rw [show 4 * (x / 4) + x % 4 = x by omega] at e
    rw [h4 x a b, e]
  · exact h.elim
theorem k_X6_takeBestG (l : Launch) : Ct l yX6_takeBest cX6_takeBest 1 (some .int) 37 T_X6_takeBestG := Ct_mono (k_X6_takeBest l) m_X6_takeBestG
