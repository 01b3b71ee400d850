/-! faultOf -/
def RRS (f : Int → Int) (J : Int) (Rs : Int → Int) : Prop := ∀ j, 0 ≤ j → j < J → Rs (11 * j + 2) ≤ 4 ∧ 0 ≤ Rs (11 * j + 2) ∧ RR f (11 * j) (fun x => Rs (11 * j + x)) (Rs (11 * j + 2))
def RFp (σ σ' : Mem) (J : Int) (Rs : Int → Int) : Prop := FrG pRt σ σ' ∧ σ' 7 0 23 = J ∧ 0 ≤ J ∧ J ≤ 3 ∧ 0 ≤ σ' 7 0 20 ∧ σ' 7 0 20 ≤ xL σ ∧ σ' 7 0 21 = 0 ∧ RRS (σ' 55 0) J Rs ∧ rts0 (xT σ) (xL σ) = rtsS (xT σ) (xL σ) (4 - J).toNat J (σ' 7 0 20) Rs
def RFi (σ σ' : Mem) : Prop := FrG pRt σ σ' ∧ 1 ≤ σ' 7 0 23 ∧ σ' 7 0 23 ≤ 4 ∧ 0 ≤ σ' 7 0 20 ∧ σ' 7 0 20 ≤ xL σ ∧ (σ' 7 0 21 = 0 ∨ σ' 7 0 21 = 1) ∧ ((σ' 7 0 21 = 0 ∧ ∃ Rs, RRS (σ' 55 0) (σ' 7 0 23) Rs ∧ rts0 (xT σ) (xL σ) = cif (nx (xT σ) (xL σ) (σ' 7 0 20) = 59 ∧ σ' 7 0 23 < 4) (rtsS (xT σ) (xL σ) (4 - σ' 7 0 23).toNat (σ' 7 0 23) (σ' 7 0 20 + 1) Rs) (0, σ' 7 0 20, σ' 7 0 23, Rs)) ∨ ((σ' 7 0 21 = 1 ∨ (σ' 7 0 21 = 0 ∧ 0 ≤ dg (xT σ) (xL σ) (σ' 7 0 20))) ∧ (rts0 (xT σ) (xL σ)).1 ≠ 0 ∧ σ' 7 0 20 = (rts0 (xT σ) (xL σ)).2.1))
/-- what the reference reads as routes -/
def RFe (σ σ' : Mem) : Prop := FrG pRt σ σ' ∧ (rtsF (xT σ) (xL σ) = -6 → σ' 7 0 23 = (rts0 (xT σ) (xL σ)).2.2.1 ∧ 1 ≤ σ' 7 0 23 ∧ σ' 7 0 23 ≤ 4 ∧ RRS (σ' 55 0) (σ' 7 0 23) (rts0 (xT σ) (xL σ)).2.2.2)
theorem RR_u {f f' : Int → Int} {r : Int} {R R' : Int → Int} {c c' : Int} (h : RR f r R c) (hf : ∀ x, r ≤ x → x < r + 11 → f' x = f x) (hR : ∀ x, 0 ≤ x → x < 11 → R' x = R x) (hc : c' = c) (c4 : c ≤ 4) : RR f' r R' c' := by
  subst hc
  obtain ⟨h1, h2, h3, h4, h5⟩ := h
  refine ⟨by rw [hf _ (by omega) (by omega), hR _ (by omega) (by omega)]; exact h1, by rw [hf _ (by omega) (by omega), hR _ (by omega) (by omega)]; exact h2, by rw [hR _ (by omega) (by omega)]; exact h3, by rw [hf _ (by omega) (by omega)]; exact h4, fun s s0 s1 => ?_⟩
  rw [hf _ (by omega) (by omega), hR _ (by omega) (by omega), hf _ (by omega) (by omega), hR _ (by omega) (by omega)]
  exact h5 s s0 s1
theorem opsS_4 (tx : Int → Int) {n : Int} : ∀ (f : Nat) (c a : Int) (R : Int → Int), R 2 = c → c ≤ 4 → 0 ≤ c → (opsS tx n f c a R).2.2 2 ≤ 4 ∧ 0 ≤ (opsS tx n f c a R).2.2 2 := by
  intro f
  induction f with
  | zero => intro c a R h h4 h0; show R 2 ≤ 4 ∧ 0 ≤ R 2; omega
  | succ f ih =>
    intro c a R h h4 h0
    rw [opsS_1]
    by_cases c1 : nx tx n a = 44 ∧ c < 4
    · rw [cif_1 c1]
      by_cases c2 : (op1 tx n R c (a + 1)).1 ≠ 0
      · rw [cif_1 c2]
        show R 2 ≤ 4 ∧ 0 ≤ R 2; omega
      · rw [cif_0 c2]
        exact ih _ _ _ (by unfold uR; rw [if_pos rfl]) (by omega) (by omega)
    · rw [cif_0 c1]
      show R 2 ≤ 4 ∧ 0 ≤ R 2; omega
theorem jobS_4 (tx : Int → Int) {n a : Int} : (jobS tx n a).2.2 2 ≤ 4 ∧ 0 ≤ (jobS tx n a).2.2 2 := by
  rw [jobS_eq]
  by_cases c1 : nx tx n a ≠ 114
  · rw [cif_1 c1]
    exact ⟨by show (0 : Int) ≤ 4; omega, Int.le_refl _⟩
  rw [cif_0 c1]
  by_cases c1 : (nR tx n a).2.2 ≠ 0
  · rw [cif_1 c1]
    exact ⟨by show (0 : Int) ≤ 4; omega, Int.le_refl _⟩
  rw [cif_0 c1]
  by_cases c1 : nx tx n (nR tx n a).2.1 ≠ 100
  · rw [cif_1 c1]
    exact ⟨by show (0 : Int) ≤ 4; omega, Int.le_refl _⟩
  rw [cif_0 c1]
  by_cases c1 : (nD tx n a).2.2 ≠ 0
  · rw [cif_1 c1]
    exact ⟨by show (0 : Int) ≤ 4; omega, Int.le_refl _⟩
  rw [cif_0 c1]
  exact opsS_4 tx 5 0 _ _ rfl (by omega) (by omega)
/-- a job more -/
theorem RFi_s {σ σ' σ2 : Mem} {J : Int} {Rs : Int → Int} (h : RFp σ σ' J Rs) (h2 : RXe σ' σ2) : RFi σ σ2 := by
  obtain ⟨a1, a2, a3, a4, a5, a6, a7, a8, a9⟩ := h
  obtain ⟨b1, b2, b3, b4, b5, b6, b7⟩ := h2
  have hc := pRt_c a1
  rw [hc.1, hc.2] at b4 b6 b7
  rw [a2] at b2 b3 b7
  have hj := jobS_r (xT σ) (n := xL σ) a6
  have hj4 := jobS_4 (xT σ) (n := xL σ) (a := σ' 7 0 20)
  rw [show (4 - J).toNat = (3 - J).toNat + 1 by omega, rtsS_1] at a9
  have key : (jobS (xT σ) (xL σ) (σ' 7 0 20)).1 = 0 → RRS (σ2 55 0) (J + 1) (uJ Rs J (jobS (xT σ) (xL σ) (σ' 7 0 20)).2.2) := fun z => by
    have uo : ∀ x, x < 11 * J → uJ Rs J (jobS (xT σ) (xL σ) (σ' 7 0 20)).2.2 x = Rs x := fun x q => by
      unfold uJ
      rw [if_neg (by omega)]
    have un : ∀ x, 0 ≤ x → x < 11 → uJ Rs J (jobS (xT σ) (xL σ) (σ' 7 0 20)).2.2 (11 * J + x) = (jobS (xT σ) (xL σ) (σ' 7 0 20)).2.2 x := fun x q0 q1 => by
      unfold uJ
      rw [if_pos (by omega), show 11 * J + x - 11 * J = x by omega]
    intro j j0 j1
    by_cases y : j = J
    · subst y
      rw [un 2 (by omega) (by omega)]
      exact ⟨hj4.1, hj4.2, RR_u (b7 z).2 (fun x _ _ => rfl) (fun x x0 x1 => un x x0 x1) rfl hj4.1⟩
    · have h8 := a8 j j0 (by omega)
      rw [uo _ (by omega)]
      exact ⟨h8.1, h8.2.1, RR_u h8.2.2 (fun x x0 x1 => b3 x (by omega)) (fun x x0 x1 => uo _ (by omega)) rfl h8.1⟩
  refine ⟨a1.t b1, by omega, by omega, by omega, by omega, b5, ?_⟩
  by_cases z : (jobS (xT σ) (xL σ) (σ' 7 0 20)).1 ≠ 0
  · rw [cif_1 z] at a9
    rw [a9]
    exact Or.inr ⟨b6 z, by show (1 : Int) ≠ 0; omega, b4⟩
  · have z' := Classical.not_not.mp z
    rw [cif_0 z, ← b4] at a9
    refine Or.inl ⟨(b7 z').1, _, by rw [b2]; exact key z', ?_⟩
    rw [b2, show (4 - (J + 1)).toNat = (3 - J).toNat by omega]
    exact a9
theorem RFi_go {σ σ' σ2 : Mem} (h : RFi σ σ') (hw : ¬ σ' 7 0 21 ≠ 0) (hn : nx (xT σ) (xL σ) (σ' 7 0 20) = 59) (h4 : ¬ 4 ≤ σ' 7 0 23) (hs : σ2 = up σ' 7 0 20 (σ' 7 0 20 + 1)) : ∃ Rs, RFp σ σ2 (σ' 7 0 23) Rs := by
  obtain ⟨a1, a2, a3, a4, a5, a6, a7⟩ := h
  have hlt := nx_lt hn (by omega)
  rcases a7 with ⟨w, Rs, k1, k2⟩ | ⟨k1, -⟩
  · rw [cif_1 ⟨hn, by omega⟩] at k2
    have e20 : σ2 7 0 20 = σ' 7 0 20 + 1 := by rw [hs]; simp [up_ap]
    have e21 : σ2 7 0 21 = σ' 7 0 21 := by rw [hs]; simp [up_ap]
    have e23 : σ2 7 0 23 = σ' 7 0 23 := by rw [hs]; simp [up_ap]
    have e55 : σ2 55 0 = σ' 55 0 := by rw [hs]; funext x; simp [up_ap]
    refine ⟨Rs, by rw [hs]; exact a1.u (Or.inl ⟨rfl, rfl, by omega, by omega⟩), e23, by omega, by omega, by omega, by omega, by omega, by rw [e55]; exact k1, ?_⟩
    rw [e20, k2]
  · rcases k1 with k1 | ⟨-, k1⟩
    · omega
    · have := dg_nx k1
      omega
theorem RFi_end {σ σ' : Mem} (h : RFi σ σ') (hx : σ' 7 0 21 ≠ 0 ∨ nx (xT σ) (xL σ) (σ' 7 0 20) ≠ 59 ∨ 4 ≤ σ' 7 0 23) : RFe σ σ' ∧ (σ' 7 0 21 ≠ 0 → rtsF (xT σ) (xL σ) = σ' 7 0 20) ∧ (¬ σ' 7 0 21 ≠ 0 → (xL σ ≤ σ' 7 0 20 → rtsF (xT σ) (xL σ) = -6) ∧ (¬ xL σ ≤ σ' 7 0 20 → rtsF (xT σ) (xL σ) = σ' 7 0 20)) := by
  obtain ⟨a1, a2, a3, a4, a5, a6, a7⟩ := h
  rcases a7 with ⟨w, Rs, k1, k2⟩ | ⟨k1, k2, k3⟩
  · rw [cif_0 (by rintro ⟨z1, z2⟩; rcases hx with z | z | z; exact z w; exact z z1; omega)] at k2
    refine ⟨⟨a1, fun _ => by rw [k2]; exact ⟨rfl, a2, a3, k1⟩⟩, fun z => absurd w z, fun _ => ⟨fun z => ?_, fun z => ?_⟩⟩
    · rw [rtsF_0, k2, cif_0]
      rintro (y | y)
      · exact y rfl
      · exact y (show σ' 7 0 20 = xL σ by omega)
    · rw [rtsF_0, k2, cif_1 (Or.inr (show σ' 7 0 20 ≠ xL σ by omega))]
  · have e : rtsF (xT σ) (xL σ) = σ' 7 0 20 := by rw [rtsF_0, cif_1 (Or.inl k2), k3]
    refine ⟨⟨a1, fun z => by omega⟩, fun _ => e, fun z => ⟨fun y => ?_, fun _ => e⟩⟩
    rcases k1 with k1 | ⟨-, k1⟩
    · omega
    · have := dg_lt k1
      omega
/-! orders -/
def OO (f : Int → Int) (J : Int) (ln q : Int → Int) : Prop := (∀ k, 0 ≤ k → k < J → 0 ≤ f (11 * k) ∧ f (11 * k) < 4 ∧ ln (f (11 * k)) = f (11 * k + 1) ∧ 0 ≤ f (11 * k + 1) ∧ f (11 * k + 1) ≤ 4 ∧ ∀ i, 0 ≤ i → i < f (11 * k + 1) → f (11 * k + 2 + i) = q (4 * f (11 * k) + i)) ∧ (∀ m, 0 ≤ m → m < 4 → 0 ≤ ln m → ∃ k, 0 ≤ k ∧ k < J ∧ f (11 * k) = m) ∧ ∀ k k', 0 ≤ k → k < k' → k' < J → f (11 * k) ≠ f (11 * k')
def OFp (σ σ' : Mem) (J : Int) (ln q : Int → Int) : Prop := FrG pRt σ σ' ∧ σ' 7 0 23 = J ∧ 0 ≤ J ∧ J ≤ 3 ∧ 0 ≤ σ' 7 0 20 ∧ σ' 7 0 20 ≤ xL σ ∧ σ' 7 0 21 = 0 ∧ PO σ' ln q ∧ OO (σ' 55 0) J ln q ∧ pln0 (xT σ) (xL σ) = plnS (xT σ) (xL σ) (4 - J).toNat J (σ' 7 0 20) ln q
def OFi (σ σ' : Mem) : Prop := FrG pRt σ σ' ∧ 1 ≤ σ' 7 0 23 ∧ σ' 7 0 23 ≤ 4 ∧ 0 ≤ σ' 7 0 20 ∧ σ' 7 0 20 ≤ xL σ ∧ (σ' 7 0 21 = 0 ∨ σ' 7 0 21 = 1) ∧ ((σ' 7 0 21 = 0 ∧ ∃ ln q, PO σ' ln q ∧ OO (σ' 55 0) (σ' 7 0 23) ln q ∧ pln0 (xT σ) (xL σ) = cif (nx (xT σ) (xL σ) (σ' 7 0 20) = 59 ∧ σ' 7 0 23 < 4) (plnS (xT σ) (xL σ) (4 - σ' 7 0 23).toNat (σ' 7 0 23) (σ' 7 0 20 + 1) ln q) (0, σ' 7 0 20, ln, q)) ∨ (σ' 7 0 21 = 1 ∧ (pln0 (xT σ) (xL σ)).1 ≠ 0 ∧ σ' 7 0 20 = (pln0 (xT σ) (xL σ)).2.1))
/-- what the reference reads as a plan -/
def OFe (σ σ' : Mem) : Prop := FrG pRt σ σ' ∧ (plnF (xT σ) (xL σ) = -6 → 1 ≤ σ' 7 0 23 ∧ σ' 7 0 23 ≤ 4 ∧ PO σ' (pln0 (xT σ) (xL σ)).2.2.1 (pln0 (xT σ) (xL σ)).2.2.2 ∧ OO (σ' 55 0) (σ' 7 0 23) (pln0 (xT σ) (xL σ)).2.2.1 (pln0 (xT σ) (xL σ)).2.2.2)
theorem OFi_s {σ σ' σ2 : Mem} {J : Int} {ln q : Int → Int} (h : OFp σ σ' J ln q) (h2 : OXe σ' σ2 ln q) : OFi σ σ2 := by
  obtain ⟨a1, a2, a3, a4, a5, a6, a7, aP, a8, a9⟩ := h
  obtain ⟨b1, b2, b3, b4, b5, b6, b7⟩ := h2
  have hc := pRt_c a1
  rw [hc.1, hc.2] at b4 b6 b7
  rw [a2] at b2 b3 b7
  have hj := ordS_r (xT σ) (n := xL σ) (ln := ln) (q := q) a6
  rw [show (4 - J).toNat = (3 - J).toNat + 1 by omega, plnS_1] at a9
  refine ⟨a1.t b1, by omega, by omega, by omega, by omega, b5, ?_⟩
  by_cases z : (ordS (xT σ) (xL σ) ln q (σ' 7 0 20)).1 ≠ 0
  · rw [cif_1 z] at a9
    rw [a9]
    exact Or.inr ⟨b6 z, by show (1 : Int) ≠ 0; omega, b4⟩
  · have z' := Classical.not_not.mp z
    obtain ⟨c1, c2, d, c, d0, d1, hl, c0, c4, c5, c6, c7, c8, c9⟩ := b7 z'
    rw [cif_0 z, ← b4] at a9
    refine Or.inl ⟨c1, _, _, c2, ?_, by rw [b2, show (4 - (J + 1)).toNat = (3 - J).toNat by omega]; exact a9⟩
    rw [c5, b2]
    obtain ⟨o1, o2, o3⟩ := a8
    have fo : ∀ k, 0 ≤ k → k < J → ∀ x, 11 * k ≤ x → x < 11 * k + 11 → σ2 55 0 x = σ' 55 0 x := fun k k0 k1 x x0 x1 => b3 x (by omega)
    have nd : ∀ k, 0 ≤ k → k < J → σ' 55 0 (11 * k) ≠ d := fun k k0 k1 e => by
      have := o1 k k0 k1
      rw [e] at this
      omega
    refine ⟨fun k k0 k1 => ?_, fun m m0 m1 hm => ?_, fun k k' k0 k1 k2 => ?_⟩
    · by_cases y : k = J
      · subst y
        rw [c7, c8]
        exact ⟨d0, d1, if_pos rfl, c0, c4, c9⟩
      · have o := o1 k k0 (by omega)
        rw [fo k k0 (by omega) _ (by omega) (by omega), fo k k0 (by omega) (11 * k + 1) (by omega) (by omega)]
        refine ⟨o.1, o.2.1, by show uq ln d c _ = _; unfold uq; rw [if_neg (nd k k0 (by omega))]; exact o.2.2.1, o.2.2.2.1, o.2.2.2.2.1, fun i i0 i1 => ?_⟩
        have hne := nd k k0 (by omega)
        have := o.1
        have := o.2.1
        have := o.2.2.2.2.1
        rw [fo k k0 (by omega) _ (by omega) (by omega), c6 _ (by omega)]
        exact o.2.2.2.2.2 i i0 i1
    · have hm' : 0 ≤ uq ln d c m := hm
      unfold uq at hm'
      by_cases y : m = d
      · exact ⟨J, a3, by omega, by rw [c7, y]⟩
      · rw [if_neg y] at hm'
        obtain ⟨k, k0, k1, k2⟩ := o2 m m0 m1 hm'
        exact ⟨k, k0, by omega, by rw [fo k k0 k1 _ (by omega) (by omega)]; exact k2⟩
    · rw [fo k k0 (by omega) _ (by omega) (by omega)]
      by_cases y : k' = J
      · subst y
        rw [c7]
        exact nd k k0 k1
      · rw [fo k' (by omega) (by omega) _ (by omega) (by omega)]
        exact o3 k k' k0 k1 (by omega)
theorem PO_u {σ σ' : Mem} {ln q : Int → Int} (h : PO σ ln q) (e : σ' 7 0 24 = σ 7 0 24) : PO σ' ln q := by
  unfold PO at h ⊢
  rw [e]
  exact h
theorem OFi_go {σ σ' σ2 : Mem} (h : OFi σ σ') (hw : ¬ σ' 7 0 21 ≠ 0) (hn : nx (xT σ) (xL σ) (σ' 7 0 20) = 59) (h4 : ¬ 4 ≤ σ' 7 0 23) (hs : σ2 = up σ' 7 0 20 (σ' 7 0 20 + 1)) : ∃ ln q, OFp σ σ2 (σ' 7 0 23) ln q := by
  obtain ⟨a1, a2, a3, a4, a5, a6, a7⟩ := h
  have hlt := nx_lt hn (by omega)
  rcases a7 with ⟨w, ln, q, k0, k1, k2⟩ | ⟨k1, -⟩
  · rw [cif_1 ⟨hn, by omega⟩] at k2
    have e20 : σ2 7 0 20 = σ' 7 0 20 + 1 := by rw [hs]; simp [up_ap]
    have e21 : σ2 7 0 21 = σ' 7 0 21 := by rw [hs]; simp [up_ap]
    have e23 : σ2 7 0 23 = σ' 7 0 23 := by rw [hs]; simp [up_ap]
    have e24 : σ2 7 0 24 = σ' 7 0 24 := by rw [hs]; simp [up_ap]
    have e55 : σ2 55 0 = σ' 55 0 := by rw [hs]; funext x; simp [up_ap]
    refine ⟨ln, q, by rw [hs]; exact a1.u (Or.inl ⟨rfl, rfl, by omega, by omega⟩), e23, by omega, by omega, by omega, by omega, by omega, PO_u k0 e24, by rw [e55]; exact k1, ?_⟩
    rw [e20, k2]
  · omega
theorem OFi_end {σ σ' : Mem} (h : OFi σ σ') (hx : σ' 7 0 21 ≠ 0 ∨ nx (xT σ) (xL σ) (σ' 7 0 20) ≠ 59 ∨ 4 ≤ σ' 7 0 23) : OFe σ σ' ∧ (σ' 7 0 21 ≠ 0 → plnF (xT σ) (xL σ) = σ' 7 0 20) ∧ (¬ σ' 7 0 21 ≠ 0 → (xL σ ≤ σ' 7 0 20 → plnF (xT σ) (xL σ) = -6) ∧ (¬ xL σ ≤ σ' 7 0 20 → plnF (xT σ) (xL σ) = σ' 7 0 20)) := by
  obtain ⟨a1, a2, a3, a4, a5, a6, a7⟩ := h
  rcases a7 with ⟨w, ln, q, k0, k1, k2⟩ | ⟨k1, k2, k3⟩
  · rw [cif_0 (by rintro ⟨z1, z2⟩; rcases hx with z | z | z; exact z w; exact z z1; omega)] at k2
    refine ⟨⟨a1, fun _ => by rw [k2]; exact ⟨a2, a3, k0, k1⟩⟩, fun z => absurd w z, fun _ => ⟨fun z => ?_, fun z => ?_⟩⟩
    · rw [plnF_0, k2, cif_0]
      rintro (y | y)
      · exact y rfl
      · exact y (show σ' 7 0 20 = xL σ by omega)
    · rw [plnF_0, k2, cif_1 (Or.inr (show σ' 7 0 20 ≠ xL σ by omega))]
  · have e : plnF (xT σ) (xL σ) = σ' 7 0 20 := by rw [plnF_0, cif_1 (Or.inl k2), k3]
    exact ⟨⟨a1, fun z => by omega⟩, fun _ => e, fun z => by omega⟩
/-- both -/
def FFi (σ σ' : Mem) (k : Int) : Prop := (k = 0 ∧ RFi σ σ') ∨ (k = 1 ∧ OFi σ σ')
def FFe (σ σ' : Mem) (k : Int) : Prop := (k = 0 ∧ RFe σ σ') ∨ (k = 1 ∧ OFe σ σ')
noncomputable def fltF (tx : Int → Int) (n k : Int) : Int := if k = 0 then rtsF tx n else plnF tx n
theorem FFi_b {σ σ' : Mem} {k : Int} (h : FFi σ σ' k) : FrG pRt σ σ' ∧ 1 ≤ σ' 7 0 23 ∧ σ' 7 0 23 ≤ 4 ∧ 0 ≤ σ' 7 0 20 ∧ σ' 7 0 20 ≤ xL σ ∧ (σ' 7 0 21 = 0 ∨ σ' 7 0 21 = 1) := by
  rcases h with ⟨-, h⟩ | ⟨-, h⟩
  · exact ⟨h.1, h.2.1, h.2.2.1, h.2.2.2.1, h.2.2.2.2.1, h.2.2.2.2.2.1⟩
  · exact ⟨h.1, h.2.1, h.2.2.1, h.2.2.2.1, h.2.2.2.2.1, h.2.2.2.2.2.1⟩
theorem FFi_end {σ σ' : Mem} {k : Int} (h : FFi σ σ' k) (hx : σ' 7 0 21 ≠ 0 ∨ nx (xT σ) (xL σ) (σ' 7 0 20) ≠ 59 ∨ 4 ≤ σ' 7 0 23) : FFe σ σ' k ∧ (σ' 7 0 21 ≠ 0 → fltF (xT σ) (xL σ) k = σ' 7 0 20) ∧ (¬ σ' 7 0 21 ≠ 0 → (xL σ ≤ σ' 7 0 20 → fltF (xT σ) (xL σ) k = -6) ∧ (¬ xL σ ≤ σ' 7 0 20 → fltF (xT σ) (xL σ) k = σ' 7 0 20)) := by
  rcases h with ⟨z, h⟩ | ⟨z, h⟩
  · obtain ⟨a, b⟩ := RFi_end h hx
    unfold fltF
    rw [if_pos z]
    exact ⟨Or.inl ⟨z, a⟩, b⟩
  · obtain ⟨a, b⟩ := OFi_end h hx
    unfold fltF
    rw [if_neg (by omega)]
    exact ⟨Or.inr ⟨z, a⟩, b⟩
theorem RFp_0 {σ σ' : Mem} (hF : FrG pRt σ σ') (hL : 0 ≤ xL σ) (h1 : σ' 7 0 20 = 0) (h2 : σ' 7 0 21 = 0) (h3 : σ' 7 0 23 = 0) : RFp σ σ' 0 (fun _ => 0) := ⟨hF, h3, by omega, by omega, by omega, by omega, h2, fun j a b => by omega, by rw [h1]; rfl⟩
theorem OFp_0 {σ σ' : Mem} (hF : FrG pRt σ σ') (hL : 0 ≤ xL σ) (h1 : σ' 7 0 20 = 0) (h2 : σ' 7 0 21 = 0) (h3 : σ' 7 0 23 = 0) (h4 : σ' 7 0 24 = 0) : OFp σ σ' 0 (fun _ => -1) (fun _ => 0) := ⟨hF, h3, by omega, by omega, by omega, by omega, h2, ⟨by omega, by omega, fun m m0 m1 => ⟨⟨fun z => absurd (h4 ▸ z) (bit_0 m0 m1), fun z => absurd z (show ¬ (0 : Int) ≤ -1 by omega)⟩, fun z => absurd z (show ¬ (0 : Int) ≤ -1 by omega)⟩⟩, ⟨fun k a b => by omega, fun m m0 m1 z => absurd z (show ¬ (0 : Int) ≤ -1 by omega), fun k k' a b c => by omega⟩, by rw [h1]; rfl⟩
/-- what a part of the text asks before it is read, and what holds behind it -/
def FFp (σ σ' : Mem) (k : Int) : Prop := (k = 0 ∧ ∃ J Rs, RFp σ σ' J Rs) ∨ (k = 1 ∧ ∃ J ln q, OFp σ σ' J ln q)
theorem FFi_go {σ σ' σ2 : Mem} {k : Int} (h : FFi σ σ' k) (hw : ¬ σ' 7 0 21 ≠ 0) (hn : nx (xT σ) (xL σ) (σ' 7 0 20) = 59) (h4 : ¬ 4 ≤ σ' 7 0 23) (hs : σ2 = up σ' 7 0 20 (σ' 7 0 20 + 1)) : FFp σ σ2 k := by
  rcases h with ⟨z, h⟩ | ⟨z, h⟩
  · obtain ⟨Rs, a⟩ := RFi_go h hw hn h4 hs
    exact Or.inl ⟨z, _, Rs, a⟩
  · obtain ⟨ln, q, a⟩ := OFi_go h hw hn h4 hs
    exact Or.inr ⟨z, _, ln, q, a⟩
theorem FFp_0 {σ σ' : Mem} {k : Int} (hk : k = 0 ∨ k = 1) (hF : FrG pRt σ σ') (hL : 0 ≤ xL σ) (h1 : σ' 7 0 20 = 0) (h2 : σ' 7 0 21 = 0) (h3 : σ' 7 0 23 = 0) (h4 : σ' 7 0 24 = 0) : FFp σ σ' k := by
  rcases hk with z | z
  · exact Or.inl ⟨z, _, _, RFp_0 hF hL h1 h2 h3⟩
  · exact Or.inr ⟨z, _, _, _, OFp_0 hF hL h1 h2 h3 h4⟩
