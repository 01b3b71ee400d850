/-! the reference reads an order -/
def badO (p : Int × Int × (Int → Int) × (Int → Int)) (s : Int) : Prop := p.1 ≠ 0 ∧ s = p.2.1
theorem badO_i {p : Int × Int × (Int → Int) × (Int → Int)} {s x : Int} {R : (Int → Int) × (Int → Int)} (e : p = (1, x, R)) (h : s = x) : badO p s := by
  rw [e]
  exact ⟨by show (1 : Int) ≠ 0; omega, h⟩
/-- the machines named -/
def PO (σ : Mem) (ln q : Int → Int) : Prop := 0 ≤ σ 7 0 24 ∧ σ 7 0 24 < 16 ∧ ∀ m, 0 ≤ m → m < 4 → (hasB (σ 7 0 24) m ↔ 0 ≤ ln m) ∧ (0 ≤ ln m → oOK q (4 * m) (ln m))
def okQm (tx : Int → Int) (n : Int) (ln : Int → Int) (a : Int) : Prop := 0 ≤ dg tx n a ∧ dg tx n a < 4 ∧ ln (dg tx n a) < 0
theorem okQm_n {tx : Int → Int} {n : Int} {ln : Int → Int} {a : Int} : okQm tx n ln a ↔ ¬ (dg tx n a < 0 ∨ 4 ≤ dg tx n a ∨ 0 ≤ ln (dg tx n a)) := by
  unfold okQm
  omega
def P1 (tx : Int → Int) (n : Int) (ln q : Int → Int) (a w s v : Int) : Prop := (w = 0 ∧ okQm tx n ln a ∧ s = a + 1 ∧ v = dg tx n a) ∨ (w = 1 ∧ badO (ordS tx n ln q a) s ∧ v = 0)
def P2 (tx : Int → Int) (n : Int) (ln q : Int → Int) (a w s v : Int) : Prop := (w = 0 ∧ okQm tx n ln a ∧ nx tx n (a + 1) = 58 ∧ s = a + 2 ∧ v = dg tx n a) ∨ (w = 1 ∧ badO (ordS tx n ln q a) s)
theorem P1_i {tx : Int → Int} {n : Int} {ln q : Int → Int} {a t w s v : Int} (ht : ∀ m, 0 ≤ m → m < 4 → (hasB t m ↔ 0 ≤ ln m)) (h : td tx n 0 a t w s v) : P1 tx n ln q a w s v := by
  rcases h with ⟨-, h1, h2, h3, h4, h5, h6⟩ | ⟨h1, h2, h3, h4⟩
  · refine Or.inl ⟨h5, ⟨h1, h2, ?_⟩, h4, h6⟩
    rcases Int.lt_or_le (ln (dg tx n a)) 0 with z | z
    · exact z
    · exact absurd ((ht _ h1 h2).mpr z) h3
  · have hb : dg tx n a < 0 ∨ 4 ≤ dg tx n a ∨ 0 ≤ ln (dg tx n a) := Classical.byContradiction (fun z => by
      obtain ⟨a1, a2, a3⟩ := okQm_n.mpr z
      exact h1 ⟨rfl, a1, a2, fun y => by have := (ht _ a1 a2).mp y; omega⟩)
    exact Or.inr ⟨h3, badO_i (by unfold ordS; rw [cif_1 hb]) h2, h4⟩
theorem P1_b {tx : Int → Int} {n : Int} {ln q : Int → Int} {a w s v : Int} (h : P1 tx n ln q a w s v) (h0 : 0 ≤ a) (h1 : a ≤ n) : 0 ≤ s ∧ s ≤ n ∧ (w = 0 ∨ w = 1) ∧ 0 ≤ v ∧ v < 4 := by
  have hj := ordS_r tx (ln := ln) (q := q) h1
  rcases h with ⟨w, q, e, ed⟩ | ⟨w, q, ed⟩
  · have := dg_lt q.1
    have := q.1
    have := q.2.1
    omega
  · have := q.2
    omega
theorem P2_i {tx : Int → Int} {n : Int} {ln q : Int → Int} {a w s v w' s' : Int} (h : P1 tx n ln q a w s v) (t : ne tx n w s 58 w' s') : P2 tx n ln q a w' s' v := by
  rcases h with ⟨w, q, e, ed⟩ | ⟨w, q, -⟩
  · subst e
    rcases t with ⟨-, t1, t2, t3⟩ | ⟨t1, t2, t3⟩
    · exact Or.inl ⟨t3, q, t1, by omega, ed⟩
    · exact Or.inr ⟨t3, badO_i (by unfold ordS; rw [cif_0 (okQm_n.mp q), cif_1 (fun y => t1 ⟨w, y⟩)]) t2⟩
  · rcases t with ⟨t1, -⟩ | ⟨-, t2, t3⟩
    · omega
    · exact Or.inr ⟨t3, by rw [t2]; exact q⟩
theorem P2_b {tx : Int → Int} {n : Int} {ln q : Int → Int} {a w s v : Int} (h : P2 tx n ln q a w s v) (h0 : 0 ≤ a) (h1 : a ≤ n) : 0 ≤ s ∧ s ≤ n ∧ (w = 0 ∨ w = 1) := by
  have hj := ordS_r tx (ln := ln) (q := q) h1
  rcases h with ⟨w, q, q2, e, ed⟩ | ⟨w, q⟩
  · have := nx_lt q2 (by omega)
    omega
  · have := q.2
    omega
/-- takeOrder's loop; t: the jobs that the order has -/
def OXi (σ σ' : Mem) (t : Int) (ln q : Int → Int) : Prop := FrG pRt σ σ' ∧ σ' 7 0 23 = σ 7 0 23 ∧ (∀ x, x < 11 * σ 7 0 23 → σ' 55 0 x = σ 55 0 x) ∧ 0 ≤ σ' 7 0 20 ∧ σ' 7 0 20 ≤ xL σ ∧ (σ' 7 0 21 = 0 ∨ σ' 7 0 21 = 1) ∧ ((σ' 7 0 21 = 0 ∧ ∃ d c q', 0 ≤ d ∧ d < 4 ∧ ln d < 0 ∧ 0 ≤ t ∧ t < 16 ∧ (∀ x, 0 ≤ x → x < 4 → (hasB t x ↔ inq q' (4 * d) c x)) ∧ oOK q' (4 * d) c ∧ σ' 55 0 (11 * σ 7 0 23) = d ∧ σ' 55 0 (11 * σ 7 0 23 + 1) = c ∧ (∀ i, 0 ≤ i → i < c → σ' 55 0 (11 * σ 7 0 23 + 2 + i) = q' (4 * d + i)) ∧ (∀ x, ¬ (4 * d ≤ x ∧ x < 4 * d + 4) → q' x = q x) ∧ σ' 7 0 24 = bor (σ 7 0 24) (bshl 1 d) ∧ ordS (xT σ) (xL σ) ln q (σ 7 0 20) = (0, (jbS (xT σ) (xL σ) d (4 - c).toNat c (σ' 7 0 20) q').1, uq ln d (jbS (xT σ) (xL σ) d (4 - c).toNat c (σ' 7 0 20) q').2.1, (jbS (xT σ) (xL σ) d (4 - c).toNat c (σ' 7 0 20) q').2.2)) ∨ (σ' 7 0 21 = 1 ∧ badO (ordS (xT σ) (xL σ) ln q (σ 7 0 20)) (σ' 7 0 20)))
/-- takeOrder -/
def OXe (σ σ' : Mem) (ln q : Int → Int) : Prop := FrG pRt σ σ' ∧ σ' 7 0 23 = σ 7 0 23 + 1 ∧ (∀ x, x < 11 * σ 7 0 23 → σ' 55 0 x = σ 55 0 x) ∧ σ' 7 0 20 = (ordS (xT σ) (xL σ) ln q (σ 7 0 20)).2.1 ∧ (σ' 7 0 21 = 0 ∨ σ' 7 0 21 = 1) ∧ ((ordS (xT σ) (xL σ) ln q (σ 7 0 20)).1 ≠ 0 → σ' 7 0 21 = 1) ∧ ((ordS (xT σ) (xL σ) ln q (σ 7 0 20)).1 = 0 → σ' 7 0 21 = 0 ∧ PO σ' (ordS (xT σ) (xL σ) ln q (σ 7 0 20)).2.2.1 (ordS (xT σ) (xL σ) ln q (σ 7 0 20)).2.2.2 ∧ ∃ d c, 0 ≤ d ∧ d < 4 ∧ ln d < 0 ∧ 0 ≤ c ∧ c ≤ 4 ∧ (ordS (xT σ) (xL σ) ln q (σ 7 0 20)).2.2.1 = uq ln d c ∧ (∀ x, ¬ (4 * d ≤ x ∧ x < 4 * d + 4) → (ordS (xT σ) (xL σ) ln q (σ 7 0 20)).2.2.2 x = q x) ∧ σ' 55 0 (11 * σ 7 0 23) = d ∧ σ' 55 0 (11 * σ 7 0 23 + 1) = c ∧ ∀ i, 0 ≤ i → i < c → σ' 55 0 (11 * σ 7 0 23 + 2 + i) = (ordS (xT σ) (xL σ) ln q (σ 7 0 20)).2.2.2 (4 * d + i))
theorem OXi_0 {σ σ' : Mem} {v : Int} {ln q : Int → Int} (hF : FrG pRt σ σ') (h23 : σ' 7 0 23 = σ 7 0 23) (h55 : ∀ x, σ' 55 0 x = if x = 11 * σ 7 0 23 + 1 then 0 else if x = 11 * σ 7 0 23 then v else σ 55 0 x) (h24 : σ' 7 0 21 = 0 → σ' 7 0 24 = bor (σ 7 0 24) (bshl 1 v)) (h0 : 0 ≤ σ 7 0 20) (h1 : σ 7 0 20 ≤ xL σ) (h : P2 (xT σ) (xL σ) ln q (σ 7 0 20) (σ' 7 0 21) (σ' 7 0 20) v) : OXi σ σ' 0 ln q := by
  have hb := P2_b h h0 h1
  refine ⟨hF, h23, fun x q => by rw [h55, if_neg (by omega), if_neg (by omega)], hb.1, hb.2.1, hb.2.2, ?_⟩
  rcases h with ⟨w, k, k2, e, ed⟩ | q
  · refine Or.inl ⟨w, v, 0, q, by rw [ed]; exact k.1, by rw [ed]; exact k.2.1, by rw [ed]; exact k.2.2, by omega, by omega, fun x x0 x1 => ⟨fun z => absurd z (bit_0 x0 x1), ?_⟩, oOK_0 _ _, by rw [h55, if_neg (by omega), if_pos rfl], by rw [h55, if_pos rfl], fun i i0 i1 => by omega, fun x _ => rfl, h24 w, ?_⟩
    · rintro ⟨i, i0, i1, -⟩
      omega
    · rw [e, ed]
      unfold ordS
      rw [cif_0 (okQm_n.mp k), cif_0 (fun y => y k2)]
      rfl
  · exact Or.inr q
theorem OXi_end {σ σ' : Mem} {t : Int} {ln q : Int → Int} (hP : PO σ ln q) (h : OXi σ σ' t ln q) (hx : σ' 7 0 21 ≠ 0 ∨ ¬ (48 ≤ nx (xT σ) (xL σ) (σ' 7 0 20) ∧ nx (xT σ) (xL σ) (σ' 7 0 20) ≤ 51) ∨ hasB t (nx (xT σ) (xL σ) (σ' 7 0 20) - 48) ∧ (48 ≤ nx (xT σ) (xL σ) (σ' 7 0 20) ∧ nx (xT σ) (xL σ) (σ' 7 0 20) ≤ 51)) {σ2 : Mem} (hs : σ2 = up σ' 7 0 23 (σ' 7 0 23 + 1)) : OXe σ σ2 ln q := by
  obtain ⟨h1, h2, h3, h4, h5, h6, h9⟩ := h
  have e20 : σ2 7 0 20 = σ' 7 0 20 := by rw [hs]; simp [up_ap]
  have e21 : σ2 7 0 21 = σ' 7 0 21 := by rw [hs]; simp [up_ap]
  have e24 : σ2 7 0 24 = σ' 7 0 24 := by rw [hs]; simp [up_ap]
  have e23 : σ2 7 0 23 = σ' 7 0 23 + 1 := by rw [hs]; simp [up_ap]
  have e55 : σ2 55 0 = σ' 55 0 := by rw [hs]; funext x; simp [up_ap]
  have hF : FrG pRt σ σ2 := by
    rw [hs]
    exact h1.u (Or.inl ⟨rfl, rfl, by omega, by omega⟩)
  unfold OXe PO
  rw [e20, e21, e23, e55, e24, h2]
  refine ⟨hF, rfl, h3, ?_⟩
  rcases h9 with ⟨w, d, c, q', d0, d1, hl, t0, t1, k1, k2, k3, k4, k5, k6, k7, k8⟩ | ⟨k1, k2⟩
  · have hc4 := k2.2.1
    have hc0 := k2.1
    have e : jbS (xT σ) (xL σ) d (4 - c).toNat c (σ' 7 0 20) q' = (σ' 7 0 20, c, q') := by
      by_cases y : 4 ≤ c
      · rw [show (4 - c).toNat = 0 by omega]
        rfl
      · rw [show (4 - c).toNat = (3 - c).toNat + 1 by omega, jbS_1, cif_0]
        rintro ⟨z1, z2, z3⟩
        have hz := dg_nx z1
        rcases hx with z | z | z
        · exact z w
        · exact z (by omega)
        · rw [show nx (xT σ) (xL σ) (σ' 7 0 20) - 48 = dg (xT σ) (xL σ) (σ' 7 0 20) by omega] at z
          exact z3 ((k1 _ z1 z2).mp z.1)
    rw [e] at k8
    rw [k8]
    refine ⟨rfl, h6, fun z => absurd rfl z, fun _ => ⟨w, ⟨?_, ?_, fun m m0 m1 => ⟨?_, fun hm => ?_⟩⟩, d, c, d0, d1, hl, hc0, hc4, rfl, k6, k3, k4, k5⟩⟩
    · rw [k7]
      exact (bit_or_r hP.1 hP.2.1 d0 d1).1
    · rw [k7]
      exact (bit_or_r hP.1 hP.2.1 d0 d1).2
    · rw [k7, bit_or hP.1 hP.2.1 d0 d1 m0 m1, (hP.2.2 m m0 m1).1]
      show _ ↔ 0 ≤ uq ln d c m
      unfold uq
      by_cases z : m = d
      · rw [if_pos z]
        exact ⟨fun _ => hc0, fun _ => Or.inr z⟩
      · rw [if_neg z]
        exact ⟨fun y => y.elim id (fun y => absurd y z), Or.inl⟩
    · have hm' : 0 ≤ uq ln d c m := hm
      show oOK q' (4 * m) (uq ln d c m)
      unfold uq at hm' ⊢
      by_cases z : m = d
      · rw [if_pos z, z]
        exact k2
      · rw [if_neg z] at hm' ⊢
        have ho := (hP.2.2 m m0 m1).2 hm'
        have ho4 := ho.2.1
        have eq : ∀ k, 0 ≤ k → k < ln m → q' (4 * m + k) = q (4 * m + k) := fun k k0 k1 => k6 _ (by omega)
        refine ⟨ho.1, ho.2.1, fun k k0 k1 => ?_, fun k k' k0 k1 k2 => ?_⟩
        · rw [eq k k0 k1]
          exact ho.2.2.1 k k0 k1
        · rw [eq k k0 (by omega), eq k' (by omega) k2]
          exact ho.2.2.2 k k' k0 k1 k2
  · exact ⟨k2.2, h6, fun _ => k1, fun z => absurd z k2.1⟩
theorem OXi_s {σ σ' σ2 : Mem} {t : Int} {ln q : Int → Int} (h : OXi σ σ' t ln q) (hw : ¬ σ' 7 0 21 ≠ 0) (hn : 48 ≤ nx (xT σ) (xL σ) (σ' 7 0 20) ∧ nx (xT σ) (xL σ) (σ' 7 0 20) ≤ 51) (hb : ¬ hasB t (nx (xT σ) (xL σ) (σ' 7 0 20) - 48)) : σ' 7 0 20 < xL σ ∧ 0 ≤ t ∧ t < 16 ∧ 0 ≤ σ' 55 0 (11 * σ 7 0 23 + 1) ∧ σ' 55 0 (11 * σ 7 0 23 + 1) < 4 ∧ ∀ w1 s1 v, td (xT σ) (xL σ) 0 (σ' 7 0 20) t w1 s1 v → σ2 7 0 20 = s1 → σ2 7 0 21 = w1 → FrG pRt σ σ2 → σ2 7 0 23 = σ 7 0 23 → σ2 7 0 24 = σ' 7 0 24 → (∀ x, σ2 55 0 x = if x = 11 * σ 7 0 23 + 1 then σ' 55 0 (11 * σ 7 0 23 + 1) + 1 else if x = 11 * σ 7 0 23 + 2 + σ' 55 0 (11 * σ 7 0 23 + 1) then v else σ' 55 0 x) → OXi σ σ2 (bor t (bshl 1 v)) ln q := by
  obtain ⟨h1, h2, h3, ha, h5, h6, h9⟩ := h
  rcases h9 with ⟨w, d, c, q', d0, d1, hl, t0, t16, k1, k2, k3, k4, k5, k6, k7, k8⟩ | ⟨k1, k2⟩
  rotate_left
  · omega
  have hlt : σ' 7 0 20 < xL σ := by
    rcases Int.lt_or_le (σ' 7 0 20) (xL σ) with z | z
    · exact z
    · have : nx (xT σ) (xL σ) (σ' 7 0 20) = 0 := by
        unfold nx
        rw [if_neg (by omega)]
      omega
  have hd := nx_dg2 (tx := xT σ) (n := xL σ) (a := σ' 7 0 20) ⟨hn.1, by omega⟩
  rw [← hd] at hb
  have x0 : 0 ≤ dg (xT σ) (xL σ) (σ' 7 0 20) := by omega
  have x1 : dg (xT σ) (xL σ) (σ' 7 0 20) < 4 := by omega
  have nq := fun z => hb ((k1 _ x0 x1).mpr z)
  have hO := oOK_s k2 x0 x1 nq
  have hc0 := k2.1
  refine ⟨hlt, t0, t16, by omega, by omega, fun w1 s1 v ht e20 e21 f2 f23 f24 f55 => ?_⟩
  rcases ht with ⟨-, -, -, -, es, ew, ev⟩ | ⟨z, -⟩
  rotate_left
  · exact absurd ⟨rfl, x0, x1, hb⟩ z
  rw [← ev] at hO x0 x1 nq
  refine ⟨f2, f23, fun x z => ?_, by omega, by omega, by omega, Or.inl ⟨by omega, d, c + 1, uq q' (4 * d + c) v, d0, d1, hl, (bit_or_r t0 t16 x0 x1).1, (bit_or_r t0 t16 x0 x1).2, fun x y0 y1 => ?_, hO.2, ?_, ?_, fun i i0 i1 => ?_, fun x z => ?_, by rw [f24, k7], ?_⟩⟩
  · rw [f55, if_neg (by omega), if_neg (by omega)]
    exact h3 x z
  · rw [bit_or t0 t16 x0 x1 y0 y1, k1 x y0 y1, inq_s hc0]
    have e1 : uq q' (4 * d + c) v (4 * d + c) = v := if_pos rfl
    rw [e1, inq_cg (q := q') (q' := uq q' (4 * d + c) v) (fun k a b => if_neg (by omega))]
  · rw [f55, if_neg (by omega), if_neg (by omega)]
    exact k3
  · rw [f55, if_pos rfl, k4]
  · rw [f55, if_neg (by omega)]
    unfold uq
    by_cases z : i = c
    · rw [if_pos (by omega), if_pos (by omega)]
    · rw [if_neg (by omega), if_neg (by omega)]
      exact k5 i i0 (by omega)
  · unfold uq
    rw [if_neg (by omega)]
    exact k6 x z
  · rw [show (4 - c).toNat = (4 - (c + 1)).toNat + 1 by omega, jbS_1, ← ev, cif_1 ⟨x0, x1, nq⟩] at k8
    rw [e20, es]
    exact k8
theorem xT_55 (σ : Mem) (x v : Int) : xT (up σ 55 0 x v) = xT σ := by
  funext y
  unfold xT
  rw [up_ap, if_neg (by rintro ⟨q, -⟩; omega)]
theorem xL_55 (σ : Mem) (x v : Int) : xL (up σ 55 0 x v) = xL σ := by
  unfold xL
  rw [up_ap, if_neg (by rintro ⟨q, -⟩; omega)]
theorem xL_24 (σ : Mem) (v : Int) : xL (up σ 7 0 24 v) = xL σ := by
  unfold xL
  rw [up_ap, if_neg (by rintro ⟨-, -, q⟩; omega)]
