/-! takeRoute -/
/-- the row at r, of c operations -/
def RR (f : Int → Int) (r : Int) (R : Int → Int) (c : Int) : Prop := f r = R 0 ∧ f (r + 1) = R 1 ∧ R 2 = c ∧ f (r + 2) = c ∧ ∀ s, 0 ≤ s → s < c → f (r + 3 + 2 * s) = R (3 + 2 * s) ∧ f (r + 4 + 2 * s) = R (4 + 2 * s)
def pRt (t a : Nat) (x : Int) : Prop := (t = 7 ∧ a = 0 ∧ 20 ≤ x ∧ x ≤ 24) ∨ (t = 55 ∧ a = 0)
theorem pSp.t {σ σ' : Mem} (h : FrG pSp σ σ') : FrG pRt σ σ' := h.w (fun _ _ _ q => Or.inl ⟨q.1, q.2.1, by have := q.2.2; omega, by have := q.2.2; omega⟩)
theorem pRt_c {σ σ' : Mem} (h : FrG pRt σ σ') : xT σ' = xT σ ∧ xL σ' = xL σ := ⟨h.f 42 0 (by rintro x (⟨q, -⟩ | ⟨q, -⟩) <;> omega), h 7 0 6 (by rintro (⟨-, -, q, -⟩ | ⟨q, -⟩) <;> omega)⟩
theorem pSp_s {σ σ' : Mem} (h : FrG pSp σ σ') : σ' 7 0 23 = σ 7 0 23 ∧ σ' 55 0 = σ 55 0 ∧ σ' 7 0 24 = σ 7 0 24 := ⟨h 7 0 23 (by rintro ⟨-, -, q⟩; omega), h.f 55 0 (by rintro x ⟨q, -⟩; omega), h 7 0 24 (by rintro ⟨-, -, q⟩; omega)⟩
/-- takeRoute's loop; t: the machines that the job has -/
def RXi (σ σ' : Mem) (t : Int) : Prop := FrG pRt σ σ' ∧ σ' 7 0 23 = σ 7 0 23 ∧ (∀ x, x < 11 * σ 7 0 23 → σ' 55 0 x = σ 55 0 x) ∧ 0 ≤ σ' 7 0 20 ∧ σ' 7 0 20 ≤ xL σ ∧ (σ' 7 0 21 = 0 ∨ σ' 7 0 21 = 1) ∧ 0 ≤ σ' 55 0 (11 * σ 7 0 23 + 2) ∧ σ' 55 0 (11 * σ 7 0 23 + 2) ≤ 4 ∧ ((σ' 7 0 21 = 0 ∧ 0 ≤ t ∧ t < 16 ∧ ∃ R c, (∀ d, 0 ≤ d → d < 4 → (hasB t d ↔ dup R c d)) ∧ RR (σ' 55 0) (11 * σ 7 0 23) R c ∧ jobS (xT σ) (xL σ) (σ 7 0 20) = opsS (xT σ) (xL σ) (5 - c).toNat c (σ' 7 0 20) R) ∨ ((σ' 7 0 21 = 1 ∨ (σ' 7 0 21 = 0 ∧ 0 ≤ dg (xT σ) (xL σ) (σ' 7 0 20))) ∧ bad3 (jobS (xT σ) (xL σ) (σ 7 0 20)) (σ' 7 0 20)))
/-- takeRoute -/
def RXe (σ σ' : Mem) : Prop := FrG pRt σ σ' ∧ σ' 7 0 23 = σ 7 0 23 + 1 ∧ (∀ x, x < 11 * σ 7 0 23 → σ' 55 0 x = σ 55 0 x) ∧ σ' 7 0 20 = (jobS (xT σ) (xL σ) (σ 7 0 20)).2.1 ∧ (σ' 7 0 21 = 0 ∨ σ' 7 0 21 = 1) ∧ ((jobS (xT σ) (xL σ) (σ 7 0 20)).1 ≠ 0 → σ' 7 0 21 = 1 ∨ (σ' 7 0 21 = 0 ∧ 0 ≤ dg (xT σ) (xL σ) (σ' 7 0 20))) ∧ ((jobS (xT σ) (xL σ) (σ 7 0 20)).1 = 0 → σ' 7 0 21 = 0 ∧ RR (σ' 55 0) (11 * σ 7 0 23) (jobS (xT σ) (xL σ) (σ 7 0 20)).2.2 ((jobS (xT σ) (xL σ) (σ 7 0 20)).2.2 2))
theorem RXi_0 {σ σ' : Mem} {v v2 : Int} (hF : FrG pRt σ σ') (h23 : σ' 7 0 23 = σ 7 0 23) (h55 : ∀ x, σ' 55 0 x = if x = 11 * σ 7 0 23 + 2 then 0 else if x = 11 * σ 7 0 23 + 1 then v2 else if x = 11 * σ 7 0 23 then v else σ 55 0 x) (h0 : 0 ≤ σ 7 0 20) (h1 : σ 7 0 20 ≤ xL σ) (h : S4 (xT σ) (xL σ) (σ 7 0 20) (σ' 7 0 21) (σ' 7 0 20) v v2) : RXi σ σ' 0 := by
  have hb := S4_b h h0 h1
  have e2 : σ' 55 0 (11 * σ 7 0 23 + 2) = 0 := by rw [h55, if_pos rfl]
  refine ⟨hF, h23, fun x q => by rw [h55, if_neg (by omega), if_neg (by omega), if_neg (by omega)], hb.1, hb.2.1, hb.2.2, by omega, by omega, ?_⟩
  rcases S4_e h h1 with ⟨w, e⟩ | q
  · refine Or.inl ⟨w, by omega, by omega, hdR v v2, 0, fun d d0 d1 => ⟨fun z => absurd z (bit_0 d0 d1), ?_⟩, ⟨?_, ?_, rfl, e2, fun s s0 s1 => by omega⟩, e⟩
    · rintro ⟨i, i0, i1, -⟩
      omega
    · rw [h55, if_neg (by omega), if_neg (by omega), if_pos rfl]
      rfl
    · rw [h55, if_neg (by omega), if_pos rfl]
      rfl
  · exact Or.inr q
theorem RXi_end {σ σ' : Mem} {t : Int} (h : RXi σ σ' t) (hx : σ' 7 0 21 ≠ 0 ∨ nx (xT σ) (xL σ) (σ' 7 0 20) ≠ 44 ∨ 4 ≤ σ' 55 0 (11 * σ 7 0 23 + 2)) {σ2 : Mem} (hs : σ2 = up σ' 7 0 23 (σ' 7 0 23 + 1)) : RXe σ σ2 := by
  obtain ⟨h1, h2, h3, h4, h5, h6, h7, h8, h9⟩ := h
  have e20 : σ2 7 0 20 = σ' 7 0 20 := by rw [hs]; simp [up_ap]
  have e21 : σ2 7 0 21 = σ' 7 0 21 := by rw [hs]; simp [up_ap]
  have e23 : σ2 7 0 23 = σ' 7 0 23 + 1 := by rw [hs]; simp [up_ap]
  have e55 : σ2 55 0 = σ' 55 0 := by rw [hs]; funext x; simp [up_ap]
  have hF : FrG pRt σ σ2 := by
    rw [hs]
    exact h1.u (Or.inl ⟨rfl, rfl, by omega, by omega⟩)
  unfold RXe
  rw [e20, e21, e23, e55, h2]
  refine ⟨hF, rfl, h3, ?_⟩
  rcases h9 with ⟨w, t0, t1, R, c, k1, k2, k3⟩ | ⟨k1, k2⟩
  · have hc := k2.2.2.2.1
    have e : jobS (xT σ) (xL σ) (σ 7 0 20) = (0, σ' 7 0 20, R) := by
      rw [k3, show (5 - c).toNat = (4 - c).toNat + 1 by omega, opsS_1, cif_0]
      rintro ⟨z1, z2⟩
      rcases hx with z | z | z
      · exact z w
      · exact z z1
      · omega
    rw [e]
    exact ⟨rfl, h6, fun z => absurd rfl z, fun _ => ⟨w, by show RR _ _ R (R 2); rw [k2.2.2.1]; exact k2⟩⟩
  · exact ⟨k2.2, h6, fun _ => k1, fun z => absurd z k2.1⟩
/-- the loop goes on -/
theorem RXi_go {σ σ' : Mem} {t : Int} (h : RXi σ σ' t) (hw : ¬ σ' 7 0 21 ≠ 0) (hn : nx (xT σ) (xL σ) (σ' 7 0 20) = 44) : σ' 7 0 20 < xL σ ∧ 0 ≤ t ∧ t < 16 := by
  obtain ⟨h1, h2, h3, h4, h5, h6, h7, h8, h9⟩ := h
  rcases h9 with ⟨w, t0, t1, -⟩ | ⟨k1, k2⟩
  · exact ⟨nx_lt hn (by omega), t0, t1⟩
  · rcases k1 with k1 | ⟨-, k1⟩
    · omega
    · have := dg_nx k1
      omega
theorem dup_s {R : Int → Int} {c d v x : Int} (c0 : 0 ≤ c) : dup (uR R c d v) (c + 1) x ↔ dup R c x ∨ x = d := by
  have hu : ∀ i, 0 ≤ i → uR R c d v (3 + 2 * i) = if i = c then d else R (3 + 2 * i) := fun i i0 => by
    unfold uR
    rw [if_neg (by omega)]
    by_cases z : i = c
    · rw [if_pos (by omega), if_pos z]
    · rw [if_neg (by omega), if_neg (by omega), if_neg z]
  constructor
  · rintro ⟨i, i0, i1, e⟩
    rw [hu i i0] at e
    by_cases z : i = c
    · rw [if_pos z] at e
      exact Or.inr e.symm
    · rw [if_neg z] at e
      exact Or.inl ⟨i, i0, by omega, e⟩
  · rintro (⟨i, i0, i1, e⟩ | e)
    · exact ⟨i, i0, by omega, by rw [hu i i0, if_neg (by omega)]; exact e⟩
    · exact ⟨c, c0, by omega, by rw [hu c c0, if_pos rfl]; exact e.symm⟩
theorem RXi_s {σ σ' σ2 : Mem} {t : Int} (h : RXi σ σ' t) (hw : ¬ σ' 7 0 21 ≠ 0) (hn : nx (xT σ) (xL σ) (σ' 7 0 20) = 44) (h4 : ¬ 4 ≤ σ' 55 0 (11 * σ 7 0 23 + 2)) {w1 s1 d w2 s2 v : Int} (t1 : td (xT σ) (xL σ) 0 (σ' 7 0 20 + 1) t w1 s1 d) : (0 ≤ s1 ∧ s1 ≤ xL σ ∧ (w1 = 0 ∨ w1 = 1) ∧ 0 ≤ d ∧ d < 4) ∧ (ne (xT σ) (xL σ) w1 s1 42 w2 s2 → (0 ≤ s2 ∧ s2 ≤ xL σ ∧ (w2 = 0 ∨ w2 = 1)) ∧ (tn (xT σ) (xL σ) w2 s2 1 20 (σ2 7 0 21) (σ2 7 0 20) v → FrG pRt σ σ2 → σ2 7 0 23 = σ 7 0 23 → (∀ x, σ2 55 0 x = if x = 11 * σ 7 0 23 + 2 then σ' 55 0 (11 * σ 7 0 23 + 2) + 1 else if x = 11 * σ 7 0 23 + 4 + 2 * σ' 55 0 (11 * σ 7 0 23 + 2) then v else if x = 11 * σ 7 0 23 + 3 + 2 * σ' 55 0 (11 * σ 7 0 23 + 2) then d else σ' 55 0 x) → RXi σ σ2 (bor t (bshl 1 d)))) := by
  have hgo := RXi_go h hw hn
  obtain ⟨h1, h2, h3, ha, h5, h6, h7, h8, h9⟩ := h
  have h9' : 0 ≤ t ∧ t < 16 ∧ ∃ R c, (∀ d, 0 ≤ d → d < 4 → (hasB t d ↔ dup R c d)) ∧ RR (σ' 55 0) (11 * σ 7 0 23) R c ∧ jobS (xT σ) (xL σ) (σ 7 0 20) = opsS (xT σ) (xL σ) (5 - c).toNat c (σ' 7 0 20) R := by
    rcases h9 with ⟨-, q⟩ | ⟨k1, k2⟩
    · exact q
    · rcases k1 with k1 | ⟨-, k1⟩
      · omega
      · have := dg_nx k1
        omega
  obtain ⟨t0, t16, R, c, k1, k2, k3⟩ := h9'
  have hc := k2.2.2.2.1
  have o1 := O1_i k1 t1
  refine ⟨O1_b o1 (by omega) (by omega), fun t2 => ?_⟩
  have o2 := O2_i o1 t2
  refine ⟨O2_b o2 (by omega) (by omega), fun t3 f2 f23 f55 => ?_⟩
  have o3 := O3_i o2 t3
  have hb := O3_b o3 (by omega) (by omega)
  have hd := O1_b o1 (by omega) (by omega)
  rw [show (5 - c).toNat = (4 - c).toNat + 1 by omega, opsS_1, cif_1 ⟨hn, by omega⟩] at k3
  refine ⟨f2, f23, fun x q => ?_, hb.1, hb.2.1, hb.2.2, ?_, ?_, ?_⟩
  · rw [f55, if_neg (by omega), if_neg (by omega), if_neg (by omega)]
    exact h3 x q
  · rw [f55, if_pos rfl]; omega
  · rw [f55, if_pos rfl]; omega
  · rcases O3_e o3 (by omega) with ⟨w, q, e, ed⟩ | ⟨k4, k5⟩
    · rw [e, cif_0 (fun z => z rfl)] at k3
      refine Or.inl ⟨w, (bit_or_r t0 t16 hd.2.2.2.1 hd.2.2.2.2).1, (bit_or_r t0 t16 hd.2.2.2.1 hd.2.2.2.2).2, uR R c d v, c + 1, fun x x0 x1 => ?_, ⟨?_, ?_, ?_, ?_, fun s s0 s1 => ?_⟩, ?_⟩
      · rw [bit_or t0 t16 hd.2.2.2.1 hd.2.2.2.2 x0 x1, dup_s (by omega), k1 x x0 x1]
      · rw [f55, if_neg (by omega), if_neg (by omega), if_neg (by omega), k2.1]
        unfold uR
        rw [if_neg (by omega), if_neg (by omega), if_neg (by omega)]
      · rw [f55, if_neg (by omega), if_neg (by omega), if_neg (by omega), k2.2.1]
        unfold uR
        rw [if_neg (by omega), if_neg (by omega), if_neg (by omega)]
      · unfold uR
        rw [if_pos rfl]
      · rw [f55, if_pos rfl, hc]
      · rw [f55, f55]
        unfold uR
        by_cases z : s = c
        · rw [if_neg (by omega), if_neg (by omega), if_pos (by omega), if_neg (by omega), if_pos (by omega), if_neg (by omega), if_pos (by omega), if_neg (by omega), if_neg (by omega), if_pos (by omega)]
          exact ⟨rfl, rfl⟩
        · rw [if_neg (by omega), if_neg (by omega), if_neg (by omega), if_neg (by omega), if_neg (by omega), if_neg (by omega), if_neg (by omega), if_neg (by omega), if_neg (by omega), if_neg (by omega), if_neg (by omega), if_neg (by omega)]
          exact k2.2.2.2.2 s s0 (by omega)
      · rw [k3, show (5 - (c + 1)).toNat = (4 - c).toNat by omega]
    · rw [cif_1 k5.1] at k3
      exact Or.inr ⟨k4, bad3_i k3 k5.2⟩
