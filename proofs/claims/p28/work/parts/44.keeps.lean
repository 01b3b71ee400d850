theorem FrG.B {n : Nat} {σ σ' : Mem} {P : Nat → Nat → Int → Prop} (h : FrG P σ σ') (hP : ∀ t x, 15 ≤ t → t ≤ 19 → ¬ P t n x) (hB : nB σ n) : nB σ' n := by
  unfold nB
  rw [h.f 15 n (fun x => hP 15 x (by omega) (by omega)), h.f 16 n (fun x => hP 16 x (by omega) (by omega)), h.f 17 n (fun x => hP 17 x (by omega) (by omega)), h.f 18 n (fun x => hP 18 x (by omega) (by omega)), h.f 19 n (fun x => hP 19 x (by omega) (by omega))]
  exact hB
theorem FoI.B {σ σ' : Mem} {n : Nat} {u nw : Int} {Pr : Int → Int → Int → Prop} (h : FoI σ σ' n u Pr nw) (hB : nB σ n) : nB σ' n := h.1.B (fun t x a b q => by have := q.1; omega) hB
theorem FoI.H {σ σ' : Mem} {n : Nat} {u nw : Int} {Pr : Int → Int → Int → Prop} (h : FoI σ σ' n u Pr nw) (hH : nH σ n) : nH σ' n := by
  have e : ∀ t, t ≠ 20 → ∀ x, σ' t n x = σ t n x := fun t ht x => h.1 t n x (fun q => ht q.1)
  intro o v
  rw [e 21 (by omega), e 22 (by omega)]
  exact hH o ((vOp_cg (fun j _ _ => e 15 (by omega) j) _).mp v)
theorem nM_H {σ : Mem} {n : Nat} (h : nM σ n) : nH σ n := h.2.2.2.2
theorem FoI_t {σ σ' σ2 : Mem} {n : Nat} {u r r' : Int} {P Q : Int → Int → Int → Prop} (h : FoI σ σ' n u P r) (h2 : FoI σ' σ2 n u Q r') : FoI σ σ2 n u (fun m i j => P m i j ∨ Q m i j) (r + r') := by
  obtain ⟨a1, a2, a3, a4, a5, a6, a7⟩ := h
  obtain ⟨b1, b2, b3, b4, b5, b6, b7⟩ := h2
  have e : ∀ t, t ≠ 20 → σ' t n = σ t n := fun t ht => a1.f t n (fun x q => ht q.1)
  have e15 := e 15 (by omega)
  have e16 := e 16 (by omega)
  have e17 := e 17 (by omega)
  have e19 := e 19 (by omega)
  have e21 := e 21 (by omega)
  have e22 := e 22 (by omega)
  have ew : ∀ x y, wy σ' n u x y ↔ wy σ n u x y := by
    intro x y
    unfold wy
    rw [e17, e21, e22]
  rw [e15] at b3
  rw [e19] at b6
  refine ⟨a1.t b1, b2, a3.t b3, fun y k v k0 k1 q => ?_, by omega, by omega, fun q => ?_⟩
  · rcases b4 y k (by rw [e15]; exact v) k0 k1 q with c | c
    · exact a4 y k v k0 k1 c
    · rw [ew, e19, e16] at c
      exact Or.inr c
  · obtain ⟨c1, c2⟩ := a7 (by omega)
    obtain ⟨d1, d2⟩ := b7 (by omega)
    refine ⟨by rw [d1, c1], fun m i j p hu => ?_⟩
    rcases p with p | p
    · exact c2 m i j p hu
    · have := d2 m i j p (by rw [c1, e19]; exact hu)
      rw [ew, ew, e19] at this
      exact this
def pK (n : Nat) (t a : Nat) (x : Int) : Prop := a = n ∧ (t = 20 ∨ t = 21 ∨ t = 22 ∨ t = 23 ∨ t = 24 ∨ t = 25 ∨ (t = 1 ∧ (x = 8 ∨ x = 11)))
theorem Frm.K {n : Nat} {σ σ' : Mem} (h : Frm n σ σ') : FrG (pK n) σ σ' := fun t a x q => h t a x (fun ⟨c, d⟩ => q ⟨c, Or.inr d⟩)
theorem pAh.K {n : Nat} {σ σ' : Mem} (h : FrG (pAh n) σ σ') : FrG (pK n) σ σ' := h.w (fun _ _ _ q => ⟨q.2, Or.inl q.1⟩)
theorem pK.f {n : Nat} {σ σ' : Mem} (h : FrG (pK n) σ σ') (t : Nat) (ht : t ≠ 1 ∧ (t < 20 ∨ 25 < t)) : σ' t n = σ t n := h.f t n (by
  rintro x ⟨-, q⟩
  omega)
theorem pK.B {n : Nat} {σ σ' : Mem} (h : FrG (pK n) σ σ') (hB : nB σ n) : nB σ' n := h.B (by
  rintro t x a b ⟨-, q⟩
  omega) hB
theorem pK.O {n : Nat} {σ σ' : Mem} (h : FrG (pK n) σ σ') (hO : nO σ n) : nO σ' n := by
  unfold nO
  rw [h 1 n 9 (by rintro ⟨-, q⟩; omega), pK.f h 15 (by omega)]
  exact hO
/-- every relation that keeps u and has all of the first has all of the second -/
def lst (σ : Mem) (n : Nat) (u : Int) (ah ah' : Int → Int) : Prop := ∀ C, Clo (σ 15 n) (σ 16 n) (σ 17 n) (σ 18 n) u C → sbA (σ 15 n) (σ 16 n) ah C → sbA (σ 15 n) (σ 16 n) ah' C
def KI (σ σ' : Mem) (n : Nat) (u r : Int) : Prop := FrG (pK n) σ σ' ∧ nA σ' n ∧ mnA (σ 15 n) (σ 20 n) (σ' 20 n) ∧ lst σ n u (σ 20 n) (σ' 20 n) ∧ 0 ≤ r ∧ r ≤ dc (σ 19 n) (σ' 20 n)
/-- the limit may be kept: all that it forces is decided -/
def KT (σ σ' : Mem) (n : Nat) (u : Int) : Prop := FrG (pK n) σ σ' ∧ nA σ' n ∧ mnA (σ 15 n) (σ 20 n) (σ' 20 n) ∧ lst σ n u (σ 20 n) (σ' 20 n) ∧ nM σ' n ∧ σ' 1 n 8 ≤ u ∧ Clo (σ 15 n) (σ 16 n) (σ 17 n) (σ 18 n) u (rA (σ' 20 n))
/-- it can't be kept -/
def KF (σ : Mem) (n : Nat) (u : Int) : Prop := ∀ C, Clo (σ 15 n) (σ 16 n) (σ 17 n) (σ 18 n) u C → ¬ sbA (σ 15 n) (σ 16 n) (σ 20 n) C
theorem KI_0 {σ : Mem} {n : Nat} {u : Int} (hA : nA σ n) : KI σ σ n u 0 := ⟨FrG.r, hA, mnA.r, fun _ _ h => h, by omega, (dc_r _ _).1⟩
theorem clo_ge {σ : Mem} {n : Nat} {u : Int} {C : Int → Int → Prop} (hB : nB σ n) (hM : nM σ n) (hs : sbA (σ 15 n) (σ 16 n) (σ 20 n) C) {h t : Int → Int} (H : IsHead (vOp (σ 15 n)) (pA (σ 16 n) C) (σ 17 n) (σ 18 n) h) (T : IsTail (vOp (σ 15 n)) (pA (σ 16 n) C) (σ 17 n) t) {o : Int} (v : vOp (σ 15 n) o) : σ 21 n o ≤ h o ∧ σ 22 n o ≤ t o := ⟨head_mono (fun o v => (hB.2.1 o v).2.2.1) (fun o v => (hB.2.1 o v).2.2.2.2.1) (sbA_p hs) hM.1 H v, tail_mono (fun o v => (hB.2.1 o v).2.2.1) (sbA_p hs) hM.2.1 T v⟩
theorem clo_wy {σ : Mem} {n : Nat} {u x y : Int} {C : Int → Int → Prop} (hB : nB σ n) (hM : nM σ n) (hC : Clo (σ 15 n) (σ 16 n) (σ 17 n) (σ 18 n) u C) (hs : sbA (σ 15 n) (σ 16 n) (σ 20 n) C) (vx : vOp (σ 15 n) x) (vy : vOp (σ 15 n) y) (hne : x ≠ y) (hm : σ 16 n x = σ 16 n y) (hw : wy σ n u x y) : C y x := by
  obtain ⟨h, t, H, T, hu, hc⟩ := hC
  have h1 := (clo_ge (u := u) hB hM hs H T vx).1
  have h2 := (clo_ge (u := u) hB hM hs H T vy).2
  unfold wy at hw
  exact hc x y vx vy hne hm (by omega)
theorem KI_nosol {σ σ' : Mem} {n : Nat} {u r : Int} (hB : nB σ n) (h : KI σ σ' n u r) (hN : nN σ' n) : KF σ n u := by
  intro C hC hs
  obtain ⟨a1, a2, a3, a4, a5, a6⟩ := h
  have hs' := a4 C hC hs
  obtain ⟨g, t, H, T, hu, hc⟩ := hC
  unfold nN at hN
  rw [pK.f a1 15 (by omega), pK.f a1 16 (by omega)] at hN
  exact hN.no hB (sbA_p hs') H
/-- measured, of the same routes -/
theorem KI_meas {σ σ' σ1 : Mem} {n : Nat} {u r : Int} (hF : Frm n σ' σ1) (h : KI σ σ' n u r) : KI σ σ1 n u r := by
  obtain ⟨a1, a2, a3, a4, a5, a6⟩ := h
  have e := hF.f 20 (by omega)
  exact ⟨a1.t hF.K, hF.A a2, by rw [e]; exact a3, by rw [e]; exact a4, a5, by rw [e]; exact a6⟩
theorem KI_clo {σ σ1 : Mem} {n : Nat} {u r : Int} (h : KI σ σ1 n u r) {C : Int → Int → Prop} (hC : Clo (σ 15 n) (σ 16 n) (σ 17 n) (σ 18 n) u C) (hs : sbA (σ 15 n) (σ 16 n) (σ 20 n) C) : Clo (σ1 15 n) (σ1 16 n) (σ1 17 n) (σ1 18 n) u C ∧ sbA (σ1 15 n) (σ1 16 n) (σ1 20 n) C := by
  have hs' := h.2.2.2.1 C hC hs
  rw [pK.f h.1 15 (by omega), pK.f h.1 16 (by omega), pK.f h.1 17 (by omega), pK.f h.1 18 (by omega)]
  exact ⟨hC, hs'⟩
theorem KI_long {σ σ1 : Mem} {n : Nat} {u r : Int} (hB : nB σ n) (h : KI σ σ1 n u r) (hM : nM σ1 n) (h0 : 0 ≤ u) (hl : u < σ1 1 n 8) : KF σ n u := by
  intro C hC hs
  obtain ⟨hC', hs'⟩ := KI_clo h hC hs
  have hB1 := pK.B h.1 hB
  obtain ⟨g, t, H, T, hu, hc⟩ := hC'
  obtain ⟨m1, m2, m3⟩ := hM.2.2.1
  rcases m3 with m3 | ⟨o, v, m3⟩
  · omega
  · have h1 := clo_ge (u := u) hB1 hM hs' H T v
    have := hu o v
    simp only at m3
    omega
theorem KI_both {σ σ1 σ2 : Mem} {n : Nat} {u r : Int} (hB : nB σ n) (h : KI σ σ1 n u r) (hM : nM σ1 n) (hF : FrG (pAh n) σ1 σ2) (hb : bth σ2 n u) : KF σ n u := by
  intro C hC hs
  obtain ⟨hC', hs'⟩ := KI_clo h hC hs
  have hB1 := pK.B h.1 hB
  have e : ∀ t, t ≠ 20 → σ2 t n = σ1 t n := fun t ht => hF.f t n (fun x q => ht q.1)
  obtain ⟨x, y, vx, vy, hne, hm, w1, w2⟩ := hb
  unfold wy at w1 w2
  rw [e 15 (by omega)] at vx vy
  rw [e 16 (by omega)] at hm
  rw [e 17 (by omega), e 21 (by omega), e 22 (by omega)] at w1 w2
  have c1 := clo_wy hB1 hM hC' hs' vx vy hne hm w1
  have c2 := clo_wy hB1 hM hC' hs' vy vx (Ne.symm hne) hm.symm w2
  obtain ⟨g, t, H, T, hu, hc⟩ := hC'
  have h1 := (H x vx).2.1 y vy (Or.inr ⟨hm.symm, c1⟩)
  have h2 := (H y vy).2.1 x vx (Or.inr ⟨hm, c2⟩)
  have h3 := (hB1.2.1 x vx).2.2.1
  have h4 := (hB1.2.1 y vy).2.2.1
  omega
theorem KI_all {σ σ' : Mem} {n : Nat} {u r : Int} (h : KI σ σ' n u r) (hr : 25 ≤ r) : False := by
  have := (dc_r (σ 19 n) (σ' 20 n)).2
  have := h.2.2.2.2.2
  omega
theorem KI_step {σ σ1 σ2 : Mem} {n : Nat} {u r R : Int} {Pr : Int → Int → Int → Prop} (hB : nB σ n) (h : KI σ σ1 n u r) (hM : nM σ1 n) (hl : σ1 1 n 8 ≤ u) (hF : FoI σ1 σ2 n u Pr R) (hP : ∀ m i j, 0 ≤ m → m < 4 → 0 ≤ i → i < j → j < 4 → Pr m i j) : (R = 0 → KT σ σ2 n u) ∧ (R ≠ 0 → KI σ σ2 n u (r + 1)) := by
  have hB1 := pK.B h.1 hB
  obtain ⟨a1, a2, a3, a4, a5, a6⟩ := h
  have hh : KI σ σ1 n u r := ⟨a1, a2, a3, a4, a5, a6⟩
  obtain ⟨b1, b2, b3, b4, b5, b6, b7⟩ := hF
  have e15 := pK.f a1 15 (by omega)
  have e16 := pK.f a1 16 (by omega)
  have e17 := pK.f a1 17 (by omega)
  have e18 := pK.f a1 18 (by omega)
  have e19 := pK.f a1 19 (by omega)
  have hlst : lst σ n u (σ 20 n) (σ2 20 n) := by
    intro C hC hs
    obtain ⟨hC', hs'⟩ := KI_clo hh hC hs
    intro o' o v' v hm hb
    rw [← e15] at v' v
    rw [← e16] at hm
    have hj := vOp_j v'
    rcases b4 o (o' / 4) v hj.1 hj.2.1 hb with c | c
    · exact hs' o' o v' v hm c
    · have eo := (hB1.2.1 o' v').2.2.2.2.2.2
      rw [hm] at eo
      rw [eo] at c
      have hne : o ≠ o' := by
        intro q
        subst q
        have := (b2 o (by rw [b1.f 15 n (by rintro x ⟨q, -⟩; omega)]; exact v)).2.2 (o / 4) hj.1 hj.2.1 hb
        exact this.1 rfl
      exact clo_wy hB1 hM hC' hs' v v' hne hm.symm c
  have hmn : mnA (σ 15 n) (σ 20 n) (σ2 20 n) := by
    rw [← e15]
    exact mnA.t (by rw [e15]; exact a3) b3
  refine ⟨fun q => ?_, fun q => ?_⟩
  · obtain ⟨c1, c2⟩ := b7 q
    have f : ∀ t, σ2 t n = σ1 t n := by
      intro t
      by_cases c : t = 20
      · subst c
        exact c1
      · exact b1.f t n (fun x q => c q.1)
    have hM2 : nM σ2 n := by
      unfold nM
      simp only [f]
      exact hM
    refine ⟨a1.t (pAh.K b1), b2, hmn, hlst, hM2, by rw [f]; exact hl, ?_⟩
    rw [c1, ← e15, ← e16, ← e17, ← e18]
    refine ⟨σ1 21 n, σ1 22 n, hM.1, hM.2.1, fun o v => ?_, fun x y vx vy hne hm hw => ?_⟩
    · have := hM.2.2.1.2.1 o v
      simp only at this
      omega
    · have hjx := vOp_j vx
      have hjy := vOp_j vy
      obtain ⟨m0, m1, -, -, -, -, ox⟩ := hB1.2.1 x vx
      have oy := (hB1.2.1 y vy).2.2.2.2.2.2
      rw [← hm] at oy
      have hne4 : x / 4 ≠ y / 4 := by
        intro q
        rw [q] at ox
        omega
      by_cases hd : hasB (σ1 20 n x) (y / 4)
      · exact hd
      · exfalso
        by_cases hd2 : hasB (σ1 20 n y) (x / 4)
        · have h1 := (hM.1 y vy).2.1 x vx (Or.inr ⟨hm, hd2⟩)
          have h2 := hM.2.2.1.2.1 y vy
          simp only at h2
          omega
        · rcases (show x / 4 < y / 4 ∨ y / 4 < x / 4 by omega) with q4 | q4
          · have := c2 (σ1 16 n x) (x / 4) (y / 4) (hP _ _ _ m0 m1 hjx.1 q4 hjy.2.1) (by rw [ox, oy]; exact ⟨vx.1, vy.1, hd2, hd⟩)
            rw [ox, oy] at this
            exact this.1 hw
          · have := c2 (σ1 16 n x) (y / 4) (x / 4) (hP _ _ _ m0 m1 hjy.1 q4 hjx.2.1) (by rw [ox, oy]; exact ⟨vy.1, vx.1, hd, hd2⟩)
            rw [ox, oy] at this
            exact this.2 hw
  · refine ⟨a1.t (pAh.K b1), b2, hmn, hlst, by omega, ?_⟩
    rw [e19] at b6
    omega
theorem KI_step4 {σ σ1 s1 s2 s3 s4 : Mem} {n : Nat} {u r r0 r1 r2 r3 : Int} (hB : nB σ n) (h : KI σ σ1 n u r) (hM : nM σ1 n) (hl : σ1 1 n 8 ≤ u) (h0 : FoI σ1 s1 n u (prM 0) r0) (h1 : FoI s1 s2 n u (prM 1) r1) (h2 : FoI s2 s3 n u (prM 2) r2) (h3 : FoI s3 s4 n u (prM 3) r3) : (r0 + r1 + r2 + r3 = 0 → KT σ s4 n u) ∧ (r0 + r1 + r2 + r3 ≠ 0 → KI σ s4 n u (r + 1)) := by
  refine KI_step hB h hM hl (FoI_t (FoI_t (FoI_t h0 h1) h2) h3) (fun m i j m0 m1 i0 i1 j1 => ?_)
  rcases (show m = 0 ∨ m = 1 ∨ m = 2 ∨ m = 3 by omega) with rfl | rfl | rfl | rfl
  · exact Or.inl (Or.inl (Or.inl ⟨rfl, i0, i1, j1⟩))
  · exact Or.inl (Or.inl (Or.inr ⟨rfl, i0, i1, j1⟩))
  · exact Or.inl (Or.inr ⟨rfl, i0, i1, j1⟩)
  · exact Or.inr ⟨rfl, i0, i1, j1⟩
/-- longestPair -/
def lpg (σ : Mem) (n : Nat) (c : Int) : Prop := ∃ x y, c = 16 * x + y ∧ vOp (σ 15 n) x ∧ vOp (σ 15 n) y ∧ x ≠ y ∧ σ 16 n x = σ 16 n y ∧ und (σ 20 n) x y
def prL (i j i' j' : Int) : Prop := 0 ≤ i' ∧ i' < j' ∧ j' < 16 ∧ i' / 4 = j' / 4 ∧ (i' < i ∨ (i' = i ∧ j' < j))
def LPi (σ : Mem) (n : Nat) (c g i j : Int) : Prop := (c = -6 ∧ g = 0 ∧ ∀ i' j', prL i j i' j' → ¬ und (σ 20 n) (σ 19 n i') (σ 19 n j')) ∨ (0 < g ∧ g ≤ 5000 ∧ lpg σ n c)
theorem LPi_0 {σ : Mem} {n : Nat} : LPi σ n (-6) 0 0 1 := Or.inl ⟨rfl, rfl, fun i' j' p => by unfold prL at p; omega⟩
theorem LPi_row {σ : Mem} {n : Nat} {c g i j : Int} (h : LPi σ n c g i j) (hj : j % 4 = 0 ∨ 16 ≤ j) (hij : i < j ∧ j ≤ 4 * (i / 4) + 4) : LPi σ n c g (i + 1) (i + 1 + 1) := by
  rcases h with ⟨a, b, d⟩ | h
  · exact Or.inl ⟨a, b, fun i' j' p => d i' j' (by unfold prL at *; omega)⟩
  · exact Or.inr h
theorem LPi_no {σ : Mem} {n : Nat} {c g i j : Int} (h : LPi σ n c g i j) (hn : ¬ und (σ 20 n) (σ 19 n i) (σ 19 n j)) : LPi σ n c g i (j + 1) := by
  rcases h with ⟨a, b, d⟩ | h
  · refine Or.inl ⟨a, b, fun i' j' p => ?_⟩
    by_cases q : i' = i ∧ j' = j
    · rw [q.1, q.2]
      exact hn
    · exact d i' j' (by unfold prL at *; omega)
  · exact Or.inr h
theorem LPi_low {σ : Mem} {n : Nat} {c g i j w : Int} (h : LPi σ n c g i j) (hg : w ≤ g) (hw : 0 < w) : LPi σ n c g i (j + 1) := by
  rcases h with ⟨a, b, d⟩ | h
  · omega
  · exact Or.inr h
theorem LPi_g {σ : Mem} {n : Nat} {c g i j : Int} (h : LPi σ n c g i j) : 0 ≤ g ∧ g ≤ 5000 := by
  rcases h with ⟨a, b, d⟩ | ⟨h, h2, -⟩ <;> omega
theorem LPi_take {σ : Mem} {n : Nat} {c i j w : Int} (hw : 0 < w) (hw2 : w ≤ 5000) (hc : lpg σ n c) : LPi σ n c w i (j + 1) := Or.inr ⟨hw, hw2, hc⟩
def LPe (σ : Mem) (n : Nat) (c : Int) : Prop := (c = -6 ∧ ∀ m i j, 0 ≤ m → m < 4 → 0 ≤ i → i < j → j < 4 → ¬ und (σ 20 n) (σ 19 n (4 * m + i)) (σ 19 n (4 * m + j))) ∨ lpg σ n c
theorem LPi_end {σ : Mem} {n : Nat} {c g i j : Int} (h : LPi σ n c g i j) (hi : 16 ≤ i) : LPe σ n c := by
  rcases h with ⟨a, b, d⟩ | ⟨-, -, h⟩
  · exact Or.inl ⟨a, fun m i' j' m0 m1 i0 i1 j1 => d _ _ (by unfold prL; omega)⟩
  · exact Or.inr h
/-- keeps: the machines below e are gone through -/
def prE (e m i j : Int) : Prop := 0 ≤ m ∧ m < e ∧ 0 ≤ i ∧ i < j ∧ j < 4
def KJ (σ σ' : Mem) (n : Nat) (u r e nw : Int) : Prop := ∃ σ1, KI σ σ1 n u r ∧ nM σ1 n ∧ σ1 1 n 8 ≤ u ∧ FoI σ1 σ' n u (prE e) nw
theorem KJ_0 {σ σ' σ1 : Mem} {n : Nat} {u r : Int} (hF : Frm n σ' σ1) (h : KI σ σ' n u r) (hM : nM σ1 n) (hl : σ1 1 n 8 ≤ u) : KJ σ σ1 n u r 0 0 := ⟨σ1, KI_meas hF h, hM, hl, FoI_0 (KI_meas hF h).2.1 (fun m i j p => by unfold prE at p; omega)⟩
theorem KJ_s {σ σ' σ2 : Mem} {n : Nat} {u r e nw r' : Int} (h : KJ σ σ' n u r e nw) (hF : FoI σ' σ2 n u (prM e) r') : KJ σ σ2 n u r (e + 1) (nw + r') := by
  obtain ⟨σ1, h1, h2, h3, h4⟩ := h
  refine ⟨σ1, h1, h2, h3, FoI_w (FoI_t h4 hF) (fun m i j p => ?_)⟩
  unfold prE prM at *
  by_cases q : m = e
  · exact Or.inr ⟨q, p.2.2.1, p.2.2.2.1, p.2.2.2.2⟩
  · exact Or.inl ⟨p.1, by omega, p.2.2.1, p.2.2.2.1, p.2.2.2.2⟩
theorem KJ_end {σ σ' : Mem} {n : Nat} {u r e nw : Int} (hB : nB σ n) (h : KJ σ σ' n u r e nw) (he : 4 ≤ e) : (nw = 0 → KT σ σ' n u) ∧ (nw ≠ 0 → KI σ σ' n u (r + 1)) := by
  obtain ⟨σ1, h1, h2, h3, h4⟩ := h
  exact KI_step hB h1 h2 h3 h4 (fun m i j m0 m1 i0 i1 j1 => ⟨m0, by omega, i0, i1, j1⟩)
theorem KJ_bad {σ σ' : Mem} {n : Nat} {u r e nw : Int} (hB : nB σ n) (h : KJ σ σ' n u r e nw) (hb : bth σ' n u) : KF σ n u := by
  obtain ⟨σ1, h1, h2, h3, h4⟩ := h
  exact KI_both hB h1 h2 h4.1 hb
theorem KJ_st {σ σ' : Mem} {n : Nat} {u r e nw : Int} (hB : nB σ n) (h : KJ σ σ' n u r e nw) : FrG (pK n) σ σ' ∧ nB σ' n ∧ nA σ' n ∧ nH σ' n ∧ 0 ≤ nw ∧ nw ≤ 24 := by
  obtain ⟨σ1, h1, h2, h3, h4⟩ := h
  have hr := dc_r (σ1 19 n) (σ' 20 n)
  have hr2 := dc_r (σ1 19 n) (σ1 20 n)
  have h5 := h4.2.2.2.2.1
  have h6 := h4.2.2.2.2.2.1
  exact ⟨h1.1.t (pAh.K h4.1), h4.B (pK.B h1.1 hB), h4.2.1, h4.H (nM_H h2), h5, by omega⟩
