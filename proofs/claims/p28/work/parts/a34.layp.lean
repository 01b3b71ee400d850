/-! the reference's layPlans -/
theorem nuQ_cg {n : Int} {v w : Int → Int} (h : ∀ k, 0 ≤ k → k < n → v k = w k) : nuQ n v = nuQ n w := by
  have h0 := h 0 (by omega)
  have h1 := h 1 (by omega)
  have h2 := h 2 (by omega)
  have h3 := h 3 (by omega)
  unfold nuQ
  by_cases c0 : 0 < n
  · rw [if_pos c0, if_pos c0, h0 c0]
    by_cases c1 : 1 < n
    · rw [if_pos c1, if_pos c1, h1 c1]
      by_cases c2 : 2 < n
      · rw [if_pos c2, if_pos c2, h2 c2]
        by_cases c3 : 3 < n
        · rw [if_pos c3, if_pos c3, h3 c3]
        · rw [if_neg c3, if_neg c3]
      · rw [if_neg c2, if_neg c2, if_neg (show ¬ 3 < n by omega), if_neg (show ¬ 3 < n by omega)]
    · rw [if_neg c1, if_neg c1, if_neg (show ¬ 2 < n by omega), if_neg (show ¬ 2 < n by omega), if_neg (show ¬ 3 < n by omega), if_neg (show ¬ 3 < n by omega)]
  · rw [if_neg c0, if_neg c0, if_neg (show ¬ 1 < n by omega), if_neg (show ¬ 1 < n by omega), if_neg (show ¬ 2 < n by omega), if_neg (show ¬ 2 < n by omega), if_neg (show ¬ 3 < n by omega), if_neg (show ¬ 3 < n by omega)]
/-- an order of the same jobs, the first f places of which stay -/
def arO (n f : Int) (q0 v : Int → Int) : Prop := PRM n v q0 ∧ ∀ k, 0 ≤ k → k < f → v k = q0 k
theorem arO_cg {n f : Int} {q0 v w : Int → Int} (hf : f ≤ n) (h : arO n f q0 v) (e : ∀ k, 0 ≤ k → k < n → w k = v k) : arO n f q0 w := ⟨PRM_cg h.1 e, fun k a b => by rw [e k a (by omega)]; exact h.2 k a b⟩
def SOi (σ σ' : Mem) (r n f a : Int) : Prop := FrG (pRw r n) σ σ' ∧ arO n f (vR σ r) (vR σ' r) ∧ ∀ i j, f ≤ i → i < j → j < a → vR σ' r i < vR σ' r j
def SOj (σ σ' : Mem) (r n f a b : Int) : Prop := FrG (pRw r n) σ σ' ∧ arO n f (vR σ r) (vR σ' r) ∧ ∀ i j, f ≤ i → i < j → j ≤ a → j ≠ b → vR σ' r i < vR σ' r j
theorem SOi_0 {σ : Mem} {r n f : Int} (h : PRM n (vR σ r) (vR σ r)) : SOi σ σ r n f f := ⟨FrG.r, ⟨h, fun _ _ _ => rfl⟩, fun i j a b c => by omega⟩
theorem SOj_0 {σ σ' : Mem} {r n f a : Int} (h : SOi σ σ' r n f a) : SOj σ σ' r n f a a := ⟨h.1, h.2.1, fun i j x y z w => h.2.2 i j x y (by omega)⟩
theorem SOj_end {σ σ' : Mem} {r n f a b : Int} (h : SOj σ σ' r n f a b) (f0 : 0 ≤ f) (fb : f ≤ b) (ba : b ≤ a) (an : a < n) (he : b ≤ f ∨ vR σ' r (b - 1) ≤ vR σ' r b) : SOi σ σ' r n f (a + 1) := by
  refine ⟨h.1, h.2.1, fun i j x y z => ?_⟩
  by_cases c : j = b
  · rcases he with q | q
    · omega
    · have ne := h.2.1.1.2.2 (b - 1) b (by omega) (by omega) (by omega) (by omega)
      have lt : vR σ' r (b - 1) < vR σ' r b := by
        rcases Int.lt_or_le (vR σ' r (b - 1)) (vR σ' r b) with w | w
        · exact w
        · have := ne (by omega)
          omega
      rw [c]
      by_cases d : i = b - 1
      · rw [d]
        exact lt
      · have := h.2.2 i (b - 1) x (by omega) (by omega) (by omega)
        omega
  · exact h.2.2 i j x y (by omega) c
theorem SOj_s {σ σ' σ2 : Mem} {r n f a b : Int} (h : SOj σ σ' r n f a b) (f0 : 0 ≤ f) (fb : f < b) (ba : b ≤ a) (an : a < n) (hv : vR σ' r b < vR σ' r (b - 1)) (h2 : σ2 = up (up σ' 38 0 (r + (b - 1)) (σ' 38 0 (r + b))) 38 0 (r + b) (σ' 38 0 (r + (b - 1)))) : SOj σ σ2 r n f a (b - 1) := by
  have e : ∀ k, vR σ2 r k = if k = b then vR σ' r (b - 1) else if k = b - 1 then vR σ' r b else vR σ' r k := fun k => by
    rw [h2, vR_u, vR_u]
    rfl
  obtain ⟨h1, ⟨hp, hf⟩, hs⟩ := h
  refine ⟨by rw [h2]; exact (h1.u ⟨rfl, rfl, by omega, by omega⟩).u ⟨rfl, rfl, by omega, by omega⟩, ⟨PRM_inv (p := fun k => if k = b then b - 1 else if k = b - 1 then b else k) hp (fun k k0 k1 => ?_) (fun k k0 k1 => ?_), fun k k0 k1 => ?_⟩, fun i j x y z w => ?_⟩
  · by_cases c : k = b
    · rw [if_pos c, if_neg (by omega), if_pos rfl]
      omega
    · rw [if_neg c]
      by_cases d : k = b - 1
      · rw [if_pos d, if_pos rfl]
        omega
      · rw [if_neg d, if_neg c, if_neg d]
        omega
  · rw [e k]
    by_cases c : k = b
    · rw [if_pos c, if_pos c]
    · rw [if_neg c, if_neg c]
      by_cases d : k = b - 1
      · rw [if_pos d, if_pos d]
      · rw [if_neg d, if_neg d]
  · rw [e k, if_neg (by omega), if_neg (by omega)]
    exact hf k k0 k1
  · rw [e i, e j]
    by_cases c : j = b
    · rw [if_pos c, if_neg (show ¬ i = b by omega)]
      by_cases d : i = b - 1
      · rw [if_pos d]
        exact hv
      · rw [if_neg d]
        exact hs i (b - 1) x (by omega) (by omega) (by omega)
    · rw [if_neg c, if_neg w]
      by_cases d : i = b
      · rw [if_pos d]
        exact hs (b - 1) j (by omega) (by omega) z c
      · rw [if_neg d]
        by_cases g : i = b - 1
        · rw [if_pos g]
          exact hs b j (by omega) (by omega) z c
        · rw [if_neg g]
          exact hs i j x y z c
def pLP (m n : Int) (t a : Nat) (x : Int) : Prop := a = 0 ∧ ((t = 38 ∧ 49 + 4 * m ≤ x ∧ x < 49 + 4 * m + n) ∨ (t = 48 ∧ 96 * m ≤ x ∧ x < 96 * m + 96) ∨ (t = 49 ∧ x = m))
/-- the place i of the plan k of the machine m -/
def plR (σ : Mem) (m k i : Int) : Int := σ 48 0 (4 * (24 * m + k) + i)
def LPs (σ σ' : Mem) (m f n : Int) : Prop := FrG (pLP m n) σ σ' ∧ (0 ≤ σ' 49 0 m ∧ σ' 49 0 m ≤ 24) ∧ arO n f (vR σ (49 + 4 * m)) (vR σ' (49 + 4 * m)) ∧ (∀ k, 0 ≤ k → k < σ' 49 0 m → arO n f (vR σ (49 + 4 * m)) (plR σ' m k)) ∧ ∀ k k', 0 ≤ k → k < k' → k' < σ' 49 0 m → nuQ n (plR σ' m k) < nuQ n (plR σ' m k')
def LPm (σ σ' : Mem) (m f n : Int) : Prop := (∀ k, 0 ≤ k → k < σ' 49 0 m → nuQ n (plR σ' m k) < nuQ n (vR σ' (49 + 4 * m))) ∧ σ' 49 0 m ≤ rkQ n (vR σ' (49 + 4 * m)) ∧ ∀ g, arO n f (vR σ (49 + 4 * m)) g → (∃ k, 0 ≤ k ∧ k < σ' 49 0 m ∧ ∀ i, 0 ≤ i → i < n → plR σ' m k i = g i) ∨ nuQ n (vR σ' (49 + 4 * m)) ≤ nuQ n g
def LPz (σ σ' : Mem) (m f n : Int) : Prop := 1 ≤ σ' 49 0 m ∧ ∀ g, arO n f (vR σ (49 + 4 * m)) g → ∃ k, 0 ≤ k ∧ k < σ' 49 0 m ∧ ∀ i, 0 ≤ i → i < n → plR σ' m k i = g i
def LPI (σ σ' : Mem) (m f n mo : Int) : Prop := LPs σ σ' m f n ∧ ((mo = 1 ∧ LPm σ σ' m f n) ∨ (mo = 0 ∧ LPz σ σ' m f n))
def LPc (σ σ' : Mem) (m f n k : Int) : Prop := LPs σ σ' m f n ∧ LPm σ σ' m f n ∧ ∀ i, 0 ≤ i → i < k → plR σ' m (σ' 49 0 m) i = vR σ' (49 + 4 * m) i
def LPq (σ σ' : Mem) (m f n : Int) : Prop := LPs σ σ' m f n ∧ 1 ≤ σ' 49 0 m ∧ (∀ k, 0 ≤ k → k < σ' 49 0 m → nuQ n (plR σ' m k) ≤ nuQ n (vR σ' (49 + 4 * m))) ∧ σ' 49 0 m ≤ rkQ n (vR σ' (49 + 4 * m)) + 1 ∧ ∀ g, arO n f (vR σ (49 + 4 * m)) g → (∃ k, 0 ≤ k ∧ k < σ' 49 0 m ∧ ∀ i, 0 ≤ i → i < n → plR σ' m k i = g i) ∨ nuQ n (vR σ' (49 + 4 * m)) < nuQ n g
def LPE (σ σ' : Mem) (m f : Int) : Prop := LPs σ σ' m f (rLn σ m) ∧ LPz σ σ' m f (rLn σ m)
/-- digits -/
def dgQ (n : Int) (q : Int → Int) : Prop := ∀ k, 0 ≤ k → k < n → 0 ≤ q k ∧ q k < 4
theorem PRM_dg {n : Int} {v q : Int → Int} (h : PRM n v q) (d : dgQ n q) : dgQ n v := fun k a b => by
  obtain ⟨x, x0, x1, e⟩ := h.1 k a b
  rw [e]
  exact d x x0 x1
theorem LP_0 {σ σ1 σ2 : Mem} {m f n a : Int} (n4 : n ≤ 4) (f0 : 0 ≤ f) (d : dgQ n (vR σ (49 + 4 * m))) (h : SOi σ σ1 (49 + 4 * m) n f a) (ha : n ≤ a) (h2 : σ2 = up σ1 49 0 m 0) : LPI σ σ2 m f n 1 := by
  obtain ⟨h1, h3, h4⟩ := h
  have e : vR σ2 (49 + 4 * m) = vR σ1 (49 + 4 * m) := by
    funext k
    unfold vR
    rw [h2, up_ap, if_neg (by rintro ⟨q, -⟩; omega)]
  have e0 : σ2 49 0 m = 0 := by rw [h2, up_ap, if_pos ⟨rfl, rfl, rfl⟩]
  have hF : FrG (pLP m n) σ σ2 := by
    rw [h2]
    exact (h1.w (by rintro t a x ⟨q1, q2, q3, q4⟩; exact ⟨q2, Or.inl ⟨q1, q3, q4⟩⟩)).u ⟨rfl, Or.inr (Or.inr ⟨rfl, rfl⟩)⟩
  refine ⟨⟨hF, by omega, by rw [e]; exact h3, fun k a b => by omega, fun k k' a b c => by omega⟩, Or.inl ⟨rfl, fun k a b => by omega, ?_, fun g hg => Or.inr ?_⟩⟩
  · rw [e0]
    exact (rkQ_r _ _).1
  · rw [e]
    exact (DS_g n4 f0 h3.1 hg.1 d (fun k a b c => by rw [hg.2 k a b, h3.2 k a b])).2 (fun k a b => h4 k (k + 1) a (by omega) (by omega))
theorem LPc_0 {σ σ' : Mem} {m f n mo : Int} (h : LPI σ σ' m f n mo) (hm : mo ≠ 0) : LPc σ σ' m f n 0 := by
  obtain ⟨h1, h2 | h2⟩ := h
  · exact ⟨h1, h2.2, fun i a b => by omega⟩
  · exact absurd h2.1 hm
theorem LPc_s {σ σ' σ2 : Mem} {m f n k : Int} (n4 : n ≤ 4) (fn : f ≤ n) (h : LPc σ σ' m f n k) (k0 : 0 ≤ k) (k1 : k < n) (h2 : σ2 = up σ' 48 0 (4 * (24 * m + σ' 49 0 m) + k) (vR σ' (49 + 4 * m) k)) : LPc σ σ2 m f n (k + 1) := by
  obtain ⟨⟨a1, a2, a3, a4, a5⟩, ⟨b1, b2, b3⟩, c⟩ := h
  have eM : σ2 49 0 m = σ' 49 0 m := by rw [h2, up_ap, if_neg (by rintro ⟨q, -⟩; omega)]
  have eV : vR σ2 (49 + 4 * m) = vR σ' (49 + 4 * m) := by
    funext k
    unfold vR
    rw [h2, up_ap, if_neg (by rintro ⟨q, -⟩; omega)]
  have hM : σ' 49 0 m ≤ 23 := by
    have := (rkQ_r n (vR σ' (49 + 4 * m))).2
    omega
  have eP : ∀ k', k' < σ' 49 0 m → ∀ i, 0 ≤ i → i < n → plR σ2 m k' i = plR σ' m k' i := fun k' q i i0 i1 => by
    unfold plR
    rw [h2, up_ap, if_neg (by rintro ⟨-, -, w⟩; omega)]
  refine ⟨⟨?_, by rw [eM]; exact a2, by rw [eV]; exact a3, fun k' p q => ?_, fun k' k'' p q w => ?_⟩, ⟨fun k' p q => ?_, by rw [eM, eV]; exact b2, fun g hg => ?_⟩, fun i i0 i1 => ?_⟩
  · rw [h2]
    exact a1.u ⟨rfl, Or.inr (Or.inl ⟨rfl, by omega, by omega⟩)⟩
  · rw [eM] at q
    exact arO_cg fn (a4 k' p q) (eP k' q)
  · rw [eM] at w
    rw [nuQ_cg (eP k' (by omega)), nuQ_cg (eP k'' w)]
    exact a5 k' k'' p q w
  · rw [eM] at q
    rw [eV, nuQ_cg (eP k' q)]
    exact b1 k' p q
  · rw [eM, eV]
    rcases b3 g hg with ⟨x, x0, x1, e⟩ | z
    · exact Or.inl ⟨x, x0, x1, fun i i0 i1 => by rw [eP x x1 i i0 i1]; exact e i i0 i1⟩
    · exact Or.inr z
  · rw [eM, eV]
    by_cases z : i = k
    · unfold plR
      rw [h2, up_ap, z, if_pos ⟨rfl, rfl, rfl⟩]
    · have := c i i0 (by omega)
      unfold plR at this ⊢
      rw [h2, up_ap, if_neg (by rintro ⟨-, -, w⟩; omega)]
      exact this
theorem LPc_end {σ σ' σ2 : Mem} {m f n k : Int} (n4 : n ≤ 4) (fn : f ≤ n) (d : dgQ n (vR σ (49 + 4 * m))) (h : LPc σ σ' m f n k) (hk : n ≤ k) (h2 : σ2 = up σ' 49 0 m (σ' 49 0 m + 1)) : LPq σ σ2 m f n := by
  obtain ⟨⟨a1, a2, a3, a4, a5⟩, ⟨b1, b2, b3⟩, c⟩ := h
  have eM : σ2 49 0 m = σ' 49 0 m + 1 := by rw [h2, up_ap, if_pos ⟨rfl, rfl, rfl⟩]
  have eV : vR σ2 (49 + 4 * m) = vR σ' (49 + 4 * m) := by
    funext k
    unfold vR
    rw [h2, up_ap, if_neg (by rintro ⟨q, -⟩; omega)]
  have hM : σ' 49 0 m ≤ 23 := by
    have := (rkQ_r n (vR σ' (49 + 4 * m))).2
    omega
  have eP : plR σ2 m = plR σ' m := by
    funext k' i
    unfold plR
    rw [h2, up_ap, if_neg (by rintro ⟨q, -⟩; omega)]
  have eL : ∀ i, 0 ≤ i → i < n → plR σ' m (σ' 49 0 m) i = vR σ' (49 + 4 * m) i := fun i i0 i1 => c i i0 (by omega)
  refine ⟨⟨?_, by omega, by rw [eV]; exact a3, fun k' p q => ?_, fun k' k'' p q w => ?_⟩, by omega, fun k' p q => ?_, by rw [eM, eV]; omega, fun g hg => ?_⟩
  · rw [h2]
    exact a1.u ⟨rfl, Or.inr (Or.inr ⟨rfl, rfl⟩)⟩
  · rw [eP]
    by_cases z : k' = σ' 49 0 m
    · rw [z]
      exact arO_cg fn a3 eL
    · exact a4 k' p (by omega)
  · rw [eP]
    by_cases z : k'' = σ' 49 0 m
    · rw [z, nuQ_cg eL]
      exact b1 k' p (by omega)
    · exact a5 k' k'' p q (by omega)
  · rw [eP, eV]
    by_cases z : k' = σ' 49 0 m
    · rw [z, nuQ_cg eL]
      exact Int.le_refl _
    · have := b1 k' p (by omega)
      omega
  · rw [eV, eM, eP]
    rcases b3 g hg with ⟨x, x0, x1, e⟩ | z
    · exact Or.inl ⟨x, x0, by omega, e⟩
    · by_cases w : nuQ n (vR σ' (49 + 4 * m)) = nuQ n g
      · left
        refine ⟨σ' 49 0 m, a2.1, by omega, fun i i0 i1 => ?_⟩
        rw [eL i i0 i1]
        exact nuQ_eq n4 (PRM_dg a3.1 d) (PRM_dg hg.1 d) w i i0 i1
      · right
        omega
theorem LP_n {σ σ' : Mem} {m f n : Int} (n4 : n ≤ 4) (f0 : 0 ≤ f) (d : dgQ n (vR σ (49 + 4 * m))) (h : LPq σ σ' m f n) (hd : ∀ k, f ≤ k → k < n - 1 → vR σ' (49 + 4 * m) (k + 1) < vR σ' (49 + 4 * m) k) : LPI σ σ' m f n 0 := by
  obtain ⟨h1, h2, h3, h4, h5⟩ := h
  refine ⟨h1, Or.inr ⟨rfl, h2, fun g hg => ?_⟩⟩
  rcases h5 g hg with z | z
  · exact z
  · have := (DS_g n4 f0 h1.2.2.1.1 hg.1 d (fun k a b c => by rw [hg.2 k a b, h1.2.2.1.2 k a b])).1 hd
    omega
theorem LP_y {σ σ' σ2 : Mem} {m f n a b : Int} (n4 : n ≤ 4) (f0 : 0 ≤ f) (d : dgQ n (vR σ (49 + 4 * m))) (h : LPq σ σ' m f n) (hF : FrG (pRw (49 + 4 * m) n) σ' σ2) (hx : NXr n (vR σ' (49 + 4 * m)) (vR σ2 (49 + 4 * m)) a b) (fa : f ≤ a) : LPI σ σ2 m f n 1 := by
  obtain ⟨⟨a1, a2, a3, a4, a5⟩, h2, h3, h4, h5⟩ := h
  have u := NX_up n4 a3.1 d hx
  have eM : σ2 49 0 m = σ' 49 0 m := hF 49 0 m (by rintro ⟨q, -⟩; omega)
  have eP : plR σ2 m = plR σ' m := by
    funext k' i
    exact hF 48 0 _ (by rintro ⟨q, -⟩; omega)
  refine ⟨⟨a1.t (hF.w (by rintro t a x ⟨q1, q2, q3, q4⟩; exact ⟨q2, Or.inl ⟨q1, q3, q4⟩⟩)), by omega, ⟨NX_p a3.1 hx, fun k k0 k1 => ?_⟩, by rw [eM, eP]; exact a4, by rw [eM, eP]; exact a5⟩, Or.inl ⟨rfl, ?_, by rw [eM]; omega, fun g hg => ?_⟩⟩
  · have a1 := hx.1.2.1
    rw [hx.2 k k0 (by omega), if_pos (by omega)]
    exact a3.2 k k0 k1
  · rw [eM, eP]
    intro k k0 k1
    have := h3 k k0 k1
    omega
  · rw [eM, eP]
    rcases h5 g hg with z | z
    · exact Or.inl z
    · rcases u.2.2 g hg.1 with w | w
      · omega
      · exact Or.inr w
/-- what rWF says of an order -/
theorem rWF_q {σ : Mem} (h : rWF σ) {m : Int} (m0 : 0 ≤ m) (m1 : m < 4) : dgQ (rLn σ m) (vR σ (49 + 4 * m)) ∧ PRM (rLn σ m) (vR σ (49 + 4 * m)) (vR σ (49 + 4 * m)) ∧ 0 ≤ rLn σ m ∧ rLn σ m ≤ 4 := by
  have e : ∀ k, vR σ (49 + 4 * m) k = rQ σ (4 * m + k) := fun k => by
    unfold vR rQ
    rw [Int.add_assoc]
  obtain ⟨w1, w2, w3, w4, w5, w6, w7, w8⟩ := h.1
  refine ⟨fun k a b => ?_, PRM_r (fun k k' a b c d q => ?_), w5 m m0 m1⟩
  · rw [e]
    have := w6 m k m0 m1 a b
    exact ⟨this.1, this.2.1⟩
  · rw [e, e] at q
    exact w7 m k k' m0 m1 a b c d q
