/-! the bound of a machine, by the routes -/
theorem isC_cg2 {e e' : Int → Prop} {r r' q q' l : Int → Int} {t c : Int} (he : ∀ k, 0 ≤ k → k < 4 → (e' k ↔ e k)) (hr : ∀ k, 0 ≤ k → k < 4 → e k → r' k = r k ∧ q' k = q k) (h : isC e r q l t c) : isC e' r' q' l t c := by
  have hj : ∀ k, 0 ≤ k → k < 4 → (jav e' r' l t k ↔ jav e r l t k) := fun k a b => by
    unfold jav
    rw [he k a b]
    constructor
    · rintro ⟨x, y, z⟩
      exact ⟨x, y, by rw [(hr k a b x).1] at z; exact z⟩
    · rintro ⟨x, y, z⟩
      exact ⟨x, y, by rw [(hr k a b x).1]; exact z⟩
  rcases h with ⟨a1, a2⟩ | ⟨a1, a2, a3, a4, a5⟩
  · exact Or.inl ⟨a1, fun k p w z => a2 k p w ((hj k p w).mp z)⟩
  · have qc := (hr c a1 a2 a3.1).2
    refine Or.inr ⟨a1, a2, (hj c a1 a2).mpr a3, fun k p w z => ?_, fun k p w z => ?_⟩
    · have z' := (hj k p w).mp z
      rw [(hr k p w z'.1).2, qc]
      exact a4 k p w z'
    · have z' := (hj k p (by omega)).mp z
      rw [(hr k p (by omega) z'.1).2, qc]
      exact a5 k p w z'
theorem JR_cg2 {e e' : Int → Prop} {p p' r r' q q' : Int → Int} (he : ∀ k, 0 ≤ k → k < 4 → (e' k ↔ e k)) (hr : ∀ k, 0 ≤ k → k < 4 → e k → p' k = p k ∧ r' k = r k ∧ q' k = q k) : ∀ {t : Nat} {l : Int → Int} {g : Int}, JR e p r q t l g → JR e' p' r' q' t l g := by
  intro t
  induction t with
  | zero =>
    intro l g h
    refine ⟨fun k a b => ⟨fun c => ?_, fun c => (h.1 k a b).2 (fun d => c ((he k a b).mpr d))⟩, h.2⟩
    have c' := (he k a b).mp c
    rw [(hr k a b c').1]
    exact (h.1 k a b).1 c'
  | succ t ih =>
    intro l g h
    obtain ⟨l0, g0, c, h1, h2, h3⟩ := h
    refine ⟨l0, g0, c, ih h1, isC_cg2 he (fun k a b d => ⟨(hr k a b d).2.1, (hr k a b d).2.2⟩) h2, ?_⟩
    rcases h3 with a | ⟨a1, a2, a3⟩
    · exact Or.inl a
    · refine Or.inr ⟨a1, a2, ?_⟩
      rcases h2 with ⟨z, -⟩ | ⟨b1, b2, b3, -⟩
      · omega
      · rw [(hr c b1 b2 b3.1).2.2]
        exact a3
theorem JB_cg2 {e e' : Int → Prop} {p p' r r' q q' : Int → Int} (he : ∀ k, 0 ≤ k → k < 4 → (e' k ↔ e k)) (hr : ∀ k, 0 ≤ k → k < 4 → e k → p' k = p k ∧ r' k = r k ∧ q' k = q k) {B : Int} (h : JB e p r q B) : JB e' p' r' q' B := by
  obtain ⟨t, l, h1, h2⟩ := h
  exact ⟨t, l, JR_cg2 he hr h1, h2⟩
def mO (st mc : Int → Int) (m k : Int) : Int := opF mc (st k) k m
/-- the bound of the machine m -/
def mbd (st mc du re : Int → Int) (m B : Int) : Prop := JB (fun k => 0 ≤ mO st mc m k) (fun k => du (mO st mc m k)) (fun k => re (mO st mc m k / 4) + wF du (4 * (mO st mc m k / 4)) (mO st mc m k % 4)) (fun k => wF du (mO st mc m k + 1) (st (mO st mc m k / 4) - mO st mc m k % 4 - 1)) B
theorem wF_f (f : Int → Int) (b n : Int) (h : 0 ≤ n) (h2 : n < 4) : wF f b (n + 1) = f b + wF f (b + 1) n := by
  have e1 : b + 1 + 1 = b + 2 := by omega
  have e2 : b + 1 + 2 = b + 3 := by omega
  rcases (show n = 0 ∨ n = 1 ∨ n = 2 ∨ n = 3 by omega) with rfl | rfl | rfl | rfl <;> simp [wF, e1, e2] <;> omega
theorem route_head {st mc du rd re ah h : Int → Int} (hst : ∀ j, 0 ≤ j → j < 4 → 0 ≤ st j ∧ st j ≤ 4) (hd : ∀ o, vOp st o → 1 ≤ du o) (hr : ∀ o, vOp st o → rd o = re (o / 4)) (h0 : ∀ o, vOp st o → ∀ k, 0 ≤ k → k < 4 → ¬ hasB (ah o) k) (H : IsHead (vOp st) (pN mc ah) du rd h) {j : Int} (j0 : 0 ≤ j) (j1 : j < 4) : ∀ n : Nat, (n : Int) < st j → h (4 * j + n) = re j + wF du (4 * j) n := by
  have hs := hst j j0 j1
  have vj : ∀ i : Int, 0 ≤ i → i < st j → vOp st (4 * j + i) := fun i a b => ⟨by omega, by omega, by rw [show (4 * j + i) / 4 = j by omega]; omega⟩
  have hp : ∀ o o', vOp st o → vOp st o' → pN mc ah o' o → o % 4 ≠ 0 ∧ o' = o - 1 := fun o o' v v' q => by
    rcases q with q | ⟨-, q⟩
    · exact q
    · exact absurd q (h0 o v _ (by have := v'.1; omega) (by have := v'.2.1; omega))
  intro n
  induction n with
  | zero =>
    intro q
    have v := vj 0 (by omega) q
    rw [show ((0 : Nat) : Int) = 0 from rfl, wF_0]
    obtain ⟨a, b, c⟩ := H _ v
    have r0 := hr _ v
    rw [show (4 * j + 0) / 4 = j by omega] at r0
    rcases c with c | ⟨o', v', p, -⟩
    · omega
    · have := (hp _ _ v v' p).1
      omega
  | succ n ih =>
    intro q
    have i1 := ih (by omega)
    have v := vj (n + 1 : Nat) (by omega) q
    have v' := vj n (by omega) (by omega)
    have e : 4 * j + (n : Int) = 4 * j + ((n + 1 : Nat) : Int) - 1 := by omega
    obtain ⟨a, b, c⟩ := H _ v
    have b1 := b _ v' (Or.inl ⟨by omega, e⟩)
    have d1 := hd _ v'
    have r0 := hr _ v
    have r1 := hr _ v'
    have a1 := (H _ v').1
    rw [show (4 * j + ((n + 1 : Nat) : Int)) / 4 = j by omega] at r0
    rw [show (4 * j + (n : Int)) / 4 = j by omega] at r1
    rw [show ((n + 1 : Nat) : Int) = (n : Int) + 1 by omega, wF_s _ _ _ (by omega) (by omega)]
    rw [show ((n + 1 : Nat) : Int) = (n : Int) + 1 by omega] at b1 r0 c e
    rcases c with c | ⟨o', w', p, c⟩
    · omega
    · have := (hp _ _ (by rw [show ((n + 1 : Nat) : Int) = (n : Int) + 1 by omega] at v; exact v) w' p).2
      rw [this, ← e] at c
      omega
theorem route_tail {st mc du ah t : Int → Int} (hst : ∀ j, 0 ≤ j → j < 4 → 0 ≤ st j ∧ st j ≤ 4) (hd : ∀ o, vOp st o → 1 ≤ du o) (h0 : ∀ o, vOp st o → ∀ k, 0 ≤ k → k < 4 → ¬ hasB (ah o) k) (H : IsTail (vOp st) (pN mc ah) du t) {j : Int} (j0 : 0 ≤ j) (j1 : j < 4) : ∀ n : Nat, (n : Int) < st j → t (4 * j + st j - 1 - n) = wF du (4 * j + st j - 1 - n + 1) n := by
  have hs := hst j j0 j1
  have vj : ∀ i : Int, 0 ≤ i → i < st j → vOp st (4 * j + i) := fun i a b => ⟨by omega, by omega, by rw [show (4 * j + i) / 4 = j by omega]; omega⟩
  have hp : ∀ o o', vOp st o → vOp st o' → pN mc ah o' o → o % 4 ≠ 0 ∧ o' = o - 1 := fun o o' v v' q => by
    rcases q with q | ⟨-, q⟩
    · exact q
    · exact absurd q (h0 o v _ (by have := v'.1; omega) (by have := v'.2.1; omega))
  intro n
  induction n with
  | zero =>
    intro q
    have v := vj (st j - 1) (by omega) (by omega)
    rw [show 4 * j + (st j - 1) = 4 * j + st j - 1 - ((0 : Nat) : Int) by omega] at v
    rw [show wF du (4 * j + st j - 1 - ((0 : Nat) : Int) + 1) ((0 : Nat) : Int) = 0 from wF_0 _ _]
    obtain ⟨a, b, c⟩ := H _ v
    rcases c with c | ⟨o', v', p, -⟩
    · exact c
    · have e := hp _ _ v' v p
      have := v'.2.2
      rw [show o' / 4 = j by omega] at this
      omega
  | succ n ih =>
    intro q
    have i1 := ih (by omega)
    have v := vj (st j - 1 - (n + 1 : Nat)) (by omega) (by omega)
    have v' := vj (st j - 1 - n) (by omega) (by omega)
    rw [show 4 * j + (st j - 1 - ((n + 1 : Nat) : Int)) = 4 * j + st j - 1 - ((n + 1 : Nat) : Int) by omega] at v
    rw [show 4 * j + (st j - 1 - (n : Int)) = 4 * j + st j - 1 - (n : Int) by omega] at v'
    have e : 4 * j + st j - 1 - ((n + 1 : Nat) : Int) = 4 * j + st j - 1 - (n : Int) - 1 := by omega
    obtain ⟨a, b, c⟩ := H _ v
    have b1 := b _ v' (Or.inl ⟨by omega, e⟩)
    have d1 := hd _ v'
    rw [show ((n + 1 : Nat) : Int) = (n : Int) + 1 by omega, wF_f _ _ _ (by omega) (by omega)]
    rw [show ((n + 1 : Nat) : Int) = (n : Int) + 1 by omega] at b1 c e v
    have a1 := (H _ v').1
    have e3 : 4 * j + st j - 1 - ((n : Int) + 1) + 1 = 4 * j + st j - 1 - (n : Int) := by omega
    rw [e3, ← i1]
    rcases c with c | ⟨o', w', p, c⟩
    · omega
    · have := (hp _ _ w' v p).2
      have eo : o' = 4 * j + st j - 1 - (n : Int) := by omega
      rw [eo] at c
      exact c
