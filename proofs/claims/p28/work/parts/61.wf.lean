/-! a workshop: routes, and an order of the jobs on each machine -/
def WF (J : Int) (st mc du ln q : Int → Int) : Prop := (0 ≤ J ∧ J ≤ 4) ∧ (∀ j, 0 ≤ j → j < 4 → 0 ≤ st j ∧ st j ≤ 4 ∧ (J ≤ j → st j = 0)) ∧ (∀ o, vOp st o → 0 ≤ mc o ∧ mc o < 4 ∧ 1 ≤ du o ∧ du o ≤ 20) ∧ (∀ o o', vOp st o → vOp st o' → o / 4 = o' / 4 → mc o = mc o' → o = o') ∧ (∀ m, 0 ≤ m → m < 4 → 0 ≤ ln m ∧ ln m ≤ 4) ∧ (∀ m k, 0 ≤ m → m < 4 → 0 ≤ k → k < ln m → 0 ≤ q (4 * m + k) ∧ q (4 * m + k) < 4 ∧ ∃ o, vOp st o ∧ o / 4 = q (4 * m + k) ∧ mc o = m) ∧ (∀ m k k', 0 ≤ m → m < 4 → 0 ≤ k → k < ln m → 0 ≤ k' → k' < ln m → q (4 * m + k) = q (4 * m + k') → k = k') ∧ (∀ o, vOp st o → ∃ k, 0 ≤ k ∧ k < ln (mc o) ∧ q (4 * mc o + k) = o / 4)
theorem opF_is {f : Int → Int} {n j m s : Int} (h0 : 0 ≤ s) (h1 : s < n) (h2 : n ≤ 4) (hf : f (4 * j + s) = m) : 4 * j ≤ opF f n j m ∧ opF f n j m < 4 * j + n ∧ f (opF f n j m) = m := by
  unfold opF
  rcases (show s = 0 ∨ s = 1 ∨ s = 2 ∨ s = 3 by omega) with rfl | rfl | rfl | rfl
  · rw [Int.add_zero] at hf
    rw [if_pos ⟨by omega, hf⟩]
    exact ⟨by omega, by omega, hf⟩
  · split
    · rename_i c
      exact ⟨by omega, by omega, c.2⟩
    · rw [if_pos ⟨by omega, hf⟩]
      exact ⟨by omega, by omega, hf⟩
  · split
    · rename_i c
      exact ⟨by omega, by omega, c.2⟩
    · split
      · rename_i c
        exact ⟨by omega, by omega, c.2⟩
      · rw [if_pos ⟨by omega, hf⟩]
        exact ⟨by omega, by omega, hf⟩
  · split
    · rename_i c
      exact ⟨by omega, by omega, c.2⟩
    · split
      · rename_i c
        exact ⟨by omega, by omega, c.2⟩
      · split
        · rename_i c
          exact ⟨by omega, by omega, c.2⟩
        · rw [if_pos ⟨by omega, hf⟩]
          exact ⟨by omega, by omega, hf⟩
theorem opF_no {f : Int → Int} {n j m : Int} (h : ∀ s, 0 ≤ s → s < n → f (4 * j + s) ≠ m) : opF f n j m = -6 := by
  unfold opF
  have h0 := h 0 (by omega)
  rw [Int.add_zero] at h0
  rw [if_neg (fun c => h0 c.1 c.2), if_neg (fun c => h 1 (by omega) c.1 c.2), if_neg (fun c => h 2 (by omega) c.1 c.2), if_neg (fun c => h 3 (by omega) c.1 c.2)]
/-- the operation at the place k of m -/
def oq (st mc q : Int → Int) (m k : Int) : Int := opF mc (st (q (4 * m + k))) (q (4 * m + k)) m
theorem oq_v {J : Int} {st mc du ln q : Int → Int} (h : WF J st mc du ln q) {m k : Int} (m0 : 0 ≤ m) (m1 : m < 4) (k0 : 0 ≤ k) (k1 : k < ln m) : vOp st (oq st mc q m k) ∧ mc (oq st mc q m k) = m ∧ oq st mc q m k / 4 = q (4 * m + k) := by
  obtain ⟨w1, w2, w3, w4, w5, w6, w7, w8⟩ := h
  obtain ⟨j0, j1, o, v, e1, e2⟩ := w6 m k m0 m1 k0 k1
  have v0 := v.1
  have v3 := v.2.2
  have hs := w2 _ j0 j1
  rw [e1] at v3
  have := opF_is (f := mc) (n := st (q (4 * m + k))) (j := q (4 * m + k)) (m := m) (s := o % 4) (by omega) v3 hs.2.1 (by rw [show 4 * q (4 * m + k) + o % 4 = o by omega]; exact e2)
  unfold oq
  have e3 : opF mc (st (q (4 * m + k))) (q (4 * m + k)) m / 4 = q (4 * m + k) := by omega
  refine ⟨⟨by omega, by omega, ?_⟩, this.2.2, e3⟩
  rw [e3]
  omega
theorem oq_of {J : Int} {st mc du ln q : Int → Int} (h : WF J st mc du ln q) {o : Int} (v : vOp st o) : ∃ k, 0 ≤ k ∧ k < ln (mc o) ∧ oq st mc q (mc o) k = o := by
  obtain ⟨k, k0, k1, e⟩ := h.2.2.2.2.2.2.2 o v
  obtain ⟨m0, m1, -⟩ := h.2.2.1 o v
  obtain ⟨a, b, c⟩ := oq_v h m0 m1 k0 k1
  exact ⟨k, k0, k1, h.2.2.2.1 _ _ a v (by omega) b⟩
theorem oq_inj {J : Int} {st mc du ln q : Int → Int} (h : WF J st mc du ln q) {m k k' : Int} (m0 : 0 ≤ m) (m1 : m < 4) (k0 : 0 ≤ k) (k1 : k < ln m) (k2 : 0 ≤ k') (k3 : k' < ln m) (e : oq st mc q m k = oq st mc q m k') : k = k' := by
  have a := (oq_v h m0 m1 k0 k1).2.2
  have b := (oq_v h m0 m1 k2 k3).2.2
  exact h.2.2.2.2.2.2.1 m k k' m0 m1 k0 k1 k2 k3 (by rw [← a, ← b, e])
theorem plF_is {f : Int → Int} {b n j k : Int} (h0 : 0 ≤ k) (h1 : k < n) (h2 : n ≤ 4) (hf : f (b + k) = j) (hi : ∀ k', 0 ≤ k' → k' < n → f (b + k') = j → k' = k) : plF f b n j = k := by
  unfold plF
  have hb : f (b + 0) = f b := by rw [Int.add_zero]
  rcases (show k = 0 ∨ k = 1 ∨ k = 2 ∨ k = 3 by omega) with rfl | rfl | rfl | rfl
  · rw [hb] at hf
    rw [if_pos ⟨by omega, hf⟩]
  · rw [if_neg (fun c => by have := hi 0 (by omega) c.1 (by rw [hb]; exact c.2); omega), if_pos ⟨by omega, hf⟩]
  · rw [if_neg (fun c => by have := hi 0 (by omega) c.1 (by rw [hb]; exact c.2); omega), if_neg (fun c => by have := hi 1 (by omega) c.1 c.2; omega), if_pos ⟨by omega, hf⟩]
  · rw [if_neg (fun c => by have := hi 0 (by omega) c.1 (by rw [hb]; exact c.2); omega), if_neg (fun c => by have := hi 1 (by omega) c.1 c.2; omega), if_neg (fun c => by have := hi 2 (by omega) c.1 c.2; omega), if_pos ⟨by omega, hf⟩]
/-- the place of an operation in the order of its machine -/
def plo (mc ln q : Int → Int) (o : Int) : Int := plF q (4 * mc o) (ln (mc o)) (o / 4)
theorem plo_oq {J : Int} {st mc du ln q : Int → Int} (h : WF J st mc du ln q) {m k : Int} (m0 : 0 ≤ m) (m1 : m < 4) (k0 : 0 ≤ k) (k1 : k < ln m) : plo mc ln q (oq st mc q m k) = k := by
  obtain ⟨a, b, c⟩ := oq_v h m0 m1 k0 k1
  unfold plo
  rw [b, c]
  exact plF_is k0 k1 (h.2.2.2.2.1 m m0 m1).2 rfl (fun k' x y z => h.2.2.2.2.2.2.1 m k' k m0 m1 x y k0 k1 z)
theorem plo_of {J : Int} {st mc du ln q : Int → Int} (h : WF J st mc du ln q) {o : Int} (v : vOp st o) : 0 ≤ plo mc ln q o ∧ plo mc ln q o < ln (mc o) ∧ oq st mc q (mc o) (plo mc ln q o) = o := by
  obtain ⟨k, k0, k1, e⟩ := oq_of h v
  obtain ⟨m0, m1, -⟩ := h.2.2.1 o v
  have := plo_oq h m0 m1 k0 k1
  rw [e] at this
  rw [this]
  exact ⟨k0, k1, e⟩
/-! the reference's row, in these words -/
def rSt (σ : Mem) (j : Int) : Int := σ 38 0 (1 + 3 * j + 2)
def rMc (σ : Mem) (o : Int) : Int := σ 38 0 (13 + 2 * o)
def rDu (σ : Mem) (o : Int) : Int := σ 38 0 (14 + 2 * o)
def rRe (σ : Mem) (j : Int) : Int := σ 38 0 (1 + 3 * j)
def rDd (σ : Mem) (j : Int) : Int := σ 38 0 (1 + 3 * j + 1)
def rLn (σ : Mem) (m : Int) : Int := σ 38 0 (45 + m)
def rQ (σ : Mem) (x : Int) : Int := σ 38 0 (49 + x)
def rWF (σ : Mem) : Prop := WF (σ 38 0 0) (rSt σ) (rMc σ) (rDu σ) (rLn σ) (rQ σ) ∧ ∀ j, 0 ≤ j → j < σ 38 0 0 → 0 ≤ rRe σ j ∧ rRe σ j ≤ 50 ∧ 0 ≤ rDd σ j ∧ rDd σ j ≤ 200
/-- the operation at a place, none: -6 -/
def oA (σ : Mem) (m k : Int) : Int := if 0 ≤ k ∧ k < rLn σ m then oq (rSt σ) (rMc σ) (rQ σ) m k else -6
theorem oA_eq (σ : Mem) (m k : Int) : (if 0 ≤ k ∧ k < σ 38 0 (45 + m) then opF (fun k => σ 38 0 (13 + 2 * k)) (σ 38 0 (1 + 3 * σ 38 0 (49 + 4 * m + k) + 2)) (σ 38 0 (49 + 4 * m + k)) m else -6) = oA σ m k := by
  unfold oA oq rSt rMc rLn rQ
  rw [Int.add_assoc 49 (4 * m) k]
theorem r38 {σ σ' : Mem} (h : σ' 38 0 = σ 38 0) : rSt σ' = rSt σ ∧ rMc σ' = rMc σ ∧ rDu σ' = rDu σ ∧ rRe σ' = rRe σ ∧ rDd σ' = rDd σ ∧ rLn σ' = rLn σ ∧ rQ σ' = rQ σ ∧ (rWF σ' ↔ rWF σ) ∧ oA σ' = oA σ := by
  have a1 : rSt σ' = rSt σ := funext fun x => congrFun h _
  have a2 : rMc σ' = rMc σ := funext fun x => congrFun h _
  have a3 : rDu σ' = rDu σ := funext fun x => congrFun h _
  have a4 : rRe σ' = rRe σ := funext fun x => congrFun h _
  have a5 : rDd σ' = rDd σ := funext fun x => congrFun h _
  have a6 : rLn σ' = rLn σ := funext fun x => congrFun h _
  have a7 : rQ σ' = rQ σ := funext fun x => congrFun h _
  refine ⟨a1, a2, a3, a4, a5, a6, a7, ?_, ?_⟩
  · unfold rWF
    rw [a1, a2, a3, a4, a5, a6, a7, h]
  · funext m k
    unfold oA
    rw [a1, a2, a6, a7]
/-- what operationAt asks -/
theorem oA_pre {σ : Mem} (h : rWF σ) {m : Int} (m0 : 0 ≤ m) (m1 : m < 4) : σ 38 0 (45 + m) ≤ 4 ∧ 0 ≤ σ 38 0 (45 + m) ∧ ∀ k, 0 ≤ k → k < σ 38 0 (45 + m) → 0 ≤ σ 38 0 (49 + 4 * m + k) ∧ σ 38 0 (49 + 4 * m + k) < 4 ∧ σ 38 0 (1 + 3 * σ 38 0 (49 + 4 * m + k) + 2) ≤ 4 := by
  obtain ⟨⟨w1, w2, w3, w4, w5, w6, w7, w8⟩, -⟩ := h
  refine ⟨(w5 m m0 m1).2, (w5 m m0 m1).1, fun k k0 k1 => ?_⟩
  obtain ⟨j0, j1, -⟩ := w6 m k m0 m1 k0 k1
  have := w2 _ j0 j1
  unfold rQ at j0 j1 this
  rw [← Int.add_assoc 49 (4 * m) k] at j0 j1 this
  exact ⟨j0, j1, this.2.1⟩
theorem oA_v {σ : Mem} (h : rWF σ) {m k : Int} (m0 : 0 ≤ m) (m1 : m < 4) (k0 : 0 ≤ k) (k1 : k < rLn σ m) : vOp (rSt σ) (oA σ m k) ∧ rMc σ (oA σ m k) = m ∧ plo (rMc σ) (rLn σ) (rQ σ) (oA σ m k) = k := by
  unfold oA
  rw [if_pos ⟨k0, k1⟩]
  exact ⟨(oq_v h.1 m0 m1 k0 k1).1, (oq_v h.1 m0 m1 k0 k1).2.1, plo_oq h.1 m0 m1 k0 k1⟩
theorem oA_ge {σ : Mem} (h : rWF σ) {m k : Int} (m0 : 0 ≤ m) (m1 : m < 4) (hk : 0 ≤ oA σ m k) : 0 ≤ k ∧ k < rLn σ m := by
  unfold oA at hk
  split at hk
  · assumption
  · omega
theorem oA_lt {σ : Mem} (h : rWF σ) {m k : Int} (m0 : 0 ≤ m) (m1 : m < 4) : oA σ m k < 16 := by
  by_cases c : 0 ≤ k ∧ k < rLn σ m
  · exact (oA_v h m0 m1 c.1 c.2).1.2.1
  · unfold oA
    rw [if_neg c]
    omega
theorem oA_of {σ : Mem} (h : rWF σ) {o : Int} (v : vOp (rSt σ) o) : ∃ k, 0 ≤ k ∧ k < rLn σ (rMc σ o) ∧ oA σ (rMc σ o) k = o := by
  obtain ⟨k, k0, k1, e⟩ := oq_of h.1 v
  refine ⟨k, k0, k1, ?_⟩
  unfold oA
  rw [if_pos ⟨k0, k1⟩]
  exact e
theorem rWF_op {σ : Mem} (h : rWF σ) {o : Int} (v : vOp (rSt σ) o) : 0 ≤ rMc σ o ∧ rMc σ o < 4 ∧ 1 ≤ rDu σ o ∧ rDu σ o ≤ 20 ∧ o / 4 < σ 38 0 0 ∧ 0 ≤ rRe σ (o / 4) ∧ rRe σ (o / 4) ≤ 50 := by
  obtain ⟨a, b, c, d⟩ := h.1.2.2.1 o v
  have hj := vOp_j v
  have hl : o / 4 < σ 38 0 0 := by
    rcases Int.lt_or_le (o / 4) (σ 38 0 0) with q | q
    · exact q
    · have := (h.1.2.1 (o / 4) hj.1 hj.2.1).2.2 q
      have := v.2.2
      omega
  have := h.2 (o / 4) hj.1 hl
  exact ⟨a, b, c, d, hl, this.1, this.2.1⟩
/-! the greatest one of a base and the ends of two before -/
def F2 (bs d p1 p2 : Int → Int) (h : Int → Int) (o : Int) : Int := gt2 (bs o) (gt2 (if p1 o < 0 then 0 else h (p1 o) + d (p1 o)) (if p2 o < 0 then 0 else h (p2 o) + d (p2 o)))
theorem gt2_le {a b : Int} : a ≤ gt2 a b ∧ b ≤ gt2 a b ∧ (gt2 a b = a ∨ gt2 a b = b) := by
  unfold gt2
  split <;> omega
theorem gt2_mono {a b a' b' : Int} (h : a ≤ a') (h2 : b ≤ b') : gt2 a b ≤ gt2 a' b' := by
  unfold gt2
  split <;> split <;> omega
def okP (V : Int → Prop) (p : Int → Int) : Prop := ∀ o, V o → 0 ≤ p o → V (p o)
theorem F2_mono {V : Int → Prop} {bs d p1 p2 : Int → Int} (h1 : okP V p1) (h2 : okP V p2) : MonoF V (F2 bs d p1 p2) := by
  intro h h' hh o v
  unfold F2
  refine gt2_mono (Int.le_refl _) (gt2_mono ?_ ?_)
  · split
    · exact Int.le_refl _
    · have := hh _ (h1 o v (by omega))
      omega
  · split
    · exact Int.le_refl _
    · have := hh _ (h2 o v (by omega))
      omega
theorem F2_dep {V : Int → Prop} {bs d p1 p2 : Int → Int} (h1 : okP V p1) (h2 : okP V p2) (hd : ∀ o, V o → 1 ≤ d o) (hb : ∀ o, V o → 0 ≤ bs o) : DepF V (F2 bs d p1 p2) := by
  intro hs s
  refine ⟨fun o v => ?_, fun h hle o v hx => ?_⟩
  · rw [s o v]
    unfold F2
    exact Int.le_trans (hb o v) gt2_le.1
  · have e := s o v
    have e1 : (if p1 o < 0 then 0 else h (p1 o) + d (p1 o)) = (if p1 o < 0 then 0 else hs (p1 o) + d (p1 o)) := by
      split
      · rfl
      · rename_i c
        have vp := h1 o v (by omega)
        have : hs (p1 o) + d (p1 o) ≤ hs o := by
          rw [e]
          unfold F2
          rw [if_neg c]
          exact Int.le_trans gt2_le.1 gt2_le.2.1
        have := hd _ vp
        rw [hx _ vp (by omega)]
    have e2 : (if p2 o < 0 then 0 else h (p2 o) + d (p2 o)) = (if p2 o < 0 then 0 else hs (p2 o) + d (p2 o)) := by
      split
      · rfl
      · rename_i c
        have vp := h2 o v (by omega)
        have : hs (p2 o) + d (p2 o) ≤ hs o := by
          rw [e]
          unfold F2
          rw [if_neg c]
          exact Int.le_trans gt2_le.2.1 gt2_le.2.1
        have := hd _ vp
        rw [hx _ vp (by omega)]
    unfold F2
    rw [e1, e2]
    exact e.symm
/-- its solutions are the heads -/
theorem F2_head {V : Int → Prop} {bs d p1 p2 hs : Int → Int} (hb : ∀ o, V o → 0 ≤ bs o) (h1 : okP V p1) (h2 : okP V p2) : SolF V (F2 bs d p1 p2) hs ↔ IsHead V (fun o' o => (0 ≤ p1 o ∧ o' = p1 o) ∨ (0 ≤ p2 o ∧ o' = p2 o)) d bs hs := by
  constructor
  · intro s o v
    have e := s o v
    have g1 := @gt2_le (bs o) (gt2 (if p1 o < 0 then 0 else hs (p1 o) + d (p1 o)) (if p2 o < 0 then 0 else hs (p2 o) + d (p2 o)))
    have g2 := @gt2_le (if p1 o < 0 then 0 else hs (p1 o) + d (p1 o)) (if p2 o < 0 then 0 else hs (p2 o) + d (p2 o))
    unfold F2 at e
    rw [← e] at g1
    have hbo := hb o v
    refine ⟨g1.1, fun o' v' p => ?_, ?_⟩
    · rcases p with ⟨p, rfl⟩ | ⟨p, rfl⟩
      · rw [if_neg (show ¬ p1 o < 0 by omega)] at g1 g2
        omega
      · rw [if_neg (show ¬ p2 o < 0 by omega)] at g1 g2
        omega
    · rcases g1.2.2 with q | q
      · exact Or.inl q
      · rcases g2.2.2 with q2 | q2
        · by_cases c : p1 o < 0
          · rw [if_pos c] at g1 g2 q q2
            left
            omega
          · rw [if_neg c] at g1 g2 q q2
            exact Or.inr ⟨p1 o, h1 o v (by omega), Or.inl ⟨by omega, rfl⟩, by omega⟩
        · by_cases c : p2 o < 0
          · rw [if_pos c] at g1 g2 q q2
            left
            omega
          · rw [if_neg c] at g1 g2 q q2
            exact Or.inr ⟨p2 o, h2 o v (by omega), Or.inr ⟨by omega, rfl⟩, by omega⟩
  · intro H o v
    obtain ⟨a1, a2, a3⟩ := H o v
    have hbo := hb o v
    have g1 := @gt2_le (bs o) (gt2 (if p1 o < 0 then 0 else hs (p1 o) + d (p1 o)) (if p2 o < 0 then 0 else hs (p2 o) + d (p2 o)))
    have g2 := @gt2_le (if p1 o < 0 then 0 else hs (p1 o) + d (p1 o)) (if p2 o < 0 then 0 else hs (p2 o) + d (p2 o))
    have u1 : (if p1 o < 0 then 0 else hs (p1 o) + d (p1 o)) ≤ hs o := by
      split
      · omega
      · rename_i c
        exact a2 _ (h1 o v (by omega)) (Or.inl ⟨by omega, rfl⟩)
    have u2 : (if p2 o < 0 then 0 else hs (p2 o) + d (p2 o)) ≤ hs o := by
      split
      · omega
      · rename_i c
        exact a2 _ (h2 o v (by omega)) (Or.inr ⟨by omega, rfl⟩)
    unfold F2
    rcases a3 with a3 | ⟨o', v', p, a3⟩
    · omega
    · rcases p with ⟨p, rfl⟩ | ⟨p, rfl⟩
      · rw [if_neg (show ¬ p1 o < 0 by omega)] at g1 g2 u1 ⊢
        omega
      · rw [if_neg (show ¬ p2 o < 0 by omega)] at g1 g2 u2 ⊢
        omega
