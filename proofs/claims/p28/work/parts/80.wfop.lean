/-! a workshop grows -/
theorem WF_job {J : Int} {st mc du ln q : Int → Int} (h : WF J st mc du ln q) (hJ : J < 4) {st' : Int → Int} (hst : ∀ x, 0 ≤ x → x < 4 → st' x = st x) : WF (J + 1) st' mc du ln q ∧ st J = 0 := by
  obtain ⟨w1, w2, w3, w4, w5, w6, w7, w8⟩ := h
  have hV : ∀ o, vOp st' o ↔ vOp st o := vOp_cg hst
  have z := (w2 J w1.1 hJ).2.2 (Int.le_refl J)
  refine ⟨⟨by omega, fun j a b => by rw [hst j a b]; exact ⟨(w2 j a b).1, (w2 j a b).2.1, fun c => (w2 j a b).2.2 (by omega)⟩, fun o v => w3 o ((hV o).mp v), fun o o' v v' => w4 o o' ((hV o).mp v) ((hV o').mp v'), w5, fun m k a b c d => ?_, w7, fun o v => w8 o ((hV o).mp v)⟩, z⟩
  obtain ⟨x, y, o, v, e⟩ := w6 m k a b c d
  exact ⟨x, y, o, (hV o).mpr v, e⟩
theorem WF_room {J : Int} {st mc du ln q : Int → Int} (h : WF J st mc du ln q) {j m : Int} (j0 : 0 ≤ j) (j1 : j < J) (m0 : 0 ≤ m) (m1 : m < 4) (hn : ∀ s, 0 ≤ s → s < st j → mc (4 * j + s) ≠ m) : st j < 4 ∧ ln m < 4 ∧ 0 ≤ st j ∧ 0 ≤ ln m ∧ ∀ k, 0 ≤ k → k < ln m → q (4 * m + k) ≠ j := by
  obtain ⟨w1, w2, w3, w4, w5, w6, w7, w8⟩ := h
  have hs := w2 j j0 (by omega)
  have hl := w5 m m0 m1
  have v : ∀ s, 0 ≤ s → s < st j → vOp st (4 * j + s) := fun s a b => ⟨by omega, by omega, by rw [show (4 * j + s) / 4 = j by omega]; omega⟩
  have d : ∀ s s', 0 ≤ s → s < st j → 0 ≤ s' → s' < st j → mc (4 * j + s) = mc (4 * j + s') → s = s' := fun s s' a b c e f => by
    have := w4 _ _ (v s a b) (v s' c e) (by omega) f
    omega
  have nq : ∀ k, 0 ≤ k → k < ln m → q (4 * m + k) ≠ j := by
    intro k a b e
    obtain ⟨-, -, o, vo, eo, em⟩ := w6 m k m0 m1 a b
    rw [e] at eo
    have := vo.2.2
    rw [eo] at this
    exact hn (o % 4) (by omega) this (by rw [show 4 * j + o % 4 = o by omega]; exact em)
  refine ⟨?_, ?_, hs.1, hl.1, nq⟩
  · rcases Int.lt_or_le (st j) 4 with c | c
    · exact c
    · exfalso
      have r := fun s (a : 0 ≤ s) (b : s < 4) => w3 _ (v s a (by omega))
      have r0 := r 0 (by omega) (by omega)
      have r1 := r 1 (by omega) (by omega)
      have r2 := r 2 (by omega) (by omega)
      have r3 := r 3 (by omega) (by omega)
      have n0 := hn 0 (by omega) (by omega)
      have n1 := hn 1 (by omega) (by omega)
      have n2 := hn 2 (by omega) (by omega)
      have n3 := hn 3 (by omega) (by omega)
      have d01 : mc (4 * j + 0) ≠ mc (4 * j + 1) := fun e => by have := d 0 1 (by omega) (by omega) (by omega) (by omega) e; omega
      have d02 : mc (4 * j + 0) ≠ mc (4 * j + 2) := fun e => by have := d 0 2 (by omega) (by omega) (by omega) (by omega) e; omega
      have d03 : mc (4 * j + 0) ≠ mc (4 * j + 3) := fun e => by have := d 0 3 (by omega) (by omega) (by omega) (by omega) e; omega
      have d12 : mc (4 * j + 1) ≠ mc (4 * j + 2) := fun e => by have := d 1 2 (by omega) (by omega) (by omega) (by omega) e; omega
      have d13 : mc (4 * j + 1) ≠ mc (4 * j + 3) := fun e => by have := d 1 3 (by omega) (by omega) (by omega) (by omega) e; omega
      have d23 : mc (4 * j + 2) ≠ mc (4 * j + 3) := fun e => by have := d 2 3 (by omega) (by omega) (by omega) (by omega) e; omega
      omega
  · rcases Int.lt_or_le (ln m) 4 with c | c
    · exact c
    · exfalso
      have r := fun k (a : 0 ≤ k) (b : k < 4) => w6 m k m0 m1 a (by omega)
      have r0 := r 0 (by omega) (by omega)
      have r1 := r 1 (by omega) (by omega)
      have r2 := r 2 (by omega) (by omega)
      have r3 := r 3 (by omega) (by omega)
      have n0 := nq 0 (by omega) (by omega)
      have n1 := nq 1 (by omega) (by omega)
      have n2 := nq 2 (by omega) (by omega)
      have n3 := nq 3 (by omega) (by omega)
      have d01 : q (4 * m + 0) ≠ q (4 * m + 1) := fun e => by have := w7 m 0 1 m0 m1 (by omega) (by omega) (by omega) (by omega) e; omega
      have d02 : q (4 * m + 0) ≠ q (4 * m + 2) := fun e => by have := w7 m 0 2 m0 m1 (by omega) (by omega) (by omega) (by omega) e; omega
      have d03 : q (4 * m + 0) ≠ q (4 * m + 3) := fun e => by have := w7 m 0 3 m0 m1 (by omega) (by omega) (by omega) (by omega) e; omega
      have d12 : q (4 * m + 1) ≠ q (4 * m + 2) := fun e => by have := w7 m 1 2 m0 m1 (by omega) (by omega) (by omega) (by omega) e; omega
      have d13 : q (4 * m + 1) ≠ q (4 * m + 3) := fun e => by have := w7 m 1 3 m0 m1 (by omega) (by omega) (by omega) (by omega) e; omega
      have d23 : q (4 * m + 2) ≠ q (4 * m + 3) := fun e => by have := w7 m 2 3 m0 m1 (by omega) (by omega) (by omega) (by omega) e; omega
      omega
/-- an operation more -/
theorem WF_op {J : Int} {st mc du ln q : Int → Int} (h : WF J st mc du ln q) {j m d : Int} (j0 : 0 ≤ j) (j1 : j < J) (m0 : 0 ≤ m) (m1 : m < 4) (d0 : 1 ≤ d) (d1 : d ≤ 20) (hn : ∀ s, 0 ≤ s → s < st j → mc (4 * j + s) ≠ m) {st' mc' du' ln' q' : Int → Int} (hst : ∀ x, 0 ≤ x → x < 4 → st' x = if x = j then st j + 1 else st x) (hmc : ∀ o, vOp st o → mc' o = mc o ∧ du' o = du o) (hmo : mc' (4 * j + st j) = m ∧ du' (4 * j + st j) = d) (hln : ∀ x, 0 ≤ x → x < 4 → ln' x = if x = m then ln m + 1 else ln x) (hq : ∀ m' k, 0 ≤ m' → m' < 4 → 0 ≤ k → k < ln m' → q' (4 * m' + k) = q (4 * m' + k)) (hqo : q' (4 * m + ln m) = j) : WF J st' mc' du' ln' q' := by
  obtain ⟨r1, r2, r3, r4, r5⟩ := WF_room h j0 j1 m0 m1 hn
  obtain ⟨w1, w2, w3, w4, w5, w6, w7, w8⟩ := h
  have oj : (4 * j + st j) / 4 = j := by omega
  have om : (4 * j + st j) % 4 = st j := by omega
  have hV : ∀ o, vOp st' o ↔ vOp st o ∨ o = 4 * j + st j := by
    intro o
    constructor
    · rintro ⟨a, b, c⟩
      have e := hst (o / 4) (by omega) (by omega)
      rw [e] at c
      by_cases z : o / 4 = j
      · rw [if_pos z] at c
        rcases (show o % 4 < st j ∨ o % 4 = st j by omega) with y | y
        · exact Or.inl ⟨a, b, by rw [z]; exact y⟩
        · exact Or.inr (by omega)
      · rw [if_neg z] at c
        exact Or.inl ⟨a, b, c⟩
    · rintro (v | v)
      · have hj := vOp_j v
        refine ⟨v.1, v.2.1, ?_⟩
        rw [hst _ hj.1 hj.2.1]
        have := v.2.2
        split
        · rename_i z
          rw [z] at this
          omega
        · exact this
      · subst v
        refine ⟨by omega, by omega, ?_⟩
        rw [oj, om, hst j j0 (by omega), if_pos rfl]
        omega
  have nv : ¬ vOp st (4 * j + st j) := by
    intro v
    have := v.2.2
    rw [oj, om] at this
    omega
  have vnew : vOp st' (4 * j + st j) := (hV _).mpr (Or.inr rfl)
  refine ⟨w1, fun x a b => ?_, fun o v => ?_, fun o o' v v' e1 e2 => ?_, fun x a b => ?_, fun m' k a b c e => ?_, fun m' k k' a b c e c' e' f => ?_, fun o v => ?_⟩
  · rw [hst x a b]
    have := w2 x a b
    split
    · rename_i z
      subst z
      exact ⟨by omega, by omega, fun y => by omega⟩
    · exact this
  · rcases (hV o).mp v with z | z
    · rw [(hmc o z).1, (hmc o z).2]
      exact w3 o z
    · subst z
      rw [hmo.1, hmo.2]
      exact ⟨m0, m1, d0, d1⟩
  · rcases (hV o).mp v with z | z
    · rcases (hV o').mp v' with z' | z'
      · rw [(hmc o z).1, (hmc o' z').1] at e2
        exact w4 o o' z z' e1 e2
      · subst z'
        rw [(hmc o z).1, hmo.1] at e2
        rw [oj] at e1
        have := z.2.2
        rw [e1] at this
        exact absurd (by rw [show 4 * j + o % 4 = o by omega]; exact e2) (hn (o % 4) (by omega) this)
    · rcases (hV o').mp v' with z' | z'
      · subst z
        rw [(hmc o' z').1, hmo.1] at e2
        rw [oj] at e1
        have := z'.2.2
        rw [← e1] at this
        exact absurd (by rw [show 4 * j + o' % 4 = o' by omega]; exact e2.symm) (hn (o' % 4) (by omega) this)
      · omega
  · rw [hln x a b]
    have := w5 x a b
    split
    · rename_i z
      subst z
      omega
    · exact this
  · rw [hln m' a b] at e
    by_cases z : m' = m
    · subst z
      rw [if_pos rfl] at e
      rcases (show k < ln m' ∨ k = ln m' by omega) with y | y
      · rw [hq m' k a b c y]
        obtain ⟨x1, x2, o, v, x3, x4⟩ := w6 m' k a b c y
        exact ⟨x1, x2, o, (hV o).mpr (Or.inl v), x3, by rw [(hmc o v).1]; exact x4⟩
      · subst y
        rw [hqo]
        exact ⟨j0, by omega, _, vnew, oj, hmo.1⟩
    · rw [if_neg z] at e
      rw [hq m' k a b c e]
      obtain ⟨x1, x2, o, v, x3, x4⟩ := w6 m' k a b c e
      exact ⟨x1, x2, o, (hV o).mpr (Or.inl v), x3, by rw [(hmc o v).1]; exact x4⟩
  · rw [hln m' a b] at e e'
    by_cases z : m' = m
    · subst z
      rw [if_pos rfl] at e e'
      rcases (show k < ln m' ∨ k = ln m' by omega) with y | y
      · rcases (show k' < ln m' ∨ k' = ln m' by omega) with y' | y'
        · rw [hq m' k a b c y, hq m' k' a b c' y'] at f
          exact w7 m' k k' a b c y c' y' f
        · subst y'
          rw [hq m' k a b c y, hqo] at f
          exact absurd f (r5 k c y)
      · rcases (show k' < ln m' ∨ k' = ln m' by omega) with y' | y'
        · subst y
          rw [hq m' k' a b c' y', hqo] at f
          exact absurd f.symm (r5 k' c' y')
        · omega
    · rw [if_neg z] at e e'
      rw [hq m' k a b c e, hq m' k' a b c' e'] at f
      exact w7 m' k k' a b c e c' e' f
  · rcases (hV o).mp v with z | z
    · have hm := w3 o z
      obtain ⟨k, k0, k1, k2⟩ := w8 o z
      refine ⟨k, k0, ?_, ?_⟩
      · rw [(hmc o z).1, hln _ hm.1 hm.2.1]
        split
        · rename_i y
          rw [y] at k1
          omega
        · exact k1
      · rw [(hmc o z).1, hq _ k hm.1 hm.2.1 k0 k1]
        exact k2
    · subst z
      refine ⟨ln m, r4, ?_, ?_⟩
      · rw [hmo.1, hln m m0 m1, if_pos rfl]
        omega
      · rw [hmo.1, oj]
        exact hqo
theorem WF_0 {st mc du ln q : Int → Int} (h1 : ∀ j, 0 ≤ j → j < 4 → st j = 0) (h2 : ∀ m, 0 ≤ m → m < 4 → ln m = 0) : WF 0 st mc du ln q := by
  have nv : ∀ o, ¬ vOp st o := by
    intro o v
    have hj := vOp_j v
    have := v.2.2
    rw [h1 _ hj.1 hj.2.1] at this
    omega
  exact ⟨by omega, fun j a b => by rw [h1 j a b]; omega, fun o v => absurd v (nv o), fun o o' v => absurd v (nv o), fun m a b => by rw [h2 m a b]; omega, fun m k a b c d => by rw [h2 m a b] at d; omega, fun m k k' a b c d => by rw [h2 m a b] at d; omega, fun o v => absurd v (nv o)⟩
/-- each order goes up by the numbers of the jobs -/
def asc (ln q : Int → Int) : Prop := ∀ m k k', 0 ≤ m → m < 4 → 0 ≤ k → k < k' → k' < ln m → q (4 * m + k) < q (4 * m + k')
/-- neighbours are exchanged -/
def exQ (q : Int → Int) (x : Int) : Int → Int := fun y => if y = x + 1 then q x else if y = x then q (x + 1) else q y
theorem exQ_at {q : Int → Int} {m k m' k' : Int} (m0 : 0 ≤ m) (m1 : m < 4) (k0 : 0 ≤ k) (k1 : k + 1 < 4) (a : 0 ≤ m') (b : m' < 4) (c : 0 ≤ k') (d : k' < 4) : exQ q (4 * m + k) (4 * m' + k') = q (4 * m' + (if m' = m ∧ k' = k then k + 1 else if m' = m ∧ k' = k + 1 then k else k')) := by
  unfold exQ
  by_cases e1 : m' = m ∧ k' = k
  · rw [if_pos e1, if_neg (by omega), if_pos (by omega), e1.1]
    congr 1
    omega
  · rw [if_neg e1]
    by_cases e2 : m' = m ∧ k' = k + 1
    · rw [if_pos e2, if_pos (by omega), e2.1]
    · rw [if_neg e2, if_neg (by omega), if_neg (by omega)]
theorem WF_ex {J : Int} {st mc du ln q : Int → Int} (h : WF J st mc du ln q) {m k : Int} (m0 : 0 ≤ m) (m1 : m < 4) (k0 : 0 ≤ k) (k1 : k + 1 < ln m) : WF J st mc du ln (exQ q (4 * m + k)) := by
  obtain ⟨w1, w2, w3, w4, w5, w6, w7, w8⟩ := h
  have hl := w5 m m0 m1
  have at' := fun m' k' (a : 0 ≤ m') (b : m' < 4) (c : 0 ≤ k') (d : k' < 4) => exQ_at (q := q) m0 m1 k0 (show k + 1 < 4 by omega) a b c d
  refine ⟨w1, w2, w3, w4, w5, fun m' k' a b c e => ?_, fun m' x y a b c e c' e' f => ?_, fun o v => ?_⟩
  · have := (w5 m' a b).2
    rw [at' m' k' a b c (by omega)]
    refine w6 m' _ a b ?_ ?_
    · split
      · omega
      · split <;> omega
    · split
      · rename_i z
        rw [z.1]
        exact k1
      · split
        · rename_i z
          rw [z.1]
          omega
        · exact e
  · have := (w5 m' a b).2
    rw [at' m' x a b c (by omega), at' m' y a b c' (by omega)] at f
    have hx : 0 ≤ (if m' = m ∧ x = k then k + 1 else if m' = m ∧ x = k + 1 then k else x) ∧ (if m' = m ∧ x = k then k + 1 else if m' = m ∧ x = k + 1 then k else x) < ln m' := by
      split
      · rename_i z
        rw [z.1]
        omega
      · split
        · rename_i z
          rw [z.1]
          omega
        · omega
    have hy : 0 ≤ (if m' = m ∧ y = k then k + 1 else if m' = m ∧ y = k + 1 then k else y) ∧ (if m' = m ∧ y = k then k + 1 else if m' = m ∧ y = k + 1 then k else y) < ln m' := by
      split
      · rename_i z
        rw [z.1]
        omega
      · split
        · rename_i z
          rw [z.1]
          omega
        · omega
    have e3 := w7 m' _ _ a b hx.1 hx.2 hy.1 hy.2 f
    by_cases z : m' = m
    · simp only [z, true_and] at e3
      by_cases x1 : x = k
      · rw [if_pos x1] at e3
        by_cases y1 : y = k
        · omega
        · rw [if_neg y1] at e3
          split at e3 <;> omega
      · rw [if_neg x1] at e3
        by_cases x2 : x = k + 1
        · rw [if_pos x2] at e3
          by_cases y1 : y = k
          · rw [if_pos y1] at e3
            omega
          · rw [if_neg y1] at e3
            split at e3 <;> omega
        · rw [if_neg x2] at e3
          by_cases y1 : y = k
          · rw [if_pos y1] at e3
            omega
          · rw [if_neg y1] at e3
            split at e3 <;> omega
    · rw [if_neg (fun q => z q.1), if_neg (fun q => z q.1), if_neg (fun q => z q.1), if_neg (fun q => z q.1)] at e3
      exact e3
  · have hm := w3 o v
    have hl' := w5 _ hm.1 hm.2.1
    obtain ⟨k', q0, q1, q2⟩ := w8 o v
    by_cases z : mc o = m
    · by_cases y : k' = k
      · refine ⟨k + 1, by omega, by rw [z]; exact k1, ?_⟩
        rw [at' _ _ hm.1 hm.2.1 (by omega) (by omega), if_neg (by omega), if_pos ⟨z, rfl⟩, ← y]
        exact q2
      · by_cases y2 : k' = k + 1
        · refine ⟨k, k0, by rw [z]; omega, ?_⟩
          rw [at' _ _ hm.1 hm.2.1 k0 (by omega), if_pos ⟨z, rfl⟩, ← y2]
          exact q2
        · refine ⟨k', q0, q1, ?_⟩
          rw [at' _ _ hm.1 hm.2.1 q0 (by omega), if_neg (fun q => y q.2), if_neg (fun q => y2 q.2)]
          exact q2
    · refine ⟨k', q0, q1, ?_⟩
      rw [at' _ _ hm.1 hm.2.1 q0 (by omega), if_neg (fun q => z q.1), if_neg (fun q => z q.1)]
      exact q2
