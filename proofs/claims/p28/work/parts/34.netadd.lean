/-- one more is sorted -/
theorem SI_add {st mc du rd on ah hd so ss sn : Int → Int} {s : Int} (hB : NB st mc du rd on) (hA : NA st mc on ah) (h : SI st mc du rd on ah hd so ss sn s) {j o r : Int} (j0 : 0 ≤ j) (j1 : j < 4) (ho : o = 4 * j + ss j) (hs : ss j < st j) (hb : band (ah o) (bxor (sn (mc o)) (-1)) = 0) (hr : hEq (vOp st) (pN mc ah) du rd hd o r) : SI st mc du rd on ah (fun x => if x = o then r else hd x) (fun x => if x = s then o else so x) (fun x => if x = j then ss j + 1 else ss x) (fun x => if x = mc o then bor (sn (mc o)) (bshl 1 j) else sn x) (s + 1) := by
  have hh := h
  obtain ⟨a1, a2, a3, a4, a5, a6, a7, a8, a9, a10, a11⟩ := h
  have hss := a1 j j0 j1
  have hst := hB.1 j j0 j1
  have oj : o / 4 = j := by omega
  have om : o % 4 = ss j := by omega
  have hv : vOp st o := ⟨by omega, by omega, by rw [oj]; omega⟩
  obtain ⟨m0, m1, d1, d2, r0, r4, hon⟩ := hB.2.1 o hv
  obtain ⟨p0, p1, p2⟩ := hA o hv
  obtain ⟨n0, n1⟩ := a2 _ m0 m1
  rw [bit_sub p0 p1 n0 n1] at hb
  have hno : ¬ vOp ss o := by
    intro q
    have := q.2.2
    rw [oj, om] at this
    omega
  have V' : ∀ x, vOp (fun x => if x = j then ss j + 1 else ss x) x ↔ vOp ss x ∨ x = o := by
    intro x
    unfold vOp
    by_cases q : x / 4 = j
    · simp only [q, if_true]
      omega
    · simp only [q, if_false]
      omega
  have cl : ∀ o', vOp st o' → pN mc ah o' o → vOp ss o' := by
    intro o' v p
    rcases p with ⟨q, rfl⟩ | ⟨q1, q2⟩
    · refine ⟨by omega, by omega, ?_⟩
      rw [show (o - 1) / 4 = j by omega]
      omega
    · have hj' := vOp_j v
      have e := (hB.2.1 o' v).2.2.2.2.2.2
      have := (a3 (mc o) (o' / 4) m0 m1 hj'.1 hj'.2.1).mp (hb _ hj'.1 hj'.2.1 q2)
      rw [← q1, e] at this
      exact this
  have s16 := SI_16 hB hh
  have nself : ¬ pN mc ah o o := by
    rintro (⟨q, q2⟩ | ⟨q, q2⟩)
    · omega
    · exact (p2 (o / 4) (by omega) (by omega) q2).1 rfl
  refine ⟨fun i i0 i1 => ?_, fun m q0 q1 => ?_, fun m k q0 q1 k0 k1 => ?_, ?_, fun x x0 x1 => ?_, fun x v => ?_, fun x y x0 x1 y0 y1 e => ?_, fun x x' v v' p => ?_, fun x y x0 x1 y0 y1 p => ?_, fun x v => ?_, fun x x0 x1 => ?_⟩
  · dsimp only
    have := a1 i i0 i1
    split
    · rename_i q
      subst q
      omega
    · exact this
  · dsimp only
    split
    · exact bit_or_r n0 n1 j0 j1
    · exact a2 m q0 q1
  · rw [V']
    dsimp only
    by_cases q : m = mc o
    · rw [if_pos q, bit_or n0 n1 j0 j1 k0 k1, q, a3 (mc o) k m0 m1 k0 k1]
      constructor
      · rintro (u | u)
        · exact Or.inl u
        · right
          rw [u, ← oj, hon]
      · rintro (u | u)
        · exact Or.inl u
        · right
          have := (hB.2.2 (mc o) k m0 m1 k0 k1 (by rw [u]; exact hv.1)).2.2
          rw [u] at this
          omega
    · rw [if_neg q, a3 m k q0 q1 k0 k1]
      constructor
      · exact Or.inl
      · rintro (u | u)
        · exact u
        · have := (hB.2.2 m k q0 q1 k0 k1 (by rw [u]; exact hv.1)).2.1
          rw [u] at this
          exact absurd this.symm q
  · dsimp only
    rcases (show j = 0 ∨ j = 1 ∨ j = 2 ∨ j = 3 by omega) with q | q | q | q <;> subst q <;> simp only [if_true, Int.reduceEq, if_false] <;> omega
  · rw [V']
    dsimp only
    split
    · exact Or.inr rfl
    · exact Or.inl (a5 x x0 (by omega))
  · rw [V'] at v
    rcases v with v | v
    · obtain ⟨y, y0, y1, e⟩ := a6 x v
      exact ⟨y, y0, by omega, by dsimp only; rw [if_neg (by omega)]; exact e⟩
    · exact ⟨s, by omega, by omega, by dsimp only; rw [if_pos rfl]; exact v.symm⟩
  · dsimp only at e
    by_cases q : x = s
    · by_cases q2 : y = s
      · omega
      · rw [if_pos q, if_neg q2] at e
        exact absurd (e ▸ a5 y y0 (by omega)) hno
    · by_cases q2 : y = s
      · rw [if_neg q, if_pos q2] at e
        exact absurd (e ▸ a5 x x0 (by omega)) hno
      · rw [if_neg q, if_neg q2] at e
        exact a7 x y x0 (by omega) y0 (by omega) e
  · rw [V'] at v ⊢
    rcases v with v | v
    · exact Or.inl (a8 x x' v v' p)
    · subst v
      exact Or.inl (cl x' v' p)
  · dsimp only at p
    by_cases q : x = s
    · by_cases q2 : y = s
      · rw [if_pos q, if_pos q2] at p
        exact absurd p nself
      · omega
    · by_cases q2 : y = s
      · rw [if_neg q, if_pos q2] at p
        exact absurd (a8 _ _ (a5 x x0 (by omega)) hv p) hno
      · rw [if_neg q, if_neg q2] at p
        exact a9 x y x0 (by omega) y0 (by omega) p
  · rw [V'] at v
    rcases v with v | v
    · have hne : x ≠ o := fun q => hno (q ▸ v)
      show hEq _ _ _ _ _ x (if x = o then r else hd x)
      rw [if_neg hne]
      refine hEq_congr (a10 x v) (fun o' v' p' => ?_)
      exact if_neg (fun q : o' = o => hno (q ▸ a8 x o' v v' p'))
    · rw [v]
      show hEq _ _ _ _ _ o (if o = o then r else hd o)
      rw [if_pos rfl]
      refine hEq_congr hr (fun o' v' p' => ?_)
      exact if_neg (fun q : o' = o => hno (q ▸ cl o' v' p'))
  · dsimp only
    by_cases q : x = s
    · rw [if_pos q, if_pos rfl]
      obtain ⟨b1, b2, b3⟩ := hr
      refine ⟨by omega, ?_⟩
      rcases b3 with b3 | ⟨o', v', p', b3⟩
      · omega
      · have := SI_hd hB hh (cl o' v' p')
        have := (hB.2.1 o' v').2.2.2.1
        omega
    · rw [if_neg q]
      have := a5 x x0 (by omega)
      have hne : so x ≠ o := fun e => hno (e ▸ this)
      rw [if_neg hne]
      exact a11 x x0 (by omega)
theorem SI_zero {st mc du rd on ah hd so ss sn : Int → Int} (hB : NB st mc du rd on) (h : ∀ j, 0 ≤ j → j < 4 → ss j = 0) (h2 : ∀ j, 0 ≤ j → j < 4 → sn j = 0) : SI st mc du rd on ah hd so ss sn 0 := by
  have nv : ∀ o, ¬ vOp ss o := by
    intro o v
    have hj := vOp_j v
    have := v.2.2
    rw [h _ hj.1 hj.2.1] at this
    omega
  refine ⟨fun j j0 j1 => ?_, fun m m0 m1 => ?_, fun m k m0 m1 k0 k1 => ?_, ?_, fun x x0 x1 => by omega, fun o v => absurd v (nv o), fun x y x0 x1 => by omega, fun o o' v => absurd v (nv o), fun x y x0 x1 => by omega, fun o v => absurd v (nv o), fun x x0 x1 => by omega⟩
  · rw [h j j0 j1]
    have := hB.1 j j0 j1
    omega
  · rw [h2 m m0 m1]
    omega
  · rw [h2 m m0 m1]
    exact ⟨fun q => absurd q (bit_0 k0 k1), fun q => absurd q (nv _)⟩
  · rw [h 0 (by omega) (by omega), h 1 (by omega) (by omega), h 2 (by omega) (by omega), h 3 (by omega) (by omega)]
    rfl
/-- tails, from the last sorted one on down to behind i -/
def TV (st mc du rd ah hd tl so : Int → Int) (s L i : Int) : Prop := (∀ x, i < x → x < s → tEq (vOp st) (pN mc ah) du tl (so x) (tl (so x)) ∧ 0 ≤ tl (so x) ∧ tl (so x) ≤ 20 * (s - 1 - x)) ∧ 0 ≤ L ∧ L ≤ 1100 ∧ (∀ x, i < x → x < s → hd (so x) + du (so x) + tl (so x) ≤ L) ∧ (L = 0 ∨ ∃ x, i < x ∧ x < s ∧ hd (so x) + du (so x) + tl (so x) = L)
theorem TV_0 {st mc du rd ah hd tl so : Int → Int} {s : Int} : TV st mc du rd ah hd tl so s 0 (s - 1) := ⟨fun x x0 x1 => by omega, by omega, by omega, fun x x0 x1 => by omega, Or.inl rfl⟩
theorem TV_suc {st mc du rd on ah hd tl so ss sn : Int → Int} {s L i : Int} (hB : NB st mc du rd on) (h : SI st mc du rd on ah hd so ss sn s) (hs : st 0 + st 1 + st 2 + st 3 ≤ s) (ht : TV st mc du rd ah hd tl so s L i) (h0 : 0 ≤ i) (h1 : i < s) {o' : Int} (v : vOp st o') (p : pN mc ah (so i) o') : ∃ x, i < x ∧ x < s ∧ so x = o' := by
  have hj := vOp_j v
  have hf := SI_full hB h hs hj.1 hj.2.1
  have v' : vOp ss o' := ⟨v.1, v.2.1, by rw [hf]; exact v.2.2⟩
  obtain ⟨x, x0, x1, rfl⟩ := h.2.2.2.2.2.1 o' v'
  exact ⟨x, h.2.2.2.2.2.2.2.2.1 x i x0 x1 h0 h1 p, x1, rfl⟩
theorem TV_add {st mc du rd on ah hd tl so ss sn : Int → Int} {s L i r L' : Int} (hB : NB st mc du rd on) (h : SI st mc du rd on ah hd so ss sn s) (hs : st 0 + st 1 + st 2 + st 3 ≤ s) (ht : TV st mc du rd ah hd tl so s L i) (h0 : 0 ≤ i) (h1 : i < s) (hr : tEq (vOp st) (pN mc ah) du tl (so i) r) (hL : L' = if hd (so i) + du (so i) + r ≤ L then L else hd (so i) + du (so i) + r) : TV st mc du rd ah hd (fun x => if x = so i then r else tl x) so s L' (i - 1) := by
  have hh := h
  obtain ⟨a1, a2, a3, a4, a5, a6, a7, a8, a9, a10, a11⟩ := h
  have hrr := hr
  obtain ⟨r0, r1, r2⟩ := hr
  have hvi := SI_v hh (a5 i h0 h1)
  have hdb := a11 i h0 h1
  have hdu := (hB.2.1 _ hvi).2.2
  have s16 := SI_16 hB hh
  have rb : r ≤ 20 * (s - 1 - i) := by
    rcases r2 with r2 | ⟨o', v', p', r2⟩
    · omega
    · obtain ⟨x, x0, x1, rfl⟩ := TV_suc hB hh hs ht h0 h1 v' p'
      have := (ht.1 x x0 x1).2.2
      have := (hB.2.1 _ v').2.2.2.1
      omega
  have hne : ∀ x, i < x → x < s → so x ≠ so i := by
    intro x x0 x1 e
    have := a7 x i (by omega) x1 h0 h1 e
    omega
  have eqs : ∀ y, i ≤ y → y < s → ∀ o', vOp st o' → pN mc ah (so y) o' → (if o' = so i then r else tl o') = tl o' := by
    intro y y0 y1 o' v' p'
    rw [if_neg]
    intro e
    have := a9 i y h0 h1 (by omega) y1 (e ▸ p')
    omega
  obtain ⟨t1, t2, t3, t4, t5⟩ := ht
  refine ⟨fun x x0 x1 => ?_, ?_, ?_, fun x x0 x1 => ?_, ?_⟩
  · by_cases q : x = i
    · subst q
      simp only [if_true]
      exact ⟨tEq_congr hrr (eqs x (by omega) x1), r0, rb⟩
    · simp only [if_neg (hne x (by omega) x1)]
      obtain ⟨u1, u2, u3⟩ := t1 x (by omega) x1
      exact ⟨tEq_congr u1 (eqs x (by omega) x1), u2, u3⟩
  · rw [hL]
    split <;> omega
  · rw [hL]
    split <;> omega
  · by_cases q : x = i
    · subst q
      simp only [if_true]
      rw [hL]
      split <;> omega
    · simp only [if_neg (hne x (by omega) x1)]
      have := t4 x (by omega) x1
      rw [hL]
      split <;> omega
  · rw [hL]
    split
    · rcases t5 with t5 | ⟨x, x0, x1, e⟩
      · exact Or.inl t5
      · refine Or.inr ⟨x, by omega, x1, ?_⟩
        simp only [if_neg (hne x x0 x1)]
        exact e
    · refine Or.inr ⟨i, by omega, h1, ?_⟩
      simp only [if_true]
/-- heads, tails and the length are found -/
def Msd (st mc du rd ah hd tl : Int → Int) (L : Int) : Prop := IsHead (vOp st) (pN mc ah) du rd hd ∧ IsTail (vOp st) (pN mc ah) du tl ∧ IsMax (vOp st) (fun o => hd o + du o + tl o) L ∧ L ≤ 1100 ∧ ∀ o, vOp st o → 0 ≤ hd o ∧ hd o ≤ 700 ∧ 0 ≤ tl o ∧ tl o ≤ 320
theorem TV_end {st mc du rd on ah hd tl so ss sn : Int → Int} {s L i : Int} (hB : NB st mc du rd on) (h : SI st mc du rd on ah hd so ss sn s) (hs : st 0 + st 1 + st 2 + st 3 ≤ s) (ht : TV st mc du rd ah hd tl so s L i) (hi : i = -1) : Msd st mc du rd ah hd tl L := by
  have s16 := SI_16 hB h
  have pl : ∀ o, vOp st o → vOp ss o ∧ ∃ x, 0 ≤ x ∧ x < s ∧ so x = o := by
    intro o v
    have hj := vOp_j v
    have hf := SI_full hB h hs hj.1 hj.2.1
    have v' : vOp ss o := ⟨v.1, v.2.1, by rw [hf]; exact v.2.2⟩
    exact ⟨v', h.2.2.2.2.2.1 o v'⟩
  obtain ⟨t1, t2, t3, t4, t5⟩ := ht
  refine ⟨fun o v => ?_, fun o v => ?_, ⟨t2, fun o v => ?_, ?_⟩, t3, fun o v => ?_⟩
  · exact h.2.2.2.2.2.2.2.2.2.1 o (pl o v).1
  · obtain ⟨-, x, x0, x1, rfl⟩ := pl o v
    exact (t1 x (by omega) x1).1
  · obtain ⟨-, x, x0, x1, rfl⟩ := pl o v
    exact t4 x (by omega) x1
  · rcases t5 with t5 | ⟨x, x0, x1, e⟩
    · exact Or.inl t5
    · exact Or.inr ⟨so x, SI_v h (h.2.2.2.2.1 x (by omega) x1), e⟩
  · obtain ⟨v', x, x0, x1, rfl⟩ := pl o v
    have u1 := t1 x (by omega) x1
    have u2 := h.2.2.2.2.2.2.2.2.2.2 x x0 x1
    omega
