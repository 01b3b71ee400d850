/-! agreement goes on: operations of jobs, works, bounds, lateness -/
theorem wF_cg {f g : Int → Int} {b n : Int} (h : ∀ k, 0 ≤ k → k < n → k < 4 → f (b + k) = g (b + k)) : wF f b n = wF g b n := by
  have e0 : 0 < n → f b = g b := fun c => by
    have := h 0 (by omega) c (by omega)
    rw [Int.add_zero] at this
    exact this
  unfold wF
  by_cases c0 : n ≤ 0
  · rw [if_pos c0, if_pos c0]
  rw [if_neg c0, if_neg c0, e0 (by omega)]
  by_cases c1 : n ≤ 1
  · rw [if_pos c1, if_pos c1]
  rw [if_neg c1, if_neg c1, h 1 (by omega) (by omega) (by omega)]
  by_cases c2 : n ≤ 2
  · rw [if_pos c2, if_pos c2]
  rw [if_neg c2, if_neg c2, h 2 (by omega) (by omega) (by omega)]
  by_cases c3 : n ≤ 3
  · rw [if_pos c3, if_pos c3]
  rw [if_neg c3, if_neg c3, h 3 (by omega) (by omega) (by omega)]
theorem vOp_i {st : Int → Int} {j s : Int} (j0 : 0 ≤ j) (j1 : j < 4) (s0 : 0 ≤ s) (s1 : s < st j) (h4 : st j ≤ 4) : vOp st (4 * j + s) := ⟨by omega, by omega, by rw [show (4 * j + s) / 4 = j by omega]; omega⟩
theorem AG.sy {J J' : Int} {st st' mc mc' du du' re re' ln ln' q q' : Int → Int} (h : AG J J' st st' mc mc' du du' re re' ln ln' q q') : AG J' J st' st mc' mc du' du re' re ln' ln q' q := by
  have hV := h.V
  obtain ⟨a1, a2, a3, a4, a5⟩ := h
  exact ⟨a1.symm, fun j x y => (a2 j x y).symm, fun o v => ⟨((a3 o ((hV o).mp v)).1).symm, ((a3 o ((hV o).mp v)).2.1).symm, ((a3 o ((hV o).mp v)).2.2).symm⟩, fun m x y => (a4 m x y).symm, fun m k x y z w => (a5 m k x y z (by rw [a4 m x y]; exact w)).symm⟩
/-- the work of a part of a job -/
theorem AG.wk {J J' : Int} {st st' mc mc' du du' re re' ln ln' q q' : Int → Int} (h : AG J J' st st' mc mc' du du' re re' ln ln' q q') (hW : WF J st mc du ln q) {j a n : Int} (j0 : 0 ≤ j) (j1 : j < 4) (a0 : 0 ≤ a) (an : a + n ≤ st j) : wF du (4 * j + a) n = wF du' (4 * j + a) n := wF_cg (fun k k0 k1 _ => by
  have v := vOp_i (s := a + k) j0 j1 (by omega) (by omega) (hW.2.1 j j0 j1).2.1
  rw [show 4 * j + (a + k) = 4 * j + a + k by omega] at v
  exact (h.2.2.1 _ v).2.1)
theorem AG.mOe {J J' : Int} {st st' mc mc' du du' re re' ln ln' q q' : Int → Int} (h : AG J J' st st' mc mc' du du' re re' ln ln' q q') (hW : WF J st mc du ln q) {m k : Int} (k0 : 0 ≤ k) (k1 : k < 4) : mO st mc m k = mO st' mc' m k := by
  have hW' := h.wf hW
  rcases mO_v hW (m := m) k0 k1 with ⟨a, b⟩ | ⟨a, b, c, d⟩ <;> rcases mO_v hW' (m := m) k0 k1 with ⟨a', b'⟩ | ⟨a', b', c', d'⟩
  · rw [a, a']
  · have v := (h.V _).mp b'
    exact absurd (by rw [(h.2.2.1 _ v).1]; exact c') (b _ v d')
  · have v := (h.V _).mpr b
    exact absurd (by rw [← (h.2.2.1 _ b).1]; exact c) (b' _ v d)
  · have v := (h.V _).mp b'
    exact hW.2.2.2.1 _ _ b v (by omega) (by rw [c, (h.2.2.1 _ v).1, c'])
theorem AG.mb {J J' : Int} {st st' mc mc' du du' re re' ln ln' q q' : Int → Int} (h : AG J J' st st' mc mc' du du' re re' ln ln' q q') (hW : WF J st mc du ln q) {m B : Int} (hb : mbd st mc du re m B) : mbd st' mc' du' re' m B := by
  unfold mbd at hb ⊢
  refine JB_cg2 (fun k k0 k1 => by rw [← h.mOe hW k0 k1]) (fun k k0 k1 hk => ?_) hb
  have hk' : 0 ≤ mO st mc m k := hk
  rcases mO_v hW (m := m) k0 k1 with ⟨a, -⟩ | ⟨a, b, c, d⟩
  · omega
  · rw [← h.mOe hW k0 k1]
    have e := h.2.2.1 _ b
    have hs := hW.2.1 k k0 k1
    have b2 := b.2.2
    rw [d] at b2 e
    refine ⟨e.2.1.symm, ?_, ?_⟩
    · have := h.wk hW (a := 0) (n := mO st mc m k % 4) k0 k1 (by omega) (by omega)
      rw [Int.add_zero] at this
      rw [d, ← this, e.2.2]
    · have := h.wk hW (a := mO st mc m k % 4 + 1) (n := st k - mO st mc m k % 4 - 1) k0 k1 (by omega) (by omega)
      rw [show 4 * k + (mO st mc m k % 4 + 1) = mO st mc m k + 1 by omega] at this
      rw [d, ← h.2.1 k k0 k1, ← this]
/-- two workshops that agree answer alike when they are asked for a bound -/
theorem AG.bnd {J J' : Int} {st st' mc mc' du du' re re' ln ln' q q' : Int → Int} (h : AG J J' st st' mc mc' du du' re re' ln ln' q q') (hW : WF J st mc du ln q) {m B : Int} (hb : bndS st mc du re m B) : bndS st' mc' du' re' m B := by
  have hs := h.sy
  have hW' := h.wf hW
  rcases hb with ⟨a, b⟩ | ⟨a, b, c, d⟩
  · exact Or.inl ⟨a, h.mb hW b⟩
  · refine Or.inr ⟨a, b, fun m' m0 m1 => ?_, ?_⟩
    · obtain ⟨x, x1, x2⟩ := c m' m0 m1
      exact ⟨x, h.mb hW x1, x2⟩
    · rcases d with d | ⟨m', m0, m1, d⟩
      · exact Or.inl d
      · exact Or.inr ⟨m', m0, m1, h.mb hW d⟩
