/-! heads and tails by the orders, in the law's words -/
theorem oq_e {v : Vw} (hw : wWF v) {m k r : Int} (m0 : 0 ≤ m) (m1 : m < 4) (k0 : 0 ≤ k) (k1 : k < v 13 m) (vr : vOp (v 10) r) (e : r / 4 = v 14 (4 * m + k)) (em : v 11 r = m) : r = oq (v 10) (v 11) (v 14) m k := by
  have q := oq_v hw.1 m0 m1 k0 k1
  exact hw.1.2.2.2.1 r _ vr q.1 (by rw [e, q.2.2]) (by rw [em, q.2.1])
/-- the job at a place has an operation on the machine -/
theorem oq_on {v : Vw} (hw : wWF v) {m k r : Int} (m0 : 0 ≤ m) (m1 : m < 4) (k0 : 0 ≤ k) (k1 : k < v 13 m) (h : (vOp (v 10) r ∧ r / 4 = v 14 (4 * m + k) ∧ v 11 r = m) ∨ (r = -1 ∧ ∀ o, vOp (v 10) o → o / 4 = v 14 (4 * m + k) → v 11 o ≠ m)) : r = oq (v 10) (v 11) (v 14) m k := by
  rcases h with h | ⟨-, h⟩
  · exact oq_e hw m0 m1 k0 k1 h.1 h.2.1 h.2.2
  · have q := oq_v hw.1 m0 m1 k0 k1
    exact absurd q.2.1 (h _ q.1 q.2.2)
theorem oq_j {v : Vw} (hw : wWF v) {m k : Int} (m0 : 0 ≤ m) (m1 : m < 4) (k0 : 0 ≤ k) (k1 : k < v 13 m) : 0 ≤ v 14 (4 * m + k) ∧ v 14 (4 * m + k) < v 5 0 := by
  have q := oq_v hw.1 m0 m1 k0 k1
  have j := wWF_j hw q.1
  rw [q.2.2] at j
  exact j
/-- the place before, the one behind: -1 where there is none -/
noncomputable def befA (v : Vw) (m k : Int) : Int := if k = 0 then -1 else oq (v 10) (v 11) (v 14) m (k - 1)
noncomputable def behA (v : Vw) (m k : Int) : Int := if k + 1 < v 13 m then oq (v 10) (v 11) (v 14) m (k + 1) else -1
theorem endA_v {v : Vw} {o : Int} (h : vOp (v 10) o) : endA v o = hV v o + v 12 o ∧ rstA v o = tV v o + v 12 o := ⟨cif_1 h, cif_1 h⟩
theorem endA_n {v : Vw} {o : Int} (h : ¬ vOp (v 10) o) : endA v o = 0 ∧ rstA v o = 0 := ⟨cif_0 h, cif_0 h⟩
theorem rt_b {v : Vw} (hw : wWF v) {o : Int} (vo : vOp (v 10) o) (h : o % 4 ≠ 0) : vOp (v 10) (o - 1) := by
  have a := vo.1
  have b := vo.2.1
  have c := vo.2.2
  exact ⟨by omega, by omega, by rw [show (o - 1) / 4 = o / 4 by omega]; omega⟩
theorem hd_eq {v : Vw} (hw : wWF v) (hp : pos v) {m k o : Int} (m0 : 0 ≤ m) (m1 : m < 4) (k0 : 0 ≤ k) (k1 : k < v 13 m) (ho : o = oq (v 10) (v 11) (v 14) m k) : (o % 4 ≠ 0 → endA v (o - 1) ≤ hV v o) ∧ endA v (befA v m k) ≤ hV v o ∧ v 8 (o / 4) ≤ hV v o ∧ (hV v o = v 8 (o / 4) ∨ (o % 4 ≠ 0 ∧ hV v o = endA v (o - 1)) ∨ hV v o = endA v (befA v m k)) := by
  have f := pos_f hw hp
  have q := oq_v hw.1 m0 m1 k0 k1
  have pk := plo_oq hw.1 m0 m1 k0 k1
  rw [← ho] at q pk
  obtain ⟨vo, em, ej⟩ := q
  have H := f.1 o vo
  have r0 := wWF_op hw vo
  refine ⟨fun c => ?_, ?_, H.1, ?_⟩
  · have vb := rt_b hw vo c
    rw [(endA_v vb).1]
    exact H.2.1 (o - 1) vb (Or.inl ⟨c, rfl⟩)
  · unfold befA
    by_cases z : k = 0
    · rw [if_pos z, (endA_n (vOp_nn (by omega))).1]
      have := H.1
      dsimp only at this
      omega
    · rw [if_neg z]
      have qb := oq_v hw.1 m0 m1 (show 0 ≤ k - 1 by omega) (show k - 1 < v 13 m by omega)
      have pb := plo_oq hw.1 m0 m1 (show 0 ≤ k - 1 by omega) (show k - 1 < v 13 m by omega)
      rw [(endA_v qb.1).1]
      exact H.2.1 _ qb.1 (Or.inr ⟨by rw [qb.2.1, em], by rw [pb, pk]; omega⟩)
  · rcases H.2.2 with c | ⟨o', v', p, c⟩
    · exact Or.inl c
    · rcases p with ⟨a, b⟩ | ⟨a, b⟩
      · rw [b] at c v'
        exact Or.inr (Or.inl ⟨a, by rw [(endA_v v').1]; exact c⟩)
      · refine Or.inr (Or.inr ?_)
        have l := plo_of hw.1 v'
        unfold befA
        rw [a, em] at l
        rw [if_neg (by omega), show k - 1 = plo (v 11) (v 13) (v 14) o' by omega, l.2.2, (endA_v v').1]
        exact c
theorem tl_eq {v : Vw} (hw : wWF v) (hp : pos v) {m k o : Int} (m0 : 0 ≤ m) (m1 : m < 4) (k0 : 0 ≤ k) (k1 : k < v 13 m) (ho : o = oq (v 10) (v 11) (v 14) m k) : (o % 4 ≠ 3 → rstA v (o + 1) ≤ tV v o) ∧ rstA v (behA v m k) ≤ tV v o ∧ 0 ≤ tV v o ∧ (tV v o = 0 ∨ (o % 4 ≠ 3 ∧ tV v o = rstA v (o + 1)) ∨ tV v o = rstA v (behA v m k)) := by
  have f := pos_f hw hp
  have q := oq_v hw.1 m0 m1 k0 k1
  have pk := plo_oq hw.1 m0 m1 k0 k1
  rw [← ho] at q pk
  obtain ⟨vo, em, ej⟩ := q
  have T := f.2.1 o vo
  refine ⟨fun c => ?_, ?_, T.1, ?_⟩
  · by_cases vb : vOp (v 10) (o + 1)
    · rw [(endA_v vb).2]
      have := T.2.1 (o + 1) vb (Or.inl ⟨by omega, by omega⟩)
      omega
    · rw [(endA_n vb).2]
      exact T.1
  · unfold behA
    by_cases z : k + 1 < v 13 m
    · rw [if_pos z]
      have qb := oq_v hw.1 m0 m1 (show 0 ≤ k + 1 by omega) z
      have pb := plo_oq hw.1 m0 m1 (show 0 ≤ k + 1 by omega) z
      rw [(endA_v qb.1).2]
      have := T.2.1 _ qb.1 (Or.inr ⟨by rw [qb.2.1, em], by rw [pb, pk]⟩)
      omega
    · rw [if_neg z, (endA_n (vOp_nn (by omega))).2]
      exact T.1
  · rcases T.2.2 with c | ⟨o', v', p, c⟩
    · exact Or.inl c
    · rcases p with ⟨a, b⟩ | ⟨a, b⟩
      · have e : o' = o + 1 := by omega
        rw [e] at c v'
        refine Or.inr (Or.inl ⟨?_, by rw [(endA_v v').2]; omega⟩)
        have w := v'.2.2
        omega
      · refine Or.inr (Or.inr ?_)
        have l := plo_of hw.1 v'
        unfold behA
        rw [← a, em] at l
        rw [if_pos (by omega), show k + 1 = plo (v 11) (v 13) (v 14) o' by omega, l.2.2, (endA_v v').2]
        omega
noncomputable def thr (v : Vw) (o : Int) : Int := hV v o + v 12 o + tV v o
/-- the longest way so far -/
def LON (v : Vw) (m k l : Int) : Prop := (0 ≤ l ∧ l ≤ 1000) ∧ (pos v → (∀ o, vOp (v 10) o → (v 11 o < m ∨ (v 11 o = m ∧ plo (v 11) (v 13) (v 14) o < k)) → thr v o ≤ l) ∧ (l = 0 ∨ ∃ o, vOp (v 10) o ∧ thr v o = l))
theorem LON_0 {v : Vw} (hw : wWF v) : LON v 0 0 0 := ⟨by omega, fun _ => ⟨fun o vo q => by
  have := wWF_op hw vo
  have := (plo_of hw.1 vo).1
  omega, Or.inl rfl⟩⟩
theorem LON_r {v : Vw} (hw : wWF v) {m k l : Int} (hk : 4 ≤ k) (m0 : 0 ≤ m) (m1 : m < 4) (h : LON v m k l) : LON v (m + 1) 0 l := ⟨h.1, fun p => ⟨fun o vo q => (h.2 p).1 o vo (by
  have a := plo_of hw.1 vo
  have b := wWF_op hw vo
  rcases (show v 11 o < m ∨ v 11 o = m by omega) with z | z
  · exact Or.inl z
  · rw [z] at a
    have := ln_w hw m0 m1
    exact Or.inr ⟨z, by omega⟩), (h.2 p).2⟩⟩
theorem LON_n {v : Vw} (hw : wWF v) {m k l : Int} (hk : ¬ k < v 13 m) (h : LON v m k l) : LON v m (k + 1) l := ⟨h.1, fun p => ⟨fun o vo q => (h.2 p).1 o vo (by
  have a := plo_of hw.1 vo
  rcases q with q | ⟨q, r⟩
  · exact Or.inl q
  · rw [q] at a
    exact Or.inr ⟨q, by omega⟩), (h.2 p).2⟩⟩
theorem LON_np {v : Vw} {m k m' k' l : Int} (hp : ¬ pos v) (h : LON v m k l) : LON v m' k' l := ⟨h.1, fun p => absurd p hp⟩
theorem LON_s {v : Vw} (hw : wWF v) (hp : pos v) {m k l l' o : Int} (m0 : 0 ≤ m) (m1 : m < 4) (k0 : 0 ≤ k) (k1 : k < v 13 m) (ho : o = oq (v 10) (v 11) (v 14) m k) (h : LON v m k l) (hl : (l < thr v o ∧ l' = thr v o) ∨ (thr v o ≤ l ∧ l' = l)) : LON v m (k + 1) l' := by
  have q := oq_v hw.1 m0 m1 k0 k1
  rw [← ho] at q
  have B := (hV_b hw hp).1 o q.1
  have D := wWF_op hw q.1
  have t1 : thr v o = hV v o + v 12 o + tV v o := rfl
  refine ⟨by have := h.1; omega, fun p => ⟨fun x vx z => ?_, ?_⟩⟩
  · by_cases c : v 11 x < m ∨ (v 11 x = m ∧ plo (v 11) (v 13) (v 14) x < k)
    · have := (h.2 p).1 x vx c
      omega
    · have e : v 11 x = m ∧ plo (v 11) (v 13) (v 14) x = k := by
        rcases z with z | z
        · exact absurd (Or.inl z) c
        · refine ⟨z.1, ?_⟩
          have := fun y => c (Or.inr ⟨z.1, y⟩)
          omega
      have l2 := (plo_of hw.1 vx).2.2
      rw [e.1, e.2, ← ho] at l2
      rw [← l2]
      omega
  · rcases hl with z | z
    · exact Or.inr ⟨o, q.1, z.2.symm⟩
    · rw [z.2]
      exact (h.2 p).2
theorem LON_e {v : Vw} (hw : wWF v) (hp : pos v) {m k l : Int} (hm : 4 ≤ m) (h : LON v m k l) : l = LV v := by
  have f := pos_f hw hp
  refine max_unique (V := vOp (v 10)) (f := fun o => hV v o + v 12 o + tV v o) ⟨h.1.1, fun o vo => ?_, (h.2 hp).2⟩ f.2.2.1
  exact (h.2 hp).1 o vo (Or.inl (by have := wWF_op hw vo; omega))
theorem lenA_s {v : Vw} (hw : wWF v) : (pos v ∧ lenA v = LV v ∧ 0 ≤ LV v ∧ LV v ≤ 390) ∨ (¬ pos v ∧ lenA v = -6) := by
  by_cases c : pos v
  · exact Or.inl ⟨c, cif_1 c, (hV_b hw c).2⟩
  · exact Or.inr ⟨c, cif_0 c⟩
theorem ejA_r {v : Vw} (hw : wWF v) (hp : pos v) {j : Int} (hj : 0 ≤ j ∧ j < v 5 0) : (0 ≤ ejA v j ∧ ejA v j ≤ 390) ∧ (0 ≤ ltA v j ∧ ltA v j ≤ 390) ∧ 0 ≤ v 9 j ∧ v 9 j ≤ 200 := by
  have J4 := hw.1.1
  have d := hw.2 j hj.1 hj.2
  have e : 0 ≤ ejA v j ∧ ejA v j ≤ 390 := by
    unfold ejA
    by_cases c : 0 < v 10 j
    · rw [if_pos c]
      have vo := last_v hw hj.1 (by omega) c
      have b := (hV_b hw hp).1 _ vo
      have w := wWF_op hw vo
      omega
    · rw [if_neg c]
      omega
  refine ⟨e, ?_, d.2.2⟩
  unfold ltA
  split <;> omega
