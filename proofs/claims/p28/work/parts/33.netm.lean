/-! nets: routes, what is on the machines, what is decided to go ahead -/
/-- o' goes directly ahead of o: on the route, or as it is decided on the machine -/
def pN (mc ah : Int → Int) (o' o : Int) : Prop := (o % 4 ≠ 0 ∧ o' = o - 1) ∨ (mc o' = mc o ∧ hasB (ah o) (o' / 4))
def NB (st mc du rd on : Int → Int) : Prop := (∀ j, 0 ≤ j → j < 4 → 0 ≤ st j ∧ st j ≤ 4) ∧ (∀ o, vOp st o → 0 ≤ mc o ∧ mc o < 4 ∧ 1 ≤ du o ∧ du o ≤ 20 ∧ 0 ≤ rd o ∧ rd o ≤ 400 ∧ on (4 * mc o + o / 4) = o) ∧ (∀ m k, 0 ≤ m → m < 4 → 0 ≤ k → k < 4 → 0 ≤ on (4 * m + k) → vOp st (on (4 * m + k)) ∧ mc (on (4 * m + k)) = m ∧ on (4 * m + k) / 4 = k)
def NA (st mc on ah : Int → Int) : Prop := ∀ o, vOp st o → 0 ≤ ah o ∧ ah o < 16 ∧ ∀ k, 0 ≤ k → k < 4 → hasB (ah o) k → k ≠ o / 4 ∧ 0 ≤ on (4 * mc o + k)
theorem NB_16 {st mc du rd on : Int → Int} (h : NB st mc du rd on) {m k : Int} (h0 : 0 ≤ m) (h1 : m < 4) (h2 : 0 ≤ k) (h3 : k < 4) : on (4 * m + k) < 16 := by
  rcases Int.lt_or_le (on (4 * m + k)) 0 with q | q
  · omega
  · exact (h.2.2 m k h0 h1 h2 h3 q).1.2.1
theorem NB_inj {st mc du rd on : Int → Int} (h : NB st mc du rd on) {m : Int} (h0 : 0 ≤ m) (h1 : m < 4) : ∀ k k2, 0 ≤ k → k < 4 → 0 ≤ k2 → k2 < 4 → 0 ≤ on (4 * m + k) → on (4 * m + k) = on (4 * m + k2) → k = k2 := by
  intro k k2 a b c d e f
  have h2 := (h.2.2 m k h0 h1 a b e).2.2
  have h3 := (h.2.2 m k2 h0 h1 c d (by omega)).2.2
  omega
theorem vOp_j {st : Int → Int} {o : Int} (h : vOp st o) : 0 ≤ o / 4 ∧ o / 4 < 4 ∧ 0 ≤ o % 4 ∧ o % 4 < 4 := by
  have h1 := h.1
  have h2 := h.2.1
  omega
/-- the head's, the tail's equation at an operation -/
def hEq (V : Int → Prop) (P : Int → Int → Prop) (d r h : Int → Int) (o x : Int) : Prop := r o ≤ x ∧ (∀ o', V o' → P o' o → h o' + d o' ≤ x) ∧ (x = r o ∨ ∃ o', V o' ∧ P o' o ∧ x = h o' + d o')
def tEq (V : Int → Prop) (P : Int → Int → Prop) (d t : Int → Int) (o x : Int) : Prop := 0 ≤ x ∧ (∀ o', V o' → P o o' → d o' + t o' ≤ x) ∧ (x = 0 ∨ ∃ o', V o' ∧ P o o' ∧ x = d o' + t o')
theorem hEq_head {V : Int → Prop} {P : Int → Int → Prop} {d r h : Int → Int} (H : ∀ o, V o → hEq V P d r h o (h o)) : IsHead V P d r h := fun o ho => H o ho
theorem tEq_tail {V : Int → Prop} {P : Int → Int → Prop} {d t : Int → Int} (H : ∀ o, V o → tEq V P d t o (t o)) : IsTail V P d t := fun o ho => H o ho
theorem hEq_congr {V : Int → Prop} {P : Int → Int → Prop} {d r h h' : Int → Int} {o x : Int} (H : hEq V P d r h o x) (hh : ∀ o', V o' → P o' o → h' o' = h o') : hEq V P d r h' o x := by
  obtain ⟨a1, a2, a3⟩ := H
  refine ⟨a1, fun o' v p => by rw [hh o' v p]; exact a2 o' v p, ?_⟩
  rcases a3 with a3 | ⟨o', v, p, a3⟩
  · exact Or.inl a3
  · exact Or.inr ⟨o', v, p, by rw [hh o' v p]; exact a3⟩
theorem tEq_congr {V : Int → Prop} {P : Int → Int → Prop} {d h h' : Int → Int} {o x : Int} (H : tEq V P d h o x) (hh : ∀ o', V o' → P o o' → h' o' = h o') : tEq V P d h' o x := by
  obtain ⟨a1, a2, a3⟩ := H
  refine ⟨a1, fun o' v p => by rw [hh o' v p]; exact a2 o' v p, ?_⟩
  rcases a3 with a3 | ⟨o', v, p, a3⟩
  · exact Or.inl a3
  · exact Or.inr ⟨o', v, p, by rw [hh o' v p]; exact a3⟩
theorem HI_eq {σ : Mem} {n : Nat} {o r : Int} (hB : NB (σ 15 n) (σ 16 n) (σ 17 n) (σ 18 n) (σ 19 n)) (hA : NA (σ 15 n) (σ 16 n) (σ 19 n) (σ 20 n)) (ho : vOp (σ 15 n) o) (h : HI σ n o r 4) : hEq (vOp (σ 15 n)) (pN (σ 16 n) (σ 20 n)) (σ 17 n) (σ 18 n) (σ 21 n) o r := by
  obtain ⟨a1, a2, a3, a4⟩ := h
  obtain ⟨m0, m1, -, -, -, -, hon⟩ := hB.2.1 o ho
  have hj := vOp_j ho
  refine ⟨a1, fun o' v p => ?_, ?_⟩
  · rcases p with ⟨p1, rfl⟩ | ⟨p1, p2⟩
    · exact a2 p1
    · have hj' := vOp_j v
      obtain ⟨-, -, -, -, -, -, hon'⟩ := hB.2.1 o' v
      have := a3 (o' / 4) hj'.1 hj'.2.1 p2
      unfold eH oN at this
      rw [← p1, hon'] at this
      exact this
  · rcases a4 with a4 | ⟨q, a4⟩ | ⟨k, k0, k1, k2, a4⟩
    · exact Or.inl a4
    · refine Or.inr ⟨o - 1, ⟨by omega, by have := ho.2.1; omega, ?_⟩, Or.inl ⟨q, rfl⟩, a4⟩
      have h3 := ho.2.2
      have e : (o - 1) / 4 = o / 4 := by omega
      rw [e]
      omega
    · obtain ⟨q1, q2⟩ := (hA o ho).2.2 k k0 k1 k2
      obtain ⟨b1, b2, b3⟩ := hB.2.2 (σ 16 n o) k m0 m1 k0 k1 q2
      refine Or.inr ⟨σ 19 n (4 * σ 16 n o + k), b1, Or.inr ⟨b2, by rw [b3]; exact k2⟩, a4⟩
theorem TI_eq {σ : Mem} {n : Nat} {o r : Int} (hB : NB (σ 15 n) (σ 16 n) (σ 17 n) (σ 18 n) (σ 19 n)) (ho : vOp (σ 15 n) o) (h : TI σ n o r 4) : tEq (vOp (σ 15 n)) (pN (σ 16 n) (σ 20 n)) (σ 17 n) (σ 22 n) o r := by
  obtain ⟨a1, a2, a3, a4⟩ := h
  obtain ⟨m0, m1, -, -, -, -, hon⟩ := hB.2.1 o ho
  have hj := vOp_j ho
  refine ⟨a1, fun o' v p => ?_, ?_⟩
  · rcases p with ⟨p1, p2⟩ | ⟨p1, p2⟩
    · have e : o' = o + 1 := by omega
      subst e
      have h3 := v.2.2
      have e : (o + 1) / 4 = o / 4 := by omega
      rw [e] at h3
      exact a2 (by omega)
    · have hj' := vOp_j v
      obtain ⟨-, -, -, -, -, -, hon'⟩ := hB.2.1 o' v
      have e : oN σ n o (o' / 4) = o' := by
        unfold oN
        rw [p1, hon']
      have := a3 (o' / 4) hj'.1 hj'.2.1 (by rw [e]; exact v.1) (by rw [e]; exact p2)
      unfold tE at this
      rw [e] at this
      exact this
  · rcases a4 with a4 | ⟨q, a4⟩ | ⟨k, k0, k1, k2, k3, a4⟩
    · exact Or.inl a4
    · refine Or.inr ⟨o + 1, ⟨by have := ho.1; omega, by have := ho.2.1; have := hB.1 (o / 4) hj.1 hj.2.1; omega, ?_⟩, Or.inl ⟨by have := hB.1 (o / 4) hj.1 hj.2.1; omega, by omega⟩, a4⟩
      have h4 := hB.1 (o / 4) hj.1 hj.2.1
      have e : (o + 1) / 4 = o / 4 := by omega
      rw [e]
      omega
    · obtain ⟨b1, b2, b3⟩ := hB.2.2 (σ 16 n o) k m0 m1 k0 k1 k2
      exact Or.inr ⟨oN σ n o k, b1, Or.inr ⟨b2.symm, k3⟩, a4⟩
/-- what is sorted: the first ss j operations of each job; heads, their equations -/
def SI (st mc du rd on ah hd so ss sn : Int → Int) (s : Int) : Prop := (∀ j, 0 ≤ j → j < 4 → 0 ≤ ss j ∧ ss j ≤ st j) ∧ (∀ m, 0 ≤ m → m < 4 → 0 ≤ sn m ∧ sn m < 16) ∧ (∀ m k, 0 ≤ m → m < 4 → 0 ≤ k → k < 4 → (hasB (sn m) k ↔ vOp ss (on (4 * m + k)))) ∧ s = ss 0 + ss 1 + ss 2 + ss 3 ∧ (∀ x, 0 ≤ x → x < s → vOp ss (so x)) ∧ (∀ o, vOp ss o → ∃ x, 0 ≤ x ∧ x < s ∧ so x = o) ∧ (∀ x y, 0 ≤ x → x < s → 0 ≤ y → y < s → so x = so y → x = y) ∧ (∀ o o', vOp ss o → vOp st o' → pN mc ah o' o → vOp ss o') ∧ (∀ x y, 0 ≤ x → x < s → 0 ≤ y → y < s → pN mc ah (so y) (so x) → y < x) ∧ (∀ o, vOp ss o → hEq (vOp st) (pN mc ah) du rd hd o (hd o)) ∧ (∀ x, 0 ≤ x → x < s → 0 ≤ hd (so x) ∧ hd (so x) ≤ 400 + 20 * x)
theorem SI_v {st mc du rd on ah hd so ss sn : Int → Int} {s : Int} (h : SI st mc du rd on ah hd so ss sn s) {o : Int} (ho : vOp ss o) : vOp st o := by
  have hj := vOp_j ho
  have := h.1 (o / 4) hj.1 hj.2.1
  exact ⟨ho.1, ho.2.1, by have := ho.2.2; omega⟩
theorem SI_16 {st mc du rd on ah hd so ss sn : Int → Int} {s : Int} (hB : NB st mc du rd on) (h : SI st mc du rd on ah hd so ss sn s) : 0 ≤ s ∧ s ≤ 16 ∧ s ≤ st 0 + st 1 + st 2 + st 3 := by
  have e := h.2.2.2.1
  have a0 := h.1 0 (by omega) (by omega)
  have a1 := h.1 1 (by omega) (by omega)
  have a2 := h.1 2 (by omega) (by omega)
  have a3 := h.1 3 (by omega) (by omega)
  have b0 := hB.1 0 (by omega) (by omega)
  have b1 := hB.1 1 (by omega) (by omega)
  have b2 := hB.1 2 (by omega) (by omega)
  have b3 := hB.1 3 (by omega) (by omega)
  omega
theorem SI_hd {st mc du rd on ah hd so ss sn : Int → Int} {s : Int} (hB : NB st mc du rd on) (h : SI st mc du rd on ah hd so ss sn s) {o : Int} (ho : vOp ss o) : 0 ≤ hd o ∧ hd o ≤ 380 + 20 * s := by
  obtain ⟨x, x0, x1, rfl⟩ := h.2.2.2.2.2.1 o ho
  have := h.2.2.2.2.2.2.2.2.2.2 x x0 x1
  omega
/-- nothing goes on at a job -/
def bkd (st mc on ah ss : Int → Int) (j : Int) : Prop := ss j = st j ∨ ∃ k, 0 ≤ k ∧ k < 4 ∧ hasB (ah (4 * j + ss j)) k ∧ ¬ vOp ss (on (4 * mc (4 * j + ss j) + k))
theorem SI_bk {st mc du rd on ah hd so ss sn : Int → Int} {s : Int} (hB : NB st mc du rd on) (hA : NA st mc on ah) (h : SI st mc du rd on ah hd so ss sn s) {j : Int} (j0 : 0 ≤ j) (j1 : j < 4) (hs : ss j < st j) (hb : ¬ band (ah (4 * j + ss j)) (bxor (sn (mc (4 * j + ss j))) (-1)) = 0) : bkd st mc on ah ss j := by
  have hss := h.1 j j0 j1
  have hst := hB.1 j j0 j1
  have hv : vOp st (4 * j + ss j) := ⟨by omega, by omega, by rw [show (4 * j + ss j) / 4 = j by omega]; omega⟩
  obtain ⟨m0, m1, -⟩ := hB.2.1 _ hv
  obtain ⟨a0, a1, a2⟩ := hA _ hv
  obtain ⟨n0, n1⟩ := h.2.1 _ m0 m1
  rw [bit_sub a0 a1 n0 n1] at hb
  obtain ⟨k, hk⟩ := Classical.not_forall.mp hb
  have hk' : 0 ≤ k ∧ k < 4 ∧ hasB (ah (4 * j + ss j)) k ∧ ¬ hasB (sn (mc (4 * j + ss j))) k := by
    refine ⟨?_, ?_, ?_, ?_⟩
    · exact Classical.byContradiction fun q => hk (fun a => absurd a q)
    · exact Classical.byContradiction fun q => hk (fun _ a => absurd a q)
    · exact Classical.byContradiction fun q => hk (fun _ _ a => absurd a q)
    · exact fun q => hk (fun _ _ _ => q)
  obtain ⟨k0, k1, k2, k3⟩ := hk'
  exact Or.inr ⟨k, k0, k1, k2, fun q => k3 ((h.2.2.1 _ k m0 m1 k0 k1).mpr q)⟩
theorem SI_full {st mc du rd on ah hd so ss sn : Int → Int} {s : Int} (hB : NB st mc du rd on) (h : SI st mc du rd on ah hd so ss sn s) (hs : st 0 + st 1 + st 2 + st 3 ≤ s) {j : Int} (j0 : 0 ≤ j) (j1 : j < 4) : ss j = st j := by
  have e := h.2.2.2.1
  have a0 := h.1 0 (by omega) (by omega)
  have a1 := h.1 1 (by omega) (by omega)
  have a2 := h.1 2 (by omega) (by omega)
  have a3 := h.1 3 (by omega) (by omega)
  rcases (show j = 0 ∨ j = 1 ∨ j = 2 ∨ j = 3 by omega) with rfl | rfl | rfl | rfl <;> omega
theorem SI_16e {st mc du rd on ah hd so ss sn : Int → Int} {s : Int} (hB : NB st mc du rd on) (h : SI st mc du rd on ah hd so ss sn s) (hs : 16 ≤ s) {j : Int} (j0 : 0 ≤ j) (j1 : j < 4) : ss j = st j := by
  have b0 := hB.1 0 (by omega) (by omega)
  have b1 := hB.1 1 (by omega) (by omega)
  have b2 := hB.1 2 (by omega) (by omega)
  have b3 := hB.1 3 (by omega) (by omega)
  exact SI_full hB h (by omega) j0 j1
/-- there is no way round where heads are found; where nothing goes on, there is one -/
def NoSol (st mc ah : Int → Int) : Prop := ∃ U : Int → Prop, (∃ o, U o) ∧ (∀ o, U o → vOp st o) ∧ ∀ o, U o → ∃ o', U o' ∧ pN mc ah o' o
theorem SI_stuck {st mc du rd on ah hd so ss sn : Int → Int} {s : Int} (hB : NB st mc du rd on) (hA : NA st mc on ah) (h : SI st mc du rd on ah hd so ss sn s) (hb : ∀ j, 0 ≤ j → j < 4 → bkd st mc on ah ss j) (hs : s < st 0 + st 1 + st 2 + st 3) : NoSol st mc ah := by
  refine ⟨fun o => vOp st o ∧ ¬ vOp ss o, ?_, fun o u => u.1, ?_⟩
  · have e := h.2.2.2.1
    have : ∃ j, 0 ≤ j ∧ j < 4 ∧ ss j < st j := by
      rcases (show ss 0 < st 0 ∨ ss 1 < st 1 ∨ ss 2 < st 2 ∨ ss 3 < st 3 by omega) with q | q | q | q
      · exact ⟨0, by omega, by omega, q⟩
      · exact ⟨1, by omega, by omega, q⟩
      · exact ⟨2, by omega, by omega, q⟩
      · exact ⟨3, by omega, by omega, q⟩
    obtain ⟨j, j0, j1, q⟩ := this
    have hss := h.1 j j0 j1
    have hst := hB.1 j j0 j1
    have e1 : (4 * j + ss j) / 4 = j := by omega
    have e2 : (4 * j + ss j) % 4 = ss j := by omega
    refine ⟨4 * j + ss j, ⟨by omega, by omega, by rw [e1, e2]; exact q⟩, fun v => ?_⟩
    have := v.2.2
    rw [e1, e2] at this
    omega
  · intro o ⟨v, nv⟩
    have hj := vOp_j v
    have hss := h.1 (o / 4) hj.1 hj.2.1
    have hst := hB.1 (o / 4) hj.1 hj.2.1
    have hle : ss (o / 4) ≤ o % 4 := by
      rcases Int.lt_or_le (o % 4) (ss (o / 4)) with q | q
      · exact absurd ⟨v.1, v.2.1, q⟩ nv
      · exact q
    have v3 := v.2.2
    have v1 := v.1
    have v2 := v.2.1
    by_cases hq : o % 4 = ss (o / 4)
    · rcases hb (o / 4) hj.1 hj.2.1 with q | ⟨k, k0, k1, k2, k3⟩
      · omega
      · have e : 4 * (o / 4) + ss (o / 4) = o := by omega
        rw [e] at k2 k3
        obtain ⟨m0, m1, -⟩ := hB.2.1 o v
        obtain ⟨q1, q2⟩ := (hA o v).2.2 k k0 k1 k2
        obtain ⟨b1, b2, b3⟩ := hB.2.2 (mc o) k m0 m1 k0 k1 q2
        exact ⟨on (4 * mc o + k), ⟨b1, k3⟩, Or.inr ⟨b2, by rw [b3]; exact k2⟩⟩
    · have e1 : (o - 1) / 4 = o / 4 := by omega
      have e2 : (o - 1) % 4 = o % 4 - 1 := by omega
      refine ⟨o - 1, ⟨⟨by omega, by omega, by rw [e1, e2]; omega⟩, fun w => ?_⟩, Or.inl ⟨by omega, rfl⟩⟩
      have := w.2.2
      rw [e1, e2] at this
      omega
theorem NoSol.no {st mc du rd on ah h : Int → Int} {P : Int → Int → Prop} (hB : NB st mc du rd on) (hN : NoSol st mc ah) (hP : ∀ o' o, vOp st o' → vOp st o → pN mc ah o' o → P o' o) (hh : IsHead (vOp st) P du rd h) : False := by
  obtain ⟨U, ⟨o, ho⟩, hU, hp⟩ := hN
  refine head_none (V := vOp st) (U := U) (P := P) (d := du) (r := rd) (h := h) (fun o v => (hB.2.1 o v).2.2.1) (fun o v => (hB.2.1 o v).2.2.2.2.1) hU (fun o u => ?_) hh o ho
  obtain ⟨o', u', p⟩ := hp o u
  exact ⟨o', u', hP o' o (hU o' u') (hU o u) p⟩
