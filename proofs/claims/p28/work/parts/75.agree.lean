/-! two rows that agree where a workshop has something -/
def AG (J J' : Int) (st st' mc mc' du du' re re' ln ln' q q' : Int → Int) : Prop := J = J' ∧ (∀ j, 0 ≤ j → j < 4 → st j = st' j) ∧ (∀ o, vOp st o → mc o = mc' o ∧ du o = du' o ∧ re (o / 4) = re' (o / 4)) ∧ (∀ m, 0 ≤ m → m < 4 → ln m = ln' m) ∧ ∀ m k, 0 ≤ m → m < 4 → 0 ≤ k → k < ln m → q (4 * m + k) = q' (4 * m + k)
theorem plF_cg {f g : Int → Int} {b n j : Int} (h : ∀ k, 0 ≤ k → k < n → k < 4 → f (b + k) = g (b + k)) : plF f b n j = plF g b n j := by
  unfold plF
  have e0 : 0 < n → f b = g b := fun c => by
    have := h 0 (by omega) c (by omega)
    rw [Int.add_zero] at this
    exact this
  have a0 : (0 < n ∧ f b = j) = (0 < n ∧ g b = j) := by
    apply propext
    exact ⟨fun c => ⟨c.1, by rw [← e0 c.1]; exact c.2⟩, fun c => ⟨c.1, by rw [e0 c.1]; exact c.2⟩⟩
  have a : ∀ k, 0 < k → k < 4 → (k < n ∧ f (b + k) = j) = (k < n ∧ g (b + k) = j) := by
    intro k k0 k1
    apply propext
    exact ⟨fun c => ⟨c.1, by rw [← h k (by omega) c.1 k1]; exact c.2⟩, fun c => ⟨c.1, by rw [h k (by omega) c.1 k1]; exact c.2⟩⟩
  simp only [a0, a 1 (by omega) (by omega), a 2 (by omega) (by omega), a 3 (by omega) (by omega)]
theorem AG.V {J J' : Int} {st st' mc mc' du du' re re' ln ln' q q' : Int → Int} (h : AG J J' st st' mc mc' du du' re re' ln ln' q q') (o : Int) : vOp st' o ↔ vOp st o := vOp_cg (fun j a b => (h.2.1 j a b).symm) o
theorem AG.wf {J J' : Int} {st st' mc mc' du du' re re' ln ln' q q' : Int → Int} (h : AG J J' st st' mc mc' du du' re re' ln ln' q q') (hW : WF J st mc du ln q) : WF J' st' mc' du' ln' q' := by
  have hV := h.V
  obtain ⟨a1, a2, a3, a4, a5⟩ := h
  obtain ⟨w1, w2, w3, w4, w5, w6, w7, w8⟩ := hW
  subst a1
  refine ⟨w1, fun j x y => by rw [← a2 j x y]; exact w2 j x y, fun o v => ?_, fun o o' v v' e1 e2 => ?_, fun m x y => by rw [← a4 m x y]; exact w5 m x y, fun m k x y z w => ?_, fun m k k' x y z w z' w' e => ?_, fun o v => ?_⟩
  · have v0 := (hV o).mp v
    have e := a3 o v0
    rw [← e.1, ← e.2.1]
    exact w3 o v0
  · have v0 := (hV o).mp v
    have v1 := (hV o').mp v'
    rw [← (a3 o v0).1, ← (a3 o' v1).1] at e2
    exact w4 o o' v0 v1 e1 e2
  · rw [← a4 m x y] at w
    rw [← a5 m k x y z w]
    obtain ⟨b1, b2, o, v, e1, e2⟩ := w6 m k x y z w
    exact ⟨b1, b2, o, (hV o).mpr v, e1, by rw [← (a3 o v).1]; exact e2⟩
  · rw [← a4 m x y] at w w'
    rw [← a5 m k x y z w, ← a5 m k' x y z' w'] at e
    exact w7 m k k' x y z w z' w' e
  · have v0 := (hV o).mp v
    have e := a3 o v0
    have m := w3 o v0
    obtain ⟨k, k0, k1, k2⟩ := w8 o v0
    refine ⟨k, k0, ?_, ?_⟩
    · rw [← e.1, ← a4 _ m.1 m.2.1]
      exact k1
    · rw [← e.1, ← a5 _ k m.1 m.2.1 k0 k1]
      exact k2
theorem AG.pl {J J' : Int} {st st' mc mc' du du' re re' ln ln' q q' : Int → Int} (h : AG J J' st st' mc mc' du du' re re' ln ln' q q') (hW : WF J st mc du ln q) {o : Int} (v : vOp st o) : plo mc ln q o = plo mc' ln' q' o := by
  have m := hW.2.2.1 o v
  unfold plo
  rw [← (h.2.2.1 o v).1, ← h.2.2.2.1 _ m.1 m.2.1]
  exact plF_cg (fun k a b c => h.2.2.2.2 _ k m.1 m.2.1 a b)
theorem AG.oq {J J' : Int} {st st' mc mc' du du' re re' ln ln' q q' : Int → Int} (h : AG J J' st st' mc mc' du du' re re' ln ln' q q') (hW : WF J st mc du ln q) {m k : Int} (m0 : 0 ≤ m) (m1 : m < 4) (k0 : 0 ≤ k) (k1 : k < ln m) : oq st mc q m k = oq st' mc' q' m k := by
  obtain ⟨a, b, c⟩ := oq_v hW m0 m1 k0 k1
  have hW' := h.wf hW
  have k1' : k < ln' m := by rw [← h.2.2.2.1 m m0 m1]; exact k1
  obtain ⟨a', b', c'⟩ := oq_v hW' m0 m1 k0 k1'
  have a2 := (h.V _).mp a'
  refine hW.2.2.2.1 _ _ a a2 (by rw [c, c', h.2.2.2.2 m k m0 m1 k0 k1]) ?_
  rw [b, (h.2.2.1 _ a2).1, b']
theorem AG.P {J J' : Int} {st st' mc mc' du du' re re' ln ln' q q' : Int → Int} (h : AG J J' st st' mc mc' du du' re re' ln ln' q q') (hW : WF J st mc du ln q) {o' o : Int} (v' : vOp st o') (v : vOp st o) : wP mc ln q o' o ↔ wP mc' ln' q' o' o := by
  unfold wP
  rw [h.pl hW v', h.pl hW v, (h.2.2.1 o v).1, (h.2.2.1 o' v').1]
theorem IsHead_V {V V' : Int → Prop} {P : Int → Int → Prop} {d r h : Int → Int} (hV : ∀ o, V' o ↔ V o) : IsHead V' P d r h ↔ IsHead V P d r h := by
  have : V' = V := funext fun o => propext (hV o)
  rw [this]
theorem IsTail_V {V V' : Int → Prop} {P : Int → Int → Prop} {d t : Int → Int} (hV : ∀ o, V' o ↔ V o) : IsTail V' P d t ↔ IsTail V P d t := by
  have : V' = V := funext fun o => propext (hV o)
  rw [this]
theorem AG.H {J J' : Int} {st st' mc mc' du du' re re' ln ln' q q' : Int → Int} (h : AG J J' st st' mc mc' du du' re re' ln ln' q q') (hW : WF J st mc du ln q) {g : Int → Int} : wH st mc du re ln q g ↔ wH st' mc' du' re' ln' q' g := by
  unfold wH
  rw [IsHead_V h.V]
  exact IsHead_cg (fun o' o v' v => h.P hW v' v) (fun o v => (h.2.2.1 o v).2.1) (fun o v => (h.2.2.1 o v).2.2)
theorem AG.T {J J' : Int} {st st' mc mc' du du' re re' ln ln' q q' : Int → Int} (h : AG J J' st st' mc mc' du du' re re' ln ln' q q') (hW : WF J st mc du ln q) {g : Int → Int} : wTl st mc du ln q g ↔ wTl st' mc' du' ln' q' g := by
  unfold wTl
  rw [IsTail_V h.V]
  exact IsTail_cg (fun o' o v' v => h.P hW v' v) (fun o v => (h.2.2.1 o v).2.1)
theorem AG.N {J J' : Int} {st st' mc mc' du du' re re' ln ln' q q' : Int → Int} (h : AG J J' st st' mc mc' du du' re re' ln ln' q q') (hW : WF J st mc du ln q) {o : Int} (v : vOp st o) : oqN st mc ln q o = oqN st' mc' ln' q' o := by
  have m := hW.2.2.1 o v
  have hp := plo_of hW v
  unfold oqN
  rw [← h.pl hW v, ← (h.2.2.1 o v).1, ← h.2.2.2.1 _ m.1 m.2.1]
  by_cases c : plo mc ln q o + 1 < ln (mc o)
  · rw [if_pos c, if_pos c, h.oq hW m.1 m.2.1 (by omega) c]
  · rw [if_neg c, if_neg c]
/-- heads and tails the same as well: the same path -/
theorem AG.isN {J J' : Int} {st st' mc mc' du du' re re' ln ln' q q' : Int → Int} (h : AG J J' st st' mc mc' du du' re re' ln ln' q q') (hW : WF J st mc du ln q) {g g' t t' : Int → Int} {L : Int} (hg : ∀ o, vOp st o → g o = g' o ∧ t o = t' o) {o r : Int} (v : vOp st o) : isN st mc du ln q g t L o r ↔ isN st' mc' du' ln' q' g' t' L o r := by
  have hj := vOp_j v
  have eV : ∀ x, vOp st x → (Crt du g t L x ↔ Crt du' g' t' L x) := fun x w => by
    unfold Crt
    rw [(hg x w).1, (hg x w).2, (h.2.2.1 x w).2.1]
  have e1 : rtN st du g t L o ↔ rtN st' du' g' t' L o := by
    unfold rtN
    rw [← h.2.1 _ hj.1 hj.2.1, (hg o v).1, (h.2.2.1 o v).2.1]
    constructor
    · rintro ⟨a, b, c⟩
      have w := rt_v hW v a
      exact ⟨a, (eV _ w).mp b, by rw [← (hg _ w).1]; exact c⟩
    · rintro ⟨a, b, c⟩
      have w := rt_v hW v a
      exact ⟨a, (eV _ w).mpr b, by rw [(hg _ w).1]; exact c⟩
  have e2 : odN st mc du ln q g t L o ↔ odN st' mc' du' ln' q' g' t' L o := by
    unfold odN
    rw [← h.N hW v, (hg o v).1, (h.2.2.1 o v).2.1]
    constructor
    · rintro ⟨a, b, c⟩
      have w := (oqN_v hW v a).1
      exact ⟨a, (eV _ w).mp b, by rw [← (hg _ w).1]; exact c⟩
    · rintro ⟨a, b, c⟩
      have w := (oqN_v hW v a).1
      exact ⟨a, (eV _ w).mpr b, by rw [(hg _ w).1]; exact c⟩
  show (_ ∧ _) ∨ (_ ∧ _ ∧ _) ∨ (_ ∧ _ ∧ _) ↔ (_ ∧ _) ∨ (_ ∧ _ ∧ _) ∨ (_ ∧ _ ∧ _)
  rw [e1, e2, h.N hW v]
theorem AG.isF {J J' : Int} {st st' mc mc' du du' re re' ln ln' q q' : Int → Int} (h : AG J J' st st' mc mc' du du' re re' ln ln' q q') {g g' t t' : Int → Int} {L x : Int} (hg : ∀ o, vOp st o → g o = g' o ∧ t o = t' o) {r : Int} (a : isF1 st re du g t L x r) : isF1 st' re' du' g' t' L x r := by
  have e : ∀ o, vOp st o → ((Crt du g t L o ∧ g o = re (o / 4)) ↔ (Crt du' g' t' L o ∧ g' o = re' (o / 4))) := fun o v => by
    unfold Crt
    rw [(hg o v).1, (hg o v).2, (h.2.2.1 o v).2.1, (h.2.2.1 o v).2.2]
  rcases a with ⟨a1, a2⟩ | ⟨a1, a2, a3, a4, a5⟩
  · exact Or.inl ⟨a1, fun o v q z => a2 o ((h.V o).mp v) q ((e o ((h.V o).mp v)).mpr z)⟩
  · have := (e r a1).mp ⟨a3, a4⟩
    exact Or.inr ⟨(h.V r).mpr a1, a2, this.1, this.2, fun o v q z => a5 o ((h.V o).mp v) q ((e o ((h.V o).mp v)).mpr z)⟩
theorem AG.PT {J J' : Int} {st st' mc mc' du du' re re' ln ln' q q' : Int → Int} (h : AG J J' st st' mc mc' du du' re re' ln ln' q q') (hW : WF J st mc du ln q) {g g' t t' : Int → Int} {L : Int} (hg : ∀ o, vOp st o → g o = g' o ∧ t o = t' o) {p : Int → Int} {n c : Int} (a : PTi st mc re du ln q g t L p n c) : PTi st' mc' re' du' ln' q' g' t' L p n c := by
  have hv := PTi_v hW a
  obtain ⟨a1, a2, a3, a4, a5⟩ := a
  exact ⟨a1, fun z => h.isF hg (a2 z), fun z => ⟨h.isF hg (a3 z).1, (a3 z).2⟩, fun k k0 k1 => ⟨(h.isN hW hg (hv.1 k k0 (by omega))).mp (a4 k k0 k1).1, (a4 k k0 k1).2⟩, fun z => (h.isN hW hg (hv.1 (n - 1) (by omega) (by omega))).mp (a5 z)⟩
/-! all that stand ahead in the order, in place of the one before -/
def wQ (mc ln q : Int → Int) (o' o : Int) : Prop := (o % 4 ≠ 0 ∧ o' = o - 1) ∨ (mc o' = mc o ∧ plo mc ln q o' < plo mc ln q o)
theorem wP_Q {mc ln q : Int → Int} {o' o : Int} (h : wP mc ln q o' o) : wQ mc ln q o' o := by
  rcases h with h | ⟨a, b⟩
  · exact Or.inl h
  · exact Or.inr ⟨a, by omega⟩
/-- behind o' in the order -/
theorem bet_ex {J : Int} {st mc du ln q : Int → Int} (hW : WF J st mc du ln q) {o' o : Int} (v' : vOp st o') (v : vOp st o) (hm : mc o' = mc o) (hl : plo mc ln q o' + 1 < plo mc ln q o) : ∃ x, vOp st x ∧ mc x = mc o ∧ plo mc ln q x = plo mc ln q o' + 1 := by
  have m := hW.2.2.1 o v
  have hp := plo_of hW v
  have hp' := plo_of hW v'
  obtain ⟨a, b, c⟩ := oq_v hW m.1 m.2.1 (show 0 ≤ plo mc ln q o' + 1 by omega) (by omega)
  exact ⟨_, a, b, plo_oq hW m.1 m.2.1 (by omega) (by omega)⟩
theorem wQ_head {J : Int} {st mc du re ln q h : Int → Int} (hW : WF J st mc du ln q) : IsHead (vOp st) (wQ mc ln q) du (fun o => re (o / 4)) h ↔ wH st mc du re ln q h := by
  constructor
  · intro H o v
    obtain ⟨a, b, c⟩ := H o v
    refine ⟨a, fun o' v' p => b o' v' (wP_Q p), ?_⟩
    rcases c with c | ⟨o', v', p, c⟩
    · exact Or.inl c
    · right
      refine ⟨o', v', ?_, c⟩
      rcases p with p | ⟨p1, p2⟩
      · exact Or.inl p
      · rcases (show plo mc ln q o' + 1 = plo mc ln q o ∨ plo mc ln q o' + 1 < plo mc ln q o by omega) with e | e
        · exact Or.inr ⟨p1, e⟩
        · exfalso
          obtain ⟨x, vx, mx, px⟩ := bet_ex hW v' v p1 e
          have h1 := (H x vx).2.1 o' v' (Or.inr ⟨by rw [mx]; exact p1, by omega⟩)
          have h2 := b x vx (Or.inr ⟨mx, by omega⟩)
          have := (hW.2.2.1 x vx).2.2.1
          omega
  · intro H o v
    have up : ∀ (n : Nat) (o' o : Int), vOp st o' → vOp st o → mc o' = mc o → plo mc ln q o' < plo mc ln q o → plo mc ln q o - plo mc ln q o' ≤ n → h o' + du o' ≤ h o := by
      intro n
      induction n with
      | zero => intro o' o _ _ _ h1 h2; omega
      | succ n ih =>
        intro o' o v' v hm h1 h2
        rcases (show plo mc ln q o' + 1 = plo mc ln q o ∨ plo mc ln q o' + 1 < plo mc ln q o by omega) with e | e
        · exact (H o v).2.1 o' v' (Or.inr ⟨hm, e⟩)
        · obtain ⟨x, vx, mx, px⟩ := bet_ex hW v' v hm e
          have a := (H x vx).2.1 o' v' (Or.inr ⟨by rw [mx]; exact hm, by omega⟩)
          have b := ih x o vx v mx (by omega) (by omega)
          have := (hW.2.2.1 x vx).2.2.1
          omega
    obtain ⟨a, b, c⟩ := H o v
    refine ⟨a, fun o' v' p => ?_, ?_⟩
    · rcases p with p | ⟨p1, p2⟩
      · exact b o' v' (Or.inl p)
      · exact up (plo mc ln q o - plo mc ln q o').toNat o' o v' v p1 p2 (by omega)
    · rcases c with c | ⟨o', v', p, c⟩
      · exact Or.inl c
      · exact Or.inr ⟨o', v', wP_Q p, c⟩
theorem wQ_tail {J : Int} {st mc du ln q t : Int → Int} (hW : WF J st mc du ln q) : IsTail (vOp st) (wQ mc ln q) du t ↔ wTl st mc du ln q t := by
  constructor
  · intro H o v
    obtain ⟨a, b, c⟩ := H o v
    refine ⟨a, fun o' v' p => b o' v' (wP_Q p), ?_⟩
    rcases c with c | ⟨o', v', p, c⟩
    · exact Or.inl c
    · right
      refine ⟨o', v', ?_, c⟩
      rcases p with p | ⟨p1, p2⟩
      · exact Or.inl p
      · rcases (show plo mc ln q o + 1 = plo mc ln q o' ∨ plo mc ln q o + 1 < plo mc ln q o' by omega) with e | e
        · exact Or.inr ⟨p1, e⟩
        · exfalso
          obtain ⟨x, vx, mx, px⟩ := bet_ex hW v v' p1 e
          have h1 := (H x vx).2.1 o' v' (Or.inr ⟨mx, by omega⟩)
          have h2 := b x vx (Or.inr ⟨by rw [mx]; exact p1, by omega⟩)
          have := (hW.2.2.1 x vx).2.2.1
          omega
  · intro H o v
    have up : ∀ (n : Nat) (o o' : Int), vOp st o → vOp st o' → mc o = mc o' → plo mc ln q o < plo mc ln q o' → plo mc ln q o' - plo mc ln q o ≤ n → du o' + t o' ≤ t o := by
      intro n
      induction n with
      | zero => intro o o' _ _ _ h1 h2; omega
      | succ n ih =>
        intro o o' v v' hm h1 h2
        rcases (show plo mc ln q o + 1 = plo mc ln q o' ∨ plo mc ln q o + 1 < plo mc ln q o' by omega) with e | e
        · exact (H o v).2.1 o' v' (Or.inr ⟨hm, e⟩)
        · obtain ⟨x, vx, mx, px⟩ := bet_ex hW v v' hm e
          have a := (H o v).2.1 x vx (Or.inr ⟨by rw [mx]; exact hm, by omega⟩)
          have b := ih x o' vx v' mx (by omega) (by omega)
          have := (hW.2.2.1 x vx).2.2.1
          omega
    obtain ⟨a, b, c⟩ := H o v
    refine ⟨a, fun o' v' p => ?_, ?_⟩
    · rcases p with p | ⟨p1, p2⟩
      · exact b o' v' (Or.inl p)
      · exact up (plo mc ln q o' - plo mc ln q o).toNat o o' v v' p1 p2 (by omega)
    · rcases c with c | ⟨o', v', p, c⟩
      · exact Or.inl c
      · exact Or.inr ⟨o', v', wP_Q p, c⟩
