/-! from the class's search to the best plan -/
theorem wQ_headR {J : Int} {st mc du rd ln q h : Int → Int} (hW : WF J st mc du ln q) : IsHead (vOp st) (wQ mc ln q) du rd h ↔ IsHead (vOp st) (wP mc ln q) du rd h := by
  constructor
  · intro H o v
    obtain ⟨a, b, c⟩ := H o v
    refine ⟨a, fun o' v' p => b o' v' (wP_Q p), ?_⟩
    rcases c with c | ⟨o', v', p, c⟩
    · exact Or.inl c
    · right
      refine ⟨o', v', ?_, c⟩
      rcases p with p | ⟨p1, p2⟩
      · exact Or.inl p
      · rcases (show plo mc ln q o' + 1 = plo mc ln q o ∨ plo mc ln q o' + 1 < plo mc ln q o by omega) with e | e
        · exact Or.inr ⟨p1, e⟩
        · exfalso
          obtain ⟨x, vx, mx, px⟩ := bet_ex hW v' v p1 e
          have h1 := (H x vx).2.1 o' v' (Or.inr ⟨by rw [mx]; exact p1, by omega⟩)
          have h2 := b x vx (Or.inr ⟨mx, by omega⟩)
          have := (hW.2.2.1 x vx).2.2.1
          omega
  · intro H o v
    have up : ∀ (n : Nat) (o' o : Int), vOp st o' → vOp st o → mc o' = mc o → plo mc ln q o' < plo mc ln q o → plo mc ln q o - plo mc ln q o' ≤ n → h o' + du o' ≤ h o := by
      intro n
      induction n with
      | zero => intro o' o _ _ _ h1 h2; omega
      | succ n ih =>
        intro o' o v' v hm h1 h2
        rcases (show plo mc ln q o' + 1 = plo mc ln q o ∨ plo mc ln q o' + 1 < plo mc ln q o by omega) with e | e
        · exact (H o v).2.1 o' v' (Or.inr ⟨hm, e⟩)
        · obtain ⟨x, vx, mx, px⟩ := bet_ex hW v' v hm e
          have a := (H x vx).2.1 o' v' (Or.inr ⟨by rw [mx]; exact hm, by omega⟩)
          have b := ih x o vx v mx (by omega) (by omega)
          have := (hW.2.2.1 x vx).2.2.1
          omega
    obtain ⟨a, b, c⟩ := H o v
    refine ⟨a, fun o' v' p => ?_, ?_⟩
    · rcases p with p | ⟨p1, p2⟩
      · exact b o' v' (Or.inl p)
      · exact up (plo mc ln q o - plo mc ln q o').toNat o' o v' v p1 p2 (by omega)
    · rcases c with c | ⟨o', v', p, c⟩
      · exact Or.inl c
      · exact Or.inr ⟨o', v', wP_Q p, c⟩
def lenR (st mc du rd ln q : Int → Int) (L : Int) : Prop := ∃ h, IsHead (vOp st) (wP mc ln q) du rd h ∧ 0 ≤ L ∧ (∀ o, vOp st o → h o + du o ≤ L) ∧ (L = 0 ∨ ∃ o, vOp st o ∧ h o + du o = L)
/-- the least length le, and f, the first one of the orders with it; of each machine the first fs places stay -/
def bstG (st mc du rd ln fs q0 : Int → Int) (le : Int) (f : Int → Int) : Prop := (∀ q, aQo ln fs q0 q → ∀ L, lenR st mc du rd ln q L → le ≤ L) ∧ (le = 1000000 ∨ (0 ≤ le ∧ le ≤ 20000 ∧ aQo ln fs q0 f ∧ lenR st mc du rd ln f le ∧ ∀ q, aQo ln fs q0 q → lenR st mc du rd ln q le → ∀ m k, 0 ≤ m → m < 4 → 0 ≤ k → k < ln m → ahP ln f q m k → f (4 * m + k) ≤ q (4 * m + k)))
theorem bstS_G {st mc du re ln q0 : Int → Int} {le : Int} {f : Int → Int} : bstS st mc du re ln q0 le f ↔ bstG st mc du (fun o => re (o / 4)) ln (fun _ => 0) q0 le f := Iff.rfl
def Cqo (mc ln q : Int → Int) (o' o : Int) : Prop := plo mc ln q o' < plo mc ln q o
theorem max_ex {V : Int → Prop} (hV : ∀ o, V o → 0 ≤ o ∧ o < 16) (f : Int → Int) : ∃ L, 0 ≤ L ∧ (∀ o, V o → f o ≤ L) ∧ (L = 0 ∨ ∃ o, V o ∧ f o = L) := by
  obtain ⟨L, a, b, c, d⟩ := MxO_ex 0 0 V f 16
  refine ⟨L, a, fun o v => c o (hV o v).1 (hV o v).2 v, ?_⟩
  rcases d with d | d | ⟨k, -, -, v, d⟩
  · exact Or.inl d
  · exact Or.inl d
  · exact Or.inr ⟨k, v, d.symm⟩
theorem vOp_16 {st : Int → Int} : ∀ o, vOp st o → 0 ≤ o ∧ o < 16 := fun _ v => ⟨v.1, v.2.1⟩
/-- tails, where no way is longer than L -/
theorem tail_bd {V : Int → Prop} {P : Int → Int → Prop} {d r h : Int → Int} {L : Int} (hV : ∀ o, V o → 0 ≤ o ∧ o < 16) (H : IsHead V P d r h) (hL : ∀ o, V o → h o + d o ≤ L) : ∃ t, IsTail V P d t ∧ ∀ o, V o → h o + d o + t o ≤ L := by
  obtain ⟨ts, a, b⟩ := sol_ex (V := V) (F := hOp V (fun o' o => P o o') d (fun _ => 0)) (B := fun o => L - h o - d o) (h := fun _ => 0) hV (hOp_m hV) (fun t ht o v => by
    rcases (hOp_is (P := fun o' o => P o o') (d := d) (r := fun _ => 0) hV t o).2.2 with q | ⟨k, vk, p, q⟩
    · have := hL o v
      rw [q]
      show (0 : Int) ≤ L - h o - d o
      omega
    · have := ht k vk
      have := (H k vk).2.1 o v p
      rw [q]
      show _ ≤ L - h o - d o
      omega) (fun o v => (hOp_is hV _ o).1) (fun o v => by
    have := hL o v
    show (0 : Int) ≤ L - h o - d o
    omega)
  exact ⟨ts, tail_head.mpr ((hOp_sol hV).mp a), fun o v => by have := b o v; omega⟩
theorem plo_ne {J : Int} {st mc du ln q : Int → Int} (hW : WF J st mc du ln q) {x y : Int} (vx : vOp st x) (vy : vOp st y) (hm : mc x = mc y) (e : plo mc ln q x = plo mc ln q y) : x = y := by
  have a := (plo_of hW vx).2.2
  have b := (plo_of hW vy).2.2
  rw [← a, ← b, hm, e]
theorem lenR_sol {J : Int} {st mc du rd ln q : Int → Int} {L u : Int} (hW : WF J st mc du ln q) (h : lenR st mc du rd ln q L) (hu : L ≤ u) : Sol st mc du rd u (Cqo mc ln q) := by
  obtain ⟨g, H, L0, L1, L2⟩ := h
  have HQ : IsHead (vOp st) (pA mc (Cqo mc ln q)) du rd g := (wQ_headR hW).mpr H
  obtain ⟨t, T, ht⟩ := tail_bd vOp_16 HQ L1
  refine ⟨fun x y vx vy ne hm => ?_, g, t, HQ, T, fun o v => by have := ht o v; omega, fun x y vx vy ne hm w => ?_⟩
  · unfold Cqo
    rcases (show plo mc ln q x < plo mc ln q y ∨ plo mc ln q y < plo mc ln q x ∨ plo mc ln q x = plo mc ln q y by omega) with c | c | c
    · exact Or.inl c
    · exact Or.inr c
    · exact absurd (plo_ne hW vx vy hm c) ne
  · unfold Cqo
    rcases (show plo mc ln q x < plo mc ln q y ∨ plo mc ln q y < plo mc ln q x ∨ plo mc ln q x = plo mc ln q y by omega) with c | c | c
    · have := (HQ y vy).2.1 x vx (Or.inr ⟨hm, c⟩)
      have := ht y vy
      omega
    · exact c
    · exact absurd (plo_ne hW vx vy hm c) ne
theorem sm_c1 (n : Nat) : sm (fun _ => b2i True) n = n := by
  induction n with
  | zero => rfl
  | succ n ih =>
    show sm (fun _ => b2i True) n + b2i True = _
    rw [ih, b2i_1 trivial]
    omega
/-- pigeons and holes -/
theorem PHq (f : Int → Int) {n m : Int} (n0 : 0 ≤ n) (m0 : 0 ≤ m) (h1 : ∀ x, 0 ≤ x → x < n → 0 ≤ f x ∧ f x < m) (h2 : ∀ x x', 0 ≤ x → x < n → 0 ≤ x' → x' < n → f x = f x' → x = x') : n ≤ m := by
  have h := sm_inj (P := fun _ => True) f m.toNat n.toNat (fun _ => True) (fun x a b _ => ⟨(h1 x a (by omega)).1, by have := (h1 x a (by omega)).2; omega, trivial⟩) (fun x x' a b c d _ _ e => h2 x x' a (by omega) c (by omega) e)
  rw [sm_c1, sm_c1] at h
  omega
theorem PHs (f : Int → Int) {n : Int} (n0 : 0 ≤ n) (h1 : ∀ x, 0 ≤ x → x < n → 0 ≤ f x ∧ f x < n) (h2 : ∀ x x', 0 ≤ x → x < n → 0 ≤ x' → x' < n → f x = f x' → x = x') {y : Int} (y0 : 0 ≤ y) (y1 : y < n) : ∃ x, 0 ≤ x ∧ x < n ∧ f x = y := by
  apply Classical.byContradiction
  intro hn
  have ne : ∀ x, 0 ≤ x → x < n → f x ≠ y := fun x a b e => hn ⟨x, a, b, e⟩
  have := PHq (fun x => if y < f x then f x - 1 else f x) (n := n) (m := n - 1) n0 (by omega) (fun x a b => by
    have := h1 x a b
    have := ne x a b
    split <;> omega) (fun x x' a b c d e => by
    have := ne x a b
    have := ne x' c d
    refine h2 x x' a b c d ?_
    split at e <;> split at e <;> omega)
  omega
theorem SQ_arr {J : Int} {st mc du rd on a0 ah w f ln q0 : Int → Int} {u : Int} (hW : WF J st mc du ln q0) (h : SQ st mc du rd on a0 ah w f u 16) : aQo ln (fun _ => 0) q0 f ∧ ∀ m k, 0 ≤ m → m < 4 → ln m ≤ k → k < 4 → f (4 * m + k) = -6 := by
  obtain ⟨hB, -, -, -, -, -, h7, -⟩ := h
  obtain ⟨w1, w2, w3, w4, w5, w6, w7, w8⟩ := hW
  have jm : ∀ m j, 0 ≤ m → m < 4 → 0 ≤ j → j < 4 → 0 ≤ on (4 * m + j) → ∃ k, 0 ≤ k ∧ k < ln m ∧ q0 (4 * m + k) = j := fun m j m0 m1 j0 j1 hj => by
    obtain ⟨a, b, c⟩ := hB.2.2 m j m0 m1 j0 j1 hj
    obtain ⟨k, k0, k1, e⟩ := w8 _ a
    rw [b] at k1 e
    exact ⟨k, k0, k1, by rw [e, c]⟩
  have mj : ∀ m k, 0 ≤ m → m < 4 → 0 ≤ k → k < ln m → 0 ≤ on (4 * m + q0 (4 * m + k)) ∧ 0 ≤ q0 (4 * m + k) ∧ q0 (4 * m + k) < 4 := fun m k m0 m1 k0 k1 => by
    obtain ⟨a, b, o, v, e1, e2⟩ := w6 m k m0 m1 k0 k1
    have := (hB.2.1 o v).2.2.2.2.2.2
    rw [e2, e1] at this
    rw [this]
    exact ⟨v.1, a, b⟩
  -- the places that jobs have
  have c1 : ∀ m k, 0 ≤ m → m < 4 → 0 ≤ k → k < ln m → 0 ≤ f (4 * m + k) ∧ f (4 * m + k) < 4 ∧ lf on f (4 * m + k) (f (4 * m + k)) := fun m k m0 m1 k0 k1 => by
    have n4 := w5 m m0 m1
    rcases h7 (4 * m + k) (by omega) (by omega) with ⟨-, b⟩ | q
    · exfalso
      have ex : ∀ i, ∃ x, 0 ≤ i → i < ln m → 0 ≤ x ∧ x < k ∧ f (4 * m + x) = q0 (4 * m + i) := fun i => by
        by_cases c : 0 ≤ i ∧ i < ln m
        · have hj := mj m i m0 m1 c.1 c.2
          have hn := b _ hj.2.1 hj.2.2
          apply Classical.byContradiction
          intro hx
          refine hn ⟨by rw [show (4 * m + k) / 4 = m by omega]; exact hj.1, fun e e0 e1 he => hx ⟨e - 4 * m, fun _ _ => ⟨by omega, by omega, ?_⟩⟩⟩
          rw [show 4 * m + (e - 4 * m) = e by omega]
          exact he
        · exact ⟨0, fun a b => absurd ⟨a, b⟩ c⟩
      obtain ⟨p, hp⟩ := Classical.skolem.mp ex
      have := PHq p n4.1 k0 (fun x a b => ⟨(hp x a b).1, (hp x a b).2.1⟩) (fun x x' a b c d e => w7 m x x' m0 m1 a b c d (by rw [← (hp x a b).2.2, ← (hp x' c d).2.2, e]))
      omega
    · exact q
  have inj : ∀ m k k', 0 ≤ m → m < 4 → 0 ≤ k → k < k' → k' < ln m → f (4 * m + k) ≠ f (4 * m + k') := fun m k k' m0 m1 k0 kk k1 => by
    have n4 := w5 m m0 m1
    exact (c1 m k' m0 m1 (by omega) k1).2.2.2 (4 * m + k) (by omega) (by omega)
  have inj2 : ∀ m k k', 0 ≤ m → m < 4 → 0 ≤ k → k < ln m → 0 ≤ k' → k' < ln m → f (4 * m + k) = f (4 * m + k') → k = k' := fun m k k' m0 m1 a b c d e => by
    rcases (show k < k' ∨ k = k' ∨ k' < k by omega) with z | z | z
    · exact absurd e (inj m k k' m0 m1 a z d)
    · exact z
    · exact absurd e.symm (inj m k' k m0 m1 c z b)
  have pos : ∀ m, 0 ≤ m → m < 4 → ∃ p : Int → Int, ∀ k, 0 ≤ k → k < ln m → 0 ≤ p k ∧ p k < ln m ∧ q0 (4 * m + p k) = f (4 * m + k) := fun m m0 m1 => by
    have n4 := w5 m m0 m1
    have ex : ∀ k, ∃ x, 0 ≤ k → k < ln m → 0 ≤ x ∧ x < ln m ∧ q0 (4 * m + x) = f (4 * m + k) := fun k => by
      by_cases c : 0 ≤ k ∧ k < ln m
      · obtain ⟨a, b, d⟩ := c1 m k m0 m1 c.1 c.2
        have d1 := d.1
        rw [show (4 * m + k) / 4 = m by omega] at d1
        obtain ⟨x, x0, x1, e⟩ := jm m _ m0 m1 a b d1
        exact ⟨x, fun _ _ => ⟨x0, x1, e⟩⟩
      · exact ⟨0, fun a b => absurd ⟨a, b⟩ c⟩
    exact Classical.skolem.mp ex
  refine ⟨fun m m0 m1 => ⟨⟨fun k k0 k1 => ?_, fun k' k0 k1 => ?_, fun k k' a b c d e => inj2 m k k' m0 m1 a b c d e⟩, fun k a b => absurd b (by show ¬ k < 0; omega)⟩, fun m k m0 m1 k0 k1 => ?_⟩
  · obtain ⟨p, hp⟩ := pos m m0 m1
    obtain ⟨a, b, c⟩ := hp k k0 k1
    exact ⟨p k, a, b, c.symm⟩
  · obtain ⟨p, hp⟩ := pos m m0 m1
    obtain ⟨x, x0, x1, e⟩ := PHs p (w5 m m0 m1).1 (fun x a b => ⟨(hp x a b).1, (hp x a b).2.1⟩) (fun x x' a b c d e => inj2 m x x' m0 m1 a b c d (by rw [← (hp x a b).2.2, ← (hp x' c d).2.2, e])) k0 k1
    exact ⟨x, x0, x1, by show f (4 * m + x) = q0 (4 * m + k'); rw [← (hp x x0 x1).2.2, e]⟩
  · have n4 := w5 m m0 m1
    rcases h7 (4 * m + k) (by omega) (by omega) with ⟨q, -⟩ | ⟨a, b, d⟩
    · exact q
    · exfalso
      obtain ⟨p, hp⟩ := pos m m0 m1
      have d1 := d.1
      rw [show (4 * m + k) / 4 = m by omega] at d1
      obtain ⟨x, x0, x1, e⟩ := jm m _ m0 m1 a b d1
      have nx : ∀ i, 0 ≤ i → i < ln m → p i ≠ x := fun i i0 i1 z => by
        have hi := hp i i0 i1
        rw [z, e] at hi
        exact d.2 (4 * m + i) (by omega) (by omega) hi.2.2.symm
      have := PHs p n4.1 (fun x a b => ⟨(hp x a b).1, (hp x a b).2.1⟩) (fun x x' a b c d e => inj2 m x x' m0 m1 a b c d (by rw [← (hp x a b).2.2, ← (hp x' c d).2.2, e])) x0 x1
      obtain ⟨i, i0, i1, z⟩ := this
      exact nx i i0 i1 z
theorem aQo_0 {ln fs q0 q : Int → Int} (h : aQo ln fs q0 q) : aQo ln (fun _ => 0) q0 q := fun m m0 m1 => ⟨(h m m0 m1).1, fun k a b => absurd b (by show ¬ k < 0; omega)⟩
theorem aQo_wf {J : Int} {st mc du ln fs q0 q : Int → Int} (hW : WF J st mc du ln q0) (h : aQo ln fs q0 q) : WF J st mc du ln q := WF_arr hW (fun m m0 m1 => (h m m0 m1).1)
/-- the operation of a job on a machine has the job's place -/
theorem on_pl {J : Int} {st mc du rd on ln q : Int → Int} (hW : WF J st mc du ln q) (hB : NB st mc du rd on) {m k : Int} (m0 : 0 ≤ m) (m1 : m < 4) (k0 : 0 ≤ k) (k1 : k < ln m) : on (4 * m + q (4 * m + k)) = oq st mc q m k ∧ plo mc ln q (on (4 * m + q (4 * m + k))) = k := by
  obtain ⟨a, b, c⟩ := oq_v hW m0 m1 k0 k1
  have := (hB.2.1 _ a).2.2.2.2.2.2
  rw [b, c] at this
  exact ⟨this, by rw [this]; exact plo_oq hW m0 m1 k0 k1⟩
/-- the witness has just the order that was found -/
theorem SQ_w_f {J : Int} {st mc du rd on a0 ah w f ln q0 : Int → Int} {u : Int} (hW : WF J st mc du ln q0) (h : SQ st mc du rd on a0 ah w f u 16) {o' o : Int} (v' : vOp st o') (v : vOp st o) (hm : mc o' = mc o) (ne : o' ≠ o) : rA w o' o ↔ Cqo mc ln f o' o := by
  obtain ⟨ha, hr⟩ := SQ_arr hW h
  have hWf := aQo_wf hW ha
  obtain ⟨hB, hA, h3, h4, h5, h6, h7, h8, -⟩ := h
  have key : ∀ o' o, vOp st o' → vOp st o → mc o' = mc o → Cqo mc ln f o' o → rA w o' o := by
    intro o' o v' v hm hc
    obtain ⟨m0, m1, -⟩ := hW.2.2.1 o v
    have p' := plo_of hWf v'
    have p := plo_of hWf v
    have n4 := hW.2.2.2.2.1 _ m0 m1
    rw [hm] at p'
    unfold Cqo at hc
    have q' := (oq_v hWf m0 m1 p'.1 p'.2.1).2.2
    have q := (oq_v hWf m0 m1 p.1 p.2.1).2.2
    rw [p'.2.2] at q'
    rw [p.2.2] at q
    have on' : on (4 * mc o + o / 4) = o := (hB.2.1 o v).2.2.2.2.2.2
    have j := vOp_j v
    have fe : f (4 * mc o + plo mc ln f o') = o' / 4 := q'.symm
    have lf0 : lf on f (4 * mc o + plo mc ln f o') (o / 4) := by
      refine ⟨by rw [show (4 * mc o + plo mc ln f o') / 4 = mc o by omega, on']; exact v.1, fun e e0 e1 he => ?_⟩
      have := hWf.2.2.2.2.2.2.1 (mc o) (e - 4 * mc o) (plo mc ln f o) m0 m1 (by omega) (by omega) p.1 p.2.1 (by rw [show 4 * mc o + (e - 4 * mc o) = e by omega, he, q])
      omega
    have hb := h8 (4 * mc o + plo mc ln f o') (by omega) (by omega) (by rw [fe]; exact (vOp_j v').1) (o / 4) j.1 j.2.1 lf0 (by
      rw [fe]
      intro z
      have : plo mc ln f o = plo mc ln f o' := hWf.2.2.2.2.2.2.1 (mc o) _ _ m0 m1 p.1 p.2.1 p'.1 p'.2.1 (by rw [← q, ← q', z])
      omega)
    rw [show (4 * mc o + plo mc ln f o') / 4 = mc o by omega, on', fe] at hb
    exact h5 o (o' / 4) v (vOp_j v').1 (vOp_j v').2.1 hb
  refine ⟨fun hw => ?_, key o' o v' v hm⟩
  unfold Cqo
  rcases (show plo mc ln f o' < plo mc ln f o ∨ plo mc ln f o < plo mc ln f o' ∨ plo mc ln f o' = plo mc ln f o by omega) with c | c | c
  · exact c
  · exfalso
    have hw2 := key o o' v v' hm.symm c
    obtain ⟨-, g, t, H, -, -, -⟩ := h6
    have a := (H o v).2.1 o' v' (Or.inr ⟨hm, hw⟩)
    have b := (H o' v').2.1 o v (Or.inr ⟨hm.symm, hw2⟩)
    have := (hB.2.1 o v).2.2.1
    have := (hB.2.1 o' v').2.2.1
    omega
  · exact absurd (plo_ne hWf v' v hm c) ne
theorem SQ_bst {J : Int} {st mc du rd on a0 ah w f ln fs q0 : Int → Int} {u : Int} (hW : WF J st mc du ln q0) (u0 : 0 ≤ u) (u1 : u ≤ 20000) (hf : ∀ m, 0 ≤ m → m < 4 → fs m ≤ ln m) (h : SQ st mc du rd on a0 ah w f u 16) (h0 : ∀ v, 0 ≤ v → v < u → ∀ C, Sol st mc du rd v C → ¬ sbA st mc a0 C) (hto : ∀ q, aQo ln fs q0 q → sbA st mc a0 (Cqo mc ln q)) (hfr : ∀ q, aQo ln (fun _ => 0) q0 q → sbA st mc a0 (Cqo mc ln q) → aQo ln fs q0 q) : bstG st mc du rd ln fs q0 u f ∧ u ≠ 1000000 := by
  obtain ⟨ha, hr⟩ := SQ_arr hW h
  have hWf := aQo_wf hW ha
  have wf := fun o' o v' v hm ne => SQ_w_f hW h (o' := o') (o := o) v' v hm ne
  obtain ⟨hB, hA, h3, h4, h5, h6, h7, h8, h9, h10⟩ := h
  have low : ∀ q, aQo ln fs q0 q → ∀ L, lenR st mc du rd ln q L → u ≤ L := fun q a L hL => by
    rcases Int.lt_or_le L u with c | c
    · obtain ⟨g, -, L0, -⟩ := id hL
      exact absurd (hto q a) (h0 L L0 c _ (lenR_sol (aQo_wf hW a) hL (Int.le_refl _)))
    · exact c
  have sb : sbA st mc a0 (Cqo mc ln f) := fun o' o v' v hm hb => by
    have hj := vOp_j v'
    have b1 := h3 o (o' / 4) v hj.1 hj.2.1 hb
    have b2 := h5 o (o' / 4) v hj.1 hj.2.1 b1
    have ne : o' ≠ o := fun z => by
      have := ((hA o v).2.2 (o' / 4) hj.1 hj.2.1 b1).1
      rw [z] at this
      exact this rfl
    exact (wf o' o v' v hm ne).mp b2
  have af := hfr f ha sb
  have lenf : lenR st mc du rd ln f u := by
    obtain ⟨-, g, t, H, T, hu, -⟩ := h6
    have HQ : IsHead (vOp st) (wQ mc ln f) du rd g := (IsHead_cg (fun o' o v' v => by
      unfold pA wQ
      by_cases ne : o' = o
      · subst ne
        constructor
        · rintro (z | ⟨z1, z2⟩)
          · exact Or.inl z
          · have a := (H o' v).2.1 o' v (Or.inr ⟨rfl, z2⟩)
            have := (hB.2.1 o' v).2.2.1
            omega
        · rintro (z | ⟨z1, z2⟩)
          · exact Or.inl z
          · omega
      · constructor
        · rintro (z | ⟨z1, z2⟩)
          · exact Or.inl z
          · exact Or.inr ⟨z1, (wf o' o v' v z1 ne).mp z2⟩
        · rintro (z | ⟨z1, z2⟩)
          · exact Or.inl z
          · exact Or.inr ⟨z1, (wf o' o v' v z1 ne).mpr z2⟩) (fun _ _ => rfl) (fun _ _ => rfl)).mp H
    obtain ⟨L, L0, L1, L2⟩ := max_ex vOp_16 (fun o => g o + du o)
    have hL : lenR st mc du rd ln f L := ⟨g, (wQ_headR hWf).mp HQ, L0, L1, L2⟩
    have a := low f af L hL
    have b : L ≤ u := by
      rcases L2 with z | ⟨o, v, z⟩
      · omega
      · have := hu o v
        have := (T o v).1
        omega
    rw [show u = L by omega]
    exact hL
  refine ⟨⟨low, Or.inr ⟨u0, u1, af, lenf, fun q a hq m k m0 m1 k0 k1 ahd => ?_⟩⟩, by omega⟩
  have hWq := aQo_wf hW a
  have n4 := hW.2.2.2.2.1 m m0 m1
  have hS := lenR_sol hWq hq (Int.le_refl u)
  -- which jobs stand ahead
  have earlier : ∀ e, 0 ≤ e → e < 4 * m + k → (0 ≤ f e → f e = q e ∧ e % 4 < ln (e / 4)) := fun e e0 e1 hp => by
    have e4 : e / 4 < 4 := by omega
    have l4 := hW.2.2.2.2.1 (e / 4) (by omega) e4
    by_cases c : e % 4 < ln (e / 4)
    · have := ahd (e / 4) (e % 4) (by omega) (by omega) c (by omega)
      rw [show 4 * (e / 4) + e % 4 = e by omega] at this
      exact ⟨this, c⟩
    · have := hr (e / 4) (e % 4) (by omega) e4 (by omega) (by omega)
      rw [show 4 * (e / 4) + e % 4 = e by omega] at this
      omega
  have fstq : ∀ e', 0 ≤ e' → e' < 4 * m + k → fst on f (Cqo mc ln q) e' := fun e' a0' a1' hp j j0 j1 hl hne => by
    obtain ⟨he, hc⟩ := earlier e' a0' a1' hp
    have e4 : e' / 4 < 4 := by omega
    have l4 := hW.2.2.2.2.1 (e' / 4) (by omega) e4
    have op := on_pl hWq hB (show 0 ≤ e' / 4 by omega) e4 (show 0 ≤ e' % 4 by omega) hc
    rw [show 4 * (e' / 4) + e' % 4 = e' by omega, ← he] at op
    obtain ⟨b1, b2, b3⟩ := hB.2.2 (e' / 4) j (by omega) e4 j0 j1 hl.1
    have pj := plo_of hWq b1
    rw [b2] at pj
    have qj := (oq_v hWq (show 0 ≤ e' / 4 by omega) e4 pj.1 pj.2.1).2.2
    rw [pj.2.2, b3] at qj
    unfold Cqo
    rw [op.2]
    rcases (show plo mc ln q (on (4 * (e' / 4) + j)) < e' % 4 ∨ plo mc ln q (on (4 * (e' / 4) + j)) = e' % 4 ∨ e' % 4 < plo mc ln q (on (4 * (e' / 4) + j)) by omega) with z | z | z
    · exfalso
      have x := ahd (e' / 4) (plo mc ln q (on (4 * (e' / 4) + j))) (by omega) pj.1 pj.2.1 (by omega)
      exact hl.2 (4 * (e' / 4) + plo mc ln q (on (4 * (e' / 4) + j))) (by omega) (by omega) (by rw [x, ← qj])
    · exfalso
      rw [z, show 4 * (e' / 4) + e' % 4 = e' by omega] at qj
      exact hne (by rw [he, qj])
    · exact z
  rcases Int.lt_or_le (q (4 * m + k)) (f (4 * m + k)) with c | c
  · exfalso
    obtain ⟨a1, a2, -⟩ := hWq.2.2.2.2.2.1 m k m0 m1 k0 k1
    have op := on_pl hWq hB m0 m1 k0 k1
    have ov := oq_v hWq m0 m1 k0 k1
    have lfq : lf on f (4 * m + k) (q (4 * m + k)) := by
      refine ⟨by rw [show (4 * m + k) / 4 = m by omega, op.1]; exact ov.1.1, fun e e0 e1 he => ?_⟩
      have x := earlier e (by omega) e1 (by omega)
      have := hWq.2.2.2.2.2.2.1 m (e - 4 * m) k m0 m1 (by omega) (by omega) k0 k1 (by rw [show 4 * m + (e - 4 * m) = e by omega, ← x.1, he])
      omega
    obtain ⟨k2, b0, b1, b2, b3, b4⟩ := h10 (Cqo mc ln q) hS (hto q a) (4 * m + k) (by omega) (by omega) fstq (q (4 * m + k)) a1 c lfq
    rw [show (4 * m + k) / 4 = m by omega] at b4
    unfold Cqo at b4
    rw [op.2] at b4
    have d1 := b2.1
    rw [show (4 * m + k) / 4 = m by omega] at d1
    obtain ⟨c1, c2, c3⟩ := hB.2.2 m k2 m0 m1 b0 b1 d1
    have pj := plo_of hWq c1
    rw [c2] at pj
    have qj := (oq_v hWq m0 m1 pj.1 pj.2.1).2.2
    rw [pj.2.2, c3] at qj
    have x := ahd m (plo mc ln q (on (4 * m + k2))) m0 pj.1 pj.2.1 (Or.inr ⟨rfl, b4⟩)
    exact b2.2 (4 * m + plo mc ln q (on (4 * m + k2))) (by omega) (by omega) (by rw [x, ← qj])
  · exact c
