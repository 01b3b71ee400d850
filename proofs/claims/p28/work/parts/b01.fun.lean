/-! what a workshop answers, as functions of its view -/
noncomputable def the (P : Int → Prop) : Int := @dite _ (∃ r, P r) (Classical.propDecidable _) (fun h => Classical.choose h) (fun _ => 0)
theorem the_sp {P : Int → Prop} (e : ∃ r, P r) : P (the P) := by
  unfold the
  rw [dif_pos e]
  exact Classical.choose_spec e
theorem the_is {P : Int → Prop} {r : Int} (h : P r) (hu : ∀ r', P r' → r' = r) : the P = r := hu _ (the_sp ⟨r, h⟩)
noncomputable def theF (P : (Int → Int) → Prop) : Int → Int := @dite _ (∃ r, P r) (Classical.propDecidable _) (fun h => Classical.choose h) (fun _ _ => 0)
theorem theF_sp {P : (Int → Int) → Prop} (e : ∃ r, P r) : P (theF P) := by
  unfold theF
  rw [dif_pos e]
  exact Classical.choose_spec e
def wHv (v : Vw) (h : Int → Int) : Prop := wH (v 10) (v 11) (v 12) (v 8) (v 13) (v 14) h
def wTv (v : Vw) (t : Int → Int) : Prop := wTl (v 10) (v 11) (v 12) (v 13) (v 14) t
def pos (v : Vw) : Prop := ∃ h, wHv v h
noncomputable def hV (v : Vw) : Int → Int := theF (wHv v)
noncomputable def tV (v : Vw) : Int → Int := theF (wTv v)
noncomputable def LV (v : Vw) : Int := the (fun L => IsMax (vOp (v 10)) (fun o => hV v o + v 12 o + tV v o) L)
def PTv (v : Vw) (p : Int → Int) (n : Int) : Prop := PT (v 10) (v 11) (v 8) (v 12) (v 13) (v 14) (hV v) (tV v) (LV v) p n
noncomputable def nV (v : Vw) : Int := the (fun n => ∃ p, PTv v p n)
noncomputable def pV (v : Vw) : Int → Int := theF (fun p => PTv v p (nV v))
theorem wWF_op {w : Vw} (h : wWF w) {o : Int} (v : vOp (w 10) o) : 0 ≤ w 11 o ∧ w 11 o < 4 ∧ 1 ≤ w 12 o ∧ w 12 o ≤ 20 ∧ 0 ≤ o / 4 ∧ o / 4 < w 5 0 ∧ 0 ≤ w 8 (o / 4) ∧ w 8 (o / 4) ≤ 50 := by
  have a := h.1.2.2.1 o v
  have b := wWF_j h v
  have c := h.2 _ b.1 b.2
  exact ⟨a.1, a.2.1, a.2.2.1, a.2.2.2, b.1, b.2, c.1, c.2.1⟩
/-- the first one exists -/
theorem isF1_ex {st re du h t : Int → Int} {L : Int} : ∃ c, isF1 st re du h t L 16 c := by
  have key : ∀ n : Nat, n ≤ 16 → ∃ c, isF2 st re du h t L (16 - n) c := by
    intro n
    induction n with
    | zero => intro _; exact ⟨-6, isF2_0⟩
    | succ n ih =>
      intro hn
      obtain ⟨c, hc⟩ := ih (by omega)
      have hc' : isF2 st re du h t L ((16 - ((n + 1 : Nat) : Int)) + 1) c := by
        rw [show (16 - ((n + 1 : Nat) : Int)) + 1 = 16 - (n : Int) by omega]
        exact hc
      by_cases q : vOp st (16 - ((n + 1 : Nat) : Int)) ∧ Crt du h t L (16 - ((n + 1 : Nat) : Int)) ∧ h (16 - ((n + 1 : Nat) : Int)) = re ((16 - ((n + 1 : Nat) : Int)) / 4)
      · exact ⟨_, isF2_s hc' q⟩
      · exact ⟨_, isF2_n hc' q⟩
  obtain ⟨c, hc⟩ := key 16 (by omega)
  refine ⟨c, isF2_1 ?_⟩
  have e : (16 : Int) - ((16 : Nat) : Int) = 0 := by omega
  rw [e] at hc
  exact hc
theorem isN_ex {st mc du ln q h t : Int → Int} {L o : Int} : ∃ c, isN st mc du ln q h t L o c := by
  by_cases a : rtN st du h t L o
  · exact ⟨_, Or.inl ⟨a, rfl⟩⟩
  · by_cases b : odN st mc du ln q h t L o
    · exact ⟨_, Or.inr (Or.inl ⟨a, b, rfl⟩)⟩
    · exact ⟨_, Or.inr (Or.inr ⟨a, b, rfl⟩)⟩
theorem isN_r {st mc du ln q h t : Int → Int} {L o c : Int} (v : vOp st o) (a : isN st mc du ln q h t L o c) : c = -6 ∨ 0 ≤ c := by
  rcases a with ⟨-, rfl⟩ | ⟨-, b, rfl⟩ | ⟨-, -, rfl⟩
  · have := v.1
    omega
  · exact Or.inr b.1
  · exact Or.inl rfl
theorem PT_ex {J : Int} {st mc re du ln q h t : Int → Int} {L : Int} (hW : WF J st mc du ln q) : ∃ p n, PT st mc re du ln q h t L p n := by
  have key : ∀ (k : Nat) (p : Int → Int) (n c : Int), PTi st mc re du ln q h t L p n c → (c = -6 ∨ 0 ≤ c) → 17 - n ≤ k → ∃ p n, PT st mc re du ln q h t L p n := by
    intro k
    induction k with
    | zero =>
      intro p n c hP hc hk
      have := (PTi_v hW hP).2.2
      omega
    | succ k ih =>
      intro p n c hP hc hk
      rcases hc with rfl | c0
      · exact ⟨p, n, hP⟩
      · have vc := ((PTi_v hW hP).2.1 c0).1
        obtain ⟨c', hc'⟩ := isN_ex (st := st) (mc := mc) (du := du) (ln := ln) (q := q) (h := h) (t := t) (L := L) (o := c)
        have n0 := hP.1
        exact ih (fun x => if x = n then c else p x) (n + 1) c' (PTi_s hP c0 (fun k a b => by rw [if_neg (by omega)]) (if_pos rfl) hc') (isN_r vc hc') (by omega)
  obtain ⟨c, hc⟩ := isF1_ex (st := st) (re := re) (du := du) (h := h) (t := t) (L := L)
  refine key 17 (fun _ => 0) 0 c (PTi_0 hc) ?_ (by omega)
  rcases hc with ⟨rfl, -⟩ | ⟨v, -⟩
  · exact Or.inl rfl
  · exact Or.inr v.1
/-- a plan that is possible has heads, tails, a length and a path -/
theorem pos_f {v : Vw} (hw : wWF v) (hp : pos v) : wHv v (hV v) ∧ wTv v (tV v) ∧ IsMax (vOp (v 10)) (fun o => hV v o + v 12 o + tV v o) (LV v) ∧ PTv v (pV v) (nV v) := by
  have h1 : wHv v (hV v) := theF_sp hp
  have hm := max_ex (V := vOp (v 10)) vOp_16 (fun o => hV v o + v 12 o)
  obtain ⟨M, -, hM, -⟩ := hm
  have h2 : wTv v (tV v) := by
    obtain ⟨t, ht, -⟩ := tail_bd vOp_16 h1 hM
    exact theF_sp ⟨t, ht⟩
  have h3 : IsMax (vOp (v 10)) (fun o => hV v o + v 12 o + tV v o) (LV v) := by
    obtain ⟨L, a, b, c⟩ := max_ex (V := vOp (v 10)) vOp_16 (fun o => hV v o + v 12 o + tV v o)
    exact the_sp ⟨L, a, b, c⟩
  have h4 : ∃ n p, PTv v p n := by
    obtain ⟨p, n, h⟩ := PT_ex (re := v 8) (h := hV v) (t := tV v) (L := LV v) hw.1
    exact ⟨n, p, h⟩
  exact ⟨h1, h2, h3, theF_sp (the_sp h4)⟩
theorem hV_un {v : Vw} (hw : wWF v) {h : Int → Int} (H : wHv v h) {o : Int} (vo : vOp (v 10) o) : hV v o = h o := head_unique (fun o v => (wWF_op hw v).2.2.1) (fun o v => (wWF_op hw v).2.2.2.2.2.2.1) (pos_f hw ⟨h, H⟩).1 H vo
theorem tV_un {v : Vw} (hw : wWF v) (hp : pos v) {t : Int → Int} (T : wTv v t) {o : Int} (vo : vOp (v 10) o) : tV v o = t o := tail_unique (fun o v => (wWF_op hw v).2.2.1) (pos_f hw hp).2.1 T vo
/-- what the class keeps of its plan, in the view's words -/
theorem PK_v {σ : Mem} (hw : sWF σ 0) (hP : PK σ) {v : Vw} (hv : cv σ 0 = v) : pos v ∧ (∀ o, vOp (v 10) o → σ 21 0 o = hV v o ∧ σ 22 0 o = tV v o ∧ σ 12 0 o = v 12 o ∧ σ 17 0 o = v 12 o ∧ σ 11 0 o = v 11 o) ∧ σ 1 0 8 = LV v ∧ σ 3 0 1 = nV v ∧ (∀ k, 0 ≤ k → k < nV v → σ 37 0 k = pV v k ∧ vOp (v 10) (pV v k)) ∧ (∀ o, vOp (σ 10 0) o ↔ vOp (v 10) o) := by
  subst hv
  have ag := cv_ag hw
  have ww := cv_wf hw
  have V : ∀ o, vOp (σ 10 0) o ↔ vOp (cv σ 0 10) o := fun o => (ag.V o).symm
  obtain ⟨⟨m1, m2, m3, m4, m5, m6, m7⟩, hT⟩ := hP
  have H : wHv (cv σ 0) (σ 21 0) := (ag.H hw.1).mp m3
  have T : wTv (cv σ 0) (σ 22 0) := (ag.T hw.1).mp m4
  have hp : pos (cv σ 0) := ⟨_, H⟩
  have f := pos_f ww hp
  have e : ∀ o, vOp (cv σ 0 10) o → σ 21 0 o = hV (cv σ 0) o ∧ σ 22 0 o = tV (cv σ 0) o ∧ σ 12 0 o = cv σ 0 12 o ∧ σ 17 0 o = cv σ 0 12 o ∧ σ 11 0 o = cv σ 0 11 o := fun o v => by
    have a := ag.2.2.1 o ((V o).mpr v)
    exact ⟨(hV_un ww H v).symm, (tV_un ww hp T v).symm, a.2.1, (m2 o ((V o).mpr v)).2.trans a.2.1, a.1⟩
  have eL : σ 1 0 8 = LV (cv σ 0) := by
    refine max_unique (V := vOp (cv σ 0 10)) (f := fun o => hV (cv σ 0) o + cv σ 0 12 o + tV (cv σ 0) o) ⟨m5.1, fun o v => ?_, ?_⟩ f.2.2.1
    · obtain ⟨a, b, c, -⟩ := e o v
      have := m5.2.1 o ((V o).mpr v)
      dsimp only at this ⊢
      omega
    · rcases m5.2.2 with q | ⟨o, v, q⟩
      · exact Or.inl q
      · obtain ⟨a, b, c, -⟩ := e o ((V o).mp v)
        refine Or.inr ⟨o, (V o).mp v, ?_⟩
        dsimp only at q ⊢
        omega
  have P : PTv (cv σ 0) (σ 37 0) (σ 3 0 1) := by
    have q := ag.PT (g' := hV (cv σ 0)) (t' := tV (cv σ 0)) hw.1 (fun o v => by
      have := e o ((V o).mp v)
      exact ⟨this.1, this.2.1⟩) hT
    rw [eL] at q
    exact q
  have u := PT_un P f.2.2.2
  have pv := (PTi_v ww.1 f.2.2.2).1
  exact ⟨hp, e, eL, u.1, fun k a b => ⟨u.2 k a (by rw [u.1]; exact b), pv k a b⟩, V⟩
theorem PK_np {σ : Mem} (hw : sWF σ 0) (hn : ∀ h, ¬ sH σ 0 h) {v : Vw} (hv : cv σ 0 = v) : ¬ pos v := by
  subst hv
  rintro ⟨h, H⟩
  exact hn h (((cv_ag hw).H hw.1).mpr H)
noncomputable def lenA (v : Vw) : Int := cif (pos v) (LV v) (-6)
noncomputable def slkA (v : Vw) (o : Int) : Int := LV v - (hV v o + v 12 o + tV v o)
noncomputable def popA (v : Vw) (o : Int) : Int := the (PoP (pV v) (nV v) o)
noncomputable def abA (v : Vw) (o w : Int) : Int := cif (¬ vOp (v 10) o) (-1) (if ¬ (0 ≤ w ∧ w ≤ 7) then -2 else if w = 0 then v 11 o else if w = 1 then v 12 o else if w = 2 then plo (v 11) (v 13) (v 14) o else cif (¬ pos v) (-6) (if w = 3 then hV v o else if w = 4 then tV v o else if w = 5 then slkA v o else if w = 6 then (if slkA v o = 0 then 1 else 0) else popA v o))
noncomputable def pathA (v : Vw) (k : Int) : Int := cif (pos v ∧ 0 ≤ k ∧ k < nV v) (pV v k) (-6)
def ordA (v : Vw) (m x : Int) : Int := if ¬ (0 ≤ m ∧ m ≤ 3) then -2 else if 0 ≤ x ∧ x < v 13 m then v 14 (4 * m + x) else -6
noncomputable def ejA (v : Vw) (j : Int) : Int := if 0 < v 10 j then hV v (4 * j + v 10 j - 1) + v 12 (4 * j + v 10 j - 1) else v 8 j
noncomputable def ltA (v : Vw) (j : Int) : Int := if 0 < ejA v j - v 9 j then ejA v j - v 9 j else 0
noncomputable def ofjA (v : Vw) (j w : Int) : Int := if ¬ (0 ≤ j ∧ j < v 5 0) then -1 else if ¬ (0 ≤ w ∧ w ≤ 5) then -2 else if w = 0 then v 8 j else if w = 1 then v 9 j else if w = 2 then v 10 j else if w = 3 then wF (v 12) (4 * j) (v 10 j) else cif (¬ pos v) (-6) (if w = 4 then ejA v j else ltA v j)
noncomputable def cntA (g : Gh) (w : Int) : Int := if ¬ (0 ≤ w ∧ w ≤ 9) then -2 else if w = 0 then g.1 5 0 else if w = 1 then wF (g.1 10) 0 (g.1 5 0) else if w = 2 then wF (fun j => wF (g.1 12) (4 * j) (g.1 10 j)) 0 (g.1 5 0) else if w = 8 then g.2.2.2.2 else if w = 9 then g.2.1.length else if w = 7 then cif (pos g.1) 1 0 else cif (¬ pos g.1) (-6) (if w = 3 then nV g.1 else if w = 4 then sm (blk (g.1 11) (pV g.1)) (nV g.1).toNat else if w = 5 then sm (ltA g.1) (g.1 5 0).toNat else mxS (ltA g.1) (g.1 5 0).toNat)
theorem popA_r {v : Vw} {o : Int} : ∃ r, PoP (pV v) (nV v) o r := by
  by_cases c : ∃ k, 0 ≤ k ∧ k < nV v ∧ pV v k = o
  · obtain ⟨k, k0, k1, k2⟩ := c
    have key : ∀ n : Nat, (∃ k : Int, 0 ≤ k ∧ k < nV v ∧ k ≤ n ∧ pV v k = o) → ∃ r, 0 ≤ r ∧ r < nV v ∧ pV v r = o ∧ ∀ k, 0 ≤ k → k < r → pV v k ≠ o := by
      intro n
      induction n with
      | zero =>
        rintro ⟨k, a, b, c, d⟩
        exact ⟨k, a, b, d, fun k' e f => by omega⟩
      | succ n ih =>
        rintro ⟨k, a, b, c, d⟩
        by_cases q : ∃ k : Int, 0 ≤ k ∧ k < nV v ∧ k ≤ n ∧ pV v k = o
        · exact ih q
        · exact ⟨k, a, b, d, fun k' e f g => q ⟨k', e, by omega, by omega, g⟩⟩
    obtain ⟨r, a, b, c, d⟩ := key k.toNat ⟨k, k0, k1, by omega, k2⟩
    exact ⟨r, Or.inr ⟨a, b, c, d⟩⟩
  · exact ⟨-6, Or.inl ⟨rfl, fun k a b e => c ⟨k, a, b, e⟩⟩⟩
theorem popA_p {v : Vw} {o : Int} : PoP (pV v) (nV v) o (popA v o) := the_sp popA_r
theorem popA_is {v : Vw} {p : Int → Int} {o r : Int} (h : PoP p (nV v) o r) (e : ∀ k, 0 ≤ k → k < nV v → p k = pV v k) : r = popA v o := PoP_un h popA_p e
