/-! a breakdown, by the routes alone -/
theorem head_bd {V : Int → Prop} {P : Int → Int → Prop} {d r h : Int → Int} {b : Int} (hV : ∀ o, V o → 0 ≤ o ∧ o < 16) (hd : ∀ o, V o → 1 ≤ d o ∧ d o ≤ 20 ∧ r o ≤ b) (H : IsHead V P d r h) (h0 : ∀ o, V o → 0 ≤ h o) : ∀ o, V o → h o ≤ b + 320 := by
  have key : ∀ (n : Nat) (o : Int), V o → h o ≤ n → h o ≤ b + 20 * sm (fun x => b2i (V x ∧ h x < h o)) 16 := by
    intro n
    induction n with
    | zero =>
      intro o v hn
      have c := (sm_r (f := fun x => b2i (V x ∧ h x < h o)) (b := 1) (fun i => b2i_r _) 16).1
      rcases (H o v).2.2 with q | ⟨o', v', p, q⟩
      · have := hd o v
        omega
      · have := hd o' v'
        have := h0 o' v'
        omega
    | succ n ih =>
      intro o v hn
      have c := (sm_r (f := fun x => b2i (V x ∧ h x < h o)) (b := 1) (fun i => b2i_r _) 16).1
      rcases (H o v).2.2 with q | ⟨o', v', p, q⟩
      · have := hd o v
        omega
      · have d1 := hd o' v'
        have i := ih o' v' (by omega)
        have w := hV o' v'
        have := sm_lt (f := fun x => b2i (V x ∧ h x < h o')) (g := fun x => b2i (V x ∧ h x < h o)) 16 (fun i _ => b2i_le (fun z => ⟨z.1, by omega⟩)) ⟨o'.toNat, by omega, by
          rw [Int.toNat_of_nonneg w.1, b2i_0 (fun z => by omega), b2i_1 ⟨v', by omega⟩]
          omega⟩
        omega
  intro o v
  have k := key (h o).toNat o v (by have := h0 o v; omega)
  have c := (sm_r (f := fun x => b2i (V x ∧ h x < h o)) (b := 1) (fun i => b2i_r _) 16).2
  omega
theorem sm_pre {P : Int → Prop} : ∀ n : Nat, (∀ k k' : Int, 0 ≤ k → k < k' → k' < n → P k' → P k) → ∀ k : Int, 0 ≤ k → k < n → (k < sm (fun x => b2i (P x)) n ↔ P k) := by
  intro n
  induction n with
  | zero => intro _ k a b; omega
  | succ n ih =>
    intro h k k0 k1
    have ih' := ih (fun k k' a b c => h k k' a b (by omega))
    have up := (sm_r (f := fun x => b2i (P x)) (b := 1) (fun i => b2i_r _) n).2
    have e : sm (fun x => b2i (P x)) (n + 1) = sm (fun x => b2i (P x)) n + b2i (P n) := rfl
    rw [e]
    by_cases c : P n
    · rw [b2i_1 c]
      have all : ∀ k : Int, 0 ≤ k → k < n → P k := fun k a b => h k n a b (by omega) c
      have ge : (n : Int) ≤ sm (fun x => b2i (P x)) n := by
        rcases Nat.eq_zero_or_pos n with z | z
        · subst z
          exact Int.le_refl _
        · have := (ih' ((n : Int) - 1) (by omega) (by omega)).mpr (all _ (by omega) (by omega))
          omega
      constructor
      · intro _
        by_cases z : k = n
        · rw [z]
          exact c
        · exact all k k0 (by omega)
      · intro _
        omega
    · rw [b2i_0 c]
      by_cases z : k = n
      · rw [z]
        exact ⟨fun q => by omega, fun q => absurd q c⟩
      · have := ih' k k0 (by omega)
        rw [Int.add_zero]
        exact this
/-- the operation o stays, by the heads h of the plan: b the machine that breaks down, t when -/
def stG (mc du h : Int → Int) (b t o : Int) : Prop := h o + du o ≤ t ∨ (mc o ≠ b ∧ h o < t)
noncomputable def fsG (st mc du q0 h : Int → Int) (ln : Int → Int) (b t m : Int) : Int := sm (fun k => b2i (stG mc du h b t (oq st mc q0 m k))) (ln m).toNat
noncomputable def rdG (mc du re h : Int → Int) (b t u o : Int) : Int := cif (stG mc du h b t o) (re (o / 4)) (if re (o / 4) < blim b t u (mc o) then blim b t u (mc o) else re (o / 4))
/-- what a call of breakdown finds -/
def brkS (st mc du re ln q0 : Int → Int) (b t u le : Int) (f : Int → Int) : Prop := ∃ h0, wH st mc du re ln q0 h0 ∧ bstG st mc du (rdG mc du re h0 b t u) ln (fsG st mc du q0 h0 ln b t) q0 le f
theorem stG_pr {st mc du re ln q h : Int → Int} {b t : Int} (hd : ∀ o, vOp st o → 1 ≤ du o) (H : wH st mc du re ln q h) {o' o : Int} (v' : vOp st o') (v : vOp st o) (p : wP mc ln q o' o) (s : stG mc du h b t o) : stG mc du h b t o' := by
  have := (H o v).2.1 o' v' p
  have := hd o v
  have := hd o' v'
  unfold stG at s ⊢
  left
  rcases s with s | ⟨-, s⟩ <;> omega
theorem stG_dn {J : Int} {st mc du re ln q h : Int → Int} {b t : Int} (hW : WF J st mc du ln q) (H : wH st mc du re ln q h) {m : Int} (m0 : 0 ≤ m) (m1 : m < 4) : ∀ k k', 0 ≤ k → k < k' → k' < ln m → stG mc du h b t (oq st mc q m k') → stG mc du h b t (oq st mc q m k) := by
  have step : ∀ k, 0 ≤ k → k + 1 < ln m → stG mc du h b t (oq st mc q m (k + 1)) → stG mc du h b t (oq st mc q m k) := fun k k0 k1 s => by
    obtain ⟨a1, a2, -⟩ := oq_v hW m0 m1 k0 (by omega)
    obtain ⟨b1, b2, -⟩ := oq_v hW m0 m1 (show 0 ≤ k + 1 by omega) k1
    refine stG_pr (fun o v => (hW.2.2.1 o v).2.2.1) H a1 b1 (Or.inr ⟨by rw [a2, b2], ?_⟩) s
    rw [plo_oq hW m0 m1 k0 (by omega), plo_oq hW m0 m1 (by omega) k1]
  have key : ∀ (n : Nat) (k k' : Int), 0 ≤ k → k < k' → k' < ln m → k' - k ≤ n → stG mc du h b t (oq st mc q m k') → stG mc du h b t (oq st mc q m k) := by
    intro n
    induction n with
    | zero => intro k k' a b c d; omega
    | succ n ih =>
      intro k k' a b c d s
      by_cases z : k' = k + 1
      · rw [z] at s c
        exact step k a c s
      · exact step k a (by omega) (ih (k + 1) k' (by omega) (by omega) c (by omega) s)
  intro k k' a b c s
  exact key (k' - k).toNat k k' a b c (by omega) s
theorem fsG_r {J : Int} {st mc du re ln q h : Int → Int} {b t : Int} (hW : WF J st mc du ln q) (H : wH st mc du re ln q h) {m : Int} (m0 : 0 ≤ m) (m1 : m < 4) : (0 ≤ fsG st mc du q h ln b t m ∧ fsG st mc du q h ln b t m ≤ ln m) ∧ ∀ k, 0 ≤ k → k < ln m → (k < fsG st mc du q h ln b t m ↔ stG mc du h b t (oq st mc q m k)) := by
  have l := hW.2.2.2.2.1 m m0 m1
  have r := sm_r (f := fun k => b2i (stG mc du h b t (oq st mc q m k))) (b := 1) (fun i => b2i_r _) (ln m).toNat
  refine ⟨⟨r.1, ?_⟩, fun k k0 k1 => sm_pre (P := fun k => stG mc du h b t (oq st mc q m k)) (ln m).toNat (fun k k' a c d s => stG_dn hW H m0 m1 k k' a c (by omega) s) k k0 (by omega)⟩
  have := r.2
  unfold fsG
  omega
/-- an operation that stays has the same place and the same one ahead of it -/
theorem pl_S {J : Int} {st mc du re ln q0 q h : Int → Int} {b t : Int} (hW : WF J st mc du ln q0) (H : wH st mc du re ln q0 h) (a : aQo ln (fsG st mc du q0 h ln b t) q0 q) {m k : Int} (m0 : 0 ≤ m) (m1 : m < 4) (k0 : 0 ≤ k) (k1 : k < fsG st mc du q0 h ln b t m) : oq st mc q m k = oq st mc q0 m k := by
  unfold oq
  have e : q (4 * m + k) = q0 (4 * m + k) := (a m m0 m1).2 k k0 k1
  rw [e]
theorem plo_S {J : Int} {st mc du re ln q0 q h : Int → Int} {b t : Int} (hW : WF J st mc du ln q0) (H : wH st mc du re ln q0 h) (a : aQo ln (fsG st mc du q0 h ln b t) q0 q) {o : Int} (v : vOp st o) : (stG mc du h b t o ↔ plo mc ln q0 o < fsG st mc du q0 h ln b t (mc o)) ∧ (stG mc du h b t o → plo mc ln q o = plo mc ln q0 o) ∧ (plo mc ln q o < fsG st mc du q0 h ln b t (mc o) → plo mc ln q o = plo mc ln q0 o) := by
  obtain ⟨m0, m1, -⟩ := hW.2.2.1 o v
  have hWq := aQo_wf hW a
  have p0 := plo_of hW v
  have p := plo_of hWq v
  have fr := fsG_r (b := b) (t := t) hW H m0 m1
  have e1 : stG mc du h b t o ↔ plo mc ln q0 o < fsG st mc du q0 h ln b t (mc o) := by
    rw [fr.2 _ p0.1 p0.2.1, p0.2.2]
  refine ⟨e1, fun s => ?_, fun s => ?_⟩
  · have s' := e1.mp s
    have := pl_S hW H a m0 m1 p0.1 s'
    rw [p0.2.2] at this
    have e := plo_oq hWq m0 m1 p0.1 p0.2.1
    rw [this] at e
    exact e
  · have := pl_S hW H a m0 m1 p.1 s
    rw [p.2.2] at this
    have e := plo_oq hW m0 m1 p.1 p.2.1
    rw [← this] at e
    exact e.symm
theorem wP_S {J : Int} {st mc du re ln q0 q h : Int → Int} {b t : Int} (hW : WF J st mc du ln q0) (H : wH st mc du re ln q0 h) (a : aQo ln (fsG st mc du q0 h ln b t) q0 q) {o' o : Int} (v' : vOp st o') (v : vOp st o) (s : stG mc du h b t o) : wP mc ln q o' o ↔ wP mc ln q0 o' o := by
  have x := plo_S hW H a v
  have y := plo_S hW H a v'
  have e := x.2.1 s
  have l := x.1.mp s
  unfold wP
  constructor
  · rintro (p | ⟨p1, p2⟩)
    · exact Or.inl p
    · have := y.2.2 (by rw [p1]; omega)
      exact Or.inr ⟨p1, by omega⟩
  · rintro (p | ⟨p1, p2⟩)
    · exact Or.inl p
    · have := y.2.1 (y.1.mpr (by rw [p1]; omega))
      exact Or.inr ⟨p1, by omega⟩
/-- heads that are found anew, and heads that stay: the same -/
theorem brk_eq {J : Int} {st mc du re ln q0 q h0 h : Int → Int} {b t u : Int} (hW : WF J st mc du ln q0) (hre : ∀ o, vOp st o → 0 ≤ re (o / 4)) (H : wH st mc du re ln q0 h0) (a : aQo ln (fsG st mc du q0 h0 ln b t) q0 q) : IsHead (vOp st) (wP mc ln q) du (rdG mc du re h0 b t u) h ↔ IsHead (vOp st) (fun o' o => ¬ stG mc du h0 b t o ∧ wP mc ln q o' o) du (fun o => cif (stG mc du h0 b t o) (h0 o) (if re (o / 4) < blim b t u (mc o) then blim b t u (mc o) else re (o / 4))) h := by
  have hd : ∀ o, vOp st o → 1 ≤ du o := fun o v => (hW.2.2.1 o v).2.2.1
  have cl : ∀ o' o, vOp st o' → vOp st o → stG mc du h0 b t o → wP mc ln q o' o → stG mc du h0 b t o' ∧ wP mc ln q0 o' o := fun o' o v' v s p => by
    have p0 := (wP_S hW H a v' v s).mp p
    exact ⟨stG_pr hd H v' v p0 s, p0⟩
  have r1 : ∀ o, stG mc du h0 b t o → rdG mc du re h0 b t u o = re (o / 4) := fun o s => by
    unfold rdG
    rw [cif_1 s]
  have r0 : ∀ o, ¬ stG mc du h0 b t o → rdG mc du re h0 b t u o = if re (o / 4) < blim b t u (mc o) then blim b t u (mc o) else re (o / 4) := fun o s => by
    unfold rdG
    rw [cif_0 s]
  constructor
  · intro G
    -- those that stay have their old heads
    have same : ∀ o, vOp st o → stG mc du h0 b t o → h o = h0 o := by
      intro o v s
      refine head_unique (V := fun o => vOp st o ∧ stG mc du h0 b t o) (P := wP mc ln q) (d := du) (r := fun o => re (o / 4)) (fun o w => hd o w.1) (fun o w => hre o w.1) (fun o w => ?_) (fun o w => ?_) ⟨v, s⟩
      · obtain ⟨g1, g2, g3⟩ := G o w.1
        rw [r1 o w.2] at g1 g3
        refine ⟨g1, fun o' w' p => g2 o' w'.1 p, ?_⟩
        rcases g3 with g3 | ⟨o', v', p, g3⟩
        · exact Or.inl g3
        · exact Or.inr ⟨o', ⟨v', (cl o' o v' w.1 w.2 p).1⟩, p, g3⟩
      · obtain ⟨g1, g2, g3⟩ := H o w.1
        refine ⟨g1, fun o' w' p => g2 o' w'.1 ((wP_S hW H a w'.1 w.1 w.2).mp p), ?_⟩
        rcases g3 with g3 | ⟨o', v', p, g3⟩
        · exact Or.inl g3
        · exact Or.inr ⟨o', ⟨v', stG_pr hd H v' w.1 p w.2⟩, (wP_S hW H a v' w.1 w.2).mpr p, g3⟩
    intro o v
    obtain ⟨g1, g2, g3⟩ := G o v
    by_cases s : stG mc du h0 b t o
    · have e := same o v s
      dsimp only
      rw [cif_1 s]
      exact ⟨by omega, fun o' v' p => absurd s p.1, Or.inl e⟩
    · rw [r0 o s] at g1 g3
      dsimp only
      rw [cif_0 s]
      refine ⟨g1, fun o' v' p => g2 o' v' p.2, ?_⟩
      rcases g3 with g3 | ⟨o', v', p, g3⟩
      · exact Or.inl g3
      · exact Or.inr ⟨o', v', ⟨s, p⟩, g3⟩
  · intro G
    have same : ∀ o, vOp st o → stG mc du h0 b t o → h o = h0 o := fun o v s => by
      obtain ⟨g1, g2, g3⟩ := G o v
      dsimp only at g3
      rw [cif_1 s] at g3
      rcases g3 with g3 | ⟨o', v', p, g3⟩
      · exact g3
      · exact absurd s p.1
    intro o v
    obtain ⟨g1, g2, g3⟩ := G o v
    by_cases s : stG mc du h0 b t o
    · obtain ⟨k1, k2, k3⟩ := H o v
      rw [r1 o s, same o v s]
      refine ⟨k1, fun o' v' p => ?_, ?_⟩
      · obtain ⟨c1, c2⟩ := cl o' o v' v s p
        rw [same o' v' c1]
        exact k2 o' v' c2
      · rcases k3 with k3 | ⟨o', v', p, k3⟩
        · exact Or.inl k3
        · exact Or.inr ⟨o', v', (wP_S hW H a v' v s).mpr p, by rw [same o' v' (stG_pr hd H v' v p s)]; exact k3⟩
    · dsimp only at g1 g3
      rw [cif_0 s] at g1 g3
      rw [r0 o s]
      refine ⟨g1, fun o' v' p => g2 o' v' ⟨s, p⟩, ?_⟩
      rcases g3 with g3 | ⟨o', v', p, g3⟩
      · exact Or.inl g3
      · exact Or.inr ⟨o', v', p.2, g3⟩
