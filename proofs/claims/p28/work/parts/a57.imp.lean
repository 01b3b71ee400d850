/-! improve -/
/-- the longest way is the last end -/
theorem end_max {V : Int → Prop} {P : Int → Int → Prop} {d r h t : Int → Int} {L : Int} (hd : ∀ o, V o → 1 ≤ d o) (H : IsHead V P d r h) (T : IsTail V P d t) : IsMax V (fun o => h o + d o + t o) L ↔ (0 ≤ L ∧ (∀ o, V o → h o + d o ≤ L) ∧ (L = 0 ∨ ∃ o, V o ∧ h o + d o = L)) := by
  have A : ∀ (n : Nat) (o : Int), V o → t o ≤ n → ∃ o', V o' ∧ h o + d o + t o ≤ h o' + d o' := by
    intro n
    induction n with
    | zero => intro o v hn; exact ⟨o, v, by omega⟩
    | succ n ih =>
      intro o v hn
      rcases (T o v).2.2 with q | ⟨o', v', p, q⟩
      · exact ⟨o, v, by omega⟩
      · have := hd o' v'
        obtain ⟨x, vx, e⟩ := ih o' v' (by omega)
        have := (H o' v').2.1 o v p
        exact ⟨x, vx, by omega⟩
  have A' : ∀ o, V o → ∃ o', V o' ∧ h o + d o + t o ≤ h o' + d o' := fun o v => A (t o).toNat o v (by omega)
  constructor
  · rintro ⟨a, b, c⟩
    refine ⟨a, fun o v => ?_, ?_⟩
    · have b1 := b o v
      have := (T o v).1
      dsimp only at b1
      omega
    · rcases c with c | ⟨o, v, c⟩
      · exact Or.inl c
      · obtain ⟨x, vx, e⟩ := A' o v
        have b1 := b x vx
        have := (T x vx).1
        dsimp only at b1 c
        exact Or.inr ⟨x, vx, by omega⟩
  · rintro ⟨a, b, c⟩
    refine ⟨a, fun o v => ?_, ?_⟩
    · obtain ⟨x, vx, e⟩ := A' o v
      have := b x vx
      show h o + d o + t o ≤ L
      omega
    · rcases c with c | ⟨o, v, c⟩
      · exact Or.inl c
      · obtain ⟨x, vx, e⟩ := A' o v
        have := b x vx
        have := (T o v).1
        refine Or.inr ⟨o, v, ?_⟩
        show h o + d o + t o = L
        omega
theorem lenQ_un {J : Int} {st mc du re ln q : Int → Int} {L L' : Int} (hW : WF J st mc du ln q) (hre : ∀ o, vOp st o → 0 ≤ re (o / 4)) (a : lenQ st mc du re ln q L) (b : lenQ st mc du re ln q L') : L = L' := by
  obtain ⟨h, H, a1, a2, a3⟩ := a
  obtain ⟨h', H', b1, b2, b3⟩ := b
  have e : ∀ o, vOp st o → h o = h' o := fun o v => head_unique (fun o v => (hW.2.2.1 o v).2.2.1) hre H H' v
  have x : L ≤ L' := by
    rcases a3 with z | ⟨o, v, z⟩
    · omega
    · have := b2 o v
      have := e o v
      omega
  have y : L' ≤ L := by
    rcases b3 with z | ⟨o, v, z⟩
    · omega
    · have := a2 o v
      have := e o v
      omega
  omega
def impI (E : Int → Int → Prop) (pr : Int → Prop) (p : Int → Int) (L0 k le ch : Int) : Prop := (∀ k', 0 ≤ k' → k' < k → pr k' → ∀ r, E (p k') r → le ≤ r) ∧ ((ch = -6 ∧ le = L0) ∨ ∃ k', 0 ≤ k' ∧ k' < k ∧ pr k' ∧ ch = p k' ∧ E (p k') le ∧ le < L0 ∧ ∀ k'', 0 ≤ k'' → k'' < k' → pr k'' → ∀ r, E (p k'') r → le < r)
theorem impI_0 {E : Int → Int → Prop} {pr : Int → Prop} {p : Int → Int} {L0 : Int} : impI E pr p L0 0 L0 (-6) := ⟨fun k' a b => by omega, Or.inl ⟨rfl, rfl⟩⟩
theorem impI_no {E : Int → Int → Prop} {pr : Int → Prop} {p : Int → Int} {L0 k le ch : Int} (h : impI E pr p L0 k le ch) (hn : pr k → ∀ r, E (p k) r → le ≤ r) : impI E pr p L0 (k + 1) le ch := by
  obtain ⟨h1, h2⟩ := h
  refine ⟨fun k' a b c r e => ?_, ?_⟩
  · by_cases z : k' = k
    · rw [z] at c e
      exact hn c r e
    · exact h1 k' a (by omega) c r e
  · rcases h2 with z | ⟨k', a, b, c, d, e, f, g⟩
    · exact Or.inl z
    · exact Or.inr ⟨k', a, by omega, c, d, e, f, g⟩
theorem impI_s {E : Int → Int → Prop} {pr : Int → Prop} {p : Int → Int} {L0 k le ch r : Int} (k0 : 0 ≤ k) (hE : ∀ o r r', E o r → E o r' → r = r') (h : impI E pr p L0 k le ch) (c : pr k) (e : E (p k) r) (lt : r < le) : impI E pr p L0 (k + 1) r (p k) := by
  obtain ⟨h1, h2⟩ := h
  have le0 : le ≤ L0 := by
    rcases h2 with z | ⟨k', a, b, c, d, e, f, g⟩ <;> omega
  refine ⟨fun k' a b c' r' e' => ?_, Or.inr ⟨k, k0, by omega, c, rfl, e, by omega, fun k' a b c' r' e' => ?_⟩⟩
  · by_cases z : k' = k
    · rw [z] at e'
      have := hE _ _ _ e e'
      omega
    · have := h1 k' a (by omega) c' r' e'
      omega
  · have := h1 k' a b c' r' e'
    omega
theorem impI_un {E : Int → Int → Prop} {pr : Int → Prop} {p : Int → Int} {L0 k le ch le' ch' : Int} (h : impI E pr p L0 k le ch) (h' : impI E pr p L0 k le' ch') : le = le' ∧ ch = ch' := by
  obtain ⟨h1, h2⟩ := h
  obtain ⟨h1', h2'⟩ := h'
  rcases h2 with z | ⟨x, a, b, c, d, e, f, g⟩ <;> rcases h2' with z' | ⟨x', a', b', c', d', e', f', g'⟩
  · omega
  · have := h1 x' a' b' c' _ e'
    omega
  · have := h1' x a b c _ e
    omega
  · have u1 := h1 x' a' b' c' _ e'
    have u2 := h1' x a b c _ e
    have el : le = le' := by omega
    refine ⟨el, ?_⟩
    rcases (show x < x' ∨ x = x' ∨ x' < x by omega) with w | w | w
    · have := g' x a w c _ e
      omega
    · rw [d, d', w]
    · have := g x' a' w c' _ e'
      omega
theorem impI_cg {E E' : Int → Int → Prop} {pr pr' : Int → Prop} {p p' : Int → Int} {L0 n k le ch : Int} (hk : k ≤ n) (hp : ∀ k, 0 ≤ k → k < n → p' k = p k) (hpr : ∀ k, 0 ≤ k → k < n → (pr k ↔ pr' k)) (hE : ∀ k r, 0 ≤ k → k < n → pr k → (E (p k) r ↔ E' (p k) r)) (h : impI E pr p L0 k le ch) : impI E' pr' p' L0 k le ch := by
  obtain ⟨h1, h2⟩ := h
  refine ⟨fun k' a b c r e => ?_, ?_⟩
  · have c' := (hpr k' a (by omega)).mpr c
    rw [hp k' a (by omega)] at e
    exact h1 k' a b c' r ((hE k' r a (by omega) c').mpr e)
  · rcases h2 with z | ⟨k', a, b, c, d, e, f, g⟩
    · exact Or.inl z
    · refine Or.inr ⟨k', a, b, (hpr k' a (by omega)).mp c, by rw [hp k' a (by omega)]; exact d, by rw [hp k' a (by omega)]; exact (hE k' le a (by omega) c).mp e, f, fun k'' a' b' c' r e' => ?_⟩
      have c2 := (hpr k'' a' (by omega)).mpr c'
      rw [hp k'' a' (by omega)] at e'
      exact g k'' a' b' c2 r ((hE k'' r a' (by omega) c2).mpr e')
/-- the length with o and the next one on its machine exchanged -/
def exL (st mc du re ln q : Int → Int) (o r : Int) : Prop := lenQ st mc du re ln (exQ q (4 * mc o + plo mc ln q o)) r
/-- two that follow on the path on one machine follow in its order -/
theorem path_nx {J : Int} {st mc re du ln q h t : Int → Int} {L : Int} {p : Int → Int} {n c k : Int} (hW : WF J st mc du ln q) (hP : PTi st mc re du ln q h t L p n c) (k0 : 0 ≤ k) (k1 : k + 1 < n) (hm : mc (p k) = mc (p (k + 1))) : vOp st (p k) ∧ plo mc ln q (p k) + 1 < ln (mc (p k)) := by
  have hv := (PTi_v hW hP).1
  have v := hv k k0 (by omega)
  have v' := hv (k + 1) (by omega) k1
  refine ⟨v, ?_⟩
  have l := (hP.2.2.2.1 k k0 k1)
  rcases l.1 with ⟨a, e⟩ | ⟨-, a, e⟩ | ⟨-, -, e⟩
  · exfalso
    rw [e] at hm v'
    have v2 := v'.2.2
    have v0 := v.2.2
    have a1 := a.1
    have s4 := (hW.2.1 (p k / 4) (vOp_j v).1 (vOp_j v).2.1).2.1
    have hj : p k / 4 = (p k + 1) / 4 := by omega
    have := hW.2.2.2.1 _ _ v v' hj hm
    omega
  · have a1 := l.2
    rw [e] at a1
    unfold oqN at a1
    split at a1
    · rename_i c
      omega
    · omega
  · have := l.2
    omega
