/-! the critical path -/
def Crt (du h t : Int → Int) (L o : Int) : Prop := h o + du o + t o = L
def isF1 (st re du h t : Int → Int) (L x r : Int) : Prop := (r = -6 ∧ ∀ o, vOp st o → o < x → ¬ (Crt du h t L o ∧ h o = re (o / 4))) ∨ (vOp st r ∧ r < x ∧ Crt du h t L r ∧ h r = re (r / 4) ∧ ∀ o, vOp st o → o < r → ¬ (Crt du h t L o ∧ h o = re (o / 4)))
/-- the same, from x on -/
def isF2 (st re du h t : Int → Int) (L x r : Int) : Prop := (r = -6 ∧ ∀ o, vOp st o → x ≤ o → ¬ (Crt du h t L o ∧ h o = re (o / 4))) ∨ (vOp st r ∧ x ≤ r ∧ Crt du h t L r ∧ h r = re (r / 4) ∧ ∀ o, vOp st o → x ≤ o → o < r → ¬ (Crt du h t L o ∧ h o = re (o / 4)))
/-- of two behind o: the one on the route, or the one in the order -/
def rtN (st du h t : Int → Int) (L o : Int) : Prop := o % 4 + 1 < st (o / 4) ∧ Crt du h t L (o + 1) ∧ h (o + 1) = h o + du o
/-- the operation behind o in the order, none: -6 -/
def oqN (st mc ln q : Int → Int) (o : Int) : Int := if plo mc ln q o + 1 < ln (mc o) then oq st mc q (mc o) (plo mc ln q o + 1) else -6
def odN (st mc du ln q h t : Int → Int) (L o : Int) : Prop := 0 ≤ oqN st mc ln q o ∧ Crt du h t L (oqN st mc ln q o) ∧ h (oqN st mc ln q o) = h o + du o
def isN (st mc du ln q h t : Int → Int) (L o r : Int) : Prop := (rtN st du h t L o ∧ r = o + 1) ∨ (¬ rtN st du h t L o ∧ odN st mc du ln q h t L o ∧ r = oqN st mc ln q o) ∨ (¬ rtN st du h t L o ∧ ¬ odN st mc du ln q h t L o ∧ r = -6)
theorem isN_un {st mc du ln q h t : Int → Int} {L o r r' : Int} (a : isN st mc du ln q h t L o r) (b : isN st mc du ln q h t L o r') : r = r' := by
  rcases a with ⟨a1, a2⟩ | ⟨a1, a2, a3⟩ | ⟨a1, a2, a3⟩ <;> rcases b with ⟨b1, b2⟩ | ⟨b1, b2, b3⟩ | ⟨b1, b2, b3⟩
  · omega
  · exact absurd a1 b1
  · exact absurd a1 b1
  · exact absurd b1 a1
  · omega
  · exact absurd a2 b2
  · exact absurd b1 a1
  · exact absurd b2 a2
  · omega
theorem isF1_un {st re du h t : Int → Int} {L r r' : Int} (a : isF1 st re du h t L 16 r) (b : isF1 st re du h t L 16 r') : r = r' := by
  rcases a with ⟨a1, a2⟩ | ⟨a1, a2, a3, a4, a5⟩ <;> rcases b with ⟨b1, b2⟩ | ⟨b1, b2, b3, b4, b5⟩
  · omega
  · exact absurd ⟨b3, b4⟩ (a2 r' b1 b2)
  · exact absurd ⟨a3, a4⟩ (b2 r a1 a2)
  · rcases (show r < r' ∨ r = r' ∨ r' < r by omega) with c | c | c
    · exact absurd ⟨a3, a4⟩ (b5 r a1 c)
    · exact c
    · exact absurd ⟨b3, b4⟩ (a5 r' b1 c)
/-- n places of the path are laid; the next operation is c -/
def PTi (st mc re du ln q h t : Int → Int) (L : Int) (p : Int → Int) (n c : Int) : Prop := 0 ≤ n ∧ (n = 0 → isF1 st re du h t L 16 c) ∧ (0 < n → isF1 st re du h t L 16 (p 0) ∧ 0 ≤ p 0) ∧ (∀ k, 0 ≤ k → k + 1 < n → isN st mc du ln q h t L (p k) (p (k + 1)) ∧ 0 ≤ p (k + 1)) ∧ (0 < n → isN st mc du ln q h t L (p (n - 1)) c)
/-- the path: its operations, how many -/
def PT (st mc re du ln q h t : Int → Int) (L : Int) (p : Int → Int) (n : Int) : Prop := PTi st mc re du ln q h t L p n (-6)
theorem PT_un {st mc re du ln q h t : Int → Int} {L : Int} {p p' : Int → Int} {n n' : Int} (a : PT st mc re du ln q h t L p n) (b : PT st mc re du ln q h t L p' n') : n = n' ∧ ∀ k, 0 ≤ k → k < n → p k = p' k := by
  obtain ⟨a1, a2, a3, a4, a5⟩ := a
  obtain ⟨b1, b2, b3, b4, b5⟩ := b
  have key : ∀ k : Nat, (k : Int) < n → (k : Int) < n' → p k = p' k := by
    intro k
    induction k with
    | zero =>
      intro x y
      exact isF1_un (a3 (by omega)).1 (b3 (by omega)).1
    | succ k ih =>
      intro x y
      have e := ih (by omega) (by omega)
      have u := (a4 k (by omega) (by omega)).1
      have w := (b4 k (by omega) (by omega)).1
      rw [e] at u
      exact isN_un u w
  have hn : n = n' := by
    rcases (show n < n' ∨ n = n' ∨ n' < n by omega) with c | c | c
    · exfalso
      by_cases z : n = 0
      · have u := isF1_un (a2 z) (b3 (by omega)).1
        have := (b3 (by omega)).2
        omega
      · have e := key (n - 1).toNat (by omega) (by omega)
        rw [Int.toNat_of_nonneg (by omega)] at e
        have u := a5 (by omega)
        rw [e] at u
        have w := b4 (n - 1) (by omega) (by omega)
        have := isN_un u w.1
        omega
    · exact c
    · exfalso
      by_cases z : n' = 0
      · have u := isF1_un (b2 z) (a3 (by omega)).1
        have := (a3 (by omega)).2
        omega
      · have e := key (n' - 1).toNat (by omega) (by omega)
        rw [Int.toNat_of_nonneg (by omega)] at e
        have u := b5 (by omega)
        rw [← e] at u
        have w := a4 (n' - 1) (by omega) (by omega)
        have := isN_un u w.1
        omega
  refine ⟨hn, fun k k0 k1 => ?_⟩
  have := key k.toNat (by omega) (by omega)
  rw [Int.toNat_of_nonneg k0] at this
  exact this
theorem isF1_v {st re du h t : Int → Int} {L x r : Int} (a : isF1 st re du h t L x r) (h0 : 0 ≤ r) : vOp st r := by
  rcases a with ⟨a1, -⟩ | ⟨a1, -⟩
  · omega
  · exact a1
theorem oqN_v {J : Int} {st mc du ln q : Int → Int} (hW : WF J st mc du ln q) {o : Int} (v : vOp st o) (h : 0 ≤ oqN st mc ln q o) : vOp st (oqN st mc ln q o) ∧ mc (oqN st mc ln q o) = mc o ∧ plo mc ln q (oqN st mc ln q o) = plo mc ln q o + 1 := by
  obtain ⟨m0, m1, -⟩ := hW.2.2.1 o v
  have hp := plo_of hW v
  unfold oqN at h ⊢
  split
  · rename_i c
    have := oq_v hW m0 m1 (show 0 ≤ plo mc ln q o + 1 by omega) c
    exact ⟨this.1, this.2.1, plo_oq hW m0 m1 (by omega) c⟩
  · rename_i c
    rw [if_neg c] at h
    omega
theorem rt_v {J : Int} {st mc du ln q : Int → Int} (hW : WF J st mc du ln q) {o : Int} (v : vOp st o) (h : o % 4 + 1 < st (o / 4)) : vOp st (o + 1) := by
  have v0 := v.1
  have v1 := v.2.1
  have hj := vOp_j v
  have := hW.2.1 (o / 4) hj.1 hj.2.1
  refine ⟨by omega, by omega, ?_⟩
  rw [show (o + 1) / 4 = o / 4 by omega]
  omega
theorem isN_v {J : Int} {st mc du ln q h t : Int → Int} {L o r : Int} (hW : WF J st mc du ln q) (v : vOp st o) (a : isN st mc du ln q h t L o r) (h0 : 0 ≤ r) : vOp st r ∧ h r = h o + du o := by
  rcases a with ⟨a1, rfl⟩ | ⟨-, a2, rfl⟩ | ⟨-, -, a3⟩
  · exact ⟨rt_v hW v a1.1, a1.2.2⟩
  · exact ⟨(oqN_v hW v a2.1).1, a2.2.2⟩
  · omega
/-- how many operations have no greater head -/
noncomputable def hcn (st h : Int → Int) (x : Int) : Int := sm (fun o => b2i (vOp st o ∧ h o ≤ h x)) 16
theorem hcn_r (st h : Int → Int) (x : Int) : 0 ≤ hcn st h x ∧ hcn st h x ≤ 16 := by
  have := sm_r (f := fun o => b2i (vOp st o ∧ h o ≤ h x)) (b := 1) (fun i => b2i_r _) 16
  unfold hcn
  omega
theorem hcn_s {st h : Int → Int} {x y : Int} (vy : vOp st y) (hlt : h x < h y) : hcn st h x + 1 ≤ hcn st h y := by
  refine sm_lt 16 (fun i _ => b2i_le (fun q => ⟨q.1, by omega⟩)) ⟨y.toNat, by have := vy.1; have := vy.2.1; omega, ?_⟩
  have e : ((y.toNat : Nat) : Int) = y := Int.toNat_of_nonneg vy.1
  rw [e, b2i_0 (by omega), b2i_1 ⟨vy, by omega⟩]
  omega
theorem hcn_1 {st h : Int → Int} {x : Int} (v : vOp st x) : 1 ≤ hcn st h x := by
  have := sm_lt (f := fun _ => 0) (g := fun o => b2i (vOp st o ∧ h o ≤ h x)) 16 (fun i _ => (b2i_r _).1) ⟨x.toNat, by have := v.1; have := v.2.1; omega, by
    have e : ((x.toNat : Nat) : Int) = x := Int.toNat_of_nonneg v.1
    simp only [e, b2i_1 (show vOp st x ∧ h x ≤ h x from ⟨v, Int.le_refl _⟩)]
    omega⟩
  have z : sm (fun _ => (0 : Int)) 16 = 0 := rfl
  unfold hcn
  omega
theorem PTi_0 {st mc re du ln q h t : Int → Int} {L : Int} {p : Int → Int} {c : Int} (a : isF1 st re du h t L 16 c) : PTi st mc re du ln q h t L p 0 c := ⟨Int.le_refl _, fun _ => a, fun z => by omega, fun k a b => by omega, fun z => by omega⟩
theorem PTi_s {st mc re du ln q h t : Int → Int} {L : Int} {p p' : Int → Int} {n c c' : Int} (a : PTi st mc re du ln q h t L p n c) (c0 : 0 ≤ c) (hp : ∀ k, 0 ≤ k → k < n → p' k = p k) (hn : p' n = c) (hc : isN st mc du ln q h t L c c') : PTi st mc re du ln q h t L p' (n + 1) c' := by
  obtain ⟨a1, a2, a3, a4, a5⟩ := a
  refine ⟨by omega, fun z => by omega, fun _ => ?_, fun k k0 k1 => ?_, fun _ => ?_⟩
  · by_cases z : n = 0
    · subst z
      rw [hn]
      exact ⟨a2 rfl, c0⟩
    · rw [hp 0 (by omega) (by omega)]
      exact a3 (by omega)
  · by_cases z : k + 1 = n
    · rw [hp k k0 (by omega), z, hn]
      have := a5 (by omega)
      rw [show n - 1 = k by omega] at this
      exact ⟨this, c0⟩
    · rw [hp k k0 (by omega), hp (k + 1) (by omega) (by omega)]
      exact a4 k k0 (by omega)
  · rw [show n + 1 - 1 = n by omega, hn]
    exact hc
/-- all of the path are operations; the way is not long -/
theorem PTi_v {J : Int} {st mc re du ln q h t : Int → Int} {L : Int} {p : Int → Int} {n c : Int} (hW : WF J st mc du ln q) (a : PTi st mc re du ln q h t L p n c) : (∀ k, 0 ≤ k → k < n → vOp st (p k)) ∧ (0 ≤ c → vOp st c ∧ n ≤ 15) ∧ n ≤ 16 := by
  obtain ⟨a1, a2, a3, a4, a5⟩ := a
  have key : ∀ k : Nat, (k : Int) < n → vOp st (p k) ∧ (k : Int) + 1 ≤ hcn st h (p k) := by
    intro k
    induction k with
    | zero =>
      intro x
      have v := isF1_v (a3 (by omega)).1 (a3 (by omega)).2
      exact ⟨v, hcn_1 (h := h) v⟩
    | succ k ih =>
      intro x
      obtain ⟨v, b⟩ := ih (by omega)
      have u := a4 k (by omega) (by omega)
      have w := isN_v hW v u.1 u.2
      have hd := (hW.2.2.1 _ v).2.2.1
      have := hcn_s (h := h) (x := p k) w.1 (by omega)
      have e : ((k + 1 : Nat) : Int) = (k : Int) + 1 := by omega
      rw [e]
      exact ⟨w.1, by omega⟩
  refine ⟨fun k k0 k1 => ?_, fun c0 => ?_, ?_⟩
  · have := (key k.toNat (by omega)).1
    rw [Int.toNat_of_nonneg k0] at this
    exact this
  · by_cases z : n = 0
    · exact ⟨isF1_v (a2 z) c0, by omega⟩
    · have k1 := key (n - 1).toNat (by omega)
      rw [Int.toNat_of_nonneg (by omega)] at k1
      have w := isN_v hW k1.1 (a5 (by omega)) c0
      have hd := (hW.2.2.1 _ k1.1).2.2.1
      have := hcn_s (h := h) (x := p (n - 1)) w.1 (by omega)
      have := (hcn_r st h c).2
      exact ⟨w.1, by omega⟩
  · by_cases z : n = 0
    · omega
    · have k1 := key (n - 1).toNat (by omega)
      have := (hcn_r st h (p ((n - 1).toNat : Nat))).2
      omega
theorem isF2_1 {st re du h t : Int → Int} {L r : Int} (a : isF2 st re du h t L 0 r) : isF1 st re du h t L 16 r := by
  rcases a with ⟨a1, a2⟩ | ⟨a1, a2, a3, a4, a5⟩
  · exact Or.inl ⟨a1, fun o v _ => a2 o v v.1⟩
  · exact Or.inr ⟨a1, a1.2.1, a3, a4, fun o v q => a5 o v v.1 q⟩
theorem isF2_0 {st re du h t : Int → Int} {L : Int} : isF2 st re du h t L 16 (-6) := Or.inl ⟨rfl, fun o v q => by have := v.2.1; omega⟩
theorem isF2_s {st re du h t : Int → Int} {L x r : Int} (a : isF2 st re du h t L (x + 1) r) (hx : vOp st x ∧ Crt du h t L x ∧ h x = re (x / 4)) : isF2 st re du h t L x x := Or.inr ⟨hx.1, Int.le_refl _, hx.2.1, hx.2.2, fun o v q q2 => by omega⟩
theorem isF2_n {st re du h t : Int → Int} {L x r : Int} (a : isF2 st re du h t L (x + 1) r) (hx : ¬ (vOp st x ∧ Crt du h t L x ∧ h x = re (x / 4))) : isF2 st re du h t L x r := by
  rcases a with ⟨a1, a2⟩ | ⟨a1, a2, a3, a4, a5⟩
  · refine Or.inl ⟨a1, fun o v q => ?_⟩
    by_cases c : o = x
    · subst c
      exact fun z => hx ⟨v, z⟩
    · exact a2 o v (by omega)
  · refine Or.inr ⟨a1, by omega, a3, a4, fun o v q q2 => ?_⟩
    by_cases c : o = x
    · subst c
      exact fun z => hx ⟨v, z⟩
    · exact a5 o v (by omega) q2
theorem isF1_0 {st re du h t : Int → Int} {L : Int} {x : Int} (a : ∀ o, vOp st o → o < x → ¬ (Crt du h t L o ∧ h o = re (o / 4))) : isF1 st re du h t L x (-6) := Or.inl ⟨rfl, a⟩
theorem plF_first {f : Int → Int} {b n j k : Int} (h0 : 0 ≤ k) (h1 : k < n) (h2 : n ≤ 4) (hf : f (b + k) = j) (hi : ∀ k', 0 ≤ k' → k' < k → f (b + k') ≠ j) : plF f b n j = k := by
  unfold plF
  have hb : f (b + 0) = f b := by rw [Int.add_zero]
  rcases (show k = 0 ∨ k = 1 ∨ k = 2 ∨ k = 3 by omega) with rfl | rfl | rfl | rfl
  · rw [hb] at hf
    rw [if_pos ⟨by omega, hf⟩]
  · rw [if_neg (fun c => hi 0 (by omega) (by omega) (by rw [hb]; exact c.2)), if_pos ⟨by omega, hf⟩]
  · rw [if_neg (fun c => hi 0 (by omega) (by omega) (by rw [hb]; exact c.2)), if_neg (fun c => hi 1 (by omega) (by omega) c.2), if_pos ⟨by omega, hf⟩]
  · rw [if_neg (fun c => hi 0 (by omega) (by omega) (by rw [hb]; exact c.2)), if_neg (fun c => hi 1 (by omega) (by omega) c.2), if_neg (fun c => hi 2 (by omega) (by omega) c.2), if_pos ⟨by omega, hf⟩]
/-- the reference looks for the place in all four -/
theorem rPl_4 {σ : Mem} (h : rWF σ) {o : Int} (v : rOp σ o) : plF (fun y => σ 38 0 (49 + y)) (4 * σ 38 0 (13 + 2 * o)) 4 (o / 4) = rPl σ o := by
  obtain ⟨m0, m1, -⟩ := rWF_op h v
  have hp := rPl_of h v
  obtain ⟨k, k0, k1, e⟩ := h.1.2.2.2.2.2.2.2 o v
  have hl := (h.1.2.2.2.2.1 _ m0 m1).2
  have hinj := h.1.2.2.2.2.2.2.1 (rMc σ o)
  have e1 : plF (fun y => σ 38 0 (49 + y)) (4 * σ 38 0 (13 + 2 * o)) 4 (o / 4) = k := plF_first k0 (by omega) (by omega) e (fun k' q0 q1 q2 => by
    have := hinj k' k m0 m1 q0 (by omega) k0 k1 (by rw [e]; exact q2)
    omega)
  have e2 : rPl σ o = k := plF_is k0 k1 hl e (fun k' q0 q1 q2 => hinj k' k m0 m1 q0 q1 k0 k1 (by rw [e]; exact q2))
  rw [e1, e2]
/-- the place of an operation on the path -/
def PoP (p : Int → Int) (n o r : Int) : Prop := (r = -6 ∧ ∀ k, 0 ≤ k → k < n → p k ≠ o) ∨ (0 ≤ r ∧ r < n ∧ p r = o ∧ ∀ k, 0 ≤ k → k < r → p k ≠ o)
theorem PoP_un {p p' : Int → Int} {n o r r' : Int} (a : PoP p n o r) (b : PoP p' n o r') (h : ∀ k, 0 ≤ k → k < n → p k = p' k) : r = r' := by
  rcases a with ⟨a1, a2⟩ | ⟨a1, a2, a3, a4⟩ <;> rcases b with ⟨b1, b2⟩ | ⟨b1, b2, b3, b4⟩
  · omega
  · exact absurd (by rw [h r' b1 b2]; exact b3) (a2 r' b1 b2)
  · exact absurd (by rw [← h r a1 a2]; exact a3) (b2 r a1 a2)
  · rcases (show r < r' ∨ r = r' ∨ r' < r by omega) with c | c | c
    · exact absurd (by rw [← h r a1 a2]; exact a3) (b4 r a1 c)
    · exact c
    · exact absurd (by rw [h r' b1 b2]; exact b3) (a4 r' b1 c)
/-- how many blocks -/
noncomputable def blk (mc p : Int → Int) (k : Int) : Int := b2i (k = 0 ∨ mc (p k) ≠ mc (p (k - 1)))
theorem blk_cg {mc mc' p p' : Int → Int} : ∀ n : Nat, (∀ k : Int, 0 ≤ k → k < (n : Int) → p k = p' k) → (∀ k : Int, 0 ≤ k → k < (n : Int) → mc (p k) = mc' (p k)) → sm (blk mc p) n = sm (blk mc' p') n := by
  intro n
  induction n with
  | zero => intro _ _; rfl
  | succ n ih =>
    intro h1 h2
    show sm (blk mc p) n + blk mc p n = sm (blk mc' p') n + blk mc' p' n
    rw [ih (fun k a b => h1 k a (by omega)) (fun k a b => h2 k a (by omega))]
    congr 1
    unfold blk
    congr 1
    by_cases c : (n : Int) = 0
    · simp [c]
    · rw [h2 n (by omega) (by omega), h2 (n - 1) (by omega) (by omega), h1 n (by omega) (by omega), h1 (n - 1) (by omega) (by omega)]
/-! the reference's critical path -/
theorem LE_un {σ : Mem} {r r' : Int} (a : LE σ 16 r) (b : LE σ 16 r') : r = r' := by
  have h1 : r ≤ r' := by
    rcases a.2.2.2 with c | ⟨o, v, q, e⟩
    · have := b.1
      omega
    · have := b.2.2.1 o v q
      omega
  have h2 : r' ≤ r := by
    rcases b.2.2.2 with c | ⟨o, v, q, e⟩
    · have := a.1
      omega
    · have := a.2.2.1 o v q
      omega
  omega
/-- heads and tails are numbers that are not great -/
def rBd (σ : Mem) : Prop := rWF σ ∧ ∀ o, rOp σ o → 0 ≤ σ 45 0 o ∧ σ 45 0 o ≤ 10000 ∧ 0 ≤ σ 46 0 o ∧ σ 46 0 o ≤ 12000
theorem LE_ex {σ : Mem} (h : rBd σ) : ∃ L, LE σ 16 L := by
  have key : ∀ n : Nat, ∃ L, LE σ n L := by
    intro n
    induction n with
    | zero => exact ⟨0, LE_0⟩
    | succ n ih =>
      obtain ⟨L, hL⟩ := ih
      have e : ((n + 1 : Nat) : Int) = (n : Int) + 1 := by omega
      rw [e]
      by_cases v : rOp σ n
      · have hb := h.2 n v
        have hd := (rWF_op h.1 v).2.2
        exact ⟨_, LE_s hL v ⟨hb.1, hb.2.1⟩ ⟨hd.1, hd.2.1⟩⟩
      · exact ⟨L, LE_n hL v⟩
  exact key 16
def rPT (σ : Mem) (L : Int) (p : Int → Int) (n c : Int) : Prop := PTi (rSt σ) (rMc σ) (rRe σ) (rDu σ) (rLn σ) (rQ σ) (σ 45 0) (σ 46 0) L p n c
theorem oqN_A {σ : Mem} (h : rWF σ) {o : Int} (v : rOp σ o) : oA σ (rMc σ o) (rPl σ o + 1) = oqN (rSt σ) (rMc σ) (rLn σ) (rQ σ) o := by
  have hp := rPl_of h v
  unfold oA oqN
  have : rPl σ o = plo (rMc σ) (rLn σ) (rQ σ) o := rfl
  rw [← this]
  by_cases c : rPl σ o + 1 < rLn σ (rMc σ o)
  · rw [if_pos ⟨by omega, c⟩, if_pos c]
  · rw [if_neg (fun q => c q.2), if_neg c]
def pCr (t a : Nat) (x : Int) : Prop := (t = 47 ∧ a = 0) ∨ (t = 7 ∧ a = 0 ∧ x = 12)
/-- findCritical: the way so far -/
def FCi (σ σ' : Mem) (L c : Int) : Prop := FrG pCr σ σ' ∧ rPT σ L (σ' 47 0) (σ' 7 0 12) c
theorem FCi_0 {σ σ' : Mem} {L c : Int} (hF : FrG pCr σ σ') (h0 : σ' 7 0 12 = 0) (h : isF2 (rSt σ) (rRe σ) (rDu σ) (σ 45 0) (σ 46 0) L 0 c) : FCi σ σ' L c := by
  refine ⟨hF, ?_⟩
  unfold rPT
  rw [h0]
  exact PTi_0 (isF2_1 h)
/-- the same routes, orders, heads and tails -/
def smR (σ σ' : Mem) : Prop := σ' 38 0 = σ 38 0 ∧ σ' 45 0 = σ 45 0 ∧ σ' 46 0 = σ 46 0
theorem smR.o {σ σ' : Mem} (h : smR σ σ') : rOp σ' = rOp σ ∧ rDu σ' = rDu σ ∧ (rBd σ' ↔ rBd σ) ∧ ∀ x L, LE σ' x L ↔ LE σ x L := by
  obtain ⟨a, b, c⟩ := h
  have R := r38 a
  have e : rOp σ' = rOp σ := by
    unfold rOp
    rw [R.1]
  refine ⟨e, R.2.2.1, ?_, fun x L => ?_⟩
  · unfold rBd
    rw [e, b, c, R.2.2.2.2.2.2.2.1]
  · unfold LE
    rw [e, b, R.2.2.1]
theorem pCr_sm {σ σ' : Mem} (h : FrG pCr σ σ') : smR σ σ' := ⟨h.f 38 0 (by rintro x (⟨q, -⟩ | ⟨q, -⟩) <;> omega), h.f 45 0 (by rintro x (⟨q, -⟩ | ⟨q, -⟩) <;> omega), h.f 46 0 (by rintro x (⟨q, -⟩ | ⟨q, -⟩) <;> omega)⟩
def gC (σ : Mem) (L x b : Int) : Prop := 0 ≤ b ∧ Crt (rDu σ) (σ 45 0) (σ 46 0) L b ∧ σ 45 0 b = σ 45 0 x + rDu σ x
theorem gC_cg {σ σ' : Mem} (h : smR σ σ') (L x b : Int) : gC σ' L x b ↔ gC σ L x b := by
  unfold gC
  rw [h.o.2.1, h.2.1, h.2.2]
theorem FCi_s {σ σ' : Mem} {L c c' : Int} (h : FCi σ σ' L c) (c0 : 0 ≤ c) (hn : isN (rSt σ) (rMc σ) (rDu σ) (rLn σ) (rQ σ) (σ 45 0) (σ 46 0) L c c') : FCi σ (up (up σ' 47 0 (σ' 7 0 12) c) 7 0 12 (σ' 7 0 12 + 1)) L c' := by
  refine ⟨(h.1.u (Or.inl ⟨rfl, rfl⟩)).u (Or.inr ⟨rfl, rfl, rfl⟩), ?_⟩
  have e : (up (up σ' 47 0 (σ' 7 0 12) c) 7 0 12 (σ' 7 0 12 + 1)) 7 0 12 = σ' 7 0 12 + 1 := by rw [up_ap, if_pos ⟨rfl, rfl, rfl⟩]
  unfold rPT
  rw [e]
  refine PTi_s h.2 c0 (fun k k0 k1 => ?_) ?_ hn
  · rw [up_ap, if_neg (by rintro ⟨q, -⟩; omega), up_ap, if_neg (by rintro ⟨-, -, q⟩; omega)]
  · rw [up_ap, if_neg (by rintro ⟨q, -⟩; omega), up_ap, if_pos ⟨rfl, rfl, rfl⟩]
