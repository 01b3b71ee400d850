/-- boundOf's time -/
def RBI (σ σ' : Mem) (m op g t : Int) : Prop := FrG p53 σ σ' ∧ 0 ≤ t ∧ JR (je σ m) (jp σ m) (jr σ m) (jq σ m) t.toNat (jl σ σ' m) g ∧ op = b2i (0 < jl σ σ' m 0) + b2i (0 < jl σ σ' m 1) + b2i (0 < jl σ σ' m 2) + b2i (0 < jl σ σ' m 3) ∧ t + (jl σ σ' m 0 + jl σ σ' m 1 + jl σ σ' m 2 + jl σ σ' m 3) ≤ 210 ∧ 0 ≤ g ∧ g ≤ 400
theorem jp_r {σ : Mem} (hw : rWF σ) {m k : Int} (k0 : 0 ≤ k) (k1 : k < 4) (h : je σ m k) : 1 ≤ jp σ m k ∧ jp σ m k ≤ 20 ∧ 0 ≤ jr σ m k ∧ jr σ m k ≤ 130 ∧ 0 ≤ jq σ m k ∧ jq σ m k ≤ 80 := by
  rcases oj_v hw (m := m) k0 k1 with ⟨a, -⟩ | ⟨a, b, c, d⟩
  · unfold je at h
    omega
  · have x := rWF_op hw b
    have y := rhA_r hw b
    exact ⟨x.2.2.1, x.2.2.2.1, y.1, y.2.1, y.2.2.1, y.2.2.2⟩
theorem RBI_l {σ σ' : Mem} (hw : rWF σ) {m op g t : Int} (h : RBI σ σ' m op g t) {k : Int} (k0 : 0 ≤ k) (k1 : k < 4) : 0 ≤ jl σ σ' m k ∧ jl σ σ' m k ≤ 20 ∧ (0 < jl σ σ' m k → je σ m k) := by
  have hn := (JR_nn (fun k a b c => by have := jp_r hw a b c; omega) h.2.2.1).1 k k0 k1
  by_cases c : je σ m k
  · have := jp_r hw k0 k1 c
    have := hn.2.1 c
    exact ⟨hn.1, by omega, fun _ => c⟩
  · have := hn.2.2.1 c
    exact ⟨hn.1, by omega, fun z => by omega⟩
theorem RBI_0 {σ σ' : Mem} (hw : rWF σ) {m : Int} (m0 : 0 ≤ m) (m1 : m < 4) (hF : FrG p53 σ σ') (h : ∀ o, 0 ≤ o → o < 16 → (rOp σ o → σ' 53 0 o = rDu σ o) ∧ (¬ rOp σ o → σ' 53 0 o = 0)) : RBI σ σ' m (rLn σ m) 0 0 := by
  have hl : ∀ k, 0 ≤ k → k < 4 → (je σ m k → jl σ σ' m k = jp σ m k) ∧ (¬ je σ m k → jl σ σ' m k = 0) := fun k k0 k1 => by
    refine ⟨fun z => ?_, fun z => if_neg z⟩
    rcases oj_v hw (m := m) k0 k1 with ⟨a, -⟩ | ⟨a, b, c, d⟩
    · unfold je at z
      omega
    · unfold jl
      rw [if_pos a]
      exact (h _ b.1 b.2.1).1 b
  have hb : ∀ k, 0 ≤ k → k < 4 → b2i (0 < jl σ σ' m k) = b2i (je σ m k) ∧ jl σ σ' m k ≤ 20 := fun k k0 k1 => by
    by_cases z : je σ m k
    · have := jp_r hw k0 k1 z
      rw [(hl k k0 k1).1 z, b2i_1 z, b2i_1 (by omega)]
      exact ⟨rfl, by omega⟩
    · rw [(hl k k0 k1).2 z, b2i_0 z, b2i_0 (by omega)]
      exact ⟨rfl, by omega⟩
  have b0 := hb 0 (by omega) (by omega)
  have b1 := hb 1 (by omega) (by omega)
  have b2 := hb 2 (by omega) (by omega)
  have b3 := hb 3 (by omega) (by omega)
  refine ⟨hF, by omega, ⟨hl, rfl⟩, ?_, by omega, by omega, by omega⟩
  rw [b0.1, b1.1, b2.1, b3.1, je_ct hw m0 m1]
theorem RBI_end {σ σ' : Mem} (hw : rWF σ) {m op g t : Int} (h : RBI σ σ' m op g t) (ho : op ≤ 0) : JB (je σ m) (jp σ m) (jr σ m) (jq σ m) g := by
  refine ⟨t.toNat, jl σ σ' m, h.2.2.1, fun k k0 k1 => ?_⟩
  have hc := h.2.2.2.1
  have r := fun k => b2i_r (0 < jl σ σ' m k)
  have r0 := r 0
  have r1 := r 1
  have r2 := r 2
  have r3 := r 3
  rcases Int.lt_or_le 0 (jl σ σ' m k) with z | z
  · have := b2i_1 z
    rcases (show k = 0 ∨ k = 1 ∨ k = 2 ∨ k = 3 by omega) with e | e | e | e <;> rw [e] at this <;> omega
  · exact z
theorem RBI_t {σ σ' : Mem} (hw : rWF σ) {m op g t : Int} (h : RBI σ σ' m op g t) (ho : ¬ op ≤ 0) : t < 210 ∧ op ≤ 4 ∧ ∃ k, 0 ≤ k ∧ k < 4 ∧ 0 < jl σ σ' m k := by
  have hc := h.2.2.2.1
  have ht := h.2.2.2.2.1
  have l := fun k a b => RBI_l hw h (k := k) a b
  have l0 := l 0 (by omega) (by omega)
  have l1 := l 1 (by omega) (by omega)
  have l2 := l 2 (by omega) (by omega)
  have l3 := l 3 (by omega) (by omega)
  have r := fun k => b2i_r (0 < jl σ σ' m k)
  have r0 := r 0
  have r1 := r 1
  have r2 := r 2
  have r3 := r 3
  have key : ∃ k, 0 ≤ k ∧ k < 4 ∧ 0 < jl σ σ' m k := by
    refine Classical.byContradiction (fun z => ?_)
    have z0 := b2i_0 (fun y => z ⟨0, by omega, by omega, y⟩)
    have z1 := b2i_0 (fun y => z ⟨1, by omega, by omega, y⟩)
    have z2 := b2i_0 (fun y => z ⟨2, by omega, by omega, y⟩)
    have z3 := b2i_0 (fun y => z ⟨3, by omega, by omega, y⟩)
    omega
  obtain ⟨k, k0, k1, k2⟩ := key
  refine ⟨?_, by omega, k, k0, k1, k2⟩
  rcases (show k = 0 ∨ k = 1 ∨ k = 2 ∨ k = 3 by omega) with rfl | rfl | rfl | rfl <;> omega
theorem RBI_i {σ σ' : Mem} (hw : rWF σ) {m op g t r : Int} (h : RBI σ σ' m op g t) (ho : ¬ op ≤ 0) (hk : WkI σ' m t 16 r) (hr : r < 0) : RBI σ σ' m op g (t + 1) := by
  obtain ⟨k, k0, k1, k2⟩ := (RBI_t hw h ho).2.2
  have l := fun k a b => RBI_l hw h (k := k) a b
  have l0 := l 0 (by omega) (by omega)
  have l1 := l 1 (by omega) (by omega)
  have l2 := l 2 (by omega) (by omega)
  have l3 := l 3 (by omega) (by omega)
  have hC := (WkI_C hw h.1 hk).1
  rw [if_pos hr] at hC
  have hje := (l k k0 k1).2.2 k2
  have hjr := jp_r hw k0 k1 hje
  obtain ⟨h1, h2, h3, h4, h5, h6, h7⟩ := h
  have ht : t < 130 := by
    rcases hC with ⟨-, a⟩ | ⟨a, -⟩
    · have := a k k0 k1
      rcases Int.lt_or_le t 130 with z | z
      · exact z
      · exact absurd ⟨hje, k2, by omega⟩ this
    · omega
  refine ⟨h1, by omega, ?_, h4, by omega, h6, h7⟩
  rw [show (t + 1).toNat = t.toNat + 1 by omega]
  refine ⟨jl σ σ' m, g, -6, h3, by rw [show ((t.toNat : Nat) : Int) = t by omega]; exact hC, Or.inl ⟨rfl, fun _ _ _ => rfl, rfl⟩⟩
theorem RBI_w {σ σ' σ2 : Mem} (hw : rWF σ) {m op g t r : Int} (h : RBI σ σ' m op g t) (ho : ¬ op ≤ 0) (hk : WkI σ' m t 16 r) (hr : ¬ r < 0) (hs : σ2 = up σ' 53 0 r (σ' 53 0 r - 1)) : rOp σ r ∧ 1 ≤ σ' 53 0 r ∧ σ' 53 0 r ≤ 20 ∧ rtA σ r ≤ 80 ∧ 0 ≤ rtA σ r ∧ (σ2 53 0 r ≠ 0 → RBI σ σ2 m op g (t + 1)) ∧ (σ2 53 0 r = 0 → RBI σ σ2 m (op - 1) (if t + 1 + rtA σ r < g then g else t + 1 + rtA σ r) (t + 1)) := by
  have l := fun k a b => RBI_l hw h (k := k) a b
  have ht := (RBI_t hw h ho).1
  obtain ⟨hC, hR⟩ := WkI_C hw h.1 hk
  obtain ⟨v, hm, hoj⟩ := hR (by omega)
  rw [if_neg hr] at hC
  have s := rOp_s hw v
  have hx := rhA_r hw v
  obtain ⟨h1, h2, h3, h4, h5, h6, h7⟩ := h
  have lr : jl σ σ' m (r / 4) = σ' 53 0 r := by unfold jl; rw [hoj, if_pos v.1]
  have hjv : jav (je σ m) (jr σ m) (jl σ σ' m) t (r / 4) := by
    rcases hC with ⟨a, -⟩ | ⟨-, -, a, -⟩
    · omega
    · exact a
  have lp := hjv.2.1
  rw [lr] at lp
  have lb := (l (r / 4) s.1 s.2.1).2.1
  rw [lr] at lb
  have e2 : ∀ k, 0 ≤ k → k < 4 → jl σ σ2 m k = if k = r / 4 then jl σ σ' m k - 1 else jl σ σ' m k := fun k k0 k1 => by
    by_cases c : k = r / 4
    · rw [if_pos c, c, lr]
      unfold jl
      rw [hoj, if_pos v.1, hs, up_ap, if_pos ⟨rfl, rfl, rfl⟩]
    · rw [if_neg c]
      unfold jl
      rcases oj_v hw (m := m) k0 k1 with ⟨a, -⟩ | ⟨a, b, x, d⟩
      · rw [if_neg (by omega), if_neg (by omega)]
      · rw [if_pos a, if_pos a, hs, up_ap, if_neg (by rintro ⟨-, -, z⟩; rw [z] at d; exact c d.symm)]
  have er : σ2 53 0 r = σ' 53 0 r - 1 := by rw [hs, up_ap, if_pos ⟨rfl, rfl, rfl⟩]
  have hF : FrG p53 σ σ2 := by rw [hs]; exact h1.u ⟨rfl, rfl⟩
  have hsum : jl σ σ2 m 0 + jl σ σ2 m 1 + jl σ σ2 m 2 + jl σ σ2 m 3 = jl σ σ' m 0 + jl σ σ' m 1 + jl σ σ' m 2 + jl σ σ' m 3 - 1 := by
    rw [e2 0 (by omega) (by omega), e2 1 (by omega) (by omega), e2 2 (by omega) (by omega), e2 3 (by omega) (by omega)]
    rcases (show r / 4 = 0 ∨ r / 4 = 1 ∨ r / 4 = 2 ∨ r / 4 = 3 by omega) with e | e | e | e <;> rw [e] <;> simp <;> omega
  have hJR : ∀ g', g' = (if jl σ σ' m (r / 4) = 1 ∧ g < t + 1 + jq σ m (r / 4) then t + 1 + jq σ m (r / 4) else g) → JR (je σ m) (jp σ m) (jr σ m) (jq σ m) (t + 1).toNat (jl σ σ2 m) g' := fun g' hg => by
    rw [show (t + 1).toNat = t.toNat + 1 by omega]
    refine ⟨jl σ σ' m, g, r / 4, h3, by rw [show ((t.toNat : Nat) : Int) = t by omega]; exact hC, Or.inr ⟨s.1, e2, by rw [show ((t.toNat : Nat) : Int) = t by omega]; exact hg⟩⟩
  have ejq : jq σ m (r / 4) = rtA σ r := by unfold jq; rw [hoj]
  have hb : ∀ k, 0 ≤ k → k < 4 → k ≠ r / 4 → b2i (0 < jl σ σ2 m k) = b2i (0 < jl σ σ' m k) := fun k k0 k1 c => by rw [e2 k k0 k1, if_neg c]
  have hb1 : b2i (0 < jl σ σ' m (r / 4)) = 1 := b2i_1 (by rw [lr]; exact lp)
  have hcnt : ∀ z, b2i (0 < jl σ σ2 m (r / 4)) = z → b2i (0 < jl σ σ2 m 0) + b2i (0 < jl σ σ2 m 1) + b2i (0 < jl σ σ2 m 2) + b2i (0 < jl σ σ2 m 3) = op - 1 + z := fun z hz => by
    rcases (show r / 4 = 0 ∨ r / 4 = 1 ∨ r / 4 = 2 ∨ r / 4 = 3 by omega) with e | e | e | e <;> rw [e] at hz hb1 hb
    · rw [hz, hb 1 (by omega) (by omega) (by omega), hb 2 (by omega) (by omega) (by omega), hb 3 (by omega) (by omega) (by omega)]
      omega
    · rw [hz, hb 0 (by omega) (by omega) (by omega), hb 2 (by omega) (by omega) (by omega), hb 3 (by omega) (by omega) (by omega)]
      omega
    · rw [hz, hb 0 (by omega) (by omega) (by omega), hb 1 (by omega) (by omega) (by omega), hb 3 (by omega) (by omega) (by omega)]
      omega
    · rw [hz, hb 0 (by omega) (by omega) (by omega), hb 1 (by omega) (by omega) (by omega), hb 2 (by omega) (by omega) (by omega)]
      omega
  have enew : jl σ σ2 m (r / 4) = σ2 53 0 r := by unfold jl; rw [hoj, if_pos v.1]
  refine ⟨v, by omega, lb, hx.2.2.2, hx.2.2.1, fun z => ?_, fun z => ?_⟩
  · have c := hcnt 1 (b2i_1 (by rw [enew]; omega))
    exact ⟨hF, by omega, hJR g (by rw [if_neg (by rw [lr]; omega)]), by omega, by omega, h6, h7⟩
  · have c := hcnt 0 (b2i_0 (by rw [enew]; omega))
    refine ⟨hF, by omega, hJR _ ?_, by omega, by omega, ?_, ?_⟩
    · rw [lr, ejq]
      by_cases y : g < t + 1 + rtA σ r
      · rw [if_neg (show ¬ t + 1 + rtA σ r < g by omega), if_pos ⟨by omega, y⟩]
      · by_cases x : t + 1 + rtA σ r < g
        · rw [if_pos x, if_neg (fun w => y w.2)]
        · rw [if_neg x, if_neg (fun w => y w.2)]
          omega
    · split <;> omega
    · split <;> omega
