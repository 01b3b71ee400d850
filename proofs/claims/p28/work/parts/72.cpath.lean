/-! the class's critical path -/
def cOK (σ : Mem) (i n : Nat) : Prop := WF (σ 5 i 0) (σ 10 i) (σ 11 i) (σ 17 n) (σ 13 i) (σ 14 i) ∧ (∀ o, vOp (σ 10 i) o → 0 ≤ σ 21 n o ∧ σ 21 n o ≤ 700 ∧ 0 ≤ σ 22 n o ∧ σ 22 n o ≤ 320) ∧ 0 ≤ σ 1 n 8 ∧ σ 1 n 8 ≤ 1100
def cF1 (σ : Mem) (i n : Nat) (x r : Int) : Prop := isF1 (σ 10 i) (σ 8 i) (σ 17 n) (σ 21 n) (σ 22 n) (σ 1 n 8) x r
def cN (σ : Mem) (i n : Nat) (o r : Int) : Prop := isN (σ 10 i) (σ 11 i) (σ 17 n) (σ 13 i) (σ 14 i) (σ 21 n) (σ 22 n) (σ 1 n 8) o r
def cPT (σ : Mem) (i n : Nat) (p : Int → Int) (s c : Int) : Prop := PTi (σ 10 i) (σ 11 i) (σ 8 i) (σ 17 n) (σ 13 i) (σ 14 i) (σ 21 n) (σ 22 n) (σ 1 n 8) p s c
/-- the plain facts of an operation -/
theorem cOK_op {σ : Mem} {i n : Nat} (h : cOK σ i n) {o : Int} (v : vOp (σ 10 i) o) : 0 ≤ o ∧ o < 16 ∧ 0 ≤ σ 21 n o ∧ σ 21 n o ≤ 700 ∧ 0 ≤ σ 22 n o ∧ σ 22 n o ≤ 320 ∧ 1 ≤ σ 17 n o ∧ σ 17 n o ≤ 20 ∧ 0 ≤ σ 11 i o ∧ σ 11 i o < 4 := by
  have h1 := h.2.1 o v
  have h2 := h.1.2.2.1 o v
  have := v.1
  have := v.2.1
  omega
theorem nxt_eq {J : Int} {st mc du ln q : Int → Int} (hW : WF J st mc du ln q) {o : Int} (v : vOp st o) : (if plF q (4 * mc o) (ln (mc o)) (o / 4) = -6 then -6 else if 0 ≤ plF q (4 * mc o) (ln (mc o)) (o / 4) + 1 ∧ plF q (4 * mc o) (ln (mc o)) (o / 4) + 1 < ln (mc o) then opF mc (st (q (4 * mc o + (plF q (4 * mc o) (ln (mc o)) (o / 4) + 1)))) (q (4 * mc o + (plF q (4 * mc o) (ln (mc o)) (o / 4) + 1))) (mc o) else -6) = oqN st mc ln q o := by
  have hp := plo_of hW v
  have e : plF q (4 * mc o) (ln (mc o)) (o / 4) = plo mc ln q o := rfl
  rw [e]
  unfold oqN oq
  rw [if_neg (by omega)]
  by_cases c : plo mc ln q o + 1 < ln (mc o)
  · rw [if_pos ⟨by omega, c⟩, if_pos c]
  · rw [if_neg (fun z => c z.2), if_neg c]
def pPa (t a : Nat) (x : Int) : Prop := (t = 37 ∧ a = 0) ∨ (t = 3 ∧ a = 0 ∧ x = 1)
def TRi (σ σ' : Mem) (i n : Nat) (c : Int) : Prop := FrG pPa σ σ' ∧ cPT σ i n (σ' 37 0) (σ' 3 0 1) c
theorem pPa_f {σ σ' : Mem} (h : FrG pPa σ σ') (t a : Nat) (ht : t ≠ 37 ∧ t ≠ 3) : σ' t a = σ t a := h.f t a (by rintro x (⟨q, -⟩ | ⟨q, -⟩) <;> omega)
theorem TRi_st {σ σ' : Mem} {i n : Nat} {c : Int} (h : TRi σ σ' i n c) : (cOK σ' i n ↔ cOK σ i n) ∧ cF1 σ' i n = cF1 σ i n ∧ cN σ' i n = cN σ i n ∧ σ' 10 i = σ 10 i := by
  have f := pPa_f h.1
  refine ⟨?_, ?_, ?_, f 10 i (by omega)⟩
  · unfold cOK
    rw [f 5 i (by omega), f 10 i (by omega), f 11 i (by omega), f 17 n (by omega), f 13 i (by omega), f 14 i (by omega), f 21 n (by omega), f 22 n (by omega), f 1 n (by omega)]
  · funext x r
    unfold cF1
    rw [f 10 i (by omega), f 8 i (by omega), f 17 n (by omega), f 21 n (by omega), f 22 n (by omega), f 1 n (by omega)]
  · funext x r
    unfold cN
    rw [f 10 i (by omega), f 11 i (by omega), f 17 n (by omega), f 13 i (by omega), f 14 i (by omega), f 21 n (by omega), f 22 n (by omega), f 1 n (by omega)]
theorem TRi_0 {σ : Mem} {i n : Nat} {c : Int} (h : cF1 σ i n 16 c) : TRi σ (up σ 3 0 1 0) i n c := by
  refine ⟨FrG.r.u (Or.inr ⟨rfl, rfl, rfl⟩), ?_⟩
  have e : (up σ 3 0 1 0) 3 0 1 = 0 := by rw [up_ap, if_pos ⟨rfl, rfl, rfl⟩]
  unfold cPT
  rw [e]
  exact PTi_0 h
theorem TRi_s {σ σ' : Mem} {i n : Nat} {c c' : Int} (h : TRi σ σ' i n c) (c0 : 0 ≤ c) (hn : cN σ i n c c') : TRi σ (up (up σ' 37 0 (σ' 3 0 1) c) 3 0 1 (σ' 3 0 1 + 1)) i n c' := by
  refine ⟨(h.1.u (Or.inl ⟨rfl, rfl⟩)).u (Or.inr ⟨rfl, rfl, rfl⟩), ?_⟩
  have e : (up (up σ' 37 0 (σ' 3 0 1) c) 3 0 1 (σ' 3 0 1 + 1)) 3 0 1 = σ' 3 0 1 + 1 := by rw [up_ap, if_pos ⟨rfl, rfl, rfl⟩]
  unfold cPT
  rw [e]
  refine PTi_s h.2 c0 (fun k k0 k1 => ?_) ?_ hn
  · rw [up_ap, if_neg (by rintro ⟨q, -⟩; omega), up_ap, if_neg (by rintro ⟨-, -, q⟩; omega)]
  · rw [up_ap, if_neg (by rintro ⟨q, -⟩; omega), up_ap, if_pos ⟨rfl, rfl, rfl⟩]
