/-- J jobs are read, their rows are Rs -/
def RJ (σ : Mem) (i : Nat) (J : Int) (Rs : Int → Int) : Prop := WF (σ 5 i 0) (σ 10 i) (σ 11 i) (σ 12 i) (σ 13 i) (σ 14 i) ∧ σ 5 i 0 = J ∧ asc (σ 13 i) (σ 14 i) ∧ ∀ j', 0 ≤ j' → j' < J → σ 8 i j' = Rs (11 * j') ∧ σ 9 i j' = Rs (11 * j' + 1) ∧ σ 10 i j' = Rs (11 * j' + 2) ∧ 0 ≤ σ 8 i j' ∧ σ 8 i j' ≤ 50 ∧ 0 ≤ σ 9 i j' ∧ σ 9 i j' ≤ 200 ∧ ∀ s, 0 ≤ s → s < σ 10 i j' → σ 11 i (4 * j' + s) = Rs (11 * j' + 3 + 2 * s) ∧ σ 12 i (4 * j' + s) = Rs (11 * j' + 4 + 2 * s)
theorem RJ_cg {σ σ' : Mem} {i : Nat} {J : Int} {Rs : Int → Int} (h : FrG pPd σ σ') (hd : RJ σ i J Rs) : RJ σ' i J Rs := by
  unfold RJ at hd ⊢
  rw [pPd_f h 5 i (by omega), pPd_f h 8 i (by omega), pPd_f h 9 i (by omega), pPd_f h 10 i (by omega), pPd_f h 11 i (by omega), pPd_f h 12 i (by omega), pPd_f h 13 i (by omega), pPd_f h 14 i (by omega)]
  exact hd
theorem DR_0 {σ σ' : Mem} {i : Nat} {j r d : Int} {Rs : Int → Int} (h : RJ σ i j Rs) (j0 : 0 ≤ j) (j4 : j < 4) (r0 : 0 ≤ r) (r1 : r ≤ 50) (d0 : 0 ≤ d) (d1 : d ≤ 200) (hs : σ' = up (up (up (up σ 8 i j r) 9 i j d) 10 i j 0) 5 i 0 (j + 1)) : DR σ' i j Rs (hdR r d) 0 := by
  obtain ⟨h1, h2, h3, h4⟩ := h
  have e5 : σ' 5 i 0 = j + 1 := by rw [hs]; simp [up_ap]
  have e8 : ∀ x, σ' 8 i x = if x = j then r else σ 8 i x := by intro x; rw [hs]; simp [up_ap]
  have e9 : ∀ x, σ' 9 i x = if x = j then d else σ 9 i x := by intro x; rw [hs]; simp [up_ap]
  have e10 : ∀ x, σ' 10 i x = if x = j then 0 else σ 10 i x := by intro x; rw [hs]; simp [up_ap]
  have e11 : σ' 11 i = σ 11 i := by rw [hs]; funext x; simp [up_ap]
  have e12 : σ' 12 i = σ 12 i := by rw [hs]; funext x; simp [up_ap]
  have e13 : σ' 13 i = σ 13 i := by rw [hs]; funext x; simp [up_ap]
  have e14 : σ' 14 i = σ 14 i := by rw [hs]; funext x; simp [up_ap]
  have z : σ 10 i j = 0 := (h1.2.1 j j0 j4).2.2 (by omega)
  have w := (WF_job h1 (by omega) (st' := σ' 10 i) (fun x a b => by
    rw [e10]
    split
    · rename_i q
      rw [q, z]
    · rfl)).1
  refine ⟨?_, e5, j0, by rw [e10, if_pos rfl], by rw [e13, e14]; exact h3, fun j' a b => ?_, by rw [e8, if_pos rfl]; rfl, by rw [e9, if_pos rfl]; rfl, rfl, r0, r1, d0, d1, fun s s0 s1 => by omega⟩
  · rw [e5, e11, e12, e13, e14, ← h2]
    exact w
  · rw [e8, e9, e10, if_neg (by omega), if_neg (by omega), if_neg (by omega), e11, e12]
    exact h4 j' a b
theorem RJ_s {σ : Mem} {i : Nat} {j c : Int} {Rs R : Int → Int} (h : DR σ i j Rs R c) : RJ σ i (j + 1) (uJ Rs j R) := by
  obtain ⟨h1, h2, h3, h4, h5, h6, h7, h8, h9, h10, h11, h12, h13, h14⟩ := h
  refine ⟨h1, h2, h5, fun j' a b => ?_⟩
  have hst := h1.2.1 j' a (by have := h1.1; omega)
  by_cases z : j' = j
  · subst z
    have u : ∀ k, 0 ≤ k → k < 11 → uJ Rs j' R (11 * j' + k) = R k := fun k k0 k1 => by
      unfold uJ
      rw [if_pos (by omega)]
      congr 1
      omega
    have u0 := u 0 (by omega) (by omega)
    rw [Int.add_zero] at u0
    refine ⟨by rw [u0]; exact h7, by rw [u 1 (by omega) (by omega)]; exact h8, by rw [u 2 (by omega) (by omega), h9]; exact h4, by omega, by omega, by omega, by omega, fun s s0 s1 => ?_⟩
    rw [Int.add_assoc, u (3 + 2 * s) (by omega) (by omega), Int.add_assoc, u (4 + 2 * s) (by omega) (by omega)]
    exact h14 s s0 (by omega)
  · have u : ∀ x, x < 11 * j → uJ Rs j R x = Rs x := fun x q => by
      unfold uJ
      rw [if_neg (by omega)]
    obtain ⟨x1, x2, x3, x4, x5, x6, x7, x8⟩ := h6 j' a (by omega)
    rw [u _ (by omega), u _ (by omega), u _ (by omega)]
    refine ⟨x1, x2, x3, x4, x5, x6, x7, fun s s0 s1 => ?_⟩
    rw [u _ (by omega), u _ (by omega)]
    exact x8 s s0 s1
/-- readJob's loop -/
def RDi (σ σ' : Mem) (i : Nat) (j : Int) (Rs : Int → Int) (c : Int) : Prop := FrG (pRd i) σ σ' ∧ ∃ R, DR σ' i j Rs R c ∧ 0 ≤ c ∧ c ≤ 4 ∧ 0 ≤ σ' 2 0 2 ∧ σ' 2 0 2 ≤ cL σ ∧ jobS (cT σ) (cL σ) (σ 2 0 2) = opsS (cT σ) (cL σ) (5 - c).toNat c (σ' 2 0 2) R
def T_X5_addJob2 : Tr := fun a σ K => match a with
  | [.inr (.inl (5, i)), .inl r, .inl d] => (0 ≤ σ 5 i 0 ∧ σ 5 i 0 < 4) ∧ ∀ σ', σ' = up (up (up (up σ 8 i (σ 5 i 0) r) 9 i (σ 5 i 0) d) 10 i (σ 5 i 0) 0) 5 i 0 (σ 5 i 0 + 1) → K (some (σ 5 i 0)) σ'
  | _ => False
theorem m_X5_addJob2 : ∀ a σ K, T_X5_addJob2 a σ K → T_X5_addJob a σ K := by
  intro a σ K h
  unfold T_X5_addJob2 at h
  unfold T_X5_addJob
  split at h
  · obtain ⟨⟨p1, p2⟩, h1⟩ := h
    refine ⟨⟨p1, by omega⟩, ?_⟩
    rw [if_neg (by omega), if_neg (by omega)]
    exact h1 _ rfl
  · exact h.elim
theorem opsS_1 (tx : Int → Int) (n : Int) (f : Nat) (c a : Int) (R : Int → Int) : opsS tx n (f + 1) c a R = cif (nx tx n a = 44 ∧ c < 4) (cif ((op1 tx n R c (a + 1)).1 ≠ 0) (1, (op1 tx n R c (a + 1)).2.1, R) (opsS tx n f (c + 1) (op1 tx n R c (a + 1)).2.1 (uR R c (op1 tx n R c (a + 1)).2.2.1 (op1 tx n R c (a + 1)).2.2.2))) (0, a, R) := rfl
theorem pRd_f {i : Nat} {σ σ' : Mem} (h : FrG (pRd i) σ σ') (t a : Nat) (ht : t ≠ 2 ∧ t ≠ 5 ∧ (t < 8 ∨ 14 < t)) : σ' t a = σ t a := h.f t a (by rintro x (⟨q, -⟩ | ⟨-, q⟩) <;> omega)
