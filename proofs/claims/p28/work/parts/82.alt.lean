theorem Ct_mono {l : Launch} {y : MethodName} {cc : ByteArray} {maxL : Nat} {ret : Option FieldType} {n : Nat} {T T2 : Tr} (h : Ct l y cc maxL ret n T) (hm : ∀ a σ K, T2 a σ K → T a σ K) : Ct l y cc maxL ret n T2 := fun xx D cy ad d hd a σ K ok hT => h xx D cy ad d hd a σ K ok (hm a σ K hT)
theorem cT_up (σ : Mem) (x v : Int) : cT (up σ 2 0 x v) = cT σ := by
  funext y
  unfold cT
  rw [up_ap, if_neg (by rintro ⟨q, -⟩; omega)]
theorem cLn_up (σ : Mem) (v : Int) : cL (up σ 2 0 2 v) = cL σ := by
  unfold cL
  rw [up_ap, if_neg (by rintro ⟨-, -, q⟩; omega)]
def T_X2_take2 : Tr := fun a σ K => match a with
  | [.inr (.inl (2, 0)), .inl c] => (0 ≤ σ 2 0 2 ∧ cL σ ≤ 80 ∧ c ≠ 0) ∧ (nx (cT σ) (cL σ) (σ 2 0 2) = c → ∀ σ', FrG pPd σ σ' → σ' 2 0 2 = σ 2 0 2 + 1 → K (some 1) σ') ∧ (¬ nx (cT σ) (cL σ) (σ 2 0 2) = c → K (some 0) σ)
  | _ => False
theorem m_X2_take2 : ∀ a σ K, T_X2_take2 a σ K → T_X2_take a σ K := by
  intro a σ K h
  unfold T_X2_take2 at h
  unfold T_X2_take
  split at h
  · rename_i c
    obtain ⟨⟨p1, p2, p3⟩, h1, h0⟩ := h
    refine ⟨p1, ?_⟩
    by_cases q : nx (cT σ) (cL σ) (σ 2 0 2) = c
    · have q2 := (take_eq p2 p3).mpr q
      rw [if_pos q2, if_pos q2]
      exact h1 q _ (FrG.r.u ⟨rfl, rfl, rfl⟩) (by rw [up_ap, if_pos ⟨rfl, rfl, rfl⟩])
    · have q2 := fun z => q ((take_eq p2 p3).mp z)
      rw [if_neg q2, if_neg q2]
      exact h0 q
  · exact h.elim
theorem k_X2_take2 (l : Launch) : Ct l yX2_take cX2_take 2 (some .boolean) 0 T_X2_take2 := Ct_mono (k_X2_take l) m_X2_take2
def T_X2_digit2 : Tr := fun a σ K => match a with
  | [.inr (.inl (2, 0))] => (0 ≤ σ 2 0 2 ∧ cL σ ≤ 80) ∧ K (some (dg (cT σ) (cL σ) (σ 2 0 2))) σ
  | _ => False
theorem m_X2_digit2 : ∀ a σ K, T_X2_digit2 a σ K → T_X2_digit a σ K := by
  intro a σ K h
  unfold T_X2_digit2 at h
  unfold T_X2_digit
  split at h
  · obtain ⟨⟨p1, p2⟩, h1⟩ := h
    refine ⟨p1, ?_⟩
    rw [digit_eq p2]
    exact h1
  · exact h.elim
theorem k_X2_digit2 (l : Launch) : Ct l yX2_digit cX2_digit 1 (some .int) 0 T_X2_digit2 := Ct_mono (k_X2_digit l) m_X2_digit2
def T_X2_number2 : Tr := fun a σ K => match a with
  | [.inr (.inl (2, 0)), .inl lo, .inl hi] => (0 ≤ σ 2 0 2 ∧ σ 2 0 2 ≤ cL σ ∧ cL σ ≤ 80 ∧ 0 ≤ lo ∧ 9 ≤ hi ∧ hi ≤ 1000) ∧ ((numS (cT σ) (cL σ) lo hi (σ 2 0 2)).2.2 = 0 → ∀ σ', FrG pPd σ σ' → σ' 2 0 2 = (numS (cT σ) (cL σ) lo hi (σ 2 0 2)).2.1 → K (some (numS (cT σ) (cL σ) lo hi (σ 2 0 2)).1) σ') ∧ (¬ (numS (cT σ) (cL σ) lo hi (σ 2 0 2)).2.2 = 0 → ∀ σ', FrG pPd σ σ' → σ' 2 0 2 = (numS (cT σ) (cL σ) lo hi (σ 2 0 2)).2.1 → K (some (-6)) σ')
  | _ => False
theorem m_X2_number2 : ∀ a σ K, T_X2_number2 a σ K → T_X2_number a σ K := by
  intro a σ K h
  unfold T_X2_number2 at h
  unfold T_X2_number
  split at h
  · obtain ⟨p, h1, h0⟩ := h
    refine ⟨p, fun σ' hF ha => ?_⟩
    split
    · rename_i c
      exact h1 c σ' hF ha
    · rename_i c
      exact h0 c σ' hF ha
  · exact h.elim
theorem k_X2_number2 (l : Launch) : Ct l yX2_number cX2_number 4 (some .int) 1 T_X2_number2 := Ct_mono (k_X2_number l) m_X2_number2
def T_X5_addOperation2 : Tr := fun a σ K => match a with
  | [.inr (.inl (5, i)), .inl j, .inl m, .inl d] => (0 ≤ j ∧ j < 4 ∧ 0 ≤ m ∧ m < 4 ∧ 0 ≤ σ 10 i j ∧ σ 10 i j < 4 ∧ 0 ≤ σ 13 i m ∧ σ 13 i m < 4) ∧ ∀ σ', σ' = up (up (up (up (up σ 11 i (4 * j + σ 10 i j) m) 12 i (4 * j + σ 10 i j) d) 10 i j (σ 10 i j + 1)) 14 i (4 * m + σ 13 i m) j) 13 i m (σ 13 i m + 1) → K (some (4 * j + σ 10 i j)) σ'
  | _ => False
theorem m_X5_addOperation2 : ∀ a σ K, T_X5_addOperation2 a σ K → T_X5_addOperation a σ K := by
  intro a σ K h
  unfold T_X5_addOperation2 at h
  unfold T_X5_addOperation
  split at h
  · exact ⟨h.1, h.2 _ rfl⟩
  · exact h.elim
