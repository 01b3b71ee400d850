/-- a set of jobs, as the four lowest bits -/
def hasB (s j : Int) : Prop := band (bshr s j) 1 ≠ 0
theorem hasB_def (s j : Int) : (band (bshr s j) 1 = 0) = ¬ hasB s j := by simp [hasB]
theorem i16 {s : Int} (h : 0 ≤ s) (h2 : s < 16) : ∃ k : Fin 16, s = (k.val : Int) := ⟨⟨s.toNat, by omega⟩, by simp; omega⟩
theorem i4 {s : Int} (h : 0 ≤ s) (h2 : s < 4) : ∃ k : Fin 4, s = (k.val : Int) := ⟨⟨s.toNat, by omega⟩, by simp; omega⟩
theorem bit_or_k : ∀ (s : Fin 16) (j k : Fin 4), ((band (bshr (bor (s.val : Int) (bshl 1 (j.val : Int))) (k.val : Int)) 1 ≠ 0) ↔ (band (bshr (s.val : Int) (k.val : Int)) 1 ≠ 0 ∨ (k.val : Int) = (j.val : Int))) ∧ 0 ≤ bor (s.val : Int) (bshl 1 (j.val : Int)) ∧ bor (s.val : Int) (bshl 1 (j.val : Int)) < 16 := by
  simp only [band_eq, bor_eq, bxor_eq, bshl_eq, bshr_eq]
  decide +kernel
theorem bit_or {s j k : Int} (h0 : 0 ≤ s) (h1 : s < 16) (h2 : 0 ≤ j) (h3 : j < 4) (h4 : 0 ≤ k) (h5 : k < 4) : hasB (bor s (bshl 1 j)) k ↔ hasB s k ∨ k = j := by
  obtain ⟨s, rfl⟩ := i16 h0 h1
  obtain ⟨j, rfl⟩ := i4 h2 h3
  obtain ⟨k, rfl⟩ := i4 h4 h5
  exact (bit_or_k s j k).1
theorem bit_or_r {s j : Int} (h0 : 0 ≤ s) (h1 : s < 16) (h2 : 0 ≤ j) (h3 : j < 4) : 0 ≤ bor s (bshl 1 j) ∧ bor s (bshl 1 j) < 16 := by
  obtain ⟨s, rfl⟩ := i16 h0 h1
  obtain ⟨j, rfl⟩ := i4 h2 h3
  exact (bit_or_k s j 0).2
theorem bit_cl_k : ∀ (s : Fin 16) (j k : Fin 4), ((band (bshr (band (s.val : Int) (bxor (bshl 1 (j.val : Int)) (-1))) (k.val : Int)) 1 ≠ 0) ↔ (band (bshr (s.val : Int) (k.val : Int)) 1 ≠ 0 ∧ (k.val : Int) ≠ (j.val : Int))) ∧ 0 ≤ band (s.val : Int) (bxor (bshl 1 (j.val : Int)) (-1)) ∧ band (s.val : Int) (bxor (bshl 1 (j.val : Int)) (-1)) < 16 := by
  simp only [band_eq, bor_eq, bxor_eq, bshl_eq, bshr_eq]
  decide +kernel
theorem bit_cl {s j k : Int} (h0 : 0 ≤ s) (h1 : s < 16) (h2 : 0 ≤ j) (h3 : j < 4) (h4 : 0 ≤ k) (h5 : k < 4) : hasB (band s (bxor (bshl 1 j) (-1))) k ↔ hasB s k ∧ k ≠ j := by
  obtain ⟨s, rfl⟩ := i16 h0 h1
  obtain ⟨j, rfl⟩ := i4 h2 h3
  obtain ⟨k, rfl⟩ := i4 h4 h5
  exact (bit_cl_k s j k).1
theorem bit_cl_r {s j : Int} (h0 : 0 ≤ s) (h1 : s < 16) (h2 : 0 ≤ j) (h3 : j < 4) : 0 ≤ band s (bxor (bshl 1 j) (-1)) ∧ band s (bxor (bshl 1 j) (-1)) < 16 := by
  obtain ⟨s, rfl⟩ := i16 h0 h1
  obtain ⟨j, rfl⟩ := i4 h2 h3
  exact (bit_cl_k s j 0).2
theorem bit_sub_k : ∀ (s t : Fin 16), (band (s.val : Int) (bxor (t.val : Int) (-1)) = 0) ↔ ∀ k : Fin 4, band (bshr (s.val : Int) (k.val : Int)) 1 ≠ 0 → band (bshr (t.val : Int) (k.val : Int)) 1 ≠ 0 := by
  simp only [band_eq, bor_eq, bxor_eq, bshl_eq, bshr_eq]
  decide +kernel
theorem bit_sub {s t : Int} (h0 : 0 ≤ s) (h1 : s < 16) (h2 : 0 ≤ t) (h3 : t < 16) : (band s (bxor t (-1)) = 0) ↔ ∀ k, 0 ≤ k → k < 4 → hasB s k → hasB t k := by
  obtain ⟨s, rfl⟩ := i16 h0 h1
  obtain ⟨t, rfl⟩ := i16 h2 h3
  rw [bit_sub_k]
  constructor
  · intro h k a b
    obtain ⟨k, rfl⟩ := i4 a b
    exact h k
  · intro h k
    exact h k.val (by omega) (by omega)
theorem bit_and_k : ∀ (s t : Fin 16), (band (s.val : Int) (t.val : Int) = 0) ↔ ∀ k : Fin 4, ¬ (band (bshr (s.val : Int) (k.val : Int)) 1 ≠ 0 ∧ band (bshr (t.val : Int) (k.val : Int)) 1 ≠ 0) := by
  simp only [band_eq, bor_eq, bxor_eq, bshl_eq, bshr_eq]
  decide +kernel
theorem bit_and {s t : Int} (h0 : 0 ≤ s) (h1 : s < 16) (h2 : 0 ≤ t) (h3 : t < 16) : (band s t = 0) ↔ ∀ k, 0 ≤ k → k < 4 → ¬ (hasB s k ∧ hasB t k) := by
  obtain ⟨s, rfl⟩ := i16 h0 h1
  obtain ⟨t, rfl⟩ := i16 h2 h3
  rw [bit_and_k]
  constructor
  · intro h k a b
    obtain ⟨k, rfl⟩ := i4 a b
    exact h k
  · intro h k
    exact h k.val (by omega) (by omega)
theorem bit_ext_k : ∀ (s t : Fin 16), (∀ k : Fin 4, (band (bshr (s.val : Int) (k.val : Int)) 1 ≠ 0 ↔ band (bshr (t.val : Int) (k.val : Int)) 1 ≠ 0)) → s = t := by
  simp only [band_eq, bor_eq, bxor_eq, bshl_eq, bshr_eq]
  decide +kernel
theorem bit_ext {s t : Int} (h0 : 0 ≤ s) (h1 : s < 16) (h2 : 0 ≤ t) (h3 : t < 16) (h : ∀ k, 0 ≤ k → k < 4 → (hasB s k ↔ hasB t k)) : s = t := by
  obtain ⟨s, rfl⟩ := i16 h0 h1
  obtain ⟨t, rfl⟩ := i16 h2 h3
  rw [bit_ext_k s t (fun k => h k.val (by omega) (by omega))]
theorem bit_0 {k : Int} (h4 : 0 ≤ k) (h5 : k < 4) : ¬ hasB 0 k := by
  obtain ⟨k, rfl⟩ := i4 h4 h5
  have key : ∀ k : Fin 4, ¬ (band (bshr 0 (k.val : Int)) 1 ≠ 0) := by
    simp only [band_eq, bshr_eq]
    decide +kernel
  exact key k
theorem hasB_ne0 {s k : Int} (h0 : 0 ≤ s) (h1 : s < 16) (h4 : 0 ≤ k) (h5 : k < 4) (h : hasB s k) : s ≠ 0 := fun e => bit_0 h4 h5 (e ▸ h)
/-! heads and tails as longest ways: the equations, and that they have at most one solution -/
def IsHead (V : Int → Prop) (P : Int → Int → Prop) (d r h : Int → Int) : Prop := ∀ o, V o → r o ≤ h o ∧ (∀ o', V o' → P o' o → h o' + d o' ≤ h o) ∧ (h o = r o ∨ ∃ o', V o' ∧ P o' o ∧ h o = h o' + d o')
def IsTail (V : Int → Prop) (P : Int → Int → Prop) (d t : Int → Int) : Prop := ∀ o, V o → 0 ≤ t o ∧ (∀ o', V o' → P o o' → d o' + t o' ≤ t o) ∧ (t o = 0 ∨ ∃ o', V o' ∧ P o o' ∧ t o = d o' + t o')
def IsMax (V : Int → Prop) (f : Int → Int) (m : Int) : Prop := 0 ≤ m ∧ (∀ o, V o → f o ≤ m) ∧ (m = 0 ∨ ∃ o, V o ∧ f o = m)
theorem head_ge {V : Int → Prop} {P : Int → Int → Prop} {d r h : Int → Int} (hr : ∀ o, V o → 0 ≤ r o) (H : IsHead V P d r h) {o : Int} (ho : V o) : 0 ≤ h o := Int.le_trans (hr o ho) (H o ho).1
theorem head_le {V : Int → Prop} {P : Int → Int → Prop} {d r h h' : Int → Int} (hd : ∀ o, V o → 1 ≤ d o) (hr : ∀ o, V o → 0 ≤ r o) (H : IsHead V P d r h) (H' : IsHead V P d r h') : ∀ (n : Nat) (o : Int), V o → h o ≤ n → h o ≤ h' o := by
  intro n
  induction n with
  | zero =>
    intro o ho hn
    have h1 := head_ge hr H ho
    have h2 := head_ge hr H' ho
    omega
  | succ n ih =>
    intro o ho hn
    obtain ⟨a1, a2, a3⟩ := H o ho
    obtain ⟨b1, b2, b3⟩ := H' o ho
    rcases a3 with a3 | ⟨o', v', p', a3⟩
    · omega
    · have h1 := hd o' v'
      have h2 := ih o' v' (by omega)
      have h3 := b2 o' v' p'
      omega
theorem head_unique {V : Int → Prop} {P : Int → Int → Prop} {d r h h' : Int → Int} (hd : ∀ o, V o → 1 ≤ d o) (hr : ∀ o, V o → 0 ≤ r o) (H : IsHead V P d r h) (H' : IsHead V P d r h') {o : Int} (ho : V o) : h o = h' o := by
  have h1 := head_le hd hr H H' (h o).toNat o ho (by omega)
  have h2 := head_le hd hr H' H (h' o).toNat o ho (by omega)
  omega
theorem tail_le {V : Int → Prop} {P : Int → Int → Prop} {d t t' : Int → Int} (hd : ∀ o, V o → 1 ≤ d o) (H : IsTail V P d t) (H' : IsTail V P d t') : ∀ (n : Nat) (o : Int), V o → t o ≤ n → t o ≤ t' o := by
  intro n
  induction n with
  | zero =>
    intro o ho hn
    have h1 := (H o ho).1
    have h2 := (H' o ho).1
    omega
  | succ n ih =>
    intro o ho hn
    obtain ⟨a1, a2, a3⟩ := H o ho
    obtain ⟨b1, b2, b3⟩ := H' o ho
    rcases a3 with a3 | ⟨o', v', p', a3⟩
    · omega
    · have h1 := hd o' v'
      have h2 := ih o' v' (by omega)
      have h3 := b2 o' v' p'
      omega
theorem tail_unique {V : Int → Prop} {P : Int → Int → Prop} {d t t' : Int → Int} (hd : ∀ o, V o → 1 ≤ d o) (H : IsTail V P d t) (H' : IsTail V P d t') {o : Int} (ho : V o) : t o = t' o := by
  have h1 := tail_le hd H H' (t o).toNat o ho (by omega)
  have h2 := tail_le hd H' H (t' o).toNat o ho (by omega)
  omega
/-- a set of operations each of which has one ahead of it in the set: there is a way round -/
theorem head_none {V U : Int → Prop} {P : Int → Int → Prop} {d r h : Int → Int} (hd : ∀ o, V o → 1 ≤ d o) (hr : ∀ o, V o → 0 ≤ r o) (hU : ∀ o, U o → V o) (hp : ∀ o, U o → ∃ o', U o' ∧ P o' o) (H : IsHead V P d r h) : ∀ o, ¬ U o := by
  have key : ∀ (n : Nat) (o : Int), h o ≤ n → ¬ U o := by
    intro n
    induction n with
    | zero =>
      intro o hn ho
      obtain ⟨o', u', p'⟩ := hp o ho
      have h1 := (H o (hU o ho)).2.1 o' (hU o' u') p'
      have h2 := hd o' (hU o' u')
      have h3 := head_ge hr H (hU o' u')
      omega
    | succ n ih =>
      intro o hn ho
      obtain ⟨o', u', p'⟩ := hp o ho
      have h1 := (H o (hU o ho)).2.1 o' (hU o' u') p'
      have h2 := hd o' (hU o' u')
      exact ih o' (by omega) u'
  intro o
  exact key (h o).toNat o (by omega)
theorem max_unique {V : Int → Prop} {f : Int → Int} {m m' : Int} (h : IsMax V f m) (h' : IsMax V f m') : m = m' := by
  obtain ⟨a1, a2, a3⟩ := h
  obtain ⟨b1, b2, b3⟩ := h'
  rcases a3 with a3 | ⟨o, v, a3⟩
  · rcases b3 with b3 | ⟨o', v', b3⟩
    · omega
    · have := a2 o' v'
      omega
  · have := b2 o v
    rcases b3 with b3 | ⟨o', v', b3⟩
    · omega
    · have := a2 o' v'
      omega
/-- the longest way through an operation is the last end -/
theorem max_ends {V : Int → Prop} {P : Int → Int → Prop} {d r h t : Int → Int} (hd : ∀ o, V o → 1 ≤ d o) (H : IsHead V P d r h) (T : IsTail V P d t) {m e : Int} (hm : IsMax V (fun o => h o + d o + t o) m) (he : IsMax V (fun o => h o + d o) e) : m = e := by
  have key : ∀ (n : Nat) (o : Int), V o → t o ≤ n → h o + d o + t o ≤ e := by
    intro n
    induction n with
    | zero =>
      intro o ho hn
      have h1 := (T o ho).1
      have h2 := he.2.1 o ho
      simp only at h2
      omega
    | succ n ih =>
      intro o ho hn
      obtain ⟨a1, a2, a3⟩ := T o ho
      have h2 := he.2.1 o ho
      simp only at h2
      rcases a3 with a3 | ⟨o', v', p', a3⟩
      · omega
      · have h3 := hd o' v'
        have h4 := ih o' v' (by omega)
        have h5 := (H o' v').2.1 o ho p'
        omega
  obtain ⟨a1, a2, a3⟩ := hm
  obtain ⟨b1, b2, b3⟩ := he
  have h1 : m ≤ e := by
    rcases a3 with a3 | ⟨o, v, a3⟩
    · omega
    · have := key (t o).toNat o v (by omega)
      simp only at a3
      omega
  have h2 : e ≤ m := by
    rcases b3 with b3 | ⟨o, v, b3⟩
    · omega
    · have := a2 o v
      have := (T o v).1
      simp only at *
      omega
  omega
/-! the net of a row of routes: which operations there are, which go ahead -/
def vOp (st : Int → Int) (o : Int) : Prop := 0 ≤ o ∧ o < 16 ∧ o % 4 < st (o / 4)
def ca_X1_jobsOn : Nat → Option (Nat × Nat × Tr) := fun _ => none
theorem cao_X1_jobsOn (l : Launch) : ∀ k n' ci T', ca_X1_jobsOn k = some (n', ci, T') → ∃ nn, nn + 1 ≤ 0 ∧ Site l yX1_jobsOn.cls k n' ci nn T' := by
  intro k n' ci T' h
  cases h
def T_X1_jobsOn : Tr := fun a σ K => match a with
  | [.inr (.inl (1, n)), .inl m] => (0 ≤ m ∧ m < 4) ∧ ∀ r, 0 ≤ r → r < 16 → (∀ k, 0 ≤ k → k < 4 → (hasB r k ↔ 0 ≤ σ 19 n (4 * m + k))) → K (some r) σ
  | _ => False
set_option maxHeartbeats 8000000 in
set_option maxRecDepth 20000 in
theorem k_X1_jobsOn (l : Launch) : Ct l yX1_jobsOn cX1_jobsOn 4 (some .int) 0 T_X1_jobsOn := by
  refine mk_met (by decide +kernel) hCX1_jobsOn lCX1_jobsOn frX1_ok cstX1_ok (cao_X1_jobsOn l) ?_ ?_
  · intro a σ K h
    unfold T_X1_jobsOn at h
    split at h
    · simp [eL]
    · exact h.elim
  · intro a σ K ha hR h
    unfold T_X1_jobsOn at h
    split at h
    · rename_i n m
      refine ⟨fun pc => if pc = 4 then some (fun L S σ' k => match L, S with | [some (.inr (.inl c1)), some (.inl m'), some (.inl s), some (.inl j)], [] => (c1 = (1, n) ∧ m' = m ∧ 0 ≤ j ∧ j ≤ 4 ∧ 0 ≤ s ∧ s < 16 ∧ σ' = σ ∧ (∀ k, 0 ≤ k → k < 4 → (hasB s k ↔ (k < j ∧ 0 ≤ σ 19 n (4 * m + k))))) ∧ k = (4 - j).toNat | _, _ => False) else none, 200, ?_, ?_⟩
      · intro pc I L S σ' k hcut hi
        dsimp only at hcut
        split at hcut
        · rename_i hpc
          subst hpc
          cases hcut
          try dsimp only at hi
          split at hi
          · rename_i c1 m' s j
            obtain ⟨hi, rfl⟩ := hi
            obtain ⟨rfl, rfl, h0, h1, h2, h3, rfl, h4⟩ := hi
            simp only [wp, stp, drp, entL, eL, lget, lset, okst, cnd, swt, rcv, Kr_int, Kr_bool, Kr_void, List.length_cons, List.length_nil, List.replicate, List.append_nil, List.cons_append, List.nil_append, List.take_succ_cons, List.take_zero, List.drop_succ_cons, List.drop_zero, List.reverse_cons, List.reverse_nil, Option.map_some, Option.map_none, Option.toList_some, Option.toList_none, Nat.reduceAdd, Nat.reduceSub, Nat.reduceLT, Nat.reduceLeDiff, Nat.reduceEqDiff, ↓reduceIte, Nat.add_zero, Nat.zero_add, true_and, and_true, Nat.le_refl, reduceCtorEq, false_implies, true_implies, not_true_eq_false, not_false_eq_true, Int.reduceAdd, Int.reduceSub, Int.reduceMul, Int.reduceLE, Int.reduceLT, Int.reduceEq, Int.reduceNe, Int.reduceNeg, Int.reduceDiv, Int.reduceMod, Bool.false_eq_true, Int.le_refl, and_self, true_or, or_true, inR_l, fv0, fv1, fv2, fv3, nc2, nc4, nc6, nc16, nc25, nc60, nc65, nc80, nc130, nc384, nc390, fp_0_0, fp_0_1, fp_0_2, fp_1_0, fp_1_1, fp_1_2, fp_1_3, fp_1_4, fp_1_5, fp_1_6, fp_1_7, fp_1_8, fp_1_9, fp_1_10, fp_1_11, fp_1_12, fp_1_13, fp_1_14, fp_2_0, fp_2_1, fp_2_2, fp_2_3, fp_3_0, fp_3_1, fp_4_0, fp_4_1, fp_4_2, fp_4_3, fp_4_4, fp_4_5, fp_4_6, fp_4_7, fp_5_0, fp_5_1, fp_5_2, fp_5_3, fp_5_4, fp_5_5, fp_5_6, fp_5_7, fp_6_0, fp_6_1, fp_6_2, fp_6_3, fp_6_4, fp_6_5, fp_6_6, fp_6_7, fp_6_8, fp_6_9, fp_6_10, fp_6_11, fp_6_12, fp_6_13, fp_6_14, fp_6_15, fp_7_0, fp_7_1, fp_7_2, fp_7_3, fp_7_4, fp_7_5, fp_7_6, fp_7_7, fp_7_8, fp_7_9, fp_7_10, fp_7_11, fp_7_12, fp_7_13, fp_7_14, fp_7_15, fp_7_16, fp_7_17, fp_7_18, fp_7_19, fp_7_20, fp_7_21, fp_7_22, fp_7_23, fp_7_24, iz_0_1, iz_0_2, iz_1_8, iz_1_9, iz_1_11, iz_2_1, iz_2_2, iz_2_3, iz_3_1, iz_4_1, iz_4_2, iz_5_0, iz_6_8, iz_6_9, iz_6_13, iz_6_14, iz_6_15, iz_7_2, iz_7_6, iz_7_12, iz_7_20, iz_7_21, iz_7_23, iz_7_24, ak_8, ak_9, ak_10, ak_11, ak_12, ak_13, ak_14, ak_15, ak_16, ak_17, ak_18, ak_19, ak_20, ak_21, ak_22, ak_23, ak_24, ak_25, ak_26, ak_27, ak_28, ak_29, ak_30, ak_31, ak_32, ak_33, ak_34, ak_35, ak_36, ak_37, ak_38, ak_39, ak_40, ak_41, ak_42, ak_43, ak_44, ak_45, ak_46, ak_47, ak_48, ak_49, ak_50, ak_51, ak_52, ak_53, ak_54, ak_55, ak_56, el31, el33, el34, CX1_jobsOn, ca_X1_jobsOn, frX1, kcX1, klX1, hasB_def, exists_eq_right_right, exists_eq_right, exists_eq_left, Nat.lt_irrefl, and_self, implies_true, forall_const]
            obtain ⟨⟨hm0, hm1⟩, h⟩ := h
            refine ⟨fun a => h s h2 h3 (fun k p q => ?_), fun a => ⟨⟨by omega, by omega⟩, ⟨by omega, by omega⟩, ⟨by omega, by omega⟩, fun b => ⟨⟨by omega, by omega⟩, by omega, by omega, by omega, h2, h3, fun k p q => ?_⟩, fun b => ⟨⟨by omega, by omega⟩, by omega, by omega, by omega, (bit_or_r h2 h3 h0 (by omega)).1, (bit_or_r h2 h3 h0 (by omega)).2, fun k p q => ?_⟩⟩⟩
            · rw [h4 k p q]
              omega
            · rw [h4 k p q]
              rcases (show k < j ∨ k = j ∨ j < k by omega) with c | rfl | c <;> omega
            · rw [bit_or h2 h3 h0 (by omega) p q, h4 k p q]
              rcases (show k < j ∨ k = j ∨ j < k by omega) with c | rfl | c <;> omega
          · exact hi.elim
        · cases hcut
      · simp only [wp, stp, drp, entL, eL, lget, lset, okst, cnd, swt, rcv, Kr_int, Kr_bool, Kr_void, List.length_cons, List.length_nil, List.replicate, List.append_nil, List.cons_append, List.nil_append, List.take_succ_cons, List.take_zero, List.drop_succ_cons, List.drop_zero, List.reverse_cons, List.reverse_nil, Option.map_some, Option.map_none, Option.toList_some, Option.toList_none, Nat.reduceAdd, Nat.reduceSub, Nat.reduceLT, Nat.reduceLeDiff, Nat.reduceEqDiff, ↓reduceIte, Nat.add_zero, Nat.zero_add, true_and, and_true, Nat.le_refl, reduceCtorEq, false_implies, true_implies, not_true_eq_false, not_false_eq_true, Int.reduceAdd, Int.reduceSub, Int.reduceMul, Int.reduceLE, Int.reduceLT, Int.reduceEq, Int.reduceNe, Int.reduceNeg, Int.reduceDiv, Int.reduceMod, Bool.false_eq_true, Int.le_refl, and_self, true_or, or_true, inR_l, fv0, fv1, fv2, fv3, nc2, nc4, nc6, nc16, nc25, nc60, nc65, nc80, nc130, nc384, nc390, fp_0_0, fp_0_1, fp_0_2, fp_1_0, fp_1_1, fp_1_2, fp_1_3, fp_1_4, fp_1_5, fp_1_6, fp_1_7, fp_1_8, fp_1_9, fp_1_10, fp_1_11, fp_1_12, fp_1_13, fp_1_14, fp_2_0, fp_2_1, fp_2_2, fp_2_3, fp_3_0, fp_3_1, fp_4_0, fp_4_1, fp_4_2, fp_4_3, fp_4_4, fp_4_5, fp_4_6, fp_4_7, fp_5_0, fp_5_1, fp_5_2, fp_5_3, fp_5_4, fp_5_5, fp_5_6, fp_5_7, fp_6_0, fp_6_1, fp_6_2, fp_6_3, fp_6_4, fp_6_5, fp_6_6, fp_6_7, fp_6_8, fp_6_9, fp_6_10, fp_6_11, fp_6_12, fp_6_13, fp_6_14, fp_6_15, fp_7_0, fp_7_1, fp_7_2, fp_7_3, fp_7_4, fp_7_5, fp_7_6, fp_7_7, fp_7_8, fp_7_9, fp_7_10, fp_7_11, fp_7_12, fp_7_13, fp_7_14, fp_7_15, fp_7_16, fp_7_17, fp_7_18, fp_7_19, fp_7_20, fp_7_21, fp_7_22, fp_7_23, fp_7_24, iz_0_1, iz_0_2, iz_1_8, iz_1_9, iz_1_11, iz_2_1, iz_2_2, iz_2_3, iz_3_1, iz_4_1, iz_4_2, iz_5_0, iz_6_8, iz_6_9, iz_6_13, iz_6_14, iz_6_15, iz_7_2, iz_7_6, iz_7_12, iz_7_20, iz_7_21, iz_7_23, iz_7_24, ak_8, ak_9, ak_10, ak_11, ak_12, ak_13, ak_14, ak_15, ak_16, ak_17, ak_18, ak_19, ak_20, ak_21, ak_22, ak_23, ak_24, ak_25, ak_26, ak_27, ak_28, ak_29, ak_30, ak_31, ak_32, ak_33, ak_34, ak_35, ak_36, ak_37, ak_38, ak_39, ak_40, ak_41, ak_42, ak_43, ak_44, ak_45, ak_46, ak_47, ak_48, ak_49, ak_50, ak_51, ak_52, ak_53, ak_54, ak_55, ak_56, el31, el33, el34, CX1_jobsOn, ca_X1_jobsOn, frX1, kcX1, klX1, hasB_def, exists_eq_right_right, exists_eq_right, exists_eq_left, Nat.lt_irrefl, and_self, implies_true, forall_const]
        intro k a b
        exact ⟨fun q => absurd q (bit_0 a b), fun q => absurd q.1 (by omega)⟩
    · exact h.elim
