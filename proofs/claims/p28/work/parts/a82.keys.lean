/-! worlds by keys: a group of cells, each at the address of its key -/
section
variable {D : va_G} {cy : Nat → ClassId} {A : Nat → Prop} {H : Heap}
def kyPtr (t i : Nat) : List (Nat × Nat) := match ak t with
  | none => (List.range (fN t)).filterMap (fun j => (fp t j).map (fun q => (q.1, i + q.2)))
  | some (e, n) => if e < 3 then [] else (List.range n).map (fun j => el t i j)
def kyW (cy : Nat → ClassId) (ad : Nat → Nat → Nat) (K : List (Nat × Nat)) : va_W := K.map (fun c => (ad c.1 c.2, enc cy ad (fun _ _ _ => 0) c.1 c.2))
def kyClo (K : List (Nat × Nat)) : Bool := K.all (fun c => (kyPtr c.1 c.2).all (fun d => K.contains d))
def kyDis (K L : List (Nat × Nat)) : Bool := L.all (fun c => !K.contains c)
def kyMg (K : List (Nat × Nat)) (a b : Nat → Nat → Nat) : Nat → Nat → Nat := fun t i => if K.contains (t, i) = true then a t i else b t i
theorem kyMg_l {K : List (Nat × Nat)} {a b : Nat → Nat → Nat} {t i : Nat} (h : K.contains (t, i) = true) : kyMg K a b t i = a t i := if_pos h
theorem kyMg_r {K : List (Nat × Nat)} {a b : Nat → Nat → Nat} {t i : Nat} (h : K.contains (t, i) = false) : kyMg K a b t i = b t i := if_neg (by rw [h]; exact Bool.noConfusion)
theorem ky_arr {c : ClassId} {n : Nat} {f g : Nat → Option Nat} (h : ∀ j, j < n → f j = g j) : vp_cell c (n, .inr (.inr (.inr (.inr f)))) = vp_cell c (n, .inr (.inr (.inr (.inr g)))) := by
  rw [vp_cell_q, vp_cell_q]
  unfold arrV
  congr 2
  funext j
  show va_rf (f j.val) = va_rf (g j.val)
  rw [h j.val j.isLt]
theorem ky_at {ad ad' : Nat → Nat → Nat} {t i : Nat} (h0 : ad t i = ad' t i) (h : ∀ c ∈ kyPtr t i, ad c.1 c.2 = ad' c.1 c.2) (hx : va_at D classes (ad t i, enc cy ad (fun _ _ _ => 0) t i) H) : va_at D classes (ad' t i, enc cy ad' (fun _ _ _ => 0) t i) H := by
  rw [← h0]
  unfold enc at hx ⊢
  unfold kyPtr at h
  cases hk : ak t with
  | none =>
    rw [hk] at hx h
    dsimp only at hx h ⊢
    have e : (List.range (fN t)).map (fun j => match fp t j with | none => Value.int (Int32.ofInt 0) | some q => Value.ref (ad q.1 (i + q.2))) = (List.range (fN t)).map (fun j => match fp t j with | none => Value.int (Int32.ofInt 0) | some q => Value.ref (ad' q.1 (i + q.2))) := by
      refine List.map_congr_left (fun j hj => ?_)
      cases hf : fp t j with
      | none => rfl
      | some q =>
        have := h (q.1, i + q.2) (List.mem_filterMap.mpr ⟨j, hj, by rw [hf]; rfl⟩)
        dsimp only at this ⊢
        rw [this]
    exact Eq.mp (congrArg (fun L => va_at D classes (ad t i, Sum.inr (t, L)) H) e) hx
  | some q =>
    obtain ⟨e, n⟩ := q
    rw [hk] at hx h
    dsimp only at hx h ⊢
    by_cases h3 : e < 3
    · rw [if_pos h3] at hx ⊢
      exact hx
    · rw [if_neg h3] at hx h ⊢
      show H[ad t i]? = some (vp_cell _ _)
      have hx : H[ad t i]? = some (vp_cell _ _) := hx
      rw [hx]
      congr 1
      refine ky_arr (fun j hj => ?_)
      rw [h _ (List.mem_map.mpr ⟨j, List.mem_range.mpr hj, rfl⟩)]
theorem ky_P {ad ad' : Nat → Nat → Nat} {K : List (Nat × Nat)} (h : ∀ c ∈ K, ad c.1 c.2 = ad' c.1 c.2) (hc : kyClo K = true) (hP : va_P D classes (kyW cy ad K) H) : va_P D classes (kyW cy ad' K) H := by
  intro k q hq
  unfold kyW at hq
  rw [List.getElem?_map] at hq
  cases hk : K[k]? with
  | none => rw [hk] at hq; cases hq
  | some c =>
    rw [hk] at hq
    obtain rfl : _ = q := Option.some.inj hq
    have hm := List.mem_of_getElem? hk
    have hx := hP k (ad c.1 c.2, enc cy ad (fun _ _ _ => 0) c.1 c.2) (by unfold kyW; rw [List.getElem?_map, hk]; rfl)
    refine ky_at (h c hm) (fun d hd => h d ?_) hx
    have h1 := List.all_eq_true.mp hc c hm
    have h2 := List.all_eq_true.mp h1 d hd
    exact List.contains_iff_mem.mp h2
theorem ky_D {ws ws' : va_W} (h : va_D A ws) (he : ws'.map Prod.fst = ws.map Prod.fst) : va_D A ws' := by
  have hg : ∀ (k : Nat) (q : Nat × va_E), ws'[k]? = some q → ∃ q', ws[k]? = some q' ∧ q'.1 = q.1 := by
    intro k q hq
    have h1 : (ws'.map Prod.fst)[k]? = some q.1 := by rw [List.getElem?_map, hq]; rfl
    rw [he, List.getElem?_map] at h1
    cases hw : ws[k]? with
    | none => rw [hw] at h1; cases h1
    | some q' => rw [hw] at h1; exact ⟨q', rfl, Option.some.inj h1⟩
  refine ⟨fun i j p q hp hq e => ?_, fun k q hk => ?_⟩
  · obtain ⟨p', h1, h2⟩ := hg i p hp
    obtain ⟨q', h3, h4⟩ := hg j q hq
    exact h.1 i j p' q' h1 h3 (by rw [h2, h4, e])
  · obtain ⟨q', h1, h2⟩ := hg k q hk
    rw [← h2]
    exact h.2 k q' h1
theorem ky_fst {ad ad' : Nat → Nat → Nat} {K : List (Nat × Nat)} (h : ∀ c ∈ K, ad c.1 c.2 = ad' c.1 c.2) : (kyW cy ad K).map Prod.fst = (kyW cy ad' K).map Prod.fst := by
  unfold kyW
  rw [List.map_map, List.map_map]
  exact List.map_congr_left (fun c hc => h c hc)
theorem ky_app {ad : Nat → Nat → Nat} {K L : List (Nat × Nat)} : kyW cy ad (K ++ L) = kyW cy ad K ++ kyW cy ad L := List.map_append
theorem ky_l {a b : va_W} (h : va_P D classes (a ++ b) H) : va_P D classes a H := fun k q hk => h k q (by rw [List.getElem?_append_left (List.getElem?_eq_some_iff.mp hk).1]; exact hk)
theorem ky_r {a b : va_W} (h : va_P D classes (a ++ b) H) : va_P D classes b H := fun k q hk => h (a.length + k) q (by rw [List.getElem?_append_right (by omega), Nat.add_sub_cancel_left]; exact hk)
theorem ky_mrg {X : va_W} {a b : Nat → Nat → Nat} {K L : List (Nat × Nat)} (hP : va_P D classes (X ++ (kyW cy a K ++ kyW cy b L)) H) (hD : va_D A (X ++ (kyW cy a K ++ kyW cy b L))) (c1 : kyClo K = true) (c2 : kyClo L = true) (d : kyDis K L = true) : va_P D classes (X ++ kyW cy (kyMg K a b) (K ++ L)) H ∧ va_D A (X ++ kyW cy (kyMg K a b) (K ++ L)) := by
  have h1 : ∀ c ∈ K, a c.1 c.2 = kyMg K a b c.1 c.2 := fun c hc => (kyMg_l (List.contains_iff_mem.mpr hc)).symm
  have h2 : ∀ c ∈ L, b c.1 c.2 = kyMg K a b c.1 c.2 := fun c hc => (kyMg_r (by simpa using List.all_eq_true.mp d c hc)).symm
  refine ⟨(ky_l hP).app ?_, ky_D hD ?_⟩
  · rw [ky_app]
    exact (ky_P h1 c1 (ky_l (ky_r hP))).app (ky_P h2 c2 (ky_r (ky_r hP)))
  · rw [ky_app, List.map_append, List.map_append, List.map_append, List.map_append, ky_fst h1, ky_fst h2]
theorem ky_clo {K L : List (Nat × Nat)} (c1 : kyClo K = true) (c2 : kyClo L = true) : kyClo (K ++ L) = true := by
  refine List.all_eq_true.mpr (fun c hc => List.all_eq_true.mpr (fun d hd => List.contains_iff_mem.mpr (List.mem_append.mpr ?_)))
  rcases List.mem_append.mp hc with h | h
  · exact Or.inl (List.contains_iff_mem.mp (List.all_eq_true.mp (List.all_eq_true.mp c1 c h) d hd))
  · exact Or.inr (List.contains_iff_mem.mp (List.all_eq_true.mp (List.all_eq_true.mp c2 c h) d hd))
theorem ky_ra {U : State} {c c1 : ClassId} {ty : FieldType} (h : va_RA U c ty) (h1 : va_RA U c1 ty) : c1 = c := by
  cases ty with
  | object C =>
    obtain ⟨-, -, -, -, -, a4⟩ := h
    obtain ⟨-, -, -, -, -, b4⟩ := h1
    exact Option.some.inj (b4.symm.trans a4)
  | _ =>
    have a4 : U.vm.findClass _ = some c := h
    have b4 : U.vm.findClass _ = some c1 := h1
    exact Option.some.inj (b4.symm.trans a4)
theorem ky_un {s : State} {tys tys1 : List (ClassId × FieldType)} (hK : va_K D classes tys s) (hK1 : va_K D classes tys1 s) (k k1 : Nat) {c c1 : ClassId} {ty : FieldType} (h : tys[k]? = some (c, ty)) (h1 : tys1[k1]? = some (c1, ty)) : c1 = c := ky_ra (hK.2 k _ h).2 (hK1.2 k1 _ h1).2
theorem ky_repl {ws : va_W} {k a : Nat} {e e' : va_E} (h : va_P D classes ws H) (hk : ws[k]? = some (a, e)) (he : va_at D classes (a, e) H → va_at D classes (a, e') H) : va_P D classes (ws.set k (a, e')) H := by
  intro j q hq
  by_cases hj : j = k
  · subst hj
    rw [List.getElem?_set_self (List.getElem?_eq_some_iff.mp hk).1] at hq
    obtain rfl := Option.some.inj hq
    exact he (h j _ hk)
  · rw [List.getElem?_set_ne (Ne.symm hj)] at hq
    exact h j q hq
end
abbrev kkX5 (i : Nat) : List (Nat × Nat) := [(5, i), (8, i), (9, i), (10, i), (11, i), (12, i), (13, i), (14, i)]
set_option maxRecDepth 100000 in
set_option maxHeartbeats 4000000 in
theorem tk_X5 {D : va_G} {cy : Nat → ClassId} {A : Nat → Prop} {s t : State} {h0 : Nat} {u : Unit} (i : Nat) (hK : va_K D classes (tysL cy) s) (hvm : s.vm.Alike t.vm) (h : at_X5 D A h0 u t) : ∃ ad : Nat → Nat → Nat, ad 5 i = h0 ∧ va_P D classes (kyW cy ad (kkX5 i)) t.heap ∧ va_D A (kyW cy ad (kkX5 i)) := by
  obtain ⟨q0, q1, q2, q3, q4, q5, q6, c0, c1, c2, c3, c4, c5, c6, hP, hK1, hD⟩ := h
  have hK1 := va_K.moved hvm.symm hK1
  have e0 := ky_un hK hK1 0 0 rfl rfl
  have e1 := ky_un hK hK1 0 1 rfl rfl
  have e2 := ky_un hK hK1 0 2 rfl rfl
  have e3 := ky_un hK hK1 0 3 rfl rfl
  have e4 := ky_un hK hK1 0 4 rfl rfl
  have e5 := ky_un hK hK1 0 5 rfl rfl
  have e6 := ky_un hK hK1 0 6 rfl rfl
  subst e0 e1 e2 e3 e4 e5 e6
  exact ⟨fun t _ => match t with | 5 => h0 | 8 => q0 | 9 => q1 | 10 => q2 | 11 => q3 | 12 => q4 | 13 => q5 | 14 => q6 | _ => 0, rfl, hP, hD⟩
abbrev kkX3 (i : Nat) : List (Nat × Nat) := [(3, i), (37, i)]
set_option maxRecDepth 100000 in
set_option maxHeartbeats 4000000 in
theorem tk_X3 {D : va_G} {cy : Nat → ClassId} {A : Nat → Prop} {s t : State} {h0 : Nat} {u : Unit} (i : Nat) (hK : va_K D classes (tysL cy) s) (hvm : s.vm.Alike t.vm) (h : at_X3 D A h0 u t) : ∃ ad : Nat → Nat → Nat, ad 3 i = h0 ∧ va_P D classes (kyW cy ad (kkX3 i)) t.heap ∧ va_D A (kyW cy ad (kkX3 i)) := by
  obtain ⟨q0, c0, hP, hK1, hD⟩ := h
  have hK1 := va_K.moved hvm.symm hK1
  have e0 := ky_un hK hK1 0 0 rfl rfl
  subst e0
  exact ⟨fun t _ => match t with | 3 => h0 | 37 => q0 | _ => 0, rfl, hP, hD⟩
abbrev kkX2 (i : Nat) : List (Nat × Nat) := [(2, i), (36, i)]
set_option maxRecDepth 100000 in
set_option maxHeartbeats 4000000 in
theorem tk_X2 {D : va_G} {cy : Nat → ClassId} {A : Nat → Prop} {s t : State} {h0 : Nat} {u : Unit} (i : Nat) (hK : va_K D classes (tysL cy) s) (hvm : s.vm.Alike t.vm) (h : at_X2 D A h0 u t) : ∃ ad : Nat → Nat → Nat, ad 2 i = h0 ∧ va_P D classes (kyW cy ad (kkX2 i)) t.heap ∧ va_D A (kyW cy ad (kkX2 i)) := by
  obtain ⟨q0, c0, hP, hK1, hD⟩ := h
  have hK1 := va_K.moved hvm.symm hK1
  have e0 := ky_un hK hK1 1 0 rfl rfl
  subst e0
  exact ⟨fun t _ => match t with | 2 => h0 | 36 => q0 | _ => 0, rfl, hP, hD⟩
abbrev kkX1 (i : Nat) : List (Nat × Nat) := [(1, i), (15, i), (16, i), (17, i), (18, i), (19, i), (20, i), (21, i), (22, i), (23, i), (24, i), (25, i), (26, i)]
set_option maxRecDepth 100000 in
set_option maxHeartbeats 4000000 in
theorem tk_X1 {D : va_G} {cy : Nat → ClassId} {A : Nat → Prop} {s t : State} {h0 : Nat} {u : Unit} (i : Nat) (hK : va_K D classes (tysL cy) s) (hvm : s.vm.Alike t.vm) (h : at_X1 D A h0 u t) : ∃ ad : Nat → Nat → Nat, ad 1 i = h0 ∧ va_P D classes (kyW cy ad (kkX1 i)) t.heap ∧ va_D A (kyW cy ad (kkX1 i)) := by
  obtain ⟨q0, q1, q2, q3, q4, q5, q6, q7, q8, q9, q10, q11, c0, c1, c2, c3, c4, c5, c6, c7, c8, c9, c10, c11, hP, hK1, hD⟩ := h
  have hK1 := va_K.moved hvm.symm hK1
  have e0 := ky_un hK hK1 0 0 rfl rfl
  have e1 := ky_un hK hK1 0 1 rfl rfl
  have e2 := ky_un hK hK1 0 2 rfl rfl
  have e3 := ky_un hK hK1 0 3 rfl rfl
  have e4 := ky_un hK hK1 0 4 rfl rfl
  have e5 := ky_un hK hK1 0 5 rfl rfl
  have e6 := ky_un hK hK1 0 6 rfl rfl
  have e7 := ky_un hK hK1 0 7 rfl rfl
  have e8 := ky_un hK hK1 0 8 rfl rfl
  have e9 := ky_un hK hK1 0 9 rfl rfl
  have e10 := ky_un hK hK1 0 10 rfl rfl
  have e11 := ky_un hK hK1 0 11 rfl rfl
  subst e0 e1 e2 e3 e4 e5 e6 e7 e8 e9 e10 e11
  exact ⟨fun t _ => match t with | 1 => h0 | 15 => q0 | 16 => q1 | 17 => q2 | 18 => q3 | 19 => q4 | 20 => q5 | 21 => q6 | 22 => q7 | 23 => q8 | 24 => q9 | 25 => q10 | 26 => q11 | _ => 0, rfl, hP, hD⟩
abbrev kkX7 (i : Nat) : List (Nat × Nat) := [(7, i), (38, i), (39, i), (40, i), (41, i), (42, i), (43, i), (44, i), (45, i), (46, i), (47, i), (48, i), (49, i), (50, i), (51, i), (52, i), (53, i), (54, i), (55, i)]
set_option maxRecDepth 100000 in
set_option maxHeartbeats 4000000 in
theorem tk_X7 {D : va_G} {cy : Nat → ClassId} {A : Nat → Prop} {s t : State} {h0 : Nat} {u : Unit} (i : Nat) (hK : va_K D classes (tysL cy) s) (hvm : s.vm.Alike t.vm) (h : at_X7 D A h0 u t) : ∃ ad : Nat → Nat → Nat, ad 7 i = h0 ∧ va_P D classes (kyW cy ad (kkX7 i)) t.heap ∧ va_D A (kyW cy ad (kkX7 i)) := by
  obtain ⟨q0, q1, q2, q3, q4, q5, q6, q7, q8, q9, q10, q11, q12, q13, q14, q15, q16, q17, c0, c1, c2, c3, c4, c5, c6, c7, c8, c9, c10, c11, c12, c13, c14, c15, c16, c17, hP, hK1, hD⟩ := h
  have hK1 := va_K.moved hvm.symm hK1
  have e0 := ky_un hK hK1 0 0 rfl rfl
  have e1 := ky_un hK hK1 0 1 rfl rfl
  have e2 := ky_un hK hK1 0 2 rfl rfl
  have e3 := ky_un hK hK1 2 3 rfl rfl
  have e4 := ky_un hK hK1 0 4 rfl rfl
  have e5 := ky_un hK hK1 0 5 rfl rfl
  have e6 := ky_un hK hK1 2 6 rfl rfl
  have e7 := ky_un hK hK1 0 7 rfl rfl
  have e8 := ky_un hK hK1 0 8 rfl rfl
  have e9 := ky_un hK hK1 0 9 rfl rfl
  have e10 := ky_un hK hK1 0 10 rfl rfl
  have e11 := ky_un hK hK1 0 11 rfl rfl
  have e12 := ky_un hK hK1 0 12 rfl rfl
  have e13 := ky_un hK hK1 0 13 rfl rfl
  have e14 := ky_un hK hK1 0 14 rfl rfl
  have e15 := ky_un hK hK1 0 15 rfl rfl
  have e16 := ky_un hK hK1 0 16 rfl rfl
  have e17 := ky_un hK hK1 0 17 rfl rfl
  subst e0 e1 e2 e3 e4 e5 e6 e7 e8 e9 e10 e11 e12 e13 e14 e15 e16 e17
  exact ⟨fun t _ => match t with | 7 => h0 | 38 => q0 | 39 => q1 | 40 => q2 | 41 => q3 | 42 => q4 | 43 => q5 | 44 => q6 | 45 => q7 | 46 => q8 | 47 => q9 | 48 => q10 | 49 => q11 | 50 => q12 | 51 => q13 | 52 => q14 | 53 => q15 | 54 => q16 | 55 => q17 | _ => 0, rfl, hP, hD⟩
abbrev kkX0 (i : Nat) : List (Nat × Nat) := [(0, 0), (33, 0), (5, 2), (8, 2), (9, 2), (10, 2), (11, 2), (12, 2), (13, 2), (14, 2), (5, 3), (8, 3), (9, 3), (10, 3), (11, 3), (12, 3), (13, 3), (14, 3), (5, 4), (8, 4), (9, 4), (10, 4), (11, 4), (12, 4), (13, 4), (14, 4), (5, 5), (8, 5), (9, 5), (10, 5), (11, 5), (12, 5), (13, 5), (14, 5), (5, 6), (8, 6), (9, 6), (10, 6), (11, 6), (12, 6), (13, 6), (14, 6), (5, 7), (8, 7), (9, 7), (10, 7), (11, 7), (12, 7), (13, 7), (14, 7)]
set_option maxRecDepth 100000 in
set_option maxHeartbeats 4000000 in
theorem tk_X0 {D : va_G} {cy : Nat → ClassId} {A : Nat → Prop} {s t : State} {h0 : Nat} {u : Unit} (hK : va_K D classes (tysL cy) s) (hvm : s.vm.Alike t.vm) (h : at_X0 D A h0 u t) : ∃ ad : Nat → Nat → Nat, ad 0 0 = h0 ∧ va_P D classes (kyW cy ad (kkX0 0)) t.heap ∧ va_D A (kyW cy ad (kkX0 0)) := by
  obtain ⟨qa, ca, s0, r0_0, r0_1, r0_2, r0_3, r0_4, r0_5, r0_6, e0_0, e0_1, e0_2, e0_3, e0_4, e0_5, e0_6, s1, r1_0, r1_1, r1_2, r1_3, r1_4, r1_5, r1_6, e1_0, e1_1, e1_2, e1_3, e1_4, e1_5, e1_6, s2, r2_0, r2_1, r2_2, r2_3, r2_4, r2_5, r2_6, e2_0, e2_1, e2_2, e2_3, e2_4, e2_5, e2_6, s3, r3_0, r3_1, r3_2, r3_3, r3_4, r3_5, r3_6, e3_0, e3_1, e3_2, e3_3, e3_4, e3_5, e3_6, s4, r4_0, r4_1, r4_2, r4_3, r4_4, r4_5, r4_6, e4_0, e4_1, e4_2, e4_3, e4_4, e4_5, e4_6, s5, r5_0, r5_1, r5_2, r5_3, r5_4, r5_5, r5_6, e5_0, e5_1, e5_2, e5_3, e5_4, e5_5, e5_6, hP, hK1, hD⟩ := h
  have hK1 := va_K.moved hvm.symm hK1
  have f0 := ky_un hK hK1 3 0 rfl rfl
  have f0_0 := ky_un hK hK1 0 1 rfl rfl
  have f0_1 := ky_un hK hK1 0 2 rfl rfl
  have f0_2 := ky_un hK hK1 0 3 rfl rfl
  have f0_3 := ky_un hK hK1 0 4 rfl rfl
  have f0_4 := ky_un hK hK1 0 5 rfl rfl
  have f0_5 := ky_un hK hK1 0 6 rfl rfl
  have f0_6 := ky_un hK hK1 0 7 rfl rfl
  have f1_0 := ky_un hK hK1 0 8 rfl rfl
  have f1_1 := ky_un hK hK1 0 9 rfl rfl
  have f1_2 := ky_un hK hK1 0 10 rfl rfl
  have f1_3 := ky_un hK hK1 0 11 rfl rfl
  have f1_4 := ky_un hK hK1 0 12 rfl rfl
  have f1_5 := ky_un hK hK1 0 13 rfl rfl
  have f1_6 := ky_un hK hK1 0 14 rfl rfl
  have f2_0 := ky_un hK hK1 0 15 rfl rfl
  have f2_1 := ky_un hK hK1 0 16 rfl rfl
  have f2_2 := ky_un hK hK1 0 17 rfl rfl
  have f2_3 := ky_un hK hK1 0 18 rfl rfl
  have f2_4 := ky_un hK hK1 0 19 rfl rfl
  have f2_5 := ky_un hK hK1 0 20 rfl rfl
  have f2_6 := ky_un hK hK1 0 21 rfl rfl
  have f3_0 := ky_un hK hK1 0 22 rfl rfl
  have f3_1 := ky_un hK hK1 0 23 rfl rfl
  have f3_2 := ky_un hK hK1 0 24 rfl rfl
  have f3_3 := ky_un hK hK1 0 25 rfl rfl
  have f3_4 := ky_un hK hK1 0 26 rfl rfl
  have f3_5 := ky_un hK hK1 0 27 rfl rfl
  have f3_6 := ky_un hK hK1 0 28 rfl rfl
  have f4_0 := ky_un hK hK1 0 29 rfl rfl
  have f4_1 := ky_un hK hK1 0 30 rfl rfl
  have f4_2 := ky_un hK hK1 0 31 rfl rfl
  have f4_3 := ky_un hK hK1 0 32 rfl rfl
  have f4_4 := ky_un hK hK1 0 33 rfl rfl
  have f4_5 := ky_un hK hK1 0 34 rfl rfl
  have f4_6 := ky_un hK hK1 0 35 rfl rfl
  have f5_0 := ky_un hK hK1 0 36 rfl rfl
  have f5_1 := ky_un hK hK1 0 37 rfl rfl
  have f5_2 := ky_un hK hK1 0 38 rfl rfl
  have f5_3 := ky_un hK hK1 0 39 rfl rfl
  have f5_4 := ky_un hK hK1 0 40 rfl rfl
  have f5_5 := ky_un hK hK1 0 41 rfl rfl
  have f5_6 := ky_un hK hK1 0 42 rfl rfl
  subst f0 f0_0 f0_1 f0_2 f0_3 f0_4 f0_5 f0_6 f1_0 f1_1 f1_2 f1_3 f1_4 f1_5 f1_6 f2_0 f2_1 f2_2 f2_3 f2_4 f2_5 f2_6 f3_0 f3_1 f3_2 f3_3 f3_4 f3_5 f3_6 f4_0 f4_1 f4_2 f4_3 f4_4 f4_5 f4_6 f5_0 f5_1 f5_2 f5_3 f5_4 f5_5 f5_6
  have h2 := ky_repl (k := 1) (e' := .inl (cy 3, 6, .inr (.inr (.inr (.inr (fun j => some ([s0, s1, s2, s3, s4, s5].getD (2 + j - 2) 0))))))) hP rfl (fun hx => by
    have hx : t.heap[qa]? = some (vp_cell _ _) := hx
    exact hx.trans (congrArg some (ky_arr (fun j hj => by rcases (show j = 0 ∨ j = 1 ∨ j = 2 ∨ j = 3 ∨ j = 4 ∨ j = 5 by omega) with rfl | rfl | rfl | rfl | rfl | rfl <;> rfl))))
  have hP : va_P D classes (kyW cy (fun t i => match t with | 0 => h0 | 33 => qa | 5 => [s0, s1, s2, s3, s4, s5].getD (i - 2) 0 | 8 => [r0_0, r1_0, r2_0, r3_0, r4_0, r5_0].getD (i - 2) 0 | 9 => [r0_1, r1_1, r2_1, r3_1, r4_1, r5_1].getD (i - 2) 0 | 10 => [r0_2, r1_2, r2_2, r3_2, r4_2, r5_2].getD (i - 2) 0 | 11 => [r0_3, r1_3, r2_3, r3_3, r4_3, r5_3].getD (i - 2) 0 | 12 => [r0_4, r1_4, r2_4, r3_4, r4_4, r5_4].getD (i - 2) 0 | 13 => [r0_5, r1_5, r2_5, r3_5, r4_5, r5_5].getD (i - 2) 0 | 14 => [r0_6, r1_6, r2_6, r3_6, r4_6, r5_6].getD (i - 2) 0 | _ => 0) (kkX0 0)) t.heap := h2
  exact ⟨_, rfl, hP, ky_D hD rfl⟩
