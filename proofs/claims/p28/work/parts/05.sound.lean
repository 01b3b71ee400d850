def lw_g : List Cond := lw_tbl.filter goodWord
def isNest : Cond → Bool
  | .methodLinkNest .. => true
  | _ => false
def nw : List Cond := lw_tbl.filter isNest
theorem mg {w : Cond} (i : Nat) (h : lw_tbl[i]? = some w) (hg : goodWord w = true) : w ∈ lw_g := List.mem_filter.mpr ⟨List.mem_of_getElem? h, hg⟩
theorem mn {w : Cond} (i : Nat) (h : lw_tbl[i]? = some w) (hg : isNest w = true) : w ∈ nw := List.mem_filter.mpr ⟨List.mem_of_getElem? h, hg⟩
theorem nw_warm {s U : State} (hW : s.WarmedH U.vm) (h : ∀ w ∈ nw, va_Nw w s) : ∀ w ∈ nw, va_Nw w U := by
  intro w hw
  have h1 := h w hw
  have h2 := (List.mem_filter.mp hw).2
  cases w <;> first | (cases h2; done) | skip
  exact va_Nw.warmM hW h1
theorem nw_same {u U : State} (hv : u.vm = U.vm) (h : ∀ w ∈ nw, va_Nw w u) : ∀ w ∈ nw, va_Nw w U := by
  intro w hw
  have h1 := h w hw
  have h2 := (List.mem_filter.mp hw).2
  cases w <;> first | (cases h2; done) | skip
  exact va_Nw.same rfl hv h1
theorem wsIn0 : ∀ w ∈ u_ws RX0 TX0 3, w ∈ lw_g := fun w hw => List.mem_filter.mpr ⟨(by decide +kernel : ∀ w ∈ u_ws RX0 TX0 3, w ∈ lw_tbl) w hw, List.all_eq_true.mp (by decide +kernel : (u_ws RX0 TX0 3).all goodWord = true) w hw⟩
theorem wsIn1 : ∀ w ∈ u_ws RX1 TX1 15, w ∈ lw_g := fun w hw => List.mem_filter.mpr ⟨(by decide +kernel : ∀ w ∈ u_ws RX1 TX1 15, w ∈ lw_tbl) w hw, List.all_eq_true.mp (by decide +kernel : (u_ws RX1 TX1 15).all goodWord = true) w hw⟩
theorem wsIn2 : ∀ w ∈ u_ws RX2 TX2 4, w ∈ lw_g := fun w hw => List.mem_filter.mpr ⟨(by decide +kernel : ∀ w ∈ u_ws RX2 TX2 4, w ∈ lw_tbl) w hw, List.all_eq_true.mp (by decide +kernel : (u_ws RX2 TX2 4).all goodWord = true) w hw⟩
theorem wsIn3 : ∀ w ∈ u_ws RX3 TX3 2, w ∈ lw_g := fun w hw => List.mem_filter.mpr ⟨(by decide +kernel : ∀ w ∈ u_ws RX3 TX3 2, w ∈ lw_tbl) w hw, List.all_eq_true.mp (by decide +kernel : (u_ws RX3 TX3 2).all goodWord = true) w hw⟩
theorem wsIn4 : ∀ w ∈ u_ws RX4 TX4 8, w ∈ lw_g := fun w hw => List.mem_filter.mpr ⟨(by decide +kernel : ∀ w ∈ u_ws RX4 TX4 8, w ∈ lw_tbl) w hw, List.all_eq_true.mp (by decide +kernel : (u_ws RX4 TX4 8).all goodWord = true) w hw⟩
theorem wsIn5 : ∀ w ∈ u_ws RX5 TX5 8, w ∈ lw_g := fun w hw => List.mem_filter.mpr ⟨(by decide +kernel : ∀ w ∈ u_ws RX5 TX5 8, w ∈ lw_tbl) w hw, List.all_eq_true.mp (by decide +kernel : (u_ws RX5 TX5 8).all goodWord = true) w hw⟩
theorem wsIn6 : ∀ w ∈ u_ws RX6 TX6 16, w ∈ lw_g := fun w hw => List.mem_filter.mpr ⟨(by decide +kernel : ∀ w ∈ u_ws RX6 TX6 16, w ∈ lw_tbl) w hw, List.all_eq_true.mp (by decide +kernel : (u_ws RX6 TX6 16).all goodWord = true) w hw⟩
def clsOK (t : Nat) (q : vw_C) : Prop := q.2.2 = fN t ∧ t < 8 ∧ (∀ w ∈ u_ws q.1 q.2.1 q.2.2, w ∈ lw_g) ∧ (∀ a, a < q.2.2 → ∀ b, b < q.2.2 → a ≠ b → (q.2.1 a).2.1 ≠ (q.2.1 b).2.1) ∧
  ∃ ty : Nat → FieldType, (∀ k, k < q.2.2 → parseFieldDescriptor (q.2.1 k).2.2.1 = some (ty k)) ∧ ∀ j, j < q.2.2 → fp t j = none → (q.2.1 j).2.2.2 = false ∧ ty j = if isZ t j then .boolean else .int
theorem cls_ok : ∀ (t : Nat) (q : vw_C), classes[t]? = some q → clsOK t q
  | 0, q, h => by cases h; exact ⟨rfl, by decide, wsIn0, nmX0, tyX0, tyX0_ok, by decide⟩
  | 1, q, h => by cases h; exact ⟨rfl, by decide, wsIn1, nmX1, tyX1, tyX1_ok, by decide⟩
  | 2, q, h => by cases h; exact ⟨rfl, by decide, wsIn2, nmX2, tyX2, tyX2_ok, by decide⟩
  | 3, q, h => by cases h; exact ⟨rfl, by decide, wsIn3, nmX3, tyX3, tyX3_ok, by decide⟩
  | 4, q, h => by cases h; exact ⟨rfl, by decide, wsIn4, nmX4, tyX4, tyX4_ok, by decide⟩
  | 5, q, h => by cases h; exact ⟨rfl, by decide, wsIn5, nmX5, tyX5, tyX5_ok, by decide⟩
  | 6, q, h => by cases h; exact ⟨rfl, by decide, wsIn6, nmX6, tyX6, tyX6_ok, by decide⟩
  | t + 7, q, h => by simp [classes] at h
/-- pointers keep to their counts -/
theorem fp_ok : ∀ xx : Bool, ∀ t, t < 8 → ∀ i, i < cnt xx t → ∀ j, j < fN t → ∀ q, fp t j = some q → i + q.2 < cnt xx q.1 := by decide +kernel
theorem el_key : ∀ xx : Bool, ∀ t, t < 58 → ∀ i, i < cnt xx t → ∀ j, j < ((ak t).getD (0, 0)).2 → 3 ≤ ((ak t).getD (0, 0)).1 → (el t i j).2 < cnt xx (el t i j).1 := by decide +kernel
theorem el_ok {xx : Bool} {t n k : Nat} (hn : ak t = some (k, n)) (hk : 3 ≤ k) {i : Nat} (hi : i < cnt xx t) {j : Nat} (hj : j < n) : (el t i j).2 < cnt xx (el t i j).1 := el_key xx t (cnt_lt hi) i hi j (by rw [hn]; exact hj) (by rw [hn]; exact hk)
theorem ak_small : ∀ t, t < 58 → ∀ q, ak t = some q → q.2 < 1000 := by decide +kernel
def Ok (xx : Bool) (D : va_G) (cy : Nat → ClassId) (ad : Nat → Nat → Nat) (A : Nat → Prop) (H0 H : Heap) (locs : List Loc) (σ : Mem) : Prop := va_P D classes (pool xx cy ad σ) H ∧ va_S A H0 H locs ∧ ∀ t i j, inR (σ t i j)
def rel (ad : Nat → Nat → Nat) (L : LL) (nL : Nat) (ls : Array Slot) : Prop := L.length = nL ∧ lv_wf ls ∧ ls.size = nL ∧ ∀ i v, lget L i = some v → ls[i]? = some (.val (vV ad v))
def okV (xx : Bool) : AV → Prop
  | .inl x => inR x
  | .inr (.inl c) => c.2 < cnt xx c.1 ∨ c = (56, 0)
  | .inr (.inr _) => True
def okL (xx : Bool) (L : LL) : Prop := ∀ i v, lget L i = some v → okV xx v
def okS (xx : Bool) (S : List AV) : Prop := ∀ v ∈ S, okV xx v
def rV (r : Option Int) : List Value := (r.map (fun x => Value.int (Int32.ofInt x))).toList
section
variable (xx : Bool) (p : Program) (l : Launch) (e : Env) (R : Room) (s : State) (m : MethodId) (args : Array Value) (below : List Frame) (meth : Method) (c : Code) (cells slots : Nat) (Q : State → Prop) (D : va_G) (cy : Nat → ClassId) (ad : Nat → Nat → Nat) (A : Nat → Prop) (cc : ByteArray) (nL : Nat)
def Gd (pc : Nat) (L : LL) (S : List AV) (σ : Mem) : Prop := ∀ H locs ls, Ok xx D cy ad A s.heap H locs σ → rel ad L nL ls → okL xx L → okS xx S → W p l e R s m args below meth c H locs cells slots Q (F0 m pc ls (S.map (vV ad)))
/-- a call, as an instruction's rule -/
def CR (ins : Instr) (n : Nat) (pre : List AV → Prop) (T : Tr) : Prop := ∀ pc H locs ls σ (as rest : List AV) (K' : Option Int → Mem → Prop), decode cc pc = .ok (ins, 3) → Ok xx D cy ad A s.heap H locs σ → ls.size = nL → as.length = n → okS xx as → pre as → T as σ K' → rest.length ≤ 4 →
  (∀ r σ' H' locs', Ok xx D cy ad A s.heap H' locs' σ' → (∀ x, r = some x → inR x) → K' r σ' → W p l e R s m args below meth c H' locs' cells slots Q (F0 m (pc + 3) ls (rV r ++ rest.map (vV ad)))) →
  W p l e R s m args below meth c H locs cells slots Q (F0 m pc ls ((as.reverse ++ rest).map (vV ad)))
def Cx (own : String) (M : MI) (K : Option Int → Mem → Prop) : Prop :=
  (p.tables.exec = Jvm.exec ∧ c.code = cc ∧ s.vm.findClass own = some m.cls ∧ (∀ w ∈ lw_g, w.before args s = true) ∧ va_K D classes (tysL cy) s ∧ (∀ σ, va_D A (pool xx cy ad σ))) ∧
  (∀ k t j z, M.1 k = some (t, j, z) → ∃ q, classes[t]? = some q ∧ z = (j : Int) ∧ j < q.2.2 ∧ (Cond.fieldLink own k (q.2.1 j).1 (q.2.1 j).2.1 (q.2.1 j).2.2.1).before args s = true) ∧
  (∀ k x, M.2.1 k = some x → inR x ∧ (Cond.constant own k (Int32.ofInt x)).before args s = true) ∧
  (∀ k x, M.2.2.1 k = some x → (Cond.constantLong own k x).before args s = true) ∧
  (∀ k n ci T, M.2.2.2.1 k = some (n, ci, T) → (ci < 8 → CR xx p l e R s m args below meth c cells slots Q D cy ad A cc nL (.invokevirtual k) n (rcv ci) T) ∧ (ci = 99 → CR xx p l e R s m args below meth c cells slots Q D cy ad A cc nL (.invokestatic k) n (fun _ => True) T)) ∧
  (M.2.2.2.2.1 = true → va_X (ad 56 0) M.2.2.2.2.2.1 (fun j => Int32.ofInt (M.2.2.2.2.2.2 (j : Int))) s s.heap ∧ ad 56 0 < s.heap.size ∧ ¬ A (ad 56 0) ∧ M.2.2.2.2.2.1 < 2 ^ 31 ∧ ∀ j, inR (M.2.2.2.2.2.2 j)) ∧
  (∀ x pc H locs ls σ, decode cc pc = .ok (.ireturn, 1) → Ok xx D cy ad A s.heap H locs σ → inR x → K (some x) σ → W p l e R s m args below meth c H locs cells slots Q (F0 m pc ls [.int (Int32.ofInt x)])) ∧
  (∀ pc H locs ls σ, decode cc pc = .ok (.return_, 1) → Ok xx D cy ad A s.heap H locs σ → K none σ → W p l e R s m args below meth c H locs cells slots Q (F0 m pc ls []))
end
theorem okS_cons {xx : Bool} {v : AV} {S : List AV} (h : okS xx (v :: S)) : okV xx v ∧ okS xx S := ⟨h v List.mem_cons_self, fun w hw => h w (List.mem_cons_of_mem _ hw)⟩
theorem okS_push {xx : Bool} {v : AV} {S : List AV} (h : okV xx v) (h2 : okS xx S) : okS xx (v :: S) := fun w hw => (List.mem_cons.mp hw).elim (fun e => e ▸ h) (h2 w)
theorem rel_at {ad : Nat → Nat → Nat} {L : LL} {nL : Nat} {ls : Array Slot} (h : rel ad L nL ls) {i : Nat} {v : AV} (hv : lget L i = some v) : ls[i]? = some (.val (vV ad v)) := h.2.2.2 i v hv
theorem cat1 {ad : Nat → Nat → Nat} {v : AV} (h : ∀ x, v ≠ .inr (.inr x)) : (vV ad v).category = 1 := by
  rcases v with x | c | x
  · rfl
  · rfl
  · exact absurd rfl (h x)
theorem cat2 {ad : Nat → Nat → Nat} {v : AV} (h : (vV ad v).category = 2) : ∃ x, v = .inr (.inr x) := by
  rcases v with x | c | x
  · cases h
  · cases h
  · exact ⟨x, rfl⟩
def lp (ad : Nat → Nat → Nat) (L : LL) : List (Nat × Value) := (List.range L.length).filterMap (fun i => (lget L i).map (fun v => (i, vV ad v)))
theorem lp_mem {ad : Nat → Nat → Nat} {L : LL} {i : Nat} {v : AV} (h : lget L i = some v) : (i, vV ad v) ∈ lp ad L := List.mem_filterMap.mpr ⟨i, List.mem_range.mpr (lget_lt h), by rw [h]; rfl⟩
theorem rel_has {ad : Nat → Nat → Nat} {L : LL} {nL : Nat} {ls : Array Slot} (h : rel ad L nL ls) : lv_has ls nL (lp ad L) := by
  refine ⟨h.2.2.1, h.2.1, fun q hq => ?_⟩
  obtain ⟨i, -, hi⟩ := List.mem_filterMap.mp hq
  cases hv : lget L i with
  | none => rw [hv] at hi; cases hi
  | some v =>
    rw [hv] at hi
    cases hi
    exact h.2.2.2 i v hv
/-- behind a store of one place -/
theorem rel_store {ad : Nat → Nat → Nat} {L : LL} {nL i : Nat} {ls' : Array Slot} {v : AV} (h1 : L.length = nL) (hi : i < L.length) (hk : okst L i) (hs : lv_has ls' nL ((i, vV ad v) :: (lp ad L).filter (fun q => !(q.1 == i) && !(q.1 + 1 == i && q.2.category == 2)))) : rel ad (lset L i (some v)) nL ls' := by
  obtain ⟨h3, h2, h4⟩ := hs
  refine ⟨by rw [lset_len]; exact h1, h2, h3, fun k w hw => ?_⟩
  by_cases hki : k = i
  · subst hki
    have := lget_set_same hw hi
    cases this
    exact h4 (k, vV ad v) List.mem_cons_self
  · rw [lget_set_ne hki] at hw
    refine h4 (k, vV ad w) (List.mem_cons_of_mem _ (List.mem_filter.mpr ⟨lp_mem hw, ?_⟩))
    simp only [Bool.and_eq_true, Bool.not_eq_true', beq_eq_false_iff_ne, ne_eq, Bool.and_eq_false_iff]
    refine ⟨hki, ?_⟩
    by_cases hk1 : k + 1 = i
    · right
      intro hc2
      obtain ⟨x, rfl⟩ := cat2 hc2
      subst hk1
      simp [okst, hw] at hk
    · left
      exact hk1
theorem rel_store2 {ad : Nat → Nat → Nat} {L : LL} {nL i : Nat} {ls' : Array Slot} {v : AV} (h1 : L.length = nL) (hi : i + 1 < L.length) (hk : okst L i) (hs : lv_has ls' nL ((i, vV ad v) :: (lp ad L).filter (fun q => !(q.1 == i) && (!(q.1 == i + 1) && !(q.1 + 1 == i && q.2.category == 2))))) : rel ad (lset (lset L i (some v)) (i + 1) none) nL ls' := by
  obtain ⟨h3, h2, h4⟩ := hs
  refine ⟨by rw [lset_len, lset_len]; exact h1, h2, h3, fun k w hw => ?_⟩
  by_cases hk1 : k = i + 1
  · subst hk1
    have := lget_set_same hw (by rw [lset_len]; exact hi)
    cases this
  rw [lget_set_ne hk1] at hw
  by_cases hki : k = i
  · subst hki
    have := lget_set_same hw (by omega)
    cases this
    exact h4 (k, vV ad v) List.mem_cons_self
  · rw [lget_set_ne hki] at hw
    refine h4 (k, vV ad w) (List.mem_cons_of_mem _ (List.mem_filter.mpr ⟨lp_mem hw, ?_⟩))
    simp only [Bool.and_eq_true, Bool.not_eq_true', beq_eq_false_iff_ne, ne_eq, Bool.and_eq_false_iff]
    refine ⟨hki, hk1, ?_⟩
    by_cases hk1 : k + 1 = i
    · right
      intro hc2
      obtain ⟨x, rfl⟩ := cat2 hc2
      subst hk1
      simp [okst, hw] at hk
    · left
      exact hk1
theorem okL_set {xx : Bool} {L : LL} {i : Nat} {v : AV} (h : okL xx L) (hv : okV xx v) (hi : i < L.length) : okL xx (lset L i (some v)) := by
  intro k w hw
  by_cases hki : k = i
  · subst hki
    have := lget_set_same hw hi
    cases this
    exact hv
  · rw [lget_set_ne hki] at hw
    exact h k w hw
theorem okL_set2 {xx : Bool} {L : LL} {i : Nat} {v : AV} (h : okL xx L) (hv : okV xx v) (hi : i + 1 < L.length) : okL xx (lset (lset L i (some v)) (i + 1) none) := by
  intro k w hw
  by_cases hki : k = i + 1
  · subst hki
    have := lget_set_same hw (by rw [lset_len]; exact hi)
    cases this
  · rw [lget_set_ne hki] at hw
    exact okL_set h hv (by omega) k w hw
